theorem dX10_treasury_5 : decode cX10_treasury 5 = .ok (.getfield 26, 3) := by decide +kernel
theorem dX10_treasury_8 : decode cX10_treasury 8 = .ok (.iload_n 1, 1) := by decide +kernel
theorem dX10_treasury_9 : decode cX10_treasury 9 = .ok (.invokevirtual 132, 3) := by decide +kernel
theorem dX10_treasury_12 : decode cX10_treasury 12 = .ok (.invokevirtual 196, 3) := by decide +kernel
theorem dX10_treasury_15 : decode cX10_treasury 15 = .ok (.ireturn, 1) := by decide +kernel
theorem dX10_readOut_0 : decode cX10_readOut 0 = .ok (.lload_n 1, 1) := by decide +kernel
theorem dX10_readOut_1 : decode cX10_readOut 1 = .ok (.lconst 1, 1) := by decide +kernel
theorem dX10_readOut_2 : decode cX10_readOut 2 = .ok (.lcmp, 1) := by decide +kernel
theorem dX10_readOut_3 : decode cX10_readOut 3 = .ok (.ifCond .lt 11, 3) := by decide +kernel
theorem dX10_readOut_6 : decode cX10_readOut 6 = .ok (.lload_n 1, 1) := by decide +kernel
theorem dX10_readOut_7 : decode cX10_readOut 7 = .ok (.ldc2_w 199, 3) := by decide +kernel
theorem dX10_readOut_10 : decode cX10_readOut 10 = .ok (.lcmp, 1) := by decide +kernel
theorem dX10_readOut_11 : decode cX10_readOut 11 = .ok (.ifCond .le 13, 3) := by decide +kernel
theorem dX10_readOut_14 : decode cX10_readOut 14 = .ok (.new 90, 3) := by decide +kernel
theorem dX10_readOut_17 : decode cX10_readOut 17 = .ok (.dup, 1) := by decide +kernel
theorem dX10_readOut_18 : decode cX10_readOut 18 = .ok (.ldc 201, 2) := by decide +kernel
theorem dX10_readOut_20 : decode cX10_readOut 20 = .ok (.invokespecial 94, 3) := by decide +kernel
theorem dX10_readOut_23 : decode cX10_readOut 23 = .ok (.athrow, 1) := by decide +kernel
theorem dX10_readOut_24 : decode cX10_readOut 24 = .ok (.lconst 1, 1) := by decide +kernel
theorem dX10_readOut_25 : decode cX10_readOut 25 = .ok (.lload_n 1, 1) := by decide +kernel
theorem dX10_readOut_26 : decode cX10_readOut 26 = .ok (.lrem, 1) := by decide +kernel
theorem dX10_readOut_27 : decode cX10_readOut 27 = .ok (.lstore_n 3, 1) := by decide +kernel
theorem dX10_readOut_28 : decode cX10_readOut 28 = .ok (.iconst 0, 1) := by decide +kernel
theorem dX10_readOut_29 : decode cX10_readOut 29 = .ok (.istore 5, 2) := by decide +kernel
theorem dX10_readOut_31 : decode cX10_readOut 31 = .ok (.iload 5, 2) := by decide +kernel
theorem dX10_readOut_33 : decode cX10_readOut 33 = .ok (.aload_n 0, 1) := by decide +kernel
theorem dX10_readOut_34 : decode cX10_readOut 34 = .ok (.getfield 26, 3) := by decide +kernel
theorem dX10_readOut_37 : decode cX10_readOut 37 = .ok (.getfield 117, 3) := by decide +kernel
theorem dX10_readOut_40 : decode cX10_readOut 40 = .ok (.if_icmp .ge 37, 3) := by decide +kernel
theorem dX10_readOut_43 : decode cX10_readOut 43 = .ok (.lload_n 3, 1) := by decide +kernel
theorem dX10_readOut_44 : decode cX10_readOut 44 = .ok (.aload_n 0, 1) := by decide +kernel
theorem dX10_readOut_45 : decode cX10_readOut 45 = .ok (.getfield 26, 3) := by decide +kernel
theorem dX10_readOut_48 : decode cX10_readOut 48 = .ok (.iload 5, 2) := by decide +kernel
theorem dX10_readOut_50 : decode cX10_readOut 50 = .ok (.invokevirtual 125, 3) := by decide +kernel
theorem dX10_readOut_53 : decode cX10_readOut 53 = .ok (.i2l, 1) := by decide +kernel
theorem dX10_readOut_54 : decode cX10_readOut 54 = .ok (.aload_n 0, 1) := by decide +kernel
theorem dX10_readOut_55 : decode cX10_readOut 55 = .ok (.getfield 26, 3) := by decide +kernel
theorem dX10_readOut_58 : decode cX10_readOut 58 = .ok (.iload 5, 2) := by decide +kernel
theorem dX10_readOut_60 : decode cX10_readOut 60 = .ok (.invokevirtual 196, 3) := by decide +kernel
theorem dX10_readOut_63 : decode cX10_readOut 63 = .ok (.lload_n 1, 1) := by decide +kernel
theorem dX10_readOut_64 : decode cX10_readOut 64 = .ok (.invokestatic 203, 3) := by decide +kernel
theorem dX10_readOut_67 : decode cX10_readOut 67 = .ok (.lmul, 1) := by decide +kernel
theorem dX10_readOut_68 : decode cX10_readOut 68 = .ok (.lload_n 1, 1) := by decide +kernel
theorem dX10_readOut_69 : decode cX10_readOut 69 = .ok (.lrem, 1) := by decide +kernel
theorem dX10_readOut_70 : decode cX10_readOut 70 = .ok (.lstore_n 3, 1) := by decide +kernel
theorem dX10_readOut_71 : decode cX10_readOut 71 = .ok (.iinc 5 1, 3) := by decide +kernel
theorem dX10_readOut_74 : decode cX10_readOut 74 = .ok (.goto (-43), 3) := by decide +kernel
theorem dX10_readOut_77 : decode cX10_readOut 77 = .ok (.lload_n 3, 1) := by decide +kernel
theorem dX10_readOut_78 : decode cX10_readOut 78 = .ok (.lreturn, 1) := by decide +kernel
theorem dX10_year_0 : decode cX10_year 0 = .ok (.iload_n 2, 1) := by decide +kernel
theorem dX10_year_1 : decode cX10_year 1 = .ok (.iconst 1, 1) := by decide +kernel
theorem dX10_year_2 : decode cX10_year 2 = .ok (.if_icmp .lt 9, 3) := by decide +kernel
theorem dX10_year_5 : decode cX10_year 5 = .ok (.iload_n 2, 1) := by decide +kernel
theorem dX10_year_6 : decode cX10_year 6 = .ok (.bipush 60, 2) := by decide +kernel
theorem dX10_year_8 : decode cX10_year 8 = .ok (.if_icmp .le 13, 3) := by decide +kernel
theorem dX10_year_11 : decode cX10_year 11 = .ok (.new 90, 3) := by decide +kernel
theorem dX10_year_14 : decode cX10_year 14 = .ok (.dup, 1) := by decide +kernel
theorem dX10_year_15 : decode cX10_year 15 = .ok (.ldc 209, 2) := by decide +kernel
theorem dX10_year_17 : decode cX10_year 17 = .ok (.invokespecial 94, 3) := by decide +kernel
theorem dX10_year_20 : decode cX10_year 20 = .ok (.athrow, 1) := by decide +kernel
theorem dX10_year_21 : decode cX10_year 21 = .ok (.aload_n 0, 1) := by decide +kernel
theorem dX10_year_22 : decode cX10_year 22 = .ok (.getfield 26, 3) := by decide +kernel
theorem dX10_year_25 : decode cX10_year 25 = .ok (.getfield 211, 3) := by decide +kernel
theorem dX10_year_28 : decode cX10_year 28 = .ok (.ifCond .ne 13, 3) := by decide +kernel
theorem dX10_year_31 : decode cX10_year 31 = .ok (.new 187, 3) := by decide +kernel
theorem dX10_year_34 : decode cX10_year 34 = .ok (.dup, 1) := by decide +kernel
theorem dX10_year_35 : decode cX10_year 35 = .ok (.ldc 214, 2) := by decide +kernel
theorem dX10_year_37 : decode cX10_year 37 = .ok (.invokespecial 191, 3) := by decide +kernel
theorem dX10_year_40 : decode cX10_year 40 = .ok (.athrow, 1) := by decide +kernel
theorem dX10_year_41 : decode cX10_year 41 = .ok (.aload_n 0, 1) := by decide +kernel
theorem dX10_year_42 : decode cX10_year 42 = .ok (.getfield 81, 3) := by decide +kernel
theorem dX10_year_45 : decode cX10_year 45 = .ok (.iload_n 1, 1) := by decide +kernel
theorem dX10_year_46 : decode cX10_year 46 = .ok (.putfield 216, 3) := by decide +kernel
theorem dX10_year_49 : decode cX10_year 49 = .ok (.iconst 0, 1) := by decide +kernel
theorem dX10_year_50 : decode cX10_year 50 = .ok (.istore_n 3, 1) := by decide +kernel
theorem dX10_year_51 : decode cX10_year 51 = .ok (.iconst 0, 1) := by decide +kernel
theorem dX10_year_52 : decode cX10_year 52 = .ok (.istore 4, 2) := by decide +kernel
theorem dX10_year_54 : decode cX10_year 54 = .ok (.iload 4, 2) := by decide +kernel
theorem dX10_year_56 : decode cX10_year 56 = .ok (.iload_n 2, 1) := by decide +kernel
theorem dX10_year_57 : decode cX10_year 57 = .ok (.if_icmp .ge 16, 3) := by decide +kernel
theorem dX10_year_60 : decode cX10_year 60 = .ok (.iload_n 3, 1) := by decide +kernel
theorem dX10_year_61 : decode cX10_year 61 = .ok (.aload_n 0, 1) := by decide +kernel
theorem dX10_year_62 : decode cX10_year 62 = .ok (.invokevirtual 219, 3) := by decide +kernel
theorem dX10_year_65 : decode cX10_year 65 = .ok (.iadd, 1) := by decide +kernel
theorem dX10_year_66 : decode cX10_year 66 = .ok (.istore_n 3, 1) := by decide +kernel
theorem dX10_year_67 : decode cX10_year 67 = .ok (.iinc 4 1, 3) := by decide +kernel
theorem dX10_year_70 : decode cX10_year 70 = .ok (.goto (-16), 3) := by decide +kernel
theorem dX10_year_73 : decode cX10_year 73 = .ok (.iload_n 3, 1) := by decide +kernel
theorem dX10_year_74 : decode cX10_year 74 = .ok (.ireturn, 1) := by decide +kernel
theorem dX10_judge_0 : decode cX10_judge 0 = .ok (.aload_n 0, 1) := by decide +kernel
theorem dX10_judge_1 : decode cX10_judge 1 = .ok (.iload_n 1, 1) := by decide +kernel
theorem dX10_judge_2 : decode cX10_judge 2 = .ok (.invokevirtual 223, 3) := by decide +kernel
theorem dX10_judge_5 : decode cX10_judge 5 = .ok (.astore_n 3, 1) := by decide +kernel
theorem dX10_judge_6 : decode cX10_judge 6 = .ok (.aload_n 0, 1) := by decide +kernel
theorem dX10_judge_7 : decode cX10_judge 7 = .ok (.iload_n 2, 1) := by decide +kernel
theorem dX10_judge_8 : decode cX10_judge 8 = .ok (.iconst 2, 1) := by decide +kernel
theorem dX10_judge_9 : decode cX10_judge 9 = .ok (.invokevirtual 139, 3) := by decide +kernel
theorem dX10_judge_12 : decode cX10_judge 12 = .ok (.aload_n 0, 1) := by decide +kernel
theorem dX10_judge_13 : decode cX10_judge 13 = .ok (.getfield 30, 3) := by decide +kernel
theorem dX10_judge_16 : decode cX10_judge 16 = .ok (.aload_n 0, 1) := by decide +kernel
theorem dX10_judge_17 : decode cX10_judge 17 = .ok (.getfield 26, 3) := by decide +kernel
theorem dX10_judge_20 : decode cX10_judge 20 = .ok (.invokevirtual 110, 3) := by decide +kernel
theorem dX10_judge_23 : decode cX10_judge 23 = .ok (.aload_n 0, 1) := by decide +kernel
theorem dX10_judge_24 : decode cX10_judge 24 = .ok (.getfield 30, 3) := by decide +kernel
theorem dX10_judge_27 : decode cX10_judge 27 = .ok (.aload_n 3, 1) := by decide +kernel
theorem dX10_judge_28 : decode cX10_judge 28 = .ok (.invokevirtual 227, 3) := by decide +kernel
theorem dX10_judge_31 : decode cX10_judge 31 = .ok (.istore 4, 2) := by decide +kernel
theorem dX10_judge_33 : decode cX10_judge 33 = .ok (.iload_n 2, 1) := by decide +kernel
theorem dX10_judge_34 : decode cX10_judge 34 = .ok (.iconst 2, 1) := by decide +kernel
theorem dX10_judge_35 : decode cX10_judge 35 = .ok (.if_icmp .ne 11, 3) := by decide +kernel
theorem dX10_judge_38 : decode cX10_judge 38 = .ok (.aload_n 0, 1) := by decide +kernel
theorem dX10_judge_39 : decode cX10_judge 39 = .ok (.getfield 30, 3) := by decide +kernel
theorem dX10_judge_42 : decode cX10_judge 42 = .ok (.invokevirtual 231, 3) := by decide +kernel
theorem dX10_judge_45 : decode cX10_judge 45 = .ok (.ireturn, 1) := by decide +kernel
theorem dX10_judge_46 : decode cX10_judge 46 = .ok (.iload 4, 2) := by decide +kernel
theorem dX10_judge_48 : decode cX10_judge 48 = .ok (.aload_n 3, 1) := by decide +kernel
theorem dX10_judge_49 : decode cX10_judge 49 = .ok (.getfield 234, 3) := by decide +kernel
theorem dX10_judge_52 : decode cX10_judge 52 = .ok (.if_icmp .ne 13, 3) := by decide +kernel
theorem dX10_judge_55 : decode cX10_judge 55 = .ok (.iload_n 2, 1) := by decide +kernel
theorem dX10_judge_56 : decode cX10_judge 56 = .ok (.ifCond .ne 7, 3) := by decide +kernel
theorem dX10_judge_59 : decode cX10_judge 59 = .ok (.iconst (-1), 1) := by decide +kernel
theorem dX10_judge_60 : decode cX10_judge 60 = .ok (.goto 4, 3) := by decide +kernel
theorem dX10_judge_63 : decode cX10_judge 63 = .ok (.iconst 0, 1) := by decide +kernel
theorem dX10_judge_64 : decode cX10_judge 64 = .ok (.ireturn, 1) := by decide +kernel
theorem dX10_judge_65 : decode cX10_judge 65 = .ok (.iload_n 2, 1) := by decide +kernel
theorem dX10_judge_66 : decode cX10_judge 66 = .ok (.ifCond .ne 8, 3) := by decide +kernel
theorem dX10_judge_69 : decode cX10_judge 69 = .ok (.iload 4, 2) := by decide +kernel
theorem dX10_judge_71 : decode cX10_judge 71 = .ok (.goto 16, 3) := by decide +kernel
theorem dX10_judge_74 : decode cX10_judge 74 = .ok (.aload_n 0, 1) := by decide +kernel
theorem dX10_judge_75 : decode cX10_judge 75 = .ok (.getfield 30, 3) := by decide +kernel
theorem dX10_judge_78 : decode cX10_judge 78 = .ok (.aload_n 3, 1) := by decide +kernel
theorem dX10_judge_79 : decode cX10_judge 79 = .ok (.iload 4, 2) := by decide +kernel
theorem dX10_judge_81 : decode cX10_judge 81 = .ok (.invokevirtual 236, 3) := by decide +kernel
theorem dX10_judge_84 : decode cX10_judge 84 = .ok (.invokevirtual 239, 3) := by decide +kernel
theorem dX10_judge_87 : decode cX10_judge 87 = .ok (.ireturn, 1) := by decide +kernel
theorem dX10_perform_0 : decode cX10_perform 0 = .ok (.aload_n 0, 1) := by decide +kernel
theorem dX10_perform_1 : decode cX10_perform 1 = .ok (.getfield 26, 3) := by decide +kernel
theorem dX10_perform_4 : decode cX10_perform 4 = .ok (.aload_n 0, 1) := by decide +kernel
theorem dX10_perform_5 : decode cX10_perform 5 = .ok (.iload_n 1, 1) := by decide +kernel
theorem dX10_perform_6 : decode cX10_perform 6 = .ok (.invokevirtual 223, 3) := by decide +kernel
theorem dX10_perform_9 : decode cX10_perform 9 = .ok (.invokevirtual 227, 3) := by decide +kernel
theorem dX10_perform_12 : decode cX10_perform 12 = .ok (.ireturn, 1) := by decide +kernel
theorem dX10_prices_0 : decode cX10_prices 0 = .ok (.aload_n 0, 1) := by decide +kernel
theorem dX10_prices_1 : decode cX10_prices 1 = .ok (.iload_n 1, 1) := by decide +kernel
theorem dX10_prices_2 : decode cX10_prices 2 = .ok (.invokevirtual 129, 3) := by decide +kernel
theorem dX10_prices_5 : decode cX10_prices 5 = .ok (.aload_n 0, 1) := by decide +kernel
theorem dX10_prices_6 : decode cX10_prices 6 = .ok (.getfield 26, 3) := by decide +kernel
theorem dX10_prices_9 : decode cX10_prices 9 = .ok (.iload_n 1, 1) := by decide +kernel
theorem dX10_prices_10 : decode cX10_prices 10 = .ok (.bipush 97, 2) := by decide +kernel
theorem dX10_prices_12 : decode cX10_prices 12 = .ok (.invokevirtual 243, 3) := by decide +kernel
theorem dX10_prices_15 : decode cX10_prices 15 = .ok (.ireturn, 1) := by decide +kernel
theorem dX10_price_0 : decode cX10_price 0 = .ok (.aload_n 0, 1) := by decide +kernel
theorem dX10_price_1 : decode cX10_price 1 = .ok (.iload_n 1, 1) := by decide +kernel
theorem dX10_price_2 : decode cX10_price 2 = .ok (.invokevirtual 129, 3) := by decide +kernel
theorem dX10_price_5 : decode cX10_price 5 = .ok (.aload_n 0, 1) := by decide +kernel
theorem dX10_price_6 : decode cX10_price 6 = .ok (.getfield 60, 3) := by decide +kernel
theorem dX10_price_9 : decode cX10_price 9 = .ok (.aload_n 0, 1) := by decide +kernel
theorem dX10_price_10 : decode cX10_price 10 = .ok (.getfield 26, 3) := by decide +kernel
theorem dX10_price_13 : decode cX10_price 13 = .ok (.iload_n 1, 1) := by decide +kernel
theorem dX10_price_14 : decode cX10_price 14 = .ok (.invokevirtual 246, 3) := by decide +kernel
theorem dX10_price_17 : decode cX10_price 17 = .ok (.iload_n 2, 1) := by decide +kernel
theorem dX10_price_18 : decode cX10_price 18 = .ok (.ifCond .lt 14, 3) := by decide +kernel
theorem dX10_price_21 : decode cX10_price 21 = .ok (.iload_n 2, 1) := by decide +kernel
theorem dX10_price_22 : decode cX10_price 22 = .ok (.aload_n 0, 1) := by decide +kernel
theorem dX10_price_23 : decode cX10_price 23 = .ok (.getfield 60, 3) := by decide +kernel
theorem dX10_price_26 : decode cX10_price 26 = .ok (.getfield 250, 3) := by decide +kernel
theorem dX10_price_29 : decode cX10_price 29 = .ok (.if_icmp .lt 9, 3) := by decide +kernel
theorem dX10_price_32 : decode cX10_price 32 = .ok (.ldc2_w 251, 3) := by decide +kernel
theorem dX10_price_35 : decode cX10_price 35 = .ok (.goto 11, 3) := by decide +kernel
theorem dX10_price_38 : decode cX10_price 38 = .ok (.aload_n 0, 1) := by decide +kernel
theorem dX10_price_39 : decode cX10_price 39 = .ok (.getfield 60, 3) := by decide +kernel
theorem dX10_price_42 : decode cX10_price 42 = .ok (.iload_n 2, 1) := by decide +kernel
theorem dX10_price_43 : decode cX10_price 43 = .ok (.invokevirtual 253, 3) := by decide +kernel
theorem dX10_price_46 : decode cX10_price 46 = .ok (.lreturn, 1) := by decide +kernel
theorem dX10_gap_0 : decode cX10_gap 0 = .ok (.aload_n 0, 1) := by decide +kernel
theorem dX10_gap_1 : decode cX10_gap 1 = .ok (.iload_n 1, 1) := by decide +kernel
theorem dX10_gap_2 : decode cX10_gap 2 = .ok (.invokevirtual 129, 3) := by decide +kernel
theorem dX10_gap_5 : decode cX10_gap 5 = .ok (.aload_n 0, 1) := by decide +kernel
theorem dX10_gap_6 : decode cX10_gap 6 = .ok (.getfield 60, 3) := by decide +kernel
theorem dX10_gap_9 : decode cX10_gap 9 = .ok (.aload_n 0, 1) := by decide +kernel
theorem dX10_gap_10 : decode cX10_gap 10 = .ok (.getfield 26, 3) := by decide +kernel
theorem dX10_gap_13 : decode cX10_gap 13 = .ok (.iload_n 1, 1) := by decide +kernel
theorem dX10_gap_14 : decode cX10_gap 14 = .ok (.invokevirtual 246, 3) := by decide +kernel
theorem dX10_gap_17 : decode cX10_gap 17 = .ok (.aload_n 0, 1) := by decide +kernel
theorem dX10_gap_18 : decode cX10_gap 18 = .ok (.getfield 60, 3) := by decide +kernel
theorem dX10_gap_21 : decode cX10_gap 21 = .ok (.invokevirtual 254, 3) := by decide +kernel
theorem dX10_gap_24 : decode cX10_gap 24 = .ok (.lreturn, 1) := by decide +kernel
theorem dX10_nearest_0 : decode cX10_nearest 0 = .ok (.aload_n 0, 1) := by decide +kernel
theorem dX10_nearest_1 : decode cX10_nearest 1 = .ok (.iload_n 1, 1) := by decide +kernel
theorem dX10_nearest_2 : decode cX10_nearest 2 = .ok (.invokevirtual 129, 3) := by decide +kernel
theorem dX10_nearest_5 : decode cX10_nearest 5 = .ok (.aload_n 0, 1) := by decide +kernel
theorem dX10_nearest_6 : decode cX10_nearest 6 = .ok (.getfield 60, 3) := by decide +kernel
theorem dX10_nearest_9 : decode cX10_nearest 9 = .ok (.aload_n 0, 1) := by decide +kernel
theorem dX10_nearest_10 : decode cX10_nearest 10 = .ok (.getfield 26, 3) := by decide +kernel
theorem dX10_nearest_13 : decode cX10_nearest 13 = .ok (.iload_n 1, 1) := by decide +kernel
theorem dX10_nearest_14 : decode cX10_nearest 14 = .ok (.invokevirtual 246, 3) := by decide +kernel
theorem dX10_nearest_17 : decode cX10_nearest 17 = .ok (.aload_n 0, 1) := by decide +kernel
theorem dX10_nearest_18 : decode cX10_nearest 18 = .ok (.getfield 60, 3) := by decide +kernel
theorem dX10_nearest_21 : decode cX10_nearest 21 = .ok (.lload_n 2, 1) := by decide +kernel
theorem dX10_nearest_22 : decode cX10_nearest 22 = .ok (.invokevirtual 258, 3) := by decide +kernel
theorem dX10_nearest_25 : decode cX10_nearest 25 = .ok (.lreturn, 1) := by decide +kernel
theorem dX10_half_0 : decode cX10_half 0 = .ok (.aload_n 0, 1) := by decide +kernel
theorem dX10_half_1 : decode cX10_half 1 = .ok (.iload_n 1, 1) := by decide +kernel
theorem dX10_half_2 : decode cX10_half 2 = .ok (.invokevirtual 129, 3) := by decide +kernel
theorem dX10_half_5 : decode cX10_half 5 = .ok (.aload_n 0, 1) := by decide +kernel
theorem dX10_half_6 : decode cX10_half 6 = .ok (.getfield 60, 3) := by decide +kernel
theorem dX10_half_9 : decode cX10_half 9 = .ok (.aload_n 0, 1) := by decide +kernel
theorem dX10_half_10 : decode cX10_half 10 = .ok (.getfield 26, 3) := by decide +kernel
theorem dX10_half_13 : decode cX10_half 13 = .ok (.iload_n 1, 1) := by decide +kernel
theorem dX10_half_14 : decode cX10_half 14 = .ok (.invokevirtual 246, 3) := by decide +kernel
theorem dX10_half_17 : decode cX10_half 17 = .ok (.aload_n 0, 1) := by decide +kernel
theorem dX10_half_18 : decode cX10_half 18 = .ok (.getfield 60, 3) := by decide +kernel
theorem dX10_half_21 : decode cX10_half 21 = .ok (.aload_n 0, 1) := by decide +kernel
theorem dX10_half_22 : decode cX10_half 22 = .ok (.getfield 26, 3) := by decide +kernel
theorem dX10_half_25 : decode cX10_half 25 = .ok (.iload_n 1, 1) := by decide +kernel
theorem dX10_half_26 : decode cX10_half 26 = .ok (.invokevirtual 155, 3) := by decide +kernel
theorem dX10_half_29 : decode cX10_half 29 = .ok (.invokevirtual 262, 3) := by decide +kernel
theorem dX10_half_32 : decode cX10_half 32 = .ok (.lreturn, 1) := by decide +kernel
theorem dX10_fewest_0 : decode cX10_fewest 0 = .ok (.aload_n 0, 1) := by decide +kernel
theorem dX10_fewest_1 : decode cX10_fewest 1 = .ok (.iload_n 1, 1) := by decide +kernel
theorem dX10_fewest_2 : decode cX10_fewest 2 = .ok (.invokevirtual 129, 3) := by decide +kernel
theorem dX10_fewest_5 : decode cX10_fewest 5 = .ok (.aload_n 0, 1) := by decide +kernel
theorem dX10_fewest_6 : decode cX10_fewest 6 = .ok (.lload_n 2, 1) := by decide +kernel
theorem dX10_fewest_7 : decode cX10_fewest 7 = .ok (.invokevirtual 265, 3) := by decide +kernel
theorem dX10_fewest_10 : decode cX10_fewest 10 = .ok (.aload_n 0, 1) := by decide +kernel
theorem dX10_fewest_11 : decode cX10_fewest 11 = .ok (.getfield 67, 3) := by decide +kernel
theorem dX10_fewest_14 : decode cX10_fewest 14 = .ok (.aload_n 0, 1) := by decide +kernel
theorem dX10_fewest_15 : decode cX10_fewest 15 = .ok (.getfield 26, 3) := by decide +kernel
theorem dX10_fewest_18 : decode cX10_fewest 18 = .ok (.iload_n 1, 1) := by decide +kernel
theorem dX10_fewest_19 : decode cX10_fewest 19 = .ok (.invokevirtual 269, 3) := by decide +kernel
theorem dX10_fewest_22 : decode cX10_fewest 22 = .ok (.iconst 0, 1) := by decide +kernel
theorem dX10_fewest_23 : decode cX10_fewest 23 = .ok (.istore 4, 2) := by decide +kernel
theorem dX10_fewest_25 : decode cX10_fewest 25 = .ok (.iload 4, 2) := by decide +kernel
theorem dX10_fewest_27 : decode cX10_fewest 27 = .ok (.sipush 3000, 3) := by decide +kernel
theorem dX10_fewest_30 : decode cX10_fewest 30 = .ok (.if_icmp .gt 62, 3) := by decide +kernel
theorem dX10_fewest_33 : decode cX10_fewest 33 = .ok (.aload_n 0, 1) := by decide +kernel
theorem dX10_fewest_34 : decode cX10_fewest 34 = .ok (.getfield 67, 3) := by decide +kernel
theorem dX10_fewest_37 : decode cX10_fewest 37 = .ok (.aload_n 0, 1) := by decide +kernel
theorem dX10_fewest_38 : decode cX10_fewest 38 = .ok (.getfield 47, 3) := by decide +kernel
theorem dX10_fewest_41 : decode cX10_fewest 41 = .ok (.invokevirtual 272, 3) := by decide +kernel
theorem dX10_fewest_44 : decode cX10_fewest 44 = .ok (.ifCond .eq 6, 3) := by decide +kernel
theorem dX10_fewest_47 : decode cX10_fewest 47 = .ok (.iload 4, 2) := by decide +kernel
theorem dX10_fewest_49 : decode cX10_fewest 49 = .ok (.ireturn, 1) := by decide +kernel
theorem dX10_fewest_50 : decode cX10_fewest 50 = .ok (.aload_n 0, 1) := by decide +kernel
theorem dX10_fewest_51 : decode cX10_fewest 51 = .ok (.getfield 67, 3) := by decide +kernel
theorem dX10_fewest_54 : decode cX10_fewest 54 = .ok (.getfield 276, 3) := by decide +kernel
theorem dX10_fewest_57 : decode cX10_fewest 57 = .ok (.sipush 3000, 3) := by decide +kernel
theorem dX10_fewest_60 : decode cX10_fewest 60 = .ok (.if_icmp .le 7, 3) := by decide +kernel
theorem dX10_fewest_63 : decode cX10_fewest 63 = .ok (.sipush (-1000), 3) := by decide +kernel
theorem dX10_fewest_66 : decode cX10_fewest 66 = .ok (.ireturn, 1) := by decide +kernel
theorem dX10_fewest_67 : decode cX10_fewest 67 = .ok (.aload_n 0, 1) := by decide +kernel
theorem dX10_fewest_68 : decode cX10_fewest 68 = .ok (.getfield 67, 3) := by decide +kernel
theorem dX10_fewest_71 : decode cX10_fewest 71 = .ok (.invokevirtual 279, 3) := by decide +kernel
theorem dX10_fewest_74 : decode cX10_fewest 74 = .ok (.ifCond .ne 5, 3) := by decide +kernel
theorem dX10_fewest_77 : decode cX10_fewest 77 = .ok (.iconst (-1), 1) := by decide +kernel
theorem dX10_fewest_78 : decode cX10_fewest 78 = .ok (.ireturn, 1) := by decide +kernel
theorem dX10_fewest_79 : decode cX10_fewest 79 = .ok (.aload_n 0, 1) := by decide +kernel
theorem dX10_fewest_80 : decode cX10_fewest 80 = .ok (.getfield 67, 3) := by decide +kernel
theorem dX10_fewest_83 : decode cX10_fewest 83 = .ok (.invokevirtual 283, 3) := by decide +kernel
theorem dX10_fewest_86 : decode cX10_fewest 86 = .ok (.iinc 4 1, 3) := by decide +kernel
theorem dX10_fewest_89 : decode cX10_fewest 89 = .ok (.goto (-64), 3) := by decide +kernel
theorem dX10_fewest_92 : decode cX10_fewest 92 = .ok (.iconst (-1), 1) := by decide +kernel
theorem dX10_fewest_93 : decode cX10_fewest 93 = .ok (.ireturn, 1) := by decide +kernel
theorem dX10_together_0 : decode cX10_together 0 = .ok (.aload_n 0, 1) := by decide +kernel
theorem dX10_together_1 : decode cX10_together 1 = .ok (.iload_n 1, 1) := by decide +kernel
theorem dX10_together_2 : decode cX10_together 2 = .ok (.invokevirtual 286, 3) := by decide +kernel
theorem dX10_together_5 : decode cX10_together 5 = .ok (.aload_n 0, 1) := by decide +kernel
theorem dX10_together_6 : decode cX10_together 6 = .ok (.lload_n 2, 1) := by decide +kernel
theorem dX10_together_7 : decode cX10_together 7 = .ok (.invokevirtual 265, 3) := by decide +kernel
theorem dX10_together_10 : decode cX10_together 10 = .ok (.aload_n 0, 1) := by decide +kernel
theorem dX10_together_11 : decode cX10_together 11 = .ok (.iload 4, 2) := by decide +kernel
theorem dX10_together_13 : decode cX10_together 13 = .ok (.iconst 1, 1) := by decide +kernel
theorem dX10_together_14 : decode cX10_together 14 = .ok (.invokevirtual 139, 3) := by decide +kernel
theorem dX10_together_17 : decode cX10_together 17 = .ok (.iconst (-1), 1) := by decide +kernel
theorem dX10_together_18 : decode cX10_together 18 = .ok (.istore 5, 2) := by decide +kernel
theorem dX10_together_20 : decode cX10_together 20 = .ok (.iconst 0, 1) := by decide +kernel
theorem dX10_together_21 : decode cX10_together 21 = .ok (.istore 6, 2) := by decide +kernel
theorem dX10_together_23 : decode cX10_together 23 = .ok (.iload 6, 2) := by decide +kernel
theorem dX10_together_25 : decode cX10_together 25 = .ok (.iload_n 1, 1) := by decide +kernel
theorem dX10_together_26 : decode cX10_together 26 = .ok (.if_icmp .gt 69, 3) := by decide +kernel
theorem dX10_together_29 : decode cX10_together 29 = .ok (.iload 5, 2) := by decide +kernel
theorem dX10_together_31 : decode cX10_together 31 = .ok (.iconst (-1), 1) := by decide +kernel
theorem dX10_together_32 : decode cX10_together 32 = .ok (.if_icmp .eq 16, 3) := by decide +kernel
theorem dX10_together_35 : decode cX10_together 35 = .ok (.iload 6, 2) := by decide +kernel
theorem dX10_together_37 : decode cX10_together 37 = .ok (.invokestatic 289, 3) := by decide +kernel
theorem dX10_together_40 : decode cX10_together 40 = .ok (.iload 5, 2) := by decide +kernel
theorem dX10_together_42 : decode cX10_together 42 = .ok (.invokestatic 289, 3) := by decide +kernel
theorem dX10_together_45 : decode cX10_together 45 = .ok (.if_icmp .ge 7, 3) := by decide +kernel
theorem dX10_together_48 : decode cX10_together 48 = .ok (.iconst 1, 1) := by decide +kernel
theorem dX10_together_49 : decode cX10_together 49 = .ok (.goto 4, 3) := by decide +kernel
theorem dX10_together_52 : decode cX10_together 52 = .ok (.iconst 0, 1) := by decide +kernel
theorem dX10_together_53 : decode cX10_together 53 = .ok (.istore 7, 2) := by decide +kernel
theorem dX10_together_55 : decode cX10_together 55 = .ok (.iload 6, 2) := by decide +kernel
theorem dX10_together_57 : decode cX10_together 57 = .ok (.iload_n 1, 1) := by decide +kernel
theorem dX10_together_58 : decode cX10_together 58 = .ok (.iconst (-1), 1) := by decide +kernel
theorem dX10_together_59 : decode cX10_together 59 = .ok (.ixor, 1) := by decide +kernel
theorem dX10_together_60 : decode cX10_together 60 = .ok (.iand, 1) := by decide +kernel
theorem dX10_together_61 : decode cX10_together 61 = .ok (.ifCond .ne 28, 3) := by decide +kernel
theorem dX10_together_64 : decode cX10_together 64 = .ok (.iload 7, 2) := by decide +kernel
theorem dX10_together_66 : decode cX10_together 66 = .ok (.ifCond .eq 23, 3) := by decide +kernel
theorem dX10_together_69 : decode cX10_together 69 = .ok (.aload_n 0, 1) := by decide +kernel
theorem dX10_together_70 : decode cX10_together 70 = .ok (.getfield 26, 3) := by decide +kernel
theorem dX10_together_73 : decode cX10_together 73 = .ok (.iload 6, 2) := by decide +kernel
theorem dX10_together_75 : decode cX10_together 75 = .ok (.aload_n 0, 1) := by decide +kernel
theorem dX10_together_76 : decode cX10_together 76 = .ok (.getfield 47, 3) := by decide +kernel
theorem dX10_together_79 : decode cX10_together 79 = .ok (.invokevirtual 294, 3) := by decide +kernel
theorem dX10_together_82 : decode cX10_together 82 = .ok (.ifCond .eq 7, 3) := by decide +kernel
theorem dX10_together_85 : decode cX10_together 85 = .ok (.iload 6, 2) := by decide +kernel
theorem dX10_together_87 : decode cX10_together 87 = .ok (.istore 5, 2) := by decide +kernel
theorem dX10_together_89 : decode cX10_together 89 = .ok (.iinc 6 1, 3) := by decide +kernel
theorem dX10_together_92 : decode cX10_together 92 = .ok (.goto (-69), 3) := by decide +kernel
theorem dX10_together_95 : decode cX10_together 95 = .ok (.iload 5, 2) := by decide +kernel
theorem dX10_together_97 : decode cX10_together 97 = .ok (.iconst (-1), 1) := by decide +kernel
theorem dX10_together_98 : decode cX10_together 98 = .ok (.if_icmp .eq 9, 3) := by decide +kernel
theorem dX10_together_101 : decode cX10_together 101 = .ok (.iload 4, 2) := by decide +kernel
theorem dX10_together_103 : decode cX10_together 103 = .ok (.iconst 1, 1) := by decide +kernel
theorem dX10_together_104 : decode cX10_together 104 = .ok (.if_icmp .ne 8, 3) := by decide +kernel
theorem dX10_together_107 : decode cX10_together 107 = .ok (.iload 5, 2) := by decide +kernel
theorem dX10_together_109 : decode cX10_together 109 = .ok (.goto 8, 3) := by decide +kernel
theorem dX10_together_112 : decode cX10_together 112 = .ok (.iload 5, 2) := by decide +kernel
theorem dX10_together_114 : decode cX10_together 114 = .ok (.invokestatic 289, 3) := by decide +kernel
theorem dX10_together_117 : decode cX10_together 117 = .ok (.ireturn, 1) := by decide +kernel
theorem dX10_between_0 : decode cX10_between 0 = .ok (.aload_n 0, 1) := by decide +kernel
theorem dX10_between_1 : decode cX10_between 1 = .ok (.iload_n 1, 1) := by decide +kernel
theorem dX10_between_2 : decode cX10_between 2 = .ok (.invokevirtual 129, 3) := by decide +kernel
theorem dX10_between_5 : decode cX10_between 5 = .ok (.aload_n 0, 1) := by decide +kernel
theorem dX10_between_6 : decode cX10_between 6 = .ok (.getfield 60, 3) := by decide +kernel
theorem dX10_between_9 : decode cX10_between 9 = .ok (.aload_n 0, 1) := by decide +kernel
theorem dX10_between_10 : decode cX10_between 10 = .ok (.getfield 26, 3) := by decide +kernel
theorem dX10_between_13 : decode cX10_between 13 = .ok (.iload_n 1, 1) := by decide +kernel
theorem dX10_between_14 : decode cX10_between 14 = .ok (.invokevirtual 246, 3) := by decide +kernel
theorem dX10_between_17 : decode cX10_between 17 = .ok (.aload_n 0, 1) := by decide +kernel
theorem dX10_between_18 : decode cX10_between 18 = .ok (.getfield 60, 3) := by decide +kernel
theorem dX10_between_21 : decode cX10_between 21 = .ok (.lload_n 2, 1) := by decide +kernel
theorem dX10_between_22 : decode cX10_between 22 = .ok (.lload 4, 2) := by decide +kernel
theorem dX10_between_24 : decode cX10_between 24 = .ok (.invokevirtual 298, 3) := by decide +kernel
theorem dX10_between_27 : decode cX10_between 27 = .ok (.ireturn, 1) := by decide +kernel
theorem dX10_dear_0 : decode cX10_dear 0 = .ok (.aload_n 0, 1) := by decide +kernel
theorem dX10_dear_1 : decode cX10_dear 1 = .ok (.iload_n 1, 1) := by decide +kernel
theorem dX10_dear_2 : decode cX10_dear 2 = .ok (.invokevirtual 129, 3) := by decide +kernel
theorem dX10_dear_5 : decode cX10_dear 5 = .ok (.aload_n 0, 1) := by decide +kernel
theorem dX10_dear_6 : decode cX10_dear 6 = .ok (.iload_n 2, 1) := by decide +kernel
theorem dX10_dear_7 : decode cX10_dear 7 = .ok (.invokevirtual 302, 3) := by decide +kernel
theorem dX10_dear_10 : decode cX10_dear 10 = .ok (.aload_n 0, 1) := by decide +kernel
theorem dX10_dear_11 : decode cX10_dear 11 = .ok (.getfield 26, 3) := by decide +kernel
theorem dX10_dear_14 : decode cX10_dear 14 = .ok (.iload_n 1, 1) := by decide +kernel
theorem dX10_dear_15 : decode cX10_dear 15 = .ok (.iload_n 2, 1) := by decide +kernel
theorem dX10_dear_16 : decode cX10_dear 16 = .ok (.invokevirtual 243, 3) := by decide +kernel
theorem dX10_dear_19 : decode cX10_dear 19 = .ok (.ireturn, 1) := by decide +kernel
theorem dX10_gainer_0 : decode cX10_gainer 0 = .ok (.aload_n 0, 1) := by decide +kernel
theorem dX10_gainer_1 : decode cX10_gainer 1 = .ok (.getfield 26, 3) := by decide +kernel
theorem dX10_gainer_4 : decode cX10_gainer 4 = .ok (.getfield 305, 3) := by decide +kernel
theorem dX10_gainer_7 : decode cX10_gainer 7 = .ok (.ifCond .le 7, 3) := by decide +kernel
theorem dX10_gainer_10 : decode cX10_gainer 10 = .ok (.iconst 0, 1) := by decide +kernel
theorem dX10_gainer_11 : decode cX10_gainer 11 = .ok (.goto 4, 3) := by decide +kernel
theorem dX10_gainer_14 : decode cX10_gainer 14 = .ok (.iconst (-1), 1) := by decide +kernel
theorem dX10_gainer_15 : decode cX10_gainer 15 = .ok (.istore_n 1, 1) := by decide +kernel
theorem dX10_gainer_16 : decode cX10_gainer 16 = .ok (.iconst 1, 1) := by decide +kernel
theorem dX10_gainer_17 : decode cX10_gainer 17 = .ok (.istore_n 2, 1) := by decide +kernel
theorem dX10_gainer_18 : decode cX10_gainer 18 = .ok (.iload_n 2, 1) := by decide +kernel
theorem dX10_gainer_19 : decode cX10_gainer 19 = .ok (.aload_n 0, 1) := by decide +kernel
theorem dX10_gainer_20 : decode cX10_gainer 20 = .ok (.getfield 26, 3) := by decide +kernel
theorem dX10_gainer_23 : decode cX10_gainer 23 = .ok (.getfield 305, 3) := by decide +kernel
theorem dX10_gainer_26 : decode cX10_gainer 26 = .ok (.if_icmp .ge 63, 3) := by decide +kernel
theorem dX10_gainer_29 : decode cX10_gainer 29 = .ok (.aload_n 0, 1) := by decide +kernel
theorem dX10_gainer_30 : decode cX10_gainer 30 = .ok (.getfield 26, 3) := by decide +kernel
theorem dX10_gainer_33 : decode cX10_gainer 33 = .ok (.iload_n 2, 1) := by decide +kernel
theorem dX10_gainer_34 : decode cX10_gainer 34 = .ok (.iconst 1, 1) := by decide +kernel
theorem dX10_gainer_35 : decode cX10_gainer 35 = .ok (.invokevirtual 162, 3) := by decide +kernel
theorem dX10_gainer_38 : decode cX10_gainer 38 = .ok (.i2l, 1) := by decide +kernel
theorem dX10_gainer_39 : decode cX10_gainer 39 = .ok (.aload_n 0, 1) := by decide +kernel
theorem dX10_gainer_40 : decode cX10_gainer 40 = .ok (.getfield 26, 3) := by decide +kernel
theorem dX10_gainer_43 : decode cX10_gainer 43 = .ok (.iload_n 1, 1) := by decide +kernel
theorem dX10_gainer_44 : decode cX10_gainer 44 = .ok (.iconst 0, 1) := by decide +kernel
theorem dX10_gainer_45 : decode cX10_gainer 45 = .ok (.invokevirtual 162, 3) := by decide +kernel
theorem dX10_gainer_48 : decode cX10_gainer 48 = .ok (.i2l, 1) := by decide +kernel
theorem dX10_gainer_49 : decode cX10_gainer 49 = .ok (.lmul, 1) := by decide +kernel
theorem dX10_gainer_50 : decode cX10_gainer 50 = .ok (.lstore_n 3, 1) := by decide +kernel
theorem dX10_gainer_51 : decode cX10_gainer 51 = .ok (.aload_n 0, 1) := by decide +kernel
theorem dX10_gainer_52 : decode cX10_gainer 52 = .ok (.getfield 26, 3) := by decide +kernel
theorem dX10_gainer_55 : decode cX10_gainer 55 = .ok (.iload_n 1, 1) := by decide +kernel
theorem dX10_gainer_56 : decode cX10_gainer 56 = .ok (.iconst 1, 1) := by decide +kernel
theorem dX10_gainer_57 : decode cX10_gainer 57 = .ok (.invokevirtual 162, 3) := by decide +kernel
theorem dX10_gainer_60 : decode cX10_gainer 60 = .ok (.i2l, 1) := by decide +kernel
theorem dX10_gainer_61 : decode cX10_gainer 61 = .ok (.aload_n 0, 1) := by decide +kernel
theorem dX10_gainer_62 : decode cX10_gainer 62 = .ok (.getfield 26, 3) := by decide +kernel
theorem dX10_gainer_65 : decode cX10_gainer 65 = .ok (.iload_n 2, 1) := by decide +kernel
theorem dX10_gainer_66 : decode cX10_gainer 66 = .ok (.iconst 0, 1) := by decide +kernel
theorem dX10_gainer_67 : decode cX10_gainer 67 = .ok (.invokevirtual 162, 3) := by decide +kernel
theorem dX10_gainer_70 : decode cX10_gainer 70 = .ok (.i2l, 1) := by decide +kernel
theorem dX10_gainer_71 : decode cX10_gainer 71 = .ok (.lmul, 1) := by decide +kernel
theorem dX10_gainer_72 : decode cX10_gainer 72 = .ok (.lstore 5, 2) := by decide +kernel
theorem dX10_gainer_74 : decode cX10_gainer 74 = .ok (.lload_n 3, 1) := by decide +kernel
theorem dX10_gainer_75 : decode cX10_gainer 75 = .ok (.lload 5, 2) := by decide +kernel
theorem dX10_gainer_77 : decode cX10_gainer 77 = .ok (.lcmp, 1) := by decide +kernel
theorem dX10_gainer_78 : decode cX10_gainer 78 = .ok (.ifCond .le 5, 3) := by decide +kernel
theorem dX10_gainer_81 : decode cX10_gainer 81 = .ok (.iload_n 2, 1) := by decide +kernel
theorem dX10_gainer_82 : decode cX10_gainer 82 = .ok (.istore_n 1, 1) := by decide +kernel
theorem dX10_gainer_83 : decode cX10_gainer 83 = .ok (.iinc 2 1, 3) := by decide +kernel
theorem dX10_gainer_86 : decode cX10_gainer 86 = .ok (.goto (-68), 3) := by decide +kernel
theorem dX10_gainer_89 : decode cX10_gainer 89 = .ok (.iload_n 1, 1) := by decide +kernel
theorem dX10_gainer_90 : decode cX10_gainer 90 = .ok (.ireturn, 1) := by decide +kernel
theorem dX10_grows_0 : decode cX10_grows 0 = .ok (.aload_n 0, 1) := by decide +kernel
theorem dX10_grows_1 : decode cX10_grows 1 = .ok (.iload_n 1, 1) := by decide +kernel
theorem dX10_grows_2 : decode cX10_grows 2 = .ok (.invokevirtual 129, 3) := by decide +kernel
theorem dX10_grows_5 : decode cX10_grows 5 = .ok (.iload_n 2, 1) := by decide +kernel
theorem dX10_grows_6 : decode cX10_grows 6 = .ok (.ifCond .lt 9, 3) := by decide +kernel
theorem dX10_grows_9 : decode cX10_grows 9 = .ok (.iload_n 2, 1) := by decide +kernel
theorem dX10_grows_10 : decode cX10_grows 10 = .ok (.bipush 6, 2) := by decide +kernel
theorem dX10_grows_12 : decode cX10_grows 12 = .ok (.if_icmp .le 14, 3) := by decide +kernel
theorem dX10_grows_15 : decode cX10_grows 15 = .ok (.new 90, 3) := by decide +kernel
theorem dX10_grows_18 : decode cX10_grows 18 = .ok (.dup, 1) := by decide +kernel
theorem dX10_grows_19 : decode cX10_grows 19 = .ok (.ldc_w 308, 3) := by decide +kernel
theorem dX10_grows_22 : decode cX10_grows 22 = .ok (.invokespecial 94, 3) := by decide +kernel
theorem dX10_grows_25 : decode cX10_grows 25 = .ok (.athrow, 1) := by decide +kernel
theorem dX10_grows_26 : decode cX10_grows 26 = .ok (.aload_n 0, 1) := by decide +kernel
theorem dX10_grows_27 : decode cX10_grows 27 = .ok (.getfield 67, 3) := by decide +kernel
theorem dX10_grows_30 : decode cX10_grows 30 = .ok (.aload_n 0, 1) := by decide +kernel
theorem dX10_grows_31 : decode cX10_grows 31 = .ok (.getfield 26, 3) := by decide +kernel
theorem dX10_grows_34 : decode cX10_grows 34 = .ok (.iload_n 1, 1) := by decide +kernel
theorem dX10_grows_35 : decode cX10_grows 35 = .ok (.invokevirtual 269, 3) := by decide +kernel
theorem dX10_grows_38 : decode cX10_grows 38 = .ok (.aload_n 0, 1) := by decide +kernel
theorem dX10_grows_39 : decode cX10_grows 39 = .ok (.getfield 67, 3) := by decide +kernel
theorem dX10_grows_42 : decode cX10_grows 42 = .ok (.aload_n 0, 1) := by decide +kernel
theorem dX10_grows_43 : decode cX10_grows 43 = .ok (.getfield 26, 3) := by decide +kernel
theorem dX10_grows_46 : decode cX10_grows 46 = .ok (.invokevirtual 310, 3) := by decide +kernel
theorem dX10_grows_49 : decode cX10_grows 49 = .ok (.lstore_n 3, 1) := by decide +kernel
theorem dX10_grows_50 : decode cX10_grows 50 = .ok (.iconst 0, 1) := by decide +kernel
theorem dX10_grows_51 : decode cX10_grows 51 = .ok (.istore 5, 2) := by decide +kernel
theorem dX10_grows_53 : decode cX10_grows 53 = .ok (.iload 5, 2) := by decide +kernel
theorem dX10_grows_55 : decode cX10_grows 55 = .ok (.iload_n 2, 1) := by decide +kernel
theorem dX10_grows_56 : decode cX10_grows 56 = .ok (.if_icmp .ge 49, 3) := by decide +kernel
theorem dX10_grows_59 : decode cX10_grows 59 = .ok (.aload_n 0, 1) := by decide +kernel
theorem dX10_grows_60 : decode cX10_grows 60 = .ok (.getfield 67, 3) := by decide +kernel
theorem dX10_grows_63 : decode cX10_grows 63 = .ok (.invokevirtual 283, 3) := by decide +kernel
theorem dX10_grows_66 : decode cX10_grows 66 = .ok (.aload_n 0, 1) := by decide +kernel
theorem dX10_grows_67 : decode cX10_grows 67 = .ok (.getfield 67, 3) := by decide +kernel
theorem dX10_grows_70 : decode cX10_grows 70 = .ok (.getfield 276, 3) := by decide +kernel
theorem dX10_grows_73 : decode cX10_grows 73 = .ok (.sipush 3000, 3) := by decide +kernel
theorem dX10_grows_76 : decode cX10_grows 76 = .ok (.if_icmp .le 7, 3) := by decide +kernel
theorem dX10_grows_79 : decode cX10_grows 79 = .ok (.ldc2_w 314, 3) := by decide +kernel
theorem dX10_grows_82 : decode cX10_grows 82 = .ok (.lreturn, 1) := by decide +kernel
theorem dX10_grows_83 : decode cX10_grows 83 = .ok (.lload_n 3, 1) := by decide +kernel
theorem dX10_grows_84 : decode cX10_grows 84 = .ok (.aload_n 0, 1) := by decide +kernel
theorem dX10_grows_85 : decode cX10_grows 85 = .ok (.getfield 67, 3) := by decide +kernel
theorem dX10_grows_88 : decode cX10_grows 88 = .ok (.aload_n 0, 1) := by decide +kernel
theorem dX10_grows_89 : decode cX10_grows 89 = .ok (.getfield 26, 3) := by decide +kernel
theorem dX10_grows_92 : decode cX10_grows 92 = .ok (.invokevirtual 310, 3) := by decide +kernel
theorem dX10_grows_95 : decode cX10_grows 95 = .ok (.invokestatic 316, 3) := by decide +kernel
theorem dX10_grows_98 : decode cX10_grows 98 = .ok (.lstore_n 3, 1) := by decide +kernel
theorem dX10_grows_99 : decode cX10_grows 99 = .ok (.iinc 5 1, 3) := by decide +kernel
theorem dX10_grows_102 : decode cX10_grows 102 = .ok (.goto (-49), 3) := by decide +kernel
theorem dX10_grows_105 : decode cX10_grows 105 = .ok (.lload_n 3, 1) := by decide +kernel
theorem dX10_grows_106 : decode cX10_grows 106 = .ok (.lreturn, 1) := by decide +kernel
theorem dX10_swap_0 : decode cX10_swap 0 = .ok (.aload_n 0, 1) := by decide +kernel
theorem dX10_swap_1 : decode cX10_swap 1 = .ok (.iload_n 1, 1) := by decide +kernel
theorem dX10_swap_2 : decode cX10_swap 2 = .ok (.iload_n 2, 1) := by decide +kernel
theorem dX10_swap_3 : decode cX10_swap 3 = .ok (.invokevirtual 165, 3) := by decide +kernel
theorem dX10_swap_6 : decode cX10_swap 6 = .ok (.aload_n 0, 1) := by decide +kernel
theorem dX10_swap_7 : decode cX10_swap 7 = .ok (.iload_n 3, 1) := by decide +kernel
theorem dX10_swap_8 : decode cX10_swap 8 = .ok (.iconst 2, 1) := by decide +kernel
theorem dX10_swap_9 : decode cX10_swap 9 = .ok (.invokevirtual 139, 3) := by decide +kernel
theorem dX10_swap_12 : decode cX10_swap 12 = .ok (.iconst (-1), 1) := by decide +kernel
theorem dX10_swap_13 : decode cX10_swap 13 = .ok (.istore 4, 2) := by decide +kernel
theorem dX10_swap_15 : decode cX10_swap 15 = .ok (.iconst (-1), 1) := by decide +kernel
theorem dX10_swap_16 : decode cX10_swap 16 = .ok (.istore 5, 2) := by decide +kernel
theorem dX10_swap_18 : decode cX10_swap 18 = .ok (.lconst 0, 1) := by decide +kernel
theorem dX10_swap_19 : decode cX10_swap 19 = .ok (.lstore 6, 2) := by decide +kernel
theorem dX10_swap_21 : decode cX10_swap 21 = .ok (.iconst 0, 1) := by decide +kernel
theorem dX10_swap_22 : decode cX10_swap 22 = .ok (.istore 8, 2) := by decide +kernel
theorem dX10_swap_24 : decode cX10_swap 24 = .ok (.iload 8, 2) := by decide +kernel
theorem dX10_swap_26 : decode cX10_swap 26 = .ok (.aload_n 0, 1) := by decide +kernel
theorem dX10_swap_27 : decode cX10_swap 27 = .ok (.getfield 26, 3) := by decide +kernel
theorem dX10_swap_30 : decode cX10_swap 30 = .ok (.getfield 117, 3) := by decide +kernel
theorem dX10_swap_33 : decode cX10_swap 33 = .ok (.if_icmp .ge 107, 3) := by decide +kernel
theorem dX10_swap_36 : decode cX10_swap 36 = .ok (.iconst 0, 1) := by decide +kernel
theorem dX10_swap_37 : decode cX10_swap 37 = .ok (.istore 9, 2) := by decide +kernel
theorem dX10_swap_39 : decode cX10_swap 39 = .ok (.iload 9, 2) := by decide +kernel
theorem dX10_swap_41 : decode cX10_swap 41 = .ok (.aload_n 0, 1) := by decide +kernel
theorem dX10_swap_42 : decode cX10_swap 42 = .ok (.getfield 26, 3) := by decide +kernel
theorem dX10_swap_45 : decode cX10_swap 45 = .ok (.getfield 117, 3) := by decide +kernel
theorem dX10_swap_48 : decode cX10_swap 48 = .ok (.if_icmp .ge 86, 3) := by decide +kernel
theorem dX10_swap_51 : decode cX10_swap 51 = .ok (.iload 8, 2) := by decide +kernel
theorem dX10_swap_53 : decode cX10_swap 53 = .ok (.iload 9, 2) := by decide +kernel
theorem dX10_swap_55 : decode cX10_swap 55 = .ok (.if_icmp .eq 73, 3) := by decide +kernel
theorem dX10_swap_58 : decode cX10_swap 58 = .ok (.aload_n 0, 1) := by decide +kernel
theorem dX10_swap_59 : decode cX10_swap 59 = .ok (.getfield 26, 3) := by decide +kernel
theorem dX10_swap_62 : decode cX10_swap 62 = .ok (.iload_n 1, 1) := by decide +kernel
theorem dX10_swap_63 : decode cX10_swap 63 = .ok (.iload 8, 2) := by decide +kernel
theorem dX10_swap_65 : decode cX10_swap 65 = .ok (.invokevirtual 135, 3) := by decide +kernel
theorem dX10_swap_68 : decode cX10_swap 68 = .ok (.ifCond .eq 60, 3) := by decide +kernel
theorem dX10_swap_71 : decode cX10_swap 71 = .ok (.aload_n 0, 1) := by decide +kernel
theorem dX10_swap_72 : decode cX10_swap 72 = .ok (.getfield 26, 3) := by decide +kernel
theorem dX10_swap_75 : decode cX10_swap 75 = .ok (.iload_n 2, 1) := by decide +kernel
theorem dX10_swap_76 : decode cX10_swap 76 = .ok (.iload 9, 2) := by decide +kernel
theorem dX10_swap_78 : decode cX10_swap 78 = .ok (.invokevirtual 135, 3) := by decide +kernel
theorem dX10_swap_81 : decode cX10_swap 81 = .ok (.ifCond .ne 6, 3) := by decide +kernel
theorem dX10_swap_84 : decode cX10_swap 84 = .ok (.goto 44, 3) := by decide +kernel
theorem dX10_swap_87 : decode cX10_swap 87 = .ok (.aload_n 0, 1) := by decide +kernel
theorem dX10_swap_88 : decode cX10_swap 88 = .ok (.getfield 26, 3) := by decide +kernel
theorem dX10_swap_91 : decode cX10_swap 91 = .ok (.iload_n 1, 1) := by decide +kernel
theorem dX10_swap_92 : decode cX10_swap 92 = .ok (.iload_n 2, 1) := by decide +kernel
theorem dX10_swap_93 : decode cX10_swap 93 = .ok (.iload 8, 2) := by decide +kernel
theorem dX10_swap_95 : decode cX10_swap 95 = .ok (.iload 9, 2) := by decide +kernel
theorem dX10_swap_97 : decode cX10_swap 97 = .ok (.invokevirtual 322, 3) := by decide +kernel
theorem dX10_swap_100 : decode cX10_swap 100 = .ok (.lstore 10, 2) := by decide +kernel
theorem dX10_swap_102 : decode cX10_swap 102 = .ok (.iload 4, 2) := by decide +kernel
theorem dX10_swap_104 : decode cX10_swap 104 = .ok (.iconst (-1), 1) := by decide +kernel
theorem dX10_swap_105 : decode cX10_swap 105 = .ok (.if_icmp .eq 11, 3) := by decide +kernel
theorem dX10_swap_108 : decode cX10_swap 108 = .ok (.lload 10, 2) := by decide +kernel
theorem dX10_swap_110 : decode cX10_swap 110 = .ok (.lload 6, 2) := by decide +kernel
theorem dX10_swap_112 : decode cX10_swap 112 = .ok (.lcmp, 1) := by decide +kernel
theorem dX10_swap_113 : decode cX10_swap 113 = .ok (.ifCond .ge 15, 3) := by decide +kernel
theorem dX10_swap_116 : decode cX10_swap 116 = .ok (.iload 8, 2) := by decide +kernel
theorem dX10_swap_118 : decode cX10_swap 118 = .ok (.istore 4, 2) := by decide +kernel
theorem dX10_swap_120 : decode cX10_swap 120 = .ok (.iload 9, 2) := by decide +kernel
theorem dX10_swap_122 : decode cX10_swap 122 = .ok (.istore 5, 2) := by decide +kernel
theorem dX10_swap_124 : decode cX10_swap 124 = .ok (.lload 10, 2) := by decide +kernel
theorem dX10_swap_126 : decode cX10_swap 126 = .ok (.lstore 6, 2) := by decide +kernel
theorem dX10_swap_128 : decode cX10_swap 128 = .ok (.iinc 9 1, 3) := by decide +kernel
theorem dX10_swap_131 : decode cX10_swap 131 = .ok (.goto (-92), 3) := by decide +kernel
theorem dX10_swap_134 : decode cX10_swap 134 = .ok (.iinc 8 1, 3) := by decide +kernel
theorem dX10_swap_137 : decode cX10_swap 137 = .ok (.goto (-113), 3) := by decide +kernel
theorem dX10_swap_140 : decode cX10_swap 140 = .ok (.iload 4, 2) := by decide +kernel
theorem dX10_swap_142 : decode cX10_swap 142 = .ok (.iconst (-1), 1) := by decide +kernel
theorem dX10_swap_143 : decode cX10_swap 143 = .ok (.if_icmp .ne 7, 3) := by decide +kernel
theorem dX10_swap_146 : decode cX10_swap 146 = .ok (.ldc2_w 251, 3) := by decide +kernel
theorem dX10_swap_149 : decode cX10_swap 149 = .ok (.lreturn, 1) := by decide +kernel
theorem dX10_swap_150 : decode cX10_swap 150 = .ok (.iload_n 3, 1) := by decide +kernel
theorem dX10_swap_151 : decode cX10_swap 151 = .ok (.iconst 2, 1) := by decide +kernel
theorem dX10_swap_152 : decode cX10_swap 152 = .ok (.if_icmp .ne 6, 3) := by decide +kernel
theorem dX10_swap_155 : decode cX10_swap 155 = .ok (.lload 6, 2) := by decide +kernel
theorem dX10_swap_157 : decode cX10_swap 157 = .ok (.lreturn, 1) := by decide +kernel
theorem dX10_swap_158 : decode cX10_swap 158 = .ok (.aload_n 0, 1) := by decide +kernel
theorem dX10_swap_159 : decode cX10_swap 159 = .ok (.getfield 26, 3) := by decide +kernel
theorem dX10_swap_162 : decode cX10_swap 162 = .ok (.iload_n 3, 1) := by decide +kernel
theorem dX10_swap_163 : decode cX10_swap 163 = .ok (.ifCond .ne 8, 3) := by decide +kernel
theorem dX10_swap_166 : decode cX10_swap 166 = .ok (.iload 4, 2) := by decide +kernel
theorem dX10_swap_168 : decode cX10_swap 168 = .ok (.goto 5, 3) := by decide +kernel
theorem dX10_swap_171 : decode cX10_swap 171 = .ok (.iload 5, 2) := by decide +kernel
theorem dX10_swap_173 : decode cX10_swap 173 = .ok (.invokevirtual 125, 3) := by decide +kernel
theorem dX10_swap_176 : decode cX10_swap 176 = .ok (.i2l, 1) := by decide +kernel
theorem dX10_swap_177 : decode cX10_swap 177 = .ok (.lreturn, 1) := by decide +kernel
theorem dX10_common_0 : decode cX10_common 0 = .ok (.aload_n 0, 1) := by decide +kernel
theorem dX10_common_1 : decode cX10_common 1 = .ok (.iload_n 1, 1) := by decide +kernel
theorem dX10_common_2 : decode cX10_common 2 = .ok (.invokevirtual 129, 3) := by decide +kernel
theorem dX10_common_5 : decode cX10_common 5 = .ok (.aload_n 0, 1) := by decide +kernel
theorem dX10_common_6 : decode cX10_common 6 = .ok (.iload_n 2, 1) := by decide +kernel
theorem dX10_common_7 : decode cX10_common 7 = .ok (.invokevirtual 129, 3) := by decide +kernel
theorem dX10_common_10 : decode cX10_common 10 = .ok (.aload_n 0, 1) := by decide +kernel
theorem dX10_common_11 : decode cX10_common 11 = .ok (.getfield 26, 3) := by decide +kernel
theorem dX10_common_14 : decode cX10_common 14 = .ok (.iload_n 1, 1) := by decide +kernel
theorem dX10_common_15 : decode cX10_common 15 = .ok (.invokevirtual 155, 3) := by decide +kernel
theorem dX10_common_18 : decode cX10_common 18 = .ok (.aload_n 0, 1) := by decide +kernel
theorem dX10_common_19 : decode cX10_common 19 = .ok (.getfield 26, 3) := by decide +kernel
theorem dX10_common_22 : decode cX10_common 22 = .ok (.iload_n 2, 1) := by decide +kernel
theorem dX10_common_23 : decode cX10_common 23 = .ok (.invokevirtual 155, 3) := by decide +kernel
theorem dX10_common_26 : decode cX10_common 26 = .ok (.invokestatic 326, 3) := by decide +kernel
theorem dX10_common_29 : decode cX10_common 29 = .ok (.lreturn, 1) := by decide +kernel
theorem dX10_least_0 : decode cX10_least 0 = .ok (.aload_n 0, 1) := by decide +kernel
theorem dX10_least_1 : decode cX10_least 1 = .ok (.iload_n 1, 1) := by decide +kernel
theorem dX10_least_2 : decode cX10_least 2 = .ok (.invokevirtual 129, 3) := by decide +kernel
theorem dX10_least_5 : decode cX10_least 5 = .ok (.aload_n 0, 1) := by decide +kernel
theorem dX10_least_6 : decode cX10_least 6 = .ok (.iload_n 2, 1) := by decide +kernel
theorem dX10_least_7 : decode cX10_least 7 = .ok (.invokevirtual 129, 3) := by decide +kernel
theorem dX10_least_10 : decode cX10_least 10 = .ok (.iconst 0, 1) := by decide +kernel
theorem dX10_least_11 : decode cX10_least 11 = .ok (.istore_n 3, 1) := by decide +kernel
theorem dX10_least_12 : decode cX10_least 12 = .ok (.iconst 0, 1) := by decide +kernel
theorem dX10_least_13 : decode cX10_least 13 = .ok (.istore 4, 2) := by decide +kernel
theorem dX10_least_15 : decode cX10_least 15 = .ok (.iload 4, 2) := by decide +kernel
theorem dX10_least_17 : decode cX10_least 17 = .ok (.aload_n 0, 1) := by decide +kernel
theorem dX10_least_18 : decode cX10_least 18 = .ok (.getfield 26, 3) := by decide +kernel
theorem dX10_least_21 : decode cX10_least 21 = .ok (.getfield 117, 3) := by decide +kernel
theorem dX10_least_24 : decode cX10_least 24 = .ok (.if_icmp .ge 35, 3) := by decide +kernel
theorem dX10_least_27 : decode cX10_least 27 = .ok (.iload_n 3, 1) := by decide +kernel
theorem dX10_least_28 : decode cX10_least 28 = .ok (.aload_n 0, 1) := by decide +kernel
theorem dX10_least_29 : decode cX10_least 29 = .ok (.getfield 26, 3) := by decide +kernel
theorem dX10_least_32 : decode cX10_least 32 = .ok (.iload_n 1, 1) := by decide +kernel
theorem dX10_least_33 : decode cX10_least 33 = .ok (.iload 4, 2) := by decide +kernel
theorem dX10_least_35 : decode cX10_least 35 = .ok (.invokevirtual 135, 3) := by decide +kernel
theorem dX10_least_38 : decode cX10_least 38 = .ok (.aload_n 0, 1) := by decide +kernel
theorem dX10_least_39 : decode cX10_least 39 = .ok (.getfield 26, 3) := by decide +kernel
theorem dX10_least_42 : decode cX10_least 42 = .ok (.iload_n 2, 1) := by decide +kernel
theorem dX10_least_43 : decode cX10_least 43 = .ok (.iload 4, 2) := by decide +kernel
theorem dX10_least_45 : decode cX10_least 45 = .ok (.invokevirtual 135, 3) := by decide +kernel
theorem dX10_least_48 : decode cX10_least 48 = .ok (.invokestatic 329, 3) := by decide +kernel
theorem dX10_least_51 : decode cX10_least 51 = .ok (.iadd, 1) := by decide +kernel
theorem dX10_least_52 : decode cX10_least 52 = .ok (.istore_n 3, 1) := by decide +kernel
theorem dX10_least_53 : decode cX10_least 53 = .ok (.iinc 4 1, 3) := by decide +kernel
theorem dX10_least_56 : decode cX10_least 56 = .ok (.goto (-41), 3) := by decide +kernel
theorem dX10_least_59 : decode cX10_least 59 = .ok (.iload_n 3, 1) := by decide +kernel
theorem dX10_least_60 : decode cX10_least 60 = .ok (.ireturn, 1) := by decide +kernel
theorem dX10_friends_0 : decode cX10_friends 0 = .ok (.iconst 0, 1) := by decide +kernel
theorem dX10_friends_1 : decode cX10_friends 1 = .ok (.istore_n 1, 1) := by decide +kernel
theorem dX10_friends_2 : decode cX10_friends 2 = .ok (.iconst 1, 1) := by decide +kernel
theorem dX10_friends_3 : decode cX10_friends 3 = .ok (.istore_n 2, 1) := by decide +kernel
theorem dX10_friends_4 : decode cX10_friends 4 = .ok (.iload_n 2, 1) := by decide +kernel
theorem dX10_friends_5 : decode cX10_friends 5 = .ok (.iconst 1, 1) := by decide +kernel
theorem dX10_friends_6 : decode cX10_friends 6 = .ok (.aload_n 0, 1) := by decide +kernel
theorem dX10_friends_7 : decode cX10_friends 7 = .ok (.getfield 26, 3) := by decide +kernel
theorem dX10_friends_10 : decode cX10_friends 10 = .ok (.getfield 211, 3) := by decide +kernel
theorem dX10_friends_13 : decode cX10_friends 13 = .ok (.ishl, 1) := by decide +kernel
theorem dX10_friends_14 : decode cX10_friends 14 = .ok (.if_icmp .ge 33, 3) := by decide +kernel
theorem dX10_friends_17 : decode cX10_friends 17 = .ok (.iload_n 2, 1) := by decide +kernel
theorem dX10_friends_18 : decode cX10_friends 18 = .ok (.invokestatic 289, 3) := by decide +kernel
theorem dX10_friends_21 : decode cX10_friends 21 = .ok (.iload_n 1, 1) := by decide +kernel
theorem dX10_friends_22 : decode cX10_friends 22 = .ok (.invokestatic 289, 3) := by decide +kernel
theorem dX10_friends_25 : decode cX10_friends 25 = .ok (.if_icmp .le 16, 3) := by decide +kernel
theorem dX10_friends_28 : decode cX10_friends 28 = .ok (.aload_n 0, 1) := by decide +kernel
theorem dX10_friends_29 : decode cX10_friends 29 = .ok (.getfield 26, 3) := by decide +kernel
theorem dX10_friends_32 : decode cX10_friends 32 = .ok (.iload_n 2, 1) := by decide +kernel
theorem dX10_friends_33 : decode cX10_friends 33 = .ok (.invokevirtual 331, 3) := by decide +kernel
theorem dX10_friends_36 : decode cX10_friends 36 = .ok (.ifCond .eq 5, 3) := by decide +kernel
theorem dX10_friends_39 : decode cX10_friends 39 = .ok (.iload_n 2, 1) := by decide +kernel
theorem dX10_friends_40 : decode cX10_friends 40 = .ok (.istore_n 1, 1) := by decide +kernel
theorem dX10_friends_41 : decode cX10_friends 41 = .ok (.iinc 2 1, 3) := by decide +kernel
theorem dX10_friends_44 : decode cX10_friends 44 = .ok (.goto (-40), 3) := by decide +kernel
theorem dX10_friends_47 : decode cX10_friends 47 = .ok (.iload_n 1, 1) := by decide +kernel
theorem dX10_friends_48 : decode cX10_friends 48 = .ok (.ireturn, 1) := by decide +kernel
theorem dX10_stolen_0 : decode cX10_stolen 0 = .ok (.aload_n 0, 1) := by decide +kernel
theorem dX10_stolen_1 : decode cX10_stolen 1 = .ok (.iload_n 1, 1) := by decide +kernel
theorem dX10_stolen_2 : decode cX10_stolen 2 = .ok (.invokevirtual 129, 3) := by decide +kernel
theorem dX10_stolen_5 : decode cX10_stolen 5 = .ok (.lload_n 2, 1) := by decide +kernel
theorem dX10_stolen_6 : decode cX10_stolen 6 = .ok (.ldc2_w 335, 3) := by decide +kernel
theorem dX10_stolen_9 : decode cX10_stolen 9 = .ok (.lcmp, 1) := by decide +kernel
theorem dX10_stolen_10 : decode cX10_stolen 10 = .ok (.ifCond .lt 25, 3) := by decide +kernel
theorem dX10_stolen_13 : decode cX10_stolen 13 = .ok (.lload_n 2, 1) := by decide +kernel
theorem dX10_stolen_14 : decode cX10_stolen 14 = .ok (.ldc2_w 199, 3) := by decide +kernel
theorem dX10_stolen_17 : decode cX10_stolen 17 = .ok (.lcmp, 1) := by decide +kernel
theorem dX10_stolen_18 : decode cX10_stolen 18 = .ok (.ifCond .gt 17, 3) := by decide +kernel
theorem dX10_stolen_21 : decode cX10_stolen 21 = .ok (.lload 4, 2) := by decide +kernel
theorem dX10_stolen_23 : decode cX10_stolen 23 = .ok (.lconst 0, 1) := by decide +kernel
theorem dX10_stolen_24 : decode cX10_stolen 24 = .ok (.lcmp, 1) := by decide +kernel
theorem dX10_stolen_25 : decode cX10_stolen 25 = .ok (.ifCond .lt 10, 3) := by decide +kernel
theorem dX10_stolen_28 : decode cX10_stolen 28 = .ok (.lload 4, 2) := by decide +kernel
theorem dX10_stolen_30 : decode cX10_stolen 30 = .ok (.lload_n 2, 1) := by decide +kernel
theorem dX10_stolen_31 : decode cX10_stolen 31 = .ok (.lcmp, 1) := by decide +kernel
theorem dX10_stolen_32 : decode cX10_stolen 32 = .ok (.ifCond .lt 14, 3) := by decide +kernel
theorem dX10_stolen_35 : decode cX10_stolen 35 = .ok (.new 90, 3) := by decide +kernel
theorem dX10_stolen_38 : decode cX10_stolen 38 = .ok (.dup, 1) := by decide +kernel
theorem dX10_stolen_39 : decode cX10_stolen 39 = .ok (.ldc_w 337, 3) := by decide +kernel
theorem dX10_stolen_42 : decode cX10_stolen 42 = .ok (.invokespecial 94, 3) := by decide +kernel
theorem dX10_stolen_45 : decode cX10_stolen 45 = .ok (.athrow, 1) := by decide +kernel
theorem dX10_stolen_46 : decode cX10_stolen 46 = .ok (.aload_n 0, 1) := by decide +kernel
theorem dX10_stolen_47 : decode cX10_stolen 47 = .ok (.getfield 26, 3) := by decide +kernel
theorem dX10_stolen_50 : decode cX10_stolen 50 = .ok (.iload_n 1, 1) := by decide +kernel
theorem dX10_stolen_51 : decode cX10_stolen 51 = .ok (.invokevirtual 155, 3) := by decide +kernel
theorem dX10_stolen_54 : decode cX10_stolen 54 = .ok (.lstore 6, 2) := by decide +kernel
theorem dX10_stolen_56 : decode cX10_stolen 56 = .ok (.iconst 0, 1) := by decide +kernel
theorem dX10_stolen_57 : decode cX10_stolen 57 = .ok (.istore 8, 2) := by decide +kernel
theorem dX10_stolen_59 : decode cX10_stolen 59 = .ok (.iconst 0, 1) := by decide +kernel
theorem dX10_stolen_60 : decode cX10_stolen 60 = .ok (.istore 9, 2) := by decide +kernel
theorem dX10_stolen_62 : decode cX10_stolen 62 = .ok (.iload 9, 2) := by decide +kernel
theorem dX10_stolen_64 : decode cX10_stolen 64 = .ok (.aload_n 0, 1) := by decide +kernel
theorem dX10_stolen_65 : decode cX10_stolen 65 = .ok (.getfield 26, 3) := by decide +kernel
theorem dX10_stolen_68 : decode cX10_stolen 68 = .ok (.getfield 117, 3) := by decide +kernel
theorem dX10_stolen_71 : decode cX10_stolen 71 = .ok (.if_icmp .ge 52, 3) := by decide +kernel
theorem dX10_stolen_74 : decode cX10_stolen 74 = .ok (.aload_n 0, 1) := by decide +kernel
theorem dX10_stolen_75 : decode cX10_stolen 75 = .ok (.getfield 26, 3) := by decide +kernel
theorem dX10_stolen_78 : decode cX10_stolen 78 = .ok (.iload_n 1, 1) := by decide +kernel
theorem dX10_stolen_79 : decode cX10_stolen 79 = .ok (.iload 9, 2) := by decide +kernel
theorem dX10_stolen_81 : decode cX10_stolen 81 = .ok (.invokevirtual 135, 3) := by decide +kernel
theorem dX10_stolen_84 : decode cX10_stolen 84 = .ok (.ifCond .le 33, 3) := by decide +kernel
theorem dX10_stolen_87 : decode cX10_stolen 87 = .ok (.lload 6, 2) := by decide +kernel
theorem dX10_stolen_89 : decode cX10_stolen 89 = .ok (.aload_n 0, 1) := by decide +kernel
theorem dX10_stolen_90 : decode cX10_stolen 90 = .ok (.getfield 26, 3) := by decide +kernel
theorem dX10_stolen_93 : decode cX10_stolen 93 = .ok (.iload 9, 2) := by decide +kernel
theorem dX10_stolen_95 : decode cX10_stolen 95 = .ok (.invokevirtual 125, 3) := by decide +kernel
theorem dX10_stolen_98 : decode cX10_stolen 98 = .ok (.i2l, 1) := by decide +kernel
theorem dX10_stolen_99 : decode cX10_stolen 99 = .ok (.ldiv, 1) := by decide +kernel
theorem dX10_stolen_100 : decode cX10_stolen 100 = .ok (.lload_n 2, 1) := by decide +kernel
theorem dX10_stolen_101 : decode cX10_stolen 101 = .ok (.lrem, 1) := by decide +kernel
theorem dX10_stolen_102 : decode cX10_stolen 102 = .ok (.lload 4, 2) := by decide +kernel
theorem dX10_stolen_104 : decode cX10_stolen 104 = .ok (.lcmp, 1) := by decide +kernel
theorem dX10_stolen_105 : decode cX10_stolen 105 = .ok (.ifCond .ne 12, 3) := by decide +kernel
theorem dX10_stolen_108 : decode cX10_stolen 108 = .ok (.iload 8, 2) := by decide +kernel
theorem dX10_stolen_110 : decode cX10_stolen 110 = .ok (.iconst 1, 1) := by decide +kernel
theorem dX10_stolen_111 : decode cX10_stolen 111 = .ok (.iload 9, 2) := by decide +kernel
theorem dX10_stolen_113 : decode cX10_stolen 113 = .ok (.ishl, 1) := by decide +kernel
theorem dX10_stolen_114 : decode cX10_stolen 114 = .ok (.ior, 1) := by decide +kernel
theorem dX10_stolen_115 : decode cX10_stolen 115 = .ok (.istore 8, 2) := by decide +kernel
theorem dX10_stolen_117 : decode cX10_stolen 117 = .ok (.iinc 9 1, 3) := by decide +kernel
theorem dX10_stolen_120 : decode cX10_stolen 120 = .ok (.goto (-58), 3) := by decide +kernel
theorem dX10_stolen_123 : decode cX10_stolen 123 = .ok (.iload 8, 2) := by decide +kernel
theorem dX10_stolen_125 : decode cX10_stolen 125 = .ok (.ireturn, 1) := by decide +kernel
theorem dX10_fitting_0 : decode cX10_fitting 0 = .ok (.aload_n 0, 1) := by decide +kernel
theorem dX10_fitting_1 : decode cX10_fitting 1 = .ok (.iload_n 1, 1) := by decide +kernel
theorem dX10_fitting_2 : decode cX10_fitting 2 = .ok (.invokevirtual 223, 3) := by decide +kernel
theorem dX10_fitting_5 : decode cX10_fitting 5 = .ok (.astore 4, 2) := by decide +kernel
theorem dX10_fitting_7 : decode cX10_fitting 7 = .ok (.iload_n 2, 1) := by decide +kernel
theorem dX10_fitting_8 : decode cX10_fitting 8 = .ok (.iconst 1, 1) := by decide +kernel
theorem dX10_fitting_9 : decode cX10_fitting 9 = .ok (.if_icmp .lt 16, 3) := by decide +kernel
theorem dX10_fitting_12 : decode cX10_fitting 12 = .ok (.iload_n 2, 1) := by decide +kernel
theorem dX10_fitting_13 : decode cX10_fitting 13 = .ok (.iconst 4, 1) := by decide +kernel
theorem dX10_fitting_14 : decode cX10_fitting 14 = .ok (.if_icmp .gt 11, 3) := by decide +kernel
theorem dX10_fitting_17 : decode cX10_fitting 17 = .ok (.aload 4, 2) := by decide +kernel
theorem dX10_fitting_19 : decode cX10_fitting 19 = .ok (.invokevirtual 339, 3) := by decide +kernel
theorem dX10_fitting_22 : decode cX10_fitting 22 = .ok (.ifCond .ne 14, 3) := by decide +kernel
theorem dX10_fitting_25 : decode cX10_fitting 25 = .ok (.new 90, 3) := by decide +kernel
theorem dX10_fitting_28 : decode cX10_fitting 28 = .ok (.dup, 1) := by decide +kernel
theorem dX10_fitting_29 : decode cX10_fitting 29 = .ok (.ldc_w 342, 3) := by decide +kernel
theorem dX10_fitting_32 : decode cX10_fitting 32 = .ok (.invokespecial 94, 3) := by decide +kernel
theorem dX10_fitting_35 : decode cX10_fitting 35 = .ok (.athrow, 1) := by decide +kernel
theorem dX10_fitting_36 : decode cX10_fitting 36 = .ok (.aload_n 0, 1) := by decide +kernel
theorem dX10_fitting_37 : decode cX10_fitting 37 = .ok (.getfield 74, 3) := by decide +kernel
theorem dX10_fitting_40 : decode cX10_fitting 40 = .ok (.aload_n 0, 1) := by decide +kernel
theorem dX10_fitting_41 : decode cX10_fitting 41 = .ok (.getfield 26, 3) := by decide +kernel
theorem dX10_fitting_44 : decode cX10_fitting 44 = .ok (.aload 4, 2) := by decide +kernel
theorem dX10_fitting_46 : decode cX10_fitting 46 = .ok (.iload_n 2, 1) := by decide +kernel
theorem dX10_fitting_47 : decode cX10_fitting 47 = .ok (.iload_n 3, 1) := by decide +kernel
theorem dX10_fitting_48 : decode cX10_fitting 48 = .ok (.invokevirtual 344, 3) := by decide +kernel
theorem dX10_fitting_51 : decode cX10_fitting 51 = .ok (.lreturn, 1) := by decide +kernel
theorem dX10_trial_0 : decode cX10_trial 0 = .ok (.aload_n 0, 1) := by decide +kernel
theorem dX10_trial_1 : decode cX10_trial 1 = .ok (.iload_n 1, 1) := by decide +kernel
theorem dX10_trial_2 : decode cX10_trial 2 = .ok (.iconst 1, 1) := by decide +kernel
theorem dX10_trial_3 : decode cX10_trial 3 = .ok (.invokevirtual 348, 3) := by decide +kernel
theorem dX10_trial_6 : decode cX10_trial 6 = .ok (.aload_n 0, 1) := by decide +kernel
theorem dX10_trial_7 : decode cX10_trial 7 = .ok (.iload_n 2, 1) := by decide +kernel
theorem dX10_trial_8 : decode cX10_trial 8 = .ok (.iconst 1, 1) := by decide +kernel
theorem dX10_trial_9 : decode cX10_trial 9 = .ok (.invokevirtual 139, 3) := by decide +kernel
theorem dX10_trial_12 : decode cX10_trial 12 = .ok (.iload_n 1, 1) := by decide +kernel
theorem dX10_trial_13 : decode cX10_trial 13 = .ok (.invokestatic 351, 3) := by decide +kernel
theorem dX10_trial_16 : decode cX10_trial 16 = .ok (.istore_n 3, 1) := by decide +kernel
theorem dX10_trial_17 : decode cX10_trial 17 = .ok (.iload_n 2, 1) := by decide +kernel
theorem dX10_trial_18 : decode cX10_trial 18 = .ok (.ifCond .ne 7, 3) := by decide +kernel
theorem dX10_trial_21 : decode cX10_trial 21 = .ok (.iload_n 3, 1) := by decide +kernel
theorem dX10_trial_22 : decode cX10_trial 22 = .ok (.goto 6, 3) := by decide +kernel
theorem dX10_trial_25 : decode cX10_trial 25 = .ok (.iload_n 3, 1) := by decide +kernel
theorem dX10_trial_26 : decode cX10_trial 26 = .ok (.iconst 1, 1) := by decide +kernel
theorem dX10_trial_27 : decode cX10_trial 27 = .ok (.isub, 1) := by decide +kernel
theorem dX10_trial_28 : decode cX10_trial 28 = .ok (.ireturn, 1) := by decide +kernel
theorem dX10_squares_0 : decode cX10_squares 0 = .ok (.iload_n 1, 1) := by decide +kernel
theorem dX10_squares_1 : decode cX10_squares 1 = .ok (.iconst 3, 1) := by decide +kernel
theorem dX10_squares_2 : decode cX10_squares 2 = .ok (.if_icmp .lt 16, 3) := by decide +kernel
theorem dX10_squares_5 : decode cX10_squares 5 = .ok (.iload_n 1, 1) := by decide +kernel
theorem dX10_squares_6 : decode cX10_squares 6 = .ok (.ldc_w 354, 3) := by decide +kernel
theorem dX10_squares_9 : decode cX10_squares 9 = .ok (.if_icmp .gt 9, 3) := by decide +kernel
theorem dX10_squares_12 : decode cX10_squares 12 = .ok (.iload_n 1, 1) := by decide +kernel
theorem dX10_squares_13 : decode cX10_squares 13 = .ok (.iconst 2, 1) := by decide +kernel
theorem dX10_squares_14 : decode cX10_squares 14 = .ok (.irem, 1) := by decide +kernel
theorem dX10_squares_15 : decode cX10_squares 15 = .ok (.ifCond .ne 14, 3) := by decide +kernel
theorem dX10_squares_18 : decode cX10_squares 18 = .ok (.new 90, 3) := by decide +kernel
theorem dX10_squares_21 : decode cX10_squares 21 = .ok (.dup, 1) := by decide +kernel
theorem dX10_squares_22 : decode cX10_squares 22 = .ok (.ldc_w 355, 3) := by decide +kernel
theorem dX10_squares_25 : decode cX10_squares 25 = .ok (.invokespecial 94, 3) := by decide +kernel
theorem dX10_squares_28 : decode cX10_squares 28 = .ok (.athrow, 1) := by decide +kernel
theorem dX10_squares_29 : decode cX10_squares 29 = .ok (.aload_n 0, 1) := by decide +kernel
theorem dX10_squares_30 : decode cX10_squares 30 = .ok (.iload_n 2, 1) := by decide +kernel
theorem dX10_squares_31 : decode cX10_squares 31 = .ok (.iconst 1, 1) := by decide +kernel
theorem dX10_squares_32 : decode cX10_squares 32 = .ok (.invokevirtual 139, 3) := by decide +kernel
theorem dX10_squares_35 : decode cX10_squares 35 = .ok (.iload_n 1, 1) := by decide +kernel
theorem dX10_squares_36 : decode cX10_squares 36 = .ok (.invokestatic 357, 3) := by decide +kernel
theorem dX10_squares_39 : decode cX10_squares 39 = .ok (.istore_n 3, 1) := by decide +kernel
theorem dX10_squares_40 : decode cX10_squares 40 = .ok (.iload_n 3, 1) := by decide +kernel
theorem dX10_squares_41 : decode cX10_squares 41 = .ok (.iload_n 3, 1) := by decide +kernel
theorem dX10_squares_42 : decode cX10_squares 42 = .ok (.imul, 1) := by decide +kernel
theorem dX10_squares_43 : decode cX10_squares 43 = .ok (.iload_n 1, 1) := by decide +kernel
theorem dX10_squares_44 : decode cX10_squares 44 = .ok (.if_icmp .ne 7, 3) := by decide +kernel
theorem dX10_squares_47 : decode cX10_squares 47 = .ok (.iload_n 3, 1) := by decide +kernel
theorem dX10_squares_48 : decode cX10_squares 48 = .ok (.goto 6, 3) := by decide +kernel
theorem dX10_squares_51 : decode cX10_squares 51 = .ok (.iload_n 3, 1) := by decide +kernel
theorem dX10_squares_52 : decode cX10_squares 52 = .ok (.iconst 1, 1) := by decide +kernel
theorem dX10_squares_53 : decode cX10_squares 53 = .ok (.isub, 1) := by decide +kernel
theorem dX10_squares_54 : decode cX10_squares 54 = .ok (.istore 4, 2) := by decide +kernel
theorem dX10_squares_56 : decode cX10_squares 56 = .ok (.iload 4, 2) := by decide +kernel
theorem dX10_squares_58 : decode cX10_squares 58 = .ok (.iconst 1, 1) := by decide +kernel
theorem dX10_squares_59 : decode cX10_squares 59 = .ok (.if_icmp .le 16, 3) := by decide +kernel
theorem dX10_squares_62 : decode cX10_squares 62 = .ok (.iload_n 1, 1) := by decide +kernel
theorem dX10_squares_63 : decode cX10_squares 63 = .ok (.iload 4, 2) := by decide +kernel
theorem dX10_squares_65 : decode cX10_squares 65 = .ok (.irem, 1) := by decide +kernel
theorem dX10_squares_66 : decode cX10_squares 66 = .ok (.ifCond .eq 9, 3) := by decide +kernel
theorem dX10_squares_69 : decode cX10_squares 69 = .ok (.iinc 4 (-1), 3) := by decide +kernel
theorem dX10_squares_72 : decode cX10_squares 72 = .ok (.goto (-16), 3) := by decide +kernel
theorem dX10_squares_75 : decode cX10_squares 75 = .ok (.iload 4, 2) := by decide +kernel
theorem dX10_squares_77 : decode cX10_squares 77 = .ok (.iload_n 1, 1) := by decide +kernel
theorem dX10_squares_78 : decode cX10_squares 78 = .ok (.iload 4, 2) := by decide +kernel
theorem dX10_squares_80 : decode cX10_squares 80 = .ok (.idiv, 1) := by decide +kernel
theorem dX10_squares_81 : decode cX10_squares 81 = .ok (.iadd, 1) := by decide +kernel
theorem dX10_squares_82 : decode cX10_squares 82 = .ok (.iconst 2, 1) := by decide +kernel
theorem dX10_squares_83 : decode cX10_squares 83 = .ok (.idiv, 1) := by decide +kernel
theorem dX10_squares_84 : decode cX10_squares 84 = .ok (.istore 5, 2) := by decide +kernel
theorem dX10_squares_86 : decode cX10_squares 86 = .ok (.iload_n 2, 1) := by decide +kernel
theorem dX10_squares_87 : decode cX10_squares 87 = .ok (.ifCond .ne 8, 3) := by decide +kernel
theorem dX10_squares_90 : decode cX10_squares 90 = .ok (.iload 4, 2) := by decide +kernel
theorem dX10_squares_92 : decode cX10_squares 92 = .ok (.goto 9, 3) := by decide +kernel
theorem dX10_squares_95 : decode cX10_squares 95 = .ok (.iload 5, 2) := by decide +kernel
theorem dX10_squares_97 : decode cX10_squares 97 = .ok (.iload_n 3, 1) := by decide +kernel
theorem dX10_squares_98 : decode cX10_squares 98 = .ok (.isub, 1) := by decide +kernel
theorem dX10_squares_99 : decode cX10_squares 99 = .ok (.iconst 1, 1) := by decide +kernel
theorem dX10_squares_100 : decode cX10_squares 100 = .ok (.iadd, 1) := by decide +kernel
theorem dX10_squares_101 : decode cX10_squares 101 = .ok (.ireturn, 1) := by decide +kernel
theorem dX10_rounds_0 : decode cX10_rounds 0 = .ok (.aload_n 0, 1) := by decide +kernel
theorem dX10_rounds_1 : decode cX10_rounds 1 = .ok (.iload_n 1, 1) := by decide +kernel
theorem dX10_rounds_2 : decode cX10_rounds 2 = .ok (.iconst 2, 1) := by decide +kernel
theorem dX10_rounds_3 : decode cX10_rounds 3 = .ok (.invokevirtual 348, 3) := by decide +kernel
theorem dX10_rounds_6 : decode cX10_rounds 6 = .ok (.iload_n 2, 1) := by decide +kernel
theorem dX10_rounds_7 : decode cX10_rounds 7 = .ok (.ifCond .lt 9, 3) := by decide +kernel
theorem dX10_rounds_10 : decode cX10_rounds 10 = .ok (.iload_n 2, 1) := by decide +kernel
theorem dX10_rounds_11 : decode cX10_rounds 11 = .ok (.bipush 99, 2) := by decide +kernel
theorem dX10_rounds_13 : decode cX10_rounds 13 = .ok (.if_icmp .le 14, 3) := by decide +kernel
theorem dX10_rounds_16 : decode cX10_rounds 16 = .ok (.new 90, 3) := by decide +kernel
theorem dX10_rounds_19 : decode cX10_rounds 19 = .ok (.dup, 1) := by decide +kernel
theorem dX10_rounds_20 : decode cX10_rounds 20 = .ok (.ldc_w 360, 3) := by decide +kernel
theorem dX10_rounds_23 : decode cX10_rounds 23 = .ok (.invokespecial 94, 3) := by decide +kernel
theorem dX10_rounds_26 : decode cX10_rounds 26 = .ok (.athrow, 1) := by decide +kernel
theorem dX10_rounds_27 : decode cX10_rounds 27 = .ok (.aload_n 0, 1) := by decide +kernel
theorem dX10_rounds_28 : decode cX10_rounds 28 = .ok (.iload_n 3, 1) := by decide +kernel
theorem dX10_rounds_29 : decode cX10_rounds 29 = .ok (.iconst 1, 1) := by decide +kernel
theorem dX10_rounds_30 : decode cX10_rounds 30 = .ok (.invokevirtual 139, 3) := by decide +kernel
theorem dX10_rounds_33 : decode cX10_rounds 33 = .ok (.ldc2_w 335, 3) := by decide +kernel
theorem dX10_rounds_36 : decode cX10_rounds 36 = .ok (.lstore 4, 2) := by decide +kernel
theorem dX10_rounds_38 : decode cX10_rounds 38 = .ok (.ldc2_w 335, 3) := by decide +kernel
theorem dX10_rounds_41 : decode cX10_rounds 41 = .ok (.lstore 6, 2) := by decide +kernel
theorem dX10_rounds_43 : decode cX10_rounds 43 = .ok (.iconst 1, 1) := by decide +kernel
theorem dX10_rounds_44 : decode cX10_rounds 44 = .ok (.istore 8, 2) := by decide +kernel
theorem dX10_rounds_46 : decode cX10_rounds 46 = .ok (.iload 8, 2) := by decide +kernel
theorem dX10_rounds_48 : decode cX10_rounds 48 = .ok (.sipush 2000, 3) := by decide +kernel
theorem dX10_rounds_51 : decode cX10_rounds 51 = .ok (.if_icmp .gt 83, 3) := by decide +kernel
theorem dX10_rounds_54 : decode cX10_rounds 54 = .ok (.lload 4, 2) := by decide +kernel
theorem dX10_rounds_56 : decode cX10_rounds 56 = .ok (.lload 4, 2) := by decide +kernel
theorem dX10_rounds_58 : decode cX10_rounds 58 = .ok (.lmul, 1) := by decide +kernel
theorem dX10_rounds_59 : decode cX10_rounds 59 = .ok (.iload_n 2, 1) := by decide +kernel
theorem dX10_rounds_60 : decode cX10_rounds 60 = .ok (.i2l, 1) := by decide +kernel
theorem dX10_rounds_61 : decode cX10_rounds 61 = .ok (.ladd, 1) := by decide +kernel
theorem dX10_rounds_62 : decode cX10_rounds 62 = .ok (.iload_n 1, 1) := by decide +kernel
theorem dX10_rounds_63 : decode cX10_rounds 63 = .ok (.i2l, 1) := by decide +kernel
theorem dX10_rounds_64 : decode cX10_rounds 64 = .ok (.lrem, 1) := by decide +kernel
theorem dX10_rounds_65 : decode cX10_rounds 65 = .ok (.lstore 4, 2) := by decide +kernel
theorem dX10_rounds_67 : decode cX10_rounds 67 = .ok (.lload 6, 2) := by decide +kernel
theorem dX10_rounds_69 : decode cX10_rounds 69 = .ok (.lload 6, 2) := by decide +kernel
theorem dX10_rounds_71 : decode cX10_rounds 71 = .ok (.lmul, 1) := by decide +kernel
theorem dX10_rounds_72 : decode cX10_rounds 72 = .ok (.iload_n 2, 1) := by decide +kernel
theorem dX10_rounds_73 : decode cX10_rounds 73 = .ok (.i2l, 1) := by decide +kernel
theorem dX10_rounds_74 : decode cX10_rounds 74 = .ok (.ladd, 1) := by decide +kernel
theorem dX10_rounds_75 : decode cX10_rounds 75 = .ok (.iload_n 1, 1) := by decide +kernel
theorem dX10_rounds_76 : decode cX10_rounds 76 = .ok (.i2l, 1) := by decide +kernel
theorem dX10_rounds_77 : decode cX10_rounds 77 = .ok (.lrem, 1) := by decide +kernel
theorem dX10_rounds_78 : decode cX10_rounds 78 = .ok (.lstore 6, 2) := by decide +kernel
theorem dX10_rounds_80 : decode cX10_rounds 80 = .ok (.lload 6, 2) := by decide +kernel
theorem dX10_rounds_82 : decode cX10_rounds 82 = .ok (.lload 6, 2) := by decide +kernel
theorem dX10_rounds_84 : decode cX10_rounds 84 = .ok (.lmul, 1) := by decide +kernel
theorem dX10_rounds_85 : decode cX10_rounds 85 = .ok (.iload_n 2, 1) := by decide +kernel
theorem dX10_rounds_86 : decode cX10_rounds 86 = .ok (.i2l, 1) := by decide +kernel
theorem dX10_rounds_87 : decode cX10_rounds 87 = .ok (.ladd, 1) := by decide +kernel
theorem dX10_rounds_88 : decode cX10_rounds 88 = .ok (.iload_n 1, 1) := by decide +kernel
theorem dX10_rounds_89 : decode cX10_rounds 89 = .ok (.i2l, 1) := by decide +kernel
theorem dX10_rounds_90 : decode cX10_rounds 90 = .ok (.lrem, 1) := by decide +kernel
theorem dX10_rounds_91 : decode cX10_rounds 91 = .ok (.lstore 6, 2) := by decide +kernel
theorem dX10_rounds_93 : decode cX10_rounds 93 = .ok (.iload_n 1, 1) := by decide +kernel
theorem dX10_rounds_94 : decode cX10_rounds 94 = .ok (.i2l, 1) := by decide +kernel
theorem dX10_rounds_95 : decode cX10_rounds 95 = .ok (.lload 4, 2) := by decide +kernel
theorem dX10_rounds_97 : decode cX10_rounds 97 = .ok (.lload 6, 2) := by decide +kernel
theorem dX10_rounds_99 : decode cX10_rounds 99 = .ok (.lsub, 1) := by decide +kernel
theorem dX10_rounds_100 : decode cX10_rounds 100 = .ok (.invokestatic 362, 3) := by decide +kernel
theorem dX10_rounds_103 : decode cX10_rounds 103 = .ok (.invokestatic 326, 3) := by decide +kernel
theorem dX10_rounds_106 : decode cX10_rounds 106 = .ok (.lstore 9, 2) := by decide +kernel
theorem dX10_rounds_108 : decode cX10_rounds 108 = .ok (.lload 9, 2) := by decide +kernel
theorem dX10_rounds_110 : decode cX10_rounds 110 = .ok (.lconst 1, 1) := by decide +kernel
theorem dX10_rounds_111 : decode cX10_rounds 111 = .ok (.lcmp, 1) := by decide +kernel
theorem dX10_rounds_112 : decode cX10_rounds 112 = .ok (.ifCond .le 16, 3) := by decide +kernel
theorem dX10_rounds_115 : decode cX10_rounds 115 = .ok (.iload_n 3, 1) := by decide +kernel
theorem dX10_rounds_116 : decode cX10_rounds 116 = .ok (.ifCond .ne 9, 3) := by decide +kernel
theorem dX10_rounds_119 : decode cX10_rounds 119 = .ok (.lload 9, 2) := by decide +kernel
theorem dX10_rounds_121 : decode cX10_rounds 121 = .ok (.l2i, 1) := by decide +kernel
theorem dX10_rounds_122 : decode cX10_rounds 122 = .ok (.goto 5, 3) := by decide +kernel
theorem dX10_rounds_125 : decode cX10_rounds 125 = .ok (.iload 8, 2) := by decide +kernel
theorem dX10_rounds_127 : decode cX10_rounds 127 = .ok (.ireturn, 1) := by decide +kernel
theorem dX10_rounds_128 : decode cX10_rounds 128 = .ok (.iinc 8 1, 3) := by decide +kernel
theorem dX10_rounds_131 : decode cX10_rounds 131 = .ok (.goto (-85), 3) := by decide +kernel
theorem dX10_rounds_134 : decode cX10_rounds 134 = .ok (.iconst (-1), 1) := by decide +kernel
theorem dX10_rounds_135 : decode cX10_rounds 135 = .ok (.ireturn, 1) := by decide +kernel
theorem dX10_factor_0 : decode cX10_factor 0 = .ok (.aload_n 0, 1) := by decide +kernel
theorem dX10_factor_1 : decode cX10_factor 1 = .ok (.iload_n 1, 1) := by decide +kernel
theorem dX10_factor_2 : decode cX10_factor 2 = .ok (.iconst 1, 1) := by decide +kernel
theorem dX10_factor_3 : decode cX10_factor 3 = .ok (.invokevirtual 348, 3) := by decide +kernel
theorem dX10_factor_6 : decode cX10_factor 6 = .ok (.iload_n 1, 1) := by decide +kernel
theorem dX10_factor_7 : decode cX10_factor 7 = .ok (.istore_n 3, 1) := by decide +kernel
theorem dX10_factor_8 : decode cX10_factor 8 = .ok (.iconst 0, 1) := by decide +kernel
theorem dX10_factor_9 : decode cX10_factor 9 = .ok (.istore 4, 2) := by decide +kernel
theorem dX10_factor_11 : decode cX10_factor 11 = .ok (.iconst 2, 1) := by decide +kernel
theorem dX10_factor_12 : decode cX10_factor 12 = .ok (.istore 5, 2) := by decide +kernel
theorem dX10_factor_14 : decode cX10_factor 14 = .ok (.iload 5, 2) := by decide +kernel
theorem dX10_factor_16 : decode cX10_factor 16 = .ok (.sipush 31622, 3) := by decide +kernel
theorem dX10_factor_19 : decode cX10_factor 19 = .ok (.if_icmp .gt 58, 3) := by decide +kernel
theorem dX10_factor_22 : decode cX10_factor 22 = .ok (.iload 5, 2) := by decide +kernel
theorem dX10_factor_24 : decode cX10_factor 24 = .ok (.iload 5, 2) := by decide +kernel
theorem dX10_factor_26 : decode cX10_factor 26 = .ok (.imul, 1) := by decide +kernel
theorem dX10_factor_27 : decode cX10_factor 27 = .ok (.iload_n 3, 1) := by decide +kernel
theorem dX10_factor_28 : decode cX10_factor 28 = .ok (.if_icmp .gt 49, 3) := by decide +kernel
theorem dX10_factor_31 : decode cX10_factor 31 = .ok (.iconst 0, 1) := by decide +kernel
theorem dX10_factor_32 : decode cX10_factor 32 = .ok (.istore 6, 2) := by decide +kernel
theorem dX10_factor_34 : decode cX10_factor 34 = .ok (.iload 6, 2) := by decide +kernel
theorem dX10_factor_36 : decode cX10_factor 36 = .ok (.bipush 32, 2) := by decide +kernel
theorem dX10_factor_38 : decode cX10_factor 38 = .ok (.if_icmp .ge 33, 3) := by decide +kernel
theorem dX10_factor_41 : decode cX10_factor 41 = .ok (.iload_n 3, 1) := by decide +kernel
theorem dX10_factor_42 : decode cX10_factor 42 = .ok (.iload 5, 2) := by decide +kernel
theorem dX10_factor_44 : decode cX10_factor 44 = .ok (.irem, 1) := by decide +kernel
theorem dX10_factor_45 : decode cX10_factor 45 = .ok (.ifCond .ne 26, 3) := by decide +kernel
theorem dX10_factor_48 : decode cX10_factor 48 = .ok (.iload 4, 2) := by decide +kernel
theorem dX10_factor_50 : decode cX10_factor 50 = .ok (.iload_n 2, 1) := by decide +kernel
theorem dX10_factor_51 : decode cX10_factor 51 = .ok (.if_icmp .ne 6, 3) := by decide +kernel
theorem dX10_factor_54 : decode cX10_factor 54 = .ok (.iload 5, 2) := by decide +kernel
theorem dX10_factor_56 : decode cX10_factor 56 = .ok (.ireturn, 1) := by decide +kernel
theorem dX10_factor_57 : decode cX10_factor 57 = .ok (.iinc 4 1, 3) := by decide +kernel
theorem dX10_factor_60 : decode cX10_factor 60 = .ok (.iload_n 3, 1) := by decide +kernel
theorem dX10_factor_61 : decode cX10_factor 61 = .ok (.iload 5, 2) := by decide +kernel
theorem dX10_factor_63 : decode cX10_factor 63 = .ok (.idiv, 1) := by decide +kernel
theorem dX10_factor_64 : decode cX10_factor 64 = .ok (.istore_n 3, 1) := by decide +kernel
theorem dX10_factor_65 : decode cX10_factor 65 = .ok (.iinc 6 1, 3) := by decide +kernel
theorem dX10_factor_68 : decode cX10_factor 68 = .ok (.goto (-34), 3) := by decide +kernel
theorem dX10_factor_71 : decode cX10_factor 71 = .ok (.iinc 5 1, 3) := by decide +kernel
theorem dX10_factor_74 : decode cX10_factor 74 = .ok (.goto (-60), 3) := by decide +kernel
theorem dX10_factor_77 : decode cX10_factor 77 = .ok (.iload_n 3, 1) := by decide +kernel
theorem dX10_factor_78 : decode cX10_factor 78 = .ok (.iconst 1, 1) := by decide +kernel
theorem dX10_factor_79 : decode cX10_factor 79 = .ok (.if_icmp .le 14, 3) := by decide +kernel
theorem dX10_factor_82 : decode cX10_factor 82 = .ok (.iload 4, 2) := by decide +kernel
theorem dX10_factor_84 : decode cX10_factor 84 = .ok (.iload_n 2, 1) := by decide +kernel
theorem dX10_factor_85 : decode cX10_factor 85 = .ok (.if_icmp .ne 5, 3) := by decide +kernel
theorem dX10_factor_88 : decode cX10_factor 88 = .ok (.iload_n 3, 1) := by decide +kernel
theorem dX10_factor_89 : decode cX10_factor 89 = .ok (.ireturn, 1) := by decide +kernel
theorem dX10_factor_90 : decode cX10_factor 90 = .ok (.iinc 4 1, 3) := by decide +kernel
theorem dX10_factor_93 : decode cX10_factor 93 = .ok (.iload_n 2, 1) := by decide +kernel
theorem dX10_factor_94 : decode cX10_factor 94 = .ok (.iconst (-1), 1) := by decide +kernel
theorem dX10_factor_95 : decode cX10_factor 95 = .ok (.if_icmp .ne 8, 3) := by decide +kernel
theorem dX10_factor_98 : decode cX10_factor 98 = .ok (.iload 4, 2) := by decide +kernel
theorem dX10_factor_100 : decode cX10_factor 100 = .ok (.goto 4, 3) := by decide +kernel
theorem dX10_factor_103 : decode cX10_factor 103 = .ok (.iconst (-1), 1) := by decide +kernel
theorem dX10_factor_104 : decode cX10_factor 104 = .ok (.ireturn, 1) := by decide +kernel
theorem dX10_smooth_0 : decode cX10_smooth 0 = .ok (.aload_n 0, 1) := by decide +kernel
theorem dX10_smooth_1 : decode cX10_smooth 1 = .ok (.iload_n 1, 1) := by decide +kernel
theorem dX10_smooth_2 : decode cX10_smooth 2 = .ok (.invokevirtual 365, 3) := by decide +kernel
theorem dX10_smooth_5 : decode cX10_smooth 5 = .ok (.aload_n 0, 1) := by decide +kernel
theorem dX10_smooth_6 : decode cX10_smooth 6 = .ok (.iload_n 2, 1) := by decide +kernel
theorem dX10_smooth_7 : decode cX10_smooth 7 = .ok (.invokevirtual 302, 3) := by decide +kernel
theorem dX10_smooth_10 : decode cX10_smooth 10 = .ok (.iconst 0, 1) := by decide +kernel
theorem dX10_smooth_11 : decode cX10_smooth 11 = .ok (.istore_n 3, 1) := by decide +kernel
theorem dX10_smooth_12 : decode cX10_smooth 12 = .ok (.iconst 1, 1) := by decide +kernel
theorem dX10_smooth_13 : decode cX10_smooth 13 = .ok (.istore 4, 2) := by decide +kernel
theorem dX10_smooth_15 : decode cX10_smooth 15 = .ok (.iload 4, 2) := by decide +kernel
theorem dX10_smooth_17 : decode cX10_smooth 17 = .ok (.iload_n 1, 1) := by decide +kernel
theorem dX10_smooth_18 : decode cX10_smooth 18 = .ok (.if_icmp .gt 21, 3) := by decide +kernel
theorem dX10_smooth_21 : decode cX10_smooth 21 = .ok (.iload 4, 2) := by decide +kernel
theorem dX10_smooth_23 : decode cX10_smooth 23 = .ok (.iload_n 2, 1) := by decide +kernel
theorem dX10_smooth_24 : decode cX10_smooth 24 = .ok (.invokestatic 368, 3) := by decide +kernel
theorem dX10_smooth_27 : decode cX10_smooth 27 = .ok (.ifCond .eq 6, 3) := by decide +kernel
theorem dX10_smooth_30 : decode cX10_smooth 30 = .ok (.iinc 3 1, 3) := by decide +kernel
theorem dX10_smooth_33 : decode cX10_smooth 33 = .ok (.iinc 4 1, 3) := by decide +kernel
theorem dX10_smooth_36 : decode cX10_smooth 36 = .ok (.goto (-21), 3) := by decide +kernel
theorem dX10_smooth_39 : decode cX10_smooth 39 = .ok (.iload_n 3, 1) := by decide +kernel
theorem dX10_smooth_40 : decode cX10_smooth 40 = .ok (.ireturn, 1) := by decide +kernel
theorem dX10_primesTo_0 : decode cX10_primesTo 0 = .ok (.aload_n 0, 1) := by decide +kernel
theorem dX10_primesTo_1 : decode cX10_primesTo 1 = .ok (.iload_n 1, 1) := by decide +kernel
theorem dX10_primesTo_2 : decode cX10_primesTo 2 = .ok (.invokevirtual 365, 3) := by decide +kernel
theorem dX10_primesTo_5 : decode cX10_primesTo 5 = .ok (.iconst 0, 1) := by decide +kernel
theorem dX10_primesTo_6 : decode cX10_primesTo 6 = .ok (.istore_n 2, 1) := by decide +kernel
theorem dX10_primesTo_7 : decode cX10_primesTo 7 = .ok (.iconst 2, 1) := by decide +kernel
theorem dX10_primesTo_8 : decode cX10_primesTo 8 = .ok (.istore_n 3, 1) := by decide +kernel
theorem dX10_primesTo_9 : decode cX10_primesTo 9 = .ok (.iload_n 3, 1) := by decide +kernel
theorem dX10_primesTo_10 : decode cX10_primesTo 10 = .ok (.iload_n 1, 1) := by decide +kernel
theorem dX10_primesTo_11 : decode cX10_primesTo 11 = .ok (.if_icmp .gt 20, 3) := by decide +kernel
theorem dX10_primesTo_14 : decode cX10_primesTo 14 = .ok (.iload_n 3, 1) := by decide +kernel
theorem dX10_primesTo_15 : decode cX10_primesTo 15 = .ok (.invokestatic 351, 3) := by decide +kernel
theorem dX10_primesTo_18 : decode cX10_primesTo 18 = .ok (.iload_n 3, 1) := by decide +kernel
theorem dX10_primesTo_19 : decode cX10_primesTo 19 = .ok (.if_icmp .ne 6, 3) := by decide +kernel
theorem dX10_primesTo_22 : decode cX10_primesTo 22 = .ok (.iinc 2 1, 3) := by decide +kernel
theorem dX10_primesTo_25 : decode cX10_primesTo 25 = .ok (.iinc 3 1, 3) := by decide +kernel
theorem dX10_primesTo_28 : decode cX10_primesTo 28 = .ok (.goto (-19), 3) := by decide +kernel
theorem dX10_primesTo_31 : decode cX10_primesTo 31 = .ok (.iload_n 2, 1) := by decide +kernel
theorem dX10_primesTo_32 : decode cX10_primesTo 32 = .ok (.ireturn, 1) := by decide +kernel
theorem dX10_witness_0 : decode cX10_witness 0 = .ok (.aload_n 0, 1) := by decide +kernel
theorem dX10_witness_1 : decode cX10_witness 1 = .ok (.iload_n 1, 1) := by decide +kernel
theorem dX10_witness_2 : decode cX10_witness 2 = .ok (.iconst 2, 1) := by decide +kernel
theorem dX10_witness_3 : decode cX10_witness 3 = .ok (.invokevirtual 348, 3) := by decide +kernel
theorem dX10_witness_6 : decode cX10_witness 6 = .ok (.iconst 2, 1) := by decide +kernel
theorem dX10_witness_7 : decode cX10_witness 7 = .ok (.istore_n 2, 1) := by decide +kernel
theorem dX10_witness_8 : decode cX10_witness 8 = .ok (.iload_n 2, 1) := by decide +kernel
theorem dX10_witness_9 : decode cX10_witness 9 = .ok (.bipush 60, 2) := by decide +kernel
theorem dX10_witness_11 : decode cX10_witness 11 = .ok (.if_icmp .gt 31, 3) := by decide +kernel
theorem dX10_witness_14 : decode cX10_witness 14 = .ok (.iload_n 2, 1) := by decide +kernel
theorem dX10_witness_15 : decode cX10_witness 15 = .ok (.iload_n 1, 1) := by decide +kernel
theorem dX10_witness_16 : decode cX10_witness 16 = .ok (.if_icmp .ge 26, 3) := by decide +kernel
theorem dX10_witness_19 : decode cX10_witness 19 = .ok (.iload_n 2, 1) := by decide +kernel
theorem dX10_witness_20 : decode cX10_witness 20 = .ok (.i2l, 1) := by decide +kernel
theorem dX10_witness_21 : decode cX10_witness 21 = .ok (.iload_n 1, 1) := by decide +kernel
theorem dX10_witness_22 : decode cX10_witness 22 = .ok (.iconst 1, 1) := by decide +kernel
theorem dX10_witness_23 : decode cX10_witness 23 = .ok (.isub, 1) := by decide +kernel
theorem dX10_witness_24 : decode cX10_witness 24 = .ok (.iload_n 1, 1) := by decide +kernel
theorem dX10_witness_25 : decode cX10_witness 25 = .ok (.i2l, 1) := by decide +kernel
theorem dX10_witness_26 : decode cX10_witness 26 = .ok (.invokestatic 203, 3) := by decide +kernel
theorem dX10_witness_29 : decode cX10_witness 29 = .ok (.lconst 1, 1) := by decide +kernel
theorem dX10_witness_30 : decode cX10_witness 30 = .ok (.lcmp, 1) := by decide +kernel
theorem dX10_witness_31 : decode cX10_witness 31 = .ok (.ifCond .eq 5, 3) := by decide +kernel
theorem dX10_witness_34 : decode cX10_witness 34 = .ok (.iload_n 2, 1) := by decide +kernel
theorem dX10_witness_35 : decode cX10_witness 35 = .ok (.ireturn, 1) := by decide +kernel
theorem dX10_witness_36 : decode cX10_witness 36 = .ok (.iinc 2 1, 3) := by decide +kernel
theorem dX10_witness_39 : decode cX10_witness 39 = .ok (.goto (-31), 3) := by decide +kernel
theorem dX10_witness_42 : decode cX10_witness 42 = .ok (.iconst (-1), 1) := by decide +kernel
theorem dX10_witness_43 : decode cX10_witness 43 = .ok (.ireturn, 1) := by decide +kernel
theorem dX10_order_0 : decode cX10_order 0 = .ok (.iload_n 2, 1) := by decide +kernel
theorem dX10_order_1 : decode cX10_order 1 = .ok (.iconst 2, 1) := by decide +kernel
theorem dX10_order_2 : decode cX10_order 2 = .ok (.if_icmp .lt 20, 3) := by decide +kernel
theorem dX10_order_5 : decode cX10_order 5 = .ok (.iload_n 2, 1) := by decide +kernel
theorem dX10_order_6 : decode cX10_order 6 = .ok (.sipush 10000, 3) := by decide +kernel
theorem dX10_order_9 : decode cX10_order 9 = .ok (.if_icmp .gt 13, 3) := by decide +kernel
theorem dX10_order_12 : decode cX10_order 12 = .ok (.iload_n 1, 1) := by decide +kernel
theorem dX10_order_13 : decode cX10_order 13 = .ok (.iconst 1, 1) := by decide +kernel
theorem dX10_order_14 : decode cX10_order 14 = .ok (.if_icmp .lt 8, 3) := by decide +kernel
theorem dX10_order_17 : decode cX10_order 17 = .ok (.iload_n 1, 1) := by decide +kernel
theorem dX10_order_18 : decode cX10_order 18 = .ok (.iload_n 2, 1) := by decide +kernel
theorem dX10_order_19 : decode cX10_order 19 = .ok (.if_icmp .lt 14, 3) := by decide +kernel
theorem dX10_order_22 : decode cX10_order 22 = .ok (.new 90, 3) := by decide +kernel
theorem dX10_order_25 : decode cX10_order 25 = .ok (.dup, 1) := by decide +kernel
theorem dX10_order_26 : decode cX10_order 26 = .ok (.ldc_w 372, 3) := by decide +kernel
theorem dX10_order_29 : decode cX10_order 29 = .ok (.invokespecial 94, 3) := by decide +kernel
theorem dX10_order_32 : decode cX10_order 32 = .ok (.athrow, 1) := by decide +kernel
theorem dX10_order_33 : decode cX10_order 33 = .ok (.iload_n 1, 1) := by decide +kernel
theorem dX10_order_34 : decode cX10_order 34 = .ok (.istore_n 3, 1) := by decide +kernel
theorem dX10_order_35 : decode cX10_order 35 = .ok (.iconst 1, 1) := by decide +kernel
theorem dX10_order_36 : decode cX10_order 36 = .ok (.istore 4, 2) := by decide +kernel
theorem dX10_order_38 : decode cX10_order 38 = .ok (.iload 4, 2) := by decide +kernel
theorem dX10_order_40 : decode cX10_order 40 = .ok (.iload_n 2, 1) := by decide +kernel
theorem dX10_order_41 : decode cX10_order 41 = .ok (.if_icmp .gt 23, 3) := by decide +kernel
theorem dX10_order_44 : decode cX10_order 44 = .ok (.iload_n 3, 1) := by decide +kernel
theorem dX10_order_45 : decode cX10_order 45 = .ok (.iconst 1, 1) := by decide +kernel
theorem dX10_order_46 : decode cX10_order 46 = .ok (.if_icmp .ne 6, 3) := by decide +kernel
theorem dX10_order_49 : decode cX10_order 49 = .ok (.iload 4, 2) := by decide +kernel
theorem dX10_order_51 : decode cX10_order 51 = .ok (.ireturn, 1) := by decide +kernel
theorem dX10_order_52 : decode cX10_order 52 = .ok (.iload_n 3, 1) := by decide +kernel
theorem dX10_order_53 : decode cX10_order 53 = .ok (.iload_n 1, 1) := by decide +kernel
theorem dX10_order_54 : decode cX10_order 54 = .ok (.imul, 1) := by decide +kernel
theorem dX10_order_55 : decode cX10_order 55 = .ok (.iload_n 2, 1) := by decide +kernel
theorem dX10_order_56 : decode cX10_order 56 = .ok (.irem, 1) := by decide +kernel
theorem dX10_order_57 : decode cX10_order 57 = .ok (.istore_n 3, 1) := by decide +kernel
theorem dX10_order_58 : decode cX10_order 58 = .ok (.iinc 4 1, 3) := by decide +kernel
theorem dX10_order_61 : decode cX10_order 61 = .ok (.goto (-23), 3) := by decide +kernel
theorem dX10_order_64 : decode cX10_order 64 = .ok (.iconst (-1), 1) := by decide +kernel
theorem dX10_order_65 : decode cX10_order 65 = .ok (.ireturn, 1) := by decide +kernel
theorem dX10_owe_0 : decode cX10_owe 0 = .ok (.aload_n 0, 1) := by decide +kernel
theorem dX10_owe_1 : decode cX10_owe 1 = .ok (.iload_n 1, 1) := by decide +kernel
theorem dX10_owe_2 : decode cX10_owe 2 = .ok (.iload_n 2, 1) := by decide +kernel
theorem dX10_owe_3 : decode cX10_owe 3 = .ok (.invokevirtual 165, 3) := by decide +kernel
theorem dX10_owe_6 : decode cX10_owe 6 = .ok (.lload_n 3, 1) := by decide +kernel
theorem dX10_owe_7 : decode cX10_owe 7 = .ok (.lconst 1, 1) := by decide +kernel
theorem dX10_owe_8 : decode cX10_owe 8 = .ok (.lcmp, 1) := by decide +kernel
theorem dX10_owe_9 : decode cX10_owe 9 = .ok (.ifCond .lt 11, 3) := by decide +kernel
theorem dX10_owe_12 : decode cX10_owe 12 = .ok (.lload_n 3, 1) := by decide +kernel
theorem dX10_owe_13 : decode cX10_owe 13 = .ok (.ldc2_w 374, 3) := by decide +kernel
theorem dX10_owe_16 : decode cX10_owe 16 = .ok (.lcmp, 1) := by decide +kernel
theorem dX10_owe_17 : decode cX10_owe 17 = .ok (.ifCond .le 14, 3) := by decide +kernel
theorem dX10_owe_20 : decode cX10_owe 20 = .ok (.new 90, 3) := by decide +kernel
theorem dX10_owe_23 : decode cX10_owe 23 = .ok (.dup, 1) := by decide +kernel
theorem dX10_owe_24 : decode cX10_owe 24 = .ok (.ldc_w 376, 3) := by decide +kernel
theorem dX10_owe_27 : decode cX10_owe 27 = .ok (.invokespecial 94, 3) := by decide +kernel
theorem dX10_owe_30 : decode cX10_owe 30 = .ok (.athrow, 1) := by decide +kernel
theorem dX10_owe_31 : decode cX10_owe 31 = .ok (.aload_n 0, 1) := by decide +kernel
theorem dX10_owe_32 : decode cX10_owe 32 = .ok (.getfield 26, 3) := by decide +kernel
theorem dX10_owe_35 : decode cX10_owe 35 = .ok (.getfield 378, 3) := by decide +kernel
theorem dX10_owe_38 : decode cX10_owe 38 = .ok (.iload_n 1, 1) := by decide +kernel
theorem dX10_owe_39 : decode cX10_owe 39 = .ok (.iload_n 2, 1) := by decide +kernel
theorem dX10_owe_40 : decode cX10_owe 40 = .ok (.invokevirtual 382, 3) := by decide +kernel
theorem dX10_owe_43 : decode cX10_owe 43 = .ok (.lload_n 3, 1) := by decide +kernel
theorem dX10_owe_44 : decode cX10_owe 44 = .ok (.lmul, 1) := by decide +kernel
theorem dX10_owe_45 : decode cX10_owe 45 = .ok (.lstore 5, 2) := by decide +kernel
theorem dX10_owe_47 : decode cX10_owe 47 = .ok (.lload 5, 2) := by decide +kernel
theorem dX10_owe_49 : decode cX10_owe 49 = .ok (.ldc2_w 199, 3) := by decide +kernel
theorem dX10_owe_52 : decode cX10_owe 52 = .ok (.lcmp, 1) := by decide +kernel
theorem dX10_owe_53 : decode cX10_owe 53 = .ok (.ifCond .le 14, 3) := by decide +kernel
theorem dX10_owe_56 : decode cX10_owe 56 = .ok (.new 187, 3) := by decide +kernel
theorem dX10_owe_59 : decode cX10_owe 59 = .ok (.dup, 1) := by decide +kernel
theorem dX10_owe_60 : decode cX10_owe 60 = .ok (.ldc_w 388, 3) := by decide +kernel
theorem dX10_owe_63 : decode cX10_owe 63 = .ok (.invokespecial 191, 3) := by decide +kernel
theorem dX10_owe_66 : decode cX10_owe 66 = .ok (.athrow, 1) := by decide +kernel
theorem dX10_owe_67 : decode cX10_owe 67 = .ok (.aload_n 0, 1) := by decide +kernel
theorem dX10_owe_68 : decode cX10_owe 68 = .ok (.getfield 26, 3) := by decide +kernel
theorem dX10_owe_71 : decode cX10_owe 71 = .ok (.getfield 378, 3) := by decide +kernel
theorem dX10_owe_74 : decode cX10_owe 74 = .ok (.iload_n 1, 1) := by decide +kernel
theorem dX10_owe_75 : decode cX10_owe 75 = .ok (.iload_n 2, 1) := by decide +kernel
theorem dX10_owe_76 : decode cX10_owe 76 = .ok (.lload 5, 2) := by decide +kernel
theorem dX10_owe_78 : decode cX10_owe 78 = .ok (.invokevirtual 390, 3) := by decide +kernel
theorem dX10_owe_81 : decode cX10_owe 81 = .ok (.lload 5, 2) := by decide +kernel
theorem dX10_owe_83 : decode cX10_owe 83 = .ok (.lreturn, 1) := by decide +kernel
theorem dX10_owed_0 : decode cX10_owed 0 = .ok (.aload_n 0, 1) := by decide +kernel
theorem dX10_owed_1 : decode cX10_owed 1 = .ok (.iload_n 1, 1) := by decide +kernel
theorem dX10_owed_2 : decode cX10_owed 2 = .ok (.invokevirtual 129, 3) := by decide +kernel
theorem dX10_owed_5 : decode cX10_owed 5 = .ok (.aload_n 0, 1) := by decide +kernel
theorem dX10_owed_6 : decode cX10_owed 6 = .ok (.iload_n 2, 1) := by decide +kernel
theorem dX10_owed_7 : decode cX10_owed 7 = .ok (.invokevirtual 129, 3) := by decide +kernel
theorem dX10_owed_10 : decode cX10_owed 10 = .ok (.aload_n 0, 1) := by decide +kernel
theorem dX10_owed_11 : decode cX10_owed 11 = .ok (.getfield 26, 3) := by decide +kernel
theorem dX10_owed_14 : decode cX10_owed 14 = .ok (.getfield 378, 3) := by decide +kernel
theorem dX10_owed_17 : decode cX10_owed 17 = .ok (.iload_n 1, 1) := by decide +kernel
theorem dX10_owed_18 : decode cX10_owed 18 = .ok (.iload_n 2, 1) := by decide +kernel
theorem dX10_owed_19 : decode cX10_owed 19 = .ok (.invokevirtual 382, 3) := by decide +kernel
theorem dX10_owed_22 : decode cX10_owed 22 = .ok (.lreturn, 1) := by decide +kernel
theorem dX10_struck_0 : decode cX10_struck 0 = .ok (.aload_n 0, 1) := by decide +kernel
theorem dX10_struck_1 : decode cX10_struck 1 = .ok (.getfield 26, 3) := by decide +kernel
theorem dX10_struck_4 : decode cX10_struck 4 = .ok (.getfield 378, 3) := by decide +kernel
theorem dX10_struck_7 : decode cX10_struck 7 = .ok (.invokevirtual 394, 3) := by decide +kernel
theorem dX10_struck_10 : decode cX10_struck 10 = .ok (.ireturn, 1) := by decide +kernel
theorem dX10_tray_0 : decode cX10_tray 0 = .ok (.iload_n 1, 1) := by decide +kernel
theorem dX10_tray_1 : decode cX10_tray 1 = .ok (.ifCond .lt 8, 3) := by decide +kernel
theorem dX10_tray_4 : decode cX10_tray 4 = .ok (.iload_n 1, 1) := by decide +kernel
theorem dX10_tray_5 : decode cX10_tray 5 = .ok (.iconst 4, 1) := by decide +kernel
theorem dX10_tray_6 : decode cX10_tray 6 = .ok (.if_icmp .lt 14, 3) := by decide +kernel
theorem dX10_tray_9 : decode cX10_tray 9 = .ok (.new 120, 3) := by decide +kernel
theorem dX10_tray_12 : decode cX10_tray 12 = .ok (.dup, 1) := by decide +kernel
theorem dX10_tray_13 : decode cX10_tray 13 = .ok (.ldc_w 397, 3) := by decide +kernel
theorem dX10_tray_16 : decode cX10_tray 16 = .ok (.invokespecial 124, 3) := by decide +kernel
theorem dX10_tray_19 : decode cX10_tray 19 = .ok (.athrow, 1) := by decide +kernel
theorem dX10_tray_20 : decode cX10_tray 20 = .ok (.iload_n 2, 1) := by decide +kernel
theorem dX10_tray_21 : decode cX10_tray 21 = .ok (.ifCond .lt 18, 3) := by decide +kernel
theorem dX10_tray_24 : decode cX10_tray 24 = .ok (.iload_n 2, 1) := by decide +kernel
theorem dX10_tray_25 : decode cX10_tray 25 = .ok (.iconst 3, 1) := by decide +kernel
theorem dX10_tray_26 : decode cX10_tray 26 = .ok (.if_icmp .gt 13, 3) := by decide +kernel
theorem dX10_tray_29 : decode cX10_tray 29 = .ok (.iload_n 3, 1) := by decide +kernel
theorem dX10_tray_30 : decode cX10_tray 30 = .ok (.ifCond .lt 9, 3) := by decide +kernel
theorem dX10_tray_33 : decode cX10_tray 33 = .ok (.iload_n 3, 1) := by decide +kernel
theorem dX10_tray_34 : decode cX10_tray 34 = .ok (.bipush 30, 2) := by decide +kernel
theorem dX10_tray_36 : decode cX10_tray 36 = .ok (.if_icmp .le 14, 3) := by decide +kernel
theorem dX10_tray_39 : decode cX10_tray 39 = .ok (.new 90, 3) := by decide +kernel
theorem dX10_tray_42 : decode cX10_tray 42 = .ok (.dup, 1) := by decide +kernel
theorem dX10_tray_43 : decode cX10_tray 43 = .ok (.ldc_w 399, 3) := by decide +kernel
theorem dX10_tray_46 : decode cX10_tray 46 = .ok (.invokespecial 94, 3) := by decide +kernel
theorem dX10_tray_49 : decode cX10_tray 49 = .ok (.athrow, 1) := by decide +kernel
theorem dX10_tray_50 : decode cX10_tray 50 = .ok (.aload_n 0, 1) := by decide +kernel
theorem dX10_tray_51 : decode cX10_tray 51 = .ok (.getfield 43, 3) := by decide +kernel
theorem dX10_tray_54 : decode cX10_tray 54 = .ok (.iload_n 1, 1) := by decide +kernel
theorem dX10_tray_55 : decode cX10_tray 55 = .ok (.aaload, 1) := by decide +kernel
theorem dX10_tray_56 : decode cX10_tray 56 = .ok (.iload_n 2, 1) := by decide +kernel
theorem dX10_tray_57 : decode cX10_tray 57 = .ok (.iload_n 3, 1) := by decide +kernel
theorem dX10_tray_58 : decode cX10_tray 58 = .ok (.invokevirtual 401, 3) := by decide +kernel
theorem dX10_tray_61 : decode cX10_tray 61 = .ok (.return_, 1) := by decide +kernel
theorem dX10_write_0 : decode cX10_write 0 = .ok (.aload_n 0, 1) := by decide +kernel
theorem dX10_write_1 : decode cX10_write 1 = .ok (.iload_n 1, 1) := by decide +kernel
theorem dX10_write_2 : decode cX10_write 2 = .ok (.invokevirtual 223, 3) := by decide +kernel
theorem dX10_write_5 : decode cX10_write 5 = .ok (.astore 5, 2) := by decide +kernel
theorem dX10_write_7 : decode cX10_write 7 = .ok (.iload_n 2, 1) := by decide +kernel
theorem dX10_write_8 : decode cX10_write 8 = .ok (.ifCond .lt 12, 3) := by decide +kernel
theorem dX10_write_11 : decode cX10_write 11 = .ok (.iload_n 2, 1) := by decide +kernel
theorem dX10_write_12 : decode cX10_write 12 = .ok (.aload 5, 2) := by decide +kernel
theorem dX10_write_14 : decode cX10_write 14 = .ok (.getfield 234, 3) := by decide +kernel
theorem dX10_write_17 : decode cX10_write 17 = .ok (.if_icmp .lt 14, 3) := by decide +kernel
theorem dX10_write_20 : decode cX10_write 20 = .ok (.new 404, 3) := by decide +kernel
theorem dX10_write_23 : decode cX10_write 23 = .ok (.dup, 1) := by decide +kernel
theorem dX10_write_24 : decode cX10_write 24 = .ok (.ldc_w 406, 3) := by decide +kernel
theorem dX10_write_27 : decode cX10_write 27 = .ok (.invokespecial 408, 3) := by decide +kernel
theorem dX10_write_30 : decode cX10_write 30 = .ok (.athrow, 1) := by decide +kernel
theorem dX10_write_31 : decode cX10_write 31 = .ok (.aload 5, 2) := by decide +kernel
theorem dX10_write_33 : decode cX10_write 33 = .ok (.iload_n 2, 1) := by decide +kernel
theorem dX10_write_34 : decode cX10_write 34 = .ok (.lload_n 3, 1) := by decide +kernel
theorem dX10_write_35 : decode cX10_write 35 = .ok (.invokevirtual 409, 3) := by decide +kernel
theorem dX10_write_38 : decode cX10_write 38 = .ok (.lreturn, 1) := by decide +kernel
theorem dX10_pour_0 : decode cX10_pour 0 = .ok (.aload_n 0, 1) := by decide +kernel
theorem dX10_pour_1 : decode cX10_pour 1 = .ok (.iload_n 1, 1) := by decide +kernel
theorem dX10_pour_2 : decode cX10_pour 2 = .ok (.invokevirtual 223, 3) := by decide +kernel
theorem dX10_pour_5 : decode cX10_pour 5 = .ok (.astore_n 2, 1) := by decide +kernel
theorem dX10_pour_6 : decode cX10_pour 6 = .ok (.aload_n 0, 1) := by decide +kernel
theorem dX10_pour_7 : decode cX10_pour 7 = .ok (.getfield 26, 3) := by decide +kernel
theorem dX10_pour_10 : decode cX10_pour 10 = .ok (.getfield 211, 3) := by decide +kernel
theorem dX10_pour_13 : decode cX10_pour 13 = .ok (.aload_n 2, 1) := by decide +kernel
theorem dX10_pour_14 : decode cX10_pour 14 = .ok (.getfield 234, 3) := by decide +kernel
theorem dX10_pour_17 : decode cX10_pour 17 = .ok (.invokestatic 413, 3) := by decide +kernel
theorem dX10_pour_20 : decode cX10_pour 20 = .ok (.istore_n 3, 1) := by decide +kernel
theorem dX10_pour_21 : decode cX10_pour 21 = .ok (.iconst 0, 1) := by decide +kernel
theorem dX10_pour_22 : decode cX10_pour 22 = .ok (.istore 4, 2) := by decide +kernel
theorem dX10_pour_24 : decode cX10_pour 24 = .ok (.iload 4, 2) := by decide +kernel
theorem dX10_pour_26 : decode cX10_pour 26 = .ok (.iload_n 3, 1) := by decide +kernel
theorem dX10_pour_27 : decode cX10_pour 27 = .ok (.if_icmp .ge 25, 3) := by decide +kernel
theorem dX10_pour_30 : decode cX10_pour 30 = .ok (.aload_n 2, 1) := by decide +kernel
theorem dX10_pour_31 : decode cX10_pour 31 = .ok (.iload 4, 2) := by decide +kernel
theorem dX10_pour_33 : decode cX10_pour 33 = .ok (.aload_n 0, 1) := by decide +kernel
theorem dX10_pour_34 : decode cX10_pour 34 = .ok (.getfield 26, 3) := by decide +kernel
theorem dX10_pour_37 : decode cX10_pour 37 = .ok (.iload 4, 2) := by decide +kernel
theorem dX10_pour_39 : decode cX10_pour 39 = .ok (.invokevirtual 155, 3) := by decide +kernel
theorem dX10_pour_42 : decode cX10_pour 42 = .ok (.invokevirtual 409, 3) := by decide +kernel
theorem dX10_pour_45 : decode cX10_pour 45 = .ok (.pop2, 1) := by decide +kernel
theorem dX10_pour_46 : decode cX10_pour 46 = .ok (.iinc 4 1, 3) := by decide +kernel
theorem dX10_pour_49 : decode cX10_pour 49 = .ok (.goto (-25), 3) := by decide +kernel
theorem dX10_pour_52 : decode cX10_pour 52 = .ok (.iload_n 3, 1) := by decide +kernel
theorem dX10_pour_53 : decode cX10_pour 53 = .ok (.ireturn, 1) := by decide +kernel
theorem dX10_image_0 : decode cX10_image 0 = .ok (.aload_n 0, 1) := by decide +kernel
theorem dX10_image_1 : decode cX10_image 1 = .ok (.iload_n 1, 1) := by decide +kernel
theorem dX10_image_2 : decode cX10_image 2 = .ok (.invokevirtual 416, 3) := by decide +kernel
theorem dX10_image_5 : decode cX10_image 5 = .ok (.aload_n 0, 1) := by decide +kernel
theorem dX10_image_6 : decode cX10_image 6 = .ok (.getfield 33, 3) := by decide +kernel
theorem dX10_image_9 : decode cX10_image 9 = .ok (.iload_n 1, 1) := by decide +kernel
theorem dX10_image_10 : decode cX10_image 10 = .ok (.aaload, 1) := by decide +kernel
theorem dX10_image_11 : decode cX10_image 11 = .ok (.aload_n 0, 1) := by decide +kernel
theorem dX10_image_12 : decode cX10_image 12 = .ok (.getfield 26, 3) := by decide +kernel
theorem dX10_image_15 : decode cX10_image 15 = .ok (.invokevirtual 110, 3) := by decide +kernel
theorem dX10_image_18 : decode cX10_image 18 = .ok (.aload_n 0, 1) := by decide +kernel
theorem dX10_image_19 : decode cX10_image 19 = .ok (.getfield 37, 3) := by decide +kernel
theorem dX10_image_22 : decode cX10_image 22 = .ok (.iload_n 1, 1) := by decide +kernel
theorem dX10_image_23 : decode cX10_image 23 = .ok (.iconst 1, 1) := by decide +kernel
theorem dX10_image_24 : decode cX10_image 24 = .ok (.bastore, 1) := by decide +kernel
theorem dX10_image_25 : decode cX10_image 25 = .ok (.return_, 1) := by decide +kernel
theorem dX10_restore_0 : decode cX10_restore 0 = .ok (.aload_n 0, 1) := by decide +kernel
theorem dX10_restore_1 : decode cX10_restore 1 = .ok (.iload_n 1, 1) := by decide +kernel
theorem dX10_restore_2 : decode cX10_restore 2 = .ok (.invokevirtual 416, 3) := by decide +kernel
theorem dX10_restore_5 : decode cX10_restore 5 = .ok (.aload_n 0, 1) := by decide +kernel
theorem dX10_restore_6 : decode cX10_restore 6 = .ok (.getfield 37, 3) := by decide +kernel
theorem dX10_restore_9 : decode cX10_restore 9 = .ok (.iload_n 1, 1) := by decide +kernel
theorem dX10_restore_10 : decode cX10_restore 10 = .ok (.baload, 1) := by decide +kernel
theorem dX10_restore_11 : decode cX10_restore 11 = .ok (.ifCond .ne 14, 3) := by decide +kernel
theorem dX10_restore_14 : decode cX10_restore 14 = .ok (.new 187, 3) := by decide +kernel
theorem dX10_restore_17 : decode cX10_restore 17 = .ok (.dup, 1) := by decide +kernel
theorem dX10_restore_18 : decode cX10_restore 18 = .ok (.ldc_w 419, 3) := by decide +kernel
theorem dX10_restore_21 : decode cX10_restore 21 = .ok (.invokespecial 191, 3) := by decide +kernel
theorem dX10_restore_24 : decode cX10_restore 24 = .ok (.athrow, 1) := by decide +kernel
theorem dX10_restore_25 : decode cX10_restore 25 = .ok (.aload_n 0, 1) := by decide +kernel
theorem dX10_restore_26 : decode cX10_restore 26 = .ok (.getfield 26, 3) := by decide +kernel
theorem dX10_restore_29 : decode cX10_restore 29 = .ok (.aload_n 0, 1) := by decide +kernel
theorem dX10_restore_30 : decode cX10_restore 30 = .ok (.getfield 33, 3) := by decide +kernel
theorem dX10_restore_33 : decode cX10_restore 33 = .ok (.iload_n 1, 1) := by decide +kernel
theorem dX10_restore_34 : decode cX10_restore 34 = .ok (.aaload, 1) := by decide +kernel
theorem dX10_restore_35 : decode cX10_restore 35 = .ok (.invokevirtual 110, 3) := by decide +kernel
theorem dX10_restore_38 : decode cX10_restore 38 = .ok (.return_, 1) := by decide +kernel
theorem dX10_count_0 : decode cX10_count 0 = .ok (.iload_n 1, 1) := by decide +kernel
theorem dX10_count_1 : decode cX10_count 1 = .ok (.tableswitch 111 0 7 #[47, 55, 63, 71, 79, 87, 95, 106], 47) := by decide +kernel
theorem dX10_count_48 : decode cX10_count 48 = .ok (.aload_n 0, 1) := by decide +kernel
theorem dX10_count_49 : decode cX10_count 49 = .ok (.getfield 26, 3) := by decide +kernel
theorem dX10_count_52 : decode cX10_count 52 = .ok (.getfield 114, 3) := by decide +kernel
theorem dX10_count_55 : decode cX10_count 55 = .ok (.ireturn, 1) := by decide +kernel
theorem dX10_count_56 : decode cX10_count 56 = .ok (.aload_n 0, 1) := by decide +kernel
theorem dX10_count_57 : decode cX10_count 57 = .ok (.getfield 26, 3) := by decide +kernel
theorem dX10_count_60 : decode cX10_count 60 = .ok (.getfield 117, 3) := by decide +kernel
theorem dX10_count_63 : decode cX10_count 63 = .ok (.ireturn, 1) := by decide +kernel
theorem dX10_count_64 : decode cX10_count 64 = .ok (.aload_n 0, 1) := by decide +kernel
theorem dX10_count_65 : decode cX10_count 65 = .ok (.getfield 26, 3) := by decide +kernel
theorem dX10_count_68 : decode cX10_count 68 = .ok (.getfield 211, 3) := by decide +kernel
theorem dX10_count_71 : decode cX10_count 71 = .ok (.ireturn, 1) := by decide +kernel
theorem dX10_count_72 : decode cX10_count 72 = .ok (.aload_n 0, 1) := by decide +kernel
theorem dX10_count_73 : decode cX10_count 73 = .ok (.getfield 26, 3) := by decide +kernel
theorem dX10_count_76 : decode cX10_count 76 = .ok (.getfield 305, 3) := by decide +kernel
theorem dX10_count_79 : decode cX10_count 79 = .ok (.ireturn, 1) := by decide +kernel
theorem dX10_count_80 : decode cX10_count 80 = .ok (.aload_n 0, 1) := by decide +kernel
theorem dX10_count_81 : decode cX10_count 81 = .ok (.getfield 26, 3) := by decide +kernel
theorem dX10_count_84 : decode cX10_count 84 = .ok (.invokevirtual 421, 3) := by decide +kernel
theorem dX10_count_87 : decode cX10_count 87 = .ok (.ireturn, 1) := by decide +kernel
theorem dX10_count_88 : decode cX10_count 88 = .ok (.aload_n 0, 1) := by decide +kernel
theorem dX10_count_89 : decode cX10_count 89 = .ok (.getfield 26, 3) := by decide +kernel
theorem dX10_count_92 : decode cX10_count 92 = .ok (.invokevirtual 424, 3) := by decide +kernel
theorem dX10_count_95 : decode cX10_count 95 = .ok (.ireturn, 1) := by decide +kernel
theorem dX10_count_96 : decode cX10_count 96 = .ok (.aload_n 0, 1) := by decide +kernel
theorem dX10_count_97 : decode cX10_count 97 = .ok (.getfield 26, 3) := by decide +kernel
theorem dX10_count_100 : decode cX10_count 100 = .ok (.getfield 378, 3) := by decide +kernel
theorem dX10_count_103 : decode cX10_count 103 = .ok (.invokevirtual 427, 3) := by decide +kernel
theorem dX10_count_106 : decode cX10_count 106 = .ok (.ireturn, 1) := by decide +kernel
theorem dX10_count_107 : decode cX10_count 107 = .ok (.aload_n 0, 1) := by decide +kernel
theorem dX10_count_108 : decode cX10_count 108 = .ok (.getfield 13, 3) := by decide +kernel
theorem dX10_count_111 : decode cX10_count 111 = .ok (.ireturn, 1) := by decide +kernel
theorem dX10_count_112 : decode cX10_count 112 = .ok (.iconst (-1), 1) := by decide +kernel
theorem dX10_count_113 : decode cX10_count 113 = .ok (.ireturn, 1) := by decide +kernel
theorem dX10_lay_0 : decode cX10_lay 0 = .ok (.bipush 24, 2) := by decide +kernel
theorem dX10_lay_2 : decode cX10_lay 2 = .ok (.istore_n 2, 1) := by decide +kernel
theorem dX10_lay_3 : decode cX10_lay 3 = .ok (.iload_n 2, 1) := by decide +kernel
theorem dX10_lay_4 : decode cX10_lay 4 = .ok (.ifCond .lt 45, 3) := by decide +kernel
theorem dX10_lay_7 : decode cX10_lay 7 = .ok (.aload_n 0, 1) := by decide +kernel
theorem dX10_lay_8 : decode cX10_lay 8 = .ok (.getfield 13, 3) := by decide +kernel
theorem dX10_lay_11 : decode cX10_lay 11 = .ok (.sipush 700, 3) := by decide +kernel
theorem dX10_lay_14 : decode cX10_lay 14 = .ok (.if_icmp .ge 35, 3) := by decide +kernel
theorem dX10_lay_17 : decode cX10_lay 17 = .ok (.aload_n 0, 1) := by decide +kernel
theorem dX10_lay_18 : decode cX10_lay 18 = .ok (.getfield 9, 3) := by decide +kernel
theorem dX10_lay_21 : decode cX10_lay 21 = .ok (.aload_n 0, 1) := by decide +kernel
theorem dX10_lay_22 : decode cX10_lay 22 = .ok (.getfield 13, 3) := by decide +kernel
theorem dX10_lay_25 : decode cX10_lay 25 = .ok (.iload_n 1, 1) := by decide +kernel
theorem dX10_lay_26 : decode cX10_lay 26 = .ok (.iload_n 2, 1) := by decide +kernel
theorem dX10_lay_27 : decode cX10_lay 27 = .ok (.iushr, 1) := by decide +kernel
theorem dX10_lay_28 : decode cX10_lay 28 = .ok (.sipush 255, 3) := by decide +kernel
theorem dX10_lay_31 : decode cX10_lay 31 = .ok (.iand, 1) := by decide +kernel
theorem dX10_lay_32 : decode cX10_lay 32 = .ok (.iastore, 1) := by decide +kernel
theorem dX10_lay_33 : decode cX10_lay 33 = .ok (.aload_n 0, 1) := by decide +kernel
theorem dX10_lay_34 : decode cX10_lay 34 = .ok (.dup, 1) := by decide +kernel
theorem dX10_lay_35 : decode cX10_lay 35 = .ok (.getfield 13, 3) := by decide +kernel
theorem dX10_lay_38 : decode cX10_lay 38 = .ok (.iconst 1, 1) := by decide +kernel
theorem dX10_lay_39 : decode cX10_lay 39 = .ok (.iadd, 1) := by decide +kernel
theorem dX10_lay_40 : decode cX10_lay 40 = .ok (.putfield 13, 3) := by decide +kernel
theorem dX10_lay_43 : decode cX10_lay 43 = .ok (.iinc 2 (-8), 3) := by decide +kernel
theorem dX10_lay_46 : decode cX10_lay 46 = .ok (.goto (-43), 3) := by decide +kernel
theorem dX10_lay_49 : decode cX10_lay 49 = .ok (.return_, 1) := by decide +kernel
theorem dX10_payFault_0 : decode cX10_payFault 0 = .ok (.aload_n 0, 1) := by decide +kernel
theorem dX10_payFault_1 : decode cX10_payFault 1 = .ok (.getfield 26, 3) := by decide +kernel
theorem dX10_payFault_4 : decode cX10_payFault 4 = .ok (.lload_n 3, 1) := by decide +kernel
theorem dX10_payFault_5 : decode cX10_payFault 5 = .ok (.aload_n 0, 1) := by decide +kernel
theorem dX10_payFault_6 : decode cX10_payFault 6 = .ok (.getfield 47, 3) := by decide +kernel
theorem dX10_payFault_9 : decode cX10_payFault 9 = .ok (.invokevirtual 430, 3) := by decide +kernel
theorem dX10_payFault_12 : decode cX10_payFault 12 = .ok (.ifCond .ne 5, 3) := by decide +kernel
theorem dX10_payFault_15 : decode cX10_payFault 15 = .ok (.iconst 1, 1) := by decide +kernel
theorem dX10_payFault_16 : decode cX10_payFault 16 = .ok (.ireturn, 1) := by decide +kernel
theorem dX10_payFault_17 : decode cX10_payFault 17 = .ok (.aload_n 0, 1) := by decide +kernel
theorem dX10_payFault_18 : decode cX10_payFault 18 = .ok (.getfield 26, 3) := by decide +kernel
theorem dX10_payFault_21 : decode cX10_payFault 21 = .ok (.iconst 1, 1) := by decide +kernel
theorem dX10_payFault_22 : decode cX10_payFault 22 = .ok (.iload_n 1, 1) := by decide +kernel
theorem dX10_payFault_23 : decode cX10_payFault 23 = .ok (.ishl, 1) := by decide +kernel
theorem dX10_payFault_24 : decode cX10_payFault 24 = .ok (.aload_n 0, 1) := by decide +kernel
theorem dX10_payFault_25 : decode cX10_payFault 25 = .ok (.getfield 47, 3) := by decide +kernel
theorem dX10_payFault_28 : decode cX10_payFault 28 = .ok (.invokevirtual 294, 3) := by decide +kernel
theorem dX10_payFault_31 : decode cX10_payFault 31 = .ok (.ifCond .ne 5, 3) := by decide +kernel
theorem dX10_payFault_34 : decode cX10_payFault 34 = .ok (.iconst 2, 1) := by decide +kernel
theorem dX10_payFault_35 : decode cX10_payFault 35 = .ok (.ireturn, 1) := by decide +kernel
theorem dX10_payFault_36 : decode cX10_payFault 36 = .ok (.iconst 0, 1) := by decide +kernel
theorem dX10_payFault_37 : decode cX10_payFault 37 = .ok (.istore 5, 2) := by decide +kernel
theorem dX10_payFault_39 : decode cX10_payFault 39 = .ok (.iconst 0, 1) := by decide +kernel
theorem dX10_payFault_40 : decode cX10_payFault 40 = .ok (.istore 6, 2) := by decide +kernel
theorem dX10_payFault_42 : decode cX10_payFault 42 = .ok (.iload 6, 2) := by decide +kernel
theorem dX10_payFault_44 : decode cX10_payFault 44 = .ok (.bipush 8, 2) := by decide +kernel
theorem dX10_payFault_46 : decode cX10_payFault 46 = .ok (.if_icmp .ge 21, 3) := by decide +kernel
theorem dX10_payFault_49 : decode cX10_payFault 49 = .ok (.iload 5, 2) := by decide +kernel
theorem dX10_payFault_51 : decode cX10_payFault 51 = .ok (.aload_n 0, 1) := by decide +kernel
theorem dX10_payFault_52 : decode cX10_payFault 52 = .ok (.getfield 47, 3) := by decide +kernel
theorem dX10_payFault_55 : decode cX10_payFault 55 = .ok (.iload 6, 2) := by decide +kernel
theorem dX10_payFault_57 : decode cX10_payFault 57 = .ok (.iaload, 1) := by decide +kernel
theorem dX10_payFault_58 : decode cX10_payFault 58 = .ok (.iadd, 1) := by decide +kernel
theorem dX10_payFault_59 : decode cX10_payFault 59 = .ok (.istore 5, 2) := by decide +kernel
theorem dX10_payFault_61 : decode cX10_payFault 61 = .ok (.iinc 6 1, 3) := by decide +kernel
theorem dX10_payFault_64 : decode cX10_payFault 64 = .ok (.goto (-22), 3) := by decide +kernel
theorem dX10_payFault_67 : decode cX10_payFault 67 = .ok (.aload_n 0, 1) := by decide +kernel
theorem dX10_payFault_68 : decode cX10_payFault 68 = .ok (.getfield 26, 3) := by decide +kernel
theorem dX10_payFault_71 : decode cX10_payFault 71 = .ok (.iload_n 2, 1) := by decide +kernel
theorem dX10_payFault_72 : decode cX10_payFault 72 = .ok (.invokevirtual 143, 3) := by decide +kernel
theorem dX10_payFault_75 : decode cX10_payFault 75 = .ok (.iload 5, 2) := by decide +kernel
theorem dX10_payFault_77 : decode cX10_payFault 77 = .ok (.iadd, 1) := by decide +kernel
theorem dX10_payFault_78 : decode cX10_payFault 78 = .ok (.bipush 9, 2) := by decide +kernel
theorem dX10_payFault_80 : decode cX10_payFault 80 = .ok (.if_icmp .le 7, 3) := by decide +kernel
theorem dX10_payFault_83 : decode cX10_payFault 83 = .ok (.iconst 3, 1) := by decide +kernel
theorem dX10_payFault_84 : decode cX10_payFault 84 = .ok (.goto 4, 3) := by decide +kernel
theorem dX10_payFault_87 : decode cX10_payFault 87 = .ok (.iconst 0, 1) := by decide +kernel
theorem dX10_payFault_88 : decode cX10_payFault 88 = .ok (.ireturn, 1) := by decide +kernel
theorem dX10_yearStep_0 : decode cX10_yearStep 0 = .ok (.aload_n 0, 1) := by decide +kernel
theorem dX10_yearStep_1 : decode cX10_yearStep 1 = .ok (.getfield 81, 3) := by decide +kernel
theorem dX10_yearStep_4 : decode cX10_yearStep 4 = .ok (.aload_n 0, 1) := by decide +kernel
theorem dX10_yearStep_5 : decode cX10_yearStep 5 = .ok (.getfield 26, 3) := by decide +kernel
theorem dX10_yearStep_8 : decode cX10_yearStep 8 = .ok (.getfield 211, 3) := by decide +kernel
theorem dX10_yearStep_11 : decode cX10_yearStep 11 = .ok (.invokevirtual 434, 3) := by decide +kernel
theorem dX10_yearStep_14 : decode cX10_yearStep 14 = .ok (.istore_n 1, 1) := by decide +kernel
theorem dX10_yearStep_15 : decode cX10_yearStep 15 = .ok (.aload_n 0, 1) := by decide +kernel
theorem dX10_yearStep_16 : decode cX10_yearStep 16 = .ok (.getfield 81, 3) := by decide +kernel
theorem dX10_yearStep_19 : decode cX10_yearStep 19 = .ok (.iconst 4, 1) := by decide +kernel
theorem dX10_yearStep_20 : decode cX10_yearStep 20 = .ok (.invokevirtual 434, 3) := by decide +kernel
theorem dX10_yearStep_23 : decode cX10_yearStep 23 = .ok (.ifCond .ne 21, 3) := by decide +kernel
theorem dX10_yearStep_26 : decode cX10_yearStep 26 = .ok (.aload_n 0, 1) := by decide +kernel
theorem dX10_yearStep_27 : decode cX10_yearStep 27 = .ok (.getfield 26, 3) := by decide +kernel
theorem dX10_yearStep_30 : decode cX10_yearStep 30 = .ok (.iload_n 1, 1) := by decide +kernel
theorem dX10_yearStep_31 : decode cX10_yearStep 31 = .ok (.invokevirtual 182, 3) := by decide +kernel
theorem dX10_yearStep_34 : decode cX10_yearStep 34 = .ok (.iconst (-1), 1) := by decide +kernel
theorem dX10_yearStep_35 : decode cX10_yearStep 35 = .ok (.if_icmp .ne 7, 3) := by decide +kernel
theorem dX10_yearStep_38 : decode cX10_yearStep 38 = .ok (.iconst 0, 1) := by decide +kernel
theorem dX10_yearStep_39 : decode cX10_yearStep 39 = .ok (.goto 4, 3) := by decide +kernel
theorem dX10_yearStep_42 : decode cX10_yearStep 42 = .ok (.iconst (-1), 1) := by decide +kernel
theorem dX10_yearStep_43 : decode cX10_yearStep 43 = .ok (.ireturn, 1) := by decide +kernel
theorem dX10_yearStep_44 : decode cX10_yearStep 44 = .ok (.aload_n 0, 1) := by decide +kernel
theorem dX10_yearStep_45 : decode cX10_yearStep 45 = .ok (.getfield 81, 3) := by decide +kernel
theorem dX10_yearStep_48 : decode cX10_yearStep 48 = .ok (.aload_n 0, 1) := by decide +kernel
theorem dX10_yearStep_49 : decode cX10_yearStep 49 = .ok (.getfield 26, 3) := by decide +kernel
theorem dX10_yearStep_52 : decode cX10_yearStep 52 = .ok (.getfield 117, 3) := by decide +kernel
theorem dX10_yearStep_55 : decode cX10_yearStep 55 = .ok (.invokevirtual 434, 3) := by decide +kernel
theorem dX10_yearStep_58 : decode cX10_yearStep 58 = .ok (.istore_n 2, 1) := by decide +kernel
theorem dX10_yearStep_59 : decode cX10_yearStep 59 = .ok (.aload_n 0, 1) := by decide +kernel
theorem dX10_yearStep_60 : decode cX10_yearStep 60 = .ok (.getfield 26, 3) := by decide +kernel
theorem dX10_yearStep_63 : decode cX10_yearStep 63 = .ok (.iload_n 1, 1) := by decide +kernel
theorem dX10_yearStep_64 : decode cX10_yearStep 64 = .ok (.invokevirtual 143, 3) := by decide +kernel
theorem dX10_yearStep_67 : decode cX10_yearStep 67 = .ok (.bipush 9, 2) := by decide +kernel
theorem dX10_yearStep_69 : decode cX10_yearStep 69 = .ok (.if_icmp .lt 5, 3) := by decide +kernel
theorem dX10_yearStep_72 : decode cX10_yearStep 72 = .ok (.iconst 0, 1) := by decide +kernel
theorem dX10_yearStep_73 : decode cX10_yearStep 73 = .ok (.ireturn, 1) := by decide +kernel
theorem dX10_yearStep_74 : decode cX10_yearStep 74 = .ok (.aload_n 0, 1) := by decide +kernel
theorem dX10_yearStep_75 : decode cX10_yearStep 75 = .ok (.getfield 26, 3) := by decide +kernel
theorem dX10_yearStep_78 : decode cX10_yearStep 78 = .ok (.iload_n 1, 1) := by decide +kernel
theorem dX10_yearStep_79 : decode cX10_yearStep 79 = .ok (.iload_n 2, 1) := by decide +kernel
theorem dX10_yearStep_80 : decode cX10_yearStep 80 = .ok (.iconst 1, 1) := by decide +kernel
theorem dX10_yearStep_81 : decode cX10_yearStep 81 = .ok (.invokevirtual 192, 3) := by decide +kernel
theorem dX10_yearStep_84 : decode cX10_yearStep 84 = .ok (.iconst 1, 1) := by decide +kernel
theorem dX10_yearStep_85 : decode cX10_yearStep 85 = .ok (.ireturn, 1) := by decide +kernel
theorem dX10_needPerson_0 : decode cX10_needPerson 0 = .ok (.iload_n 1, 1) := by decide +kernel
theorem dX10_needPerson_1 : decode cX10_needPerson 1 = .ok (.ifCond .lt 14, 3) := by decide +kernel
theorem dX10_needPerson_4 : decode cX10_needPerson 4 = .ok (.iload_n 1, 1) := by decide +kernel
theorem dX10_needPerson_5 : decode cX10_needPerson 5 = .ok (.aload_n 0, 1) := by decide +kernel
theorem dX10_needPerson_6 : decode cX10_needPerson 6 = .ok (.getfield 26, 3) := by decide +kernel
theorem dX10_needPerson_9 : decode cX10_needPerson 9 = .ok (.getfield 211, 3) := by decide +kernel
theorem dX10_needPerson_12 : decode cX10_needPerson 12 = .ok (.if_icmp .lt 14, 3) := by decide +kernel
theorem dX10_needPerson_15 : decode cX10_needPerson 15 = .ok (.new 120, 3) := by decide +kernel
theorem dX10_needPerson_18 : decode cX10_needPerson 18 = .ok (.dup, 1) := by decide +kernel
theorem dX10_needPerson_19 : decode cX10_needPerson 19 = .ok (.ldc_w 437, 3) := by decide +kernel
theorem dX10_needPerson_22 : decode cX10_needPerson 22 = .ok (.invokespecial 124, 3) := by decide +kernel
theorem dX10_needPerson_25 : decode cX10_needPerson 25 = .ok (.athrow, 1) := by decide +kernel
theorem dX10_needPerson_26 : decode cX10_needPerson 26 = .ok (.return_, 1) := by decide +kernel
theorem dX10_needTwo_0 : decode cX10_needTwo 0 = .ok (.aload_n 0, 1) := by decide +kernel
theorem dX10_needTwo_1 : decode cX10_needTwo 1 = .ok (.iload_n 1, 1) := by decide +kernel
theorem dX10_needTwo_2 : decode cX10_needTwo 2 = .ok (.invokevirtual 129, 3) := by decide +kernel
theorem dX10_needTwo_5 : decode cX10_needTwo 5 = .ok (.aload_n 0, 1) := by decide +kernel
theorem dX10_needTwo_6 : decode cX10_needTwo 6 = .ok (.iload_n 2, 1) := by decide +kernel
theorem dX10_needTwo_7 : decode cX10_needTwo 7 = .ok (.invokevirtual 129, 3) := by decide +kernel
theorem dX10_needTwo_10 : decode cX10_needTwo 10 = .ok (.iload_n 1, 1) := by decide +kernel
theorem dX10_needTwo_11 : decode cX10_needTwo 11 = .ok (.iload_n 2, 1) := by decide +kernel
theorem dX10_needTwo_12 : decode cX10_needTwo 12 = .ok (.if_icmp .ne 14, 3) := by decide +kernel
theorem dX10_needTwo_15 : decode cX10_needTwo 15 = .ok (.new 90, 3) := by decide +kernel
theorem dX10_needTwo_18 : decode cX10_needTwo 18 = .ok (.dup, 1) := by decide +kernel
theorem dX10_needTwo_19 : decode cX10_needTwo 19 = .ok (.ldc_w 439, 3) := by decide +kernel
theorem dX10_needTwo_22 : decode cX10_needTwo 22 = .ok (.invokespecial 94, 3) := by decide +kernel
theorem dX10_needTwo_25 : decode cX10_needTwo 25 = .ok (.athrow, 1) := by decide +kernel
theorem dX10_needTwo_26 : decode cX10_needTwo 26 = .ok (.return_, 1) := by decide +kernel
theorem dX10_needChange_0 : decode cX10_needChange 0 = .ok (.iload_n 1, 1) := by decide +kernel
theorem dX10_needChange_1 : decode cX10_needChange 1 = .ok (.ifCond .lt 14, 3) := by decide +kernel
theorem dX10_needChange_4 : decode cX10_needChange 4 = .ok (.iload_n 1, 1) := by decide +kernel
theorem dX10_needChange_5 : decode cX10_needChange 5 = .ok (.aload_n 0, 1) := by decide +kernel
theorem dX10_needChange_6 : decode cX10_needChange 6 = .ok (.getfield 26, 3) := by decide +kernel
theorem dX10_needChange_9 : decode cX10_needChange 9 = .ok (.getfield 305, 3) := by decide +kernel
theorem dX10_needChange_12 : decode cX10_needChange 12 = .ok (.if_icmp .lt 14, 3) := by decide +kernel
theorem dX10_needChange_15 : decode cX10_needChange 15 = .ok (.new 120, 3) := by decide +kernel
theorem dX10_needChange_18 : decode cX10_needChange 18 = .ok (.dup, 1) := by decide +kernel
theorem dX10_needChange_19 : decode cX10_needChange 19 = .ok (.ldc_w 441, 3) := by decide +kernel
theorem dX10_needChange_22 : decode cX10_needChange 22 = .ok (.invokespecial 124, 3) := by decide +kernel
theorem dX10_needChange_25 : decode cX10_needChange 25 = .ok (.athrow, 1) := by decide +kernel
theorem dX10_needChange_26 : decode cX10_needChange 26 = .ok (.return_, 1) := by decide +kernel
theorem dX10_needWhat_0 : decode cX10_needWhat 0 = .ok (.iload_n 1, 1) := by decide +kernel
theorem dX10_needWhat_1 : decode cX10_needWhat 1 = .ok (.ifCond .lt 8, 3) := by decide +kernel
theorem dX10_needWhat_4 : decode cX10_needWhat 4 = .ok (.iload_n 1, 1) := by decide +kernel
theorem dX10_needWhat_5 : decode cX10_needWhat 5 = .ok (.iload_n 2, 1) := by decide +kernel
theorem dX10_needWhat_6 : decode cX10_needWhat 6 = .ok (.if_icmp .le 14, 3) := by decide +kernel
theorem dX10_needWhat_9 : decode cX10_needWhat 9 = .ok (.new 90, 3) := by decide +kernel
theorem dX10_needWhat_12 : decode cX10_needWhat 12 = .ok (.dup, 1) := by decide +kernel
theorem dX10_needWhat_13 : decode cX10_needWhat 13 = .ok (.ldc_w 443, 3) := by decide +kernel
theorem dX10_needWhat_16 : decode cX10_needWhat 16 = .ok (.invokespecial 94, 3) := by decide +kernel
theorem dX10_needWhat_19 : decode cX10_needWhat 19 = .ok (.athrow, 1) := by decide +kernel
theorem dX10_needWhat_20 : decode cX10_needWhat 20 = .ok (.return_, 1) := by decide +kernel
theorem dX10_needSet_0 : decode cX10_needSet 0 = .ok (.iload_n 1, 1) := by decide +kernel
theorem dX10_needSet_1 : decode cX10_needSet 1 = .ok (.ifCond .lt 16, 3) := by decide +kernel
theorem dX10_needSet_4 : decode cX10_needSet 4 = .ok (.iload_n 1, 1) := by decide +kernel
theorem dX10_needSet_5 : decode cX10_needSet 5 = .ok (.iconst 1, 1) := by decide +kernel
theorem dX10_needSet_6 : decode cX10_needSet 6 = .ok (.aload_n 0, 1) := by decide +kernel
theorem dX10_needSet_7 : decode cX10_needSet 7 = .ok (.getfield 26, 3) := by decide +kernel
theorem dX10_needSet_10 : decode cX10_needSet 10 = .ok (.getfield 211, 3) := by decide +kernel
theorem dX10_needSet_13 : decode cX10_needSet 13 = .ok (.ishl, 1) := by decide +kernel
theorem dX10_needSet_14 : decode cX10_needSet 14 = .ok (.if_icmp .lt 14, 3) := by decide +kernel
theorem dX10_needSet_17 : decode cX10_needSet 17 = .ok (.new 90, 3) := by decide +kernel
theorem dX10_needSet_20 : decode cX10_needSet 20 = .ok (.dup, 1) := by decide +kernel
theorem dX10_needSet_21 : decode cX10_needSet 21 = .ok (.ldc_w 445, 3) := by decide +kernel
theorem dX10_needSet_24 : decode cX10_needSet 24 = .ok (.invokespecial 94, 3) := by decide +kernel
theorem dX10_needSet_27 : decode cX10_needSet 27 = .ok (.athrow, 1) := by decide +kernel
theorem dX10_needSet_28 : decode cX10_needSet 28 = .ok (.return_, 1) := by decide +kernel
theorem dX10_needPrice_0 : decode cX10_needPrice 0 = .ok (.aload_n 0, 1) := by decide +kernel
theorem dX10_needPrice_1 : decode cX10_needPrice 1 = .ok (.getfield 26, 3) := by decide +kernel
theorem dX10_needPrice_4 : decode cX10_needPrice 4 = .ok (.lload_n 1, 1) := by decide +kernel
theorem dX10_needPrice_5 : decode cX10_needPrice 5 = .ok (.aload_n 0, 1) := by decide +kernel
theorem dX10_needPrice_6 : decode cX10_needPrice 6 = .ok (.getfield 47, 3) := by decide +kernel
theorem dX10_needPrice_9 : decode cX10_needPrice 9 = .ok (.invokevirtual 430, 3) := by decide +kernel
theorem dX10_needPrice_12 : decode cX10_needPrice 12 = .ok (.ifCond .ne 14, 3) := by decide +kernel
theorem dX10_needPrice_15 : decode cX10_needPrice 15 = .ok (.new 90, 3) := by decide +kernel
theorem dX10_needPrice_18 : decode cX10_needPrice 18 = .ok (.dup, 1) := by decide +kernel
theorem dX10_needPrice_19 : decode cX10_needPrice 19 = .ok (.ldc_w 447, 3) := by decide +kernel
theorem dX10_needPrice_22 : decode cX10_needPrice 22 = .ok (.invokespecial 94, 3) := by decide +kernel
theorem dX10_needPrice_25 : decode cX10_needPrice 25 = .ok (.athrow, 1) := by decide +kernel
theorem dX10_needPrice_26 : decode cX10_needPrice 26 = .ok (.return_, 1) := by decide +kernel
theorem dX10_needNumber_0 : decode cX10_needNumber 0 = .ok (.iload_n 1, 1) := by decide +kernel
theorem dX10_needNumber_1 : decode cX10_needNumber 1 = .ok (.iload_n 2, 1) := by decide +kernel
theorem dX10_needNumber_2 : decode cX10_needNumber 2 = .ok (.if_icmp .lt 10, 3) := by decide +kernel
theorem dX10_needNumber_5 : decode cX10_needNumber 5 = .ok (.iload_n 1, 1) := by decide +kernel
theorem dX10_needNumber_6 : decode cX10_needNumber 6 = .ok (.ldc_w 449, 3) := by decide +kernel
theorem dX10_needNumber_9 : decode cX10_needNumber 9 = .ok (.if_icmp .le 14, 3) := by decide +kernel
theorem dX10_needNumber_12 : decode cX10_needNumber 12 = .ok (.new 90, 3) := by decide +kernel
theorem dX10_needNumber_15 : decode cX10_needNumber 15 = .ok (.dup, 1) := by decide +kernel
theorem dX10_needNumber_16 : decode cX10_needNumber 16 = .ok (.ldc_w 450, 3) := by decide +kernel
theorem dX10_needNumber_19 : decode cX10_needNumber 19 = .ok (.invokespecial 94, 3) := by decide +kernel
theorem dX10_needNumber_22 : decode cX10_needNumber 22 = .ok (.athrow, 1) := by decide +kernel
theorem dX10_needNumber_23 : decode cX10_needNumber 23 = .ok (.return_, 1) := by decide +kernel
theorem dX10_needSmallNumber_0 : decode cX10_needSmallNumber 0 = .ok (.iload_n 1, 1) := by decide +kernel
theorem dX10_needSmallNumber_1 : decode cX10_needSmallNumber 1 = .ok (.iconst 1, 1) := by decide +kernel
theorem dX10_needSmallNumber_2 : decode cX10_needSmallNumber 2 = .ok (.if_icmp .lt 10, 3) := by decide +kernel
theorem dX10_needSmallNumber_5 : decode cX10_needSmallNumber 5 = .ok (.iload_n 1, 1) := by decide +kernel
theorem dX10_needSmallNumber_6 : decode cX10_needSmallNumber 6 = .ok (.sipush 5000, 3) := by decide +kernel
theorem dX10_needSmallNumber_9 : decode cX10_needSmallNumber 9 = .ok (.if_icmp .le 14, 3) := by decide +kernel
theorem dX10_needSmallNumber_12 : decode cX10_needSmallNumber 12 = .ok (.new 90, 3) := by decide +kernel
theorem dX10_needSmallNumber_15 : decode cX10_needSmallNumber 15 = .ok (.dup, 1) := by decide +kernel
theorem dX10_needSmallNumber_16 : decode cX10_needSmallNumber 16 = .ok (.ldc_w 452, 3) := by decide +kernel
theorem dX10_needSmallNumber_19 : decode cX10_needSmallNumber 19 = .ok (.invokespecial 94, 3) := by decide +kernel
theorem dX10_needSmallNumber_22 : decode cX10_needSmallNumber 22 = .ok (.athrow, 1) := by decide +kernel
theorem dX10_needSmallNumber_23 : decode cX10_needSmallNumber 23 = .ok (.return_, 1) := by decide +kernel
theorem dX10_needSmallPrime_0 : decode cX10_needSmallPrime 0 = .ok (.iload_n 1, 1) := by decide +kernel
theorem dX10_needSmallPrime_1 : decode cX10_needSmallPrime 1 = .ok (.invokestatic 454, 3) := by decide +kernel
theorem dX10_needSmallPrime_4 : decode cX10_needSmallPrime 4 = .ok (.ifCond .ne 14, 3) := by decide +kernel
theorem dX10_needSmallPrime_7 : decode cX10_needSmallPrime 7 = .ok (.new 90, 3) := by decide +kernel
theorem dX10_needSmallPrime_10 : decode cX10_needSmallPrime 10 = .ok (.dup, 1) := by decide +kernel
theorem dX10_needSmallPrime_11 : decode cX10_needSmallPrime 11 = .ok (.ldc_w 457, 3) := by decide +kernel
theorem dX10_needSmallPrime_14 : decode cX10_needSmallPrime 14 = .ok (.invokespecial 94, 3) := by decide +kernel
theorem dX10_needSmallPrime_17 : decode cX10_needSmallPrime 17 = .ok (.athrow, 1) := by decide +kernel
theorem dX10_needSmallPrime_18 : decode cX10_needSmallPrime 18 = .ok (.return_, 1) := by decide +kernel
theorem dX10_needImage_0 : decode cX10_needImage 0 = .ok (.iload_n 1, 1) := by decide +kernel
theorem dX10_needImage_1 : decode cX10_needImage 1 = .ok (.ifCond .lt 8, 3) := by decide +kernel
theorem dX10_needImage_4 : decode cX10_needImage 4 = .ok (.iload_n 1, 1) := by decide +kernel
theorem dX10_needImage_5 : decode cX10_needImage 5 = .ok (.iconst 3, 1) := by decide +kernel
theorem dX10_needImage_6 : decode cX10_needImage 6 = .ok (.if_icmp .lt 14, 3) := by decide +kernel
theorem dX10_needImage_9 : decode cX10_needImage 9 = .ok (.new 120, 3) := by decide +kernel
theorem dX10_needImage_12 : decode cX10_needImage 12 = .ok (.dup, 1) := by decide +kernel
theorem dX10_needImage_13 : decode cX10_needImage 13 = .ok (.ldc_w 459, 3) := by decide +kernel
theorem dX10_needImage_16 : decode cX10_needImage 16 = .ok (.invokespecial 124, 3) := by decide +kernel
theorem dX10_needImage_19 : decode cX10_needImage 19 = .ok (.athrow, 1) := by decide +kernel
theorem dX10_needImage_20 : decode cX10_needImage 20 = .ok (.return_, 1) := by decide +kernel
theorem dX10_needTray_0 : decode cX10_needTray 0 = .ok (.iload_n 1, 1) := by decide +kernel
theorem dX10_needTray_1 : decode cX10_needTray 1 = .ok (.ifCond .lt 8, 3) := by decide +kernel
theorem dX10_needTray_4 : decode cX10_needTray 4 = .ok (.iload_n 1, 1) := by decide +kernel
theorem dX10_needTray_5 : decode cX10_needTray 5 = .ok (.iconst 4, 1) := by decide +kernel
theorem dX10_needTray_6 : decode cX10_needTray 6 = .ok (.if_icmp .lt 14, 3) := by decide +kernel
theorem dX10_needTray_9 : decode cX10_needTray 9 = .ok (.new 120, 3) := by decide +kernel
theorem dX10_needTray_12 : decode cX10_needTray 12 = .ok (.dup, 1) := by decide +kernel
theorem dX10_needTray_13 : decode cX10_needTray 13 = .ok (.ldc_w 397, 3) := by decide +kernel
theorem dX10_needTray_16 : decode cX10_needTray 16 = .ok (.invokespecial 124, 3) := by decide +kernel
theorem dX10_needTray_19 : decode cX10_needTray 19 = .ok (.athrow, 1) := by decide +kernel
theorem dX10_needTray_20 : decode cX10_needTray 20 = .ok (.aload_n 0, 1) := by decide +kernel
theorem dX10_needTray_21 : decode cX10_needTray 21 = .ok (.getfield 43, 3) := by decide +kernel
theorem dX10_needTray_24 : decode cX10_needTray 24 = .ok (.iload_n 1, 1) := by decide +kernel
theorem dX10_needTray_25 : decode cX10_needTray 25 = .ok (.aaload, 1) := by decide +kernel
theorem dX10_needTray_26 : decode cX10_needTray 26 = .ok (.getfield 461, 3) := by decide +kernel
theorem dX10_needTray_29 : decode cX10_needTray 29 = .ok (.iconst (-1), 1) := by decide +kernel
theorem dX10_needTray_30 : decode cX10_needTray 30 = .ok (.if_icmp .ne 14, 3) := by decide +kernel
theorem dX10_needTray_33 : decode cX10_needTray 33 = .ok (.new 187, 3) := by decide +kernel
theorem dX10_needTray_36 : decode cX10_needTray 36 = .ok (.dup, 1) := by decide +kernel
theorem dX10_needTray_37 : decode cX10_needTray 37 = .ok (.ldc_w 464, 3) := by decide +kernel
theorem dX10_needTray_40 : decode cX10_needTray 40 = .ok (.invokespecial 191, 3) := by decide +kernel
theorem dX10_needTray_43 : decode cX10_needTray 43 = .ok (.athrow, 1) := by decide +kernel
theorem dX10_needTray_44 : decode cX10_needTray 44 = .ok (.aload_n 0, 1) := by decide +kernel
theorem dX10_needTray_45 : decode cX10_needTray 45 = .ok (.getfield 43, 3) := by decide +kernel
theorem dX10_needTray_48 : decode cX10_needTray 48 = .ok (.iload_n 1, 1) := by decide +kernel
theorem dX10_needTray_49 : decode cX10_needTray 49 = .ok (.aaload, 1) := by decide +kernel
theorem dX10_needTray_50 : decode cX10_needTray 50 = .ok (.areturn, 1) := by decide +kernel
theorem dX11_init_0 : decode cX11_init 0 = .ok (.aload_n 0, 1) := by decide +kernel
theorem dX11_init_1 : decode cX11_init 1 = .ok (.invokespecial 1, 3) := by decide +kernel
theorem dX11_init_4 : decode cX11_init 4 = .ok (.aload_n 0, 1) := by decide +kernel
theorem dX11_init_5 : decode cX11_init 5 = .ok (.sipush 181, 3) := by decide +kernel
theorem dX11_init_8 : decode cX11_init 8 = .ok (.newarray .int, 2) := by decide +kernel
theorem dX11_init_10 : decode cX11_init 10 = .ok (.putfield 9, 3) := by decide +kernel
theorem dX11_init_13 : decode cX11_init 13 = .ok (.aload_n 0, 1) := by decide +kernel
theorem dX11_init_14 : decode cX11_init 14 = .ok (.sipush 181, 3) := by decide +kernel
theorem dX11_init_17 : decode cX11_init 17 = .ok (.newarray .int, 2) := by decide +kernel
theorem dX11_init_19 : decode cX11_init 19 = .ok (.putfield 13, 3) := by decide +kernel
theorem dX11_init_22 : decode cX11_init 22 = .ok (.aload_n 0, 1) := by decide +kernel
theorem dX11_init_23 : decode cX11_init 23 = .ok (.sipush 181, 3) := by decide +kernel
theorem dX11_init_26 : decode cX11_init 26 = .ok (.newarray .int, 2) := by decide +kernel
theorem dX11_init_28 : decode cX11_init 28 = .ok (.putfield 16, 3) := by decide +kernel
theorem dX11_init_31 : decode cX11_init 31 = .ok (.aload_n 0, 1) := by decide +kernel
theorem dX11_init_32 : decode cX11_init 32 = .ok (.sipush 543, 3) := by decide +kernel
theorem dX11_init_35 : decode cX11_init 35 = .ok (.newarray .int, 2) := by decide +kernel
theorem dX11_init_37 : decode cX11_init 37 = .ok (.putfield 19, 3) := by decide +kernel
theorem dX11_init_40 : decode cX11_init 40 = .ok (.aload_n 0, 1) := by decide +kernel
theorem dX11_init_41 : decode cX11_init 41 = .ok (.iconst 3, 1) := by decide +kernel
theorem dX11_init_42 : decode cX11_init 42 = .ok (.newarray .boolean, 2) := by decide +kernel
theorem dX11_init_44 : decode cX11_init 44 = .ok (.putfield 22, 3) := by decide +kernel
theorem dX11_init_47 : decode cX11_init 47 = .ok (.aload_n 0, 1) := by decide +kernel
theorem dX11_init_48 : decode cX11_init 48 = .ok (.sipush 700, 3) := by decide +kernel
theorem dX11_init_51 : decode cX11_init 51 = .ok (.newarray .int, 2) := by decide +kernel
theorem dX11_init_53 : decode cX11_init 53 = .ok (.putfield 26, 3) := by decide +kernel
theorem dX11_init_56 : decode cX11_init 56 = .ok (.aload_n 0, 1) := by decide +kernel
theorem dX11_init_57 : decode cX11_init 57 = .ok (.iconst (-1), 1) := by decide +kernel
theorem dX11_init_58 : decode cX11_init 58 = .ok (.putfield 29, 3) := by decide +kernel
theorem dX11_init_61 : decode cX11_init 61 = .ok (.aload_n 0, 1) := by decide +kernel
theorem dX11_init_62 : decode cX11_init 62 = .ok (.bipush 8, 2) := by decide +kernel
theorem dX11_init_64 : decode cX11_init 64 = .ok (.newarray .int, 2) := by decide +kernel
theorem dX11_init_66 : decode cX11_init 66 = .ok (.putfield 33, 3) := by decide +kernel
theorem dX11_init_69 : decode cX11_init 69 = .ok (.aload_n 0, 1) := by decide +kernel
theorem dX11_init_70 : decode cX11_init 70 = .ok (.sipush 512, 3) := by decide +kernel
theorem dX11_init_73 : decode cX11_init 73 = .ok (.newarray .long, 2) := by decide +kernel
theorem dX11_init_75 : decode cX11_init 75 = .ok (.putfield 36, 3) := by decide +kernel
theorem dX11_init_78 : decode cX11_init 78 = .ok (.aload_n 0, 1) := by decide +kernel
theorem dX11_init_79 : decode cX11_init 79 = .ok (.sipush 24000, 3) := by decide +kernel
theorem dX11_init_82 : decode cX11_init 82 = .ok (.newarray .int, 2) := by decide +kernel
theorem dX11_init_84 : decode cX11_init 84 = .ok (.putfield 40, 3) := by decide +kernel
theorem dX11_init_87 : decode cX11_init 87 = .ok (.aload_n 0, 1) := by decide +kernel
theorem dX11_init_88 : decode cX11_init 88 = .ok (.ldc 43, 2) := by decide +kernel
theorem dX11_init_90 : decode cX11_init 90 = .ok (.newarray .int, 2) := by decide +kernel
theorem dX11_init_92 : decode cX11_init 92 = .ok (.putfield 44, 3) := by decide +kernel
theorem dX11_init_95 : decode cX11_init 95 = .ok (.aload_n 0, 1) := by decide +kernel
theorem dX11_init_96 : decode cX11_init 96 = .ok (.iconst 4, 1) := by decide +kernel
theorem dX11_init_97 : decode cX11_init 97 = .ok (.newarray .int, 2) := by decide +kernel
theorem dX11_init_99 : decode cX11_init 99 = .ok (.dup, 1) := by decide +kernel
theorem dX11_init_100 : decode cX11_init 100 = .ok (.iconst 0, 1) := by decide +kernel
theorem dX11_init_101 : decode cX11_init 101 = .ok (.iconst (-1), 1) := by decide +kernel
theorem dX11_init_102 : decode cX11_init 102 = .ok (.iastore, 1) := by decide +kernel
theorem dX11_init_103 : decode cX11_init 103 = .ok (.dup, 1) := by decide +kernel
theorem dX11_init_104 : decode cX11_init 104 = .ok (.iconst 1, 1) := by decide +kernel
theorem dX11_init_105 : decode cX11_init 105 = .ok (.iconst (-1), 1) := by decide +kernel
theorem dX11_init_106 : decode cX11_init 106 = .ok (.iastore, 1) := by decide +kernel
theorem dX11_init_107 : decode cX11_init 107 = .ok (.dup, 1) := by decide +kernel
theorem dX11_init_108 : decode cX11_init 108 = .ok (.iconst 2, 1) := by decide +kernel
theorem dX11_init_109 : decode cX11_init 109 = .ok (.iconst (-1), 1) := by decide +kernel
theorem dX11_init_110 : decode cX11_init 110 = .ok (.iastore, 1) := by decide +kernel
theorem dX11_init_111 : decode cX11_init 111 = .ok (.dup, 1) := by decide +kernel
theorem dX11_init_112 : decode cX11_init 112 = .ok (.iconst 3, 1) := by decide +kernel
theorem dX11_init_113 : decode cX11_init 113 = .ok (.iconst (-1), 1) := by decide +kernel
theorem dX11_init_114 : decode cX11_init 114 = .ok (.iastore, 1) := by decide +kernel
theorem dX11_init_115 : decode cX11_init 115 = .ok (.putfield 47, 3) := by decide +kernel
theorem dX11_init_118 : decode cX11_init 118 = .ok (.aload_n 0, 1) := by decide +kernel
theorem dX11_init_119 : decode cX11_init 119 = .ok (.iconst 4, 1) := by decide +kernel
theorem dX11_init_120 : decode cX11_init 120 = .ok (.newarray .int, 2) := by decide +kernel
theorem dX11_init_122 : decode cX11_init 122 = .ok (.putfield 50, 3) := by decide +kernel
theorem dX11_init_125 : decode cX11_init 125 = .ok (.aload_n 0, 1) := by decide +kernel
theorem dX11_init_126 : decode cX11_init 126 = .ok (.bipush 120, 2) := by decide +kernel
theorem dX11_init_128 : decode cX11_init 128 = .ok (.newarray .long, 2) := by decide +kernel
theorem dX11_init_130 : decode cX11_init 130 = .ok (.putfield 53, 3) := by decide +kernel
theorem dX11_init_133 : decode cX11_init 133 = .ok (.aload_n 0, 1) := by decide +kernel
theorem dX11_init_134 : decode cX11_init 134 = .ok (.getfield 13, 3) := by decide +kernel
theorem dX11_init_137 : decode cX11_init 137 = .ok (.invokestatic 56, 3) := by decide +kernel
theorem dX11_init_140 : decode cX11_init 140 = .ok (.aload_n 0, 1) := by decide +kernel
theorem dX11_init_141 : decode cX11_init 141 = .ok (.getfield 13, 3) := by decide +kernel
theorem dX11_init_144 : decode cX11_init 144 = .ok (.aload_n 0, 1) := by decide +kernel
theorem dX11_init_145 : decode cX11_init 145 = .ok (.getfield 9, 3) := by decide +kernel
theorem dX11_init_148 : decode cX11_init 148 = .ok (.invokestatic 60, 3) := by decide +kernel
theorem dX11_init_151 : decode cX11_init 151 = .ok (.return_, 1) := by decide +kernel
theorem dX11_thrown_0 : decode cX11_thrown 0 = .ok (.aload_n 0, 1) := by decide +kernel
theorem dX11_thrown_1 : decode cX11_thrown 1 = .ok (.getfield 64, 3) := by decide +kernel
theorem dX11_thrown_4 : decode cX11_thrown 4 = .ok (.ireturn, 1) := by decide +kernel
theorem dX11_fails_0 : decode cX11_fails 0 = .ok (.aload_n 0, 1) := by decide +kernel
theorem dX11_fails_1 : decode cX11_fails 1 = .ok (.iload_n 1, 1) := by decide +kernel
theorem dX11_fails_2 : decode cX11_fails 2 = .ok (.putfield 64, 3) := by decide +kernel
theorem dX11_fails_5 : decode cX11_fails 5 = .ok (.iconst 0, 1) := by decide +kernel
theorem dX11_fails_6 : decode cX11_fails 6 = .ok (.ireturn, 1) := by decide +kernel
theorem dX11_within_0 : decode cX11_within 0 = .ok (.lload_n 0, 1) := by decide +kernel
theorem dX11_within_1 : decode cX11_within 1 = .ok (.lload_n 2, 1) := by decide +kernel
theorem dX11_within_2 : decode cX11_within 2 = .ok (.lcmp, 1) := by decide +kernel
theorem dX11_within_3 : decode cX11_within 3 = .ok (.ifCond .lt 14, 3) := by decide +kernel
theorem dX11_within_6 : decode cX11_within 6 = .ok (.lload_n 0, 1) := by decide +kernel
theorem dX11_within_7 : decode cX11_within 7 = .ok (.lload 4, 2) := by decide +kernel
theorem dX11_within_9 : decode cX11_within 9 = .ok (.lcmp, 1) := by decide +kernel
theorem dX11_within_10 : decode cX11_within 10 = .ok (.ifCond .gt 7, 3) := by decide +kernel
theorem dX11_within_13 : decode cX11_within 13 = .ok (.iconst 1, 1) := by decide +kernel
theorem dX11_within_14 : decode cX11_within 14 = .ok (.goto 4, 3) := by decide +kernel
theorem dX11_within_17 : decode cX11_within 17 = .ok (.iconst 0, 1) := by decide +kernel
theorem dX11_within_18 : decode cX11_within 18 = .ok (.ireturn, 1) := by decide +kernel
theorem dX11_begins_0 : decode cX11_begins 0 = .ok (.iconst 0, 1) := by decide +kernel
theorem dX11_begins_1 : decode cX11_begins 1 = .ok (.istore_n 1, 1) := by decide +kernel
theorem dX11_begins_2 : decode cX11_begins 2 = .ok (.iload_n 1, 1) := by decide +kernel
theorem dX11_begins_3 : decode cX11_begins 3 = .ok (.sipush 181, 3) := by decide +kernel
theorem dX11_begins_6 : decode cX11_begins 6 = .ok (.if_icmp .ge 24, 3) := by decide +kernel
theorem dX11_begins_9 : decode cX11_begins 9 = .ok (.aload_n 0, 1) := by decide +kernel
theorem dX11_begins_10 : decode cX11_begins 10 = .ok (.iload_n 1, 1) := by decide +kernel
theorem dX11_begins_11 : decode cX11_begins 11 = .ok (.iload_n 1, 1) := by decide +kernel
theorem dX11_begins_12 : decode cX11_begins 12 = .ok (.sipush 156, 3) := by decide +kernel
theorem dX11_begins_15 : decode cX11_begins 15 = .ok (.if_icmp .lt 7, 3) := by decide +kernel
theorem dX11_begins_18 : decode cX11_begins 18 = .ok (.iconst 1, 1) := by decide +kernel
theorem dX11_begins_19 : decode cX11_begins 19 = .ok (.goto 4, 3) := by decide +kernel
theorem dX11_begins_22 : decode cX11_begins 22 = .ok (.iconst 0, 1) := by decide +kernel
theorem dX11_begins_23 : decode cX11_begins 23 = .ok (.iastore, 1) := by decide +kernel
theorem dX11_begins_24 : decode cX11_begins 24 = .ok (.iinc 1 1, 3) := by decide +kernel
theorem dX11_begins_27 : decode cX11_begins 27 = .ok (.goto (-25), 3) := by decide +kernel
theorem dX11_begins_30 : decode cX11_begins 30 = .ok (.return_, 1) := by decide +kernel
theorem dX11_copies_0 : decode cX11_copies 0 = .ok (.iconst 0, 1) := by decide +kernel
theorem dX11_copies_1 : decode cX11_copies 1 = .ok (.istore_n 2, 1) := by decide +kernel
theorem dX11_copies_2 : decode cX11_copies 2 = .ok (.iload_n 2, 1) := by decide +kernel
theorem dX11_copies_3 : decode cX11_copies 3 = .ok (.sipush 181, 3) := by decide +kernel
theorem dX11_copies_6 : decode cX11_copies 6 = .ok (.if_icmp .ge 15, 3) := by decide +kernel
theorem dX11_copies_9 : decode cX11_copies 9 = .ok (.aload_n 1, 1) := by decide +kernel
theorem dX11_copies_10 : decode cX11_copies 10 = .ok (.iload_n 2, 1) := by decide +kernel
theorem dX11_copies_11 : decode cX11_copies 11 = .ok (.aload_n 0, 1) := by decide +kernel
theorem dX11_copies_12 : decode cX11_copies 12 = .ok (.iload_n 2, 1) := by decide +kernel
theorem dX11_copies_13 : decode cX11_copies 13 = .ok (.iaload, 1) := by decide +kernel
theorem dX11_copies_14 : decode cX11_copies 14 = .ok (.iastore, 1) := by decide +kernel
theorem dX11_copies_15 : decode cX11_copies 15 = .ok (.iinc 2 1, 3) := by decide +kernel
theorem dX11_copies_18 : decode cX11_copies 18 = .ok (.goto (-16), 3) := by decide +kernel
theorem dX11_copies_21 : decode cX11_copies 21 = .ok (.return_, 1) := by decide +kernel
theorem dX11_isPrime_0 : decode cX11_isPrime 0 = .ok (.iconst 2, 1) := by decide +kernel
theorem dX11_isPrime_1 : decode cX11_isPrime 1 = .ok (.istore_n 1, 1) := by decide +kernel
theorem dX11_isPrime_2 : decode cX11_isPrime 2 = .ok (.iload_n 1, 1) := by decide +kernel
theorem dX11_isPrime_3 : decode cX11_isPrime 3 = .ok (.iload_n 1, 1) := by decide +kernel
theorem dX11_isPrime_4 : decode cX11_isPrime 4 = .ok (.imul, 1) := by decide +kernel
theorem dX11_isPrime_5 : decode cX11_isPrime 5 = .ok (.iload_n 0, 1) := by decide +kernel
theorem dX11_isPrime_6 : decode cX11_isPrime 6 = .ok (.if_icmp .gt 17, 3) := by decide +kernel
theorem dX11_isPrime_9 : decode cX11_isPrime 9 = .ok (.iload_n 0, 1) := by decide +kernel
theorem dX11_isPrime_10 : decode cX11_isPrime 10 = .ok (.iload_n 1, 1) := by decide +kernel
theorem dX11_isPrime_11 : decode cX11_isPrime 11 = .ok (.irem, 1) := by decide +kernel
theorem dX11_isPrime_12 : decode cX11_isPrime 12 = .ok (.ifCond .ne 5, 3) := by decide +kernel
theorem dX11_isPrime_15 : decode cX11_isPrime 15 = .ok (.iconst 0, 1) := by decide +kernel
theorem dX11_isPrime_16 : decode cX11_isPrime 16 = .ok (.ireturn, 1) := by decide +kernel
theorem dX11_isPrime_17 : decode cX11_isPrime 17 = .ok (.iinc 1 1, 3) := by decide +kernel
theorem dX11_isPrime_20 : decode cX11_isPrime 20 = .ok (.goto (-18), 3) := by decide +kernel
theorem dX11_isPrime_23 : decode cX11_isPrime 23 = .ok (.iload_n 0, 1) := by decide +kernel
theorem dX11_isPrime_24 : decode cX11_isPrime 24 = .ok (.iconst 1, 1) := by decide +kernel
theorem dX11_isPrime_25 : decode cX11_isPrime 25 = .ok (.if_icmp .le 7, 3) := by decide +kernel
theorem dX11_isPrime_28 : decode cX11_isPrime 28 = .ok (.iconst 1, 1) := by decide +kernel
theorem dX11_isPrime_29 : decode cX11_isPrime 29 = .ok (.goto 4, 3) := by decide +kernel
theorem dX11_isPrime_32 : decode cX11_isPrime 32 = .ok (.iconst 0, 1) := by decide +kernel
theorem dX11_isPrime_33 : decode cX11_isPrime 33 = .ok (.ireturn, 1) := by decide +kernel
theorem dX11_feed_0 : decode cX11_feed 0 = .ok (.aload_n 0, 1) := by decide +kernel
theorem dX11_feed_1 : decode cX11_feed 1 = .ok (.iconst 0, 1) := by decide +kernel
theorem dX11_feed_2 : decode cX11_feed 2 = .ok (.putfield 64, 3) := by decide +kernel
theorem dX11_feed_5 : decode cX11_feed 5 = .ok (.aload_n 0, 1) := by decide +kernel
theorem dX11_feed_6 : decode cX11_feed 6 = .ok (.getfield 67, 3) := by decide +kernel
theorem dX11_feed_9 : decode cX11_feed 9 = .ok (.bipush 20, 2) := by decide +kernel
theorem dX11_feed_11 : decode cX11_feed 11 = .ok (.iadd, 1) := by decide +kernel
theorem dX11_feed_12 : decode cX11_feed 12 = .ok (.sipush 700, 3) := by decide +kernel
theorem dX11_feed_15 : decode cX11_feed 15 = .ok (.if_icmp .le 5, 3) := by decide +kernel
theorem dX11_feed_18 : decode cX11_feed 18 = .ok (.iconst (-1), 1) := by decide +kernel
theorem dX11_feed_19 : decode cX11_feed 19 = .ok (.ireturn, 1) := by decide +kernel
theorem dX11_feed_20 : decode cX11_feed 20 = .ok (.iconst 0, 1) := by decide +kernel
theorem dX11_feed_21 : decode cX11_feed 21 = .ok (.istore 6, 2) := by decide +kernel
theorem dX11_feed_23 : decode cX11_feed 23 = .ok (.iload 6, 2) := by decide +kernel
theorem dX11_feed_25 : decode cX11_feed 25 = .ok (.bipush 20, 2) := by decide +kernel
theorem dX11_feed_27 : decode cX11_feed 27 = .ok (.if_icmp .ge 93, 3) := by decide +kernel
theorem dX11_feed_30 : decode cX11_feed 30 = .ok (.iload 6, 2) := by decide +kernel
theorem dX11_feed_32 : decode cX11_feed 32 = .ok (.iconst 4, 1) := by decide +kernel
theorem dX11_feed_33 : decode cX11_feed 33 = .ok (.if_icmp .ge 7, 3) := by decide +kernel
theorem dX11_feed_36 : decode cX11_feed 36 = .ok (.iload_n 1, 1) := by decide +kernel
theorem dX11_feed_37 : decode cX11_feed 37 = .ok (.goto 39, 3) := by decide +kernel
theorem dX11_feed_40 : decode cX11_feed 40 = .ok (.iload 6, 2) := by decide +kernel
theorem dX11_feed_42 : decode cX11_feed 42 = .ok (.bipush 8, 2) := by decide +kernel
theorem dX11_feed_44 : decode cX11_feed 44 = .ok (.if_icmp .ge 7, 3) := by decide +kernel
theorem dX11_feed_47 : decode cX11_feed 47 = .ok (.iload_n 2, 1) := by decide +kernel
theorem dX11_feed_48 : decode cX11_feed 48 = .ok (.goto 28, 3) := by decide +kernel
theorem dX11_feed_51 : decode cX11_feed 51 = .ok (.iload 6, 2) := by decide +kernel
theorem dX11_feed_53 : decode cX11_feed 53 = .ok (.bipush 12, 2) := by decide +kernel
theorem dX11_feed_55 : decode cX11_feed 55 = .ok (.if_icmp .ge 7, 3) := by decide +kernel
theorem dX11_feed_58 : decode cX11_feed 58 = .ok (.iload_n 3, 1) := by decide +kernel
theorem dX11_feed_59 : decode cX11_feed 59 = .ok (.goto 17, 3) := by decide +kernel
theorem dX11_feed_62 : decode cX11_feed 62 = .ok (.iload 6, 2) := by decide +kernel
theorem dX11_feed_64 : decode cX11_feed 64 = .ok (.bipush 16, 2) := by decide +kernel
theorem dX11_feed_66 : decode cX11_feed 66 = .ok (.if_icmp .ge 8, 3) := by decide +kernel
theorem dX11_feed_69 : decode cX11_feed 69 = .ok (.iload 4, 2) := by decide +kernel
theorem dX11_feed_71 : decode cX11_feed 71 = .ok (.goto 5, 3) := by decide +kernel
theorem dX11_feed_74 : decode cX11_feed 74 = .ok (.iload 5, 2) := by decide +kernel
theorem dX11_feed_76 : decode cX11_feed 76 = .ok (.istore 7, 2) := by decide +kernel
theorem dX11_feed_78 : decode cX11_feed 78 = .ok (.aload_n 0, 1) := by decide +kernel
theorem dX11_feed_79 : decode cX11_feed 79 = .ok (.getfield 26, 3) := by decide +kernel
theorem dX11_feed_82 : decode cX11_feed 82 = .ok (.aload_n 0, 1) := by decide +kernel
theorem dX11_feed_83 : decode cX11_feed 83 = .ok (.getfield 67, 3) := by decide +kernel
theorem dX11_feed_86 : decode cX11_feed 86 = .ok (.iload 7, 2) := by decide +kernel
theorem dX11_feed_88 : decode cX11_feed 88 = .ok (.bipush 24, 2) := by decide +kernel
theorem dX11_feed_90 : decode cX11_feed 90 = .ok (.bipush 8, 2) := by decide +kernel
theorem dX11_feed_92 : decode cX11_feed 92 = .ok (.iload 6, 2) := by decide +kernel
theorem dX11_feed_94 : decode cX11_feed 94 = .ok (.iconst 3, 1) := by decide +kernel
theorem dX11_feed_95 : decode cX11_feed 95 = .ok (.iand, 1) := by decide +kernel
theorem dX11_feed_96 : decode cX11_feed 96 = .ok (.imul, 1) := by decide +kernel
theorem dX11_feed_97 : decode cX11_feed 97 = .ok (.isub, 1) := by decide +kernel
theorem dX11_feed_98 : decode cX11_feed 98 = .ok (.iushr, 1) := by decide +kernel
theorem dX11_feed_99 : decode cX11_feed 99 = .ok (.sipush 255, 3) := by decide +kernel
theorem dX11_feed_102 : decode cX11_feed 102 = .ok (.iand, 1) := by decide +kernel
theorem dX11_feed_103 : decode cX11_feed 103 = .ok (.iastore, 1) := by decide +kernel
theorem dX11_feed_104 : decode cX11_feed 104 = .ok (.aload_n 0, 1) := by decide +kernel
theorem dX11_feed_105 : decode cX11_feed 105 = .ok (.dup, 1) := by decide +kernel
theorem dX11_feed_106 : decode cX11_feed 106 = .ok (.getfield 67, 3) := by decide +kernel
theorem dX11_feed_109 : decode cX11_feed 109 = .ok (.iconst 1, 1) := by decide +kernel
theorem dX11_feed_110 : decode cX11_feed 110 = .ok (.iadd, 1) := by decide +kernel
theorem dX11_feed_111 : decode cX11_feed 111 = .ok (.putfield 67, 3) := by decide +kernel
theorem dX11_feed_114 : decode cX11_feed 114 = .ok (.iinc 6 1, 3) := by decide +kernel
theorem dX11_feed_117 : decode cX11_feed 117 = .ok (.goto (-94), 3) := by decide +kernel
theorem dX11_feed_120 : decode cX11_feed 120 = .ok (.aload_n 0, 1) := by decide +kernel
theorem dX11_feed_121 : decode cX11_feed 121 = .ok (.getfield 67, 3) := by decide +kernel
theorem dX11_feed_124 : decode cX11_feed 124 = .ok (.ireturn, 1) := by decide +kernel
theorem dX11_see_0 : decode cX11_see 0 = .ok (.iload_n 1, 1) := by decide +kernel
theorem dX11_see_1 : decode cX11_see 1 = .ok (.aload_n 0, 1) := by decide +kernel
theorem dX11_see_2 : decode cX11_see 2 = .ok (.getfield 70, 3) := by decide +kernel
theorem dX11_see_5 : decode cX11_see 5 = .ok (.if_icmp .ge 12, 3) := by decide +kernel
theorem dX11_see_8 : decode cX11_see 8 = .ok (.aload_n 0, 1) := by decide +kernel
theorem dX11_see_9 : decode cX11_see 9 = .ok (.getfield 26, 3) := by decide +kernel
theorem dX11_see_12 : decode cX11_see 12 = .ok (.iload_n 1, 1) := by decide +kernel
theorem dX11_see_13 : decode cX11_see 13 = .ok (.iaload, 1) := by decide +kernel
theorem dX11_see_14 : decode cX11_see 14 = .ok (.goto 4, 3) := by decide +kernel
theorem dX11_see_17 : decode cX11_see 17 = .ok (.iconst 0, 1) := by decide +kernel
theorem dX11_see_18 : decode cX11_see 18 = .ok (.ireturn, 1) := by decide +kernel
theorem dX11_isLetter_0 : decode cX11_isLetter 0 = .ok (.iload_n 0, 1) := by decide +kernel
theorem dX11_isLetter_1 : decode cX11_isLetter 1 = .ok (.bipush 97, 2) := by decide +kernel
theorem dX11_isLetter_3 : decode cX11_isLetter 3 = .ok (.if_icmp .lt 13, 3) := by decide +kernel
theorem dX11_isLetter_6 : decode cX11_isLetter 6 = .ok (.iload_n 0, 1) := by decide +kernel
theorem dX11_isLetter_7 : decode cX11_isLetter 7 = .ok (.bipush 122, 2) := by decide +kernel
theorem dX11_isLetter_9 : decode cX11_isLetter 9 = .ok (.if_icmp .gt 7, 3) := by decide +kernel
theorem dX11_isLetter_12 : decode cX11_isLetter 12 = .ok (.iconst 1, 1) := by decide +kernel
theorem dX11_isLetter_13 : decode cX11_isLetter 13 = .ok (.goto 4, 3) := by decide +kernel
theorem dX11_isLetter_16 : decode cX11_isLetter 16 = .ok (.iconst 0, 1) := by decide +kernel
theorem dX11_isLetter_17 : decode cX11_isLetter 17 = .ok (.ireturn, 1) := by decide +kernel
theorem dX11_isDigit_0 : decode cX11_isDigit 0 = .ok (.iload_n 0, 1) := by decide +kernel
theorem dX11_isDigit_1 : decode cX11_isDigit 1 = .ok (.bipush 48, 2) := by decide +kernel
theorem dX11_isDigit_3 : decode cX11_isDigit 3 = .ok (.if_icmp .lt 13, 3) := by decide +kernel
theorem dX11_isDigit_6 : decode cX11_isDigit 6 = .ok (.iload_n 0, 1) := by decide +kernel
theorem dX11_isDigit_7 : decode cX11_isDigit 7 = .ok (.bipush 57, 2) := by decide +kernel
theorem dX11_isDigit_9 : decode cX11_isDigit 9 = .ok (.if_icmp .gt 7, 3) := by decide +kernel
theorem dX11_isDigit_12 : decode cX11_isDigit 12 = .ok (.iconst 1, 1) := by decide +kernel
theorem dX11_isDigit_13 : decode cX11_isDigit 13 = .ok (.goto 4, 3) := by decide +kernel
theorem dX11_isDigit_16 : decode cX11_isDigit 16 = .ok (.iconst 0, 1) := by decide +kernel
theorem dX11_isDigit_17 : decode cX11_isDigit 17 = .ok (.ireturn, 1) := by decide +kernel
theorem dX11_reads_0 : decode cX11_reads 0 = .ok (.aload_n 0, 1) := by decide +kernel
theorem dX11_reads_1 : decode cX11_reads 1 = .ok (.getfield 73, 3) := by decide +kernel
theorem dX11_reads_4 : decode cX11_reads 4 = .ok (.aload_n 0, 1) := by decide +kernel
theorem dX11_reads_5 : decode cX11_reads 5 = .ok (.getfield 70, 3) := by decide +kernel
theorem dX11_reads_8 : decode cX11_reads 8 = .ok (.if_icmp .ge 44, 3) := by decide +kernel
theorem dX11_reads_11 : decode cX11_reads 11 = .ok (.aload_n 0, 1) := by decide +kernel
theorem dX11_reads_12 : decode cX11_reads 12 = .ok (.getfield 26, 3) := by decide +kernel
theorem dX11_reads_15 : decode cX11_reads 15 = .ok (.aload_n 0, 1) := by decide +kernel
theorem dX11_reads_16 : decode cX11_reads 16 = .ok (.getfield 73, 3) := by decide +kernel
theorem dX11_reads_19 : decode cX11_reads 19 = .ok (.iaload, 1) := by decide +kernel
theorem dX11_reads_20 : decode cX11_reads 20 = .ok (.bipush 32, 2) := by decide +kernel
theorem dX11_reads_22 : decode cX11_reads 22 = .ok (.if_icmp .eq 17, 3) := by decide +kernel
theorem dX11_reads_25 : decode cX11_reads 25 = .ok (.aload_n 0, 1) := by decide +kernel
theorem dX11_reads_26 : decode cX11_reads 26 = .ok (.getfield 26, 3) := by decide +kernel
theorem dX11_reads_29 : decode cX11_reads 29 = .ok (.aload_n 0, 1) := by decide +kernel
theorem dX11_reads_30 : decode cX11_reads 30 = .ok (.getfield 73, 3) := by decide +kernel
theorem dX11_reads_33 : decode cX11_reads 33 = .ok (.iaload, 1) := by decide +kernel
theorem dX11_reads_34 : decode cX11_reads 34 = .ok (.bipush 10, 2) := by decide +kernel
theorem dX11_reads_36 : decode cX11_reads 36 = .ok (.if_icmp .ne 16, 3) := by decide +kernel
theorem dX11_reads_39 : decode cX11_reads 39 = .ok (.aload_n 0, 1) := by decide +kernel
theorem dX11_reads_40 : decode cX11_reads 40 = .ok (.dup, 1) := by decide +kernel
theorem dX11_reads_41 : decode cX11_reads 41 = .ok (.getfield 73, 3) := by decide +kernel
theorem dX11_reads_44 : decode cX11_reads 44 = .ok (.iconst 1, 1) := by decide +kernel
theorem dX11_reads_45 : decode cX11_reads 45 = .ok (.iadd, 1) := by decide +kernel
theorem dX11_reads_46 : decode cX11_reads 46 = .ok (.putfield 73, 3) := by decide +kernel
theorem dX11_reads_49 : decode cX11_reads 49 = .ok (.goto (-49), 3) := by decide +kernel
theorem dX11_reads_52 : decode cX11_reads 52 = .ok (.aload_n 0, 1) := by decide +kernel
theorem dX11_reads_53 : decode cX11_reads 53 = .ok (.aload_n 0, 1) := by decide +kernel
theorem dX11_reads_54 : decode cX11_reads 54 = .ok (.getfield 73, 3) := by decide +kernel
theorem dX11_reads_57 : decode cX11_reads 57 = .ok (.putfield 76, 3) := by decide +kernel
theorem dX11_reads_60 : decode cX11_reads 60 = .ok (.aload_n 0, 1) := by decide +kernel
theorem dX11_reads_61 : decode cX11_reads 61 = .ok (.getfield 73, 3) := by decide +kernel
theorem dX11_reads_64 : decode cX11_reads 64 = .ok (.aload_n 0, 1) := by decide +kernel
theorem dX11_reads_65 : decode cX11_reads 65 = .ok (.getfield 70, 3) := by decide +kernel
theorem dX11_reads_68 : decode cX11_reads 68 = .ok (.if_icmp .lt 9, 3) := by decide +kernel
theorem dX11_reads_71 : decode cX11_reads 71 = .ok (.aload_n 0, 1) := by decide +kernel
theorem dX11_reads_72 : decode cX11_reads 72 = .ok (.iconst 0, 1) := by decide +kernel
theorem dX11_reads_73 : decode cX11_reads 73 = .ok (.putfield 79, 3) := by decide +kernel
theorem dX11_reads_76 : decode cX11_reads 76 = .ok (.return_, 1) := by decide +kernel
theorem dX11_reads_77 : decode cX11_reads 77 = .ok (.aload_n 0, 1) := by decide +kernel
theorem dX11_reads_78 : decode cX11_reads 78 = .ok (.getfield 26, 3) := by decide +kernel
theorem dX11_reads_81 : decode cX11_reads 81 = .ok (.aload_n 0, 1) := by decide +kernel
theorem dX11_reads_82 : decode cX11_reads 82 = .ok (.getfield 73, 3) := by decide +kernel
theorem dX11_reads_85 : decode cX11_reads 85 = .ok (.iaload, 1) := by decide +kernel
theorem dX11_reads_86 : decode cX11_reads 86 = .ok (.istore_n 1, 1) := by decide +kernel
theorem dX11_reads_87 : decode cX11_reads 87 = .ok (.iload_n 1, 1) := by decide +kernel
theorem dX11_reads_88 : decode cX11_reads 88 = .ok (.invokestatic 82, 3) := by decide +kernel
theorem dX11_reads_91 : decode cX11_reads 91 = .ok (.ifCond .eq 38, 3) := by decide +kernel
theorem dX11_reads_94 : decode cX11_reads 94 = .ok (.aload_n 0, 1) := by decide +kernel
theorem dX11_reads_95 : decode cX11_reads 95 = .ok (.aload_n 0, 1) := by decide +kernel
theorem dX11_reads_96 : decode cX11_reads 96 = .ok (.getfield 73, 3) := by decide +kernel
theorem dX11_reads_99 : decode cX11_reads 99 = .ok (.invokevirtual 86, 3) := by decide +kernel
theorem dX11_reads_102 : decode cX11_reads 102 = .ok (.invokestatic 82, 3) := by decide +kernel
theorem dX11_reads_105 : decode cX11_reads 105 = .ok (.ifCond .eq 16, 3) := by decide +kernel
theorem dX11_reads_108 : decode cX11_reads 108 = .ok (.aload_n 0, 1) := by decide +kernel
theorem dX11_reads_109 : decode cX11_reads 109 = .ok (.dup, 1) := by decide +kernel
theorem dX11_reads_110 : decode cX11_reads 110 = .ok (.getfield 73, 3) := by decide +kernel
theorem dX11_reads_113 : decode cX11_reads 113 = .ok (.iconst 1, 1) := by decide +kernel
theorem dX11_reads_114 : decode cX11_reads 114 = .ok (.iadd, 1) := by decide +kernel
theorem dX11_reads_115 : decode cX11_reads 115 = .ok (.putfield 73, 3) := by decide +kernel
theorem dX11_reads_118 : decode cX11_reads 118 = .ok (.goto (-24), 3) := by decide +kernel
theorem dX11_reads_121 : decode cX11_reads 121 = .ok (.aload_n 0, 1) := by decide +kernel
theorem dX11_reads_122 : decode cX11_reads 122 = .ok (.iconst 1, 1) := by decide +kernel
theorem dX11_reads_123 : decode cX11_reads 123 = .ok (.putfield 79, 3) := by decide +kernel
theorem dX11_reads_126 : decode cX11_reads 126 = .ok (.goto 136, 3) := by decide +kernel
theorem dX11_reads_129 : decode cX11_reads 129 = .ok (.iload_n 1, 1) := by decide +kernel
theorem dX11_reads_130 : decode cX11_reads 130 = .ok (.invokestatic 90, 3) := by decide +kernel
theorem dX11_reads_133 : decode cX11_reads 133 = .ok (.ifCond .eq 104, 3) := by decide +kernel
theorem dX11_reads_136 : decode cX11_reads 136 = .ok (.aload_n 0, 1) := by decide +kernel
theorem dX11_reads_137 : decode cX11_reads 137 = .ok (.iconst 0, 1) := by decide +kernel
theorem dX11_reads_138 : decode cX11_reads 138 = .ok (.putfield 93, 3) := by decide +kernel
theorem dX11_reads_141 : decode cX11_reads 141 = .ok (.aload_n 0, 1) := by decide +kernel
theorem dX11_reads_142 : decode cX11_reads 142 = .ok (.aload_n 0, 1) := by decide +kernel
theorem dX11_reads_143 : decode cX11_reads 143 = .ok (.getfield 73, 3) := by decide +kernel
theorem dX11_reads_146 : decode cX11_reads 146 = .ok (.invokevirtual 86, 3) := by decide +kernel
theorem dX11_reads_149 : decode cX11_reads 149 = .ok (.invokestatic 90, 3) := by decide +kernel
theorem dX11_reads_152 : decode cX11_reads 152 = .ok (.ifCond .eq 60, 3) := by decide +kernel
theorem dX11_reads_155 : decode cX11_reads 155 = .ok (.aload_n 0, 1) := by decide +kernel
theorem dX11_reads_156 : decode cX11_reads 156 = .ok (.aload_n 0, 1) := by decide +kernel
theorem dX11_reads_157 : decode cX11_reads 157 = .ok (.getfield 73, 3) := by decide +kernel
theorem dX11_reads_160 : decode cX11_reads 160 = .ok (.aload_n 0, 1) := by decide +kernel
theorem dX11_reads_161 : decode cX11_reads 161 = .ok (.getfield 76, 3) := by decide +kernel
theorem dX11_reads_164 : decode cX11_reads 164 = .ok (.isub, 1) := by decide +kernel
theorem dX11_reads_165 : decode cX11_reads 165 = .ok (.iconst 3, 1) := by decide +kernel
theorem dX11_reads_166 : decode cX11_reads 166 = .ok (.if_icmp .ge 26, 3) := by decide +kernel
theorem dX11_reads_169 : decode cX11_reads 169 = .ok (.bipush 10, 2) := by decide +kernel
theorem dX11_reads_171 : decode cX11_reads 171 = .ok (.aload_n 0, 1) := by decide +kernel
theorem dX11_reads_172 : decode cX11_reads 172 = .ok (.getfield 93, 3) := by decide +kernel
theorem dX11_reads_175 : decode cX11_reads 175 = .ok (.imul, 1) := by decide +kernel
theorem dX11_reads_176 : decode cX11_reads 176 = .ok (.aload_n 0, 1) := by decide +kernel
theorem dX11_reads_177 : decode cX11_reads 177 = .ok (.getfield 26, 3) := by decide +kernel
theorem dX11_reads_180 : decode cX11_reads 180 = .ok (.aload_n 0, 1) := by decide +kernel
theorem dX11_reads_181 : decode cX11_reads 181 = .ok (.getfield 73, 3) := by decide +kernel
theorem dX11_reads_184 : decode cX11_reads 184 = .ok (.iaload, 1) := by decide +kernel
theorem dX11_reads_185 : decode cX11_reads 185 = .ok (.iadd, 1) := by decide +kernel
theorem dX11_reads_186 : decode cX11_reads 186 = .ok (.bipush 48, 2) := by decide +kernel
theorem dX11_reads_188 : decode cX11_reads 188 = .ok (.isub, 1) := by decide +kernel
theorem dX11_reads_189 : decode cX11_reads 189 = .ok (.goto 7, 3) := by decide +kernel
theorem dX11_reads_192 : decode cX11_reads 192 = .ok (.aload_n 0, 1) := by decide +kernel
theorem dX11_reads_193 : decode cX11_reads 193 = .ok (.getfield 93, 3) := by decide +kernel
theorem dX11_reads_196 : decode cX11_reads 196 = .ok (.putfield 93, 3) := by decide +kernel
theorem dX11_reads_199 : decode cX11_reads 199 = .ok (.aload_n 0, 1) := by decide +kernel
theorem dX11_reads_200 : decode cX11_reads 200 = .ok (.dup, 1) := by decide +kernel
theorem dX11_reads_201 : decode cX11_reads 201 = .ok (.getfield 73, 3) := by decide +kernel
theorem dX11_reads_204 : decode cX11_reads 204 = .ok (.iconst 1, 1) := by decide +kernel
theorem dX11_reads_205 : decode cX11_reads 205 = .ok (.iadd, 1) := by decide +kernel
theorem dX11_reads_206 : decode cX11_reads 206 = .ok (.putfield 73, 3) := by decide +kernel
theorem dX11_reads_209 : decode cX11_reads 209 = .ok (.goto (-68), 3) := by decide +kernel
theorem dX11_reads_212 : decode cX11_reads 212 = .ok (.aload_n 0, 1) := by decide +kernel
theorem dX11_reads_213 : decode cX11_reads 213 = .ok (.aload_n 0, 1) := by decide +kernel
theorem dX11_reads_214 : decode cX11_reads 214 = .ok (.getfield 73, 3) := by decide +kernel
theorem dX11_reads_217 : decode cX11_reads 217 = .ok (.aload_n 0, 1) := by decide +kernel
theorem dX11_reads_218 : decode cX11_reads 218 = .ok (.getfield 76, 3) := by decide +kernel
theorem dX11_reads_221 : decode cX11_reads 221 = .ok (.isub, 1) := by decide +kernel
theorem dX11_reads_222 : decode cX11_reads 222 = .ok (.iconst 3, 1) := by decide +kernel
theorem dX11_reads_223 : decode cX11_reads 223 = .ok (.if_icmp .le 7, 3) := by decide +kernel
theorem dX11_reads_226 : decode cX11_reads 226 = .ok (.iconst 4, 1) := by decide +kernel
theorem dX11_reads_227 : decode cX11_reads 227 = .ok (.goto 4, 3) := by decide +kernel
theorem dX11_reads_230 : decode cX11_reads 230 = .ok (.iconst 2, 1) := by decide +kernel
theorem dX11_reads_231 : decode cX11_reads 231 = .ok (.putfield 79, 3) := by decide +kernel
theorem dX11_reads_234 : decode cX11_reads 234 = .ok (.goto 28, 3) := by decide +kernel
theorem dX11_reads_237 : decode cX11_reads 237 = .ok (.aload_n 0, 1) := by decide +kernel
theorem dX11_reads_238 : decode cX11_reads 238 = .ok (.iload_n 1, 1) := by decide +kernel
theorem dX11_reads_239 : decode cX11_reads 239 = .ok (.bipush 59, 2) := by decide +kernel
theorem dX11_reads_241 : decode cX11_reads 241 = .ok (.if_icmp .ne 7, 3) := by decide +kernel
theorem dX11_reads_244 : decode cX11_reads 244 = .ok (.iconst 3, 1) := by decide +kernel
theorem dX11_reads_245 : decode cX11_reads 245 = .ok (.goto 4, 3) := by decide +kernel
theorem dX11_reads_248 : decode cX11_reads 248 = .ok (.iconst 4, 1) := by decide +kernel
theorem dX11_reads_249 : decode cX11_reads 249 = .ok (.putfield 79, 3) := by decide +kernel
theorem dX11_reads_252 : decode cX11_reads 252 = .ok (.aload_n 0, 1) := by decide +kernel
theorem dX11_reads_253 : decode cX11_reads 253 = .ok (.dup, 1) := by decide +kernel
theorem dX11_reads_254 : decode cX11_reads 254 = .ok (.getfield 73, 3) := by decide +kernel
theorem dX11_reads_257 : decode cX11_reads 257 = .ok (.iconst 1, 1) := by decide +kernel
theorem dX11_reads_258 : decode cX11_reads 258 = .ok (.iadd, 1) := by decide +kernel
theorem dX11_reads_259 : decode cX11_reads 259 = .ok (.putfield 73, 3) := by decide +kernel
theorem dX11_reads_262 : decode cX11_reads 262 = .ok (.return_, 1) := by decide +kernel
theorem dX11_blames_0 : decode cX11_blames 0 = .ok (.aload_n 0, 1) := by decide +kernel
theorem dX11_blames_1 : decode cX11_blames 1 = .ok (.getfield 96, 3) := by decide +kernel
theorem dX11_blames_4 : decode cX11_blames 4 = .ok (.ifCond .eq 4, 3) := by decide +kernel
theorem dX11_blames_7 : decode cX11_blames 7 = .ok (.return_, 1) := by decide +kernel
theorem dX11_blames_8 : decode cX11_blames 8 = .ok (.aload_n 0, 1) := by decide +kernel
theorem dX11_blames_9 : decode cX11_blames 9 = .ok (.aload_n 0, 1) := by decide +kernel
theorem dX11_blames_10 : decode cX11_blames 10 = .ok (.getfield 79, 3) := by decide +kernel
theorem dX11_blames_13 : decode cX11_blames 13 = .ok (.iconst 4, 1) := by decide +kernel
theorem dX11_blames_14 : decode cX11_blames 14 = .ok (.if_icmp .ne 7, 3) := by decide +kernel
theorem dX11_blames_17 : decode cX11_blames 17 = .ok (.iconst 1, 1) := by decide +kernel
theorem dX11_blames_18 : decode cX11_blames 18 = .ok (.goto 4, 3) := by decide +kernel
theorem dX11_blames_21 : decode cX11_blames 21 = .ok (.iload_n 1, 1) := by decide +kernel
theorem dX11_blames_22 : decode cX11_blames 22 = .ok (.putfield 96, 3) := by decide +kernel
theorem dX11_blames_25 : decode cX11_blames 25 = .ok (.aload_n 0, 1) := by decide +kernel
theorem dX11_blames_26 : decode cX11_blames 26 = .ok (.aload_n 0, 1) := by decide +kernel
theorem dX11_blames_27 : decode cX11_blames 27 = .ok (.getfield 76, 3) := by decide +kernel
theorem dX11_blames_30 : decode cX11_blames 30 = .ok (.putfield 99, 3) := by decide +kernel
theorem dX11_blames_33 : decode cX11_blames 33 = .ok (.return_, 1) := by decide +kernel
theorem dX11_isWord_0 : decode cX11_isWord 0 = .ok (.aload_n 0, 1) := by decide +kernel
theorem dX11_isWord_1 : decode cX11_isWord 1 = .ok (.getfield 96, 3) := by decide +kernel
theorem dX11_isWord_4 : decode cX11_isWord 4 = .ok (.ifCond .ne 31, 3) := by decide +kernel
theorem dX11_isWord_7 : decode cX11_isWord 7 = .ok (.aload_n 0, 1) := by decide +kernel
theorem dX11_isWord_8 : decode cX11_isWord 8 = .ok (.getfield 79, 3) := by decide +kernel
theorem dX11_isWord_11 : decode cX11_isWord 11 = .ok (.iconst 1, 1) := by decide +kernel
theorem dX11_isWord_12 : decode cX11_isWord 12 = .ok (.if_icmp .ne 23, 3) := by decide +kernel
theorem dX11_isWord_15 : decode cX11_isWord 15 = .ok (.aload_n 0, 1) := by decide +kernel
theorem dX11_isWord_16 : decode cX11_isWord 16 = .ok (.getfield 73, 3) := by decide +kernel
theorem dX11_isWord_19 : decode cX11_isWord 19 = .ok (.aload_n 0, 1) := by decide +kernel
theorem dX11_isWord_20 : decode cX11_isWord 20 = .ok (.getfield 76, 3) := by decide +kernel
theorem dX11_isWord_23 : decode cX11_isWord 23 = .ok (.isub, 1) := by decide +kernel
theorem dX11_isWord_24 : decode cX11_isWord 24 = .ok (.aload_n 1, 1) := by decide +kernel
theorem dX11_isWord_25 : decode cX11_isWord 25 = .ok (.invokevirtual 102, 3) := by decide +kernel
theorem dX11_isWord_28 : decode cX11_isWord 28 = .ok (.if_icmp .ne 7, 3) := by decide +kernel
theorem dX11_isWord_31 : decode cX11_isWord 31 = .ok (.iconst 1, 1) := by decide +kernel
theorem dX11_isWord_32 : decode cX11_isWord 32 = .ok (.goto 4, 3) := by decide +kernel
theorem dX11_isWord_35 : decode cX11_isWord 35 = .ok (.iconst 0, 1) := by decide +kernel
theorem dX11_isWord_36 : decode cX11_isWord 36 = .ok (.istore_n 2, 1) := by decide +kernel
theorem dX11_isWord_37 : decode cX11_isWord 37 = .ok (.iconst 0, 1) := by decide +kernel
theorem dX11_isWord_38 : decode cX11_isWord 38 = .ok (.istore_n 3, 1) := by decide +kernel
theorem dX11_isWord_39 : decode cX11_isWord 39 = .ok (.iload_n 2, 1) := by decide +kernel
theorem dX11_isWord_40 : decode cX11_isWord 40 = .ok (.ifCond .eq 42, 3) := by decide +kernel
theorem dX11_isWord_43 : decode cX11_isWord 43 = .ok (.iload_n 3, 1) := by decide +kernel
theorem dX11_isWord_44 : decode cX11_isWord 44 = .ok (.aload_n 1, 1) := by decide +kernel
theorem dX11_isWord_45 : decode cX11_isWord 45 = .ok (.invokevirtual 102, 3) := by decide +kernel
theorem dX11_isWord_48 : decode cX11_isWord 48 = .ok (.if_icmp .ge 34, 3) := by decide +kernel
theorem dX11_isWord_51 : decode cX11_isWord 51 = .ok (.aload_n 0, 1) := by decide +kernel
theorem dX11_isWord_52 : decode cX11_isWord 52 = .ok (.getfield 26, 3) := by decide +kernel
theorem dX11_isWord_55 : decode cX11_isWord 55 = .ok (.aload_n 0, 1) := by decide +kernel
theorem dX11_isWord_56 : decode cX11_isWord 56 = .ok (.getfield 76, 3) := by decide +kernel
theorem dX11_isWord_59 : decode cX11_isWord 59 = .ok (.iload_n 3, 1) := by decide +kernel
theorem dX11_isWord_60 : decode cX11_isWord 60 = .ok (.iadd, 1) := by decide +kernel
theorem dX11_isWord_61 : decode cX11_isWord 61 = .ok (.iaload, 1) := by decide +kernel
theorem dX11_isWord_62 : decode cX11_isWord 62 = .ok (.aload_n 1, 1) := by decide +kernel
theorem dX11_isWord_63 : decode cX11_isWord 63 = .ok (.iload_n 3, 1) := by decide +kernel
theorem dX11_isWord_64 : decode cX11_isWord 64 = .ok (.invokevirtual 107, 3) := by decide +kernel
theorem dX11_isWord_67 : decode cX11_isWord 67 = .ok (.if_icmp .ne 7, 3) := by decide +kernel
theorem dX11_isWord_70 : decode cX11_isWord 70 = .ok (.iconst 1, 1) := by decide +kernel
theorem dX11_isWord_71 : decode cX11_isWord 71 = .ok (.goto 4, 3) := by decide +kernel
theorem dX11_isWord_74 : decode cX11_isWord 74 = .ok (.iconst 0, 1) := by decide +kernel
theorem dX11_isWord_75 : decode cX11_isWord 75 = .ok (.istore_n 2, 1) := by decide +kernel
theorem dX11_isWord_76 : decode cX11_isWord 76 = .ok (.iinc 3 1, 3) := by decide +kernel
theorem dX11_isWord_79 : decode cX11_isWord 79 = .ok (.goto (-40), 3) := by decide +kernel
theorem dX11_isWord_82 : decode cX11_isWord 82 = .ok (.iload_n 2, 1) := by decide +kernel
theorem dX11_isWord_83 : decode cX11_isWord 83 = .ok (.ireturn, 1) := by decide +kernel
theorem dX11_took_0 : decode cX11_took 0 = .ok (.aload_n 0, 1) := by decide +kernel
theorem dX11_took_1 : decode cX11_took 1 = .ok (.aload_n 1, 1) := by decide +kernel
theorem dX11_took_2 : decode cX11_took 2 = .ok (.invokevirtual 111, 3) := by decide +kernel
theorem dX11_took_5 : decode cX11_took 5 = .ok (.istore_n 2, 1) := by decide +kernel
theorem dX11_took_6 : decode cX11_took 6 = .ok (.iload_n 2, 1) := by decide +kernel
theorem dX11_took_7 : decode cX11_took 7 = .ok (.ifCond .eq 7, 3) := by decide +kernel
theorem dX11_took_10 : decode cX11_took 10 = .ok (.aload_n 0, 1) := by decide +kernel
theorem dX11_took_11 : decode cX11_took 11 = .ok (.invokevirtual 115, 3) := by decide +kernel
theorem dX11_took_14 : decode cX11_took 14 = .ok (.iload_n 2, 1) := by decide +kernel
theorem dX11_took_15 : decode cX11_took 15 = .ok (.ireturn, 1) := by decide +kernel
theorem dX11_must_0 : decode cX11_must 0 = .ok (.aload_n 0, 1) := by decide +kernel
theorem dX11_must_1 : decode cX11_must 1 = .ok (.aload_n 1, 1) := by decide +kernel
theorem dX11_must_2 : decode cX11_must 2 = .ok (.invokevirtual 118, 3) := by decide +kernel
theorem dX11_must_5 : decode cX11_must 5 = .ok (.ifCond .ne 8, 3) := by decide +kernel
theorem dX11_must_8 : decode cX11_must 8 = .ok (.aload_n 0, 1) := by decide +kernel
theorem dX11_must_9 : decode cX11_must 9 = .ok (.iconst 2, 1) := by decide +kernel
theorem dX11_must_10 : decode cX11_must 10 = .ok (.invokevirtual 121, 3) := by decide +kernel
theorem dX11_must_13 : decode cX11_must 13 = .ok (.return_, 1) := by decide +kernel
theorem dX11_isNumber_0 : decode cX11_isNumber 0 = .ok (.aload_n 0, 1) := by decide +kernel
theorem dX11_isNumber_1 : decode cX11_isNumber 1 = .ok (.getfield 96, 3) := by decide +kernel
theorem dX11_isNumber_4 : decode cX11_isNumber 4 = .ok (.ifCond .ne 15, 3) := by decide +kernel
theorem dX11_isNumber_7 : decode cX11_isNumber 7 = .ok (.aload_n 0, 1) := by decide +kernel
theorem dX11_isNumber_8 : decode cX11_isNumber 8 = .ok (.getfield 79, 3) := by decide +kernel
theorem dX11_isNumber_11 : decode cX11_isNumber 11 = .ok (.iconst 2, 1) := by decide +kernel
theorem dX11_isNumber_12 : decode cX11_isNumber 12 = .ok (.if_icmp .ne 7, 3) := by decide +kernel
theorem dX11_isNumber_15 : decode cX11_isNumber 15 = .ok (.iconst 1, 1) := by decide +kernel
theorem dX11_isNumber_16 : decode cX11_isNumber 16 = .ok (.goto 4, 3) := by decide +kernel
theorem dX11_isNumber_19 : decode cX11_isNumber 19 = .ok (.iconst 0, 1) := by decide +kernel
theorem dX11_isNumber_20 : decode cX11_isNumber 20 = .ok (.ireturn, 1) := by decide +kernel
theorem dX11_coinOf_0 : decode cX11_coinOf 0 = .ok (.iconst 0, 1) := by decide +kernel
theorem dX11_coinOf_1 : decode cX11_coinOf 1 = .ok (.istore_n 3, 1) := by decide +kernel
theorem dX11_coinOf_2 : decode cX11_coinOf 2 = .ok (.iload_n 3, 1) := by decide +kernel
theorem dX11_coinOf_3 : decode cX11_coinOf 3 = .ok (.aload_n 0, 1) := by decide +kernel
theorem dX11_coinOf_4 : decode cX11_coinOf 4 = .ok (.iconst 1, 1) := by decide +kernel
theorem dX11_coinOf_5 : decode cX11_coinOf 5 = .ok (.iaload, 1) := by decide +kernel
theorem dX11_coinOf_6 : decode cX11_coinOf 6 = .ok (.if_icmp .ge 22, 3) := by decide +kernel
theorem dX11_coinOf_9 : decode cX11_coinOf 9 = .ok (.aload_n 0, 1) := by decide +kernel
theorem dX11_coinOf_10 : decode cX11_coinOf 10 = .ok (.iconst 4, 1) := by decide +kernel
theorem dX11_coinOf_11 : decode cX11_coinOf 11 = .ok (.iload_n 3, 1) := by decide +kernel
theorem dX11_coinOf_12 : decode cX11_coinOf 12 = .ok (.iadd, 1) := by decide +kernel
theorem dX11_coinOf_13 : decode cX11_coinOf 13 = .ok (.iaload, 1) := by decide +kernel
theorem dX11_coinOf_14 : decode cX11_coinOf 14 = .ok (.i2l, 1) := by decide +kernel
theorem dX11_coinOf_15 : decode cX11_coinOf 15 = .ok (.lload_n 1, 1) := by decide +kernel
theorem dX11_coinOf_16 : decode cX11_coinOf 16 = .ok (.lcmp, 1) := by decide +kernel
theorem dX11_coinOf_17 : decode cX11_coinOf 17 = .ok (.ifCond .ne 5, 3) := by decide +kernel
theorem dX11_coinOf_20 : decode cX11_coinOf 20 = .ok (.iload_n 3, 1) := by decide +kernel
theorem dX11_coinOf_21 : decode cX11_coinOf 21 = .ok (.ireturn, 1) := by decide +kernel
theorem dX11_coinOf_22 : decode cX11_coinOf 22 = .ok (.iinc 3 1, 3) := by decide +kernel
theorem dX11_coinOf_25 : decode cX11_coinOf 25 = .ok (.goto (-23), 3) := by decide +kernel
theorem dX11_coinOf_28 : decode cX11_coinOf 28 = .ok (.iconst (-1), 1) := by decide +kernel
theorem dX11_coinOf_29 : decode cX11_coinOf 29 = .ok (.ireturn, 1) := by decide +kernel
theorem dX11_readPrime_0 : decode cX11_readPrime 0 = .ok (.aload_n 0, 1) := by decide +kernel
theorem dX11_readPrime_1 : decode cX11_readPrime 1 = .ok (.invokevirtual 125, 3) := by decide +kernel
theorem dX11_readPrime_4 : decode cX11_readPrime 4 = .ok (.ifCond .ne 9, 3) := by decide +kernel
theorem dX11_readPrime_7 : decode cX11_readPrime 7 = .ok (.aload_n 0, 1) := by decide +kernel
theorem dX11_readPrime_8 : decode cX11_readPrime 8 = .ok (.iconst 2, 1) := by decide +kernel
theorem dX11_readPrime_9 : decode cX11_readPrime 9 = .ok (.invokevirtual 121, 3) := by decide +kernel
theorem dX11_readPrime_12 : decode cX11_readPrime 12 = .ok (.return_, 1) := by decide +kernel
theorem dX11_readPrime_13 : decode cX11_readPrime 13 = .ok (.aload_n 0, 1) := by decide +kernel
theorem dX11_readPrime_14 : decode cX11_readPrime 14 = .ok (.getfield 93, 3) := by decide +kernel
theorem dX11_readPrime_17 : decode cX11_readPrime 17 = .ok (.i2l, 1) := by decide +kernel
theorem dX11_readPrime_18 : decode cX11_readPrime 18 = .ok (.ldc2_w 129, 3) := by decide +kernel
theorem dX11_readPrime_21 : decode cX11_readPrime 21 = .ok (.ldc2_w 131, 3) := by decide +kernel
theorem dX11_readPrime_24 : decode cX11_readPrime 24 = .ok (.invokestatic 133, 3) := by decide +kernel
theorem dX11_readPrime_27 : decode cX11_readPrime 27 = .ok (.ifCond .eq 29, 3) := by decide +kernel
theorem dX11_readPrime_30 : decode cX11_readPrime 30 = .ok (.aload_n 0, 1) := by decide +kernel
theorem dX11_readPrime_31 : decode cX11_readPrime 31 = .ok (.getfield 93, 3) := by decide +kernel
theorem dX11_readPrime_34 : decode cX11_readPrime 34 = .ok (.invokestatic 137, 3) := by decide +kernel
theorem dX11_readPrime_37 : decode cX11_readPrime 37 = .ok (.ifCond .eq 19, 3) := by decide +kernel
theorem dX11_readPrime_40 : decode cX11_readPrime 40 = .ok (.aload_n 0, 1) := by decide +kernel
theorem dX11_readPrime_41 : decode cX11_readPrime 41 = .ok (.getfield 13, 3) := by decide +kernel
theorem dX11_readPrime_44 : decode cX11_readPrime 44 = .ok (.aload_n 0, 1) := by decide +kernel
theorem dX11_readPrime_45 : decode cX11_readPrime 45 = .ok (.getfield 93, 3) := by decide +kernel
theorem dX11_readPrime_48 : decode cX11_readPrime 48 = .ok (.i2l, 1) := by decide +kernel
theorem dX11_readPrime_49 : decode cX11_readPrime 49 = .ok (.invokestatic 140, 3) := by decide +kernel
theorem dX11_readPrime_52 : decode cX11_readPrime 52 = .ok (.iconst (-1), 1) := by decide +kernel
theorem dX11_readPrime_53 : decode cX11_readPrime 53 = .ok (.if_icmp .eq 8, 3) := by decide +kernel
theorem dX11_readPrime_56 : decode cX11_readPrime 56 = .ok (.aload_n 0, 1) := by decide +kernel
theorem dX11_readPrime_57 : decode cX11_readPrime 57 = .ok (.iconst 3, 1) := by decide +kernel
theorem dX11_readPrime_58 : decode cX11_readPrime 58 = .ok (.invokevirtual 121, 3) := by decide +kernel
theorem dX11_readPrime_61 : decode cX11_readPrime 61 = .ok (.aload_n 0, 1) := by decide +kernel
theorem dX11_readPrime_62 : decode cX11_readPrime 62 = .ok (.getfield 13, 3) := by decide +kernel
theorem dX11_readPrime_65 : decode cX11_readPrime 65 = .ok (.iconst 1, 1) := by decide +kernel
theorem dX11_readPrime_66 : decode cX11_readPrime 66 = .ok (.iaload, 1) := by decide +kernel
theorem dX11_readPrime_67 : decode cX11_readPrime 67 = .ok (.bipush 8, 2) := by decide +kernel
theorem dX11_readPrime_69 : decode cX11_readPrime 69 = .ok (.if_icmp .ne 8, 3) := by decide +kernel
theorem dX11_readPrime_72 : decode cX11_readPrime 72 = .ok (.aload_n 0, 1) := by decide +kernel
theorem dX11_readPrime_73 : decode cX11_readPrime 73 = .ok (.iconst 4, 1) := by decide +kernel
theorem dX11_readPrime_74 : decode cX11_readPrime 74 = .ok (.invokevirtual 121, 3) := by decide +kernel
theorem dX11_readPrime_77 : decode cX11_readPrime 77 = .ok (.aload_n 0, 1) := by decide +kernel
theorem dX11_readPrime_78 : decode cX11_readPrime 78 = .ok (.getfield 96, 3) := by decide +kernel
theorem dX11_readPrime_81 : decode cX11_readPrime 81 = .ok (.ifCond .eq 4, 3) := by decide +kernel
theorem dX11_readPrime_84 : decode cX11_readPrime 84 = .ok (.return_, 1) := by decide +kernel
theorem dX11_readPrime_85 : decode cX11_readPrime 85 = .ok (.aload_n 0, 1) := by decide +kernel
theorem dX11_readPrime_86 : decode cX11_readPrime 86 = .ok (.getfield 13, 3) := by decide +kernel
theorem dX11_readPrime_89 : decode cX11_readPrime 89 = .ok (.iconst 4, 1) := by decide +kernel
theorem dX11_readPrime_90 : decode cX11_readPrime 90 = .ok (.aload_n 0, 1) := by decide +kernel
theorem dX11_readPrime_91 : decode cX11_readPrime 91 = .ok (.getfield 13, 3) := by decide +kernel
theorem dX11_readPrime_94 : decode cX11_readPrime 94 = .ok (.iconst 1, 1) := by decide +kernel
theorem dX11_readPrime_95 : decode cX11_readPrime 95 = .ok (.iaload, 1) := by decide +kernel
theorem dX11_readPrime_96 : decode cX11_readPrime 96 = .ok (.iadd, 1) := by decide +kernel
theorem dX11_readPrime_97 : decode cX11_readPrime 97 = .ok (.aload_n 0, 1) := by decide +kernel
theorem dX11_readPrime_98 : decode cX11_readPrime 98 = .ok (.getfield 93, 3) := by decide +kernel
theorem dX11_readPrime_101 : decode cX11_readPrime 101 = .ok (.iastore, 1) := by decide +kernel
theorem dX11_readPrime_102 : decode cX11_readPrime 102 = .ok (.aload_n 0, 1) := by decide +kernel
theorem dX11_readPrime_103 : decode cX11_readPrime 103 = .ok (.getfield 13, 3) := by decide +kernel
theorem dX11_readPrime_106 : decode cX11_readPrime 106 = .ok (.iconst 1, 1) := by decide +kernel
theorem dX11_readPrime_107 : decode cX11_readPrime 107 = .ok (.dup2, 1) := by decide +kernel
theorem dX11_readPrime_108 : decode cX11_readPrime 108 = .ok (.iaload, 1) := by decide +kernel
theorem dX11_readPrime_109 : decode cX11_readPrime 109 = .ok (.iconst 1, 1) := by decide +kernel
theorem dX11_readPrime_110 : decode cX11_readPrime 110 = .ok (.iadd, 1) := by decide +kernel
theorem dX11_readPrime_111 : decode cX11_readPrime 111 = .ok (.iastore, 1) := by decide +kernel
theorem dX11_readPrime_112 : decode cX11_readPrime 112 = .ok (.aload_n 0, 1) := by decide +kernel
theorem dX11_readPrime_113 : decode cX11_readPrime 113 = .ok (.invokevirtual 115, 3) := by decide +kernel
theorem dX11_readPrime_116 : decode cX11_readPrime 116 = .ok (.return_, 1) := by decide +kernel
theorem dX11_readMint_0 : decode cX11_readMint 0 = .ok (.aload_n 0, 1) := by decide +kernel
theorem dX11_readMint_1 : decode cX11_readMint 1 = .ok (.ldc 144, 2) := by decide +kernel
theorem dX11_readMint_3 : decode cX11_readMint 3 = .ok (.invokevirtual 146, 3) := by decide +kernel
theorem dX11_readMint_6 : decode cX11_readMint 6 = .ok (.aload_n 0, 1) := by decide +kernel
theorem dX11_readMint_7 : decode cX11_readMint 7 = .ok (.invokevirtual 150, 3) := by decide +kernel
theorem dX11_readMint_10 : decode cX11_readMint 10 = .ok (.aload_n 0, 1) := by decide +kernel
theorem dX11_readMint_11 : decode cX11_readMint 11 = .ok (.invokevirtual 125, 3) := by decide +kernel
theorem dX11_readMint_14 : decode cX11_readMint 14 = .ok (.ifCond .eq 10, 3) := by decide +kernel
theorem dX11_readMint_17 : decode cX11_readMint 17 = .ok (.aload_n 0, 1) := by decide +kernel
theorem dX11_readMint_18 : decode cX11_readMint 18 = .ok (.invokevirtual 150, 3) := by decide +kernel
theorem dX11_readMint_21 : decode cX11_readMint 21 = .ok (.goto (-11), 3) := by decide +kernel
theorem dX11_readMint_24 : decode cX11_readMint 24 = .ok (.return_, 1) := by decide +kernel
theorem dX11_inPurse_0 : decode cX11_inPurse 0 = .ok (.iconst 0, 1) := by decide +kernel
theorem dX11_inPurse_1 : decode cX11_inPurse 1 = .ok (.istore_n 2, 1) := by decide +kernel
theorem dX11_inPurse_2 : decode cX11_inPurse 2 = .ok (.iconst 0, 1) := by decide +kernel
theorem dX11_inPurse_3 : decode cX11_inPurse 3 = .ok (.istore_n 3, 1) := by decide +kernel
theorem dX11_inPurse_4 : decode cX11_inPurse 4 = .ok (.iload_n 3, 1) := by decide +kernel
theorem dX11_inPurse_5 : decode cX11_inPurse 5 = .ok (.bipush 8, 2) := by decide +kernel
theorem dX11_inPurse_7 : decode cX11_inPurse 7 = .ok (.if_icmp .ge 20, 3) := by decide +kernel
theorem dX11_inPurse_10 : decode cX11_inPurse 10 = .ok (.iload_n 2, 1) := by decide +kernel
theorem dX11_inPurse_11 : decode cX11_inPurse 11 = .ok (.aload_n 0, 1) := by decide +kernel
theorem dX11_inPurse_12 : decode cX11_inPurse 12 = .ok (.getfield 13, 3) := by decide +kernel
theorem dX11_inPurse_15 : decode cX11_inPurse 15 = .ok (.iload_n 1, 1) := by decide +kernel
theorem dX11_inPurse_16 : decode cX11_inPurse 16 = .ok (.iload_n 3, 1) := by decide +kernel
theorem dX11_inPurse_17 : decode cX11_inPurse 17 = .ok (.iadd, 1) := by decide +kernel
theorem dX11_inPurse_18 : decode cX11_inPurse 18 = .ok (.iaload, 1) := by decide +kernel
theorem dX11_inPurse_19 : decode cX11_inPurse 19 = .ok (.iadd, 1) := by decide +kernel
theorem dX11_inPurse_20 : decode cX11_inPurse 20 = .ok (.istore_n 2, 1) := by decide +kernel
theorem dX11_inPurse_21 : decode cX11_inPurse 21 = .ok (.iinc 3 1, 3) := by decide +kernel
theorem dX11_inPurse_24 : decode cX11_inPurse 24 = .ok (.goto (-20), 3) := by decide +kernel
theorem dX11_inPurse_27 : decode cX11_inPurse 27 = .ok (.iload_n 2, 1) := by decide +kernel
theorem dX11_inPurse_28 : decode cX11_inPurse 28 = .ok (.ireturn, 1) := by decide +kernel
theorem dX11_readPurse_0 : decode cX11_readPurse 0 = .ok (.aload_n 0, 1) := by decide +kernel
theorem dX11_readPurse_1 : decode cX11_readPurse 1 = .ok (.getfield 13, 3) := by decide +kernel
theorem dX11_readPurse_4 : decode cX11_readPurse 4 = .ok (.iconst 2, 1) := by decide +kernel
theorem dX11_readPurse_5 : decode cX11_readPurse 5 = .ok (.iaload, 1) := by decide +kernel
theorem dX11_readPurse_6 : decode cX11_readPurse 6 = .ok (.iconst 5, 1) := by decide +kernel
theorem dX11_readPurse_7 : decode cX11_readPurse 7 = .ok (.if_icmp .ne 8, 3) := by decide +kernel
theorem dX11_readPurse_10 : decode cX11_readPurse 10 = .ok (.aload_n 0, 1) := by decide +kernel
theorem dX11_readPurse_11 : decode cX11_readPurse 11 = .ok (.iconst 4, 1) := by decide +kernel
theorem dX11_readPurse_12 : decode cX11_readPurse 12 = .ok (.invokevirtual 121, 3) := by decide +kernel
theorem dX11_readPurse_15 : decode cX11_readPurse 15 = .ok (.aload_n 0, 1) := by decide +kernel
theorem dX11_readPurse_16 : decode cX11_readPurse 16 = .ok (.getfield 96, 3) := by decide +kernel
theorem dX11_readPurse_19 : decode cX11_readPurse 19 = .ok (.ifCond .eq 4, 3) := by decide +kernel
theorem dX11_readPurse_22 : decode cX11_readPurse 22 = .ok (.return_, 1) := by decide +kernel
theorem dX11_readPurse_23 : decode cX11_readPurse 23 = .ok (.aload_n 0, 1) := by decide +kernel
theorem dX11_readPurse_24 : decode cX11_readPurse 24 = .ok (.invokevirtual 115, 3) := by decide +kernel
theorem dX11_readPurse_27 : decode cX11_readPurse 27 = .ok (.bipush 12, 2) := by decide +kernel
theorem dX11_readPurse_29 : decode cX11_readPurse 29 = .ok (.bipush 8, 2) := by decide +kernel
theorem dX11_readPurse_31 : decode cX11_readPurse 31 = .ok (.aload_n 0, 1) := by decide +kernel
theorem dX11_readPurse_32 : decode cX11_readPurse 32 = .ok (.getfield 13, 3) := by decide +kernel
theorem dX11_readPurse_35 : decode cX11_readPurse 35 = .ok (.iconst 2, 1) := by decide +kernel
theorem dX11_readPurse_36 : decode cX11_readPurse 36 = .ok (.iaload, 1) := by decide +kernel
theorem dX11_readPurse_37 : decode cX11_readPurse 37 = .ok (.imul, 1) := by decide +kernel
theorem dX11_readPurse_38 : decode cX11_readPurse 38 = .ok (.iadd, 1) := by decide +kernel
theorem dX11_readPurse_39 : decode cX11_readPurse 39 = .ok (.istore_n 1, 1) := by decide +kernel
theorem dX11_readPurse_40 : decode cX11_readPurse 40 = .ok (.iconst 0, 1) := by decide +kernel
theorem dX11_readPurse_41 : decode cX11_readPurse 41 = .ok (.istore_n 2, 1) := by decide +kernel
theorem dX11_readPurse_42 : decode cX11_readPurse 42 = .ok (.iload_n 2, 1) := by decide +kernel
theorem dX11_readPurse_43 : decode cX11_readPurse 43 = .ok (.bipush 8, 2) := by decide +kernel
theorem dX11_readPurse_45 : decode cX11_readPurse 45 = .ok (.if_icmp .ge 18, 3) := by decide +kernel
theorem dX11_readPurse_48 : decode cX11_readPurse 48 = .ok (.aload_n 0, 1) := by decide +kernel
theorem dX11_readPurse_49 : decode cX11_readPurse 49 = .ok (.getfield 13, 3) := by decide +kernel
theorem dX11_readPurse_52 : decode cX11_readPurse 52 = .ok (.iload_n 1, 1) := by decide +kernel
theorem dX11_readPurse_53 : decode cX11_readPurse 53 = .ok (.iload_n 2, 1) := by decide +kernel
theorem dX11_readPurse_54 : decode cX11_readPurse 54 = .ok (.iadd, 1) := by decide +kernel
theorem dX11_readPurse_55 : decode cX11_readPurse 55 = .ok (.iconst 0, 1) := by decide +kernel
theorem dX11_readPurse_56 : decode cX11_readPurse 56 = .ok (.iastore, 1) := by decide +kernel
theorem dX11_readPurse_57 : decode cX11_readPurse 57 = .ok (.iinc 2 1, 3) := by decide +kernel
theorem dX11_readPurse_60 : decode cX11_readPurse 60 = .ok (.goto (-18), 3) := by decide +kernel
theorem dX11_readPurse_63 : decode cX11_readPurse 63 = .ok (.aload_n 0, 1) := by decide +kernel
theorem dX11_readPurse_64 : decode cX11_readPurse 64 = .ok (.invokevirtual 125, 3) := by decide +kernel
theorem dX11_readPurse_67 : decode cX11_readPurse 67 = .ok (.ifCond .eq 155, 3) := by decide +kernel
theorem dX11_readPurse_70 : decode cX11_readPurse 70 = .ok (.aload_n 0, 1) := by decide +kernel
theorem dX11_readPurse_71 : decode cX11_readPurse 71 = .ok (.getfield 13, 3) := by decide +kernel
theorem dX11_readPurse_74 : decode cX11_readPurse 74 = .ok (.aload_n 0, 1) := by decide +kernel
theorem dX11_readPurse_75 : decode cX11_readPurse 75 = .ok (.getfield 93, 3) := by decide +kernel
theorem dX11_readPurse_78 : decode cX11_readPurse 78 = .ok (.i2l, 1) := by decide +kernel
theorem dX11_readPurse_79 : decode cX11_readPurse 79 = .ok (.invokestatic 140, 3) := by decide +kernel
theorem dX11_readPurse_82 : decode cX11_readPurse 82 = .ok (.istore_n 2, 1) := by decide +kernel
theorem dX11_readPurse_83 : decode cX11_readPurse 83 = .ok (.iload_n 2, 1) := by decide +kernel
theorem dX11_readPurse_84 : decode cX11_readPurse 84 = .ok (.iconst (-1), 1) := by decide +kernel
theorem dX11_readPurse_85 : decode cX11_readPurse 85 = .ok (.if_icmp .ne 8, 3) := by decide +kernel
theorem dX11_readPurse_88 : decode cX11_readPurse 88 = .ok (.aload_n 0, 1) := by decide +kernel
theorem dX11_readPurse_89 : decode cX11_readPurse 89 = .ok (.iconst 3, 1) := by decide +kernel
theorem dX11_readPurse_90 : decode cX11_readPurse 90 = .ok (.invokevirtual 121, 3) := by decide +kernel
theorem dX11_readPurse_93 : decode cX11_readPurse 93 = .ok (.aload_n 0, 1) := by decide +kernel
theorem dX11_readPurse_94 : decode cX11_readPurse 94 = .ok (.iload_n 1, 1) := by decide +kernel
theorem dX11_readPurse_95 : decode cX11_readPurse 95 = .ok (.invokevirtual 153, 3) := by decide +kernel
theorem dX11_readPurse_98 : decode cX11_readPurse 98 = .ok (.bipush 9, 2) := by decide +kernel
theorem dX11_readPurse_100 : decode cX11_readPurse 100 = .ok (.if_icmp .ne 8, 3) := by decide +kernel
theorem dX11_readPurse_103 : decode cX11_readPurse 103 = .ok (.aload_n 0, 1) := by decide +kernel
theorem dX11_readPurse_104 : decode cX11_readPurse 104 = .ok (.iconst 4, 1) := by decide +kernel
theorem dX11_readPurse_105 : decode cX11_readPurse 105 = .ok (.invokevirtual 121, 3) := by decide +kernel
theorem dX11_readPurse_108 : decode cX11_readPurse 108 = .ok (.aload_n 0, 1) := by decide +kernel
theorem dX11_readPurse_109 : decode cX11_readPurse 109 = .ok (.getfield 96, 3) := by decide +kernel
theorem dX11_readPurse_112 : decode cX11_readPurse 112 = .ok (.ifCond .eq 4, 3) := by decide +kernel
theorem dX11_readPurse_115 : decode cX11_readPurse 115 = .ok (.return_, 1) := by decide +kernel
theorem dX11_readPurse_116 : decode cX11_readPurse 116 = .ok (.aload_n 0, 1) := by decide +kernel
theorem dX11_readPurse_117 : decode cX11_readPurse 117 = .ok (.invokevirtual 115, 3) := by decide +kernel
theorem dX11_readPurse_120 : decode cX11_readPurse 120 = .ok (.iconst 1, 1) := by decide +kernel
theorem dX11_readPurse_121 : decode cX11_readPurse 121 = .ok (.istore_n 3, 1) := by decide +kernel
theorem dX11_readPurse_122 : decode cX11_readPurse 122 = .ok (.aload_n 0, 1) := by decide +kernel
theorem dX11_readPurse_123 : decode cX11_readPurse 123 = .ok (.ldc 156, 2) := by decide +kernel
theorem dX11_readPurse_125 : decode cX11_readPurse 125 = .ok (.invokevirtual 118, 3) := by decide +kernel
theorem dX11_readPurse_128 : decode cX11_readPurse 128 = .ok (.ifCond .eq 79, 3) := by decide +kernel
theorem dX11_readPurse_131 : decode cX11_readPurse 131 = .ok (.aload_n 0, 1) := by decide +kernel
theorem dX11_readPurse_132 : decode cX11_readPurse 132 = .ok (.getfield 93, 3) := by decide +kernel
theorem dX11_readPurse_135 : decode cX11_readPurse 135 = .ok (.istore_n 3, 1) := by decide +kernel
theorem dX11_readPurse_136 : decode cX11_readPurse 136 = .ok (.aload_n 0, 1) := by decide +kernel
theorem dX11_readPurse_137 : decode cX11_readPurse 137 = .ok (.getfield 79, 3) := by decide +kernel
theorem dX11_readPurse_140 : decode cX11_readPurse 140 = .ok (.iconst 2, 1) := by decide +kernel
theorem dX11_readPurse_141 : decode cX11_readPurse 141 = .ok (.if_icmp .eq 11, 3) := by decide +kernel
theorem dX11_readPurse_144 : decode cX11_readPurse 144 = .ok (.aload_n 0, 1) := by decide +kernel
theorem dX11_readPurse_145 : decode cX11_readPurse 145 = .ok (.iconst 2, 1) := by decide +kernel
theorem dX11_readPurse_146 : decode cX11_readPurse 146 = .ok (.invokevirtual 121, 3) := by decide +kernel
theorem dX11_readPurse_149 : decode cX11_readPurse 149 = .ok (.goto 46, 3) := by decide +kernel
theorem dX11_readPurse_152 : decode cX11_readPurse 152 = .ok (.aload_n 0, 1) := by decide +kernel
theorem dX11_readPurse_153 : decode cX11_readPurse 153 = .ok (.getfield 93, 3) := by decide +kernel
theorem dX11_readPurse_156 : decode cX11_readPurse 156 = .ok (.i2l, 1) := by decide +kernel
theorem dX11_readPurse_157 : decode cX11_readPurse 157 = .ok (.lconst 1, 1) := by decide +kernel
theorem dX11_readPurse_158 : decode cX11_readPurse 158 = .ok (.ldc2_w 158, 3) := by decide +kernel
theorem dX11_readPurse_161 : decode cX11_readPurse 161 = .ok (.invokestatic 133, 3) := by decide +kernel
theorem dX11_readPurse_164 : decode cX11_readPurse 164 = .ok (.ifCond .ne 11, 3) := by decide +kernel
theorem dX11_readPurse_167 : decode cX11_readPurse 167 = .ok (.aload_n 0, 1) := by decide +kernel
theorem dX11_readPurse_168 : decode cX11_readPurse 168 = .ok (.iconst 3, 1) := by decide +kernel
theorem dX11_readPurse_169 : decode cX11_readPurse 169 = .ok (.invokevirtual 121, 3) := by decide +kernel
theorem dX11_readPurse_172 : decode cX11_readPurse 172 = .ok (.goto 23, 3) := by decide +kernel
theorem dX11_readPurse_175 : decode cX11_readPurse 175 = .ok (.aload_n 0, 1) := by decide +kernel
theorem dX11_readPurse_176 : decode cX11_readPurse 176 = .ok (.iload_n 1, 1) := by decide +kernel
theorem dX11_readPurse_177 : decode cX11_readPurse 177 = .ok (.invokevirtual 153, 3) := by decide +kernel
theorem dX11_readPurse_180 : decode cX11_readPurse 180 = .ok (.aload_n 0, 1) := by decide +kernel
theorem dX11_readPurse_181 : decode cX11_readPurse 181 = .ok (.getfield 93, 3) := by decide +kernel
theorem dX11_readPurse_184 : decode cX11_readPurse 184 = .ok (.iadd, 1) := by decide +kernel
theorem dX11_readPurse_185 : decode cX11_readPurse 185 = .ok (.bipush 9, 2) := by decide +kernel
theorem dX11_readPurse_187 : decode cX11_readPurse 187 = .ok (.if_icmp .le 8, 3) := by decide +kernel
theorem dX11_readPurse_190 : decode cX11_readPurse 190 = .ok (.aload_n 0, 1) := by decide +kernel
theorem dX11_readPurse_191 : decode cX11_readPurse 191 = .ok (.iconst 4, 1) := by decide +kernel
theorem dX11_readPurse_192 : decode cX11_readPurse 192 = .ok (.invokevirtual 121, 3) := by decide +kernel
theorem dX11_readPurse_195 : decode cX11_readPurse 195 = .ok (.aload_n 0, 1) := by decide +kernel
theorem dX11_readPurse_196 : decode cX11_readPurse 196 = .ok (.getfield 96, 3) := by decide +kernel
theorem dX11_readPurse_199 : decode cX11_readPurse 199 = .ok (.ifCond .eq 4, 3) := by decide +kernel
theorem dX11_readPurse_202 : decode cX11_readPurse 202 = .ok (.return_, 1) := by decide +kernel
theorem dX11_readPurse_203 : decode cX11_readPurse 203 = .ok (.aload_n 0, 1) := by decide +kernel
theorem dX11_readPurse_204 : decode cX11_readPurse 204 = .ok (.invokevirtual 115, 3) := by decide +kernel
theorem dX11_readPurse_207 : decode cX11_readPurse 207 = .ok (.aload_n 0, 1) := by decide +kernel
theorem dX11_readPurse_208 : decode cX11_readPurse 208 = .ok (.getfield 13, 3) := by decide +kernel
theorem dX11_readPurse_211 : decode cX11_readPurse 211 = .ok (.iload_n 1, 1) := by decide +kernel
theorem dX11_readPurse_212 : decode cX11_readPurse 212 = .ok (.iload_n 2, 1) := by decide +kernel
theorem dX11_readPurse_213 : decode cX11_readPurse 213 = .ok (.iadd, 1) := by decide +kernel
theorem dX11_readPurse_214 : decode cX11_readPurse 214 = .ok (.dup2, 1) := by decide +kernel
theorem dX11_readPurse_215 : decode cX11_readPurse 215 = .ok (.iaload, 1) := by decide +kernel
theorem dX11_readPurse_216 : decode cX11_readPurse 216 = .ok (.iload_n 3, 1) := by decide +kernel
theorem dX11_readPurse_217 : decode cX11_readPurse 217 = .ok (.iadd, 1) := by decide +kernel
theorem dX11_readPurse_218 : decode cX11_readPurse 218 = .ok (.iastore, 1) := by decide +kernel
theorem dX11_readPurse_219 : decode cX11_readPurse 219 = .ok (.goto (-156), 3) := by decide +kernel
theorem dX11_readPurse_222 : decode cX11_readPurse 222 = .ok (.aload_n 0, 1) := by decide +kernel
theorem dX11_readPurse_223 : decode cX11_readPurse 223 = .ok (.getfield 96, 3) := by decide +kernel
theorem dX11_readPurse_226 : decode cX11_readPurse 226 = .ok (.ifCond .ne 13, 3) := by decide +kernel
theorem dX11_readPurse_229 : decode cX11_readPurse 229 = .ok (.aload_n 0, 1) := by decide +kernel
theorem dX11_readPurse_230 : decode cX11_readPurse 230 = .ok (.getfield 13, 3) := by decide +kernel
theorem dX11_readPurse_233 : decode cX11_readPurse 233 = .ok (.iconst 2, 1) := by decide +kernel
theorem dX11_readPurse_234 : decode cX11_readPurse 234 = .ok (.dup2, 1) := by decide +kernel
theorem dX11_readPurse_235 : decode cX11_readPurse 235 = .ok (.iaload, 1) := by decide +kernel
theorem dX11_readPurse_236 : decode cX11_readPurse 236 = .ok (.iconst 1, 1) := by decide +kernel
theorem dX11_readPurse_237 : decode cX11_readPurse 237 = .ok (.iadd, 1) := by decide +kernel
theorem dX11_readPurse_238 : decode cX11_readPurse 238 = .ok (.iastore, 1) := by decide +kernel
theorem dX11_readPurse_239 : decode cX11_readPurse 239 = .ok (.return_, 1) := by decide +kernel
theorem dX11_readSide_0 : decode cX11_readSide 0 = .ok (.iconst 0, 1) := by decide +kernel
theorem dX11_readSide_1 : decode cX11_readSide 1 = .ok (.istore_n 2, 1) := by decide +kernel
theorem dX11_readSide_2 : decode cX11_readSide 2 = .ok (.iload_n 2, 1) := by decide +kernel
theorem dX11_readSide_3 : decode cX11_readSide 3 = .ok (.bipush 8, 2) := by decide +kernel
theorem dX11_readSide_5 : decode cX11_readSide 5 = .ok (.if_icmp .ge 18, 3) := by decide +kernel
theorem dX11_readSide_8 : decode cX11_readSide 8 = .ok (.aload_n 0, 1) := by decide +kernel
theorem dX11_readSide_9 : decode cX11_readSide 9 = .ok (.getfield 13, 3) := by decide +kernel
theorem dX11_readSide_12 : decode cX11_readSide 12 = .ok (.iload_n 1, 1) := by decide +kernel
theorem dX11_readSide_13 : decode cX11_readSide 13 = .ok (.iload_n 2, 1) := by decide +kernel
theorem dX11_readSide_14 : decode cX11_readSide 14 = .ok (.iadd, 1) := by decide +kernel
theorem dX11_readSide_15 : decode cX11_readSide 15 = .ok (.iconst 0, 1) := by decide +kernel
theorem dX11_readSide_16 : decode cX11_readSide 16 = .ok (.iastore, 1) := by decide +kernel
theorem dX11_readSide_17 : decode cX11_readSide 17 = .ok (.iinc 2 1, 3) := by decide +kernel
theorem dX11_readSide_20 : decode cX11_readSide 20 = .ok (.goto (-18), 3) := by decide +kernel
theorem dX11_readSide_23 : decode cX11_readSide 23 = .ok (.aload_n 0, 1) := by decide +kernel
theorem dX11_readSide_24 : decode cX11_readSide 24 = .ok (.invokevirtual 125, 3) := by decide +kernel
theorem dX11_readSide_27 : decode cX11_readSide 27 = .ok (.ifCond .ne 8, 3) := by decide +kernel
theorem dX11_readSide_30 : decode cX11_readSide 30 = .ok (.aload_n 0, 1) := by decide +kernel
theorem dX11_readSide_31 : decode cX11_readSide 31 = .ok (.iconst 2, 1) := by decide +kernel
theorem dX11_readSide_32 : decode cX11_readSide 32 = .ok (.invokevirtual 121, 3) := by decide +kernel
theorem dX11_readSide_35 : decode cX11_readSide 35 = .ok (.aload_n 0, 1) := by decide +kernel
theorem dX11_readSide_36 : decode cX11_readSide 36 = .ok (.invokevirtual 125, 3) := by decide +kernel
theorem dX11_readSide_39 : decode cX11_readSide 39 = .ok (.ifCond .eq 67, 3) := by decide +kernel
theorem dX11_readSide_42 : decode cX11_readSide 42 = .ok (.aload_n 0, 1) := by decide +kernel
theorem dX11_readSide_43 : decode cX11_readSide 43 = .ok (.getfield 13, 3) := by decide +kernel
theorem dX11_readSide_46 : decode cX11_readSide 46 = .ok (.aload_n 0, 1) := by decide +kernel
theorem dX11_readSide_47 : decode cX11_readSide 47 = .ok (.getfield 93, 3) := by decide +kernel
theorem dX11_readSide_50 : decode cX11_readSide 50 = .ok (.i2l, 1) := by decide +kernel
theorem dX11_readSide_51 : decode cX11_readSide 51 = .ok (.invokestatic 140, 3) := by decide +kernel
theorem dX11_readSide_54 : decode cX11_readSide 54 = .ok (.istore_n 2, 1) := by decide +kernel
theorem dX11_readSide_55 : decode cX11_readSide 55 = .ok (.iload_n 2, 1) := by decide +kernel
theorem dX11_readSide_56 : decode cX11_readSide 56 = .ok (.iconst (-1), 1) := by decide +kernel
theorem dX11_readSide_57 : decode cX11_readSide 57 = .ok (.if_icmp .ne 8, 3) := by decide +kernel
theorem dX11_readSide_60 : decode cX11_readSide 60 = .ok (.aload_n 0, 1) := by decide +kernel
theorem dX11_readSide_61 : decode cX11_readSide 61 = .ok (.iconst 3, 1) := by decide +kernel
theorem dX11_readSide_62 : decode cX11_readSide 62 = .ok (.invokevirtual 121, 3) := by decide +kernel
theorem dX11_readSide_65 : decode cX11_readSide 65 = .ok (.aload_n 0, 1) := by decide +kernel
theorem dX11_readSide_66 : decode cX11_readSide 66 = .ok (.iload_n 1, 1) := by decide +kernel
theorem dX11_readSide_67 : decode cX11_readSide 67 = .ok (.invokevirtual 153, 3) := by decide +kernel
theorem dX11_readSide_70 : decode cX11_readSide 70 = .ok (.iconst 3, 1) := by decide +kernel
theorem dX11_readSide_71 : decode cX11_readSide 71 = .ok (.if_icmp .ne 8, 3) := by decide +kernel
theorem dX11_readSide_74 : decode cX11_readSide 74 = .ok (.aload_n 0, 1) := by decide +kernel
theorem dX11_readSide_75 : decode cX11_readSide 75 = .ok (.iconst 4, 1) := by decide +kernel
theorem dX11_readSide_76 : decode cX11_readSide 76 = .ok (.invokevirtual 121, 3) := by decide +kernel
theorem dX11_readSide_79 : decode cX11_readSide 79 = .ok (.aload_n 0, 1) := by decide +kernel
theorem dX11_readSide_80 : decode cX11_readSide 80 = .ok (.getfield 96, 3) := by decide +kernel
theorem dX11_readSide_83 : decode cX11_readSide 83 = .ok (.ifCond .eq 4, 3) := by decide +kernel
theorem dX11_readSide_86 : decode cX11_readSide 86 = .ok (.return_, 1) := by decide +kernel
theorem dX11_readSide_87 : decode cX11_readSide 87 = .ok (.aload_n 0, 1) := by decide +kernel
theorem dX11_readSide_88 : decode cX11_readSide 88 = .ok (.getfield 13, 3) := by decide +kernel
theorem dX11_readSide_91 : decode cX11_readSide 91 = .ok (.iload_n 1, 1) := by decide +kernel
theorem dX11_readSide_92 : decode cX11_readSide 92 = .ok (.iload_n 2, 1) := by decide +kernel
theorem dX11_readSide_93 : decode cX11_readSide 93 = .ok (.iadd, 1) := by decide +kernel
theorem dX11_readSide_94 : decode cX11_readSide 94 = .ok (.dup2, 1) := by decide +kernel
theorem dX11_readSide_95 : decode cX11_readSide 95 = .ok (.iaload, 1) := by decide +kernel
theorem dX11_readSide_96 : decode cX11_readSide 96 = .ok (.iconst 1, 1) := by decide +kernel
theorem dX11_readSide_97 : decode cX11_readSide 97 = .ok (.iadd, 1) := by decide +kernel
theorem dX11_readSide_98 : decode cX11_readSide 98 = .ok (.iastore, 1) := by decide +kernel
theorem dX11_readSide_99 : decode cX11_readSide 99 = .ok (.aload_n 0, 1) := by decide +kernel
theorem dX11_readSide_100 : decode cX11_readSide 100 = .ok (.invokevirtual 115, 3) := by decide +kernel
theorem dX11_readSide_103 : decode cX11_readSide 103 = .ok (.goto (-68), 3) := by decide +kernel
theorem dX11_readSide_106 : decode cX11_readSide 106 = .ok (.return_, 1) := by decide +kernel
theorem dX11_readChange_0 : decode cX11_readChange 0 = .ok (.aload_n 0, 1) := by decide +kernel
theorem dX11_readChange_1 : decode cX11_readChange 1 = .ok (.getfield 13, 3) := by decide +kernel
theorem dX11_readChange_4 : decode cX11_readChange 4 = .ok (.iconst 3, 1) := by decide +kernel
theorem dX11_readChange_5 : decode cX11_readChange 5 = .ok (.iaload, 1) := by decide +kernel
theorem dX11_readChange_6 : decode cX11_readChange 6 = .ok (.bipush 6, 2) := by decide +kernel
theorem dX11_readChange_8 : decode cX11_readChange 8 = .ok (.if_icmp .ne 8, 3) := by decide +kernel
theorem dX11_readChange_11 : decode cX11_readChange 11 = .ok (.aload_n 0, 1) := by decide +kernel
theorem dX11_readChange_12 : decode cX11_readChange 12 = .ok (.iconst 4, 1) := by decide +kernel
theorem dX11_readChange_13 : decode cX11_readChange 13 = .ok (.invokevirtual 121, 3) := by decide +kernel
theorem dX11_readChange_16 : decode cX11_readChange 16 = .ok (.aload_n 0, 1) := by decide +kernel
theorem dX11_readChange_17 : decode cX11_readChange 17 = .ok (.getfield 96, 3) := by decide +kernel
theorem dX11_readChange_20 : decode cX11_readChange 20 = .ok (.ifCond .eq 4, 3) := by decide +kernel
theorem dX11_readChange_23 : decode cX11_readChange 23 = .ok (.return_, 1) := by decide +kernel
theorem dX11_readChange_24 : decode cX11_readChange 24 = .ok (.aload_n 0, 1) := by decide +kernel
theorem dX11_readChange_25 : decode cX11_readChange 25 = .ok (.invokevirtual 115, 3) := by decide +kernel
theorem dX11_readChange_28 : decode cX11_readChange 28 = .ok (.bipush 52, 2) := by decide +kernel
theorem dX11_readChange_30 : decode cX11_readChange 30 = .ok (.bipush 16, 2) := by decide +kernel
theorem dX11_readChange_32 : decode cX11_readChange 32 = .ok (.aload_n 0, 1) := by decide +kernel
theorem dX11_readChange_33 : decode cX11_readChange 33 = .ok (.getfield 13, 3) := by decide +kernel
theorem dX11_readChange_36 : decode cX11_readChange 36 = .ok (.iconst 3, 1) := by decide +kernel
theorem dX11_readChange_37 : decode cX11_readChange 37 = .ok (.iaload, 1) := by decide +kernel
theorem dX11_readChange_38 : decode cX11_readChange 38 = .ok (.imul, 1) := by decide +kernel
theorem dX11_readChange_39 : decode cX11_readChange 39 = .ok (.iadd, 1) := by decide +kernel
theorem dX11_readChange_40 : decode cX11_readChange 40 = .ok (.istore_n 1, 1) := by decide +kernel
theorem dX11_readChange_41 : decode cX11_readChange 41 = .ok (.aload_n 0, 1) := by decide +kernel
theorem dX11_readChange_42 : decode cX11_readChange 42 = .ok (.iload_n 1, 1) := by decide +kernel
theorem dX11_readChange_43 : decode cX11_readChange 43 = .ok (.invokevirtual 160, 3) := by decide +kernel
theorem dX11_readChange_46 : decode cX11_readChange 46 = .ok (.aload_n 0, 1) := by decide +kernel
theorem dX11_readChange_47 : decode cX11_readChange 47 = .ok (.ldc 163, 2) := by decide +kernel
theorem dX11_readChange_49 : decode cX11_readChange 49 = .ok (.invokevirtual 146, 3) := by decide +kernel
theorem dX11_readChange_52 : decode cX11_readChange 52 = .ok (.aload_n 0, 1) := by decide +kernel
theorem dX11_readChange_53 : decode cX11_readChange 53 = .ok (.getfield 96, 3) := by decide +kernel
theorem dX11_readChange_56 : decode cX11_readChange 56 = .ok (.ifCond .ne 11, 3) := by decide +kernel
theorem dX11_readChange_59 : decode cX11_readChange 59 = .ok (.aload_n 0, 1) := by decide +kernel
theorem dX11_readChange_60 : decode cX11_readChange 60 = .ok (.iload_n 1, 1) := by decide +kernel
theorem dX11_readChange_61 : decode cX11_readChange 61 = .ok (.bipush 8, 2) := by decide +kernel
theorem dX11_readChange_63 : decode cX11_readChange 63 = .ok (.iadd, 1) := by decide +kernel
theorem dX11_readChange_64 : decode cX11_readChange 64 = .ok (.invokevirtual 160, 3) := by decide +kernel
theorem dX11_readChange_67 : decode cX11_readChange 67 = .ok (.aload_n 0, 1) := by decide +kernel
theorem dX11_readChange_68 : decode cX11_readChange 68 = .ok (.getfield 96, 3) := by decide +kernel
theorem dX11_readChange_71 : decode cX11_readChange 71 = .ok (.ifCond .ne 13, 3) := by decide +kernel
theorem dX11_readChange_74 : decode cX11_readChange 74 = .ok (.aload_n 0, 1) := by decide +kernel
theorem dX11_readChange_75 : decode cX11_readChange 75 = .ok (.getfield 13, 3) := by decide +kernel
theorem dX11_readChange_78 : decode cX11_readChange 78 = .ok (.iconst 3, 1) := by decide +kernel
theorem dX11_readChange_79 : decode cX11_readChange 79 = .ok (.dup2, 1) := by decide +kernel
theorem dX11_readChange_80 : decode cX11_readChange 80 = .ok (.iaload, 1) := by decide +kernel
theorem dX11_readChange_81 : decode cX11_readChange 81 = .ok (.iconst 1, 1) := by decide +kernel
theorem dX11_readChange_82 : decode cX11_readChange 82 = .ok (.iadd, 1) := by decide +kernel
theorem dX11_readChange_83 : decode cX11_readChange 83 = .ok (.iastore, 1) := by decide +kernel
theorem dX11_readChange_84 : decode cX11_readChange 84 = .ok (.return_, 1) := by decide +kernel
theorem dX11_readStop_0 : decode cX11_readStop 0 = .ok (.aload_n 0, 1) := by decide +kernel
theorem dX11_readStop_1 : decode cX11_readStop 1 = .ok (.getfield 79, 3) := by decide +kernel
theorem dX11_readStop_4 : decode cX11_readStop 4 = .ok (.iconst 3, 1) := by decide +kernel
theorem dX11_readStop_5 : decode cX11_readStop 5 = .ok (.if_icmp .eq 8, 3) := by decide +kernel
theorem dX11_readStop_8 : decode cX11_readStop 8 = .ok (.aload_n 0, 1) := by decide +kernel
theorem dX11_readStop_9 : decode cX11_readStop 9 = .ok (.iconst 2, 1) := by decide +kernel
theorem dX11_readStop_10 : decode cX11_readStop 10 = .ok (.invokevirtual 121, 3) := by decide +kernel
theorem dX11_readStop_13 : decode cX11_readStop 13 = .ok (.aload_n 0, 1) := by decide +kernel
theorem dX11_readStop_14 : decode cX11_readStop 14 = .ok (.getfield 96, 3) := by decide +kernel
theorem dX11_readStop_17 : decode cX11_readStop 17 = .ok (.ifCond .ne 7, 3) := by decide +kernel
theorem dX11_readStop_20 : decode cX11_readStop 20 = .ok (.aload_n 0, 1) := by decide +kernel
theorem dX11_readStop_21 : decode cX11_readStop 21 = .ok (.invokevirtual 115, 3) := by decide +kernel
theorem dX11_readStop_24 : decode cX11_readStop 24 = .ok (.aload_n 0, 1) := by decide +kernel
theorem dX11_readStop_25 : decode cX11_readStop 25 = .ok (.getfield 96, 3) := by decide +kernel
theorem dX11_readStop_28 : decode cX11_readStop 28 = .ok (.ifCond .ne 13, 3) := by decide +kernel
theorem dX11_readStop_31 : decode cX11_readStop 31 = .ok (.aload_n 0, 1) := by decide +kernel
theorem dX11_readStop_32 : decode cX11_readStop 32 = .ok (.getfield 13, 3) := by decide +kernel
theorem dX11_readStop_35 : decode cX11_readStop 35 = .ok (.iconst 0, 1) := by decide +kernel
theorem dX11_readStop_36 : decode cX11_readStop 36 = .ok (.dup2, 1) := by decide +kernel
theorem dX11_readStop_37 : decode cX11_readStop 37 = .ok (.iaload, 1) := by decide +kernel
theorem dX11_readStop_38 : decode cX11_readStop 38 = .ok (.iconst 1, 1) := by decide +kernel
theorem dX11_readStop_39 : decode cX11_readStop 39 = .ok (.iadd, 1) := by decide +kernel
theorem dX11_readStop_40 : decode cX11_readStop 40 = .ok (.iastore, 1) := by decide +kernel
theorem dX11_readStop_41 : decode cX11_readStop 41 = .ok (.return_, 1) := by decide +kernel
theorem dX11_readLine_0 : decode cX11_readLine 0 = .ok (.aload_n 0, 1) := by decide +kernel
theorem dX11_readLine_1 : decode cX11_readLine 1 = .ok (.ldc 165, 2) := by decide +kernel
theorem dX11_readLine_3 : decode cX11_readLine 3 = .ok (.invokevirtual 111, 3) := by decide +kernel
theorem dX11_readLine_6 : decode cX11_readLine 6 = .ok (.ifCond .eq 10, 3) := by decide +kernel
theorem dX11_readLine_9 : decode cX11_readLine 9 = .ok (.aload_n 0, 1) := by decide +kernel
theorem dX11_readLine_10 : decode cX11_readLine 10 = .ok (.invokevirtual 167, 3) := by decide +kernel
theorem dX11_readLine_13 : decode cX11_readLine 13 = .ok (.goto 24, 3) := by decide +kernel
theorem dX11_readLine_16 : decode cX11_readLine 16 = .ok (.aload_n 0, 1) := by decide +kernel
theorem dX11_readLine_17 : decode cX11_readLine 17 = .ok (.ldc 170, 2) := by decide +kernel
theorem dX11_readLine_19 : decode cX11_readLine 19 = .ok (.invokevirtual 111, 3) := by decide +kernel
theorem dX11_readLine_22 : decode cX11_readLine 22 = .ok (.ifCond .eq 10, 3) := by decide +kernel
theorem dX11_readLine_25 : decode cX11_readLine 25 = .ok (.aload_n 0, 1) := by decide +kernel
theorem dX11_readLine_26 : decode cX11_readLine 26 = .ok (.invokevirtual 172, 3) := by decide +kernel
theorem dX11_readLine_29 : decode cX11_readLine 29 = .ok (.goto 8, 3) := by decide +kernel
theorem dX11_readLine_32 : decode cX11_readLine 32 = .ok (.aload_n 0, 1) := by decide +kernel
theorem dX11_readLine_33 : decode cX11_readLine 33 = .ok (.iconst 2, 1) := by decide +kernel
theorem dX11_readLine_34 : decode cX11_readLine 34 = .ok (.invokevirtual 121, 3) := by decide +kernel
theorem dX11_readLine_37 : decode cX11_readLine 37 = .ok (.aload_n 0, 1) := by decide +kernel
theorem dX11_readLine_38 : decode cX11_readLine 38 = .ok (.invokevirtual 175, 3) := by decide +kernel
theorem dX11_readLine_41 : decode cX11_readLine 41 = .ok (.return_, 1) := by decide +kernel
theorem dX11_town_0 : decode cX11_town 0 = .ok (.aload_n 0, 1) := by decide +kernel
theorem dX11_town_1 : decode cX11_town 1 = .ok (.iconst 0, 1) := by decide +kernel
theorem dX11_town_2 : decode cX11_town 2 = .ok (.putfield 64, 3) := by decide +kernel
theorem dX11_town_5 : decode cX11_town 5 = .ok (.iload_n 1, 1) := by decide +kernel
theorem dX11_town_6 : decode cX11_town 6 = .ok (.i2l, 1) := by decide +kernel
theorem dX11_town_7 : decode cX11_town 7 = .ok (.lconst 0, 1) := by decide +kernel
theorem dX11_town_8 : decode cX11_town 8 = .ok (.aload_n 0, 1) := by decide +kernel
theorem dX11_town_9 : decode cX11_town 9 = .ok (.getfield 67, 3) := by decide +kernel
theorem dX11_town_12 : decode cX11_town 12 = .ok (.i2l, 1) := by decide +kernel
theorem dX11_town_13 : decode cX11_town 13 = .ok (.invokestatic 133, 3) := by decide +kernel
theorem dX11_town_16 : decode cX11_town 16 = .ok (.ifCond .ne 9, 3) := by decide +kernel
theorem dX11_town_19 : decode cX11_town 19 = .ok (.aload_n 0, 1) := by decide +kernel
theorem dX11_town_20 : decode cX11_town 20 = .ok (.iconst 1, 1) := by decide +kernel
theorem dX11_town_21 : decode cX11_town 21 = .ok (.invokevirtual 178, 3) := by decide +kernel
theorem dX11_town_24 : decode cX11_town 24 = .ok (.ireturn, 1) := by decide +kernel
theorem dX11_town_25 : decode cX11_town 25 = .ok (.aload_n 0, 1) := by decide +kernel
theorem dX11_town_26 : decode cX11_town 26 = .ok (.iload_n 1, 1) := by decide +kernel
theorem dX11_town_27 : decode cX11_town 27 = .ok (.putfield 70, 3) := by decide +kernel
theorem dX11_town_30 : decode cX11_town 30 = .ok (.aload_n 0, 1) := by decide +kernel
theorem dX11_town_31 : decode cX11_town 31 = .ok (.iconst 0, 1) := by decide +kernel
theorem dX11_town_32 : decode cX11_town 32 = .ok (.putfield 67, 3) := by decide +kernel
theorem dX11_town_35 : decode cX11_town 35 = .ok (.aload_n 0, 1) := by decide +kernel
theorem dX11_town_36 : decode cX11_town 36 = .ok (.iconst 0, 1) := by decide +kernel
theorem dX11_town_37 : decode cX11_town 37 = .ok (.putfield 73, 3) := by decide +kernel
theorem dX11_town_40 : decode cX11_town 40 = .ok (.aload_n 0, 1) := by decide +kernel
theorem dX11_town_41 : decode cX11_town 41 = .ok (.iconst 0, 1) := by decide +kernel
theorem dX11_town_42 : decode cX11_town 42 = .ok (.putfield 96, 3) := by decide +kernel
theorem dX11_town_45 : decode cX11_town 45 = .ok (.aload_n 0, 1) := by decide +kernel
theorem dX11_town_46 : decode cX11_town 46 = .ok (.getfield 13, 3) := by decide +kernel
theorem dX11_town_49 : decode cX11_town 49 = .ok (.invokestatic 56, 3) := by decide +kernel
theorem dX11_town_52 : decode cX11_town 52 = .ok (.aload_n 0, 1) := by decide +kernel
theorem dX11_town_53 : decode cX11_town 53 = .ok (.invokevirtual 115, 3) := by decide +kernel
theorem dX11_town_56 : decode cX11_town 56 = .ok (.aload_n 0, 1) := by decide +kernel
theorem dX11_town_57 : decode cX11_town 57 = .ok (.invokevirtual 181, 3) := by decide +kernel
theorem dX11_town_60 : decode cX11_town 60 = .ok (.aload_n 0, 1) := by decide +kernel
theorem dX11_town_61 : decode cX11_town 61 = .ok (.invokevirtual 175, 3) := by decide +kernel
theorem dX11_town_64 : decode cX11_town 64 = .ok (.aload_n 0, 1) := by decide +kernel
theorem dX11_town_65 : decode cX11_town 65 = .ok (.getfield 96, 3) := by decide +kernel
theorem dX11_town_68 : decode cX11_town 68 = .ok (.ifCond .ne 17, 3) := by decide +kernel
theorem dX11_town_71 : decode cX11_town 71 = .ok (.aload_n 0, 1) := by decide +kernel
theorem dX11_town_72 : decode cX11_town 72 = .ok (.getfield 79, 3) := by decide +kernel
theorem dX11_town_75 : decode cX11_town 75 = .ok (.ifCond .eq 10, 3) := by decide +kernel
theorem dX11_town_78 : decode cX11_town 78 = .ok (.aload_n 0, 1) := by decide +kernel
theorem dX11_town_79 : decode cX11_town 79 = .ok (.invokevirtual 184, 3) := by decide +kernel
theorem dX11_town_82 : decode cX11_town 82 = .ok (.goto (-18), 3) := by decide +kernel
theorem dX11_town_85 : decode cX11_town 85 = .ok (.aload_n 0, 1) := by decide +kernel
theorem dX11_town_86 : decode cX11_town 86 = .ok (.aload_n 0, 1) := by decide +kernel
theorem dX11_town_87 : decode cX11_town 87 = .ok (.getfield 96, 3) := by decide +kernel
theorem dX11_town_90 : decode cX11_town 90 = .ok (.putfield 187, 3) := by decide +kernel
theorem dX11_town_93 : decode cX11_town 93 = .ok (.aload_n 0, 1) := by decide +kernel
theorem dX11_town_94 : decode cX11_town 94 = .ok (.aload_n 0, 1) := by decide +kernel
theorem dX11_town_95 : decode cX11_town 95 = .ok (.getfield 96, 3) := by decide +kernel
theorem dX11_town_98 : decode cX11_town 98 = .ok (.ifCond .ne 7, 3) := by decide +kernel
theorem dX11_town_101 : decode cX11_town 101 = .ok (.iconst (-1), 1) := by decide +kernel
theorem dX11_town_102 : decode cX11_town 102 = .ok (.goto 7, 3) := by decide +kernel
theorem dX11_town_105 : decode cX11_town 105 = .ok (.aload_n 0, 1) := by decide +kernel
theorem dX11_town_106 : decode cX11_town 106 = .ok (.getfield 99, 3) := by decide +kernel
theorem dX11_town_109 : decode cX11_town 109 = .ok (.putfield 29, 3) := by decide +kernel
theorem dX11_town_112 : decode cX11_town 112 = .ok (.aload_n 0, 1) := by decide +kernel
theorem dX11_town_113 : decode cX11_town 113 = .ok (.getfield 96, 3) := by decide +kernel
theorem dX11_town_116 : decode cX11_town 116 = .ok (.ifCond .eq 11, 3) := by decide +kernel
theorem dX11_town_119 : decode cX11_town 119 = .ok (.bipush (-10), 2) := by decide +kernel
theorem dX11_town_121 : decode cX11_town 121 = .ok (.aload_n 0, 1) := by decide +kernel
theorem dX11_town_122 : decode cX11_town 122 = .ok (.getfield 96, 3) := by decide +kernel
theorem dX11_town_125 : decode cX11_town 125 = .ok (.isub, 1) := by decide +kernel
theorem dX11_town_126 : decode cX11_town 126 = .ok (.ireturn, 1) := by decide +kernel
theorem dX11_town_127 : decode cX11_town 127 = .ok (.aload_n 0, 1) := by decide +kernel
theorem dX11_town_128 : decode cX11_town 128 = .ok (.getfield 13, 3) := by decide +kernel
theorem dX11_town_131 : decode cX11_town 131 = .ok (.aload_n 0, 1) := by decide +kernel
theorem dX11_town_132 : decode cX11_town 132 = .ok (.getfield 9, 3) := by decide +kernel
theorem dX11_town_135 : decode cX11_town 135 = .ok (.invokestatic 60, 3) := by decide +kernel
theorem dX11_town_138 : decode cX11_town 138 = .ok (.aload_n 0, 1) := by decide +kernel
theorem dX11_town_139 : decode cX11_town 139 = .ok (.getfield 9, 3) := by decide +kernel
theorem dX11_town_142 : decode cX11_town 142 = .ok (.iconst 0, 1) := by decide +kernel
theorem dX11_town_143 : decode cX11_town 143 = .ok (.iaload, 1) := by decide +kernel
theorem dX11_town_144 : decode cX11_town 144 = .ok (.ireturn, 1) := by decide +kernel
theorem dX11_fault_0 : decode cX11_fault 0 = .ok (.aload_n 0, 1) := by decide +kernel
theorem dX11_fault_1 : decode cX11_fault 1 = .ok (.iconst 0, 1) := by decide +kernel
theorem dX11_fault_2 : decode cX11_fault 2 = .ok (.putfield 64, 3) := by decide +kernel
theorem dX11_fault_5 : decode cX11_fault 5 = .ok (.iload_n 1, 1) := by decide +kernel
theorem dX11_fault_6 : decode cX11_fault 6 = .ok (.ifCond .ne 10, 3) := by decide +kernel
theorem dX11_fault_9 : decode cX11_fault 9 = .ok (.aload_n 0, 1) := by decide +kernel
theorem dX11_fault_10 : decode cX11_fault 10 = .ok (.getfield 187, 3) := by decide +kernel
theorem dX11_fault_13 : decode cX11_fault 13 = .ok (.goto 16, 3) := by decide +kernel
theorem dX11_fault_16 : decode cX11_fault 16 = .ok (.iload_n 1, 1) := by decide +kernel
theorem dX11_fault_17 : decode cX11_fault 17 = .ok (.iconst 1, 1) := by decide +kernel
theorem dX11_fault_18 : decode cX11_fault 18 = .ok (.if_icmp .ne 10, 3) := by decide +kernel
theorem dX11_fault_21 : decode cX11_fault 21 = .ok (.aload_n 0, 1) := by decide +kernel
theorem dX11_fault_22 : decode cX11_fault 22 = .ok (.getfield 29, 3) := by decide +kernel
theorem dX11_fault_25 : decode cX11_fault 25 = .ok (.goto 4, 3) := by decide +kernel
theorem dX11_fault_28 : decode cX11_fault 28 = .ok (.iconst (-1), 1) := by decide +kernel
theorem dX11_fault_29 : decode cX11_fault 29 = .ok (.ireturn, 1) := by decide +kernel
theorem dX11_coins_0 : decode cX11_coins 0 = .ok (.aload_n 0, 1) := by decide +kernel
theorem dX11_coins_1 : decode cX11_coins 1 = .ok (.getfield 9, 3) := by decide +kernel
theorem dX11_coins_4 : decode cX11_coins 4 = .ok (.iconst 1, 1) := by decide +kernel
theorem dX11_coins_5 : decode cX11_coins 5 = .ok (.iaload, 1) := by decide +kernel
theorem dX11_coins_6 : decode cX11_coins 6 = .ok (.ireturn, 1) := by decide +kernel
theorem dX11_people_0 : decode cX11_people 0 = .ok (.aload_n 0, 1) := by decide +kernel
theorem dX11_people_1 : decode cX11_people 1 = .ok (.getfield 9, 3) := by decide +kernel
theorem dX11_people_4 : decode cX11_people 4 = .ok (.iconst 2, 1) := by decide +kernel
theorem dX11_people_5 : decode cX11_people 5 = .ok (.iaload, 1) := by decide +kernel
theorem dX11_people_6 : decode cX11_people 6 = .ok (.ireturn, 1) := by decide +kernel
theorem dX11_isPerson_0 : decode cX11_isPerson 0 = .ok (.lload_n 1, 1) := by decide +kernel
theorem dX11_isPerson_1 : decode cX11_isPerson 1 = .ok (.lconst 0, 1) := by decide +kernel
theorem dX11_isPerson_2 : decode cX11_isPerson 2 = .ok (.aload_n 0, 1) := by decide +kernel
theorem dX11_isPerson_3 : decode cX11_isPerson 3 = .ok (.invokevirtual 190, 3) := by decide +kernel
theorem dX11_isPerson_6 : decode cX11_isPerson 6 = .ok (.iconst 1, 1) := by decide +kernel
theorem dX11_isPerson_7 : decode cX11_isPerson 7 = .ok (.isub, 1) := by decide +kernel
theorem dX11_isPerson_8 : decode cX11_isPerson 8 = .ok (.i2l, 1) := by decide +kernel
theorem dX11_isPerson_9 : decode cX11_isPerson 9 = .ok (.invokestatic 133, 3) := by decide +kernel
theorem dX11_isPerson_12 : decode cX11_isPerson 12 = .ok (.ireturn, 1) := by decide +kernel
theorem dX11_prime_0 : decode cX11_prime 0 = .ok (.aload_n 0, 1) := by decide +kernel
theorem dX11_prime_1 : decode cX11_prime 1 = .ok (.getfield 9, 3) := by decide +kernel
theorem dX11_prime_4 : decode cX11_prime 4 = .ok (.iconst 4, 1) := by decide +kernel
theorem dX11_prime_5 : decode cX11_prime 5 = .ok (.iload_n 1, 1) := by decide +kernel
theorem dX11_prime_6 : decode cX11_prime 6 = .ok (.iadd, 1) := by decide +kernel
theorem dX11_prime_7 : decode cX11_prime 7 = .ok (.iaload, 1) := by decide +kernel
theorem dX11_prime_8 : decode cX11_prime 8 = .ok (.ireturn, 1) := by decide +kernel
theorem dX11_of_0 : decode cX11_of 0 = .ok (.aload_n 0, 1) := by decide +kernel
theorem dX11_of_1 : decode cX11_of 1 = .ok (.getfield 9, 3) := by decide +kernel
theorem dX11_of_4 : decode cX11_of 4 = .ok (.bipush 12, 2) := by decide +kernel
theorem dX11_of_6 : decode cX11_of 6 = .ok (.bipush 8, 2) := by decide +kernel
theorem dX11_of_8 : decode cX11_of 8 = .ok (.iload_n 1, 1) := by decide +kernel
theorem dX11_of_9 : decode cX11_of 9 = .ok (.imul, 1) := by decide +kernel
theorem dX11_of_10 : decode cX11_of 10 = .ok (.iadd, 1) := by decide +kernel
theorem dX11_of_11 : decode cX11_of 11 = .ok (.iload_n 2, 1) := by decide +kernel
theorem dX11_of_12 : decode cX11_of 12 = .ok (.iadd, 1) := by decide +kernel
theorem dX11_of_13 : decode cX11_of 13 = .ok (.iaload, 1) := by decide +kernel
theorem dX11_of_14 : decode cX11_of 14 = .ok (.ireturn, 1) := by decide +kernel
theorem dX11_size_0 : decode cX11_size 0 = .ok (.iconst 0, 1) := by decide +kernel
theorem dX11_size_1 : decode cX11_size 1 = .ok (.istore_n 2, 1) := by decide +kernel
theorem dX11_size_2 : decode cX11_size 2 = .ok (.iconst 0, 1) := by decide +kernel
theorem dX11_size_3 : decode cX11_size 3 = .ok (.istore_n 3, 1) := by decide +kernel
theorem dX11_size_4 : decode cX11_size 4 = .ok (.iload_n 3, 1) := by decide +kernel
theorem dX11_size_5 : decode cX11_size 5 = .ok (.aload_n 0, 1) := by decide +kernel
theorem dX11_size_6 : decode cX11_size 6 = .ok (.invokevirtual 193, 3) := by decide +kernel
theorem dX11_size_9 : decode cX11_size 9 = .ok (.if_icmp .ge 18, 3) := by decide +kernel
theorem dX11_size_12 : decode cX11_size 12 = .ok (.iload_n 2, 1) := by decide +kernel
theorem dX11_size_13 : decode cX11_size 13 = .ok (.aload_n 0, 1) := by decide +kernel
theorem dX11_size_14 : decode cX11_size 14 = .ok (.iload_n 1, 1) := by decide +kernel
theorem dX11_size_15 : decode cX11_size 15 = .ok (.iload_n 3, 1) := by decide +kernel
theorem dX11_size_16 : decode cX11_size 16 = .ok (.invokevirtual 196, 3) := by decide +kernel
theorem dX11_size_19 : decode cX11_size 19 = .ok (.iadd, 1) := by decide +kernel
theorem dX11_size_20 : decode cX11_size 20 = .ok (.istore_n 2, 1) := by decide +kernel
theorem dX11_size_21 : decode cX11_size 21 = .ok (.iinc 3 1, 3) := by decide +kernel
theorem dX11_size_24 : decode cX11_size 24 = .ok (.goto (-20), 3) := by decide +kernel
theorem dX11_size_27 : decode cX11_size 27 = .ok (.iload_n 2, 1) := by decide +kernel
theorem dX11_size_28 : decode cX11_size 28 = .ok (.ireturn, 1) := by decide +kernel
theorem dX11_worthOf_0 : decode cX11_worthOf 0 = .ok (.lconst 1, 1) := by decide +kernel
theorem dX11_worthOf_1 : decode cX11_worthOf 1 = .ok (.lstore_n 2, 1) := by decide +kernel
theorem dX11_worthOf_2 : decode cX11_worthOf 2 = .ok (.iconst 0, 1) := by decide +kernel
theorem dX11_worthOf_3 : decode cX11_worthOf 3 = .ok (.istore 4, 2) := by decide +kernel
theorem dX11_worthOf_5 : decode cX11_worthOf 5 = .ok (.iload 4, 2) := by decide +kernel
theorem dX11_worthOf_7 : decode cX11_worthOf 7 = .ok (.aload_n 0, 1) := by decide +kernel
theorem dX11_worthOf_8 : decode cX11_worthOf 8 = .ok (.invokevirtual 193, 3) := by decide +kernel
theorem dX11_worthOf_11 : decode cX11_worthOf 11 = .ok (.if_icmp .ge 40, 3) := by decide +kernel
theorem dX11_worthOf_14 : decode cX11_worthOf 14 = .ok (.iconst 0, 1) := by decide +kernel
theorem dX11_worthOf_15 : decode cX11_worthOf 15 = .ok (.istore 5, 2) := by decide +kernel
theorem dX11_worthOf_17 : decode cX11_worthOf 17 = .ok (.iload 5, 2) := by decide +kernel
theorem dX11_worthOf_19 : decode cX11_worthOf 19 = .ok (.aload_n 0, 1) := by decide +kernel
theorem dX11_worthOf_20 : decode cX11_worthOf 20 = .ok (.iload_n 1, 1) := by decide +kernel
theorem dX11_worthOf_21 : decode cX11_worthOf 21 = .ok (.iload 4, 2) := by decide +kernel
theorem dX11_worthOf_23 : decode cX11_worthOf 23 = .ok (.invokevirtual 196, 3) := by decide +kernel
theorem dX11_worthOf_26 : decode cX11_worthOf 26 = .ok (.if_icmp .ge 19, 3) := by decide +kernel
theorem dX11_worthOf_29 : decode cX11_worthOf 29 = .ok (.lload_n 2, 1) := by decide +kernel
theorem dX11_worthOf_30 : decode cX11_worthOf 30 = .ok (.aload_n 0, 1) := by decide +kernel
theorem dX11_worthOf_31 : decode cX11_worthOf 31 = .ok (.iload 4, 2) := by decide +kernel
theorem dX11_worthOf_33 : decode cX11_worthOf 33 = .ok (.invokevirtual 200, 3) := by decide +kernel
theorem dX11_worthOf_36 : decode cX11_worthOf 36 = .ok (.i2l, 1) := by decide +kernel
theorem dX11_worthOf_37 : decode cX11_worthOf 37 = .ok (.lmul, 1) := by decide +kernel
theorem dX11_worthOf_38 : decode cX11_worthOf 38 = .ok (.lstore_n 2, 1) := by decide +kernel
theorem dX11_worthOf_39 : decode cX11_worthOf 39 = .ok (.iinc 5 1, 3) := by decide +kernel
theorem dX11_worthOf_42 : decode cX11_worthOf 42 = .ok (.goto (-25), 3) := by decide +kernel
theorem dX11_worthOf_45 : decode cX11_worthOf 45 = .ok (.iinc 4 1, 3) := by decide +kernel
theorem dX11_worthOf_48 : decode cX11_worthOf 48 = .ok (.goto (-43), 3) := by decide +kernel
theorem dX11_worthOf_51 : decode cX11_worthOf 51 = .ok (.lload_n 2, 1) := by decide +kernel
theorem dX11_worthOf_52 : decode cX11_worthOf 52 = .ok (.lreturn, 1) := by decide +kernel
theorem dX11_coin_0 : decode cX11_coin 0 = .ok (.aload_n 0, 1) := by decide +kernel
theorem dX11_coin_1 : decode cX11_coin 1 = .ok (.iconst 0, 1) := by decide +kernel
theorem dX11_coin_2 : decode cX11_coin 2 = .ok (.putfield 64, 3) := by decide +kernel
theorem dX11_coin_5 : decode cX11_coin 5 = .ok (.iload_n 1, 1) := by decide +kernel
theorem dX11_coin_6 : decode cX11_coin 6 = .ok (.i2l, 1) := by decide +kernel
theorem dX11_coin_7 : decode cX11_coin 7 = .ok (.lconst 0, 1) := by decide +kernel
theorem dX11_coin_8 : decode cX11_coin 8 = .ok (.aload_n 0, 1) := by decide +kernel
theorem dX11_coin_9 : decode cX11_coin 9 = .ok (.invokevirtual 193, 3) := by decide +kernel
theorem dX11_coin_12 : decode cX11_coin 12 = .ok (.iconst 1, 1) := by decide +kernel
theorem dX11_coin_13 : decode cX11_coin 13 = .ok (.isub, 1) := by decide +kernel
theorem dX11_coin_14 : decode cX11_coin 14 = .ok (.i2l, 1) := by decide +kernel
theorem dX11_coin_15 : decode cX11_coin 15 = .ok (.invokestatic 133, 3) := by decide +kernel
theorem dX11_coin_18 : decode cX11_coin 18 = .ok (.ifCond .eq 11, 3) := by decide +kernel
theorem dX11_coin_21 : decode cX11_coin 21 = .ok (.aload_n 0, 1) := by decide +kernel
theorem dX11_coin_22 : decode cX11_coin 22 = .ok (.iload_n 1, 1) := by decide +kernel
theorem dX11_coin_23 : decode cX11_coin 23 = .ok (.invokevirtual 200, 3) := by decide +kernel
theorem dX11_coin_26 : decode cX11_coin 26 = .ok (.goto 8, 3) := by decide +kernel
theorem dX11_coin_29 : decode cX11_coin 29 = .ok (.aload_n 0, 1) := by decide +kernel
theorem dX11_coin_30 : decode cX11_coin 30 = .ok (.iconst 1, 1) := by decide +kernel
theorem dX11_coin_31 : decode cX11_coin 31 = .ok (.invokevirtual 178, 3) := by decide +kernel
theorem dX11_coin_34 : decode cX11_coin 34 = .ok (.ireturn, 1) := by decide +kernel
theorem dX11_has_0 : decode cX11_has 0 = .ok (.aload_n 0, 1) := by decide +kernel
theorem dX11_has_1 : decode cX11_has 1 = .ok (.iconst 0, 1) := by decide +kernel
theorem dX11_has_2 : decode cX11_has 2 = .ok (.putfield 64, 3) := by decide +kernel
theorem dX11_has_5 : decode cX11_has 5 = .ok (.aload_n 0, 1) := by decide +kernel
theorem dX11_has_6 : decode cX11_has 6 = .ok (.iload_n 1, 1) := by decide +kernel
theorem dX11_has_7 : decode cX11_has 7 = .ok (.i2l, 1) := by decide +kernel
theorem dX11_has_8 : decode cX11_has 8 = .ok (.invokevirtual 203, 3) := by decide +kernel
theorem dX11_has_11 : decode cX11_has 11 = .ok (.ifCond .ne 9, 3) := by decide +kernel
theorem dX11_has_14 : decode cX11_has 14 = .ok (.aload_n 0, 1) := by decide +kernel
theorem dX11_has_15 : decode cX11_has 15 = .ok (.iconst 1, 1) := by decide +kernel
theorem dX11_has_16 : decode cX11_has 16 = .ok (.invokevirtual 178, 3) := by decide +kernel
theorem dX11_has_19 : decode cX11_has 19 = .ok (.ireturn, 1) := by decide +kernel
theorem dX11_has_20 : decode cX11_has 20 = .ok (.aload_n 0, 1) := by decide +kernel
theorem dX11_has_21 : decode cX11_has 21 = .ok (.getfield 9, 3) := by decide +kernel
theorem dX11_has_24 : decode cX11_has 24 = .ok (.iload_n 2, 1) := by decide +kernel
theorem dX11_has_25 : decode cX11_has 25 = .ok (.i2l, 1) := by decide +kernel
theorem dX11_has_26 : decode cX11_has 26 = .ok (.invokestatic 140, 3) := by decide +kernel
theorem dX11_has_29 : decode cX11_has 29 = .ok (.istore_n 3, 1) := by decide +kernel
theorem dX11_has_30 : decode cX11_has 30 = .ok (.iload_n 3, 1) := by decide +kernel
theorem dX11_has_31 : decode cX11_has 31 = .ok (.iconst (-1), 1) := by decide +kernel
theorem dX11_has_32 : decode cX11_has 32 = .ok (.if_icmp .ne 7, 3) := by decide +kernel
theorem dX11_has_35 : decode cX11_has 35 = .ok (.iconst 0, 1) := by decide +kernel
theorem dX11_has_36 : decode cX11_has 36 = .ok (.goto 9, 3) := by decide +kernel
theorem dX11_has_39 : decode cX11_has 39 = .ok (.aload_n 0, 1) := by decide +kernel
theorem dX11_has_40 : decode cX11_has 40 = .ok (.iload_n 1, 1) := by decide +kernel
theorem dX11_has_41 : decode cX11_has 41 = .ok (.iload_n 3, 1) := by decide +kernel
theorem dX11_has_42 : decode cX11_has 42 = .ok (.invokevirtual 196, 3) := by decide +kernel
theorem dX11_has_45 : decode cX11_has 45 = .ok (.ireturn, 1) := by decide +kernel
theorem dX11_purse_0 : decode cX11_purse 0 = .ok (.aload_n 0, 1) := by decide +kernel
theorem dX11_purse_1 : decode cX11_purse 1 = .ok (.aload_n 0, 1) := by decide +kernel
theorem dX11_purse_2 : decode cX11_purse 2 = .ok (.iload_n 1, 1) := by decide +kernel
theorem dX11_purse_3 : decode cX11_purse 3 = .ok (.i2l, 1) := by decide +kernel
theorem dX11_purse_4 : decode cX11_purse 4 = .ok (.invokevirtual 203, 3) := by decide +kernel
theorem dX11_purse_7 : decode cX11_purse 7 = .ok (.ifCond .ne 7, 3) := by decide +kernel
theorem dX11_purse_10 : decode cX11_purse 10 = .ok (.iconst 1, 1) := by decide +kernel
theorem dX11_purse_11 : decode cX11_purse 11 = .ok (.goto 20, 3) := by decide +kernel
theorem dX11_purse_14 : decode cX11_purse 14 = .ok (.iload_n 2, 1) := by decide +kernel
theorem dX11_purse_15 : decode cX11_purse 15 = .ok (.i2l, 1) := by decide +kernel
theorem dX11_purse_16 : decode cX11_purse 16 = .ok (.lconst 0, 1) := by decide +kernel
theorem dX11_purse_17 : decode cX11_purse 17 = .ok (.ldc2_w 207, 3) := by decide +kernel
theorem dX11_purse_20 : decode cX11_purse 20 = .ok (.invokestatic 133, 3) := by decide +kernel
theorem dX11_purse_23 : decode cX11_purse 23 = .ok (.ifCond .eq 7, 3) := by decide +kernel
theorem dX11_purse_26 : decode cX11_purse 26 = .ok (.iconst 0, 1) := by decide +kernel
theorem dX11_purse_27 : decode cX11_purse 27 = .ok (.goto 4, 3) := by decide +kernel
theorem dX11_purse_30 : decode cX11_purse 30 = .ok (.iconst 2, 1) := by decide +kernel
theorem dX11_purse_31 : decode cX11_purse 31 = .ok (.putfield 64, 3) := by decide +kernel
theorem dX11_purse_34 : decode cX11_purse 34 = .ok (.aload_n 0, 1) := by decide +kernel
theorem dX11_purse_35 : decode cX11_purse 35 = .ok (.getfield 64, 3) := by decide +kernel
theorem dX11_purse_38 : decode cX11_purse 38 = .ok (.ifCond .le 5, 3) := by decide +kernel
theorem dX11_purse_41 : decode cX11_purse 41 = .ok (.iconst 0, 1) := by decide +kernel
theorem dX11_purse_42 : decode cX11_purse 42 = .ok (.ireturn, 1) := by decide +kernel
theorem dX11_purse_43 : decode cX11_purse 43 = .ok (.iconst 0, 1) := by decide +kernel
theorem dX11_purse_44 : decode cX11_purse 44 = .ok (.istore_n 3, 1) := by decide +kernel
theorem dX11_purse_45 : decode cX11_purse 45 = .ok (.iconst 1, 1) := by decide +kernel
theorem dX11_purse_46 : decode cX11_purse 46 = .ok (.istore 4, 2) := by decide +kernel
theorem dX11_purse_48 : decode cX11_purse 48 = .ok (.iconst 1, 1) := by decide +kernel
theorem dX11_purse_49 : decode cX11_purse 49 = .ok (.istore 5, 2) := by decide +kernel
theorem dX11_purse_51 : decode cX11_purse 51 = .ok (.iconst 0, 1) := by decide +kernel
theorem dX11_purse_52 : decode cX11_purse 52 = .ok (.istore 6, 2) := by decide +kernel
theorem dX11_purse_54 : decode cX11_purse 54 = .ok (.iload 6, 2) := by decide +kernel
theorem dX11_purse_56 : decode cX11_purse 56 = .ok (.aload_n 0, 1) := by decide +kernel
theorem dX11_purse_57 : decode cX11_purse 57 = .ok (.invokevirtual 193, 3) := by decide +kernel
theorem dX11_purse_60 : decode cX11_purse 60 = .ok (.if_icmp .ge 66, 3) := by decide +kernel
theorem dX11_purse_63 : decode cX11_purse 63 = .ok (.aload_n 0, 1) := by decide +kernel
theorem dX11_purse_64 : decode cX11_purse 64 = .ok (.iload_n 1, 1) := by decide +kernel
theorem dX11_purse_65 : decode cX11_purse 65 = .ok (.iload 6, 2) := by decide +kernel
theorem dX11_purse_67 : decode cX11_purse 67 = .ok (.invokevirtual 196, 3) := by decide +kernel
theorem dX11_purse_70 : decode cX11_purse 70 = .ok (.ifCond .ne 6, 3) := by decide +kernel
theorem dX11_purse_73 : decode cX11_purse 73 = .ok (.goto 47, 3) := by decide +kernel
theorem dX11_purse_76 : decode cX11_purse 76 = .ok (.iinc 3 1, 3) := by decide +kernel
theorem dX11_purse_79 : decode cX11_purse 79 = .ok (.iload 4, 2) := by decide +kernel
theorem dX11_purse_81 : decode cX11_purse 81 = .ok (.aload_n 0, 1) := by decide +kernel
theorem dX11_purse_82 : decode cX11_purse 82 = .ok (.iload 6, 2) := by decide +kernel
theorem dX11_purse_84 : decode cX11_purse 84 = .ok (.invokevirtual 200, 3) := by decide +kernel
theorem dX11_purse_87 : decode cX11_purse 87 = .ok (.invokestatic 209, 3) := by decide +kernel
theorem dX11_purse_90 : decode cX11_purse 90 = .ok (.istore 4, 2) := by decide +kernel
theorem dX11_purse_92 : decode cX11_purse 92 = .ok (.iload 5, 2) := by decide +kernel
theorem dX11_purse_94 : decode cX11_purse 94 = .ok (.iconst 1, 1) := by decide +kernel
theorem dX11_purse_95 : decode cX11_purse 95 = .ok (.if_icmp .ne 12, 3) := by decide +kernel
theorem dX11_purse_98 : decode cX11_purse 98 = .ok (.aload_n 0, 1) := by decide +kernel
theorem dX11_purse_99 : decode cX11_purse 99 = .ok (.iload 6, 2) := by decide +kernel
theorem dX11_purse_101 : decode cX11_purse 101 = .ok (.invokevirtual 200, 3) := by decide +kernel
theorem dX11_purse_104 : decode cX11_purse 104 = .ok (.goto 14, 3) := by decide +kernel
theorem dX11_purse_107 : decode cX11_purse 107 = .ok (.iload 5, 2) := by decide +kernel
theorem dX11_purse_109 : decode cX11_purse 109 = .ok (.aload_n 0, 1) := by decide +kernel
theorem dX11_purse_110 : decode cX11_purse 110 = .ok (.iload 6, 2) := by decide +kernel
theorem dX11_purse_112 : decode cX11_purse 112 = .ok (.invokevirtual 200, 3) := by decide +kernel
theorem dX11_purse_115 : decode cX11_purse 115 = .ok (.invokestatic 214, 3) := by decide +kernel
theorem dX11_purse_118 : decode cX11_purse 118 = .ok (.istore 5, 2) := by decide +kernel
theorem dX11_purse_120 : decode cX11_purse 120 = .ok (.iinc 6 1, 3) := by decide +kernel
theorem dX11_purse_123 : decode cX11_purse 123 = .ok (.goto (-69), 3) := by decide +kernel
theorem dX11_purse_126 : decode cX11_purse 126 = .ok (.iload_n 2, 1) := by decide +kernel
theorem dX11_purse_127 : decode cX11_purse 127 = .ok (.ifCond .ne 11, 3) := by decide +kernel
theorem dX11_purse_130 : decode cX11_purse 130 = .ok (.aload_n 0, 1) := by decide +kernel
theorem dX11_purse_131 : decode cX11_purse 131 = .ok (.iload_n 1, 1) := by decide +kernel
theorem dX11_purse_132 : decode cX11_purse 132 = .ok (.invokevirtual 217, 3) := by decide +kernel
theorem dX11_purse_135 : decode cX11_purse 135 = .ok (.goto 24, 3) := by decide +kernel
theorem dX11_purse_138 : decode cX11_purse 138 = .ok (.iload_n 2, 1) := by decide +kernel
theorem dX11_purse_139 : decode cX11_purse 139 = .ok (.iconst 1, 1) := by decide +kernel
theorem dX11_purse_140 : decode cX11_purse 140 = .ok (.if_icmp .ne 7, 3) := by decide +kernel
theorem dX11_purse_143 : decode cX11_purse 143 = .ok (.iload_n 3, 1) := by decide +kernel
theorem dX11_purse_144 : decode cX11_purse 144 = .ok (.goto 15, 3) := by decide +kernel
theorem dX11_purse_147 : decode cX11_purse 147 = .ok (.iload_n 2, 1) := by decide +kernel
theorem dX11_purse_148 : decode cX11_purse 148 = .ok (.iconst 2, 1) := by decide +kernel
theorem dX11_purse_149 : decode cX11_purse 149 = .ok (.if_icmp .ne 8, 3) := by decide +kernel
theorem dX11_purse_152 : decode cX11_purse 152 = .ok (.iload 4, 2) := by decide +kernel
theorem dX11_purse_154 : decode cX11_purse 154 = .ok (.goto 5, 3) := by decide +kernel
theorem dX11_purse_157 : decode cX11_purse 157 = .ok (.iload 5, 2) := by decide +kernel
theorem dX11_purse_159 : decode cX11_purse 159 = .ok (.ireturn, 1) := by decide +kernel
theorem dX11_worth_0 : decode cX11_worth 0 = .ok (.aload_n 0, 1) := by decide +kernel
theorem dX11_worth_1 : decode cX11_worth 1 = .ok (.iconst 0, 1) := by decide +kernel
theorem dX11_worth_2 : decode cX11_worth 2 = .ok (.putfield 64, 3) := by decide +kernel
theorem dX11_worth_5 : decode cX11_worth 5 = .ok (.aload_n 0, 1) := by decide +kernel
theorem dX11_worth_6 : decode cX11_worth 6 = .ok (.iload_n 1, 1) := by decide +kernel
theorem dX11_worth_7 : decode cX11_worth 7 = .ok (.i2l, 1) := by decide +kernel
theorem dX11_worth_8 : decode cX11_worth 8 = .ok (.invokevirtual 203, 3) := by decide +kernel
theorem dX11_worth_11 : decode cX11_worth 11 = .ok (.ifCond .eq 11, 3) := by decide +kernel
theorem dX11_worth_14 : decode cX11_worth 14 = .ok (.aload_n 0, 1) := by decide +kernel
theorem dX11_worth_15 : decode cX11_worth 15 = .ok (.iload_n 1, 1) := by decide +kernel
theorem dX11_worth_16 : decode cX11_worth 16 = .ok (.invokevirtual 220, 3) := by decide +kernel
theorem dX11_worth_19 : decode cX11_worth 19 = .ok (.goto 9, 3) := by decide +kernel
theorem dX11_worth_22 : decode cX11_worth 22 = .ok (.aload_n 0, 1) := by decide +kernel
theorem dX11_worth_23 : decode cX11_worth 23 = .ok (.iconst 1, 1) := by decide +kernel
theorem dX11_worth_24 : decode cX11_worth 24 = .ok (.invokevirtual 178, 3) := by decide +kernel
theorem dX11_worth_27 : decode cX11_worth 27 = .ok (.i2l, 1) := by decide +kernel
theorem dX11_worth_28 : decode cX11_worth 28 = .ok (.lreturn, 1) := by decide +kernel
theorem dX11_change_0 : decode cX11_change 0 = .ok (.aload_n 0, 1) := by decide +kernel
theorem dX11_change_1 : decode cX11_change 1 = .ok (.iload_n 1, 1) := by decide +kernel
theorem dX11_change_2 : decode cX11_change 2 = .ok (.i2l, 1) := by decide +kernel
theorem dX11_change_3 : decode cX11_change 3 = .ok (.lconst 0, 1) := by decide +kernel
theorem dX11_change_4 : decode cX11_change 4 = .ok (.aload_n 0, 1) := by decide +kernel
theorem dX11_change_5 : decode cX11_change 5 = .ok (.getfield 9, 3) := by decide +kernel
theorem dX11_change_8 : decode cX11_change 8 = .ok (.iconst 3, 1) := by decide +kernel
theorem dX11_change_9 : decode cX11_change 9 = .ok (.iaload, 1) := by decide +kernel
theorem dX11_change_10 : decode cX11_change 10 = .ok (.iconst 1, 1) := by decide +kernel
theorem dX11_change_11 : decode cX11_change 11 = .ok (.isub, 1) := by decide +kernel
theorem dX11_change_12 : decode cX11_change 12 = .ok (.i2l, 1) := by decide +kernel
theorem dX11_change_13 : decode cX11_change 13 = .ok (.invokestatic 133, 3) := by decide +kernel
theorem dX11_change_16 : decode cX11_change 16 = .ok (.ifCond .ne 7, 3) := by decide +kernel
theorem dX11_change_19 : decode cX11_change 19 = .ok (.iconst 1, 1) := by decide +kernel
theorem dX11_change_20 : decode cX11_change 20 = .ok (.goto 18, 3) := by decide +kernel
theorem dX11_change_23 : decode cX11_change 23 = .ok (.iload_n 2, 1) := by decide +kernel
theorem dX11_change_24 : decode cX11_change 24 = .ok (.i2l, 1) := by decide +kernel
theorem dX11_change_25 : decode cX11_change 25 = .ok (.lconst 0, 1) := by decide +kernel
theorem dX11_change_26 : decode cX11_change 26 = .ok (.lconst 1, 1) := by decide +kernel
theorem dX11_change_27 : decode cX11_change 27 = .ok (.invokestatic 133, 3) := by decide +kernel
theorem dX11_change_30 : decode cX11_change 30 = .ok (.ifCond .eq 7, 3) := by decide +kernel
theorem dX11_change_33 : decode cX11_change 33 = .ok (.iconst 0, 1) := by decide +kernel
theorem dX11_change_34 : decode cX11_change 34 = .ok (.goto 4, 3) := by decide +kernel
theorem dX11_change_37 : decode cX11_change 37 = .ok (.iconst 2, 1) := by decide +kernel
theorem dX11_change_38 : decode cX11_change 38 = .ok (.putfield 64, 3) := by decide +kernel
theorem dX11_change_41 : decode cX11_change 41 = .ok (.aload_n 0, 1) := by decide +kernel
theorem dX11_change_42 : decode cX11_change 42 = .ok (.getfield 64, 3) := by decide +kernel
theorem dX11_change_45 : decode cX11_change 45 = .ok (.ifCond .le 5, 3) := by decide +kernel
theorem dX11_change_48 : decode cX11_change 48 = .ok (.iconst 0, 1) := by decide +kernel
theorem dX11_change_49 : decode cX11_change 49 = .ok (.ireturn, 1) := by decide +kernel
theorem dX11_change_50 : decode cX11_change 50 = .ok (.iconst 1, 1) := by decide +kernel
theorem dX11_change_51 : decode cX11_change 51 = .ok (.istore_n 3, 1) := by decide +kernel
theorem dX11_change_52 : decode cX11_change 52 = .ok (.iconst 0, 1) := by decide +kernel
theorem dX11_change_53 : decode cX11_change 53 = .ok (.istore 4, 2) := by decide +kernel
theorem dX11_change_55 : decode cX11_change 55 = .ok (.iload 4, 2) := by decide +kernel
theorem dX11_change_57 : decode cX11_change 57 = .ok (.aload_n 0, 1) := by decide +kernel
theorem dX11_change_58 : decode cX11_change 58 = .ok (.invokevirtual 193, 3) := by decide +kernel
theorem dX11_change_61 : decode cX11_change 61 = .ok (.if_icmp .ge 52, 3) := by decide +kernel
theorem dX11_change_64 : decode cX11_change 64 = .ok (.iconst 0, 1) := by decide +kernel
theorem dX11_change_65 : decode cX11_change 65 = .ok (.istore 5, 2) := by decide +kernel
theorem dX11_change_67 : decode cX11_change 67 = .ok (.iload 5, 2) := by decide +kernel
theorem dX11_change_69 : decode cX11_change 69 = .ok (.aload_n 0, 1) := by decide +kernel
theorem dX11_change_70 : decode cX11_change 70 = .ok (.getfield 9, 3) := by decide +kernel
theorem dX11_change_73 : decode cX11_change 73 = .ok (.bipush 52, 2) := by decide +kernel
theorem dX11_change_75 : decode cX11_change 75 = .ok (.bipush 16, 2) := by decide +kernel
theorem dX11_change_77 : decode cX11_change 77 = .ok (.iload_n 1, 1) := by decide +kernel
theorem dX11_change_78 : decode cX11_change 78 = .ok (.imul, 1) := by decide +kernel
theorem dX11_change_79 : decode cX11_change 79 = .ok (.iadd, 1) := by decide +kernel
theorem dX11_change_80 : decode cX11_change 80 = .ok (.bipush 8, 2) := by decide +kernel
theorem dX11_change_82 : decode cX11_change 82 = .ok (.iload_n 2, 1) := by decide +kernel
theorem dX11_change_83 : decode cX11_change 83 = .ok (.imul, 1) := by decide +kernel
theorem dX11_change_84 : decode cX11_change 84 = .ok (.iadd, 1) := by decide +kernel
theorem dX11_change_85 : decode cX11_change 85 = .ok (.iload 4, 2) := by decide +kernel
theorem dX11_change_87 : decode cX11_change 87 = .ok (.iadd, 1) := by decide +kernel
theorem dX11_change_88 : decode cX11_change 88 = .ok (.iaload, 1) := by decide +kernel
theorem dX11_change_89 : decode cX11_change 89 = .ok (.if_icmp .ge 18, 3) := by decide +kernel
theorem dX11_change_92 : decode cX11_change 92 = .ok (.iload_n 3, 1) := by decide +kernel
theorem dX11_change_93 : decode cX11_change 93 = .ok (.aload_n 0, 1) := by decide +kernel
theorem dX11_change_94 : decode cX11_change 94 = .ok (.iload 4, 2) := by decide +kernel
theorem dX11_change_96 : decode cX11_change 96 = .ok (.invokevirtual 200, 3) := by decide +kernel
theorem dX11_change_99 : decode cX11_change 99 = .ok (.imul, 1) := by decide +kernel
theorem dX11_change_100 : decode cX11_change 100 = .ok (.istore_n 3, 1) := by decide +kernel
theorem dX11_change_101 : decode cX11_change 101 = .ok (.iinc 5 1, 3) := by decide +kernel
theorem dX11_change_104 : decode cX11_change 104 = .ok (.goto (-37), 3) := by decide +kernel
theorem dX11_change_107 : decode cX11_change 107 = .ok (.iinc 4 1, 3) := by decide +kernel
theorem dX11_change_110 : decode cX11_change 110 = .ok (.goto (-55), 3) := by decide +kernel
theorem dX11_change_113 : decode cX11_change 113 = .ok (.iload_n 3, 1) := by decide +kernel
theorem dX11_change_114 : decode cX11_change 114 = .ok (.ireturn, 1) := by decide +kernel
theorem dX11_laysPrice_0 : decode cX11_laysPrice 0 = .ok (.lload_n 1, 1) := by decide +kernel
theorem dX11_laysPrice_1 : decode cX11_laysPrice 1 = .ok (.lconst 1, 1) := by decide +kernel
theorem dX11_laysPrice_2 : decode cX11_laysPrice 2 = .ok (.lcmp, 1) := by decide +kernel
theorem dX11_laysPrice_3 : decode cX11_laysPrice 3 = .ok (.ifCond .ge 5, 3) := by decide +kernel
theorem dX11_laysPrice_6 : decode cX11_laysPrice 6 = .ok (.iconst 0, 1) := by decide +kernel
theorem dX11_laysPrice_7 : decode cX11_laysPrice 7 = .ok (.ireturn, 1) := by decide +kernel
theorem dX11_laysPrice_8 : decode cX11_laysPrice 8 = .ok (.lload_n 1, 1) := by decide +kernel
theorem dX11_laysPrice_9 : decode cX11_laysPrice 9 = .ok (.lstore_n 3, 1) := by decide +kernel
theorem dX11_laysPrice_10 : decode cX11_laysPrice 10 = .ok (.iconst 0, 1) := by decide +kernel
theorem dX11_laysPrice_11 : decode cX11_laysPrice 11 = .ok (.istore 5, 2) := by decide +kernel
theorem dX11_laysPrice_13 : decode cX11_laysPrice 13 = .ok (.iload 5, 2) := by decide +kernel
theorem dX11_laysPrice_15 : decode cX11_laysPrice 15 = .ok (.bipush 8, 2) := by decide +kernel
theorem dX11_laysPrice_17 : decode cX11_laysPrice 17 = .ok (.if_icmp .ge 17, 3) := by decide +kernel
theorem dX11_laysPrice_20 : decode cX11_laysPrice 20 = .ok (.aload_n 0, 1) := by decide +kernel
theorem dX11_laysPrice_21 : decode cX11_laysPrice 21 = .ok (.getfield 33, 3) := by decide +kernel
theorem dX11_laysPrice_24 : decode cX11_laysPrice 24 = .ok (.iload 5, 2) := by decide +kernel
theorem dX11_laysPrice_26 : decode cX11_laysPrice 26 = .ok (.iconst 0, 1) := by decide +kernel
theorem dX11_laysPrice_27 : decode cX11_laysPrice 27 = .ok (.iastore, 1) := by decide +kernel
theorem dX11_laysPrice_28 : decode cX11_laysPrice 28 = .ok (.iinc 5 1, 3) := by decide +kernel
theorem dX11_laysPrice_31 : decode cX11_laysPrice 31 = .ok (.goto (-18), 3) := by decide +kernel
theorem dX11_laysPrice_34 : decode cX11_laysPrice 34 = .ok (.iconst 0, 1) := by decide +kernel
theorem dX11_laysPrice_35 : decode cX11_laysPrice 35 = .ok (.istore 5, 2) := by decide +kernel
theorem dX11_laysPrice_37 : decode cX11_laysPrice 37 = .ok (.iload 5, 2) := by decide +kernel
theorem dX11_laysPrice_39 : decode cX11_laysPrice 39 = .ok (.aload_n 0, 1) := by decide +kernel
theorem dX11_laysPrice_40 : decode cX11_laysPrice 40 = .ok (.invokevirtual 193, 3) := by decide +kernel
theorem dX11_laysPrice_43 : decode cX11_laysPrice 43 = .ok (.if_icmp .ge 47, 3) := by decide +kernel
theorem dX11_laysPrice_46 : decode cX11_laysPrice 46 = .ok (.lload_n 3, 1) := by decide +kernel
theorem dX11_laysPrice_47 : decode cX11_laysPrice 47 = .ok (.aload_n 0, 1) := by decide +kernel
theorem dX11_laysPrice_48 : decode cX11_laysPrice 48 = .ok (.iload 5, 2) := by decide +kernel
theorem dX11_laysPrice_50 : decode cX11_laysPrice 50 = .ok (.invokevirtual 200, 3) := by decide +kernel
theorem dX11_laysPrice_53 : decode cX11_laysPrice 53 = .ok (.i2l, 1) := by decide +kernel
theorem dX11_laysPrice_54 : decode cX11_laysPrice 54 = .ok (.lrem, 1) := by decide +kernel
theorem dX11_laysPrice_55 : decode cX11_laysPrice 55 = .ok (.lconst 0, 1) := by decide +kernel
theorem dX11_laysPrice_56 : decode cX11_laysPrice 56 = .ok (.lcmp, 1) := by decide +kernel
theorem dX11_laysPrice_57 : decode cX11_laysPrice 57 = .ok (.ifCond .ne 27, 3) := by decide +kernel
theorem dX11_laysPrice_60 : decode cX11_laysPrice 60 = .ok (.aload_n 0, 1) := by decide +kernel
theorem dX11_laysPrice_61 : decode cX11_laysPrice 61 = .ok (.getfield 33, 3) := by decide +kernel
theorem dX11_laysPrice_64 : decode cX11_laysPrice 64 = .ok (.iload 5, 2) := by decide +kernel
theorem dX11_laysPrice_66 : decode cX11_laysPrice 66 = .ok (.dup2, 1) := by decide +kernel
theorem dX11_laysPrice_67 : decode cX11_laysPrice 67 = .ok (.iaload, 1) := by decide +kernel
theorem dX11_laysPrice_68 : decode cX11_laysPrice 68 = .ok (.iconst 1, 1) := by decide +kernel
theorem dX11_laysPrice_69 : decode cX11_laysPrice 69 = .ok (.iadd, 1) := by decide +kernel
theorem dX11_laysPrice_70 : decode cX11_laysPrice 70 = .ok (.iastore, 1) := by decide +kernel
theorem dX11_laysPrice_71 : decode cX11_laysPrice 71 = .ok (.lload_n 3, 1) := by decide +kernel
theorem dX11_laysPrice_72 : decode cX11_laysPrice 72 = .ok (.aload_n 0, 1) := by decide +kernel
theorem dX11_laysPrice_73 : decode cX11_laysPrice 73 = .ok (.iload 5, 2) := by decide +kernel
theorem dX11_laysPrice_75 : decode cX11_laysPrice 75 = .ok (.invokevirtual 200, 3) := by decide +kernel
theorem dX11_laysPrice_78 : decode cX11_laysPrice 78 = .ok (.i2l, 1) := by decide +kernel
theorem dX11_laysPrice_79 : decode cX11_laysPrice 79 = .ok (.ldiv, 1) := by decide +kernel
theorem dX11_laysPrice_80 : decode cX11_laysPrice 80 = .ok (.lstore_n 3, 1) := by decide +kernel
theorem dX11_laysPrice_81 : decode cX11_laysPrice 81 = .ok (.goto (-35), 3) := by decide +kernel
theorem dX11_laysPrice_84 : decode cX11_laysPrice 84 = .ok (.iinc 5 1, 3) := by decide +kernel
theorem dX11_laysPrice_87 : decode cX11_laysPrice 87 = .ok (.goto (-50), 3) := by decide +kernel
theorem dX11_laysPrice_90 : decode cX11_laysPrice 90 = .ok (.lload_n 3, 1) := by decide +kernel
theorem dX11_laysPrice_91 : decode cX11_laysPrice 91 = .ok (.lconst 1, 1) := by decide +kernel
theorem dX11_laysPrice_92 : decode cX11_laysPrice 92 = .ok (.lcmp, 1) := by decide +kernel
theorem dX11_laysPrice_93 : decode cX11_laysPrice 93 = .ok (.ifCond .ne 7, 3) := by decide +kernel
theorem dX11_laysPrice_96 : decode cX11_laysPrice 96 = .ok (.iconst 1, 1) := by decide +kernel
theorem dX11_laysPrice_97 : decode cX11_laysPrice 97 = .ok (.goto 4, 3) := by decide +kernel
theorem dX11_laysPrice_100 : decode cX11_laysPrice 100 = .ok (.iconst 0, 1) := by decide +kernel
theorem dX11_laysPrice_101 : decode cX11_laysPrice 101 = .ok (.ireturn, 1) := by decide +kernel
theorem dX11_askedMany_0 : decode cX11_askedMany 0 = .ok (.iconst 0, 1) := by decide +kernel
theorem dX11_askedMany_1 : decode cX11_askedMany 1 = .ok (.istore_n 1, 1) := by decide +kernel
theorem dX11_askedMany_2 : decode cX11_askedMany 2 = .ok (.iconst 0, 1) := by decide +kernel
theorem dX11_askedMany_3 : decode cX11_askedMany 3 = .ok (.istore_n 2, 1) := by decide +kernel
theorem dX11_askedMany_4 : decode cX11_askedMany 4 = .ok (.iload_n 2, 1) := by decide +kernel
theorem dX11_askedMany_5 : decode cX11_askedMany 5 = .ok (.bipush 8, 2) := by decide +kernel
theorem dX11_askedMany_7 : decode cX11_askedMany 7 = .ok (.if_icmp .ge 18, 3) := by decide +kernel
theorem dX11_askedMany_10 : decode cX11_askedMany 10 = .ok (.iload_n 1, 1) := by decide +kernel
theorem dX11_askedMany_11 : decode cX11_askedMany 11 = .ok (.aload_n 0, 1) := by decide +kernel
theorem dX11_askedMany_12 : decode cX11_askedMany 12 = .ok (.getfield 33, 3) := by decide +kernel
theorem dX11_askedMany_15 : decode cX11_askedMany 15 = .ok (.iload_n 2, 1) := by decide +kernel
theorem dX11_askedMany_16 : decode cX11_askedMany 16 = .ok (.iaload, 1) := by decide +kernel
theorem dX11_askedMany_17 : decode cX11_askedMany 17 = .ok (.iadd, 1) := by decide +kernel
theorem dX11_askedMany_18 : decode cX11_askedMany 18 = .ok (.istore_n 1, 1) := by decide +kernel
theorem dX11_askedMany_19 : decode cX11_askedMany 19 = .ok (.iinc 2 1, 3) := by decide +kernel
theorem dX11_askedMany_22 : decode cX11_askedMany 22 = .ok (.goto (-18), 3) := by decide +kernel
theorem dX11_askedMany_25 : decode cX11_askedMany 25 = .ok (.iload_n 1, 1) := by decide +kernel
theorem dX11_askedMany_26 : decode cX11_askedMany 26 = .ok (.ireturn, 1) := by decide +kernel
theorem dX11_hasAll_0 : decode cX11_hasAll 0 = .ok (.iconst 0, 1) := by decide +kernel
theorem dX11_hasAll_1 : decode cX11_hasAll 1 = .ok (.istore_n 2, 1) := by decide +kernel
theorem dX11_hasAll_2 : decode cX11_hasAll 2 = .ok (.iload_n 2, 1) := by decide +kernel
theorem dX11_hasAll_3 : decode cX11_hasAll 3 = .ok (.aload_n 0, 1) := by decide +kernel
theorem dX11_hasAll_4 : decode cX11_hasAll 4 = .ok (.invokevirtual 193, 3) := by decide +kernel
theorem dX11_hasAll_7 : decode cX11_hasAll 7 = .ok (.if_icmp .ge 26, 3) := by decide +kernel
theorem dX11_hasAll_10 : decode cX11_hasAll 10 = .ok (.aload_n 0, 1) := by decide +kernel
theorem dX11_hasAll_11 : decode cX11_hasAll 11 = .ok (.iload_n 1, 1) := by decide +kernel
theorem dX11_hasAll_12 : decode cX11_hasAll 12 = .ok (.iload_n 2, 1) := by decide +kernel
theorem dX11_hasAll_13 : decode cX11_hasAll 13 = .ok (.invokevirtual 196, 3) := by decide +kernel
theorem dX11_hasAll_16 : decode cX11_hasAll 16 = .ok (.aload_n 0, 1) := by decide +kernel
theorem dX11_hasAll_17 : decode cX11_hasAll 17 = .ok (.getfield 33, 3) := by decide +kernel
theorem dX11_hasAll_20 : decode cX11_hasAll 20 = .ok (.iload_n 2, 1) := by decide +kernel
theorem dX11_hasAll_21 : decode cX11_hasAll 21 = .ok (.iaload, 1) := by decide +kernel
theorem dX11_hasAll_22 : decode cX11_hasAll 22 = .ok (.if_icmp .ge 5, 3) := by decide +kernel
theorem dX11_hasAll_25 : decode cX11_hasAll 25 = .ok (.iconst 0, 1) := by decide +kernel
theorem dX11_hasAll_26 : decode cX11_hasAll 26 = .ok (.ireturn, 1) := by decide +kernel
theorem dX11_hasAll_27 : decode cX11_hasAll 27 = .ok (.iinc 2 1, 3) := by decide +kernel
theorem dX11_hasAll_30 : decode cX11_hasAll 30 = .ok (.goto (-28), 3) := by decide +kernel
theorem dX11_hasAll_33 : decode cX11_hasAll 33 = .ok (.iconst 1, 1) := by decide +kernel
theorem dX11_hasAll_34 : decode cX11_hasAll 34 = .ok (.ireturn, 1) := by decide +kernel
theorem dX11_whyNot_0 : decode cX11_whyNot 0 = .ok (.aload_n 0, 1) := by decide +kernel
theorem dX11_whyNot_1 : decode cX11_whyNot 1 = .ok (.lload_n 3, 1) := by decide +kernel
theorem dX11_whyNot_2 : decode cX11_whyNot 2 = .ok (.invokevirtual 224, 3) := by decide +kernel
theorem dX11_whyNot_5 : decode cX11_whyNot 5 = .ok (.ifCond .ne 5, 3) := by decide +kernel
theorem dX11_whyNot_8 : decode cX11_whyNot 8 = .ok (.iconst 1, 1) := by decide +kernel
theorem dX11_whyNot_9 : decode cX11_whyNot 9 = .ok (.ireturn, 1) := by decide +kernel
theorem dX11_whyNot_10 : decode cX11_whyNot 10 = .ok (.aload_n 0, 1) := by decide +kernel
theorem dX11_whyNot_11 : decode cX11_whyNot 11 = .ok (.iload_n 1, 1) := by decide +kernel
theorem dX11_whyNot_12 : decode cX11_whyNot 12 = .ok (.invokevirtual 227, 3) := by decide +kernel
theorem dX11_whyNot_15 : decode cX11_whyNot 15 = .ok (.ifCond .ne 7, 3) := by decide +kernel
theorem dX11_whyNot_18 : decode cX11_whyNot 18 = .ok (.iconst 2, 1) := by decide +kernel
theorem dX11_whyNot_19 : decode cX11_whyNot 19 = .ok (.goto 23, 3) := by decide +kernel
theorem dX11_whyNot_22 : decode cX11_whyNot 22 = .ok (.aload_n 0, 1) := by decide +kernel
theorem dX11_whyNot_23 : decode cX11_whyNot 23 = .ok (.iload_n 2, 1) := by decide +kernel
theorem dX11_whyNot_24 : decode cX11_whyNot 24 = .ok (.invokevirtual 217, 3) := by decide +kernel
theorem dX11_whyNot_27 : decode cX11_whyNot 27 = .ok (.aload_n 0, 1) := by decide +kernel
theorem dX11_whyNot_28 : decode cX11_whyNot 28 = .ok (.invokevirtual 230, 3) := by decide +kernel
theorem dX11_whyNot_31 : decode cX11_whyNot 31 = .ok (.iadd, 1) := by decide +kernel
theorem dX11_whyNot_32 : decode cX11_whyNot 32 = .ok (.bipush 9, 2) := by decide +kernel
theorem dX11_whyNot_34 : decode cX11_whyNot 34 = .ok (.if_icmp .le 7, 3) := by decide +kernel
theorem dX11_whyNot_37 : decode cX11_whyNot 37 = .ok (.iconst 3, 1) := by decide +kernel
theorem dX11_whyNot_38 : decode cX11_whyNot 38 = .ok (.goto 4, 3) := by decide +kernel
theorem dX11_whyNot_41 : decode cX11_whyNot 41 = .ok (.iconst 0, 1) := by decide +kernel
theorem dX11_whyNot_42 : decode cX11_whyNot 42 = .ok (.ireturn, 1) := by decide +kernel
theorem dX11_payFault_0 : decode cX11_payFault 0 = .ok (.aload_n 0, 1) := by decide +kernel
theorem dX11_payFault_1 : decode cX11_payFault 1 = .ok (.iload_n 1, 1) := by decide +kernel
theorem dX11_payFault_2 : decode cX11_payFault 2 = .ok (.i2l, 1) := by decide +kernel
theorem dX11_payFault_3 : decode cX11_payFault 3 = .ok (.invokevirtual 203, 3) := by decide +kernel
theorem dX11_payFault_6 : decode cX11_payFault 6 = .ok (.ifCond .eq 12, 3) := by decide +kernel
theorem dX11_payFault_9 : decode cX11_payFault 9 = .ok (.aload_n 0, 1) := by decide +kernel
theorem dX11_payFault_10 : decode cX11_payFault 10 = .ok (.iload_n 2, 1) := by decide +kernel
theorem dX11_payFault_11 : decode cX11_payFault 11 = .ok (.i2l, 1) := by decide +kernel
theorem dX11_payFault_12 : decode cX11_payFault 12 = .ok (.invokevirtual 203, 3) := by decide +kernel
theorem dX11_payFault_15 : decode cX11_payFault 15 = .ok (.ifCond .ne 7, 3) := by decide +kernel
theorem dX11_payFault_18 : decode cX11_payFault 18 = .ok (.iconst 1, 1) := by decide +kernel
theorem dX11_payFault_19 : decode cX11_payFault 19 = .ok (.goto 13, 3) := by decide +kernel
theorem dX11_payFault_22 : decode cX11_payFault 22 = .ok (.iload_n 1, 1) := by decide +kernel
theorem dX11_payFault_23 : decode cX11_payFault 23 = .ok (.iload_n 2, 1) := by decide +kernel
theorem dX11_payFault_24 : decode cX11_payFault 24 = .ok (.if_icmp .ne 7, 3) := by decide +kernel
theorem dX11_payFault_27 : decode cX11_payFault 27 = .ok (.iconst 2, 1) := by decide +kernel
theorem dX11_payFault_28 : decode cX11_payFault 28 = .ok (.goto 4, 3) := by decide +kernel
theorem dX11_payFault_31 : decode cX11_payFault 31 = .ok (.iconst 0, 1) := by decide +kernel
theorem dX11_payFault_32 : decode cX11_payFault 32 = .ok (.ireturn, 1) := by decide +kernel
theorem dX11_may_0 : decode cX11_may 0 = .ok (.aload_n 0, 1) := by decide +kernel
theorem dX11_may_1 : decode cX11_may 1 = .ok (.aload_n 0, 1) := by decide +kernel
theorem dX11_may_2 : decode cX11_may 2 = .ok (.iload_n 1, 1) := by decide +kernel
theorem dX11_may_3 : decode cX11_may 3 = .ok (.iload_n 2, 1) := by decide +kernel
theorem dX11_may_4 : decode cX11_may 4 = .ok (.invokevirtual 233, 3) := by decide +kernel
theorem dX11_may_7 : decode cX11_may 7 = .ok (.putfield 64, 3) := by decide +kernel
theorem dX11_may_10 : decode cX11_may 10 = .ok (.aload_n 0, 1) := by decide +kernel
theorem dX11_may_11 : decode cX11_may 11 = .ok (.getfield 64, 3) := by decide +kernel
theorem dX11_may_14 : decode cX11_may 14 = .ok (.ifCond .le 7, 3) := by decide +kernel
theorem dX11_may_17 : decode cX11_may 17 = .ok (.iconst 0, 1) := by decide +kernel
theorem dX11_may_18 : decode cX11_may 18 = .ok (.goto 10, 3) := by decide +kernel
theorem dX11_may_21 : decode cX11_may 21 = .ok (.aload_n 0, 1) := by decide +kernel
theorem dX11_may_22 : decode cX11_may 22 = .ok (.iload_n 1, 1) := by decide +kernel
theorem dX11_may_23 : decode cX11_may 23 = .ok (.iload_n 2, 1) := by decide +kernel
theorem dX11_may_24 : decode cX11_may 24 = .ok (.lload_n 3, 1) := by decide +kernel
theorem dX11_may_25 : decode cX11_may 25 = .ok (.invokevirtual 236, 3) := by decide +kernel
theorem dX11_may_28 : decode cX11_may 28 = .ok (.ireturn, 1) := by decide +kernel
theorem dX11_pay_0 : decode cX11_pay 0 = .ok (.aload_n 0, 1) := by decide +kernel
theorem dX11_pay_1 : decode cX11_pay 1 = .ok (.aload_n 0, 1) := by decide +kernel
theorem dX11_pay_2 : decode cX11_pay 2 = .ok (.iload_n 1, 1) := by decide +kernel
theorem dX11_pay_3 : decode cX11_pay 3 = .ok (.iload_n 2, 1) := by decide +kernel
theorem dX11_pay_4 : decode cX11_pay 4 = .ok (.invokevirtual 233, 3) := by decide +kernel
theorem dX11_pay_7 : decode cX11_pay 7 = .ok (.putfield 64, 3) := by decide +kernel
theorem dX11_pay_10 : decode cX11_pay 10 = .ok (.aload_n 0, 1) := by decide +kernel
theorem dX11_pay_11 : decode cX11_pay 11 = .ok (.getfield 64, 3) := by decide +kernel
theorem dX11_pay_14 : decode cX11_pay 14 = .ok (.ifCond .le 5, 3) := by decide +kernel
theorem dX11_pay_17 : decode cX11_pay 17 = .ok (.iconst 0, 1) := by decide +kernel
theorem dX11_pay_18 : decode cX11_pay 18 = .ok (.ireturn, 1) := by decide +kernel
theorem dX11_pay_19 : decode cX11_pay 19 = .ok (.aload_n 0, 1) := by decide +kernel
theorem dX11_pay_20 : decode cX11_pay 20 = .ok (.iload_n 1, 1) := by decide +kernel
theorem dX11_pay_21 : decode cX11_pay 21 = .ok (.iload_n 2, 1) := by decide +kernel
theorem dX11_pay_22 : decode cX11_pay 22 = .ok (.lload_n 3, 1) := by decide +kernel
theorem dX11_pay_23 : decode cX11_pay 23 = .ok (.invokevirtual 236, 3) := by decide +kernel
theorem dX11_pay_26 : decode cX11_pay 26 = .ok (.istore 5, 2) := by decide +kernel
theorem dX11_pay_28 : decode cX11_pay 28 = .ok (.iload 5, 2) := by decide +kernel
theorem dX11_pay_30 : decode cX11_pay 30 = .ok (.ifCond .eq 7, 3) := by decide +kernel
theorem dX11_pay_33 : decode cX11_pay 33 = .ok (.iload 5, 2) := by decide +kernel
theorem dX11_pay_35 : decode cX11_pay 35 = .ok (.ineg, 1) := by decide +kernel
theorem dX11_pay_36 : decode cX11_pay 36 = .ok (.ireturn, 1) := by decide +kernel
theorem dX11_pay_37 : decode cX11_pay 37 = .ok (.iconst 0, 1) := by decide +kernel
theorem dX11_pay_38 : decode cX11_pay 38 = .ok (.istore 6, 2) := by decide +kernel
theorem dX11_pay_40 : decode cX11_pay 40 = .ok (.iload 6, 2) := by decide +kernel
theorem dX11_pay_42 : decode cX11_pay 42 = .ok (.aload_n 0, 1) := by decide +kernel
theorem dX11_pay_43 : decode cX11_pay 43 = .ok (.invokevirtual 193, 3) := by decide +kernel
theorem dX11_pay_46 : decode cX11_pay 46 = .ok (.if_icmp .ge 59, 3) := by decide +kernel
theorem dX11_pay_49 : decode cX11_pay 49 = .ok (.aload_n 0, 1) := by decide +kernel
theorem dX11_pay_50 : decode cX11_pay 50 = .ok (.getfield 9, 3) := by decide +kernel
theorem dX11_pay_53 : decode cX11_pay 53 = .ok (.bipush 12, 2) := by decide +kernel
theorem dX11_pay_55 : decode cX11_pay 55 = .ok (.bipush 8, 2) := by decide +kernel
theorem dX11_pay_57 : decode cX11_pay 57 = .ok (.iload_n 1, 1) := by decide +kernel
theorem dX11_pay_58 : decode cX11_pay 58 = .ok (.imul, 1) := by decide +kernel
theorem dX11_pay_59 : decode cX11_pay 59 = .ok (.iadd, 1) := by decide +kernel
theorem dX11_pay_60 : decode cX11_pay 60 = .ok (.iload 6, 2) := by decide +kernel
theorem dX11_pay_62 : decode cX11_pay 62 = .ok (.iadd, 1) := by decide +kernel
theorem dX11_pay_63 : decode cX11_pay 63 = .ok (.dup2, 1) := by decide +kernel
theorem dX11_pay_64 : decode cX11_pay 64 = .ok (.iaload, 1) := by decide +kernel
theorem dX11_pay_65 : decode cX11_pay 65 = .ok (.aload_n 0, 1) := by decide +kernel
theorem dX11_pay_66 : decode cX11_pay 66 = .ok (.getfield 33, 3) := by decide +kernel
theorem dX11_pay_69 : decode cX11_pay 69 = .ok (.iload 6, 2) := by decide +kernel
theorem dX11_pay_71 : decode cX11_pay 71 = .ok (.iaload, 1) := by decide +kernel
theorem dX11_pay_72 : decode cX11_pay 72 = .ok (.isub, 1) := by decide +kernel
theorem dX11_pay_73 : decode cX11_pay 73 = .ok (.iastore, 1) := by decide +kernel
theorem dX11_pay_74 : decode cX11_pay 74 = .ok (.aload_n 0, 1) := by decide +kernel
theorem dX11_pay_75 : decode cX11_pay 75 = .ok (.getfield 9, 3) := by decide +kernel
theorem dX11_pay_78 : decode cX11_pay 78 = .ok (.bipush 12, 2) := by decide +kernel
theorem dX11_pay_80 : decode cX11_pay 80 = .ok (.bipush 8, 2) := by decide +kernel
theorem dX11_pay_82 : decode cX11_pay 82 = .ok (.iload_n 2, 1) := by decide +kernel
theorem dX11_pay_83 : decode cX11_pay 83 = .ok (.imul, 1) := by decide +kernel
theorem dX11_pay_84 : decode cX11_pay 84 = .ok (.iadd, 1) := by decide +kernel
theorem dX11_pay_85 : decode cX11_pay 85 = .ok (.iload 6, 2) := by decide +kernel
theorem dX11_pay_87 : decode cX11_pay 87 = .ok (.iadd, 1) := by decide +kernel
theorem dX11_pay_88 : decode cX11_pay 88 = .ok (.dup2, 1) := by decide +kernel
theorem dX11_pay_89 : decode cX11_pay 89 = .ok (.iaload, 1) := by decide +kernel
theorem dX11_pay_90 : decode cX11_pay 90 = .ok (.aload_n 0, 1) := by decide +kernel
theorem dX11_pay_91 : decode cX11_pay 91 = .ok (.getfield 33, 3) := by decide +kernel
theorem dX11_pay_94 : decode cX11_pay 94 = .ok (.iload 6, 2) := by decide +kernel
theorem dX11_pay_96 : decode cX11_pay 96 = .ok (.iaload, 1) := by decide +kernel
theorem dX11_pay_97 : decode cX11_pay 97 = .ok (.iadd, 1) := by decide +kernel
theorem dX11_pay_98 : decode cX11_pay 98 = .ok (.iastore, 1) := by decide +kernel
theorem dX11_pay_99 : decode cX11_pay 99 = .ok (.iinc 6 1, 3) := by decide +kernel
theorem dX11_pay_102 : decode cX11_pay 102 = .ok (.goto (-62), 3) := by decide +kernel
theorem dX11_pay_105 : decode cX11_pay 105 = .ok (.aload_n 0, 1) := by decide +kernel
theorem dX11_pay_106 : decode cX11_pay 106 = .ok (.invokevirtual 230, 3) := by decide +kernel
theorem dX11_pay_109 : decode cX11_pay 109 = .ok (.ireturn, 1) := by decide +kernel
theorem dX11_side_0 : decode cX11_side 0 = .ok (.aload_n 0, 1) := by decide +kernel
theorem dX11_side_1 : decode cX11_side 1 = .ok (.getfield 9, 3) := by decide +kernel
theorem dX11_side_4 : decode cX11_side 4 = .ok (.bipush 52, 2) := by decide +kernel
theorem dX11_side_6 : decode cX11_side 6 = .ok (.bipush 16, 2) := by decide +kernel
theorem dX11_side_8 : decode cX11_side 8 = .ok (.iload_n 1, 1) := by decide +kernel
theorem dX11_side_9 : decode cX11_side 9 = .ok (.imul, 1) := by decide +kernel
theorem dX11_side_10 : decode cX11_side 10 = .ok (.iadd, 1) := by decide +kernel
theorem dX11_side_11 : decode cX11_side 11 = .ok (.bipush 8, 2) := by decide +kernel
theorem dX11_side_13 : decode cX11_side 13 = .ok (.iload_n 2, 1) := by decide +kernel
theorem dX11_side_14 : decode cX11_side 14 = .ok (.imul, 1) := by decide +kernel
theorem dX11_side_15 : decode cX11_side 15 = .ok (.iadd, 1) := by decide +kernel
theorem dX11_side_16 : decode cX11_side 16 = .ok (.iload_n 3, 1) := by decide +kernel
theorem dX11_side_17 : decode cX11_side 17 = .ok (.iadd, 1) := by decide +kernel
theorem dX11_side_18 : decode cX11_side 18 = .ok (.iaload, 1) := by decide +kernel
theorem dX11_side_19 : decode cX11_side 19 = .ok (.ireturn, 1) := by decide +kernel
theorem dX11_changes_0 : decode cX11_changes 0 = .ok (.aload_n 0, 1) := by decide +kernel
theorem dX11_changes_1 : decode cX11_changes 1 = .ok (.iconst 0, 1) := by decide +kernel
theorem dX11_changes_2 : decode cX11_changes 2 = .ok (.putfield 64, 3) := by decide +kernel
theorem dX11_changes_5 : decode cX11_changes 5 = .ok (.aload_n 0, 1) := by decide +kernel
theorem dX11_changes_6 : decode cX11_changes 6 = .ok (.iload_n 1, 1) := by decide +kernel
theorem dX11_changes_7 : decode cX11_changes 7 = .ok (.i2l, 1) := by decide +kernel
theorem dX11_changes_8 : decode cX11_changes 8 = .ok (.invokevirtual 203, 3) := by decide +kernel
theorem dX11_changes_11 : decode cX11_changes 11 = .ok (.ifCond .eq 21, 3) := by decide +kernel
theorem dX11_changes_14 : decode cX11_changes 14 = .ok (.iload_n 2, 1) := by decide +kernel
theorem dX11_changes_15 : decode cX11_changes 15 = .ok (.i2l, 1) := by decide +kernel
theorem dX11_changes_16 : decode cX11_changes 16 = .ok (.lconst 0, 1) := by decide +kernel
theorem dX11_changes_17 : decode cX11_changes 17 = .ok (.aload_n 0, 1) := by decide +kernel
theorem dX11_changes_18 : decode cX11_changes 18 = .ok (.getfield 9, 3) := by decide +kernel
theorem dX11_changes_21 : decode cX11_changes 21 = .ok (.iconst 3, 1) := by decide +kernel
theorem dX11_changes_22 : decode cX11_changes 22 = .ok (.iaload, 1) := by decide +kernel
theorem dX11_changes_23 : decode cX11_changes 23 = .ok (.iconst 1, 1) := by decide +kernel
theorem dX11_changes_24 : decode cX11_changes 24 = .ok (.isub, 1) := by decide +kernel
theorem dX11_changes_25 : decode cX11_changes 25 = .ok (.i2l, 1) := by decide +kernel
theorem dX11_changes_26 : decode cX11_changes 26 = .ok (.invokestatic 133, 3) := by decide +kernel
theorem dX11_changes_29 : decode cX11_changes 29 = .ok (.ifCond .ne 9, 3) := by decide +kernel
theorem dX11_changes_32 : decode cX11_changes 32 = .ok (.aload_n 0, 1) := by decide +kernel
theorem dX11_changes_33 : decode cX11_changes 33 = .ok (.iconst 1, 1) := by decide +kernel
theorem dX11_changes_34 : decode cX11_changes 34 = .ok (.invokevirtual 178, 3) := by decide +kernel
theorem dX11_changes_37 : decode cX11_changes 37 = .ok (.ireturn, 1) := by decide +kernel
theorem dX11_changes_38 : decode cX11_changes 38 = .ok (.iconst 0, 1) := by decide +kernel
theorem dX11_changes_39 : decode cX11_changes 39 = .ok (.istore_n 3, 1) := by decide +kernel
theorem dX11_changes_40 : decode cX11_changes 40 = .ok (.iconst 0, 1) := by decide +kernel
theorem dX11_changes_41 : decode cX11_changes 41 = .ok (.istore 4, 2) := by decide +kernel
theorem dX11_changes_43 : decode cX11_changes 43 = .ok (.iload 4, 2) := by decide +kernel
theorem dX11_changes_45 : decode cX11_changes 45 = .ok (.aload_n 0, 1) := by decide +kernel
theorem dX11_changes_46 : decode cX11_changes 46 = .ok (.invokevirtual 193, 3) := by decide +kernel
theorem dX11_changes_49 : decode cX11_changes 49 = .ok (.if_icmp .ge 58, 3) := by decide +kernel
theorem dX11_changes_52 : decode cX11_changes 52 = .ok (.aload_n 0, 1) := by decide +kernel
theorem dX11_changes_53 : decode cX11_changes 53 = .ok (.iload_n 1, 1) := by decide +kernel
theorem dX11_changes_54 : decode cX11_changes 54 = .ok (.iload 4, 2) := by decide +kernel
theorem dX11_changes_56 : decode cX11_changes 56 = .ok (.invokevirtual 196, 3) := by decide +kernel
theorem dX11_changes_59 : decode cX11_changes 59 = .ok (.aload_n 0, 1) := by decide +kernel
theorem dX11_changes_60 : decode cX11_changes 60 = .ok (.iload_n 2, 1) := by decide +kernel
theorem dX11_changes_61 : decode cX11_changes 61 = .ok (.iconst 0, 1) := by decide +kernel
theorem dX11_changes_62 : decode cX11_changes 62 = .ok (.iload 4, 2) := by decide +kernel
theorem dX11_changes_64 : decode cX11_changes 64 = .ok (.invokevirtual 240, 3) := by decide +kernel
theorem dX11_changes_67 : decode cX11_changes 67 = .ok (.if_icmp .ge 6, 3) := by decide +kernel
theorem dX11_changes_70 : decode cX11_changes 70 = .ok (.bipush (-2), 2) := by decide +kernel
theorem dX11_changes_72 : decode cX11_changes 72 = .ok (.ireturn, 1) := by decide +kernel
theorem dX11_changes_73 : decode cX11_changes 73 = .ok (.iload_n 3, 1) := by decide +kernel
theorem dX11_changes_74 : decode cX11_changes 74 = .ok (.aload_n 0, 1) := by decide +kernel
theorem dX11_changes_75 : decode cX11_changes 75 = .ok (.iload_n 1, 1) := by decide +kernel
theorem dX11_changes_76 : decode cX11_changes 76 = .ok (.iload 4, 2) := by decide +kernel
theorem dX11_changes_78 : decode cX11_changes 78 = .ok (.invokevirtual 196, 3) := by decide +kernel
theorem dX11_changes_81 : decode cX11_changes 81 = .ok (.aload_n 0, 1) := by decide +kernel
theorem dX11_changes_82 : decode cX11_changes 82 = .ok (.iload_n 2, 1) := by decide +kernel
theorem dX11_changes_83 : decode cX11_changes 83 = .ok (.iconst 0, 1) := by decide +kernel
theorem dX11_changes_84 : decode cX11_changes 84 = .ok (.iload 4, 2) := by decide +kernel
theorem dX11_changes_86 : decode cX11_changes 86 = .ok (.invokevirtual 240, 3) := by decide +kernel
theorem dX11_changes_89 : decode cX11_changes 89 = .ok (.isub, 1) := by decide +kernel
theorem dX11_changes_90 : decode cX11_changes 90 = .ok (.aload_n 0, 1) := by decide +kernel
theorem dX11_changes_91 : decode cX11_changes 91 = .ok (.iload_n 2, 1) := by decide +kernel
theorem dX11_changes_92 : decode cX11_changes 92 = .ok (.iconst 1, 1) := by decide +kernel
theorem dX11_changes_93 : decode cX11_changes 93 = .ok (.iload 4, 2) := by decide +kernel
theorem dX11_changes_95 : decode cX11_changes 95 = .ok (.invokevirtual 240, 3) := by decide +kernel
theorem dX11_changes_98 : decode cX11_changes 98 = .ok (.iadd, 1) := by decide +kernel
theorem dX11_changes_99 : decode cX11_changes 99 = .ok (.iadd, 1) := by decide +kernel
theorem dX11_changes_100 : decode cX11_changes 100 = .ok (.istore_n 3, 1) := by decide +kernel
theorem dX11_changes_101 : decode cX11_changes 101 = .ok (.iinc 4 1, 3) := by decide +kernel
theorem dX11_changes_104 : decode cX11_changes 104 = .ok (.goto (-61), 3) := by decide +kernel
theorem dX11_changes_107 : decode cX11_changes 107 = .ok (.iload_n 3, 1) := by decide +kernel
theorem dX11_changes_108 : decode cX11_changes 108 = .ok (.bipush 9, 2) := by decide +kernel
theorem dX11_changes_110 : decode cX11_changes 110 = .ok (.if_icmp .le 6, 3) := by decide +kernel
theorem dX11_changes_113 : decode cX11_changes 113 = .ok (.bipush (-3), 2) := by decide +kernel
theorem dX11_changes_115 : decode cX11_changes 115 = .ok (.ireturn, 1) := by decide +kernel
theorem dX11_changes_116 : decode cX11_changes 116 = .ok (.iconst 0, 1) := by decide +kernel
theorem dX11_changes_117 : decode cX11_changes 117 = .ok (.istore 4, 2) := by decide +kernel
theorem dX11_changes_119 : decode cX11_changes 119 = .ok (.iload 4, 2) := by decide +kernel
theorem dX11_changes_121 : decode cX11_changes 121 = .ok (.aload_n 0, 1) := by decide +kernel
theorem dX11_changes_122 : decode cX11_changes 122 = .ok (.invokevirtual 193, 3) := by decide +kernel
theorem dX11_changes_125 : decode cX11_changes 125 = .ok (.if_icmp .ge 44, 3) := by decide +kernel
theorem dX11_changes_128 : decode cX11_changes 128 = .ok (.aload_n 0, 1) := by decide +kernel
theorem dX11_changes_129 : decode cX11_changes 129 = .ok (.getfield 9, 3) := by decide +kernel
theorem dX11_changes_132 : decode cX11_changes 132 = .ok (.bipush 12, 2) := by decide +kernel
theorem dX11_changes_134 : decode cX11_changes 134 = .ok (.bipush 8, 2) := by decide +kernel
theorem dX11_changes_136 : decode cX11_changes 136 = .ok (.iload_n 1, 1) := by decide +kernel
theorem dX11_changes_137 : decode cX11_changes 137 = .ok (.imul, 1) := by decide +kernel
theorem dX11_changes_138 : decode cX11_changes 138 = .ok (.iadd, 1) := by decide +kernel
theorem dX11_changes_139 : decode cX11_changes 139 = .ok (.iload 4, 2) := by decide +kernel
theorem dX11_changes_141 : decode cX11_changes 141 = .ok (.iadd, 1) := by decide +kernel
theorem dX11_changes_142 : decode cX11_changes 142 = .ok (.dup2, 1) := by decide +kernel
theorem dX11_changes_143 : decode cX11_changes 143 = .ok (.iaload, 1) := by decide +kernel
theorem dX11_changes_144 : decode cX11_changes 144 = .ok (.aload_n 0, 1) := by decide +kernel
theorem dX11_changes_145 : decode cX11_changes 145 = .ok (.iload_n 2, 1) := by decide +kernel
theorem dX11_changes_146 : decode cX11_changes 146 = .ok (.iconst 1, 1) := by decide +kernel
theorem dX11_changes_147 : decode cX11_changes 147 = .ok (.iload 4, 2) := by decide +kernel
theorem dX11_changes_149 : decode cX11_changes 149 = .ok (.invokevirtual 240, 3) := by decide +kernel
theorem dX11_changes_152 : decode cX11_changes 152 = .ok (.aload_n 0, 1) := by decide +kernel
theorem dX11_changes_153 : decode cX11_changes 153 = .ok (.iload_n 2, 1) := by decide +kernel
theorem dX11_changes_154 : decode cX11_changes 154 = .ok (.iconst 0, 1) := by decide +kernel
theorem dX11_changes_155 : decode cX11_changes 155 = .ok (.iload 4, 2) := by decide +kernel
theorem dX11_changes_157 : decode cX11_changes 157 = .ok (.invokevirtual 240, 3) := by decide +kernel
theorem dX11_changes_160 : decode cX11_changes 160 = .ok (.isub, 1) := by decide +kernel
theorem dX11_changes_161 : decode cX11_changes 161 = .ok (.iadd, 1) := by decide +kernel
theorem dX11_changes_162 : decode cX11_changes 162 = .ok (.iastore, 1) := by decide +kernel
theorem dX11_changes_163 : decode cX11_changes 163 = .ok (.iinc 4 1, 3) := by decide +kernel
theorem dX11_changes_166 : decode cX11_changes 166 = .ok (.goto (-47), 3) := by decide +kernel
theorem dX11_changes_169 : decode cX11_changes 169 = .ok (.iload_n 3, 1) := by decide +kernel
theorem dX11_changes_170 : decode cX11_changes 170 = .ok (.ireturn, 1) := by decide +kernel
theorem dX11_taxes_0 : decode cX11_taxes 0 = .ok (.iconst (-1), 1) := by decide +kernel
theorem dX11_taxes_1 : decode cX11_taxes 1 = .ok (.istore_n 2, 1) := by decide +kernel
theorem dX11_taxes_2 : decode cX11_taxes 2 = .ok (.iconst 0, 1) := by decide +kernel
theorem dX11_taxes_3 : decode cX11_taxes 3 = .ok (.istore_n 3, 1) := by decide +kernel
theorem dX11_taxes_4 : decode cX11_taxes 4 = .ok (.iload_n 3, 1) := by decide +kernel
theorem dX11_taxes_5 : decode cX11_taxes 5 = .ok (.aload_n 0, 1) := by decide +kernel
theorem dX11_taxes_6 : decode cX11_taxes 6 = .ok (.invokevirtual 193, 3) := by decide +kernel
theorem dX11_taxes_9 : decode cX11_taxes 9 = .ok (.if_icmp .ge 38, 3) := by decide +kernel
theorem dX11_taxes_12 : decode cX11_taxes 12 = .ok (.aload_n 0, 1) := by decide +kernel
theorem dX11_taxes_13 : decode cX11_taxes 13 = .ok (.iload_n 1, 1) := by decide +kernel
theorem dX11_taxes_14 : decode cX11_taxes 14 = .ok (.iload_n 3, 1) := by decide +kernel
theorem dX11_taxes_15 : decode cX11_taxes 15 = .ok (.invokevirtual 196, 3) := by decide +kernel
theorem dX11_taxes_18 : decode cX11_taxes 18 = .ok (.ifCond .le 23, 3) := by decide +kernel
theorem dX11_taxes_21 : decode cX11_taxes 21 = .ok (.iload_n 2, 1) := by decide +kernel
theorem dX11_taxes_22 : decode cX11_taxes 22 = .ok (.iconst (-1), 1) := by decide +kernel
theorem dX11_taxes_23 : decode cX11_taxes 23 = .ok (.if_icmp .eq 16, 3) := by decide +kernel
theorem dX11_taxes_26 : decode cX11_taxes 26 = .ok (.aload_n 0, 1) := by decide +kernel
theorem dX11_taxes_27 : decode cX11_taxes 27 = .ok (.iload_n 3, 1) := by decide +kernel
theorem dX11_taxes_28 : decode cX11_taxes 28 = .ok (.invokevirtual 200, 3) := by decide +kernel
theorem dX11_taxes_31 : decode cX11_taxes 31 = .ok (.aload_n 0, 1) := by decide +kernel
theorem dX11_taxes_32 : decode cX11_taxes 32 = .ok (.iload_n 2, 1) := by decide +kernel
theorem dX11_taxes_33 : decode cX11_taxes 33 = .ok (.invokevirtual 200, 3) := by decide +kernel
theorem dX11_taxes_36 : decode cX11_taxes 36 = .ok (.if_icmp .le 5, 3) := by decide +kernel
theorem dX11_taxes_39 : decode cX11_taxes 39 = .ok (.iload_n 3, 1) := by decide +kernel
theorem dX11_taxes_40 : decode cX11_taxes 40 = .ok (.istore_n 2, 1) := by decide +kernel
theorem dX11_taxes_41 : decode cX11_taxes 41 = .ok (.iinc 3 1, 3) := by decide +kernel
theorem dX11_taxes_44 : decode cX11_taxes 44 = .ok (.goto (-40), 3) := by decide +kernel
theorem dX11_taxes_47 : decode cX11_taxes 47 = .ok (.iload_n 2, 1) := by decide +kernel
theorem dX11_taxes_48 : decode cX11_taxes 48 = .ok (.iconst (-1), 1) := by decide +kernel
theorem dX11_taxes_49 : decode cX11_taxes 49 = .ok (.if_icmp .ne 5, 3) := by decide +kernel
theorem dX11_taxes_52 : decode cX11_taxes 52 = .ok (.iconst (-1), 1) := by decide +kernel
theorem dX11_taxes_53 : decode cX11_taxes 53 = .ok (.ireturn, 1) := by decide +kernel
theorem dX11_taxes_54 : decode cX11_taxes 54 = .ok (.aload_n 0, 1) := by decide +kernel
theorem dX11_taxes_55 : decode cX11_taxes 55 = .ok (.getfield 9, 3) := by decide +kernel
theorem dX11_taxes_58 : decode cX11_taxes 58 = .ok (.bipush 12, 2) := by decide +kernel
theorem dX11_taxes_60 : decode cX11_taxes 60 = .ok (.bipush 8, 2) := by decide +kernel
theorem dX11_taxes_62 : decode cX11_taxes 62 = .ok (.iload_n 1, 1) := by decide +kernel
theorem dX11_taxes_63 : decode cX11_taxes 63 = .ok (.imul, 1) := by decide +kernel
theorem dX11_taxes_64 : decode cX11_taxes 64 = .ok (.iadd, 1) := by decide +kernel
theorem dX11_taxes_65 : decode cX11_taxes 65 = .ok (.iload_n 2, 1) := by decide +kernel
theorem dX11_taxes_66 : decode cX11_taxes 66 = .ok (.iadd, 1) := by decide +kernel
theorem dX11_taxes_67 : decode cX11_taxes 67 = .ok (.dup2, 1) := by decide +kernel
theorem dX11_taxes_68 : decode cX11_taxes 68 = .ok (.iaload, 1) := by decide +kernel
theorem dX11_taxes_69 : decode cX11_taxes 69 = .ok (.iconst 1, 1) := by decide +kernel
theorem dX11_taxes_70 : decode cX11_taxes 70 = .ok (.isub, 1) := by decide +kernel
theorem dX11_taxes_71 : decode cX11_taxes 71 = .ok (.iastore, 1) := by decide +kernel
theorem dX11_taxes_72 : decode cX11_taxes 72 = .ok (.aload_n 0, 1) := by decide +kernel
theorem dX11_taxes_73 : decode cX11_taxes 73 = .ok (.getfield 9, 3) := by decide +kernel
theorem dX11_taxes_76 : decode cX11_taxes 76 = .ok (.sipush 148, 3) := by decide +kernel
theorem dX11_taxes_79 : decode cX11_taxes 79 = .ok (.iload_n 2, 1) := by decide +kernel
theorem dX11_taxes_80 : decode cX11_taxes 80 = .ok (.iadd, 1) := by decide +kernel
theorem dX11_taxes_81 : decode cX11_taxes 81 = .ok (.sipush 999, 3) := by decide +kernel
theorem dX11_taxes_84 : decode cX11_taxes 84 = .ok (.aload_n 0, 1) := by decide +kernel
theorem dX11_taxes_85 : decode cX11_taxes 85 = .ok (.getfield 9, 3) := by decide +kernel
theorem dX11_taxes_88 : decode cX11_taxes 88 = .ok (.sipush 148, 3) := by decide +kernel
theorem dX11_taxes_91 : decode cX11_taxes 91 = .ok (.iload_n 2, 1) := by decide +kernel
theorem dX11_taxes_92 : decode cX11_taxes 92 = .ok (.iadd, 1) := by decide +kernel
theorem dX11_taxes_93 : decode cX11_taxes 93 = .ok (.iaload, 1) := by decide +kernel
theorem dX11_taxes_94 : decode cX11_taxes 94 = .ok (.iconst 1, 1) := by decide +kernel
theorem dX11_taxes_95 : decode cX11_taxes 95 = .ok (.iadd, 1) := by decide +kernel
theorem dX11_taxes_96 : decode cX11_taxes 96 = .ok (.invokestatic 214, 3) := by decide +kernel
theorem dX11_taxes_99 : decode cX11_taxes 99 = .ok (.iastore, 1) := by decide +kernel
theorem dX11_taxes_100 : decode cX11_taxes 100 = .ok (.iload_n 2, 1) := by decide +kernel
theorem dX11_taxes_101 : decode cX11_taxes 101 = .ok (.ireturn, 1) := by decide +kernel
theorem dX11_tax_0 : decode cX11_tax 0 = .ok (.aload_n 0, 1) := by decide +kernel
theorem dX11_tax_1 : decode cX11_tax 1 = .ok (.iconst 0, 1) := by decide +kernel
theorem dX11_tax_2 : decode cX11_tax 2 = .ok (.putfield 64, 3) := by decide +kernel
theorem dX11_tax_5 : decode cX11_tax 5 = .ok (.aload_n 0, 1) := by decide +kernel
theorem dX11_tax_6 : decode cX11_tax 6 = .ok (.iload_n 1, 1) := by decide +kernel
theorem dX11_tax_7 : decode cX11_tax 7 = .ok (.i2l, 1) := by decide +kernel
theorem dX11_tax_8 : decode cX11_tax 8 = .ok (.invokevirtual 203, 3) := by decide +kernel
theorem dX11_tax_11 : decode cX11_tax 11 = .ok (.ifCond .ne 9, 3) := by decide +kernel
theorem dX11_tax_14 : decode cX11_tax 14 = .ok (.aload_n 0, 1) := by decide +kernel
theorem dX11_tax_15 : decode cX11_tax 15 = .ok (.iconst 1, 1) := by decide +kernel
theorem dX11_tax_16 : decode cX11_tax 16 = .ok (.invokevirtual 178, 3) := by decide +kernel
theorem dX11_tax_19 : decode cX11_tax 19 = .ok (.ireturn, 1) := by decide +kernel
theorem dX11_tax_20 : decode cX11_tax 20 = .ok (.aload_n 0, 1) := by decide +kernel
theorem dX11_tax_21 : decode cX11_tax 21 = .ok (.iload_n 1, 1) := by decide +kernel
theorem dX11_tax_22 : decode cX11_tax 22 = .ok (.invokevirtual 244, 3) := by decide +kernel
theorem dX11_tax_25 : decode cX11_tax 25 = .ok (.istore_n 2, 1) := by decide +kernel
theorem dX11_tax_26 : decode cX11_tax 26 = .ok (.iload_n 2, 1) := by decide +kernel
theorem dX11_tax_27 : decode cX11_tax 27 = .ok (.iconst (-1), 1) := by decide +kernel
theorem dX11_tax_28 : decode cX11_tax 28 = .ok (.if_icmp .ne 7, 3) := by decide +kernel
theorem dX11_tax_31 : decode cX11_tax 31 = .ok (.iconst (-1), 1) := by decide +kernel
theorem dX11_tax_32 : decode cX11_tax 32 = .ok (.goto 8, 3) := by decide +kernel
theorem dX11_tax_35 : decode cX11_tax 35 = .ok (.aload_n 0, 1) := by decide +kernel
theorem dX11_tax_36 : decode cX11_tax 36 = .ok (.iload_n 2, 1) := by decide +kernel
theorem dX11_tax_37 : decode cX11_tax 37 = .ok (.invokevirtual 200, 3) := by decide +kernel
theorem dX11_tax_40 : decode cX11_tax 40 = .ok (.ireturn, 1) := by decide +kernel
theorem dX11_strike_0 : decode cX11_strike 0 = .ok (.aload_n 0, 1) := by decide +kernel
theorem dX11_strike_1 : decode cX11_strike 1 = .ok (.getfield 9, 3) := by decide +kernel
theorem dX11_strike_4 : decode cX11_strike 4 = .ok (.iload_n 2, 1) := by decide +kernel
theorem dX11_strike_5 : decode cX11_strike 5 = .ok (.i2l, 1) := by decide +kernel
theorem dX11_strike_6 : decode cX11_strike 6 = .ok (.invokestatic 140, 3) := by decide +kernel
theorem dX11_strike_9 : decode cX11_strike 9 = .ok (.istore_n 3, 1) := by decide +kernel
theorem dX11_strike_10 : decode cX11_strike 10 = .ok (.aload_n 0, 1) := by decide +kernel
theorem dX11_strike_11 : decode cX11_strike 11 = .ok (.aload_n 0, 1) := by decide +kernel
theorem dX11_strike_12 : decode cX11_strike 12 = .ok (.iload_n 1, 1) := by decide +kernel
theorem dX11_strike_13 : decode cX11_strike 13 = .ok (.i2l, 1) := by decide +kernel
theorem dX11_strike_14 : decode cX11_strike 14 = .ok (.invokevirtual 203, 3) := by decide +kernel
theorem dX11_strike_17 : decode cX11_strike 17 = .ok (.ifCond .ne 7, 3) := by decide +kernel
theorem dX11_strike_20 : decode cX11_strike 20 = .ok (.iconst 1, 1) := by decide +kernel
theorem dX11_strike_21 : decode cX11_strike 21 = .ok (.goto 27, 3) := by decide +kernel
theorem dX11_strike_24 : decode cX11_strike 24 = .ok (.iload_n 3, 1) := by decide +kernel
theorem dX11_strike_25 : decode cX11_strike 25 = .ok (.iconst (-1), 1) := by decide +kernel
theorem dX11_strike_26 : decode cX11_strike 26 = .ok (.if_icmp .ne 7, 3) := by decide +kernel
theorem dX11_strike_29 : decode cX11_strike 29 = .ok (.iconst 2, 1) := by decide +kernel
theorem dX11_strike_30 : decode cX11_strike 30 = .ok (.goto 18, 3) := by decide +kernel
theorem dX11_strike_33 : decode cX11_strike 33 = .ok (.aload_n 0, 1) := by decide +kernel
theorem dX11_strike_34 : decode cX11_strike 34 = .ok (.iload_n 1, 1) := by decide +kernel
theorem dX11_strike_35 : decode cX11_strike 35 = .ok (.invokevirtual 217, 3) := by decide +kernel
theorem dX11_strike_38 : decode cX11_strike 38 = .ok (.bipush 9, 2) := by decide +kernel
theorem dX11_strike_40 : decode cX11_strike 40 = .ok (.if_icmp .ne 7, 3) := by decide +kernel
theorem dX11_strike_43 : decode cX11_strike 43 = .ok (.iconst 3, 1) := by decide +kernel
theorem dX11_strike_44 : decode cX11_strike 44 = .ok (.goto 4, 3) := by decide +kernel
theorem dX11_strike_47 : decode cX11_strike 47 = .ok (.iconst 0, 1) := by decide +kernel
theorem dX11_strike_48 : decode cX11_strike 48 = .ok (.putfield 64, 3) := by decide +kernel
theorem dX11_strike_51 : decode cX11_strike 51 = .ok (.aload_n 0, 1) := by decide +kernel
theorem dX11_strike_52 : decode cX11_strike 52 = .ok (.getfield 64, 3) := by decide +kernel
theorem dX11_strike_55 : decode cX11_strike 55 = .ok (.ifCond .le 5, 3) := by decide +kernel
theorem dX11_strike_58 : decode cX11_strike 58 = .ok (.iconst 0, 1) := by decide +kernel
theorem dX11_strike_59 : decode cX11_strike 59 = .ok (.ireturn, 1) := by decide +kernel
theorem dX11_strike_60 : decode cX11_strike 60 = .ok (.aload_n 0, 1) := by decide +kernel
theorem dX11_strike_61 : decode cX11_strike 61 = .ok (.getfield 9, 3) := by decide +kernel
theorem dX11_strike_64 : decode cX11_strike 64 = .ok (.bipush 12, 2) := by decide +kernel
theorem dX11_strike_66 : decode cX11_strike 66 = .ok (.bipush 8, 2) := by decide +kernel
theorem dX11_strike_68 : decode cX11_strike 68 = .ok (.iload_n 1, 1) := by decide +kernel
theorem dX11_strike_69 : decode cX11_strike 69 = .ok (.imul, 1) := by decide +kernel
theorem dX11_strike_70 : decode cX11_strike 70 = .ok (.iadd, 1) := by decide +kernel
theorem dX11_strike_71 : decode cX11_strike 71 = .ok (.iload_n 3, 1) := by decide +kernel
theorem dX11_strike_72 : decode cX11_strike 72 = .ok (.iadd, 1) := by decide +kernel
theorem dX11_strike_73 : decode cX11_strike 73 = .ok (.dup2, 1) := by decide +kernel
theorem dX11_strike_74 : decode cX11_strike 74 = .ok (.iaload, 1) := by decide +kernel
theorem dX11_strike_75 : decode cX11_strike 75 = .ok (.iconst 1, 1) := by decide +kernel
theorem dX11_strike_76 : decode cX11_strike 76 = .ok (.iadd, 1) := by decide +kernel
theorem dX11_strike_77 : decode cX11_strike 77 = .ok (.iastore, 1) := by decide +kernel
theorem dX11_strike_78 : decode cX11_strike 78 = .ok (.aload_n 0, 1) := by decide +kernel
theorem dX11_strike_79 : decode cX11_strike 79 = .ok (.iload_n 1, 1) := by decide +kernel
theorem dX11_strike_80 : decode cX11_strike 80 = .ok (.invokevirtual 217, 3) := by decide +kernel
theorem dX11_strike_83 : decode cX11_strike 83 = .ok (.ireturn, 1) := by decide +kernel
theorem dX11_treasury_0 : decode cX11_treasury 0 = .ok (.aload_n 0, 1) := by decide +kernel
theorem dX11_treasury_1 : decode cX11_treasury 1 = .ok (.iconst 0, 1) := by decide +kernel
theorem dX11_treasury_2 : decode cX11_treasury 2 = .ok (.putfield 64, 3) := by decide +kernel
theorem dX11_treasury_5 : decode cX11_treasury 5 = .ok (.aload_n 0, 1) := by decide +kernel
theorem dX11_treasury_6 : decode cX11_treasury 6 = .ok (.getfield 9, 3) := by decide +kernel
theorem dX11_treasury_9 : decode cX11_treasury 9 = .ok (.iload_n 1, 1) := by decide +kernel
theorem dX11_treasury_10 : decode cX11_treasury 10 = .ok (.i2l, 1) := by decide +kernel
theorem dX11_treasury_11 : decode cX11_treasury 11 = .ok (.invokestatic 140, 3) := by decide +kernel
theorem dX11_treasury_14 : decode cX11_treasury 14 = .ok (.istore_n 2, 1) := by decide +kernel
theorem dX11_treasury_15 : decode cX11_treasury 15 = .ok (.iload_n 2, 1) := by decide +kernel
theorem dX11_treasury_16 : decode cX11_treasury 16 = .ok (.iconst (-1), 1) := by decide +kernel
theorem dX11_treasury_17 : decode cX11_treasury 17 = .ok (.if_icmp .ne 7, 3) := by decide +kernel
theorem dX11_treasury_20 : decode cX11_treasury 20 = .ok (.iconst 0, 1) := by decide +kernel
theorem dX11_treasury_21 : decode cX11_treasury 21 = .ok (.goto 13, 3) := by decide +kernel
theorem dX11_treasury_24 : decode cX11_treasury 24 = .ok (.aload_n 0, 1) := by decide +kernel
theorem dX11_treasury_25 : decode cX11_treasury 25 = .ok (.getfield 9, 3) := by decide +kernel
theorem dX11_treasury_28 : decode cX11_treasury 28 = .ok (.sipush 148, 3) := by decide +kernel
theorem dX11_treasury_31 : decode cX11_treasury 31 = .ok (.iload_n 2, 1) := by decide +kernel
theorem dX11_treasury_32 : decode cX11_treasury 32 = .ok (.iadd, 1) := by decide +kernel
theorem dX11_treasury_33 : decode cX11_treasury 33 = .ok (.iaload, 1) := by decide +kernel
theorem dX11_treasury_34 : decode cX11_treasury 34 = .ok (.ireturn, 1) := by decide +kernel
theorem dX11_readOut_0 : decode cX11_readOut 0 = .ok (.aload_n 0, 1) := by decide +kernel
theorem dX11_readOut_1 : decode cX11_readOut 1 = .ok (.iconst 0, 1) := by decide +kernel
theorem dX11_readOut_2 : decode cX11_readOut 2 = .ok (.putfield 64, 3) := by decide +kernel
theorem dX11_readOut_5 : decode cX11_readOut 5 = .ok (.lload_n 1, 1) := by decide +kernel
theorem dX11_readOut_6 : decode cX11_readOut 6 = .ok (.lconst 1, 1) := by decide +kernel
theorem dX11_readOut_7 : decode cX11_readOut 7 = .ok (.ldc2_w 247, 3) := by decide +kernel
theorem dX11_readOut_10 : decode cX11_readOut 10 = .ok (.invokestatic 133, 3) := by decide +kernel
theorem dX11_readOut_13 : decode cX11_readOut 13 = .ok (.ifCond .ne 10, 3) := by decide +kernel
theorem dX11_readOut_16 : decode cX11_readOut 16 = .ok (.aload_n 0, 1) := by decide +kernel
theorem dX11_readOut_17 : decode cX11_readOut 17 = .ok (.iconst 1, 1) := by decide +kernel
theorem dX11_readOut_18 : decode cX11_readOut 18 = .ok (.invokevirtual 178, 3) := by decide +kernel
theorem dX11_readOut_21 : decode cX11_readOut 21 = .ok (.i2l, 1) := by decide +kernel
theorem dX11_readOut_22 : decode cX11_readOut 22 = .ok (.lreturn, 1) := by decide +kernel
theorem dX11_readOut_23 : decode cX11_readOut 23 = .ok (.lconst 1, 1) := by decide +kernel
theorem dX11_readOut_24 : decode cX11_readOut 24 = .ok (.lload_n 1, 1) := by decide +kernel
theorem dX11_readOut_25 : decode cX11_readOut 25 = .ok (.lrem, 1) := by decide +kernel
theorem dX11_readOut_26 : decode cX11_readOut 26 = .ok (.lstore_n 3, 1) := by decide +kernel
theorem dX11_readOut_27 : decode cX11_readOut 27 = .ok (.iconst 0, 1) := by decide +kernel
theorem dX11_readOut_28 : decode cX11_readOut 28 = .ok (.istore 5, 2) := by decide +kernel
theorem dX11_readOut_30 : decode cX11_readOut 30 = .ok (.iload 5, 2) := by decide +kernel
theorem dX11_readOut_32 : decode cX11_readOut 32 = .ok (.aload_n 0, 1) := by decide +kernel
theorem dX11_readOut_33 : decode cX11_readOut 33 = .ok (.invokevirtual 193, 3) := by decide +kernel
theorem dX11_readOut_36 : decode cX11_readOut 36 = .ok (.if_icmp .ge 46, 3) := by decide +kernel
theorem dX11_readOut_39 : decode cX11_readOut 39 = .ok (.iconst 0, 1) := by decide +kernel
theorem dX11_readOut_40 : decode cX11_readOut 40 = .ok (.istore 6, 2) := by decide +kernel
theorem dX11_readOut_42 : decode cX11_readOut 42 = .ok (.iload 6, 2) := by decide +kernel
theorem dX11_readOut_44 : decode cX11_readOut 44 = .ok (.aload_n 0, 1) := by decide +kernel
theorem dX11_readOut_45 : decode cX11_readOut 45 = .ok (.getfield 9, 3) := by decide +kernel
theorem dX11_readOut_48 : decode cX11_readOut 48 = .ok (.sipush 148, 3) := by decide +kernel
theorem dX11_readOut_51 : decode cX11_readOut 51 = .ok (.iload 5, 2) := by decide +kernel
theorem dX11_readOut_53 : decode cX11_readOut 53 = .ok (.iadd, 1) := by decide +kernel
theorem dX11_readOut_54 : decode cX11_readOut 54 = .ok (.iaload, 1) := by decide +kernel
theorem dX11_readOut_55 : decode cX11_readOut 55 = .ok (.if_icmp .ge 21, 3) := by decide +kernel
theorem dX11_readOut_58 : decode cX11_readOut 58 = .ok (.lload_n 3, 1) := by decide +kernel
theorem dX11_readOut_59 : decode cX11_readOut 59 = .ok (.aload_n 0, 1) := by decide +kernel
theorem dX11_readOut_60 : decode cX11_readOut 60 = .ok (.iload 5, 2) := by decide +kernel
theorem dX11_readOut_62 : decode cX11_readOut 62 = .ok (.invokevirtual 200, 3) := by decide +kernel
theorem dX11_readOut_65 : decode cX11_readOut 65 = .ok (.i2l, 1) := by decide +kernel
theorem dX11_readOut_66 : decode cX11_readOut 66 = .ok (.lmul, 1) := by decide +kernel
theorem dX11_readOut_67 : decode cX11_readOut 67 = .ok (.lload_n 1, 1) := by decide +kernel
theorem dX11_readOut_68 : decode cX11_readOut 68 = .ok (.lrem, 1) := by decide +kernel
theorem dX11_readOut_69 : decode cX11_readOut 69 = .ok (.lstore_n 3, 1) := by decide +kernel
theorem dX11_readOut_70 : decode cX11_readOut 70 = .ok (.iinc 6 1, 3) := by decide +kernel
theorem dX11_readOut_73 : decode cX11_readOut 73 = .ok (.goto (-31), 3) := by decide +kernel
theorem dX11_readOut_76 : decode cX11_readOut 76 = .ok (.iinc 5 1, 3) := by decide +kernel
theorem dX11_readOut_79 : decode cX11_readOut 79 = .ok (.goto (-49), 3) := by decide +kernel
theorem dX11_readOut_82 : decode cX11_readOut 82 = .ok (.lload_n 3, 1) := by decide +kernel
theorem dX11_readOut_83 : decode cX11_readOut 83 = .ok (.lreturn, 1) := by decide +kernel
theorem dX11_draw_0 : decode cX11_draw 0 = .ok (.aload_n 0, 1) := by decide +kernel
theorem dX11_draw_1 : decode cX11_draw 1 = .ok (.ldc 249, 2) := by decide +kernel
theorem dX11_draw_3 : decode cX11_draw 3 = .ok (.aload_n 0, 1) := by decide +kernel
theorem dX11_draw_4 : decode cX11_draw 4 = .ok (.getfield 250, 3) := by decide +kernel
theorem dX11_draw_7 : decode cX11_draw 7 = .ok (.imul, 1) := by decide +kernel
theorem dX11_draw_8 : decode cX11_draw 8 = .ok (.sipush 12345, 3) := by decide +kernel
theorem dX11_draw_11 : decode cX11_draw 11 = .ok (.iadd, 1) := by decide +kernel
theorem dX11_draw_12 : decode cX11_draw 12 = .ok (.putfield 250, 3) := by decide +kernel
theorem dX11_draw_15 : decode cX11_draw 15 = .ok (.aload_n 0, 1) := by decide +kernel
theorem dX11_draw_16 : decode cX11_draw 16 = .ok (.getfield 250, 3) := by decide +kernel
theorem dX11_draw_19 : decode cX11_draw 19 = .ok (.bipush 16, 2) := by decide +kernel
theorem dX11_draw_21 : decode cX11_draw 21 = .ok (.iushr, 1) := by decide +kernel
theorem dX11_draw_22 : decode cX11_draw 22 = .ok (.iload_n 1, 1) := by decide +kernel
theorem dX11_draw_23 : decode cX11_draw 23 = .ok (.irem, 1) := by decide +kernel
theorem dX11_draw_24 : decode cX11_draw 24 = .ok (.ireturn, 1) := by decide +kernel
theorem dX11_year_0 : decode cX11_year 0 = .ok (.aload_n 0, 1) := by decide +kernel
theorem dX11_year_1 : decode cX11_year 1 = .ok (.iload_n 2, 1) := by decide +kernel
theorem dX11_year_2 : decode cX11_year 2 = .ok (.i2l, 1) := by decide +kernel
theorem dX11_year_3 : decode cX11_year 3 = .ok (.lconst 1, 1) := by decide +kernel
theorem dX11_year_4 : decode cX11_year 4 = .ok (.ldc2_w 253, 3) := by decide +kernel
theorem dX11_year_7 : decode cX11_year 7 = .ok (.invokestatic 133, 3) := by decide +kernel
theorem dX11_year_10 : decode cX11_year 10 = .ok (.ifCond .ne 7, 3) := by decide +kernel
theorem dX11_year_13 : decode cX11_year 13 = .ok (.iconst 1, 1) := by decide +kernel
theorem dX11_year_14 : decode cX11_year 14 = .ok (.goto 15, 3) := by decide +kernel
theorem dX11_year_17 : decode cX11_year 17 = .ok (.aload_n 0, 1) := by decide +kernel
theorem dX11_year_18 : decode cX11_year 18 = .ok (.invokevirtual 190, 3) := by decide +kernel
theorem dX11_year_21 : decode cX11_year 21 = .ok (.ifCond .ne 7, 3) := by decide +kernel
theorem dX11_year_24 : decode cX11_year 24 = .ok (.iconst 2, 1) := by decide +kernel
theorem dX11_year_25 : decode cX11_year 25 = .ok (.goto 4, 3) := by decide +kernel
theorem dX11_year_28 : decode cX11_year 28 = .ok (.iconst 0, 1) := by decide +kernel
theorem dX11_year_29 : decode cX11_year 29 = .ok (.putfield 64, 3) := by decide +kernel
theorem dX11_year_32 : decode cX11_year 32 = .ok (.aload_n 0, 1) := by decide +kernel
theorem dX11_year_33 : decode cX11_year 33 = .ok (.getfield 64, 3) := by decide +kernel
theorem dX11_year_36 : decode cX11_year 36 = .ok (.ifCond .le 5, 3) := by decide +kernel
theorem dX11_year_39 : decode cX11_year 39 = .ok (.iconst 0, 1) := by decide +kernel
theorem dX11_year_40 : decode cX11_year 40 = .ok (.ireturn, 1) := by decide +kernel
theorem dX11_year_41 : decode cX11_year 41 = .ok (.aload_n 0, 1) := by decide +kernel
theorem dX11_year_42 : decode cX11_year 42 = .ok (.iload_n 1, 1) := by decide +kernel
theorem dX11_year_43 : decode cX11_year 43 = .ok (.putfield 250, 3) := by decide +kernel
theorem dX11_year_46 : decode cX11_year 46 = .ok (.iconst 0, 1) := by decide +kernel
theorem dX11_year_47 : decode cX11_year 47 = .ok (.istore_n 3, 1) := by decide +kernel
theorem dX11_year_48 : decode cX11_year 48 = .ok (.iconst 0, 1) := by decide +kernel
theorem dX11_year_49 : decode cX11_year 49 = .ok (.istore 4, 2) := by decide +kernel
theorem dX11_year_51 : decode cX11_year 51 = .ok (.iload 4, 2) := by decide +kernel
theorem dX11_year_53 : decode cX11_year 53 = .ok (.iload_n 2, 1) := by decide +kernel
theorem dX11_year_54 : decode cX11_year 54 = .ok (.if_icmp .ge 95, 3) := by decide +kernel
theorem dX11_year_57 : decode cX11_year 57 = .ok (.aload_n 0, 1) := by decide +kernel
theorem dX11_year_58 : decode cX11_year 58 = .ok (.aload_n 0, 1) := by decide +kernel
theorem dX11_year_59 : decode cX11_year 59 = .ok (.invokevirtual 190, 3) := by decide +kernel
theorem dX11_year_62 : decode cX11_year 62 = .ok (.invokevirtual 255, 3) := by decide +kernel
theorem dX11_year_65 : decode cX11_year 65 = .ok (.istore 5, 2) := by decide +kernel
theorem dX11_year_67 : decode cX11_year 67 = .ok (.aload_n 0, 1) := by decide +kernel
theorem dX11_year_68 : decode cX11_year 68 = .ok (.iconst 4, 1) := by decide +kernel
theorem dX11_year_69 : decode cX11_year 69 = .ok (.invokevirtual 255, 3) := by decide +kernel
theorem dX11_year_72 : decode cX11_year 72 = .ok (.ifCond .ne 24, 3) := by decide +kernel
theorem dX11_year_75 : decode cX11_year 75 = .ok (.iload_n 3, 1) := by decide +kernel
theorem dX11_year_76 : decode cX11_year 76 = .ok (.aload_n 0, 1) := by decide +kernel
theorem dX11_year_77 : decode cX11_year 77 = .ok (.iload 5, 2) := by decide +kernel
theorem dX11_year_79 : decode cX11_year 79 = .ok (.invokevirtual 244, 3) := by decide +kernel
theorem dX11_year_82 : decode cX11_year 82 = .ok (.iconst (-1), 1) := by decide +kernel
theorem dX11_year_83 : decode cX11_year 83 = .ok (.if_icmp .ne 7, 3) := by decide +kernel
theorem dX11_year_86 : decode cX11_year 86 = .ok (.iconst 0, 1) := by decide +kernel
theorem dX11_year_87 : decode cX11_year 87 = .ok (.goto 4, 3) := by decide +kernel
theorem dX11_year_90 : decode cX11_year 90 = .ok (.iconst 1, 1) := by decide +kernel
theorem dX11_year_91 : decode cX11_year 91 = .ok (.isub, 1) := by decide +kernel
theorem dX11_year_92 : decode cX11_year 92 = .ok (.istore_n 3, 1) := by decide +kernel
theorem dX11_year_93 : decode cX11_year 93 = .ok (.goto 50, 3) := by decide +kernel
theorem dX11_year_96 : decode cX11_year 96 = .ok (.aload_n 0, 1) := by decide +kernel
theorem dX11_year_97 : decode cX11_year 97 = .ok (.aload_n 0, 1) := by decide +kernel
theorem dX11_year_98 : decode cX11_year 98 = .ok (.invokevirtual 193, 3) := by decide +kernel
theorem dX11_year_101 : decode cX11_year 101 = .ok (.invokevirtual 255, 3) := by decide +kernel
theorem dX11_year_104 : decode cX11_year 104 = .ok (.istore 6, 2) := by decide +kernel
theorem dX11_year_106 : decode cX11_year 106 = .ok (.aload_n 0, 1) := by decide +kernel
theorem dX11_year_107 : decode cX11_year 107 = .ok (.iload 5, 2) := by decide +kernel
theorem dX11_year_109 : decode cX11_year 109 = .ok (.invokevirtual 217, 3) := by decide +kernel
theorem dX11_year_112 : decode cX11_year 112 = .ok (.bipush 9, 2) := by decide +kernel
theorem dX11_year_114 : decode cX11_year 114 = .ok (.if_icmp .ne 6, 3) := by decide +kernel
theorem dX11_year_117 : decode cX11_year 117 = .ok (.goto 26, 3) := by decide +kernel
theorem dX11_year_120 : decode cX11_year 120 = .ok (.aload_n 0, 1) := by decide +kernel
theorem dX11_year_121 : decode cX11_year 121 = .ok (.getfield 9, 3) := by decide +kernel
theorem dX11_year_124 : decode cX11_year 124 = .ok (.bipush 12, 2) := by decide +kernel
theorem dX11_year_126 : decode cX11_year 126 = .ok (.bipush 8, 2) := by decide +kernel
theorem dX11_year_128 : decode cX11_year 128 = .ok (.iload 5, 2) := by decide +kernel
theorem dX11_year_130 : decode cX11_year 130 = .ok (.imul, 1) := by decide +kernel
theorem dX11_year_131 : decode cX11_year 131 = .ok (.iadd, 1) := by decide +kernel
theorem dX11_year_132 : decode cX11_year 132 = .ok (.iload 6, 2) := by decide +kernel
theorem dX11_year_134 : decode cX11_year 134 = .ok (.iadd, 1) := by decide +kernel
theorem dX11_year_135 : decode cX11_year 135 = .ok (.dup2, 1) := by decide +kernel
theorem dX11_year_136 : decode cX11_year 136 = .ok (.iaload, 1) := by decide +kernel
theorem dX11_year_137 : decode cX11_year 137 = .ok (.iconst 1, 1) := by decide +kernel
theorem dX11_year_138 : decode cX11_year 138 = .ok (.iadd, 1) := by decide +kernel
theorem dX11_year_139 : decode cX11_year 139 = .ok (.iastore, 1) := by decide +kernel
theorem dX11_year_140 : decode cX11_year 140 = .ok (.iinc 3 1, 3) := by decide +kernel
theorem dX11_year_143 : decode cX11_year 143 = .ok (.iinc 4 1, 3) := by decide +kernel
theorem dX11_year_146 : decode cX11_year 146 = .ok (.goto (-95), 3) := by decide +kernel
theorem dX11_year_149 : decode cX11_year 149 = .ok (.iload_n 3, 1) := by decide +kernel
theorem dX11_year_150 : decode cX11_year 150 = .ok (.ireturn, 1) := by decide +kernel
theorem dX11_trayFault_0 : decode cX11_trayFault 0 = .ok (.iload_n 1, 1) := by decide +kernel
theorem dX11_trayFault_1 : decode cX11_trayFault 1 = .ok (.invokestatic 258, 3) := by decide +kernel
theorem dX11_trayFault_4 : decode cX11_trayFault 4 = .ok (.ifCond .ne 7, 3) := by decide +kernel
theorem dX11_trayFault_7 : decode cX11_trayFault 7 = .ok (.iconst 1, 1) := by decide +kernel
theorem dX11_trayFault_8 : decode cX11_trayFault 8 = .ok (.goto 18, 3) := by decide +kernel
theorem dX11_trayFault_11 : decode cX11_trayFault 11 = .ok (.aload_n 0, 1) := by decide +kernel
theorem dX11_trayFault_12 : decode cX11_trayFault 12 = .ok (.getfield 47, 3) := by decide +kernel
theorem dX11_trayFault_15 : decode cX11_trayFault 15 = .ok (.iload_n 1, 1) := by decide +kernel
theorem dX11_trayFault_16 : decode cX11_trayFault 16 = .ok (.iaload, 1) := by decide +kernel
theorem dX11_trayFault_17 : decode cX11_trayFault 17 = .ok (.iconst (-1), 1) := by decide +kernel
theorem dX11_trayFault_18 : decode cX11_trayFault 18 = .ok (.if_icmp .ne 7, 3) := by decide +kernel
theorem dX11_trayFault_21 : decode cX11_trayFault 21 = .ok (.iconst 2, 1) := by decide +kernel
theorem dX11_trayFault_22 : decode cX11_trayFault 22 = .ok (.goto 4, 3) := by decide +kernel
theorem dX11_trayFault_25 : decode cX11_trayFault 25 = .ok (.iconst 0, 1) := by decide +kernel
theorem dX11_trayFault_26 : decode cX11_trayFault 26 = .ok (.ireturn, 1) := by decide +kernel
theorem dX11_dealWhy_0 : decode cX11_dealWhy 0 = .ok (.lload_n 1, 1) := by decide +kernel
theorem dX11_dealWhy_1 : decode cX11_dealWhy 1 = .ok (.lconst 0, 1) := by decide +kernel
theorem dX11_dealWhy_2 : decode cX11_dealWhy 2 = .ok (.lcmp, 1) := by decide +kernel
theorem dX11_dealWhy_3 : decode cX11_dealWhy 3 = .ok (.ifCond .lt 49, 3) := by decide +kernel
theorem dX11_dealWhy_6 : decode cX11_dealWhy 6 = .ok (.aload_n 0, 1) := by decide +kernel
theorem dX11_dealWhy_7 : decode cX11_dealWhy 7 = .ok (.lload_n 1, 1) := by decide +kernel
theorem dX11_dealWhy_8 : decode cX11_dealWhy 8 = .ok (.ldc2_w 261, 3) := by decide +kernel
theorem dX11_dealWhy_11 : decode cX11_dealWhy 11 = .ok (.ldiv, 1) := by decide +kernel
theorem dX11_dealWhy_12 : decode cX11_dealWhy 12 = .ok (.invokevirtual 203, 3) := by decide +kernel
theorem dX11_dealWhy_15 : decode cX11_dealWhy 15 = .ok (.ifCond .eq 37, 3) := by decide +kernel
theorem dX11_dealWhy_18 : decode cX11_dealWhy 18 = .ok (.aload_n 0, 1) := by decide +kernel
theorem dX11_dealWhy_19 : decode cX11_dealWhy 19 = .ok (.lload_n 1, 1) := by decide +kernel
theorem dX11_dealWhy_20 : decode cX11_dealWhy 20 = .ok (.ldc2_w 263, 3) := by decide +kernel
theorem dX11_dealWhy_23 : decode cX11_dealWhy 23 = .ok (.ldiv, 1) := by decide +kernel
theorem dX11_dealWhy_24 : decode cX11_dealWhy 24 = .ok (.ldc2_w 265, 3) := by decide +kernel
theorem dX11_dealWhy_27 : decode cX11_dealWhy 27 = .ok (.lrem, 1) := by decide +kernel
theorem dX11_dealWhy_28 : decode cX11_dealWhy 28 = .ok (.invokevirtual 203, 3) := by decide +kernel
theorem dX11_dealWhy_31 : decode cX11_dealWhy 31 = .ok (.ifCond .eq 21, 3) := by decide +kernel
theorem dX11_dealWhy_34 : decode cX11_dealWhy 34 = .ok (.lload_n 1, 1) := by decide +kernel
theorem dX11_dealWhy_35 : decode cX11_dealWhy 35 = .ok (.ldc2_w 261, 3) := by decide +kernel
theorem dX11_dealWhy_38 : decode cX11_dealWhy 38 = .ok (.ldiv, 1) := by decide +kernel
theorem dX11_dealWhy_39 : decode cX11_dealWhy 39 = .ok (.lload_n 1, 1) := by decide +kernel
theorem dX11_dealWhy_40 : decode cX11_dealWhy 40 = .ok (.ldc2_w 263, 3) := by decide +kernel
theorem dX11_dealWhy_43 : decode cX11_dealWhy 43 = .ok (.ldiv, 1) := by decide +kernel
theorem dX11_dealWhy_44 : decode cX11_dealWhy 44 = .ok (.ldc2_w 265, 3) := by decide +kernel
theorem dX11_dealWhy_47 : decode cX11_dealWhy 47 = .ok (.lrem, 1) := by decide +kernel
theorem dX11_dealWhy_48 : decode cX11_dealWhy 48 = .ok (.lcmp, 1) := by decide +kernel
theorem dX11_dealWhy_49 : decode cX11_dealWhy 49 = .ok (.ifCond .ne 5, 3) := by decide +kernel
theorem dX11_dealWhy_52 : decode cX11_dealWhy 52 = .ok (.iconst 1, 1) := by decide +kernel
theorem dX11_dealWhy_53 : decode cX11_dealWhy 53 = .ok (.ireturn, 1) := by decide +kernel
theorem dX11_dealWhy_54 : decode cX11_dealWhy 54 = .ok (.aload_n 0, 1) := by decide +kernel
theorem dX11_dealWhy_55 : decode cX11_dealWhy 55 = .ok (.getfield 9, 3) := by decide +kernel
theorem dX11_dealWhy_58 : decode cX11_dealWhy 58 = .ok (.lload_n 1, 1) := by decide +kernel
theorem dX11_dealWhy_59 : decode cX11_dealWhy 59 = .ok (.ldc2_w 263, 3) := by decide +kernel
theorem dX11_dealWhy_62 : decode cX11_dealWhy 62 = .ok (.lrem, 1) := by decide +kernel
theorem dX11_dealWhy_63 : decode cX11_dealWhy 63 = .ok (.invokestatic 140, 3) := by decide +kernel
theorem dX11_dealWhy_66 : decode cX11_dealWhy 66 = .ok (.istore_n 3, 1) := by decide +kernel
theorem dX11_dealWhy_67 : decode cX11_dealWhy 67 = .ok (.iload_n 3, 1) := by decide +kernel
theorem dX11_dealWhy_68 : decode cX11_dealWhy 68 = .ok (.iconst (-1), 1) := by decide +kernel
theorem dX11_dealWhy_69 : decode cX11_dealWhy 69 = .ok (.if_icmp .ne 5, 3) := by decide +kernel
theorem dX11_dealWhy_72 : decode cX11_dealWhy 72 = .ok (.iconst 1, 1) := by decide +kernel
theorem dX11_dealWhy_73 : decode cX11_dealWhy 73 = .ok (.ireturn, 1) := by decide +kernel
theorem dX11_dealWhy_74 : decode cX11_dealWhy 74 = .ok (.aload_n 0, 1) := by decide +kernel
theorem dX11_dealWhy_75 : decode cX11_dealWhy 75 = .ok (.lload_n 1, 1) := by decide +kernel
theorem dX11_dealWhy_76 : decode cX11_dealWhy 76 = .ok (.l2i, 1) := by decide +kernel
theorem dX11_dealWhy_77 : decode cX11_dealWhy 77 = .ok (.sipush 1000, 3) := by decide +kernel
theorem dX11_dealWhy_80 : decode cX11_dealWhy 80 = .ok (.idiv, 1) := by decide +kernel
theorem dX11_dealWhy_81 : decode cX11_dealWhy 81 = .ok (.iload_n 3, 1) := by decide +kernel
theorem dX11_dealWhy_82 : decode cX11_dealWhy 82 = .ok (.invokevirtual 196, 3) := by decide +kernel
theorem dX11_dealWhy_85 : decode cX11_dealWhy 85 = .ok (.ifCond .ne 7, 3) := by decide +kernel
theorem dX11_dealWhy_88 : decode cX11_dealWhy 88 = .ok (.iconst 2, 1) := by decide +kernel
theorem dX11_dealWhy_89 : decode cX11_dealWhy 89 = .ok (.goto 25, 3) := by decide +kernel
theorem dX11_dealWhy_92 : decode cX11_dealWhy 92 = .ok (.aload_n 0, 1) := by decide +kernel
theorem dX11_dealWhy_93 : decode cX11_dealWhy 93 = .ok (.lload_n 1, 1) := by decide +kernel
theorem dX11_dealWhy_94 : decode cX11_dealWhy 94 = .ok (.l2i, 1) := by decide +kernel
theorem dX11_dealWhy_95 : decode cX11_dealWhy 95 = .ok (.bipush 100, 2) := by decide +kernel
theorem dX11_dealWhy_97 : decode cX11_dealWhy 97 = .ok (.idiv, 1) := by decide +kernel
theorem dX11_dealWhy_98 : decode cX11_dealWhy 98 = .ok (.bipush 10, 2) := by decide +kernel
theorem dX11_dealWhy_100 : decode cX11_dealWhy 100 = .ok (.irem, 1) := by decide +kernel
theorem dX11_dealWhy_101 : decode cX11_dealWhy 101 = .ok (.invokevirtual 217, 3) := by decide +kernel
theorem dX11_dealWhy_104 : decode cX11_dealWhy 104 = .ok (.bipush 9, 2) := by decide +kernel
theorem dX11_dealWhy_106 : decode cX11_dealWhy 106 = .ok (.if_icmp .ne 7, 3) := by decide +kernel
theorem dX11_dealWhy_109 : decode cX11_dealWhy 109 = .ok (.iconst 3, 1) := by decide +kernel
theorem dX11_dealWhy_110 : decode cX11_dealWhy 110 = .ok (.goto 4, 3) := by decide +kernel
theorem dX11_dealWhy_113 : decode cX11_dealWhy 113 = .ok (.iconst 0, 1) := by decide +kernel
theorem dX11_dealWhy_114 : decode cX11_dealWhy 114 = .ok (.ireturn, 1) := by decide +kernel
theorem dX11_goesBy_0 : decode cX11_goesBy 0 = .ok (.iconst 0, 1) := by decide +kernel
theorem dX11_goesBy_1 : decode cX11_goesBy 1 = .ok (.istore_n 2, 1) := by decide +kernel
theorem dX11_goesBy_2 : decode cX11_goesBy 2 = .ok (.iload_n 2, 1) := by decide +kernel
theorem dX11_goesBy_3 : decode cX11_goesBy 3 = .ok (.aload_n 0, 1) := by decide +kernel
theorem dX11_goesBy_4 : decode cX11_goesBy 4 = .ok (.getfield 50, 3) := by decide +kernel
theorem dX11_goesBy_7 : decode cX11_goesBy 7 = .ok (.iload_n 1, 1) := by decide +kernel
theorem dX11_goesBy_8 : decode cX11_goesBy 8 = .ok (.iaload, 1) := by decide +kernel
theorem dX11_goesBy_9 : decode cX11_goesBy 9 = .ok (.if_icmp .ge 102, 3) := by decide +kernel
theorem dX11_goesBy_12 : decode cX11_goesBy 12 = .ok (.aload_n 0, 1) := by decide +kernel
theorem dX11_goesBy_13 : decode cX11_goesBy 13 = .ok (.aload_n 0, 1) := by decide +kernel
theorem dX11_goesBy_14 : decode cX11_goesBy 14 = .ok (.getfield 53, 3) := by decide +kernel
theorem dX11_goesBy_17 : decode cX11_goesBy 17 = .ok (.bipush 30, 2) := by decide +kernel
theorem dX11_goesBy_19 : decode cX11_goesBy 19 = .ok (.iload_n 1, 1) := by decide +kernel
theorem dX11_goesBy_20 : decode cX11_goesBy 20 = .ok (.imul, 1) := by decide +kernel
theorem dX11_goesBy_21 : decode cX11_goesBy 21 = .ok (.iload_n 2, 1) := by decide +kernel
theorem dX11_goesBy_22 : decode cX11_goesBy 22 = .ok (.iadd, 1) := by decide +kernel
theorem dX11_goesBy_23 : decode cX11_goesBy 23 = .ok (.laload, 1) := by decide +kernel
theorem dX11_goesBy_24 : decode cX11_goesBy 24 = .ok (.invokevirtual 267, 3) := by decide +kernel
theorem dX11_goesBy_27 : decode cX11_goesBy 27 = .ok (.ifCond .ne 84, 3) := by decide +kernel
theorem dX11_goesBy_30 : decode cX11_goesBy 30 = .ok (.aload_n 0, 1) := by decide +kernel
theorem dX11_goesBy_31 : decode cX11_goesBy 31 = .ok (.getfield 53, 3) := by decide +kernel
theorem dX11_goesBy_34 : decode cX11_goesBy 34 = .ok (.bipush 30, 2) := by decide +kernel
theorem dX11_goesBy_36 : decode cX11_goesBy 36 = .ok (.iload_n 1, 1) := by decide +kernel
theorem dX11_goesBy_37 : decode cX11_goesBy 37 = .ok (.imul, 1) := by decide +kernel
theorem dX11_goesBy_38 : decode cX11_goesBy 38 = .ok (.iload_n 2, 1) := by decide +kernel
theorem dX11_goesBy_39 : decode cX11_goesBy 39 = .ok (.iadd, 1) := by decide +kernel
theorem dX11_goesBy_40 : decode cX11_goesBy 40 = .ok (.laload, 1) := by decide +kernel
theorem dX11_goesBy_41 : decode cX11_goesBy 41 = .ok (.l2i, 1) := by decide +kernel
theorem dX11_goesBy_42 : decode cX11_goesBy 42 = .ok (.istore_n 3, 1) := by decide +kernel
theorem dX11_goesBy_43 : decode cX11_goesBy 43 = .ok (.aload_n 0, 1) := by decide +kernel
theorem dX11_goesBy_44 : decode cX11_goesBy 44 = .ok (.getfield 9, 3) := by decide +kernel
theorem dX11_goesBy_47 : decode cX11_goesBy 47 = .ok (.iload_n 3, 1) := by decide +kernel
theorem dX11_goesBy_48 : decode cX11_goesBy 48 = .ok (.bipush 100, 2) := by decide +kernel
theorem dX11_goesBy_50 : decode cX11_goesBy 50 = .ok (.irem, 1) := by decide +kernel
theorem dX11_goesBy_51 : decode cX11_goesBy 51 = .ok (.i2l, 1) := by decide +kernel
theorem dX11_goesBy_52 : decode cX11_goesBy 52 = .ok (.invokestatic 140, 3) := by decide +kernel
theorem dX11_goesBy_55 : decode cX11_goesBy 55 = .ok (.istore 4, 2) := by decide +kernel
theorem dX11_goesBy_57 : decode cX11_goesBy 57 = .ok (.aload_n 0, 1) := by decide +kernel
theorem dX11_goesBy_58 : decode cX11_goesBy 58 = .ok (.getfield 9, 3) := by decide +kernel
theorem dX11_goesBy_61 : decode cX11_goesBy 61 = .ok (.bipush 12, 2) := by decide +kernel
theorem dX11_goesBy_63 : decode cX11_goesBy 63 = .ok (.bipush 8, 2) := by decide +kernel
theorem dX11_goesBy_65 : decode cX11_goesBy 65 = .ok (.iload_n 3, 1) := by decide +kernel
theorem dX11_goesBy_66 : decode cX11_goesBy 66 = .ok (.sipush 1000, 3) := by decide +kernel
theorem dX11_goesBy_69 : decode cX11_goesBy 69 = .ok (.idiv, 1) := by decide +kernel
theorem dX11_goesBy_70 : decode cX11_goesBy 70 = .ok (.imul, 1) := by decide +kernel
theorem dX11_goesBy_71 : decode cX11_goesBy 71 = .ok (.iadd, 1) := by decide +kernel
theorem dX11_goesBy_72 : decode cX11_goesBy 72 = .ok (.iload 4, 2) := by decide +kernel
theorem dX11_goesBy_74 : decode cX11_goesBy 74 = .ok (.iadd, 1) := by decide +kernel
theorem dX11_goesBy_75 : decode cX11_goesBy 75 = .ok (.dup2, 1) := by decide +kernel
theorem dX11_goesBy_76 : decode cX11_goesBy 76 = .ok (.iaload, 1) := by decide +kernel
theorem dX11_goesBy_77 : decode cX11_goesBy 77 = .ok (.iconst 1, 1) := by decide +kernel
theorem dX11_goesBy_78 : decode cX11_goesBy 78 = .ok (.isub, 1) := by decide +kernel
theorem dX11_goesBy_79 : decode cX11_goesBy 79 = .ok (.iastore, 1) := by decide +kernel
theorem dX11_goesBy_80 : decode cX11_goesBy 80 = .ok (.aload_n 0, 1) := by decide +kernel
theorem dX11_goesBy_81 : decode cX11_goesBy 81 = .ok (.getfield 9, 3) := by decide +kernel
theorem dX11_goesBy_84 : decode cX11_goesBy 84 = .ok (.bipush 12, 2) := by decide +kernel
theorem dX11_goesBy_86 : decode cX11_goesBy 86 = .ok (.bipush 8, 2) := by decide +kernel
theorem dX11_goesBy_88 : decode cX11_goesBy 88 = .ok (.iload_n 3, 1) := by decide +kernel
theorem dX11_goesBy_89 : decode cX11_goesBy 89 = .ok (.bipush 100, 2) := by decide +kernel
theorem dX11_goesBy_91 : decode cX11_goesBy 91 = .ok (.idiv, 1) := by decide +kernel
theorem dX11_goesBy_92 : decode cX11_goesBy 92 = .ok (.bipush 10, 2) := by decide +kernel
theorem dX11_goesBy_94 : decode cX11_goesBy 94 = .ok (.irem, 1) := by decide +kernel
theorem dX11_goesBy_95 : decode cX11_goesBy 95 = .ok (.imul, 1) := by decide +kernel
theorem dX11_goesBy_96 : decode cX11_goesBy 96 = .ok (.iadd, 1) := by decide +kernel
theorem dX11_goesBy_97 : decode cX11_goesBy 97 = .ok (.iload 4, 2) := by decide +kernel
theorem dX11_goesBy_99 : decode cX11_goesBy 99 = .ok (.iadd, 1) := by decide +kernel
theorem dX11_goesBy_100 : decode cX11_goesBy 100 = .ok (.dup2, 1) := by decide +kernel
theorem dX11_goesBy_101 : decode cX11_goesBy 101 = .ok (.iaload, 1) := by decide +kernel
theorem dX11_goesBy_102 : decode cX11_goesBy 102 = .ok (.iconst 1, 1) := by decide +kernel
theorem dX11_goesBy_103 : decode cX11_goesBy 103 = .ok (.iadd, 1) := by decide +kernel
theorem dX11_goesBy_104 : decode cX11_goesBy 104 = .ok (.iastore, 1) := by decide +kernel
theorem dX11_goesBy_105 : decode cX11_goesBy 105 = .ok (.iinc 2 1, 3) := by decide +kernel
theorem dX11_goesBy_108 : decode cX11_goesBy 108 = .ok (.goto (-106), 3) := by decide +kernel
theorem dX11_goesBy_111 : decode cX11_goesBy 111 = .ok (.iload_n 2, 1) := by decide +kernel
theorem dX11_goesBy_112 : decode cX11_goesBy 112 = .ok (.ireturn, 1) := by decide +kernel
theorem dX11_richest_0 : decode cX11_richest 0 = .ok (.iconst (-1), 1) := by decide +kernel
theorem dX11_richest_1 : decode cX11_richest 1 = .ok (.istore_n 1, 1) := by decide +kernel
theorem dX11_richest_2 : decode cX11_richest 2 = .ok (.iconst 0, 1) := by decide +kernel
theorem dX11_richest_3 : decode cX11_richest 3 = .ok (.istore_n 2, 1) := by decide +kernel
theorem dX11_richest_4 : decode cX11_richest 4 = .ok (.iload_n 2, 1) := by decide +kernel
theorem dX11_richest_5 : decode cX11_richest 5 = .ok (.aload_n 0, 1) := by decide +kernel
theorem dX11_richest_6 : decode cX11_richest 6 = .ok (.invokevirtual 190, 3) := by decide +kernel
theorem dX11_richest_9 : decode cX11_richest 9 = .ok (.if_icmp .ge 30, 3) := by decide +kernel
theorem dX11_richest_12 : decode cX11_richest 12 = .ok (.iload_n 1, 1) := by decide +kernel
theorem dX11_richest_13 : decode cX11_richest 13 = .ok (.iconst (-1), 1) := by decide +kernel
theorem dX11_richest_14 : decode cX11_richest 14 = .ok (.if_icmp .eq 17, 3) := by decide +kernel
theorem dX11_richest_17 : decode cX11_richest 17 = .ok (.aload_n 0, 1) := by decide +kernel
theorem dX11_richest_18 : decode cX11_richest 18 = .ok (.iload_n 2, 1) := by decide +kernel
theorem dX11_richest_19 : decode cX11_richest 19 = .ok (.invokevirtual 220, 3) := by decide +kernel
theorem dX11_richest_22 : decode cX11_richest 22 = .ok (.aload_n 0, 1) := by decide +kernel
theorem dX11_richest_23 : decode cX11_richest 23 = .ok (.iload_n 1, 1) := by decide +kernel
theorem dX11_richest_24 : decode cX11_richest 24 = .ok (.invokevirtual 220, 3) := by decide +kernel
theorem dX11_richest_27 : decode cX11_richest 27 = .ok (.lcmp, 1) := by decide +kernel
theorem dX11_richest_28 : decode cX11_richest 28 = .ok (.ifCond .le 5, 3) := by decide +kernel
theorem dX11_richest_31 : decode cX11_richest 31 = .ok (.iload_n 2, 1) := by decide +kernel
theorem dX11_richest_32 : decode cX11_richest 32 = .ok (.istore_n 1, 1) := by decide +kernel
theorem dX11_richest_33 : decode cX11_richest 33 = .ok (.iinc 2 1, 3) := by decide +kernel
theorem dX11_richest_36 : decode cX11_richest 36 = .ok (.goto (-32), 3) := by decide +kernel
theorem dX11_richest_39 : decode cX11_richest 39 = .ok (.iload_n 1, 1) := by decide +kernel
theorem dX11_richest_40 : decode cX11_richest 40 = .ok (.ireturn, 1) := by decide +kernel
theorem dX11_judge_0 : decode cX11_judge 0 = .ok (.aload_n 0, 1) := by decide +kernel
theorem dX11_judge_1 : decode cX11_judge 1 = .ok (.aload_n 0, 1) := by decide +kernel
theorem dX11_judge_2 : decode cX11_judge 2 = .ok (.iload_n 1, 1) := by decide +kernel
theorem dX11_judge_3 : decode cX11_judge 3 = .ok (.invokevirtual 271, 3) := by decide +kernel
theorem dX11_judge_6 : decode cX11_judge 6 = .ok (.putfield 64, 3) := by decide +kernel
theorem dX11_judge_9 : decode cX11_judge 9 = .ok (.aload_n 0, 1) := by decide +kernel
theorem dX11_judge_10 : decode cX11_judge 10 = .ok (.getfield 64, 3) := by decide +kernel
theorem dX11_judge_13 : decode cX11_judge 13 = .ok (.ifCond .ne 20, 3) := by decide +kernel
theorem dX11_judge_16 : decode cX11_judge 16 = .ok (.iload_n 2, 1) := by decide +kernel
theorem dX11_judge_17 : decode cX11_judge 17 = .ok (.i2l, 1) := by decide +kernel
theorem dX11_judge_18 : decode cX11_judge 18 = .ok (.lconst 0, 1) := by decide +kernel
theorem dX11_judge_19 : decode cX11_judge 19 = .ok (.ldc2_w 129, 3) := by decide +kernel
theorem dX11_judge_22 : decode cX11_judge 22 = .ok (.invokestatic 133, 3) := by decide +kernel
theorem dX11_judge_25 : decode cX11_judge 25 = .ok (.ifCond .ne 8, 3) := by decide +kernel
theorem dX11_judge_28 : decode cX11_judge 28 = .ok (.aload_n 0, 1) := by decide +kernel
theorem dX11_judge_29 : decode cX11_judge 29 = .ok (.iconst 3, 1) := by decide +kernel
theorem dX11_judge_30 : decode cX11_judge 30 = .ok (.putfield 64, 3) := by decide +kernel
theorem dX11_judge_33 : decode cX11_judge 33 = .ok (.aload_n 0, 1) := by decide +kernel
theorem dX11_judge_34 : decode cX11_judge 34 = .ok (.getfield 64, 3) := by decide +kernel
theorem dX11_judge_37 : decode cX11_judge 37 = .ok (.ifCond .le 5, 3) := by decide +kernel
theorem dX11_judge_40 : decode cX11_judge 40 = .ok (.iconst 0, 1) := by decide +kernel
theorem dX11_judge_41 : decode cX11_judge 41 = .ok (.ireturn, 1) := by decide +kernel
theorem dX11_judge_42 : decode cX11_judge 42 = .ok (.aload_n 0, 1) := by decide +kernel
theorem dX11_judge_43 : decode cX11_judge 43 = .ok (.getfield 9, 3) := by decide +kernel
