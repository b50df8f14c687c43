theorem dX0_init_0 : decode cX0_init 0 = .ok (.aload_n 0, 1) := by decide +kernel
theorem dX0_init_1 : decode cX0_init 1 = .ok (.invokespecial 3, 3) := by decide +kernel
theorem dX0_init_4 : decode cX0_init 4 = .ok (.aload_n 0, 1) := by decide +kernel
theorem dX0_init_5 : decode cX0_init 5 = .ok (.iconst 4, 1) := by decide +kernel
theorem dX0_init_6 : decode cX0_init 6 = .ok (.newarray .int, 2) := by decide +kernel
theorem dX0_init_8 : decode cX0_init 8 = .ok (.putfield 11, 3) := by decide +kernel
theorem dX0_init_11 : decode cX0_init 11 = .ok (.return_, 1) := by decide +kernel
theorem dX0_seek_0 : decode cX0_seek 0 = .ok (.aload_n 0, 1) := by decide +kernel
theorem dX0_seek_1 : decode cX0_seek 1 = .ok (.getfield 11, 3) := by decide +kernel
theorem dX0_seek_4 : decode cX0_seek 4 = .ok (.iconst 0, 1) := by decide +kernel
theorem dX0_seek_5 : decode cX0_seek 5 = .ok (.invokestatic 15, 3) := by decide +kernel
theorem dX0_seek_8 : decode cX0_seek 8 = .ok (.iconst 0, 1) := by decide +kernel
theorem dX0_seek_9 : decode cX0_seek 9 = .ok (.istore 5, 2) := by decide +kernel
theorem dX0_seek_11 : decode cX0_seek 11 = .ok (.aload_n 1, 1) := by decide +kernel
theorem dX0_seek_12 : decode cX0_seek 12 = .ok (.getfield 21, 3) := by decide +kernel
theorem dX0_seek_15 : decode cX0_seek 15 = .ok (.ifCond .le 7, 3) := by decide +kernel
theorem dX0_seek_18 : decode cX0_seek 18 = .ok (.iconst 1, 1) := by decide +kernel
theorem dX0_seek_19 : decode cX0_seek 19 = .ok (.goto 4, 3) := by decide +kernel
theorem dX0_seek_22 : decode cX0_seek 22 = .ok (.iconst 0, 1) := by decide +kernel
theorem dX0_seek_23 : decode cX0_seek 23 = .ok (.istore 6, 2) := by decide +kernel
theorem dX0_seek_25 : decode cX0_seek 25 = .ok (.iconst 0, 1) := by decide +kernel
theorem dX0_seek_26 : decode cX0_seek 26 = .ok (.istore 7, 2) := by decide +kernel
theorem dX0_seek_28 : decode cX0_seek 28 = .ok (.iload 7, 2) := by decide +kernel
theorem dX0_seek_30 : decode cX0_seek 30 = .ok (.sipush 330, 3) := by decide +kernel
theorem dX0_seek_33 : decode cX0_seek 33 = .ok (.if_icmp .ge 55, 3) := by decide +kernel
theorem dX0_seek_36 : decode cX0_seek 36 = .ok (.iload 6, 2) := by decide +kernel
theorem dX0_seek_38 : decode cX0_seek 38 = .ok (.ifCond .eq 50, 3) := by decide +kernel
theorem dX0_seek_41 : decode cX0_seek 41 = .ok (.aload_n 0, 1) := by decide +kernel
theorem dX0_seek_42 : decode cX0_seek 42 = .ok (.aload_n 1, 1) := by decide +kernel
theorem dX0_seek_43 : decode cX0_seek 43 = .ok (.iload_n 3, 1) := by decide +kernel
theorem dX0_seek_44 : decode cX0_seek 44 = .ok (.invokevirtual 26, 3) := by decide +kernel
theorem dX0_seek_47 : decode cX0_seek 47 = .ok (.lstore 8, 2) := by decide +kernel
theorem dX0_seek_49 : decode cX0_seek 49 = .ok (.aload_n 2, 1) := by decide +kernel
theorem dX0_seek_50 : decode cX0_seek 50 = .ok (.lload 8, 2) := by decide +kernel
theorem dX0_seek_52 : decode cX0_seek 52 = .ok (.invokevirtual 30, 3) := by decide +kernel
theorem dX0_seek_55 : decode cX0_seek 55 = .ok (.ifCond .eq 16, 3) := by decide +kernel
theorem dX0_seek_58 : decode cX0_seek 58 = .ok (.iload 5, 2) := by decide +kernel
theorem dX0_seek_60 : decode cX0_seek 60 = .ok (.iload 4, 2) := by decide +kernel
theorem dX0_seek_62 : decode cX0_seek 62 = .ok (.if_icmp .ne 6, 3) := by decide +kernel
theorem dX0_seek_65 : decode cX0_seek 65 = .ok (.lload 8, 2) := by decide +kernel
theorem dX0_seek_67 : decode cX0_seek 67 = .ok (.lreturn, 1) := by decide +kernel
theorem dX0_seek_68 : decode cX0_seek 68 = .ok (.iinc 5 1, 3) := by decide +kernel
theorem dX0_seek_71 : decode cX0_seek 71 = .ok (.aload_n 0, 1) := by decide +kernel
theorem dX0_seek_72 : decode cX0_seek 72 = .ok (.aload_n 1, 1) := by decide +kernel
theorem dX0_seek_73 : decode cX0_seek 73 = .ok (.getfield 21, 3) := by decide +kernel
theorem dX0_seek_76 : decode cX0_seek 76 = .ok (.iload_n 3, 1) := by decide +kernel
theorem dX0_seek_77 : decode cX0_seek 77 = .ok (.invokevirtual 36, 3) := by decide +kernel
theorem dX0_seek_80 : decode cX0_seek 80 = .ok (.istore 6, 2) := by decide +kernel
theorem dX0_seek_82 : decode cX0_seek 82 = .ok (.iinc 7 1, 3) := by decide +kernel
theorem dX0_seek_85 : decode cX0_seek 85 = .ok (.goto (-57), 3) := by decide +kernel
theorem dX0_seek_88 : decode cX0_seek 88 = .ok (.iload 4, 2) := by decide +kernel
theorem dX0_seek_90 : decode cX0_seek 90 = .ok (.iconst (-1), 1) := by decide +kernel
theorem dX0_seek_91 : decode cX0_seek 91 = .ok (.if_icmp .ne 9, 3) := by decide +kernel
theorem dX0_seek_94 : decode cX0_seek 94 = .ok (.iload 5, 2) := by decide +kernel
theorem dX0_seek_96 : decode cX0_seek 96 = .ok (.i2l, 1) := by decide +kernel
theorem dX0_seek_97 : decode cX0_seek 97 = .ok (.goto 6, 3) := by decide +kernel
theorem dX0_seek_100 : decode cX0_seek 100 = .ok (.ldc2_w 40, 3) := by decide +kernel
theorem dX0_seek_103 : decode cX0_seek 103 = .ok (.lreturn, 1) := by decide +kernel
theorem dX0_productOf_0 : decode cX0_productOf 0 = .ok (.lconst 1, 1) := by decide +kernel
theorem dX0_productOf_1 : decode cX0_productOf 1 = .ok (.lstore_n 3, 1) := by decide +kernel
theorem dX0_productOf_2 : decode cX0_productOf 2 = .ok (.iconst 0, 1) := by decide +kernel
theorem dX0_productOf_3 : decode cX0_productOf 3 = .ok (.istore 5, 2) := by decide +kernel
theorem dX0_productOf_5 : decode cX0_productOf 5 = .ok (.iload 5, 2) := by decide +kernel
theorem dX0_productOf_7 : decode cX0_productOf 7 = .ok (.iload_n 2, 1) := by decide +kernel
theorem dX0_productOf_8 : decode cX0_productOf 8 = .ok (.if_icmp .ge 30, 3) := by decide +kernel
theorem dX0_productOf_11 : decode cX0_productOf 11 = .ok (.iload 5, 2) := by decide +kernel
theorem dX0_productOf_13 : decode cX0_productOf 13 = .ok (.iconst 4, 1) := by decide +kernel
theorem dX0_productOf_14 : decode cX0_productOf 14 = .ok (.if_icmp .ge 24, 3) := by decide +kernel
theorem dX0_productOf_17 : decode cX0_productOf 17 = .ok (.lload_n 3, 1) := by decide +kernel
theorem dX0_productOf_18 : decode cX0_productOf 18 = .ok (.aload_n 1, 1) := by decide +kernel
theorem dX0_productOf_19 : decode cX0_productOf 19 = .ok (.aload_n 0, 1) := by decide +kernel
theorem dX0_productOf_20 : decode cX0_productOf 20 = .ok (.getfield 11, 3) := by decide +kernel
theorem dX0_productOf_23 : decode cX0_productOf 23 = .ok (.iload 5, 2) := by decide +kernel
theorem dX0_productOf_25 : decode cX0_productOf 25 = .ok (.iaload, 1) := by decide +kernel
theorem dX0_productOf_26 : decode cX0_productOf 26 = .ok (.invokevirtual 42, 3) := by decide +kernel
theorem dX0_productOf_29 : decode cX0_productOf 29 = .ok (.i2l, 1) := by decide +kernel
theorem dX0_productOf_30 : decode cX0_productOf 30 = .ok (.lmul, 1) := by decide +kernel
theorem dX0_productOf_31 : decode cX0_productOf 31 = .ok (.lstore_n 3, 1) := by decide +kernel
theorem dX0_productOf_32 : decode cX0_productOf 32 = .ok (.iinc 5 1, 3) := by decide +kernel
theorem dX0_productOf_35 : decode cX0_productOf 35 = .ok (.goto (-30), 3) := by decide +kernel
theorem dX0_productOf_38 : decode cX0_productOf 38 = .ok (.lload_n 3, 1) := by decide +kernel
theorem dX0_productOf_39 : decode cX0_productOf 39 = .ok (.lreturn, 1) := by decide +kernel
theorem dX0_nextRow_0 : decode cX0_nextRow 0 = .ok (.iload_n 2, 1) := by decide +kernel
theorem dX0_nextRow_1 : decode cX0_nextRow 1 = .ok (.iconst 4, 1) := by decide +kernel
theorem dX0_nextRow_2 : decode cX0_nextRow 2 = .ok (.invokestatic 46, 3) := by decide +kernel
theorem dX0_nextRow_5 : decode cX0_nextRow 5 = .ok (.iconst 1, 1) := by decide +kernel
theorem dX0_nextRow_6 : decode cX0_nextRow 6 = .ok (.isub, 1) := by decide +kernel
theorem dX0_nextRow_7 : decode cX0_nextRow 7 = .ok (.istore_n 3, 1) := by decide +kernel
theorem dX0_nextRow_8 : decode cX0_nextRow 8 = .ok (.iload_n 3, 1) := by decide +kernel
theorem dX0_nextRow_9 : decode cX0_nextRow 9 = .ok (.ifCond .lt 36, 3) := by decide +kernel
theorem dX0_nextRow_12 : decode cX0_nextRow 12 = .ok (.aload_n 0, 1) := by decide +kernel
theorem dX0_nextRow_13 : decode cX0_nextRow 13 = .ok (.getfield 11, 3) := by decide +kernel
theorem dX0_nextRow_16 : decode cX0_nextRow 16 = .ok (.iload_n 3, 1) := by decide +kernel
theorem dX0_nextRow_17 : decode cX0_nextRow 17 = .ok (.iaload, 1) := by decide +kernel
theorem dX0_nextRow_18 : decode cX0_nextRow 18 = .ok (.iconst 1, 1) := by decide +kernel
theorem dX0_nextRow_19 : decode cX0_nextRow 19 = .ok (.iadd, 1) := by decide +kernel
theorem dX0_nextRow_20 : decode cX0_nextRow 20 = .ok (.iload_n 1, 1) := by decide +kernel
theorem dX0_nextRow_21 : decode cX0_nextRow 21 = .ok (.if_icmp .ge 18, 3) := by decide +kernel
theorem dX0_nextRow_24 : decode cX0_nextRow 24 = .ok (.aload_n 0, 1) := by decide +kernel
theorem dX0_nextRow_25 : decode cX0_nextRow 25 = .ok (.iload_n 3, 1) := by decide +kernel
theorem dX0_nextRow_26 : decode cX0_nextRow 26 = .ok (.aload_n 0, 1) := by decide +kernel
theorem dX0_nextRow_27 : decode cX0_nextRow 27 = .ok (.getfield 11, 3) := by decide +kernel
theorem dX0_nextRow_30 : decode cX0_nextRow 30 = .ok (.iload_n 3, 1) := by decide +kernel
theorem dX0_nextRow_31 : decode cX0_nextRow 31 = .ok (.iaload, 1) := by decide +kernel
theorem dX0_nextRow_32 : decode cX0_nextRow 32 = .ok (.iconst 1, 1) := by decide +kernel
theorem dX0_nextRow_33 : decode cX0_nextRow 33 = .ok (.iadd, 1) := by decide +kernel
theorem dX0_nextRow_34 : decode cX0_nextRow 34 = .ok (.invokevirtual 52, 3) := by decide +kernel
theorem dX0_nextRow_37 : decode cX0_nextRow 37 = .ok (.iconst 1, 1) := by decide +kernel
theorem dX0_nextRow_38 : decode cX0_nextRow 38 = .ok (.ireturn, 1) := by decide +kernel
theorem dX0_nextRow_39 : decode cX0_nextRow 39 = .ok (.iinc 3 (-1), 3) := by decide +kernel
theorem dX0_nextRow_42 : decode cX0_nextRow 42 = .ok (.goto (-34), 3) := by decide +kernel
theorem dX0_nextRow_45 : decode cX0_nextRow 45 = .ok (.iconst 0, 1) := by decide +kernel
theorem dX0_nextRow_46 : decode cX0_nextRow 46 = .ok (.ireturn, 1) := by decide +kernel
theorem dX0_raiseFrom_0 : decode cX0_raiseFrom 0 = .ok (.iload_n 1, 1) := by decide +kernel
theorem dX0_raiseFrom_1 : decode cX0_raiseFrom 1 = .ok (.iconst 0, 1) := by decide +kernel
theorem dX0_raiseFrom_2 : decode cX0_raiseFrom 2 = .ok (.invokestatic 56, 3) := by decide +kernel
theorem dX0_raiseFrom_5 : decode cX0_raiseFrom 5 = .ok (.istore_n 3, 1) := by decide +kernel
theorem dX0_raiseFrom_6 : decode cX0_raiseFrom 6 = .ok (.iload_n 3, 1) := by decide +kernel
theorem dX0_raiseFrom_7 : decode cX0_raiseFrom 7 = .ok (.iconst 4, 1) := by decide +kernel
theorem dX0_raiseFrom_8 : decode cX0_raiseFrom 8 = .ok (.if_icmp .ge 16, 3) := by decide +kernel
theorem dX0_raiseFrom_11 : decode cX0_raiseFrom 11 = .ok (.aload_n 0, 1) := by decide +kernel
theorem dX0_raiseFrom_12 : decode cX0_raiseFrom 12 = .ok (.getfield 11, 3) := by decide +kernel
theorem dX0_raiseFrom_15 : decode cX0_raiseFrom 15 = .ok (.iload_n 3, 1) := by decide +kernel
theorem dX0_raiseFrom_16 : decode cX0_raiseFrom 16 = .ok (.iload_n 2, 1) := by decide +kernel
theorem dX0_raiseFrom_17 : decode cX0_raiseFrom 17 = .ok (.iastore, 1) := by decide +kernel
theorem dX0_raiseFrom_18 : decode cX0_raiseFrom 18 = .ok (.iinc 3 1, 3) := by decide +kernel
theorem dX0_raiseFrom_21 : decode cX0_raiseFrom 21 = .ok (.goto (-15), 3) := by decide +kernel
theorem dX0_raiseFrom_24 : decode cX0_raiseFrom 24 = .ok (.return_, 1) := by decide +kernel
theorem dX1_init_0 : decode cX1_init 0 = .ok (.aload_n 0, 1) := by decide +kernel
theorem dX1_init_1 : decode cX1_init 1 = .ok (.invokespecial 3, 3) := by decide +kernel
theorem dX1_init_4 : decode cX1_init 4 = .ok (.aload_n 0, 1) := by decide +kernel
theorem dX1_init_5 : decode cX1_init 5 = .ok (.bipush 25, 2) := by decide +kernel
theorem dX1_init_7 : decode cX1_init 7 = .ok (.newarray .long, 2) := by decide +kernel
theorem dX1_init_9 : decode cX1_init 9 = .ok (.putfield 9, 3) := by decide +kernel
theorem dX1_init_12 : decode cX1_init 12 = .ok (.aload_n 0, 1) := by decide +kernel
theorem dX1_init_13 : decode cX1_init 13 = .ok (.getfield 9, 3) := by decide +kernel
theorem dX1_init_16 : decode cX1_init 16 = .ok (.lconst 1, 1) := by decide +kernel
theorem dX1_init_17 : decode cX1_init 17 = .ok (.invokestatic 15, 3) := by decide +kernel
theorem dX1_init_20 : decode cX1_init 20 = .ok (.return_, 1) := by decide +kernel
theorem dX1_forgive_0 : decode cX1_forgive 0 = .ok (.aload_n 0, 1) := by decide +kernel
theorem dX1_forgive_1 : decode cX1_forgive 1 = .ok (.getfield 9, 3) := by decide +kernel
theorem dX1_forgive_4 : decode cX1_forgive 4 = .ok (.lconst 1, 1) := by decide +kernel
theorem dX1_forgive_5 : decode cX1_forgive 5 = .ok (.invokestatic 15, 3) := by decide +kernel
theorem dX1_forgive_8 : decode cX1_forgive 8 = .ok (.return_, 1) := by decide +kernel
theorem dX1_takeOver_0 : decode cX1_takeOver 0 = .ok (.aload_n 1, 1) := by decide +kernel
theorem dX1_takeOver_1 : decode cX1_takeOver 1 = .ok (.getfield 9, 3) := by decide +kernel
theorem dX1_takeOver_4 : decode cX1_takeOver 4 = .ok (.iconst 0, 1) := by decide +kernel
theorem dX1_takeOver_5 : decode cX1_takeOver 5 = .ok (.aload_n 0, 1) := by decide +kernel
theorem dX1_takeOver_6 : decode cX1_takeOver 6 = .ok (.getfield 9, 3) := by decide +kernel
theorem dX1_takeOver_9 : decode cX1_takeOver 9 = .ok (.iconst 0, 1) := by decide +kernel
theorem dX1_takeOver_10 : decode cX1_takeOver 10 = .ok (.aload_n 0, 1) := by decide +kernel
theorem dX1_takeOver_11 : decode cX1_takeOver 11 = .ok (.getfield 9, 3) := by decide +kernel
theorem dX1_takeOver_14 : decode cX1_takeOver 14 = .ok (.arraylength, 1) := by decide +kernel
theorem dX1_takeOver_15 : decode cX1_takeOver 15 = .ok (.invokestatic 21, 3) := by decide +kernel
theorem dX1_takeOver_18 : decode cX1_takeOver 18 = .ok (.return_, 1) := by decide +kernel
theorem dX1_isPair_0 : decode cX1_isPair 0 = .ok (.iload_n 0, 1) := by decide +kernel
theorem dX1_isPair_1 : decode cX1_isPair 1 = .ok (.ifCond .lt 21, 3) := by decide +kernel
theorem dX1_isPair_4 : decode cX1_isPair 4 = .ok (.iload_n 0, 1) := by decide +kernel
theorem dX1_isPair_5 : decode cX1_isPair 5 = .ok (.iconst 5, 1) := by decide +kernel
theorem dX1_isPair_6 : decode cX1_isPair 6 = .ok (.if_icmp .ge 16, 3) := by decide +kernel
theorem dX1_isPair_9 : decode cX1_isPair 9 = .ok (.iload_n 1, 1) := by decide +kernel
theorem dX1_isPair_10 : decode cX1_isPair 10 = .ok (.ifCond .lt 12, 3) := by decide +kernel
theorem dX1_isPair_13 : decode cX1_isPair 13 = .ok (.iload_n 1, 1) := by decide +kernel
theorem dX1_isPair_14 : decode cX1_isPair 14 = .ok (.iconst 5, 1) := by decide +kernel
theorem dX1_isPair_15 : decode cX1_isPair 15 = .ok (.if_icmp .ge 7, 3) := by decide +kernel
theorem dX1_isPair_18 : decode cX1_isPair 18 = .ok (.iconst 1, 1) := by decide +kernel
theorem dX1_isPair_19 : decode cX1_isPair 19 = .ok (.goto 4, 3) := by decide +kernel
theorem dX1_isPair_22 : decode cX1_isPair 22 = .ok (.iconst 0, 1) := by decide +kernel
theorem dX1_isPair_23 : decode cX1_isPair 23 = .ok (.ireturn, 1) := by decide +kernel
theorem dX1_of_0 : decode cX1_of 0 = .ok (.iload_n 1, 1) := by decide +kernel
theorem dX1_of_1 : decode cX1_of 1 = .ok (.iload_n 2, 1) := by decide +kernel
theorem dX1_of_2 : decode cX1_of 2 = .ok (.invokestatic 27, 3) := by decide +kernel
theorem dX1_of_5 : decode cX1_of 5 = .ok (.ifCond .eq 16, 3) := by decide +kernel
theorem dX1_of_8 : decode cX1_of 8 = .ok (.aload_n 0, 1) := by decide +kernel
theorem dX1_of_9 : decode cX1_of 9 = .ok (.getfield 9, 3) := by decide +kernel
theorem dX1_of_12 : decode cX1_of 12 = .ok (.iload_n 1, 1) := by decide +kernel
theorem dX1_of_13 : decode cX1_of 13 = .ok (.iconst 5, 1) := by decide +kernel
theorem dX1_of_14 : decode cX1_of 14 = .ok (.imul, 1) := by decide +kernel
theorem dX1_of_15 : decode cX1_of 15 = .ok (.iload_n 2, 1) := by decide +kernel
theorem dX1_of_16 : decode cX1_of 16 = .ok (.iadd, 1) := by decide +kernel
theorem dX1_of_17 : decode cX1_of 17 = .ok (.laload, 1) := by decide +kernel
theorem dX1_of_18 : decode cX1_of 18 = .ok (.goto 4, 3) := by decide +kernel
theorem dX1_of_21 : decode cX1_of 21 = .ok (.lconst 1, 1) := by decide +kernel
theorem dX1_of_22 : decode cX1_of 22 = .ok (.lreturn, 1) := by decide +kernel
theorem dX1_set_0 : decode cX1_set 0 = .ok (.iload_n 1, 1) := by decide +kernel
theorem dX1_set_1 : decode cX1_set 1 = .ok (.iload_n 2, 1) := by decide +kernel
theorem dX1_set_2 : decode cX1_set 2 = .ok (.invokestatic 27, 3) := by decide +kernel
theorem dX1_set_5 : decode cX1_set 5 = .ok (.ifCond .eq 14, 3) := by decide +kernel
theorem dX1_set_8 : decode cX1_set 8 = .ok (.aload_n 0, 1) := by decide +kernel
theorem dX1_set_9 : decode cX1_set 9 = .ok (.getfield 9, 3) := by decide +kernel
theorem dX1_set_12 : decode cX1_set 12 = .ok (.iload_n 1, 1) := by decide +kernel
theorem dX1_set_13 : decode cX1_set 13 = .ok (.iconst 5, 1) := by decide +kernel
theorem dX1_set_14 : decode cX1_set 14 = .ok (.imul, 1) := by decide +kernel
theorem dX1_set_15 : decode cX1_set 15 = .ok (.iload_n 2, 1) := by decide +kernel
theorem dX1_set_16 : decode cX1_set 16 = .ok (.iadd, 1) := by decide +kernel
theorem dX1_set_17 : decode cX1_set 17 = .ok (.lload_n 3, 1) := by decide +kernel
theorem dX1_set_18 : decode cX1_set 18 = .ok (.lastore, 1) := by decide +kernel
theorem dX1_set_19 : decode cX1_set 19 = .ok (.return_, 1) := by decide +kernel
theorem dX1_aboveOne_0 : decode cX1_aboveOne 0 = .ok (.iconst 0, 1) := by decide +kernel
theorem dX1_aboveOne_1 : decode cX1_aboveOne 1 = .ok (.istore_n 1, 1) := by decide +kernel
theorem dX1_aboveOne_2 : decode cX1_aboveOne 2 = .ok (.iconst 0, 1) := by decide +kernel
theorem dX1_aboveOne_3 : decode cX1_aboveOne 3 = .ok (.istore_n 2, 1) := by decide +kernel
theorem dX1_aboveOne_4 : decode cX1_aboveOne 4 = .ok (.iload_n 2, 1) := by decide +kernel
theorem dX1_aboveOne_5 : decode cX1_aboveOne 5 = .ok (.aload_n 0, 1) := by decide +kernel
theorem dX1_aboveOne_6 : decode cX1_aboveOne 6 = .ok (.getfield 9, 3) := by decide +kernel
theorem dX1_aboveOne_9 : decode cX1_aboveOne 9 = .ok (.arraylength, 1) := by decide +kernel
theorem dX1_aboveOne_10 : decode cX1_aboveOne 10 = .ok (.if_icmp .ge 23, 3) := by decide +kernel
theorem dX1_aboveOne_13 : decode cX1_aboveOne 13 = .ok (.aload_n 0, 1) := by decide +kernel
theorem dX1_aboveOne_14 : decode cX1_aboveOne 14 = .ok (.getfield 9, 3) := by decide +kernel
theorem dX1_aboveOne_17 : decode cX1_aboveOne 17 = .ok (.iload_n 2, 1) := by decide +kernel
theorem dX1_aboveOne_18 : decode cX1_aboveOne 18 = .ok (.laload, 1) := by decide +kernel
theorem dX1_aboveOne_19 : decode cX1_aboveOne 19 = .ok (.lconst 1, 1) := by decide +kernel
theorem dX1_aboveOne_20 : decode cX1_aboveOne 20 = .ok (.lcmp, 1) := by decide +kernel
theorem dX1_aboveOne_21 : decode cX1_aboveOne 21 = .ok (.ifCond .le 6, 3) := by decide +kernel
theorem dX1_aboveOne_24 : decode cX1_aboveOne 24 = .ok (.iinc 1 1, 3) := by decide +kernel
theorem dX1_aboveOne_27 : decode cX1_aboveOne 27 = .ok (.iinc 2 1, 3) := by decide +kernel
theorem dX1_aboveOne_30 : decode cX1_aboveOne 30 = .ok (.goto (-26), 3) := by decide +kernel
theorem dX1_aboveOne_33 : decode cX1_aboveOne 33 = .ok (.iload_n 1, 1) := by decide +kernel
theorem dX1_aboveOne_34 : decode cX1_aboveOne 34 = .ok (.ireturn, 1) := by decide +kernel
theorem dX1_strikeAll_0 : decode cX1_strikeAll 0 = .ok (.iconst 0, 1) := by decide +kernel
theorem dX1_strikeAll_1 : decode cX1_strikeAll 1 = .ok (.istore_n 1, 1) := by decide +kernel
theorem dX1_strikeAll_2 : decode cX1_strikeAll 2 = .ok (.iconst 0, 1) := by decide +kernel
theorem dX1_strikeAll_3 : decode cX1_strikeAll 3 = .ok (.istore_n 2, 1) := by decide +kernel
theorem dX1_strikeAll_4 : decode cX1_strikeAll 4 = .ok (.iload_n 2, 1) := by decide +kernel
theorem dX1_strikeAll_5 : decode cX1_strikeAll 5 = .ok (.sipush 10000, 3) := by decide +kernel
theorem dX1_strikeAll_8 : decode cX1_strikeAll 8 = .ok (.if_icmp .ge 26, 3) := by decide +kernel
theorem dX1_strikeAll_11 : decode cX1_strikeAll 11 = .ok (.aload_n 0, 1) := by decide +kernel
theorem dX1_strikeAll_12 : decode cX1_strikeAll 12 = .ok (.invokevirtual 31, 3) := by decide +kernel
theorem dX1_strikeAll_15 : decode cX1_strikeAll 15 = .ok (.ifCond .ne 10, 3) := by decide +kernel
theorem dX1_strikeAll_18 : decode cX1_strikeAll 18 = .ok (.aload_n 0, 1) := by decide +kernel
theorem dX1_strikeAll_19 : decode cX1_strikeAll 19 = .ok (.invokevirtual 35, 3) := by decide +kernel
theorem dX1_strikeAll_22 : decode cX1_strikeAll 22 = .ok (.ifCond .eq 12, 3) := by decide +kernel
theorem dX1_strikeAll_25 : decode cX1_strikeAll 25 = .ok (.iinc 1 1, 3) := by decide +kernel
theorem dX1_strikeAll_28 : decode cX1_strikeAll 28 = .ok (.iinc 2 1, 3) := by decide +kernel
theorem dX1_strikeAll_31 : decode cX1_strikeAll 31 = .ok (.goto (-27), 3) := by decide +kernel
theorem dX1_strikeAll_34 : decode cX1_strikeAll 34 = .ok (.iload_n 1, 1) := by decide +kernel
theorem dX1_strikeAll_35 : decode cX1_strikeAll 35 = .ok (.ireturn, 1) := by decide +kernel
theorem dX1_strikeTwo_0 : decode cX1_strikeTwo 0 = .ok (.iconst 0, 1) := by decide +kernel
theorem dX1_strikeTwo_1 : decode cX1_strikeTwo 1 = .ok (.istore_n 1, 1) := by decide +kernel
theorem dX1_strikeTwo_2 : decode cX1_strikeTwo 2 = .ok (.iload_n 1, 1) := by decide +kernel
theorem dX1_strikeTwo_3 : decode cX1_strikeTwo 3 = .ok (.iconst 5, 1) := by decide +kernel
theorem dX1_strikeTwo_4 : decode cX1_strikeTwo 4 = .ok (.if_icmp .ge 62, 3) := by decide +kernel
theorem dX1_strikeTwo_7 : decode cX1_strikeTwo 7 = .ok (.iload_n 1, 1) := by decide +kernel
theorem dX1_strikeTwo_8 : decode cX1_strikeTwo 8 = .ok (.iconst 1, 1) := by decide +kernel
theorem dX1_strikeTwo_9 : decode cX1_strikeTwo 9 = .ok (.iadd, 1) := by decide +kernel
theorem dX1_strikeTwo_10 : decode cX1_strikeTwo 10 = .ok (.istore_n 2, 1) := by decide +kernel
theorem dX1_strikeTwo_11 : decode cX1_strikeTwo 11 = .ok (.iload_n 2, 1) := by decide +kernel
theorem dX1_strikeTwo_12 : decode cX1_strikeTwo 12 = .ok (.iconst 5, 1) := by decide +kernel
theorem dX1_strikeTwo_13 : decode cX1_strikeTwo 13 = .ok (.if_icmp .ge 47, 3) := by decide +kernel
theorem dX1_strikeTwo_16 : decode cX1_strikeTwo 16 = .ok (.aload_n 0, 1) := by decide +kernel
theorem dX1_strikeTwo_17 : decode cX1_strikeTwo 17 = .ok (.iload_n 1, 1) := by decide +kernel
theorem dX1_strikeTwo_18 : decode cX1_strikeTwo 18 = .ok (.iload_n 2, 1) := by decide +kernel
theorem dX1_strikeTwo_19 : decode cX1_strikeTwo 19 = .ok (.invokevirtual 38, 3) := by decide +kernel
theorem dX1_strikeTwo_22 : decode cX1_strikeTwo 22 = .ok (.aload_n 0, 1) := by decide +kernel
theorem dX1_strikeTwo_23 : decode cX1_strikeTwo 23 = .ok (.iload_n 2, 1) := by decide +kernel
theorem dX1_strikeTwo_24 : decode cX1_strikeTwo 24 = .ok (.iload_n 1, 1) := by decide +kernel
theorem dX1_strikeTwo_25 : decode cX1_strikeTwo 25 = .ok (.invokevirtual 38, 3) := by decide +kernel
theorem dX1_strikeTwo_28 : decode cX1_strikeTwo 28 = .ok (.invokestatic 42, 3) := by decide +kernel
theorem dX1_strikeTwo_31 : decode cX1_strikeTwo 31 = .ok (.lstore_n 3, 1) := by decide +kernel
theorem dX1_strikeTwo_32 : decode cX1_strikeTwo 32 = .ok (.lload_n 3, 1) := by decide +kernel
theorem dX1_strikeTwo_33 : decode cX1_strikeTwo 33 = .ok (.lconst 1, 1) := by decide +kernel
theorem dX1_strikeTwo_34 : decode cX1_strikeTwo 34 = .ok (.lcmp, 1) := by decide +kernel
theorem dX1_strikeTwo_35 : decode cX1_strikeTwo 35 = .ok (.ifCond .le 19, 3) := by decide +kernel
theorem dX1_strikeTwo_38 : decode cX1_strikeTwo 38 = .ok (.aload_n 0, 1) := by decide +kernel
theorem dX1_strikeTwo_39 : decode cX1_strikeTwo 39 = .ok (.iload_n 1, 1) := by decide +kernel
theorem dX1_strikeTwo_40 : decode cX1_strikeTwo 40 = .ok (.iload_n 2, 1) := by decide +kernel
theorem dX1_strikeTwo_41 : decode cX1_strikeTwo 41 = .ok (.lload_n 3, 1) := by decide +kernel
theorem dX1_strikeTwo_42 : decode cX1_strikeTwo 42 = .ok (.invokevirtual 48, 3) := by decide +kernel
theorem dX1_strikeTwo_45 : decode cX1_strikeTwo 45 = .ok (.aload_n 0, 1) := by decide +kernel
theorem dX1_strikeTwo_46 : decode cX1_strikeTwo 46 = .ok (.iload_n 2, 1) := by decide +kernel
theorem dX1_strikeTwo_47 : decode cX1_strikeTwo 47 = .ok (.iload_n 1, 1) := by decide +kernel
theorem dX1_strikeTwo_48 : decode cX1_strikeTwo 48 = .ok (.lload_n 3, 1) := by decide +kernel
theorem dX1_strikeTwo_49 : decode cX1_strikeTwo 49 = .ok (.invokevirtual 48, 3) := by decide +kernel
theorem dX1_strikeTwo_52 : decode cX1_strikeTwo 52 = .ok (.iconst 1, 1) := by decide +kernel
theorem dX1_strikeTwo_53 : decode cX1_strikeTwo 53 = .ok (.ireturn, 1) := by decide +kernel
theorem dX1_strikeTwo_54 : decode cX1_strikeTwo 54 = .ok (.iinc 2 1, 3) := by decide +kernel
theorem dX1_strikeTwo_57 : decode cX1_strikeTwo 57 = .ok (.goto (-46), 3) := by decide +kernel
theorem dX1_strikeTwo_60 : decode cX1_strikeTwo 60 = .ok (.iinc 1 1, 3) := by decide +kernel
theorem dX1_strikeTwo_63 : decode cX1_strikeTwo 63 = .ok (.goto (-61), 3) := by decide +kernel
theorem dX1_strikeTwo_66 : decode cX1_strikeTwo 66 = .ok (.iconst 0, 1) := by decide +kernel
theorem dX1_strikeTwo_67 : decode cX1_strikeTwo 67 = .ok (.ireturn, 1) := by decide +kernel
theorem dX1_strikeThree_0 : decode cX1_strikeThree 0 = .ok (.iconst 0, 1) := by decide +kernel
theorem dX1_strikeThree_1 : decode cX1_strikeThree 1 = .ok (.istore_n 1, 1) := by decide +kernel
theorem dX1_strikeThree_2 : decode cX1_strikeThree 2 = .ok (.iload_n 1, 1) := by decide +kernel
theorem dX1_strikeThree_3 : decode cX1_strikeThree 3 = .ok (.iconst 5, 1) := by decide +kernel
theorem dX1_strikeThree_4 : decode cX1_strikeThree 4 = .ok (.if_icmp .ge 56, 3) := by decide +kernel
theorem dX1_strikeThree_7 : decode cX1_strikeThree 7 = .ok (.iload_n 1, 1) := by decide +kernel
theorem dX1_strikeThree_8 : decode cX1_strikeThree 8 = .ok (.iconst 1, 1) := by decide +kernel
theorem dX1_strikeThree_9 : decode cX1_strikeThree 9 = .ok (.iadd, 1) := by decide +kernel
theorem dX1_strikeThree_10 : decode cX1_strikeThree 10 = .ok (.istore_n 2, 1) := by decide +kernel
theorem dX1_strikeThree_11 : decode cX1_strikeThree 11 = .ok (.iload_n 2, 1) := by decide +kernel
theorem dX1_strikeThree_12 : decode cX1_strikeThree 12 = .ok (.iconst 5, 1) := by decide +kernel
theorem dX1_strikeThree_13 : decode cX1_strikeThree 13 = .ok (.if_icmp .ge 41, 3) := by decide +kernel
theorem dX1_strikeThree_16 : decode cX1_strikeThree 16 = .ok (.iload_n 1, 1) := by decide +kernel
theorem dX1_strikeThree_17 : decode cX1_strikeThree 17 = .ok (.iconst 1, 1) := by decide +kernel
theorem dX1_strikeThree_18 : decode cX1_strikeThree 18 = .ok (.iadd, 1) := by decide +kernel
theorem dX1_strikeThree_19 : decode cX1_strikeThree 19 = .ok (.istore_n 3, 1) := by decide +kernel
theorem dX1_strikeThree_20 : decode cX1_strikeThree 20 = .ok (.iload_n 3, 1) := by decide +kernel
theorem dX1_strikeThree_21 : decode cX1_strikeThree 21 = .ok (.iconst 5, 1) := by decide +kernel
theorem dX1_strikeThree_22 : decode cX1_strikeThree 22 = .ok (.if_icmp .ge 26, 3) := by decide +kernel
theorem dX1_strikeThree_25 : decode cX1_strikeThree 25 = .ok (.iload_n 3, 1) := by decide +kernel
theorem dX1_strikeThree_26 : decode cX1_strikeThree 26 = .ok (.iload_n 2, 1) := by decide +kernel
theorem dX1_strikeThree_27 : decode cX1_strikeThree 27 = .ok (.if_icmp .eq 15, 3) := by decide +kernel
theorem dX1_strikeThree_30 : decode cX1_strikeThree 30 = .ok (.aload_n 0, 1) := by decide +kernel
theorem dX1_strikeThree_31 : decode cX1_strikeThree 31 = .ok (.iload_n 1, 1) := by decide +kernel
theorem dX1_strikeThree_32 : decode cX1_strikeThree 32 = .ok (.iload_n 2, 1) := by decide +kernel
theorem dX1_strikeThree_33 : decode cX1_strikeThree 33 = .ok (.iload_n 3, 1) := by decide +kernel
theorem dX1_strikeThree_34 : decode cX1_strikeThree 34 = .ok (.invokevirtual 52, 3) := by decide +kernel
theorem dX1_strikeThree_37 : decode cX1_strikeThree 37 = .ok (.ifCond .eq 5, 3) := by decide +kernel
theorem dX1_strikeThree_40 : decode cX1_strikeThree 40 = .ok (.iconst 1, 1) := by decide +kernel
theorem dX1_strikeThree_41 : decode cX1_strikeThree 41 = .ok (.ireturn, 1) := by decide +kernel
theorem dX1_strikeThree_42 : decode cX1_strikeThree 42 = .ok (.iinc 3 1, 3) := by decide +kernel
theorem dX1_strikeThree_45 : decode cX1_strikeThree 45 = .ok (.goto (-25), 3) := by decide +kernel
theorem dX1_strikeThree_48 : decode cX1_strikeThree 48 = .ok (.iinc 2 1, 3) := by decide +kernel
theorem dX1_strikeThree_51 : decode cX1_strikeThree 51 = .ok (.goto (-40), 3) := by decide +kernel
theorem dX1_strikeThree_54 : decode cX1_strikeThree 54 = .ok (.iinc 1 1, 3) := by decide +kernel
theorem dX1_strikeThree_57 : decode cX1_strikeThree 57 = .ok (.goto (-55), 3) := by decide +kernel
theorem dX1_strikeThree_60 : decode cX1_strikeThree 60 = .ok (.iconst 0, 1) := by decide +kernel
theorem dX1_strikeThree_61 : decode cX1_strikeThree 61 = .ok (.ireturn, 1) := by decide +kernel
theorem dX1_strikeRing_0 : decode cX1_strikeRing 0 = .ok (.aload_n 0, 1) := by decide +kernel
theorem dX1_strikeRing_1 : decode cX1_strikeRing 1 = .ok (.iload_n 1, 1) := by decide +kernel
theorem dX1_strikeRing_2 : decode cX1_strikeRing 2 = .ok (.iload_n 2, 1) := by decide +kernel
theorem dX1_strikeRing_3 : decode cX1_strikeRing 3 = .ok (.invokevirtual 38, 3) := by decide +kernel
theorem dX1_strikeRing_6 : decode cX1_strikeRing 6 = .ok (.aload_n 0, 1) := by decide +kernel
theorem dX1_strikeRing_7 : decode cX1_strikeRing 7 = .ok (.iload_n 2, 1) := by decide +kernel
theorem dX1_strikeRing_8 : decode cX1_strikeRing 8 = .ok (.iload_n 3, 1) := by decide +kernel
theorem dX1_strikeRing_9 : decode cX1_strikeRing 9 = .ok (.invokevirtual 38, 3) := by decide +kernel
theorem dX1_strikeRing_12 : decode cX1_strikeRing 12 = .ok (.invokestatic 42, 3) := by decide +kernel
theorem dX1_strikeRing_15 : decode cX1_strikeRing 15 = .ok (.aload_n 0, 1) := by decide +kernel
theorem dX1_strikeRing_16 : decode cX1_strikeRing 16 = .ok (.iload_n 3, 1) := by decide +kernel
theorem dX1_strikeRing_17 : decode cX1_strikeRing 17 = .ok (.iload_n 1, 1) := by decide +kernel
theorem dX1_strikeRing_18 : decode cX1_strikeRing 18 = .ok (.invokevirtual 38, 3) := by decide +kernel
theorem dX1_strikeRing_21 : decode cX1_strikeRing 21 = .ok (.invokestatic 42, 3) := by decide +kernel
theorem dX1_strikeRing_24 : decode cX1_strikeRing 24 = .ok (.lstore 4, 2) := by decide +kernel
theorem dX1_strikeRing_26 : decode cX1_strikeRing 26 = .ok (.lload 4, 2) := by decide +kernel
theorem dX1_strikeRing_28 : decode cX1_strikeRing 28 = .ok (.ldc2_w 56, 3) := by decide +kernel
theorem dX1_strikeRing_31 : decode cX1_strikeRing 31 = .ok (.lcmp, 1) := by decide +kernel
theorem dX1_strikeRing_32 : decode cX1_strikeRing 32 = .ok (.ifCond .ge 5, 3) := by decide +kernel
theorem dX1_strikeRing_35 : decode cX1_strikeRing 35 = .ok (.iconst 0, 1) := by decide +kernel
theorem dX1_strikeRing_36 : decode cX1_strikeRing 36 = .ok (.ireturn, 1) := by decide +kernel
theorem dX1_strikeRing_37 : decode cX1_strikeRing 37 = .ok (.aload_n 0, 1) := by decide +kernel
theorem dX1_strikeRing_38 : decode cX1_strikeRing 38 = .ok (.iload_n 1, 1) := by decide +kernel
theorem dX1_strikeRing_39 : decode cX1_strikeRing 39 = .ok (.iload_n 2, 1) := by decide +kernel
theorem dX1_strikeRing_40 : decode cX1_strikeRing 40 = .ok (.lload 4, 2) := by decide +kernel
theorem dX1_strikeRing_42 : decode cX1_strikeRing 42 = .ok (.invokevirtual 48, 3) := by decide +kernel
theorem dX1_strikeRing_45 : decode cX1_strikeRing 45 = .ok (.aload_n 0, 1) := by decide +kernel
theorem dX1_strikeRing_46 : decode cX1_strikeRing 46 = .ok (.iload_n 2, 1) := by decide +kernel
theorem dX1_strikeRing_47 : decode cX1_strikeRing 47 = .ok (.iload_n 3, 1) := by decide +kernel
theorem dX1_strikeRing_48 : decode cX1_strikeRing 48 = .ok (.lload 4, 2) := by decide +kernel
theorem dX1_strikeRing_50 : decode cX1_strikeRing 50 = .ok (.invokevirtual 48, 3) := by decide +kernel
theorem dX1_strikeRing_53 : decode cX1_strikeRing 53 = .ok (.aload_n 0, 1) := by decide +kernel
theorem dX1_strikeRing_54 : decode cX1_strikeRing 54 = .ok (.iload_n 3, 1) := by decide +kernel
theorem dX1_strikeRing_55 : decode cX1_strikeRing 55 = .ok (.iload_n 1, 1) := by decide +kernel
theorem dX1_strikeRing_56 : decode cX1_strikeRing 56 = .ok (.lload 4, 2) := by decide +kernel
theorem dX1_strikeRing_58 : decode cX1_strikeRing 58 = .ok (.invokevirtual 48, 3) := by decide +kernel
theorem dX1_strikeRing_61 : decode cX1_strikeRing 61 = .ok (.iconst 1, 1) := by decide +kernel
theorem dX1_strikeRing_62 : decode cX1_strikeRing 62 = .ok (.ireturn, 1) := by decide +kernel
theorem dX1_divide_0 : decode cX1_divide 0 = .ok (.lload_n 3, 1) := by decide +kernel
theorem dX1_divide_1 : decode cX1_divide 1 = .ok (.lconst 1, 1) := by decide +kernel
theorem dX1_divide_2 : decode cX1_divide 2 = .ok (.lcmp, 1) := by decide +kernel
theorem dX1_divide_3 : decode cX1_divide 3 = .ok (.ifCond .le 17, 3) := by decide +kernel
theorem dX1_divide_6 : decode cX1_divide 6 = .ok (.aload_n 0, 1) := by decide +kernel
theorem dX1_divide_7 : decode cX1_divide 7 = .ok (.iload_n 1, 1) := by decide +kernel
theorem dX1_divide_8 : decode cX1_divide 8 = .ok (.iload_n 2, 1) := by decide +kernel
theorem dX1_divide_9 : decode cX1_divide 9 = .ok (.aload_n 0, 1) := by decide +kernel
theorem dX1_divide_10 : decode cX1_divide 10 = .ok (.iload_n 1, 1) := by decide +kernel
theorem dX1_divide_11 : decode cX1_divide 11 = .ok (.iload_n 2, 1) := by decide +kernel
theorem dX1_divide_12 : decode cX1_divide 12 = .ok (.invokevirtual 38, 3) := by decide +kernel
theorem dX1_divide_15 : decode cX1_divide 15 = .ok (.lload_n 3, 1) := by decide +kernel
theorem dX1_divide_16 : decode cX1_divide 16 = .ok (.ldiv, 1) := by decide +kernel
theorem dX1_divide_17 : decode cX1_divide 17 = .ok (.invokevirtual 58, 3) := by decide +kernel
theorem dX1_divide_20 : decode cX1_divide 20 = .ok (.return_, 1) := by decide +kernel
theorem dX2_init_0 : decode cX2_init 0 = .ok (.aload_n 0, 1) := by decide +kernel
theorem dX2_init_1 : decode cX2_init 1 = .ok (.invokespecial 1, 3) := by decide +kernel
theorem dX2_init_4 : decode cX2_init 4 = .ok (.aload_n 0, 1) := by decide +kernel
theorem dX2_init_5 : decode cX2_init 5 = .ok (.iconst 0, 1) := by decide +kernel
theorem dX2_init_6 : decode cX2_init 6 = .ok (.putfield 7, 3) := by decide +kernel
theorem dX2_init_9 : decode cX2_init 9 = .ok (.return_, 1) := by decide +kernel
theorem dX2_below_0 : decode cX2_below 0 = .ok (.aload_n 0, 1) := by decide +kernel
theorem dX2_below_1 : decode cX2_below 1 = .ok (.ldc 13, 2) := by decide +kernel
theorem dX2_below_3 : decode cX2_below 3 = .ok (.aload_n 0, 1) := by decide +kernel
theorem dX2_below_4 : decode cX2_below 4 = .ok (.getfield 7, 3) := by decide +kernel
theorem dX2_below_7 : decode cX2_below 7 = .ok (.imul, 1) := by decide +kernel
theorem dX2_below_8 : decode cX2_below 8 = .ok (.sipush 12345, 3) := by decide +kernel
theorem dX2_below_11 : decode cX2_below 11 = .ok (.iadd, 1) := by decide +kernel
theorem dX2_below_12 : decode cX2_below 12 = .ok (.putfield 7, 3) := by decide +kernel
theorem dX2_below_15 : decode cX2_below 15 = .ok (.iload_n 1, 1) := by decide +kernel
theorem dX2_below_16 : decode cX2_below 16 = .ok (.ifCond .le 15, 3) := by decide +kernel
theorem dX2_below_19 : decode cX2_below 19 = .ok (.aload_n 0, 1) := by decide +kernel
theorem dX2_below_20 : decode cX2_below 20 = .ok (.getfield 7, 3) := by decide +kernel
theorem dX2_below_23 : decode cX2_below 23 = .ok (.bipush 16, 2) := by decide +kernel
theorem dX2_below_25 : decode cX2_below 25 = .ok (.iushr, 1) := by decide +kernel
theorem dX2_below_26 : decode cX2_below 26 = .ok (.iload_n 1, 1) := by decide +kernel
theorem dX2_below_27 : decode cX2_below 27 = .ok (.irem, 1) := by decide +kernel
theorem dX2_below_28 : decode cX2_below 28 = .ok (.goto 4, 3) := by decide +kernel
theorem dX2_below_31 : decode cX2_below 31 = .ok (.iconst 0, 1) := by decide +kernel
theorem dX2_below_32 : decode cX2_below 32 = .ok (.ireturn, 1) := by decide +kernel
theorem dX3_isSmallPrime_0 : decode cX3_isSmallPrime 0 = .ok (.iconst 0, 1) := by decide +kernel
theorem dX3_isSmallPrime_1 : decode cX3_isSmallPrime 1 = .ok (.istore_n 1, 1) := by decide +kernel
theorem dX3_isSmallPrime_2 : decode cX3_isSmallPrime 2 = .ok (.iload_n 1, 1) := by decide +kernel
theorem dX3_isSmallPrime_3 : decode cX3_isSmallPrime 3 = .ok (.getstatic 9, 3) := by decide +kernel
theorem dX3_isSmallPrime_6 : decode cX3_isSmallPrime 6 = .ok (.arraylength, 1) := by decide +kernel
theorem dX3_isSmallPrime_7 : decode cX3_isSmallPrime 7 = .ok (.if_icmp .ge 20, 3) := by decide +kernel
theorem dX3_isSmallPrime_10 : decode cX3_isSmallPrime 10 = .ok (.getstatic 9, 3) := by decide +kernel
theorem dX3_isSmallPrime_13 : decode cX3_isSmallPrime 13 = .ok (.iload_n 1, 1) := by decide +kernel
theorem dX3_isSmallPrime_14 : decode cX3_isSmallPrime 14 = .ok (.iaload, 1) := by decide +kernel
theorem dX3_isSmallPrime_15 : decode cX3_isSmallPrime 15 = .ok (.iload_n 0, 1) := by decide +kernel
theorem dX3_isSmallPrime_16 : decode cX3_isSmallPrime 16 = .ok (.if_icmp .ne 5, 3) := by decide +kernel
theorem dX3_isSmallPrime_19 : decode cX3_isSmallPrime 19 = .ok (.iconst 1, 1) := by decide +kernel
theorem dX3_isSmallPrime_20 : decode cX3_isSmallPrime 20 = .ok (.ireturn, 1) := by decide +kernel
theorem dX3_isSmallPrime_21 : decode cX3_isSmallPrime 21 = .ok (.iinc 1 1, 3) := by decide +kernel
theorem dX3_isSmallPrime_24 : decode cX3_isSmallPrime 24 = .ok (.goto (-22), 3) := by decide +kernel
theorem dX3_isSmallPrime_27 : decode cX3_isSmallPrime 27 = .ok (.iconst 0, 1) := by decide +kernel
theorem dX3_isSmallPrime_28 : decode cX3_isSmallPrime 28 = .ok (.ireturn, 1) := by decide +kernel
theorem dX3_commonFactor_0 : decode cX3_commonFactor 0 = .ok (.lload_n 0, 1) := by decide +kernel
theorem dX3_commonFactor_1 : decode cX3_commonFactor 1 = .ok (.lstore 4, 2) := by decide +kernel
theorem dX3_commonFactor_3 : decode cX3_commonFactor 3 = .ok (.lload_n 2, 1) := by decide +kernel
theorem dX3_commonFactor_4 : decode cX3_commonFactor 4 = .ok (.lstore 6, 2) := by decide +kernel
theorem dX3_commonFactor_6 : decode cX3_commonFactor 6 = .ok (.iconst 0, 1) := by decide +kernel
theorem dX3_commonFactor_7 : decode cX3_commonFactor 7 = .ok (.istore 8, 2) := by decide +kernel
theorem dX3_commonFactor_9 : decode cX3_commonFactor 9 = .ok (.iload 8, 2) := by decide +kernel
theorem dX3_commonFactor_11 : decode cX3_commonFactor 11 = .ok (.bipush 100, 2) := by decide +kernel
theorem dX3_commonFactor_13 : decode cX3_commonFactor 13 = .ok (.if_icmp .ge 31, 3) := by decide +kernel
theorem dX3_commonFactor_16 : decode cX3_commonFactor 16 = .ok (.lload 6, 2) := by decide +kernel
theorem dX3_commonFactor_18 : decode cX3_commonFactor 18 = .ok (.lconst 0, 1) := by decide +kernel
theorem dX3_commonFactor_19 : decode cX3_commonFactor 19 = .ok (.lcmp, 1) := by decide +kernel
theorem dX3_commonFactor_20 : decode cX3_commonFactor 20 = .ok (.ifCond .eq 24, 3) := by decide +kernel
theorem dX3_commonFactor_23 : decode cX3_commonFactor 23 = .ok (.lload 4, 2) := by decide +kernel
theorem dX3_commonFactor_25 : decode cX3_commonFactor 25 = .ok (.lload 6, 2) := by decide +kernel
theorem dX3_commonFactor_27 : decode cX3_commonFactor 27 = .ok (.lrem, 1) := by decide +kernel
theorem dX3_commonFactor_28 : decode cX3_commonFactor 28 = .ok (.lstore 9, 2) := by decide +kernel
theorem dX3_commonFactor_30 : decode cX3_commonFactor 30 = .ok (.lload 6, 2) := by decide +kernel
theorem dX3_commonFactor_32 : decode cX3_commonFactor 32 = .ok (.lstore 4, 2) := by decide +kernel
theorem dX3_commonFactor_34 : decode cX3_commonFactor 34 = .ok (.lload 9, 2) := by decide +kernel
theorem dX3_commonFactor_36 : decode cX3_commonFactor 36 = .ok (.lstore 6, 2) := by decide +kernel
theorem dX3_commonFactor_38 : decode cX3_commonFactor 38 = .ok (.iinc 8 1, 3) := by decide +kernel
theorem dX3_commonFactor_41 : decode cX3_commonFactor 41 = .ok (.goto (-32), 3) := by decide +kernel
theorem dX3_commonFactor_44 : decode cX3_commonFactor 44 = .ok (.lload 4, 2) := by decide +kernel
theorem dX3_commonFactor_46 : decode cX3_commonFactor 46 = .ok (.lreturn, 1) := by decide +kernel
theorem dX3_whole_0 : decode cX3_whole 0 = .ok (.lconst 1, 1) := by decide +kernel
theorem dX3_whole_1 : decode cX3_whole 1 = .ok (.lstore_n 2, 1) := by decide +kernel
theorem dX3_whole_2 : decode cX3_whole 2 = .ok (.iconst 0, 1) := by decide +kernel
theorem dX3_whole_3 : decode cX3_whole 3 = .ok (.istore 4, 2) := by decide +kernel
theorem dX3_whole_5 : decode cX3_whole 5 = .ok (.iload 4, 2) := by decide +kernel
theorem dX3_whole_7 : decode cX3_whole 7 = .ok (.iload_n 1, 1) := by decide +kernel
theorem dX3_whole_8 : decode cX3_whole 8 = .ok (.if_icmp .ge 14, 3) := by decide +kernel
theorem dX3_whole_11 : decode cX3_whole 11 = .ok (.lload_n 2, 1) := by decide +kernel
theorem dX3_whole_12 : decode cX3_whole 12 = .ok (.iload_n 0, 1) := by decide +kernel
theorem dX3_whole_13 : decode cX3_whole 13 = .ok (.i2l, 1) := by decide +kernel
theorem dX3_whole_14 : decode cX3_whole 14 = .ok (.lmul, 1) := by decide +kernel
theorem dX3_whole_15 : decode cX3_whole 15 = .ok (.lstore_n 2, 1) := by decide +kernel
theorem dX3_whole_16 : decode cX3_whole 16 = .ok (.iinc 4 1, 3) := by decide +kernel
theorem dX3_whole_19 : decode cX3_whole 19 = .ok (.goto (-14), 3) := by decide +kernel
theorem dX3_whole_22 : decode cX3_whole 22 = .ok (.lload_n 2, 1) := by decide +kernel
theorem dX3_whole_23 : decode cX3_whole 23 = .ok (.lreturn, 1) := by decide +kernel
theorem dX3_power_0 : decode cX3_power 0 = .ok (.lload_n 3, 1) := by decide +kernel
theorem dX3_power_1 : decode cX3_power 1 = .ok (.lconst 1, 1) := by decide +kernel
theorem dX3_power_2 : decode cX3_power 2 = .ok (.lcmp, 1) := by decide +kernel
theorem dX3_power_3 : decode cX3_power 3 = .ok (.ifCond .ge 5, 3) := by decide +kernel
theorem dX3_power_6 : decode cX3_power 6 = .ok (.lconst 0, 1) := by decide +kernel
theorem dX3_power_7 : decode cX3_power 7 = .ok (.lreturn, 1) := by decide +kernel
theorem dX3_power_8 : decode cX3_power 8 = .ok (.lconst 1, 1) := by decide +kernel
theorem dX3_power_9 : decode cX3_power 9 = .ok (.lload_n 3, 1) := by decide +kernel
theorem dX3_power_10 : decode cX3_power 10 = .ok (.lrem, 1) := by decide +kernel
theorem dX3_power_11 : decode cX3_power 11 = .ok (.lstore 5, 2) := by decide +kernel
theorem dX3_power_13 : decode cX3_power 13 = .ok (.lload_n 0, 1) := by decide +kernel
theorem dX3_power_14 : decode cX3_power 14 = .ok (.lload_n 3, 1) := by decide +kernel
theorem dX3_power_15 : decode cX3_power 15 = .ok (.lrem, 1) := by decide +kernel
theorem dX3_power_16 : decode cX3_power 16 = .ok (.lstore 7, 2) := by decide +kernel
theorem dX3_power_18 : decode cX3_power 18 = .ok (.iload_n 2, 1) := by decide +kernel
theorem dX3_power_19 : decode cX3_power 19 = .ok (.istore 9, 2) := by decide +kernel
theorem dX3_power_21 : decode cX3_power 21 = .ok (.iconst 0, 1) := by decide +kernel
theorem dX3_power_22 : decode cX3_power 22 = .ok (.istore 10, 2) := by decide +kernel
theorem dX3_power_24 : decode cX3_power 24 = .ok (.iload 10, 2) := by decide +kernel
theorem dX3_power_26 : decode cX3_power 26 = .ok (.bipush 32, 2) := by decide +kernel
theorem dX3_power_28 : decode cX3_power 28 = .ok (.if_icmp .ge 46, 3) := by decide +kernel
theorem dX3_power_31 : decode cX3_power 31 = .ok (.iload 9, 2) := by decide +kernel
theorem dX3_power_33 : decode cX3_power 33 = .ok (.ifCond .le 41, 3) := by decide +kernel
theorem dX3_power_36 : decode cX3_power 36 = .ok (.iload 9, 2) := by decide +kernel
theorem dX3_power_38 : decode cX3_power 38 = .ok (.iconst 2, 1) := by decide +kernel
theorem dX3_power_39 : decode cX3_power 39 = .ok (.irem, 1) := by decide +kernel
theorem dX3_power_40 : decode cX3_power 40 = .ok (.iconst 1, 1) := by decide +kernel
theorem dX3_power_41 : decode cX3_power 41 = .ok (.if_icmp .ne 12, 3) := by decide +kernel
theorem dX3_power_44 : decode cX3_power 44 = .ok (.lload 5, 2) := by decide +kernel
theorem dX3_power_46 : decode cX3_power 46 = .ok (.lload 7, 2) := by decide +kernel
theorem dX3_power_48 : decode cX3_power 48 = .ok (.lmul, 1) := by decide +kernel
theorem dX3_power_49 : decode cX3_power 49 = .ok (.lload_n 3, 1) := by decide +kernel
theorem dX3_power_50 : decode cX3_power 50 = .ok (.lrem, 1) := by decide +kernel
theorem dX3_power_51 : decode cX3_power 51 = .ok (.lstore 5, 2) := by decide +kernel
theorem dX3_power_53 : decode cX3_power 53 = .ok (.lload 7, 2) := by decide +kernel
theorem dX3_power_55 : decode cX3_power 55 = .ok (.lload 7, 2) := by decide +kernel
theorem dX3_power_57 : decode cX3_power 57 = .ok (.lmul, 1) := by decide +kernel
theorem dX3_power_58 : decode cX3_power 58 = .ok (.lload_n 3, 1) := by decide +kernel
theorem dX3_power_59 : decode cX3_power 59 = .ok (.lrem, 1) := by decide +kernel
theorem dX3_power_60 : decode cX3_power 60 = .ok (.lstore 7, 2) := by decide +kernel
theorem dX3_power_62 : decode cX3_power 62 = .ok (.iload 9, 2) := by decide +kernel
theorem dX3_power_64 : decode cX3_power 64 = .ok (.iconst 2, 1) := by decide +kernel
theorem dX3_power_65 : decode cX3_power 65 = .ok (.idiv, 1) := by decide +kernel
theorem dX3_power_66 : decode cX3_power 66 = .ok (.istore 9, 2) := by decide +kernel
theorem dX3_power_68 : decode cX3_power 68 = .ok (.iinc 10 1, 3) := by decide +kernel
theorem dX3_power_71 : decode cX3_power 71 = .ok (.goto (-47), 3) := by decide +kernel
theorem dX3_power_74 : decode cX3_power 74 = .ok (.lload 5, 2) := by decide +kernel
theorem dX3_power_76 : decode cX3_power 76 = .ok (.lreturn, 1) := by decide +kernel
theorem dX3_leastFactor_0 : decode cX3_leastFactor 0 = .ok (.iconst 2, 1) := by decide +kernel
theorem dX3_leastFactor_1 : decode cX3_leastFactor 1 = .ok (.istore_n 1, 1) := by decide +kernel
theorem dX3_leastFactor_2 : decode cX3_leastFactor 2 = .ok (.iload_n 1, 1) := by decide +kernel
theorem dX3_leastFactor_3 : decode cX3_leastFactor 3 = .ok (.sipush 31622, 3) := by decide +kernel
theorem dX3_leastFactor_6 : decode cX3_leastFactor 6 = .ok (.if_icmp .gt 24, 3) := by decide +kernel
theorem dX3_leastFactor_9 : decode cX3_leastFactor 9 = .ok (.iload_n 1, 1) := by decide +kernel
theorem dX3_leastFactor_10 : decode cX3_leastFactor 10 = .ok (.iload_n 1, 1) := by decide +kernel
theorem dX3_leastFactor_11 : decode cX3_leastFactor 11 = .ok (.imul, 1) := by decide +kernel
theorem dX3_leastFactor_12 : decode cX3_leastFactor 12 = .ok (.iload_n 0, 1) := by decide +kernel
theorem dX3_leastFactor_13 : decode cX3_leastFactor 13 = .ok (.if_icmp .gt 17, 3) := by decide +kernel
theorem dX3_leastFactor_16 : decode cX3_leastFactor 16 = .ok (.iload_n 0, 1) := by decide +kernel
theorem dX3_leastFactor_17 : decode cX3_leastFactor 17 = .ok (.iload_n 1, 1) := by decide +kernel
theorem dX3_leastFactor_18 : decode cX3_leastFactor 18 = .ok (.irem, 1) := by decide +kernel
theorem dX3_leastFactor_19 : decode cX3_leastFactor 19 = .ok (.ifCond .ne 5, 3) := by decide +kernel
theorem dX3_leastFactor_22 : decode cX3_leastFactor 22 = .ok (.iload_n 1, 1) := by decide +kernel
theorem dX3_leastFactor_23 : decode cX3_leastFactor 23 = .ok (.ireturn, 1) := by decide +kernel
theorem dX3_leastFactor_24 : decode cX3_leastFactor 24 = .ok (.iinc 1 1, 3) := by decide +kernel
theorem dX3_leastFactor_27 : decode cX3_leastFactor 27 = .ok (.goto (-25), 3) := by decide +kernel
theorem dX3_leastFactor_30 : decode cX3_leastFactor 30 = .ok (.iload_n 0, 1) := by decide +kernel
theorem dX3_leastFactor_31 : decode cX3_leastFactor 31 = .ok (.ireturn, 1) := by decide +kernel
theorem dX3_rootAbove_0 : decode cX3_rootAbove 0 = .ok (.iconst 1, 1) := by decide +kernel
theorem dX3_rootAbove_1 : decode cX3_rootAbove 1 = .ok (.istore_n 1, 1) := by decide +kernel
theorem dX3_rootAbove_2 : decode cX3_rootAbove 2 = .ok (.iload_n 1, 1) := by decide +kernel
theorem dX3_rootAbove_3 : decode cX3_rootAbove 3 = .ok (.sipush 1000, 3) := by decide +kernel
theorem dX3_rootAbove_6 : decode cX3_rootAbove 6 = .ok (.if_icmp .ge 16, 3) := by decide +kernel
theorem dX3_rootAbove_9 : decode cX3_rootAbove 9 = .ok (.iload_n 1, 1) := by decide +kernel
theorem dX3_rootAbove_10 : decode cX3_rootAbove 10 = .ok (.iload_n 1, 1) := by decide +kernel
theorem dX3_rootAbove_11 : decode cX3_rootAbove 11 = .ok (.imul, 1) := by decide +kernel
theorem dX3_rootAbove_12 : decode cX3_rootAbove 12 = .ok (.iload_n 0, 1) := by decide +kernel
theorem dX3_rootAbove_13 : decode cX3_rootAbove 13 = .ok (.if_icmp .ge 9, 3) := by decide +kernel
theorem dX3_rootAbove_16 : decode cX3_rootAbove 16 = .ok (.iinc 1 1, 3) := by decide +kernel
theorem dX3_rootAbove_19 : decode cX3_rootAbove 19 = .ok (.goto (-17), 3) := by decide +kernel
theorem dX3_rootAbove_22 : decode cX3_rootAbove 22 = .ok (.iload_n 1, 1) := by decide +kernel
theorem dX3_rootAbove_23 : decode cX3_rootAbove 23 = .ok (.ireturn, 1) := by decide +kernel
theorem dX3_isSmooth_0 : decode cX3_isSmooth 0 = .ok (.iload_n 0, 1) := by decide +kernel
theorem dX3_isSmooth_1 : decode cX3_isSmooth 1 = .ok (.istore_n 2, 1) := by decide +kernel
theorem dX3_isSmooth_2 : decode cX3_isSmooth 2 = .ok (.iconst 0, 1) := by decide +kernel
theorem dX3_isSmooth_3 : decode cX3_isSmooth 3 = .ok (.istore_n 3, 1) := by decide +kernel
theorem dX3_isSmooth_4 : decode cX3_isSmooth 4 = .ok (.iload_n 3, 1) := by decide +kernel
theorem dX3_isSmooth_5 : decode cX3_isSmooth 5 = .ok (.getstatic 9, 3) := by decide +kernel
theorem dX3_isSmooth_8 : decode cX3_isSmooth 8 = .ok (.arraylength, 1) := by decide +kernel
theorem dX3_isSmooth_9 : decode cX3_isSmooth 9 = .ok (.if_icmp .ge 57, 3) := by decide +kernel
theorem dX3_isSmooth_12 : decode cX3_isSmooth 12 = .ok (.getstatic 9, 3) := by decide +kernel
theorem dX3_isSmooth_15 : decode cX3_isSmooth 15 = .ok (.iload_n 3, 1) := by decide +kernel
theorem dX3_isSmooth_16 : decode cX3_isSmooth 16 = .ok (.iaload, 1) := by decide +kernel
theorem dX3_isSmooth_17 : decode cX3_isSmooth 17 = .ok (.iload_n 1, 1) := by decide +kernel
theorem dX3_isSmooth_18 : decode cX3_isSmooth 18 = .ok (.if_icmp .gt 48, 3) := by decide +kernel
theorem dX3_isSmooth_21 : decode cX3_isSmooth 21 = .ok (.iload_n 2, 1) := by decide +kernel
theorem dX3_isSmooth_22 : decode cX3_isSmooth 22 = .ok (.iconst 1, 1) := by decide +kernel
theorem dX3_isSmooth_23 : decode cX3_isSmooth 23 = .ok (.if_icmp .le 43, 3) := by decide +kernel
theorem dX3_isSmooth_26 : decode cX3_isSmooth 26 = .ok (.iconst 0, 1) := by decide +kernel
theorem dX3_isSmooth_27 : decode cX3_isSmooth 27 = .ok (.istore 4, 2) := by decide +kernel
theorem dX3_isSmooth_29 : decode cX3_isSmooth 29 = .ok (.iload 4, 2) := by decide +kernel
theorem dX3_isSmooth_31 : decode cX3_isSmooth 31 = .ok (.bipush 32, 2) := by decide +kernel
theorem dX3_isSmooth_33 : decode cX3_isSmooth 33 = .ok (.if_icmp .ge 27, 3) := by decide +kernel
theorem dX3_isSmooth_36 : decode cX3_isSmooth 36 = .ok (.iload_n 2, 1) := by decide +kernel
theorem dX3_isSmooth_37 : decode cX3_isSmooth 37 = .ok (.getstatic 9, 3) := by decide +kernel
theorem dX3_isSmooth_40 : decode cX3_isSmooth 40 = .ok (.iload_n 3, 1) := by decide +kernel
theorem dX3_isSmooth_41 : decode cX3_isSmooth 41 = .ok (.iaload, 1) := by decide +kernel
theorem dX3_isSmooth_42 : decode cX3_isSmooth 42 = .ok (.irem, 1) := by decide +kernel
theorem dX3_isSmooth_43 : decode cX3_isSmooth 43 = .ok (.ifCond .ne 17, 3) := by decide +kernel
theorem dX3_isSmooth_46 : decode cX3_isSmooth 46 = .ok (.iload_n 2, 1) := by decide +kernel
theorem dX3_isSmooth_47 : decode cX3_isSmooth 47 = .ok (.getstatic 9, 3) := by decide +kernel
theorem dX3_isSmooth_50 : decode cX3_isSmooth 50 = .ok (.iload_n 3, 1) := by decide +kernel
theorem dX3_isSmooth_51 : decode cX3_isSmooth 51 = .ok (.iaload, 1) := by decide +kernel
theorem dX3_isSmooth_52 : decode cX3_isSmooth 52 = .ok (.idiv, 1) := by decide +kernel
theorem dX3_isSmooth_53 : decode cX3_isSmooth 53 = .ok (.istore_n 2, 1) := by decide +kernel
theorem dX3_isSmooth_54 : decode cX3_isSmooth 54 = .ok (.iinc 4 1, 3) := by decide +kernel
theorem dX3_isSmooth_57 : decode cX3_isSmooth 57 = .ok (.goto (-28), 3) := by decide +kernel
theorem dX3_isSmooth_60 : decode cX3_isSmooth 60 = .ok (.iinc 3 1, 3) := by decide +kernel
theorem dX3_isSmooth_63 : decode cX3_isSmooth 63 = .ok (.goto (-59), 3) := by decide +kernel
theorem dX3_isSmooth_66 : decode cX3_isSmooth 66 = .ok (.iload_n 2, 1) := by decide +kernel
theorem dX3_isSmooth_67 : decode cX3_isSmooth 67 = .ok (.iconst 1, 1) := by decide +kernel
theorem dX3_isSmooth_68 : decode cX3_isSmooth 68 = .ok (.if_icmp .ne 7, 3) := by decide +kernel
theorem dX3_isSmooth_71 : decode cX3_isSmooth 71 = .ok (.iconst 1, 1) := by decide +kernel
theorem dX3_isSmooth_72 : decode cX3_isSmooth 72 = .ok (.goto 4, 3) := by decide +kernel
theorem dX3_isSmooth_75 : decode cX3_isSmooth 75 = .ok (.iconst 0, 1) := by decide +kernel
theorem dX3_isSmooth_76 : decode cX3_isSmooth 76 = .ok (.ireturn, 1) := by decide +kernel
theorem dX4_init_0 : decode cX4_init 0 = .ok (.aload_n 0, 1) := by decide +kernel
theorem dX4_init_1 : decode cX4_init 1 = .ok (.invokespecial 3, 3) := by decide +kernel
theorem dX4_init_4 : decode cX4_init 4 = .ok (.aload_n 0, 1) := by decide +kernel
theorem dX4_init_5 : decode cX4_init 5 = .ok (.iconst 0, 1) := by decide +kernel
theorem dX4_init_6 : decode cX4_init 6 = .ok (.putfield 9, 3) := by decide +kernel
theorem dX4_init_9 : decode cX4_init 9 = .ok (.aload_n 0, 1) := by decide +kernel
theorem dX4_init_10 : decode cX4_init 10 = .ok (.sipush 384, 3) := by decide +kernel
theorem dX4_init_13 : decode cX4_init 13 = .ok (.newarray .long, 2) := by decide +kernel
theorem dX4_init_15 : decode cX4_init 15 = .ok (.putfield 15, 3) := by decide +kernel
theorem dX4_init_18 : decode cX4_init 18 = .ok (.aload_n 0, 1) := by decide +kernel
theorem dX4_init_19 : decode cX4_init 19 = .ok (.sipush 384, 3) := by decide +kernel
theorem dX4_init_22 : decode cX4_init 22 = .ok (.newarray .long, 2) := by decide +kernel
theorem dX4_init_24 : decode cX4_init 24 = .ok (.putfield 19, 3) := by decide +kernel
theorem dX4_init_27 : decode cX4_init 27 = .ok (.return_, 1) := by decide +kernel
theorem dX4_at_0 : decode cX4_at 0 = .ok (.iload_n 1, 1) := by decide +kernel
theorem dX4_at_1 : decode cX4_at 1 = .ok (.ifCond .lt 20, 3) := by decide +kernel
theorem dX4_at_4 : decode cX4_at 4 = .ok (.iload_n 1, 1) := by decide +kernel
theorem dX4_at_5 : decode cX4_at 5 = .ok (.aload_n 0, 1) := by decide +kernel
theorem dX4_at_6 : decode cX4_at 6 = .ok (.getfield 9, 3) := by decide +kernel
theorem dX4_at_9 : decode cX4_at 9 = .ok (.if_icmp .ge 12, 3) := by decide +kernel
theorem dX4_at_12 : decode cX4_at 12 = .ok (.aload_n 0, 1) := by decide +kernel
theorem dX4_at_13 : decode cX4_at 13 = .ok (.getfield 15, 3) := by decide +kernel
theorem dX4_at_16 : decode cX4_at 16 = .ok (.iload_n 1, 1) := by decide +kernel
theorem dX4_at_17 : decode cX4_at 17 = .ok (.laload, 1) := by decide +kernel
theorem dX4_at_18 : decode cX4_at 18 = .ok (.goto 6, 3) := by decide +kernel
theorem dX4_at_21 : decode cX4_at 21 = .ok (.ldc2_w 22, 3) := by decide +kernel
theorem dX4_at_24 : decode cX4_at 24 = .ok (.lreturn, 1) := by decide +kernel
theorem dX4_fill_0 : decode cX4_fill 0 = .ok (.aload_n 0, 1) := by decide +kernel
theorem dX4_fill_1 : decode cX4_fill 1 = .ok (.getfield 15, 3) := by decide +kernel
theorem dX4_fill_4 : decode cX4_fill 4 = .ok (.iconst 0, 1) := by decide +kernel
theorem dX4_fill_5 : decode cX4_fill 5 = .ok (.lconst 1, 1) := by decide +kernel
theorem dX4_fill_6 : decode cX4_fill 6 = .ok (.lastore, 1) := by decide +kernel
theorem dX4_fill_7 : decode cX4_fill 7 = .ok (.aload_n 0, 1) := by decide +kernel
theorem dX4_fill_8 : decode cX4_fill 8 = .ok (.iconst 1, 1) := by decide +kernel
theorem dX4_fill_9 : decode cX4_fill 9 = .ok (.putfield 9, 3) := by decide +kernel
theorem dX4_fill_12 : decode cX4_fill 12 = .ok (.iconst 0, 1) := by decide +kernel
theorem dX4_fill_13 : decode cX4_fill 13 = .ok (.istore_n 3, 1) := by decide +kernel
theorem dX4_fill_14 : decode cX4_fill 14 = .ok (.iload_n 3, 1) := by decide +kernel
theorem dX4_fill_15 : decode cX4_fill 15 = .ok (.aload_n 1, 1) := by decide +kernel
theorem dX4_fill_16 : decode cX4_fill 16 = .ok (.getfield 24, 3) := by decide +kernel
theorem dX4_fill_19 : decode cX4_fill 19 = .ok (.if_icmp .ge 74, 3) := by decide +kernel
theorem dX4_fill_22 : decode cX4_fill 22 = .ok (.aload_n 0, 1) := by decide +kernel
theorem dX4_fill_23 : decode cX4_fill 23 = .ok (.getfield 9, 3) := by decide +kernel
theorem dX4_fill_26 : decode cX4_fill 26 = .ok (.istore 4, 2) := by decide +kernel
theorem dX4_fill_28 : decode cX4_fill 28 = .ok (.aload_n 0, 1) := by decide +kernel
theorem dX4_fill_29 : decode cX4_fill 29 = .ok (.getfield 15, 3) := by decide +kernel
theorem dX4_fill_32 : decode cX4_fill 32 = .ok (.iconst 0, 1) := by decide +kernel
theorem dX4_fill_33 : decode cX4_fill 33 = .ok (.aload_n 0, 1) := by decide +kernel
theorem dX4_fill_34 : decode cX4_fill 34 = .ok (.getfield 19, 3) := by decide +kernel
theorem dX4_fill_37 : decode cX4_fill 37 = .ok (.iconst 0, 1) := by decide +kernel
theorem dX4_fill_38 : decode cX4_fill 38 = .ok (.iload 4, 2) := by decide +kernel
theorem dX4_fill_40 : decode cX4_fill 40 = .ok (.invokestatic 29, 3) := by decide +kernel
theorem dX4_fill_43 : decode cX4_fill 43 = .ok (.iconst 0, 1) := by decide +kernel
theorem dX4_fill_44 : decode cX4_fill 44 = .ok (.istore 5, 2) := by decide +kernel
theorem dX4_fill_46 : decode cX4_fill 46 = .ok (.iload 5, 2) := by decide +kernel
theorem dX4_fill_48 : decode cX4_fill 48 = .ok (.aload_n 1, 1) := by decide +kernel
theorem dX4_fill_49 : decode cX4_fill 49 = .ok (.iload_n 2, 1) := by decide +kernel
theorem dX4_fill_50 : decode cX4_fill 50 = .ok (.iload_n 3, 1) := by decide +kernel
theorem dX4_fill_51 : decode cX4_fill 51 = .ok (.invokevirtual 35, 3) := by decide +kernel
theorem dX4_fill_54 : decode cX4_fill 54 = .ok (.if_icmp .ge 33, 3) := by decide +kernel
theorem dX4_fill_57 : decode cX4_fill 57 = .ok (.aload_n 0, 1) := by decide +kernel
theorem dX4_fill_58 : decode cX4_fill 58 = .ok (.getfield 9, 3) := by decide +kernel
theorem dX4_fill_61 : decode cX4_fill 61 = .ok (.iload 4, 2) := by decide +kernel
theorem dX4_fill_63 : decode cX4_fill 63 = .ok (.iadd, 1) := by decide +kernel
theorem dX4_fill_64 : decode cX4_fill 64 = .ok (.sipush 384, 3) := by decide +kernel
theorem dX4_fill_67 : decode cX4_fill 67 = .ok (.if_icmp .gt 20, 3) := by decide +kernel
theorem dX4_fill_70 : decode cX4_fill 70 = .ok (.aload_n 0, 1) := by decide +kernel
theorem dX4_fill_71 : decode cX4_fill 71 = .ok (.aload_n 1, 1) := by decide +kernel
theorem dX4_fill_72 : decode cX4_fill 72 = .ok (.iload_n 3, 1) := by decide +kernel
theorem dX4_fill_73 : decode cX4_fill 73 = .ok (.invokevirtual 39, 3) := by decide +kernel
theorem dX4_fill_76 : decode cX4_fill 76 = .ok (.iload 4, 2) := by decide +kernel
theorem dX4_fill_78 : decode cX4_fill 78 = .ok (.invokevirtual 43, 3) := by decide +kernel
theorem dX4_fill_81 : decode cX4_fill 81 = .ok (.iinc 5 1, 3) := by decide +kernel
theorem dX4_fill_84 : decode cX4_fill 84 = .ok (.goto (-38), 3) := by decide +kernel
theorem dX4_fill_87 : decode cX4_fill 87 = .ok (.iinc 3 1, 3) := by decide +kernel
theorem dX4_fill_90 : decode cX4_fill 90 = .ok (.goto (-76), 3) := by decide +kernel
theorem dX4_fill_93 : decode cX4_fill 93 = .ok (.return_, 1) := by decide +kernel
theorem dX4_mergeTimes_0 : decode cX4_mergeTimes 0 = .ok (.aload_n 0, 1) := by decide +kernel
theorem dX4_mergeTimes_1 : decode cX4_mergeTimes 1 = .ok (.getfield 9, 3) := by decide +kernel
theorem dX4_mergeTimes_4 : decode cX4_mergeTimes 4 = .ok (.iconst 1, 1) := by decide +kernel
theorem dX4_mergeTimes_5 : decode cX4_mergeTimes 5 = .ok (.isub, 1) := by decide +kernel
theorem dX4_mergeTimes_6 : decode cX4_mergeTimes 6 = .ok (.istore_n 3, 1) := by decide +kernel
theorem dX4_mergeTimes_7 : decode cX4_mergeTimes 7 = .ok (.iload_n 2, 1) := by decide +kernel
theorem dX4_mergeTimes_8 : decode cX4_mergeTimes 8 = .ok (.iconst 1, 1) := by decide +kernel
theorem dX4_mergeTimes_9 : decode cX4_mergeTimes 9 = .ok (.isub, 1) := by decide +kernel
theorem dX4_mergeTimes_10 : decode cX4_mergeTimes 10 = .ok (.istore 4, 2) := by decide +kernel
theorem dX4_mergeTimes_12 : decode cX4_mergeTimes 12 = .ok (.aload_n 0, 1) := by decide +kernel
theorem dX4_mergeTimes_13 : decode cX4_mergeTimes 13 = .ok (.dup, 1) := by decide +kernel
theorem dX4_mergeTimes_14 : decode cX4_mergeTimes 14 = .ok (.getfield 9, 3) := by decide +kernel
theorem dX4_mergeTimes_17 : decode cX4_mergeTimes 17 = .ok (.iload_n 2, 1) := by decide +kernel
theorem dX4_mergeTimes_18 : decode cX4_mergeTimes 18 = .ok (.iadd, 1) := by decide +kernel
theorem dX4_mergeTimes_19 : decode cX4_mergeTimes 19 = .ok (.putfield 9, 3) := by decide +kernel
theorem dX4_mergeTimes_22 : decode cX4_mergeTimes 22 = .ok (.aload_n 0, 1) := by decide +kernel
theorem dX4_mergeTimes_23 : decode cX4_mergeTimes 23 = .ok (.getfield 9, 3) := by decide +kernel
theorem dX4_mergeTimes_26 : decode cX4_mergeTimes 26 = .ok (.iconst 1, 1) := by decide +kernel
theorem dX4_mergeTimes_27 : decode cX4_mergeTimes 27 = .ok (.isub, 1) := by decide +kernel
theorem dX4_mergeTimes_28 : decode cX4_mergeTimes 28 = .ok (.istore 5, 2) := by decide +kernel
theorem dX4_mergeTimes_30 : decode cX4_mergeTimes 30 = .ok (.iload 5, 2) := by decide +kernel
theorem dX4_mergeTimes_32 : decode cX4_mergeTimes 32 = .ok (.ifCond .lt 82, 3) := by decide +kernel
theorem dX4_mergeTimes_35 : decode cX4_mergeTimes 35 = .ok (.iload_n 3, 1) := by decide +kernel
theorem dX4_mergeTimes_36 : decode cX4_mergeTimes 36 = .ok (.ifCond .lt 50, 3) := by decide +kernel
theorem dX4_mergeTimes_39 : decode cX4_mergeTimes 39 = .ok (.iload 4, 2) := by decide +kernel
theorem dX4_mergeTimes_41 : decode cX4_mergeTimes 41 = .ok (.ifCond .lt 23, 3) := by decide +kernel
theorem dX4_mergeTimes_44 : decode cX4_mergeTimes 44 = .ok (.aload_n 0, 1) := by decide +kernel
theorem dX4_mergeTimes_45 : decode cX4_mergeTimes 45 = .ok (.getfield 15, 3) := by decide +kernel
theorem dX4_mergeTimes_48 : decode cX4_mergeTimes 48 = .ok (.iload_n 3, 1) := by decide +kernel
theorem dX4_mergeTimes_49 : decode cX4_mergeTimes 49 = .ok (.laload, 1) := by decide +kernel
theorem dX4_mergeTimes_50 : decode cX4_mergeTimes 50 = .ok (.iload_n 1, 1) := by decide +kernel
theorem dX4_mergeTimes_51 : decode cX4_mergeTimes 51 = .ok (.i2l, 1) := by decide +kernel
theorem dX4_mergeTimes_52 : decode cX4_mergeTimes 52 = .ok (.lmul, 1) := by decide +kernel
theorem dX4_mergeTimes_53 : decode cX4_mergeTimes 53 = .ok (.aload_n 0, 1) := by decide +kernel
theorem dX4_mergeTimes_54 : decode cX4_mergeTimes 54 = .ok (.getfield 19, 3) := by decide +kernel
theorem dX4_mergeTimes_57 : decode cX4_mergeTimes 57 = .ok (.iload 4, 2) := by decide +kernel
theorem dX4_mergeTimes_59 : decode cX4_mergeTimes 59 = .ok (.laload, 1) := by decide +kernel
theorem dX4_mergeTimes_60 : decode cX4_mergeTimes 60 = .ok (.lcmp, 1) := by decide +kernel
theorem dX4_mergeTimes_61 : decode cX4_mergeTimes 61 = .ok (.ifCond .le 25, 3) := by decide +kernel
theorem dX4_mergeTimes_64 : decode cX4_mergeTimes 64 = .ok (.aload_n 0, 1) := by decide +kernel
theorem dX4_mergeTimes_65 : decode cX4_mergeTimes 65 = .ok (.getfield 15, 3) := by decide +kernel
theorem dX4_mergeTimes_68 : decode cX4_mergeTimes 68 = .ok (.iload 5, 2) := by decide +kernel
theorem dX4_mergeTimes_70 : decode cX4_mergeTimes 70 = .ok (.aload_n 0, 1) := by decide +kernel
theorem dX4_mergeTimes_71 : decode cX4_mergeTimes 71 = .ok (.getfield 15, 3) := by decide +kernel
theorem dX4_mergeTimes_74 : decode cX4_mergeTimes 74 = .ok (.iload_n 3, 1) := by decide +kernel
theorem dX4_mergeTimes_75 : decode cX4_mergeTimes 75 = .ok (.laload, 1) := by decide +kernel
theorem dX4_mergeTimes_76 : decode cX4_mergeTimes 76 = .ok (.iload_n 1, 1) := by decide +kernel
theorem dX4_mergeTimes_77 : decode cX4_mergeTimes 77 = .ok (.i2l, 1) := by decide +kernel
theorem dX4_mergeTimes_78 : decode cX4_mergeTimes 78 = .ok (.lmul, 1) := by decide +kernel
theorem dX4_mergeTimes_79 : decode cX4_mergeTimes 79 = .ok (.lastore, 1) := by decide +kernel
theorem dX4_mergeTimes_80 : decode cX4_mergeTimes 80 = .ok (.iinc 3 (-1), 3) := by decide +kernel
theorem dX4_mergeTimes_83 : decode cX4_mergeTimes 83 = .ok (.goto 25, 3) := by decide +kernel
theorem dX4_mergeTimes_86 : decode cX4_mergeTimes 86 = .ok (.iload 4, 2) := by decide +kernel
theorem dX4_mergeTimes_88 : decode cX4_mergeTimes 88 = .ok (.ifCond .lt 20, 3) := by decide +kernel
theorem dX4_mergeTimes_91 : decode cX4_mergeTimes 91 = .ok (.aload_n 0, 1) := by decide +kernel
theorem dX4_mergeTimes_92 : decode cX4_mergeTimes 92 = .ok (.getfield 15, 3) := by decide +kernel
theorem dX4_mergeTimes_95 : decode cX4_mergeTimes 95 = .ok (.iload 5, 2) := by decide +kernel
theorem dX4_mergeTimes_97 : decode cX4_mergeTimes 97 = .ok (.aload_n 0, 1) := by decide +kernel
theorem dX4_mergeTimes_98 : decode cX4_mergeTimes 98 = .ok (.getfield 19, 3) := by decide +kernel
theorem dX4_mergeTimes_101 : decode cX4_mergeTimes 101 = .ok (.iload 4, 2) := by decide +kernel
theorem dX4_mergeTimes_103 : decode cX4_mergeTimes 103 = .ok (.laload, 1) := by decide +kernel
theorem dX4_mergeTimes_104 : decode cX4_mergeTimes 104 = .ok (.lastore, 1) := by decide +kernel
theorem dX4_mergeTimes_105 : decode cX4_mergeTimes 105 = .ok (.iinc 4 (-1), 3) := by decide +kernel
theorem dX4_mergeTimes_108 : decode cX4_mergeTimes 108 = .ok (.iinc 5 (-1), 3) := by decide +kernel
theorem dX4_mergeTimes_111 : decode cX4_mergeTimes 111 = .ok (.goto (-81), 3) := by decide +kernel
theorem dX4_mergeTimes_114 : decode cX4_mergeTimes 114 = .ok (.return_, 1) := by decide +kernel
theorem dX4_widest_0 : decode cX4_widest 0 = .ok (.lconst 0, 1) := by decide +kernel
theorem dX4_widest_1 : decode cX4_widest 1 = .ok (.lstore_n 1, 1) := by decide +kernel
theorem dX4_widest_2 : decode cX4_widest 2 = .ok (.iconst 1, 1) := by decide +kernel
theorem dX4_widest_3 : decode cX4_widest 3 = .ok (.istore_n 3, 1) := by decide +kernel
theorem dX4_widest_4 : decode cX4_widest 4 = .ok (.iload_n 3, 1) := by decide +kernel
theorem dX4_widest_5 : decode cX4_widest 5 = .ok (.aload_n 0, 1) := by decide +kernel
theorem dX4_widest_6 : decode cX4_widest 6 = .ok (.getfield 9, 3) := by decide +kernel
theorem dX4_widest_9 : decode cX4_widest 9 = .ok (.if_icmp .ge 27, 3) := by decide +kernel
theorem dX4_widest_12 : decode cX4_widest 12 = .ok (.lload_n 1, 1) := by decide +kernel
theorem dX4_widest_13 : decode cX4_widest 13 = .ok (.aload_n 0, 1) := by decide +kernel
theorem dX4_widest_14 : decode cX4_widest 14 = .ok (.iload_n 3, 1) := by decide +kernel
theorem dX4_widest_15 : decode cX4_widest 15 = .ok (.invokevirtual 47, 3) := by decide +kernel
theorem dX4_widest_18 : decode cX4_widest 18 = .ok (.aload_n 0, 1) := by decide +kernel
theorem dX4_widest_19 : decode cX4_widest 19 = .ok (.iload_n 3, 1) := by decide +kernel
theorem dX4_widest_20 : decode cX4_widest 20 = .ok (.iconst 1, 1) := by decide +kernel
theorem dX4_widest_21 : decode cX4_widest 21 = .ok (.isub, 1) := by decide +kernel
theorem dX4_widest_22 : decode cX4_widest 22 = .ok (.invokevirtual 47, 3) := by decide +kernel
theorem dX4_widest_25 : decode cX4_widest 25 = .ok (.lsub, 1) := by decide +kernel
theorem dX4_widest_26 : decode cX4_widest 26 = .ok (.invokestatic 51, 3) := by decide +kernel
theorem dX4_widest_29 : decode cX4_widest 29 = .ok (.lstore_n 1, 1) := by decide +kernel
theorem dX4_widest_30 : decode cX4_widest 30 = .ok (.iinc 3 1, 3) := by decide +kernel
theorem dX4_widest_33 : decode cX4_widest 33 = .ok (.goto (-29), 3) := by decide +kernel
theorem dX4_widest_36 : decode cX4_widest 36 = .ok (.lload_n 1, 1) := by decide +kernel
theorem dX4_widest_37 : decode cX4_widest 37 = .ok (.lreturn, 1) := by decide +kernel
theorem dX4_nearestTo_0 : decode cX4_nearestTo 0 = .ok (.lconst 1, 1) := by decide +kernel
theorem dX4_nearestTo_1 : decode cX4_nearestTo 1 = .ok (.lstore_n 3, 1) := by decide +kernel
theorem dX4_nearestTo_2 : decode cX4_nearestTo 2 = .ok (.iconst 1, 1) := by decide +kernel
theorem dX4_nearestTo_3 : decode cX4_nearestTo 3 = .ok (.istore 5, 2) := by decide +kernel
theorem dX4_nearestTo_5 : decode cX4_nearestTo 5 = .ok (.iload 5, 2) := by decide +kernel
theorem dX4_nearestTo_7 : decode cX4_nearestTo 7 = .ok (.aload_n 0, 1) := by decide +kernel
theorem dX4_nearestTo_8 : decode cX4_nearestTo 8 = .ok (.getfield 9, 3) := by decide +kernel
theorem dX4_nearestTo_11 : decode cX4_nearestTo 11 = .ok (.if_icmp .ge 43, 3) := by decide +kernel
theorem dX4_nearestTo_14 : decode cX4_nearestTo 14 = .ok (.lload_n 1, 1) := by decide +kernel
theorem dX4_nearestTo_15 : decode cX4_nearestTo 15 = .ok (.lconst 1, 1) := by decide +kernel
theorem dX4_nearestTo_16 : decode cX4_nearestTo 16 = .ok (.lcmp, 1) := by decide +kernel
theorem dX4_nearestTo_17 : decode cX4_nearestTo 17 = .ok (.ifCond .le 37, 3) := by decide +kernel
theorem dX4_nearestTo_20 : decode cX4_nearestTo 20 = .ok (.aload_n 0, 1) := by decide +kernel
theorem dX4_nearestTo_21 : decode cX4_nearestTo 21 = .ok (.iload 5, 2) := by decide +kernel
theorem dX4_nearestTo_23 : decode cX4_nearestTo 23 = .ok (.invokevirtual 47, 3) := by decide +kernel
theorem dX4_nearestTo_26 : decode cX4_nearestTo 26 = .ok (.lload_n 1, 1) := by decide +kernel
theorem dX4_nearestTo_27 : decode cX4_nearestTo 27 = .ok (.lsub, 1) := by decide +kernel
theorem dX4_nearestTo_28 : decode cX4_nearestTo 28 = .ok (.invokestatic 57, 3) := by decide +kernel
theorem dX4_nearestTo_31 : decode cX4_nearestTo 31 = .ok (.lload_n 3, 1) := by decide +kernel
theorem dX4_nearestTo_32 : decode cX4_nearestTo 32 = .ok (.lload_n 1, 1) := by decide +kernel
theorem dX4_nearestTo_33 : decode cX4_nearestTo 33 = .ok (.lsub, 1) := by decide +kernel
theorem dX4_nearestTo_34 : decode cX4_nearestTo 34 = .ok (.invokestatic 57, 3) := by decide +kernel
theorem dX4_nearestTo_37 : decode cX4_nearestTo 37 = .ok (.lcmp, 1) := by decide +kernel
theorem dX4_nearestTo_38 : decode cX4_nearestTo 38 = .ok (.ifCond .ge 10, 3) := by decide +kernel
theorem dX4_nearestTo_41 : decode cX4_nearestTo 41 = .ok (.aload_n 0, 1) := by decide +kernel
theorem dX4_nearestTo_42 : decode cX4_nearestTo 42 = .ok (.iload 5, 2) := by decide +kernel
theorem dX4_nearestTo_44 : decode cX4_nearestTo 44 = .ok (.invokevirtual 47, 3) := by decide +kernel
theorem dX4_nearestTo_47 : decode cX4_nearestTo 47 = .ok (.lstore_n 3, 1) := by decide +kernel
theorem dX4_nearestTo_48 : decode cX4_nearestTo 48 = .ok (.iinc 5 1, 3) := by decide +kernel
theorem dX4_nearestTo_51 : decode cX4_nearestTo 51 = .ok (.goto (-46), 3) := by decide +kernel
theorem dX4_nearestTo_54 : decode cX4_nearestTo 54 = .ok (.lload_n 3, 1) := by decide +kernel
theorem dX4_nearestTo_55 : decode cX4_nearestTo 55 = .ok (.lreturn, 1) := by decide +kernel
theorem dX4_rootOf_0 : decode cX4_rootOf 0 = .ok (.lconst 1, 1) := by decide +kernel
theorem dX4_rootOf_1 : decode cX4_rootOf 1 = .ok (.lstore_n 3, 1) := by decide +kernel
theorem dX4_rootOf_2 : decode cX4_rootOf 2 = .ok (.iconst 1, 1) := by decide +kernel
theorem dX4_rootOf_3 : decode cX4_rootOf 3 = .ok (.istore 5, 2) := by decide +kernel
theorem dX4_rootOf_5 : decode cX4_rootOf 5 = .ok (.iload 5, 2) := by decide +kernel
theorem dX4_rootOf_7 : decode cX4_rootOf 7 = .ok (.aload_n 0, 1) := by decide +kernel
theorem dX4_rootOf_8 : decode cX4_rootOf 8 = .ok (.getfield 9, 3) := by decide +kernel
theorem dX4_rootOf_11 : decode cX4_rootOf 11 = .ok (.if_icmp .ge 45, 3) := by decide +kernel
theorem dX4_rootOf_14 : decode cX4_rootOf 14 = .ok (.aload_n 0, 1) := by decide +kernel
theorem dX4_rootOf_15 : decode cX4_rootOf 15 = .ok (.iload 5, 2) := by decide +kernel
theorem dX4_rootOf_17 : decode cX4_rootOf 17 = .ok (.invokevirtual 47, 3) := by decide +kernel
theorem dX4_rootOf_20 : decode cX4_rootOf 20 = .ok (.lconst 0, 1) := by decide +kernel
theorem dX4_rootOf_21 : decode cX4_rootOf 21 = .ok (.lcmp, 1) := by decide +kernel
theorem dX4_rootOf_22 : decode cX4_rootOf 22 = .ok (.ifCond .le 28, 3) := by decide +kernel
theorem dX4_rootOf_25 : decode cX4_rootOf 25 = .ok (.aload_n 0, 1) := by decide +kernel
theorem dX4_rootOf_26 : decode cX4_rootOf 26 = .ok (.iload 5, 2) := by decide +kernel
theorem dX4_rootOf_28 : decode cX4_rootOf 28 = .ok (.invokevirtual 47, 3) := by decide +kernel
theorem dX4_rootOf_31 : decode cX4_rootOf 31 = .ok (.lload_n 1, 1) := by decide +kernel
theorem dX4_rootOf_32 : decode cX4_rootOf 32 = .ok (.aload_n 0, 1) := by decide +kernel
theorem dX4_rootOf_33 : decode cX4_rootOf 33 = .ok (.iload 5, 2) := by decide +kernel
theorem dX4_rootOf_35 : decode cX4_rootOf 35 = .ok (.invokevirtual 47, 3) := by decide +kernel
theorem dX4_rootOf_38 : decode cX4_rootOf 38 = .ok (.ldiv, 1) := by decide +kernel
theorem dX4_rootOf_39 : decode cX4_rootOf 39 = .ok (.lcmp, 1) := by decide +kernel
theorem dX4_rootOf_40 : decode cX4_rootOf 40 = .ok (.ifCond .gt 10, 3) := by decide +kernel
theorem dX4_rootOf_43 : decode cX4_rootOf 43 = .ok (.aload_n 0, 1) := by decide +kernel
theorem dX4_rootOf_44 : decode cX4_rootOf 44 = .ok (.iload 5, 2) := by decide +kernel
theorem dX4_rootOf_46 : decode cX4_rootOf 46 = .ok (.invokevirtual 47, 3) := by decide +kernel
theorem dX4_rootOf_49 : decode cX4_rootOf 49 = .ok (.lstore_n 3, 1) := by decide +kernel
theorem dX4_rootOf_50 : decode cX4_rootOf 50 = .ok (.iinc 5 1, 3) := by decide +kernel
theorem dX4_rootOf_53 : decode cX4_rootOf 53 = .ok (.goto (-48), 3) := by decide +kernel
theorem dX4_rootOf_56 : decode cX4_rootOf 56 = .ok (.lload_n 3, 1) := by decide +kernel
theorem dX4_rootOf_57 : decode cX4_rootOf 57 = .ok (.lreturn, 1) := by decide +kernel
theorem dX4_within_0 : decode cX4_within 0 = .ok (.iconst 0, 1) := by decide +kernel
theorem dX4_within_1 : decode cX4_within 1 = .ok (.istore 5, 2) := by decide +kernel
theorem dX4_within_3 : decode cX4_within 3 = .ok (.iconst 0, 1) := by decide +kernel
theorem dX4_within_4 : decode cX4_within 4 = .ok (.istore 6, 2) := by decide +kernel
theorem dX4_within_6 : decode cX4_within 6 = .ok (.iload 6, 2) := by decide +kernel
theorem dX4_within_8 : decode cX4_within 8 = .ok (.aload_n 0, 1) := by decide +kernel
theorem dX4_within_9 : decode cX4_within 9 = .ok (.getfield 9, 3) := by decide +kernel
theorem dX4_within_12 : decode cX4_within 12 = .ok (.if_icmp .ge 34, 3) := by decide +kernel
theorem dX4_within_15 : decode cX4_within 15 = .ok (.aload_n 0, 1) := by decide +kernel
theorem dX4_within_16 : decode cX4_within 16 = .ok (.iload 6, 2) := by decide +kernel
theorem dX4_within_18 : decode cX4_within 18 = .ok (.invokevirtual 47, 3) := by decide +kernel
theorem dX4_within_21 : decode cX4_within 21 = .ok (.lload_n 1, 1) := by decide +kernel
theorem dX4_within_22 : decode cX4_within 22 = .ok (.lcmp, 1) := by decide +kernel
theorem dX4_within_23 : decode cX4_within 23 = .ok (.ifCond .lt 17, 3) := by decide +kernel
theorem dX4_within_26 : decode cX4_within 26 = .ok (.aload_n 0, 1) := by decide +kernel
theorem dX4_within_27 : decode cX4_within 27 = .ok (.iload 6, 2) := by decide +kernel
theorem dX4_within_29 : decode cX4_within 29 = .ok (.invokevirtual 47, 3) := by decide +kernel
theorem dX4_within_32 : decode cX4_within 32 = .ok (.lload_n 3, 1) := by decide +kernel
theorem dX4_within_33 : decode cX4_within 33 = .ok (.lcmp, 1) := by decide +kernel
theorem dX4_within_34 : decode cX4_within 34 = .ok (.ifCond .gt 6, 3) := by decide +kernel
theorem dX4_within_37 : decode cX4_within 37 = .ok (.iinc 5 1, 3) := by decide +kernel
theorem dX4_within_40 : decode cX4_within 40 = .ok (.iinc 6 1, 3) := by decide +kernel
theorem dX4_within_43 : decode cX4_within 43 = .ok (.goto (-37), 3) := by decide +kernel
theorem dX4_within_46 : decode cX4_within 46 = .ok (.iload 5, 2) := by decide +kernel
theorem dX4_within_48 : decode cX4_within 48 = .ok (.ireturn, 1) := by decide +kernel
theorem dX5_init_0 : decode cX5_init 0 = .ok (.aload_n 0, 1) := by decide +kernel
theorem dX5_init_1 : decode cX5_init 1 = .ok (.invokespecial 3, 3) := by decide +kernel
theorem dX5_init_4 : decode cX5_init 4 = .ok (.aload_n 0, 1) := by decide +kernel
theorem dX5_init_5 : decode cX5_init 5 = .ok (.iconst 0, 1) := by decide +kernel
theorem dX5_init_6 : decode cX5_init 6 = .ok (.putfield 9, 3) := by decide +kernel
theorem dX5_init_9 : decode cX5_init 9 = .ok (.aload_n 0, 1) := by decide +kernel
theorem dX5_init_10 : decode cX5_init 10 = .ok (.iconst (-1), 1) := by decide +kernel
theorem dX5_init_11 : decode cX5_init 11 = .ok (.putfield 15, 3) := by decide +kernel
theorem dX5_init_14 : decode cX5_init 14 = .ok (.aload_n 0, 1) := by decide +kernel
theorem dX5_init_15 : decode cX5_init 15 = .ok (.new 18, 3) := by decide +kernel
theorem dX5_init_18 : decode cX5_init 18 = .ok (.dup, 1) := by decide +kernel
theorem dX5_init_19 : decode cX5_init 19 = .ok (.invokespecial 20, 3) := by decide +kernel
theorem dX5_init_22 : decode cX5_init 22 = .ok (.putfield 21, 3) := by decide +kernel
theorem dX5_init_25 : decode cX5_init 25 = .ok (.aload_n 0, 1) := by decide +kernel
theorem dX5_init_26 : decode cX5_init 26 = .ok (.new 25, 3) := by decide +kernel
theorem dX5_init_29 : decode cX5_init 29 = .ok (.dup, 1) := by decide +kernel
theorem dX5_init_30 : decode cX5_init 30 = .ok (.invokespecial 27, 3) := by decide +kernel
theorem dX5_init_33 : decode cX5_init 33 = .ok (.putfield 28, 3) := by decide +kernel
theorem dX5_init_36 : decode cX5_init 36 = .ok (.aload_n 0, 1) := by decide +kernel
theorem dX5_init_37 : decode cX5_init 37 = .ok (.iconst 0, 1) := by decide +kernel
theorem dX5_init_38 : decode cX5_init 38 = .ok (.putfield 32, 3) := by decide +kernel
theorem dX5_init_41 : decode cX5_init 41 = .ok (.return_, 1) := by decide +kernel
theorem dX5_read_0 : decode cX5_read 0 = .ok (.aload_n 0, 1) := by decide +kernel
theorem dX5_read_1 : decode cX5_read 1 = .ok (.getfield 28, 3) := by decide +kernel
theorem dX5_read_4 : decode cX5_read 4 = .ok (.aload_n 1, 1) := by decide +kernel
theorem dX5_read_5 : decode cX5_read 5 = .ok (.iload_n 2, 1) := by decide +kernel
theorem dX5_read_6 : decode cX5_read 6 = .ok (.invokevirtual 35, 3) := by decide +kernel
theorem dX5_read_9 : decode cX5_read 9 = .ok (.aload_n 0, 1) := by decide +kernel
theorem dX5_read_10 : decode cX5_read 10 = .ok (.iconst 0, 1) := by decide +kernel
theorem dX5_read_11 : decode cX5_read 11 = .ok (.putfield 32, 3) := by decide +kernel
theorem dX5_read_14 : decode cX5_read 14 = .ok (.aload_n 0, 1) := by decide +kernel
theorem dX5_read_15 : decode cX5_read 15 = .ok (.iconst 0, 1) := by decide +kernel
theorem dX5_read_16 : decode cX5_read 16 = .ok (.putfield 9, 3) := by decide +kernel
theorem dX5_read_19 : decode cX5_read 19 = .ok (.aload_n 0, 1) := by decide +kernel
theorem dX5_read_20 : decode cX5_read 20 = .ok (.iconst (-1), 1) := by decide +kernel
theorem dX5_read_21 : decode cX5_read 21 = .ok (.putfield 15, 3) := by decide +kernel
theorem dX5_read_24 : decode cX5_read 24 = .ok (.aload_n 0, 1) := by decide +kernel
theorem dX5_read_25 : decode cX5_read 25 = .ok (.getfield 21, 3) := by decide +kernel
theorem dX5_read_28 : decode cX5_read 28 = .ok (.invokevirtual 39, 3) := by decide +kernel
theorem dX5_read_31 : decode cX5_read 31 = .ok (.aload_n 0, 1) := by decide +kernel
theorem dX5_read_32 : decode cX5_read 32 = .ok (.invokevirtual 42, 3) := by decide +kernel
theorem dX5_read_35 : decode cX5_read 35 = .ok (.istore_n 3, 1) := by decide +kernel
theorem dX5_read_36 : decode cX5_read 36 = .ok (.iconst 0, 1) := by decide +kernel
theorem dX5_read_37 : decode cX5_read 37 = .ok (.istore 4, 2) := by decide +kernel
theorem dX5_read_39 : decode cX5_read 39 = .ok (.iload 4, 2) := by decide +kernel
theorem dX5_read_41 : decode cX5_read 41 = .ok (.sipush 700, 3) := by decide +kernel
theorem dX5_read_44 : decode cX5_read 44 = .ok (.if_icmp .ge 60, 3) := by decide +kernel
theorem dX5_read_47 : decode cX5_read 47 = .ok (.iload_n 3, 1) := by decide +kernel
theorem dX5_read_48 : decode cX5_read 48 = .ok (.ifCond .eq 56, 3) := by decide +kernel
theorem dX5_read_51 : decode cX5_read 51 = .ok (.aload_n 0, 1) := by decide +kernel
theorem dX5_read_52 : decode cX5_read 52 = .ok (.iconst 0, 1) := by decide +kernel
theorem dX5_read_53 : decode cX5_read 53 = .ok (.invokevirtual 46, 3) := by decide +kernel
theorem dX5_read_56 : decode cX5_read 56 = .ok (.ifCond .ne 48, 3) := by decide +kernel
theorem dX5_read_59 : decode cX5_read 59 = .ok (.aload_n 0, 1) := by decide +kernel
theorem dX5_read_60 : decode cX5_read 60 = .ok (.bipush 6, 2) := by decide +kernel
theorem dX5_read_62 : decode cX5_read 62 = .ok (.invokevirtual 46, 3) := by decide +kernel
theorem dX5_read_65 : decode cX5_read 65 = .ok (.ifCond .eq 11, 3) := by decide +kernel
theorem dX5_read_68 : decode cX5_read 68 = .ok (.aload_n 0, 1) := by decide +kernel
theorem dX5_read_69 : decode cX5_read 69 = .ok (.invokevirtual 50, 3) := by decide +kernel
theorem dX5_read_72 : decode cX5_read 72 = .ok (.istore_n 3, 1) := by decide +kernel
theorem dX5_read_73 : decode cX5_read 73 = .ok (.goto 25, 3) := by decide +kernel
theorem dX5_read_76 : decode cX5_read 76 = .ok (.aload_n 0, 1) := by decide +kernel
theorem dX5_read_77 : decode cX5_read 77 = .ok (.bipush 8, 2) := by decide +kernel
theorem dX5_read_79 : decode cX5_read 79 = .ok (.invokevirtual 46, 3) := by decide +kernel
theorem dX5_read_82 : decode cX5_read 82 = .ok (.ifCond .eq 10, 3) := by decide +kernel
theorem dX5_read_85 : decode cX5_read 85 = .ok (.aload_n 0, 1) := by decide +kernel
theorem dX5_read_86 : decode cX5_read 86 = .ok (.invokevirtual 53, 3) := by decide +kernel
theorem dX5_read_89 : decode cX5_read 89 = .ok (.goto 8, 3) := by decide +kernel
theorem dX5_read_92 : decode cX5_read 92 = .ok (.aload_n 0, 1) := by decide +kernel
theorem dX5_read_93 : decode cX5_read 93 = .ok (.iconst 2, 1) := by decide +kernel
theorem dX5_read_94 : decode cX5_read 94 = .ok (.invokevirtual 56, 3) := by decide +kernel
theorem dX5_read_97 : decode cX5_read 97 = .ok (.istore_n 3, 1) := by decide +kernel
theorem dX5_read_98 : decode cX5_read 98 = .ok (.iinc 4 1, 3) := by decide +kernel
theorem dX5_read_101 : decode cX5_read 101 = .ok (.goto (-62), 3) := by decide +kernel
theorem dX5_read_104 : decode cX5_read 104 = .ok (.return_, 1) := by decide +kernel
theorem dX5_isNext_0 : decode cX5_isNext 0 = .ok (.aload_n 0, 1) := by decide +kernel
theorem dX5_isNext_1 : decode cX5_isNext 1 = .ok (.getfield 28, 3) := by decide +kernel
theorem dX5_isNext_4 : decode cX5_isNext 4 = .ok (.aload_n 0, 1) := by decide +kernel
theorem dX5_isNext_5 : decode cX5_isNext 5 = .ok (.getfield 32, 3) := by decide +kernel
theorem dX5_isNext_8 : decode cX5_isNext 8 = .ok (.invokevirtual 59, 3) := by decide +kernel
theorem dX5_isNext_11 : decode cX5_isNext 11 = .ok (.iload_n 1, 1) := by decide +kernel
theorem dX5_isNext_12 : decode cX5_isNext 12 = .ok (.if_icmp .ne 7, 3) := by decide +kernel
theorem dX5_isNext_15 : decode cX5_isNext 15 = .ok (.iconst 1, 1) := by decide +kernel
theorem dX5_isNext_16 : decode cX5_isNext 16 = .ok (.goto 4, 3) := by decide +kernel
theorem dX5_isNext_19 : decode cX5_isNext 19 = .ok (.iconst 0, 1) := by decide +kernel
theorem dX5_isNext_20 : decode cX5_isNext 20 = .ok (.ireturn, 1) := by decide +kernel
theorem dX5_stop_0 : decode cX5_stop 0 = .ok (.aload_n 0, 1) := by decide +kernel
theorem dX5_stop_1 : decode cX5_stop 1 = .ok (.aload_n 0, 1) := by decide +kernel
theorem dX5_stop_2 : decode cX5_stop 2 = .ok (.getfield 28, 3) := by decide +kernel
theorem dX5_stop_5 : decode cX5_stop 5 = .ok (.aload_n 0, 1) := by decide +kernel
theorem dX5_stop_6 : decode cX5_stop 6 = .ok (.getfield 32, 3) := by decide +kernel
theorem dX5_stop_9 : decode cX5_stop 9 = .ok (.invokevirtual 59, 3) := by decide +kernel
theorem dX5_stop_12 : decode cX5_stop 12 = .ok (.iconst 1, 1) := by decide +kernel
theorem dX5_stop_13 : decode cX5_stop 13 = .ok (.if_icmp .ne 7, 3) := by decide +kernel
theorem dX5_stop_16 : decode cX5_stop 16 = .ok (.iconst 1, 1) := by decide +kernel
theorem dX5_stop_17 : decode cX5_stop 17 = .ok (.goto 4, 3) := by decide +kernel
theorem dX5_stop_20 : decode cX5_stop 20 = .ok (.iload_n 1, 1) := by decide +kernel
theorem dX5_stop_21 : decode cX5_stop 21 = .ok (.putfield 9, 3) := by decide +kernel
theorem dX5_stop_24 : decode cX5_stop 24 = .ok (.aload_n 0, 1) := by decide +kernel
theorem dX5_stop_25 : decode cX5_stop 25 = .ok (.aload_n 0, 1) := by decide +kernel
theorem dX5_stop_26 : decode cX5_stop 26 = .ok (.getfield 28, 3) := by decide +kernel
theorem dX5_stop_29 : decode cX5_stop 29 = .ok (.aload_n 0, 1) := by decide +kernel
theorem dX5_stop_30 : decode cX5_stop 30 = .ok (.getfield 32, 3) := by decide +kernel
theorem dX5_stop_33 : decode cX5_stop 33 = .ok (.invokevirtual 63, 3) := by decide +kernel
theorem dX5_stop_36 : decode cX5_stop 36 = .ok (.putfield 15, 3) := by decide +kernel
theorem dX5_stop_39 : decode cX5_stop 39 = .ok (.iconst 0, 1) := by decide +kernel
theorem dX5_stop_40 : decode cX5_stop 40 = .ok (.ireturn, 1) := by decide +kernel
theorem dX5_readMint_0 : decode cX5_readMint 0 = .ok (.aload_n 0, 1) := by decide +kernel
theorem dX5_readMint_1 : decode cX5_readMint 1 = .ok (.iconst 5, 1) := by decide +kernel
theorem dX5_readMint_2 : decode cX5_readMint 2 = .ok (.invokevirtual 46, 3) := by decide +kernel
theorem dX5_readMint_5 : decode cX5_readMint 5 = .ok (.ifCond .ne 9, 3) := by decide +kernel
theorem dX5_readMint_8 : decode cX5_readMint 8 = .ok (.aload_n 0, 1) := by decide +kernel
theorem dX5_readMint_9 : decode cX5_readMint 9 = .ok (.iconst 2, 1) := by decide +kernel
theorem dX5_readMint_10 : decode cX5_readMint 10 = .ok (.invokevirtual 56, 3) := by decide +kernel
theorem dX5_readMint_13 : decode cX5_readMint 13 = .ok (.ireturn, 1) := by decide +kernel
theorem dX5_readMint_14 : decode cX5_readMint 14 = .ok (.aload_n 0, 1) := by decide +kernel
theorem dX5_readMint_15 : decode cX5_readMint 15 = .ok (.dup, 1) := by decide +kernel
theorem dX5_readMint_16 : decode cX5_readMint 16 = .ok (.getfield 32, 3) := by decide +kernel
theorem dX5_readMint_19 : decode cX5_readMint 19 = .ok (.iconst 1, 1) := by decide +kernel
theorem dX5_readMint_20 : decode cX5_readMint 20 = .ok (.iadd, 1) := by decide +kernel
theorem dX5_readMint_21 : decode cX5_readMint 21 = .ok (.putfield 32, 3) := by decide +kernel
theorem dX5_readMint_24 : decode cX5_readMint 24 = .ok (.aload_n 0, 1) := by decide +kernel
theorem dX5_readMint_25 : decode cX5_readMint 25 = .ok (.iconst 2, 1) := by decide +kernel
theorem dX5_readMint_26 : decode cX5_readMint 26 = .ok (.invokevirtual 46, 3) := by decide +kernel
theorem dX5_readMint_29 : decode cX5_readMint 29 = .ok (.ifCond .ne 9, 3) := by decide +kernel
theorem dX5_readMint_32 : decode cX5_readMint 32 = .ok (.aload_n 0, 1) := by decide +kernel
theorem dX5_readMint_33 : decode cX5_readMint 33 = .ok (.iconst 2, 1) := by decide +kernel
theorem dX5_readMint_34 : decode cX5_readMint 34 = .ok (.invokevirtual 56, 3) := by decide +kernel
theorem dX5_readMint_37 : decode cX5_readMint 37 = .ok (.ireturn, 1) := by decide +kernel
theorem dX5_readMint_38 : decode cX5_readMint 38 = .ok (.iconst 0, 1) := by decide +kernel
theorem dX5_readMint_39 : decode cX5_readMint 39 = .ok (.istore_n 1, 1) := by decide +kernel
theorem dX5_readMint_40 : decode cX5_readMint 40 = .ok (.iload_n 1, 1) := by decide +kernel
theorem dX5_readMint_41 : decode cX5_readMint 41 = .ok (.sipush 700, 3) := by decide +kernel
theorem dX5_readMint_44 : decode cX5_readMint 44 = .ok (.if_icmp .ge 90, 3) := by decide +kernel
theorem dX5_readMint_47 : decode cX5_readMint 47 = .ok (.aload_n 0, 1) := by decide +kernel
theorem dX5_readMint_48 : decode cX5_readMint 48 = .ok (.iconst 2, 1) := by decide +kernel
theorem dX5_readMint_49 : decode cX5_readMint 49 = .ok (.invokevirtual 46, 3) := by decide +kernel
theorem dX5_readMint_52 : decode cX5_readMint 52 = .ok (.ifCond .eq 82, 3) := by decide +kernel
theorem dX5_readMint_55 : decode cX5_readMint 55 = .ok (.aload_n 0, 1) := by decide +kernel
theorem dX5_readMint_56 : decode cX5_readMint 56 = .ok (.getfield 28, 3) := by decide +kernel
theorem dX5_readMint_59 : decode cX5_readMint 59 = .ok (.aload_n 0, 1) := by decide +kernel
theorem dX5_readMint_60 : decode cX5_readMint 60 = .ok (.getfield 32, 3) := by decide +kernel
theorem dX5_readMint_63 : decode cX5_readMint 63 = .ok (.invokevirtual 66, 3) := by decide +kernel
theorem dX5_readMint_66 : decode cX5_readMint 66 = .ok (.istore_n 2, 1) := by decide +kernel
theorem dX5_readMint_67 : decode cX5_readMint 67 = .ok (.iload_n 2, 1) := by decide +kernel
theorem dX5_readMint_68 : decode cX5_readMint 68 = .ok (.invokestatic 69, 3) := by decide +kernel
theorem dX5_readMint_71 : decode cX5_readMint 71 = .ok (.ifCond .eq 15, 3) := by decide +kernel
theorem dX5_readMint_74 : decode cX5_readMint 74 = .ok (.aload_n 0, 1) := by decide +kernel
theorem dX5_readMint_75 : decode cX5_readMint 75 = .ok (.getfield 21, 3) := by decide +kernel
theorem dX5_readMint_78 : decode cX5_readMint 78 = .ok (.iload_n 2, 1) := by decide +kernel
theorem dX5_readMint_79 : decode cX5_readMint 79 = .ok (.invokevirtual 74, 3) := by decide +kernel
theorem dX5_readMint_82 : decode cX5_readMint 82 = .ok (.iconst (-1), 1) := by decide +kernel
theorem dX5_readMint_83 : decode cX5_readMint 83 = .ok (.if_icmp .eq 9, 3) := by decide +kernel
theorem dX5_readMint_86 : decode cX5_readMint 86 = .ok (.aload_n 0, 1) := by decide +kernel
theorem dX5_readMint_87 : decode cX5_readMint 87 = .ok (.iconst 3, 1) := by decide +kernel
theorem dX5_readMint_88 : decode cX5_readMint 88 = .ok (.invokevirtual 56, 3) := by decide +kernel
theorem dX5_readMint_91 : decode cX5_readMint 91 = .ok (.ireturn, 1) := by decide +kernel
theorem dX5_readMint_92 : decode cX5_readMint 92 = .ok (.aload_n 0, 1) := by decide +kernel
theorem dX5_readMint_93 : decode cX5_readMint 93 = .ok (.getfield 21, 3) := by decide +kernel
theorem dX5_readMint_96 : decode cX5_readMint 96 = .ok (.getfield 77, 3) := by decide +kernel
theorem dX5_readMint_99 : decode cX5_readMint 99 = .ok (.bipush 8, 2) := by decide +kernel
theorem dX5_readMint_101 : decode cX5_readMint 101 = .ok (.if_icmp .ne 9, 3) := by decide +kernel
theorem dX5_readMint_104 : decode cX5_readMint 104 = .ok (.aload_n 0, 1) := by decide +kernel
theorem dX5_readMint_105 : decode cX5_readMint 105 = .ok (.iconst 4, 1) := by decide +kernel
theorem dX5_readMint_106 : decode cX5_readMint 106 = .ok (.invokevirtual 56, 3) := by decide +kernel
theorem dX5_readMint_109 : decode cX5_readMint 109 = .ok (.ireturn, 1) := by decide +kernel
theorem dX5_readMint_110 : decode cX5_readMint 110 = .ok (.aload_n 0, 1) := by decide +kernel
theorem dX5_readMint_111 : decode cX5_readMint 111 = .ok (.getfield 21, 3) := by decide +kernel
theorem dX5_readMint_114 : decode cX5_readMint 114 = .ok (.iload_n 2, 1) := by decide +kernel
theorem dX5_readMint_115 : decode cX5_readMint 115 = .ok (.invokevirtual 80, 3) := by decide +kernel
theorem dX5_readMint_118 : decode cX5_readMint 118 = .ok (.aload_n 0, 1) := by decide +kernel
theorem dX5_readMint_119 : decode cX5_readMint 119 = .ok (.dup, 1) := by decide +kernel
theorem dX5_readMint_120 : decode cX5_readMint 120 = .ok (.getfield 32, 3) := by decide +kernel
theorem dX5_readMint_123 : decode cX5_readMint 123 = .ok (.iconst 1, 1) := by decide +kernel
theorem dX5_readMint_124 : decode cX5_readMint 124 = .ok (.iadd, 1) := by decide +kernel
theorem dX5_readMint_125 : decode cX5_readMint 125 = .ok (.putfield 32, 3) := by decide +kernel
theorem dX5_readMint_128 : decode cX5_readMint 128 = .ok (.iinc 1 1, 3) := by decide +kernel
theorem dX5_readMint_131 : decode cX5_readMint 131 = .ok (.goto (-91), 3) := by decide +kernel
theorem dX5_readMint_134 : decode cX5_readMint 134 = .ok (.aload_n 0, 1) := by decide +kernel
theorem dX5_readMint_135 : decode cX5_readMint 135 = .ok (.invokevirtual 84, 3) := by decide +kernel
theorem dX5_readMint_138 : decode cX5_readMint 138 = .ok (.ireturn, 1) := by decide +kernel
theorem dX5_endLine_0 : decode cX5_endLine 0 = .ok (.aload_n 0, 1) := by decide +kernel
theorem dX5_endLine_1 : decode cX5_endLine 1 = .ok (.iconst 3, 1) := by decide +kernel
theorem dX5_endLine_2 : decode cX5_endLine 2 = .ok (.invokevirtual 46, 3) := by decide +kernel
theorem dX5_endLine_5 : decode cX5_endLine 5 = .ok (.ifCond .ne 9, 3) := by decide +kernel
theorem dX5_endLine_8 : decode cX5_endLine 8 = .ok (.aload_n 0, 1) := by decide +kernel
theorem dX5_endLine_9 : decode cX5_endLine 9 = .ok (.iconst 2, 1) := by decide +kernel
theorem dX5_endLine_10 : decode cX5_endLine 10 = .ok (.invokevirtual 56, 3) := by decide +kernel
theorem dX5_endLine_13 : decode cX5_endLine 13 = .ok (.ireturn, 1) := by decide +kernel
theorem dX5_endLine_14 : decode cX5_endLine 14 = .ok (.aload_n 0, 1) := by decide +kernel
theorem dX5_endLine_15 : decode cX5_endLine 15 = .ok (.getfield 21, 3) := by decide +kernel
theorem dX5_endLine_18 : decode cX5_endLine 18 = .ok (.dup, 1) := by decide +kernel
theorem dX5_endLine_19 : decode cX5_endLine 19 = .ok (.getfield 87, 3) := by decide +kernel
theorem dX5_endLine_22 : decode cX5_endLine 22 = .ok (.iconst 1, 1) := by decide +kernel
theorem dX5_endLine_23 : decode cX5_endLine 23 = .ok (.iadd, 1) := by decide +kernel
theorem dX5_endLine_24 : decode cX5_endLine 24 = .ok (.putfield 87, 3) := by decide +kernel
theorem dX5_endLine_27 : decode cX5_endLine 27 = .ok (.aload_n 0, 1) := by decide +kernel
theorem dX5_endLine_28 : decode cX5_endLine 28 = .ok (.dup, 1) := by decide +kernel
theorem dX5_endLine_29 : decode cX5_endLine 29 = .ok (.getfield 32, 3) := by decide +kernel
theorem dX5_endLine_32 : decode cX5_endLine 32 = .ok (.iconst 1, 1) := by decide +kernel
theorem dX5_endLine_33 : decode cX5_endLine 33 = .ok (.iadd, 1) := by decide +kernel
theorem dX5_endLine_34 : decode cX5_endLine 34 = .ok (.putfield 32, 3) := by decide +kernel
theorem dX5_endLine_37 : decode cX5_endLine 37 = .ok (.iconst 1, 1) := by decide +kernel
theorem dX5_endLine_38 : decode cX5_endLine 38 = .ok (.ireturn, 1) := by decide +kernel
theorem dX5_readPurse_0 : decode cX5_readPurse 0 = .ok (.aload_n 0, 1) := by decide +kernel
theorem dX5_readPurse_1 : decode cX5_readPurse 1 = .ok (.getfield 21, 3) := by decide +kernel
theorem dX5_readPurse_4 : decode cX5_readPurse 4 = .ok (.getfield 90, 3) := by decide +kernel
theorem dX5_readPurse_7 : decode cX5_readPurse 7 = .ok (.iconst 5, 1) := by decide +kernel
theorem dX5_readPurse_8 : decode cX5_readPurse 8 = .ok (.if_icmp .ne 9, 3) := by decide +kernel
theorem dX5_readPurse_11 : decode cX5_readPurse 11 = .ok (.aload_n 0, 1) := by decide +kernel
theorem dX5_readPurse_12 : decode cX5_readPurse 12 = .ok (.iconst 4, 1) := by decide +kernel
theorem dX5_readPurse_13 : decode cX5_readPurse 13 = .ok (.invokevirtual 56, 3) := by decide +kernel
theorem dX5_readPurse_16 : decode cX5_readPurse 16 = .ok (.ireturn, 1) := by decide +kernel
theorem dX5_readPurse_17 : decode cX5_readPurse 17 = .ok (.aload_n 0, 1) := by decide +kernel
theorem dX5_readPurse_18 : decode cX5_readPurse 18 = .ok (.dup, 1) := by decide +kernel
theorem dX5_readPurse_19 : decode cX5_readPurse 19 = .ok (.getfield 32, 3) := by decide +kernel
theorem dX5_readPurse_22 : decode cX5_readPurse 22 = .ok (.iconst 1, 1) := by decide +kernel
theorem dX5_readPurse_23 : decode cX5_readPurse 23 = .ok (.iadd, 1) := by decide +kernel
theorem dX5_readPurse_24 : decode cX5_readPurse 24 = .ok (.putfield 32, 3) := by decide +kernel
theorem dX5_readPurse_27 : decode cX5_readPurse 27 = .ok (.iconst 0, 1) := by decide +kernel
theorem dX5_readPurse_28 : decode cX5_readPurse 28 = .ok (.istore_n 1, 1) := by decide +kernel
theorem dX5_readPurse_29 : decode cX5_readPurse 29 = .ok (.iload_n 1, 1) := by decide +kernel
theorem dX5_readPurse_30 : decode cX5_readPurse 30 = .ok (.sipush 700, 3) := by decide +kernel
theorem dX5_readPurse_33 : decode cX5_readPurse 33 = .ok (.if_icmp .ge 26, 3) := by decide +kernel
theorem dX5_readPurse_36 : decode cX5_readPurse 36 = .ok (.aload_n 0, 1) := by decide +kernel
theorem dX5_readPurse_37 : decode cX5_readPurse 37 = .ok (.iconst 2, 1) := by decide +kernel
theorem dX5_readPurse_38 : decode cX5_readPurse 38 = .ok (.invokevirtual 46, 3) := by decide +kernel
theorem dX5_readPurse_41 : decode cX5_readPurse 41 = .ok (.ifCond .eq 18, 3) := by decide +kernel
theorem dX5_readPurse_44 : decode cX5_readPurse 44 = .ok (.aload_n 0, 1) := by decide +kernel
theorem dX5_readPurse_45 : decode cX5_readPurse 45 = .ok (.invokevirtual 93, 3) := by decide +kernel
theorem dX5_readPurse_48 : decode cX5_readPurse 48 = .ok (.ifCond .ne 5, 3) := by decide +kernel
theorem dX5_readPurse_51 : decode cX5_readPurse 51 = .ok (.iconst 0, 1) := by decide +kernel
theorem dX5_readPurse_52 : decode cX5_readPurse 52 = .ok (.ireturn, 1) := by decide +kernel
theorem dX5_readPurse_53 : decode cX5_readPurse 53 = .ok (.iinc 1 1, 3) := by decide +kernel
theorem dX5_readPurse_56 : decode cX5_readPurse 56 = .ok (.goto (-27), 3) := by decide +kernel
theorem dX5_readPurse_59 : decode cX5_readPurse 59 = .ok (.aload_n 0, 1) := by decide +kernel
theorem dX5_readPurse_60 : decode cX5_readPurse 60 = .ok (.invokevirtual 84, 3) := by decide +kernel
theorem dX5_readPurse_63 : decode cX5_readPurse 63 = .ok (.ifCond .ne 5, 3) := by decide +kernel
theorem dX5_readPurse_66 : decode cX5_readPurse 66 = .ok (.iconst 0, 1) := by decide +kernel
theorem dX5_readPurse_67 : decode cX5_readPurse 67 = .ok (.ireturn, 1) := by decide +kernel
theorem dX5_readPurse_68 : decode cX5_readPurse 68 = .ok (.aload_n 0, 1) := by decide +kernel
theorem dX5_readPurse_69 : decode cX5_readPurse 69 = .ok (.getfield 21, 3) := by decide +kernel
theorem dX5_readPurse_72 : decode cX5_readPurse 72 = .ok (.dup, 1) := by decide +kernel
theorem dX5_readPurse_73 : decode cX5_readPurse 73 = .ok (.getfield 90, 3) := by decide +kernel
theorem dX5_readPurse_76 : decode cX5_readPurse 76 = .ok (.iconst 1, 1) := by decide +kernel
theorem dX5_readPurse_77 : decode cX5_readPurse 77 = .ok (.iadd, 1) := by decide +kernel
theorem dX5_readPurse_78 : decode cX5_readPurse 78 = .ok (.putfield 90, 3) := by decide +kernel
theorem dX5_readPurse_81 : decode cX5_readPurse 81 = .ok (.iconst 1, 1) := by decide +kernel
theorem dX5_readPurse_82 : decode cX5_readPurse 82 = .ok (.ireturn, 1) := by decide +kernel
theorem dX5_readPursed_0 : decode cX5_readPursed 0 = .ok (.aload_n 0, 1) := by decide +kernel
theorem dX5_readPursed_1 : decode cX5_readPursed 1 = .ok (.getfield 21, 3) := by decide +kernel
theorem dX5_readPursed_4 : decode cX5_readPursed 4 = .ok (.aload_n 0, 1) := by decide +kernel
theorem dX5_readPursed_5 : decode cX5_readPursed 5 = .ok (.getfield 28, 3) := by decide +kernel
theorem dX5_readPursed_8 : decode cX5_readPursed 8 = .ok (.aload_n 0, 1) := by decide +kernel
theorem dX5_readPursed_9 : decode cX5_readPursed 9 = .ok (.getfield 32, 3) := by decide +kernel
theorem dX5_readPursed_12 : decode cX5_readPursed 12 = .ok (.invokevirtual 66, 3) := by decide +kernel
theorem dX5_readPursed_15 : decode cX5_readPursed 15 = .ok (.invokevirtual 74, 3) := by decide +kernel
theorem dX5_readPursed_18 : decode cX5_readPursed 18 = .ok (.istore_n 1, 1) := by decide +kernel
theorem dX5_readPursed_19 : decode cX5_readPursed 19 = .ok (.iload_n 1, 1) := by decide +kernel
theorem dX5_readPursed_20 : decode cX5_readPursed 20 = .ok (.iconst (-1), 1) := by decide +kernel
theorem dX5_readPursed_21 : decode cX5_readPursed 21 = .ok (.if_icmp .ne 9, 3) := by decide +kernel
theorem dX5_readPursed_24 : decode cX5_readPursed 24 = .ok (.aload_n 0, 1) := by decide +kernel
theorem dX5_readPursed_25 : decode cX5_readPursed 25 = .ok (.iconst 3, 1) := by decide +kernel
theorem dX5_readPursed_26 : decode cX5_readPursed 26 = .ok (.invokevirtual 56, 3) := by decide +kernel
theorem dX5_readPursed_29 : decode cX5_readPursed 29 = .ok (.ireturn, 1) := by decide +kernel
theorem dX5_readPursed_30 : decode cX5_readPursed 30 = .ok (.aload_n 0, 1) := by decide +kernel
theorem dX5_readPursed_31 : decode cX5_readPursed 31 = .ok (.getfield 21, 3) := by decide +kernel
theorem dX5_readPursed_34 : decode cX5_readPursed 34 = .ok (.aload_n 0, 1) := by decide +kernel
theorem dX5_readPursed_35 : decode cX5_readPursed 35 = .ok (.getfield 21, 3) := by decide +kernel
theorem dX5_readPursed_38 : decode cX5_readPursed 38 = .ok (.getfield 90, 3) := by decide +kernel
theorem dX5_readPursed_41 : decode cX5_readPursed 41 = .ok (.invokevirtual 96, 3) := by decide +kernel
theorem dX5_readPursed_44 : decode cX5_readPursed 44 = .ok (.iconst 1, 1) := by decide +kernel
theorem dX5_readPursed_45 : decode cX5_readPursed 45 = .ok (.iadd, 1) := by decide +kernel
theorem dX5_readPursed_46 : decode cX5_readPursed 46 = .ok (.bipush 9, 2) := by decide +kernel
theorem dX5_readPursed_48 : decode cX5_readPursed 48 = .ok (.if_icmp .le 9, 3) := by decide +kernel
theorem dX5_readPursed_51 : decode cX5_readPursed 51 = .ok (.aload_n 0, 1) := by decide +kernel
theorem dX5_readPursed_52 : decode cX5_readPursed 52 = .ok (.iconst 4, 1) := by decide +kernel
theorem dX5_readPursed_53 : decode cX5_readPursed 53 = .ok (.invokevirtual 56, 3) := by decide +kernel
theorem dX5_readPursed_56 : decode cX5_readPursed 56 = .ok (.ireturn, 1) := by decide +kernel
theorem dX5_readPursed_57 : decode cX5_readPursed 57 = .ok (.aload_n 0, 1) := by decide +kernel
theorem dX5_readPursed_58 : decode cX5_readPursed 58 = .ok (.getfield 21, 3) := by decide +kernel
theorem dX5_readPursed_61 : decode cX5_readPursed 61 = .ok (.aload_n 0, 1) := by decide +kernel
theorem dX5_readPursed_62 : decode cX5_readPursed 62 = .ok (.getfield 21, 3) := by decide +kernel
theorem dX5_readPursed_65 : decode cX5_readPursed 65 = .ok (.getfield 90, 3) := by decide +kernel
theorem dX5_readPursed_68 : decode cX5_readPursed 68 = .ok (.iload_n 1, 1) := by decide +kernel
theorem dX5_readPursed_69 : decode cX5_readPursed 69 = .ok (.iconst 1, 1) := by decide +kernel
theorem dX5_readPursed_70 : decode cX5_readPursed 70 = .ok (.invokevirtual 99, 3) := by decide +kernel
theorem dX5_readPursed_73 : decode cX5_readPursed 73 = .ok (.aload_n 0, 1) := by decide +kernel
theorem dX5_readPursed_74 : decode cX5_readPursed 74 = .ok (.dup, 1) := by decide +kernel
theorem dX5_readPursed_75 : decode cX5_readPursed 75 = .ok (.getfield 32, 3) := by decide +kernel
theorem dX5_readPursed_78 : decode cX5_readPursed 78 = .ok (.iconst 1, 1) := by decide +kernel
theorem dX5_readPursed_79 : decode cX5_readPursed 79 = .ok (.iadd, 1) := by decide +kernel
theorem dX5_readPursed_80 : decode cX5_readPursed 80 = .ok (.putfield 32, 3) := by decide +kernel
theorem dX5_readPursed_83 : decode cX5_readPursed 83 = .ok (.aload_n 0, 1) := by decide +kernel
theorem dX5_readPursed_84 : decode cX5_readPursed 84 = .ok (.bipush 7, 2) := by decide +kernel
theorem dX5_readPursed_86 : decode cX5_readPursed 86 = .ok (.invokevirtual 46, 3) := by decide +kernel
theorem dX5_readPursed_89 : decode cX5_readPursed 89 = .ok (.ifCond .eq 11, 3) := by decide +kernel
theorem dX5_readPursed_92 : decode cX5_readPursed 92 = .ok (.aload_n 0, 1) := by decide +kernel
theorem dX5_readPursed_93 : decode cX5_readPursed 93 = .ok (.iload_n 1, 1) := by decide +kernel
theorem dX5_readPursed_94 : decode cX5_readPursed 94 = .ok (.invokevirtual 103, 3) := by decide +kernel
theorem dX5_readPursed_97 : decode cX5_readPursed 97 = .ok (.ifCond .eq 7, 3) := by decide +kernel
theorem dX5_readPursed_100 : decode cX5_readPursed 100 = .ok (.iconst 1, 1) := by decide +kernel
theorem dX5_readPursed_101 : decode cX5_readPursed 101 = .ok (.goto 4, 3) := by decide +kernel
theorem dX5_readPursed_104 : decode cX5_readPursed 104 = .ok (.iconst 0, 1) := by decide +kernel
theorem dX5_readPursed_105 : decode cX5_readPursed 105 = .ok (.ireturn, 1) := by decide +kernel
theorem dX5_readTimes_0 : decode cX5_readTimes 0 = .ok (.aload_n 0, 1) := by decide +kernel
theorem dX5_readTimes_1 : decode cX5_readTimes 1 = .ok (.dup, 1) := by decide +kernel
theorem dX5_readTimes_2 : decode cX5_readTimes 2 = .ok (.getfield 32, 3) := by decide +kernel
theorem dX5_readTimes_5 : decode cX5_readTimes 5 = .ok (.iconst 1, 1) := by decide +kernel
theorem dX5_readTimes_6 : decode cX5_readTimes 6 = .ok (.iadd, 1) := by decide +kernel
theorem dX5_readTimes_7 : decode cX5_readTimes 7 = .ok (.putfield 32, 3) := by decide +kernel
theorem dX5_readTimes_10 : decode cX5_readTimes 10 = .ok (.aload_n 0, 1) := by decide +kernel
theorem dX5_readTimes_11 : decode cX5_readTimes 11 = .ok (.iconst 2, 1) := by decide +kernel
theorem dX5_readTimes_12 : decode cX5_readTimes 12 = .ok (.invokevirtual 46, 3) := by decide +kernel
theorem dX5_readTimes_15 : decode cX5_readTimes 15 = .ok (.ifCond .ne 9, 3) := by decide +kernel
theorem dX5_readTimes_18 : decode cX5_readTimes 18 = .ok (.aload_n 0, 1) := by decide +kernel
theorem dX5_readTimes_19 : decode cX5_readTimes 19 = .ok (.iconst 2, 1) := by decide +kernel
theorem dX5_readTimes_20 : decode cX5_readTimes 20 = .ok (.invokevirtual 56, 3) := by decide +kernel
theorem dX5_readTimes_23 : decode cX5_readTimes 23 = .ok (.ireturn, 1) := by decide +kernel
theorem dX5_readTimes_24 : decode cX5_readTimes 24 = .ok (.aload_n 0, 1) := by decide +kernel
theorem dX5_readTimes_25 : decode cX5_readTimes 25 = .ok (.getfield 28, 3) := by decide +kernel
theorem dX5_readTimes_28 : decode cX5_readTimes 28 = .ok (.aload_n 0, 1) := by decide +kernel
theorem dX5_readTimes_29 : decode cX5_readTimes 29 = .ok (.getfield 32, 3) := by decide +kernel
theorem dX5_readTimes_32 : decode cX5_readTimes 32 = .ok (.invokevirtual 66, 3) := by decide +kernel
theorem dX5_readTimes_35 : decode cX5_readTimes 35 = .ok (.istore_n 2, 1) := by decide +kernel
theorem dX5_readTimes_36 : decode cX5_readTimes 36 = .ok (.iload_n 2, 1) := by decide +kernel
theorem dX5_readTimes_37 : decode cX5_readTimes 37 = .ok (.iconst 1, 1) := by decide +kernel
theorem dX5_readTimes_38 : decode cX5_readTimes 38 = .ok (.if_icmp .lt 9, 3) := by decide +kernel
theorem dX5_readTimes_41 : decode cX5_readTimes 41 = .ok (.iload_n 2, 1) := by decide +kernel
theorem dX5_readTimes_42 : decode cX5_readTimes 42 = .ok (.bipush 9, 2) := by decide +kernel
theorem dX5_readTimes_44 : decode cX5_readTimes 44 = .ok (.if_icmp .le 9, 3) := by decide +kernel
theorem dX5_readTimes_47 : decode cX5_readTimes 47 = .ok (.aload_n 0, 1) := by decide +kernel
theorem dX5_readTimes_48 : decode cX5_readTimes 48 = .ok (.iconst 3, 1) := by decide +kernel
theorem dX5_readTimes_49 : decode cX5_readTimes 49 = .ok (.invokevirtual 56, 3) := by decide +kernel
theorem dX5_readTimes_52 : decode cX5_readTimes 52 = .ok (.ireturn, 1) := by decide +kernel
theorem dX5_readTimes_53 : decode cX5_readTimes 53 = .ok (.aload_n 0, 1) := by decide +kernel
theorem dX5_readTimes_54 : decode cX5_readTimes 54 = .ok (.getfield 21, 3) := by decide +kernel
theorem dX5_readTimes_57 : decode cX5_readTimes 57 = .ok (.aload_n 0, 1) := by decide +kernel
theorem dX5_readTimes_58 : decode cX5_readTimes 58 = .ok (.getfield 21, 3) := by decide +kernel
theorem dX5_readTimes_61 : decode cX5_readTimes 61 = .ok (.getfield 90, 3) := by decide +kernel
theorem dX5_readTimes_64 : decode cX5_readTimes 64 = .ok (.invokevirtual 96, 3) := by decide +kernel
theorem dX5_readTimes_67 : decode cX5_readTimes 67 = .ok (.iload_n 2, 1) := by decide +kernel
theorem dX5_readTimes_68 : decode cX5_readTimes 68 = .ok (.iadd, 1) := by decide +kernel
theorem dX5_readTimes_69 : decode cX5_readTimes 69 = .ok (.iconst 1, 1) := by decide +kernel
theorem dX5_readTimes_70 : decode cX5_readTimes 70 = .ok (.isub, 1) := by decide +kernel
theorem dX5_readTimes_71 : decode cX5_readTimes 71 = .ok (.bipush 9, 2) := by decide +kernel
theorem dX5_readTimes_73 : decode cX5_readTimes 73 = .ok (.if_icmp .le 9, 3) := by decide +kernel
theorem dX5_readTimes_76 : decode cX5_readTimes 76 = .ok (.aload_n 0, 1) := by decide +kernel
theorem dX5_readTimes_77 : decode cX5_readTimes 77 = .ok (.iconst 4, 1) := by decide +kernel
theorem dX5_readTimes_78 : decode cX5_readTimes 78 = .ok (.invokevirtual 56, 3) := by decide +kernel
theorem dX5_readTimes_81 : decode cX5_readTimes 81 = .ok (.ireturn, 1) := by decide +kernel
theorem dX5_readTimes_82 : decode cX5_readTimes 82 = .ok (.aload_n 0, 1) := by decide +kernel
theorem dX5_readTimes_83 : decode cX5_readTimes 83 = .ok (.getfield 21, 3) := by decide +kernel
theorem dX5_readTimes_86 : decode cX5_readTimes 86 = .ok (.aload_n 0, 1) := by decide +kernel
theorem dX5_readTimes_87 : decode cX5_readTimes 87 = .ok (.getfield 21, 3) := by decide +kernel
theorem dX5_readTimes_90 : decode cX5_readTimes 90 = .ok (.getfield 90, 3) := by decide +kernel
theorem dX5_readTimes_93 : decode cX5_readTimes 93 = .ok (.iload_n 1, 1) := by decide +kernel
theorem dX5_readTimes_94 : decode cX5_readTimes 94 = .ok (.iload_n 2, 1) := by decide +kernel
theorem dX5_readTimes_95 : decode cX5_readTimes 95 = .ok (.iconst 1, 1) := by decide +kernel
theorem dX5_readTimes_96 : decode cX5_readTimes 96 = .ok (.isub, 1) := by decide +kernel
theorem dX5_readTimes_97 : decode cX5_readTimes 97 = .ok (.invokevirtual 99, 3) := by decide +kernel
theorem dX5_readTimes_100 : decode cX5_readTimes 100 = .ok (.aload_n 0, 1) := by decide +kernel
theorem dX5_readTimes_101 : decode cX5_readTimes 101 = .ok (.dup, 1) := by decide +kernel
theorem dX5_readTimes_102 : decode cX5_readTimes 102 = .ok (.getfield 32, 3) := by decide +kernel
theorem dX5_readTimes_105 : decode cX5_readTimes 105 = .ok (.iconst 1, 1) := by decide +kernel
theorem dX5_readTimes_106 : decode cX5_readTimes 106 = .ok (.iadd, 1) := by decide +kernel
theorem dX5_readTimes_107 : decode cX5_readTimes 107 = .ok (.putfield 32, 3) := by decide +kernel
theorem dX5_readTimes_110 : decode cX5_readTimes 110 = .ok (.iconst 1, 1) := by decide +kernel
theorem dX5_readTimes_111 : decode cX5_readTimes 111 = .ok (.ireturn, 1) := by decide +kernel
theorem dX5_readChange_0 : decode cX5_readChange 0 = .ok (.aload_n 0, 1) := by decide +kernel
theorem dX5_readChange_1 : decode cX5_readChange 1 = .ok (.getfield 21, 3) := by decide +kernel
theorem dX5_readChange_4 : decode cX5_readChange 4 = .ok (.getfield 106, 3) := by decide +kernel
theorem dX5_readChange_7 : decode cX5_readChange 7 = .ok (.bipush 6, 2) := by decide +kernel
theorem dX5_readChange_9 : decode cX5_readChange 9 = .ok (.if_icmp .ne 9, 3) := by decide +kernel
theorem dX5_readChange_12 : decode cX5_readChange 12 = .ok (.aload_n 0, 1) := by decide +kernel
theorem dX5_readChange_13 : decode cX5_readChange 13 = .ok (.iconst 4, 1) := by decide +kernel
theorem dX5_readChange_14 : decode cX5_readChange 14 = .ok (.invokevirtual 56, 3) := by decide +kernel
theorem dX5_readChange_17 : decode cX5_readChange 17 = .ok (.ireturn, 1) := by decide +kernel
theorem dX5_readChange_18 : decode cX5_readChange 18 = .ok (.aload_n 0, 1) := by decide +kernel
theorem dX5_readChange_19 : decode cX5_readChange 19 = .ok (.dup, 1) := by decide +kernel
theorem dX5_readChange_20 : decode cX5_readChange 20 = .ok (.getfield 32, 3) := by decide +kernel
theorem dX5_readChange_23 : decode cX5_readChange 23 = .ok (.iconst 1, 1) := by decide +kernel
theorem dX5_readChange_24 : decode cX5_readChange 24 = .ok (.iadd, 1) := by decide +kernel
theorem dX5_readChange_25 : decode cX5_readChange 25 = .ok (.putfield 32, 3) := by decide +kernel
theorem dX5_readChange_28 : decode cX5_readChange 28 = .ok (.aload_n 0, 1) := by decide +kernel
theorem dX5_readChange_29 : decode cX5_readChange 29 = .ok (.iconst 0, 1) := by decide +kernel
theorem dX5_readChange_30 : decode cX5_readChange 30 = .ok (.invokevirtual 109, 3) := by decide +kernel
theorem dX5_readChange_33 : decode cX5_readChange 33 = .ok (.ifCond .ne 5, 3) := by decide +kernel
theorem dX5_readChange_36 : decode cX5_readChange 36 = .ok (.iconst 0, 1) := by decide +kernel
theorem dX5_readChange_37 : decode cX5_readChange 37 = .ok (.ireturn, 1) := by decide +kernel
theorem dX5_readChange_38 : decode cX5_readChange 38 = .ok (.aload_n 0, 1) := by decide +kernel
theorem dX5_readChange_39 : decode cX5_readChange 39 = .ok (.bipush 9, 2) := by decide +kernel
theorem dX5_readChange_41 : decode cX5_readChange 41 = .ok (.invokevirtual 46, 3) := by decide +kernel
theorem dX5_readChange_44 : decode cX5_readChange 44 = .ok (.ifCond .ne 9, 3) := by decide +kernel
theorem dX5_readChange_47 : decode cX5_readChange 47 = .ok (.aload_n 0, 1) := by decide +kernel
theorem dX5_readChange_48 : decode cX5_readChange 48 = .ok (.iconst 2, 1) := by decide +kernel
theorem dX5_readChange_49 : decode cX5_readChange 49 = .ok (.invokevirtual 56, 3) := by decide +kernel
theorem dX5_readChange_52 : decode cX5_readChange 52 = .ok (.ireturn, 1) := by decide +kernel
theorem dX5_readChange_53 : decode cX5_readChange 53 = .ok (.aload_n 0, 1) := by decide +kernel
theorem dX5_readChange_54 : decode cX5_readChange 54 = .ok (.dup, 1) := by decide +kernel
theorem dX5_readChange_55 : decode cX5_readChange 55 = .ok (.getfield 32, 3) := by decide +kernel
theorem dX5_readChange_58 : decode cX5_readChange 58 = .ok (.iconst 1, 1) := by decide +kernel
theorem dX5_readChange_59 : decode cX5_readChange 59 = .ok (.iadd, 1) := by decide +kernel
theorem dX5_readChange_60 : decode cX5_readChange 60 = .ok (.putfield 32, 3) := by decide +kernel
theorem dX5_readChange_63 : decode cX5_readChange 63 = .ok (.aload_n 0, 1) := by decide +kernel
theorem dX5_readChange_64 : decode cX5_readChange 64 = .ok (.iconst 1, 1) := by decide +kernel
theorem dX5_readChange_65 : decode cX5_readChange 65 = .ok (.invokevirtual 109, 3) := by decide +kernel
theorem dX5_readChange_68 : decode cX5_readChange 68 = .ok (.ifCond .eq 10, 3) := by decide +kernel
theorem dX5_readChange_71 : decode cX5_readChange 71 = .ok (.aload_n 0, 1) := by decide +kernel
theorem dX5_readChange_72 : decode cX5_readChange 72 = .ok (.invokevirtual 84, 3) := by decide +kernel
theorem dX5_readChange_75 : decode cX5_readChange 75 = .ok (.ifCond .ne 5, 3) := by decide +kernel
theorem dX5_readChange_78 : decode cX5_readChange 78 = .ok (.iconst 0, 1) := by decide +kernel
theorem dX5_readChange_79 : decode cX5_readChange 79 = .ok (.ireturn, 1) := by decide +kernel
theorem dX5_readChange_80 : decode cX5_readChange 80 = .ok (.aload_n 0, 1) := by decide +kernel
theorem dX5_readChange_81 : decode cX5_readChange 81 = .ok (.getfield 21, 3) := by decide +kernel
theorem dX5_readChange_84 : decode cX5_readChange 84 = .ok (.dup, 1) := by decide +kernel
theorem dX5_readChange_85 : decode cX5_readChange 85 = .ok (.getfield 106, 3) := by decide +kernel
theorem dX5_readChange_88 : decode cX5_readChange 88 = .ok (.iconst 1, 1) := by decide +kernel
theorem dX5_readChange_89 : decode cX5_readChange 89 = .ok (.iadd, 1) := by decide +kernel
theorem dX5_readChange_90 : decode cX5_readChange 90 = .ok (.putfield 106, 3) := by decide +kernel
theorem dX5_readChange_93 : decode cX5_readChange 93 = .ok (.iconst 1, 1) := by decide +kernel
theorem dX5_readChange_94 : decode cX5_readChange 94 = .ok (.ireturn, 1) := by decide +kernel
theorem dX5_readSide_0 : decode cX5_readSide 0 = .ok (.aload_n 0, 1) := by decide +kernel
theorem dX5_readSide_1 : decode cX5_readSide 1 = .ok (.iconst 2, 1) := by decide +kernel
theorem dX5_readSide_2 : decode cX5_readSide 2 = .ok (.invokevirtual 46, 3) := by decide +kernel
theorem dX5_readSide_5 : decode cX5_readSide 5 = .ok (.ifCond .ne 9, 3) := by decide +kernel
theorem dX5_readSide_8 : decode cX5_readSide 8 = .ok (.aload_n 0, 1) := by decide +kernel
theorem dX5_readSide_9 : decode cX5_readSide 9 = .ok (.iconst 2, 1) := by decide +kernel
theorem dX5_readSide_10 : decode cX5_readSide 10 = .ok (.invokevirtual 56, 3) := by decide +kernel
theorem dX5_readSide_13 : decode cX5_readSide 13 = .ok (.ireturn, 1) := by decide +kernel
theorem dX5_readSide_14 : decode cX5_readSide 14 = .ok (.iconst 0, 1) := by decide +kernel
theorem dX5_readSide_15 : decode cX5_readSide 15 = .ok (.istore_n 2, 1) := by decide +kernel
theorem dX5_readSide_16 : decode cX5_readSide 16 = .ok (.iload_n 2, 1) := by decide +kernel
theorem dX5_readSide_17 : decode cX5_readSide 17 = .ok (.sipush 700, 3) := by decide +kernel
theorem dX5_readSide_20 : decode cX5_readSide 20 = .ok (.if_icmp .ge 84, 3) := by decide +kernel
theorem dX5_readSide_23 : decode cX5_readSide 23 = .ok (.aload_n 0, 1) := by decide +kernel
theorem dX5_readSide_24 : decode cX5_readSide 24 = .ok (.iconst 2, 1) := by decide +kernel
theorem dX5_readSide_25 : decode cX5_readSide 25 = .ok (.invokevirtual 46, 3) := by decide +kernel
theorem dX5_readSide_28 : decode cX5_readSide 28 = .ok (.ifCond .eq 76, 3) := by decide +kernel
theorem dX5_readSide_31 : decode cX5_readSide 31 = .ok (.aload_n 0, 1) := by decide +kernel
theorem dX5_readSide_32 : decode cX5_readSide 32 = .ok (.getfield 21, 3) := by decide +kernel
theorem dX5_readSide_35 : decode cX5_readSide 35 = .ok (.aload_n 0, 1) := by decide +kernel
theorem dX5_readSide_36 : decode cX5_readSide 36 = .ok (.getfield 28, 3) := by decide +kernel
theorem dX5_readSide_39 : decode cX5_readSide 39 = .ok (.aload_n 0, 1) := by decide +kernel
theorem dX5_readSide_40 : decode cX5_readSide 40 = .ok (.getfield 32, 3) := by decide +kernel
theorem dX5_readSide_43 : decode cX5_readSide 43 = .ok (.invokevirtual 66, 3) := by decide +kernel
theorem dX5_readSide_46 : decode cX5_readSide 46 = .ok (.invokevirtual 74, 3) := by decide +kernel
theorem dX5_readSide_49 : decode cX5_readSide 49 = .ok (.istore_n 3, 1) := by decide +kernel
theorem dX5_readSide_50 : decode cX5_readSide 50 = .ok (.iload_n 3, 1) := by decide +kernel
theorem dX5_readSide_51 : decode cX5_readSide 51 = .ok (.iconst (-1), 1) := by decide +kernel
theorem dX5_readSide_52 : decode cX5_readSide 52 = .ok (.if_icmp .ne 9, 3) := by decide +kernel
theorem dX5_readSide_55 : decode cX5_readSide 55 = .ok (.aload_n 0, 1) := by decide +kernel
theorem dX5_readSide_56 : decode cX5_readSide 56 = .ok (.iconst 3, 1) := by decide +kernel
theorem dX5_readSide_57 : decode cX5_readSide 57 = .ok (.invokevirtual 56, 3) := by decide +kernel
theorem dX5_readSide_60 : decode cX5_readSide 60 = .ok (.ireturn, 1) := by decide +kernel
theorem dX5_readSide_61 : decode cX5_readSide 61 = .ok (.iload_n 2, 1) := by decide +kernel
theorem dX5_readSide_62 : decode cX5_readSide 62 = .ok (.iconst 3, 1) := by decide +kernel
theorem dX5_readSide_63 : decode cX5_readSide 63 = .ok (.if_icmp .ne 9, 3) := by decide +kernel
theorem dX5_readSide_66 : decode cX5_readSide 66 = .ok (.aload_n 0, 1) := by decide +kernel
theorem dX5_readSide_67 : decode cX5_readSide 67 = .ok (.iconst 4, 1) := by decide +kernel
theorem dX5_readSide_68 : decode cX5_readSide 68 = .ok (.invokevirtual 56, 3) := by decide +kernel
theorem dX5_readSide_71 : decode cX5_readSide 71 = .ok (.ireturn, 1) := by decide +kernel
theorem dX5_readSide_72 : decode cX5_readSide 72 = .ok (.aload_n 0, 1) := by decide +kernel
theorem dX5_readSide_73 : decode cX5_readSide 73 = .ok (.getfield 21, 3) := by decide +kernel
theorem dX5_readSide_76 : decode cX5_readSide 76 = .ok (.aload_n 0, 1) := by decide +kernel
theorem dX5_readSide_77 : decode cX5_readSide 77 = .ok (.getfield 21, 3) := by decide +kernel
theorem dX5_readSide_80 : decode cX5_readSide 80 = .ok (.getfield 106, 3) := by decide +kernel
theorem dX5_readSide_83 : decode cX5_readSide 83 = .ok (.iload_n 1, 1) := by decide +kernel
theorem dX5_readSide_84 : decode cX5_readSide 84 = .ok (.iload_n 3, 1) := by decide +kernel
theorem dX5_readSide_85 : decode cX5_readSide 85 = .ok (.invokevirtual 112, 3) := by decide +kernel
theorem dX5_readSide_88 : decode cX5_readSide 88 = .ok (.aload_n 0, 1) := by decide +kernel
theorem dX5_readSide_89 : decode cX5_readSide 89 = .ok (.dup, 1) := by decide +kernel
theorem dX5_readSide_90 : decode cX5_readSide 90 = .ok (.getfield 32, 3) := by decide +kernel
theorem dX5_readSide_93 : decode cX5_readSide 93 = .ok (.iconst 1, 1) := by decide +kernel
theorem dX5_readSide_94 : decode cX5_readSide 94 = .ok (.iadd, 1) := by decide +kernel
theorem dX5_readSide_95 : decode cX5_readSide 95 = .ok (.putfield 32, 3) := by decide +kernel
theorem dX5_readSide_98 : decode cX5_readSide 98 = .ok (.iinc 2 1, 3) := by decide +kernel
theorem dX5_readSide_101 : decode cX5_readSide 101 = .ok (.goto (-85), 3) := by decide +kernel
theorem dX5_readSide_104 : decode cX5_readSide 104 = .ok (.iconst 1, 1) := by decide +kernel
theorem dX5_readSide_105 : decode cX5_readSide 105 = .ok (.ireturn, 1) := by decide +kernel
theorem dX6_init_0 : decode cX6_init 0 = .ok (.aload_n 0, 1) := by decide +kernel
theorem dX6_init_1 : decode cX6_init 1 = .ok (.invokespecial 3, 3) := by decide +kernel
theorem dX6_init_4 : decode cX6_init 4 = .ok (.aload_n 0, 1) := by decide +kernel
theorem dX6_init_5 : decode cX6_init 5 = .ok (.iconst 0, 1) := by decide +kernel
theorem dX6_init_6 : decode cX6_init 6 = .ok (.putfield 9, 3) := by decide +kernel
theorem dX6_init_9 : decode cX6_init 9 = .ok (.aload_n 0, 1) := by decide +kernel
theorem dX6_init_10 : decode cX6_init 10 = .ok (.iconst 0, 1) := by decide +kernel
theorem dX6_init_11 : decode cX6_init 11 = .ok (.putfield 15, 3) := by decide +kernel
theorem dX6_init_14 : decode cX6_init 14 = .ok (.aload_n 0, 1) := by decide +kernel
theorem dX6_init_15 : decode cX6_init 15 = .ok (.iconst 0, 1) := by decide +kernel
theorem dX6_init_16 : decode cX6_init 16 = .ok (.putfield 18, 3) := by decide +kernel
theorem dX6_init_19 : decode cX6_init 19 = .ok (.aload_n 0, 1) := by decide +kernel
theorem dX6_init_20 : decode cX6_init 20 = .ok (.sipush 24310, 3) := by decide +kernel
theorem dX6_init_23 : decode cX6_init 23 = .ok (.newarray .int, 2) := by decide +kernel
theorem dX6_init_25 : decode cX6_init 25 = .ok (.putfield 21, 3) := by decide +kernel
theorem dX6_init_28 : decode cX6_init 28 = .ok (.aload_n 0, 1) := by decide +kernel
theorem dX6_init_29 : decode cX6_init 29 = .ok (.sipush 380, 3) := by decide +kernel
theorem dX6_init_32 : decode cX6_init 32 = .ok (.newarray .long, 2) := by decide +kernel
theorem dX6_init_34 : decode cX6_init 34 = .ok (.putfield 25, 3) := by decide +kernel
theorem dX6_init_37 : decode cX6_init 37 = .ok (.aload_n 0, 1) := by decide +kernel
theorem dX6_init_38 : decode cX6_init 38 = .ok (.bipush 6, 2) := by decide +kernel
theorem dX6_init_40 : decode cX6_init 40 = .ok (.newarray .int, 2) := by decide +kernel
theorem dX6_init_42 : decode cX6_init 42 = .ok (.putfield 29, 3) := by decide +kernel
theorem dX6_init_45 : decode cX6_init 45 = .ok (.aload_n 0, 1) := by decide +kernel
theorem dX6_init_46 : decode cX6_init 46 = .ok (.bipush 6, 2) := by decide +kernel
theorem dX6_init_48 : decode cX6_init 48 = .ok (.newarray .int, 2) := by decide +kernel
theorem dX6_init_50 : decode cX6_init 50 = .ok (.putfield 32, 3) := by decide +kernel
theorem dX6_init_53 : decode cX6_init 53 = .ok (.aload_n 0, 1) := by decide +kernel
theorem dX6_init_54 : decode cX6_init 54 = .ok (.bipush 90, 2) := by decide +kernel
theorem dX6_init_56 : decode cX6_init 56 = .ok (.newarray .int, 2) := by decide +kernel
theorem dX6_init_58 : decode cX6_init 58 = .ok (.putfield 35, 3) := by decide +kernel
theorem dX6_init_61 : decode cX6_init 61 = .ok (.iconst 0, 1) := by decide +kernel
theorem dX6_init_62 : decode cX6_init 62 = .ok (.istore_n 1, 1) := by decide +kernel
theorem dX6_init_63 : decode cX6_init 63 = .ok (.iload_n 1, 1) := by decide +kernel
theorem dX6_init_64 : decode cX6_init 64 = .ok (.bipush 9, 2) := by decide +kernel
theorem dX6_init_66 : decode cX6_init 66 = .ok (.if_icmp .gt 80, 3) := by decide +kernel
theorem dX6_init_69 : decode cX6_init 69 = .ok (.iconst 0, 1) := by decide +kernel
theorem dX6_init_70 : decode cX6_init 70 = .ok (.istore_n 2, 1) := by decide +kernel
theorem dX6_init_71 : decode cX6_init 71 = .ok (.iload_n 2, 1) := by decide +kernel
theorem dX6_init_72 : decode cX6_init 72 = .ok (.bipush 8, 2) := by decide +kernel
theorem dX6_init_74 : decode cX6_init 74 = .ok (.if_icmp .gt 66, 3) := by decide +kernel
theorem dX6_init_77 : decode cX6_init 77 = .ok (.iload_n 1, 1) := by decide +kernel
theorem dX6_init_78 : decode cX6_init 78 = .ok (.ifCond .eq 7, 3) := by decide +kernel
theorem dX6_init_81 : decode cX6_init 81 = .ok (.iload_n 2, 1) := by decide +kernel
theorem dX6_init_82 : decode cX6_init 82 = .ok (.ifCond .ne 7, 3) := by decide +kernel
theorem dX6_init_85 : decode cX6_init 85 = .ok (.iconst 1, 1) := by decide +kernel
theorem dX6_init_86 : decode cX6_init 86 = .ok (.goto 4, 3) := by decide +kernel
theorem dX6_init_89 : decode cX6_init 89 = .ok (.iconst 0, 1) := by decide +kernel
theorem dX6_init_90 : decode cX6_init 90 = .ok (.istore_n 3, 1) := by decide +kernel
theorem dX6_init_91 : decode cX6_init 91 = .ok (.iload_n 1, 1) := by decide +kernel
theorem dX6_init_92 : decode cX6_init 92 = .ok (.bipush 9, 2) := by decide +kernel
theorem dX6_init_94 : decode cX6_init 94 = .ok (.imul, 1) := by decide +kernel
theorem dX6_init_95 : decode cX6_init 95 = .ok (.iload_n 2, 1) := by decide +kernel
theorem dX6_init_96 : decode cX6_init 96 = .ok (.iadd, 1) := by decide +kernel
theorem dX6_init_97 : decode cX6_init 97 = .ok (.istore 4, 2) := by decide +kernel
theorem dX6_init_99 : decode cX6_init 99 = .ok (.aload_n 0, 1) := by decide +kernel
theorem dX6_init_100 : decode cX6_init 100 = .ok (.getfield 35, 3) := by decide +kernel
theorem dX6_init_103 : decode cX6_init 103 = .ok (.iload 4, 2) := by decide +kernel
theorem dX6_init_105 : decode cX6_init 105 = .ok (.iload_n 3, 1) := by decide +kernel
theorem dX6_init_106 : decode cX6_init 106 = .ok (.ifCond .eq 7, 3) := by decide +kernel
theorem dX6_init_109 : decode cX6_init 109 = .ok (.iconst 1, 1) := by decide +kernel
theorem dX6_init_110 : decode cX6_init 110 = .ok (.goto 23, 3) := by decide +kernel
theorem dX6_init_113 : decode cX6_init 113 = .ok (.aload_n 0, 1) := by decide +kernel
theorem dX6_init_114 : decode cX6_init 114 = .ok (.getfield 35, 3) := by decide +kernel
theorem dX6_init_117 : decode cX6_init 117 = .ok (.iload 4, 2) := by decide +kernel
theorem dX6_init_119 : decode cX6_init 119 = .ok (.bipush 9, 2) := by decide +kernel
theorem dX6_init_121 : decode cX6_init 121 = .ok (.isub, 1) := by decide +kernel
theorem dX6_init_122 : decode cX6_init 122 = .ok (.iaload, 1) := by decide +kernel
theorem dX6_init_123 : decode cX6_init 123 = .ok (.aload_n 0, 1) := by decide +kernel
theorem dX6_init_124 : decode cX6_init 124 = .ok (.getfield 35, 3) := by decide +kernel
theorem dX6_init_127 : decode cX6_init 127 = .ok (.iload 4, 2) := by decide +kernel
theorem dX6_init_129 : decode cX6_init 129 = .ok (.iconst 1, 1) := by decide +kernel
theorem dX6_init_130 : decode cX6_init 130 = .ok (.isub, 1) := by decide +kernel
theorem dX6_init_131 : decode cX6_init 131 = .ok (.iaload, 1) := by decide +kernel
theorem dX6_init_132 : decode cX6_init 132 = .ok (.iadd, 1) := by decide +kernel
theorem dX6_init_133 : decode cX6_init 133 = .ok (.iastore, 1) := by decide +kernel
theorem dX6_init_134 : decode cX6_init 134 = .ok (.iinc 2 1, 3) := by decide +kernel
theorem dX6_init_137 : decode cX6_init 137 = .ok (.goto (-66), 3) := by decide +kernel
theorem dX6_init_140 : decode cX6_init 140 = .ok (.iinc 1 1, 3) := by decide +kernel
theorem dX6_init_143 : decode cX6_init 143 = .ok (.goto (-80), 3) := by decide +kernel
theorem dX6_init_146 : decode cX6_init 146 = .ok (.return_, 1) := by decide +kernel
theorem dX6_begin_0 : decode cX6_begin 0 = .ok (.aload_n 0, 1) := by decide +kernel
theorem dX6_begin_1 : decode cX6_begin 1 = .ok (.getfield 25, 3) := by decide +kernel
theorem dX6_begin_4 : decode cX6_begin 4 = .ok (.lconst 0, 1) := by decide +kernel
theorem dX6_begin_5 : decode cX6_begin 5 = .ok (.invokestatic 38, 3) := by decide +kernel
theorem dX6_begin_8 : decode cX6_begin 8 = .ok (.aload_n 0, 1) := by decide +kernel
theorem dX6_begin_9 : decode cX6_begin 9 = .ok (.iconst 0, 1) := by decide +kernel
theorem dX6_begin_10 : decode cX6_begin 10 = .ok (.putfield 9, 3) := by decide +kernel
theorem dX6_begin_13 : decode cX6_begin 13 = .ok (.aload_n 0, 1) := by decide +kernel
theorem dX6_begin_14 : decode cX6_begin 14 = .ok (.iconst 0, 1) := by decide +kernel
theorem dX6_begin_15 : decode cX6_begin 15 = .ok (.putfield 15, 3) := by decide +kernel
theorem dX6_begin_18 : decode cX6_begin 18 = .ok (.aload_n 0, 1) := by decide +kernel
theorem dX6_begin_19 : decode cX6_begin 19 = .ok (.aload_n 1, 1) := by decide +kernel
theorem dX6_begin_20 : decode cX6_begin 20 = .ok (.getfield 44, 3) := by decide +kernel
theorem dX6_begin_23 : decode cX6_begin 23 = .ok (.bipush 6, 2) := by decide +kernel
theorem dX6_begin_25 : decode cX6_begin 25 = .ok (.invokestatic 47, 3) := by decide +kernel
theorem dX6_begin_28 : decode cX6_begin 28 = .ok (.putfield 18, 3) := by decide +kernel
theorem dX6_begin_31 : decode cX6_begin 31 = .ok (.iconst 0, 1) := by decide +kernel
theorem dX6_begin_32 : decode cX6_begin 32 = .ok (.istore_n 3, 1) := by decide +kernel
theorem dX6_begin_33 : decode cX6_begin 33 = .ok (.iload_n 3, 1) := by decide +kernel
theorem dX6_begin_34 : decode cX6_begin 34 = .ok (.aload_n 0, 1) := by decide +kernel
theorem dX6_begin_35 : decode cX6_begin 35 = .ok (.getfield 18, 3) := by decide +kernel
theorem dX6_begin_38 : decode cX6_begin 38 = .ok (.if_icmp .ge 83, 3) := by decide +kernel
theorem dX6_begin_41 : decode cX6_begin 41 = .ok (.aload_n 0, 1) := by decide +kernel
theorem dX6_begin_42 : decode cX6_begin 42 = .ok (.getfield 29, 3) := by decide +kernel
theorem dX6_begin_45 : decode cX6_begin 45 = .ok (.iload_n 3, 1) := by decide +kernel
theorem dX6_begin_46 : decode cX6_begin 46 = .ok (.iconst 0, 1) := by decide +kernel
theorem dX6_begin_47 : decode cX6_begin 47 = .ok (.iastore, 1) := by decide +kernel
theorem dX6_begin_48 : decode cX6_begin 48 = .ok (.aload_n 0, 1) := by decide +kernel
theorem dX6_begin_49 : decode cX6_begin 49 = .ok (.getfield 32, 3) := by decide +kernel
theorem dX6_begin_52 : decode cX6_begin 52 = .ok (.iload_n 3, 1) := by decide +kernel
theorem dX6_begin_53 : decode cX6_begin 53 = .ok (.iconst 0, 1) := by decide +kernel
theorem dX6_begin_54 : decode cX6_begin 54 = .ok (.iastore, 1) := by decide +kernel
theorem dX6_begin_55 : decode cX6_begin 55 = .ok (.iconst 0, 1) := by decide +kernel
theorem dX6_begin_56 : decode cX6_begin 56 = .ok (.istore 4, 2) := by decide +kernel
theorem dX6_begin_58 : decode cX6_begin 58 = .ok (.iload 4, 2) := by decide +kernel
theorem dX6_begin_60 : decode cX6_begin 60 = .ok (.bipush 8, 2) := by decide +kernel
theorem dX6_begin_62 : decode cX6_begin 62 = .ok (.if_icmp .ge 53, 3) := by decide +kernel
theorem dX6_begin_65 : decode cX6_begin 65 = .ok (.aload_n 0, 1) := by decide +kernel
theorem dX6_begin_66 : decode cX6_begin 66 = .ok (.getfield 29, 3) := by decide +kernel
theorem dX6_begin_69 : decode cX6_begin 69 = .ok (.iload_n 3, 1) := by decide +kernel
theorem dX6_begin_70 : decode cX6_begin 70 = .ok (.dup2, 1) := by decide +kernel
theorem dX6_begin_71 : decode cX6_begin 71 = .ok (.iaload, 1) := by decide +kernel
theorem dX6_begin_72 : decode cX6_begin 72 = .ok (.aload_n 1, 1) := by decide +kernel
theorem dX6_begin_73 : decode cX6_begin 73 = .ok (.iload_n 3, 1) := by decide +kernel
theorem dX6_begin_74 : decode cX6_begin 74 = .ok (.iconst 0, 1) := by decide +kernel
theorem dX6_begin_75 : decode cX6_begin 75 = .ok (.iload 4, 2) := by decide +kernel
theorem dX6_begin_77 : decode cX6_begin 77 = .ok (.invokevirtual 53, 3) := by decide +kernel
theorem dX6_begin_80 : decode cX6_begin 80 = .ok (.iconst 4, 1) := by decide +kernel
theorem dX6_begin_81 : decode cX6_begin 81 = .ok (.iload 4, 2) := by decide +kernel
theorem dX6_begin_83 : decode cX6_begin 83 = .ok (.imul, 1) := by decide +kernel
theorem dX6_begin_84 : decode cX6_begin 84 = .ok (.ishl, 1) := by decide +kernel
theorem dX6_begin_85 : decode cX6_begin 85 = .ok (.ior, 1) := by decide +kernel
theorem dX6_begin_86 : decode cX6_begin 86 = .ok (.iastore, 1) := by decide +kernel
theorem dX6_begin_87 : decode cX6_begin 87 = .ok (.aload_n 0, 1) := by decide +kernel
theorem dX6_begin_88 : decode cX6_begin 88 = .ok (.getfield 32, 3) := by decide +kernel
theorem dX6_begin_91 : decode cX6_begin 91 = .ok (.iload_n 3, 1) := by decide +kernel
theorem dX6_begin_92 : decode cX6_begin 92 = .ok (.dup2, 1) := by decide +kernel
theorem dX6_begin_93 : decode cX6_begin 93 = .ok (.iaload, 1) := by decide +kernel
theorem dX6_begin_94 : decode cX6_begin 94 = .ok (.aload_n 1, 1) := by decide +kernel
theorem dX6_begin_95 : decode cX6_begin 95 = .ok (.iload_n 3, 1) := by decide +kernel
theorem dX6_begin_96 : decode cX6_begin 96 = .ok (.iconst 1, 1) := by decide +kernel
theorem dX6_begin_97 : decode cX6_begin 97 = .ok (.iload 4, 2) := by decide +kernel
theorem dX6_begin_99 : decode cX6_begin 99 = .ok (.invokevirtual 53, 3) := by decide +kernel
theorem dX6_begin_102 : decode cX6_begin 102 = .ok (.iconst 4, 1) := by decide +kernel
theorem dX6_begin_103 : decode cX6_begin 103 = .ok (.iload 4, 2) := by decide +kernel
theorem dX6_begin_105 : decode cX6_begin 105 = .ok (.imul, 1) := by decide +kernel
theorem dX6_begin_106 : decode cX6_begin 106 = .ok (.ishl, 1) := by decide +kernel
theorem dX6_begin_107 : decode cX6_begin 107 = .ok (.ior, 1) := by decide +kernel
theorem dX6_begin_108 : decode cX6_begin 108 = .ok (.iastore, 1) := by decide +kernel
theorem dX6_begin_109 : decode cX6_begin 109 = .ok (.iinc 4 1, 3) := by decide +kernel
theorem dX6_begin_112 : decode cX6_begin 112 = .ok (.goto (-54), 3) := by decide +kernel
theorem dX6_begin_115 : decode cX6_begin 115 = .ok (.iinc 3 1, 3) := by decide +kernel
theorem dX6_begin_118 : decode cX6_begin 118 = .ok (.goto (-85), 3) := by decide +kernel
theorem dX6_begin_121 : decode cX6_begin 121 = .ok (.iconst 0, 1) := by decide +kernel
theorem dX6_begin_122 : decode cX6_begin 122 = .ok (.istore_n 3, 1) := by decide +kernel
theorem dX6_begin_123 : decode cX6_begin 123 = .ok (.iconst 0, 1) := by decide +kernel
theorem dX6_begin_124 : decode cX6_begin 124 = .ok (.istore 4, 2) := by decide +kernel
theorem dX6_begin_126 : decode cX6_begin 126 = .ok (.iload 4, 2) := by decide +kernel
theorem dX6_begin_128 : decode cX6_begin 128 = .ok (.bipush 8, 2) := by decide +kernel
theorem dX6_begin_130 : decode cX6_begin 130 = .ok (.if_icmp .ge 24, 3) := by decide +kernel
theorem dX6_begin_133 : decode cX6_begin 133 = .ok (.iload_n 3, 1) := by decide +kernel
theorem dX6_begin_134 : decode cX6_begin 134 = .ok (.aload_n 1, 1) := by decide +kernel
theorem dX6_begin_135 : decode cX6_begin 135 = .ok (.iload_n 2, 1) := by decide +kernel
theorem dX6_begin_136 : decode cX6_begin 136 = .ok (.iload 4, 2) := by decide +kernel
theorem dX6_begin_138 : decode cX6_begin 138 = .ok (.invokevirtual 57, 3) := by decide +kernel
theorem dX6_begin_141 : decode cX6_begin 141 = .ok (.iconst 4, 1) := by decide +kernel
theorem dX6_begin_142 : decode cX6_begin 142 = .ok (.iload 4, 2) := by decide +kernel
theorem dX6_begin_144 : decode cX6_begin 144 = .ok (.imul, 1) := by decide +kernel
theorem dX6_begin_145 : decode cX6_begin 145 = .ok (.ishl, 1) := by decide +kernel
theorem dX6_begin_146 : decode cX6_begin 146 = .ok (.ior, 1) := by decide +kernel
theorem dX6_begin_147 : decode cX6_begin 147 = .ok (.istore_n 3, 1) := by decide +kernel
theorem dX6_begin_148 : decode cX6_begin 148 = .ok (.iinc 4 1, 3) := by decide +kernel
theorem dX6_begin_151 : decode cX6_begin 151 = .ok (.goto (-25), 3) := by decide +kernel
theorem dX6_begin_154 : decode cX6_begin 154 = .ok (.aload_n 0, 1) := by decide +kernel
theorem dX6_begin_155 : decode cX6_begin 155 = .ok (.iload_n 3, 1) := by decide +kernel
theorem dX6_begin_156 : decode cX6_begin 156 = .ok (.invokevirtual 60, 3) := by decide +kernel
theorem dX6_begin_159 : decode cX6_begin 159 = .ok (.return_, 1) := by decide +kernel
theorem dX6_hasNew_0 : decode cX6_hasNew 0 = .ok (.aload_n 0, 1) := by decide +kernel
theorem dX6_hasNew_1 : decode cX6_hasNew 1 = .ok (.getfield 15, 3) := by decide +kernel
theorem dX6_hasNew_4 : decode cX6_hasNew 4 = .ok (.aload_n 0, 1) := by decide +kernel
theorem dX6_hasNew_5 : decode cX6_hasNew 5 = .ok (.getfield 9, 3) := by decide +kernel
theorem dX6_hasNew_8 : decode cX6_hasNew 8 = .ok (.if_icmp .ge 7, 3) := by decide +kernel
theorem dX6_hasNew_11 : decode cX6_hasNew 11 = .ok (.iconst 1, 1) := by decide +kernel
theorem dX6_hasNew_12 : decode cX6_hasNew 12 = .ok (.goto 4, 3) := by decide +kernel
theorem dX6_hasNew_15 : decode cX6_hasNew 15 = .ok (.iconst 0, 1) := by decide +kernel
theorem dX6_hasNew_16 : decode cX6_hasNew 16 = .ok (.ireturn, 1) := by decide +kernel
theorem dX6_step_0 : decode cX6_step 0 = .ok (.aload_n 0, 1) := by decide +kernel
theorem dX6_step_1 : decode cX6_step 1 = .ok (.getfield 9, 3) := by decide +kernel
theorem dX6_step_4 : decode cX6_step 4 = .ok (.istore_n 1, 1) := by decide +kernel
theorem dX6_step_5 : decode cX6_step 5 = .ok (.aload_n 0, 1) := by decide +kernel
theorem dX6_step_6 : decode cX6_step 6 = .ok (.getfield 15, 3) := by decide +kernel
theorem dX6_step_9 : decode cX6_step 9 = .ok (.istore_n 2, 1) := by decide +kernel
theorem dX6_step_10 : decode cX6_step 10 = .ok (.iload_n 2, 1) := by decide +kernel
theorem dX6_step_11 : decode cX6_step 11 = .ok (.iload_n 1, 1) := by decide +kernel
theorem dX6_step_12 : decode cX6_step 12 = .ok (.if_icmp .ge 60, 3) := by decide +kernel
theorem dX6_step_15 : decode cX6_step 15 = .ok (.iload_n 2, 1) := by decide +kernel
theorem dX6_step_16 : decode cX6_step 16 = .ok (.sipush 24310, 3) := by decide +kernel
theorem dX6_step_19 : decode cX6_step 19 = .ok (.if_icmp .ge 53, 3) := by decide +kernel
theorem dX6_step_22 : decode cX6_step 22 = .ok (.iconst 0, 1) := by decide +kernel
theorem dX6_step_23 : decode cX6_step 23 = .ok (.istore_n 3, 1) := by decide +kernel
theorem dX6_step_24 : decode cX6_step 24 = .ok (.iload_n 3, 1) := by decide +kernel
theorem dX6_step_25 : decode cX6_step 25 = .ok (.aload_n 0, 1) := by decide +kernel
theorem dX6_step_26 : decode cX6_step 26 = .ok (.getfield 18, 3) := by decide +kernel
theorem dX6_step_29 : decode cX6_step 29 = .ok (.if_icmp .ge 37, 3) := by decide +kernel
theorem dX6_step_32 : decode cX6_step 32 = .ok (.iload_n 3, 1) := by decide +kernel
theorem dX6_step_33 : decode cX6_step 33 = .ok (.bipush 6, 2) := by decide +kernel
theorem dX6_step_35 : decode cX6_step 35 = .ok (.if_icmp .ge 31, 3) := by decide +kernel
theorem dX6_step_38 : decode cX6_step 38 = .ok (.aload_n 0, 1) := by decide +kernel
theorem dX6_step_39 : decode cX6_step 39 = .ok (.aload_n 0, 1) := by decide +kernel
theorem dX6_step_40 : decode cX6_step 40 = .ok (.getfield 21, 3) := by decide +kernel
theorem dX6_step_43 : decode cX6_step 43 = .ok (.iload_n 2, 1) := by decide +kernel
theorem dX6_step_44 : decode cX6_step 44 = .ok (.iaload, 1) := by decide +kernel
theorem dX6_step_45 : decode cX6_step 45 = .ok (.aload_n 0, 1) := by decide +kernel
theorem dX6_step_46 : decode cX6_step 46 = .ok (.getfield 29, 3) := by decide +kernel
theorem dX6_step_49 : decode cX6_step 49 = .ok (.iload_n 3, 1) := by decide +kernel
theorem dX6_step_50 : decode cX6_step 50 = .ok (.iaload, 1) := by decide +kernel
theorem dX6_step_51 : decode cX6_step 51 = .ok (.aload_n 0, 1) := by decide +kernel
theorem dX6_step_52 : decode cX6_step 52 = .ok (.getfield 32, 3) := by decide +kernel
theorem dX6_step_55 : decode cX6_step 55 = .ok (.iload_n 3, 1) := by decide +kernel
theorem dX6_step_56 : decode cX6_step 56 = .ok (.iaload, 1) := by decide +kernel
theorem dX6_step_57 : decode cX6_step 57 = .ok (.invokevirtual 64, 3) := by decide +kernel
theorem dX6_step_60 : decode cX6_step 60 = .ok (.iinc 3 1, 3) := by decide +kernel
theorem dX6_step_63 : decode cX6_step 63 = .ok (.goto (-39), 3) := by decide +kernel
theorem dX6_step_66 : decode cX6_step 66 = .ok (.iinc 2 1, 3) := by decide +kernel
theorem dX6_step_69 : decode cX6_step 69 = .ok (.goto (-59), 3) := by decide +kernel
theorem dX6_step_72 : decode cX6_step 72 = .ok (.aload_n 0, 1) := by decide +kernel
theorem dX6_step_73 : decode cX6_step 73 = .ok (.iload_n 1, 1) := by decide +kernel
theorem dX6_step_74 : decode cX6_step 74 = .ok (.putfield 15, 3) := by decide +kernel
theorem dX6_step_77 : decode cX6_step 77 = .ok (.return_, 1) := by decide +kernel
theorem dX6_newOneHolds_0 : decode cX6_newOneHolds 0 = .ok (.aload_n 0, 1) := by decide +kernel
theorem dX6_newOneHolds_1 : decode cX6_newOneHolds 1 = .ok (.getfield 15, 3) := by decide +kernel
theorem dX6_newOneHolds_4 : decode cX6_newOneHolds 4 = .ok (.istore_n 2, 1) := by decide +kernel
theorem dX6_newOneHolds_5 : decode cX6_newOneHolds 5 = .ok (.iload_n 2, 1) := by decide +kernel
theorem dX6_newOneHolds_6 : decode cX6_newOneHolds 6 = .ok (.aload_n 0, 1) := by decide +kernel
theorem dX6_newOneHolds_7 : decode cX6_newOneHolds 7 = .ok (.getfield 9, 3) := by decide +kernel
theorem dX6_newOneHolds_10 : decode cX6_newOneHolds 10 = .ok (.if_icmp .ge 31, 3) := by decide +kernel
theorem dX6_newOneHolds_13 : decode cX6_newOneHolds 13 = .ok (.iload_n 2, 1) := by decide +kernel
theorem dX6_newOneHolds_14 : decode cX6_newOneHolds 14 = .ok (.sipush 24310, 3) := by decide +kernel
theorem dX6_newOneHolds_17 : decode cX6_newOneHolds 17 = .ok (.if_icmp .ge 24, 3) := by decide +kernel
theorem dX6_newOneHolds_20 : decode cX6_newOneHolds 20 = .ok (.aload_n 0, 1) := by decide +kernel
theorem dX6_newOneHolds_21 : decode cX6_newOneHolds 21 = .ok (.getfield 21, 3) := by decide +kernel
theorem dX6_newOneHolds_24 : decode cX6_newOneHolds 24 = .ok (.iload_n 2, 1) := by decide +kernel
theorem dX6_newOneHolds_25 : decode cX6_newOneHolds 25 = .ok (.iaload, 1) := by decide +kernel
theorem dX6_newOneHolds_26 : decode cX6_newOneHolds 26 = .ok (.aload_n 1, 1) := by decide +kernel
theorem dX6_newOneHolds_27 : decode cX6_newOneHolds 27 = .ok (.invokestatic 68, 3) := by decide +kernel
theorem dX6_newOneHolds_30 : decode cX6_newOneHolds 30 = .ok (.ifCond .eq 5, 3) := by decide +kernel
theorem dX6_newOneHolds_33 : decode cX6_newOneHolds 33 = .ok (.iconst 1, 1) := by decide +kernel
theorem dX6_newOneHolds_34 : decode cX6_newOneHolds 34 = .ok (.ireturn, 1) := by decide +kernel
theorem dX6_newOneHolds_35 : decode cX6_newOneHolds 35 = .ok (.iinc 2 1, 3) := by decide +kernel
theorem dX6_newOneHolds_38 : decode cX6_newOneHolds 38 = .ok (.goto (-33), 3) := by decide +kernel
theorem dX6_newOneHolds_41 : decode cX6_newOneHolds 41 = .ok (.iconst 0, 1) := by decide +kernel
theorem dX6_newOneHolds_42 : decode cX6_newOneHolds 42 = .ok (.ireturn, 1) := by decide +kernel
theorem dX6_dearestNew_0 : decode cX6_dearestNew 0 = .ok (.lconst 0, 1) := by decide +kernel
theorem dX6_dearestNew_1 : decode cX6_dearestNew 1 = .ok (.lstore_n 2, 1) := by decide +kernel
theorem dX6_dearestNew_2 : decode cX6_dearestNew 2 = .ok (.aload_n 0, 1) := by decide +kernel
theorem dX6_dearestNew_3 : decode cX6_dearestNew 3 = .ok (.getfield 15, 3) := by decide +kernel
theorem dX6_dearestNew_6 : decode cX6_dearestNew 6 = .ok (.istore 4, 2) := by decide +kernel
theorem dX6_dearestNew_8 : decode cX6_dearestNew 8 = .ok (.iload 4, 2) := by decide +kernel
theorem dX6_dearestNew_10 : decode cX6_dearestNew 10 = .ok (.aload_n 0, 1) := by decide +kernel
theorem dX6_dearestNew_11 : decode cX6_dearestNew 11 = .ok (.getfield 9, 3) := by decide +kernel
theorem dX6_dearestNew_14 : decode cX6_dearestNew 14 = .ok (.if_icmp .ge 71, 3) := by decide +kernel
theorem dX6_dearestNew_17 : decode cX6_dearestNew 17 = .ok (.iload 4, 2) := by decide +kernel
theorem dX6_dearestNew_19 : decode cX6_dearestNew 19 = .ok (.sipush 24310, 3) := by decide +kernel
theorem dX6_dearestNew_22 : decode cX6_dearestNew 22 = .ok (.if_icmp .ge 63, 3) := by decide +kernel
theorem dX6_dearestNew_25 : decode cX6_dearestNew 25 = .ok (.lconst 1, 1) := by decide +kernel
theorem dX6_dearestNew_26 : decode cX6_dearestNew 26 = .ok (.lstore 5, 2) := by decide +kernel
theorem dX6_dearestNew_28 : decode cX6_dearestNew 28 = .ok (.iconst 0, 1) := by decide +kernel
theorem dX6_dearestNew_29 : decode cX6_dearestNew 29 = .ok (.istore 7, 2) := by decide +kernel
theorem dX6_dearestNew_31 : decode cX6_dearestNew 31 = .ok (.iload 7, 2) := by decide +kernel
theorem dX6_dearestNew_33 : decode cX6_dearestNew 33 = .ok (.aload_n 1, 1) := by decide +kernel
theorem dX6_dearestNew_34 : decode cX6_dearestNew 34 = .ok (.getfield 72, 3) := by decide +kernel
theorem dX6_dearestNew_37 : decode cX6_dearestNew 37 = .ok (.if_icmp .ge 35, 3) := by decide +kernel
theorem dX6_dearestNew_40 : decode cX6_dearestNew 40 = .ok (.lload 5, 2) := by decide +kernel
theorem dX6_dearestNew_42 : decode cX6_dearestNew 42 = .ok (.aload_n 1, 1) := by decide +kernel
theorem dX6_dearestNew_43 : decode cX6_dearestNew 43 = .ok (.iload 7, 2) := by decide +kernel
theorem dX6_dearestNew_45 : decode cX6_dearestNew 45 = .ok (.invokevirtual 75, 3) := by decide +kernel
theorem dX6_dearestNew_48 : decode cX6_dearestNew 48 = .ok (.aload_n 0, 1) := by decide +kernel
theorem dX6_dearestNew_49 : decode cX6_dearestNew 49 = .ok (.getfield 21, 3) := by decide +kernel
theorem dX6_dearestNew_52 : decode cX6_dearestNew 52 = .ok (.iload 4, 2) := by decide +kernel
theorem dX6_dearestNew_54 : decode cX6_dearestNew 54 = .ok (.iaload, 1) := by decide +kernel
theorem dX6_dearestNew_55 : decode cX6_dearestNew 55 = .ok (.iload 7, 2) := by decide +kernel
theorem dX6_dearestNew_57 : decode cX6_dearestNew 57 = .ok (.invokestatic 79, 3) := by decide +kernel
theorem dX6_dearestNew_60 : decode cX6_dearestNew 60 = .ok (.invokestatic 82, 3) := by decide +kernel
theorem dX6_dearestNew_63 : decode cX6_dearestNew 63 = .ok (.lmul, 1) := by decide +kernel
theorem dX6_dearestNew_64 : decode cX6_dearestNew 64 = .ok (.lstore 5, 2) := by decide +kernel
theorem dX6_dearestNew_66 : decode cX6_dearestNew 66 = .ok (.iinc 7 1, 3) := by decide +kernel
theorem dX6_dearestNew_69 : decode cX6_dearestNew 69 = .ok (.goto (-38), 3) := by decide +kernel
theorem dX6_dearestNew_72 : decode cX6_dearestNew 72 = .ok (.lload_n 2, 1) := by decide +kernel
theorem dX6_dearestNew_73 : decode cX6_dearestNew 73 = .ok (.lload 5, 2) := by decide +kernel
theorem dX6_dearestNew_75 : decode cX6_dearestNew 75 = .ok (.invokestatic 88, 3) := by decide +kernel
theorem dX6_dearestNew_78 : decode cX6_dearestNew 78 = .ok (.lstore_n 2, 1) := by decide +kernel
theorem dX6_dearestNew_79 : decode cX6_dearestNew 79 = .ok (.iinc 4 1, 3) := by decide +kernel
theorem dX6_dearestNew_82 : decode cX6_dearestNew 82 = .ok (.goto (-74), 3) := by decide +kernel
theorem dX6_dearestNew_85 : decode cX6_dearestNew 85 = .ok (.lload_n 2, 1) := by decide +kernel
theorem dX6_dearestNew_86 : decode cX6_dearestNew 86 = .ok (.lreturn, 1) := by decide +kernel
theorem dX6_often_0 : decode cX6_often 0 = .ok (.iload_n 0, 1) := by decide +kernel
theorem dX6_often_1 : decode cX6_often 1 = .ok (.iconst 4, 1) := by decide +kernel
theorem dX6_often_2 : decode cX6_often 2 = .ok (.iload_n 1, 1) := by decide +kernel
theorem dX6_often_3 : decode cX6_often 3 = .ok (.imul, 1) := by decide +kernel
theorem dX6_often_4 : decode cX6_often 4 = .ok (.iushr, 1) := by decide +kernel
theorem dX6_often_5 : decode cX6_often 5 = .ok (.bipush 15, 2) := by decide +kernel
theorem dX6_often_7 : decode cX6_often 7 = .ok (.iand, 1) := by decide +kernel
theorem dX6_often_8 : decode cX6_often 8 = .ok (.ireturn, 1) := by decide +kernel
theorem dX6_holds_0 : decode cX6_holds 0 = .ok (.iconst 0, 1) := by decide +kernel
theorem dX6_holds_1 : decode cX6_holds 1 = .ok (.istore_n 2, 1) := by decide +kernel
theorem dX6_holds_2 : decode cX6_holds 2 = .ok (.iload_n 2, 1) := by decide +kernel
theorem dX6_holds_3 : decode cX6_holds 3 = .ok (.bipush 8, 2) := by decide +kernel
theorem dX6_holds_5 : decode cX6_holds 5 = .ok (.if_icmp .ge 28, 3) := by decide +kernel
theorem dX6_holds_8 : decode cX6_holds 8 = .ok (.iload_n 2, 1) := by decide +kernel
theorem dX6_holds_9 : decode cX6_holds 9 = .ok (.aload_n 1, 1) := by decide +kernel
theorem dX6_holds_10 : decode cX6_holds 10 = .ok (.arraylength, 1) := by decide +kernel
theorem dX6_holds_11 : decode cX6_holds 11 = .ok (.if_icmp .ge 22, 3) := by decide +kernel
theorem dX6_holds_14 : decode cX6_holds 14 = .ok (.iload_n 0, 1) := by decide +kernel
theorem dX6_holds_15 : decode cX6_holds 15 = .ok (.iload_n 2, 1) := by decide +kernel
theorem dX6_holds_16 : decode cX6_holds 16 = .ok (.invokestatic 79, 3) := by decide +kernel
theorem dX6_holds_19 : decode cX6_holds 19 = .ok (.aload_n 1, 1) := by decide +kernel
theorem dX6_holds_20 : decode cX6_holds 20 = .ok (.iload_n 2, 1) := by decide +kernel
theorem dX6_holds_21 : decode cX6_holds 21 = .ok (.iaload, 1) := by decide +kernel
theorem dX6_holds_22 : decode cX6_holds 22 = .ok (.if_icmp .ge 5, 3) := by decide +kernel
theorem dX6_holds_25 : decode cX6_holds 25 = .ok (.iconst 0, 1) := by decide +kernel
theorem dX6_holds_26 : decode cX6_holds 26 = .ok (.ireturn, 1) := by decide +kernel
theorem dX6_holds_27 : decode cX6_holds 27 = .ok (.iinc 2 1, 3) := by decide +kernel
theorem dX6_holds_30 : decode cX6_holds 30 = .ok (.goto (-28), 3) := by decide +kernel
theorem dX6_holds_33 : decode cX6_holds 33 = .ok (.iconst 1, 1) := by decide +kernel
theorem dX6_holds_34 : decode cX6_holds 34 = .ok (.ireturn, 1) := by decide +kernel
theorem dX6_tryChange_0 : decode cX6_tryChange 0 = .ok (.iconst 0, 1) := by decide +kernel
theorem dX6_tryChange_1 : decode cX6_tryChange 1 = .ok (.istore 4, 2) := by decide +kernel
theorem dX6_tryChange_3 : decode cX6_tryChange 3 = .ok (.iconst 0, 1) := by decide +kernel
theorem dX6_tryChange_4 : decode cX6_tryChange 4 = .ok (.istore 5, 2) := by decide +kernel
theorem dX6_tryChange_6 : decode cX6_tryChange 6 = .ok (.iload 5, 2) := by decide +kernel
theorem dX6_tryChange_8 : decode cX6_tryChange 8 = .ok (.bipush 8, 2) := by decide +kernel
theorem dX6_tryChange_10 : decode cX6_tryChange 10 = .ok (.if_icmp .ge 50, 3) := by decide +kernel
theorem dX6_tryChange_13 : decode cX6_tryChange 13 = .ok (.iload_n 1, 1) := by decide +kernel
theorem dX6_tryChange_14 : decode cX6_tryChange 14 = .ok (.iload 5, 2) := by decide +kernel
theorem dX6_tryChange_16 : decode cX6_tryChange 16 = .ok (.invokestatic 79, 3) := by decide +kernel
theorem dX6_tryChange_19 : decode cX6_tryChange 19 = .ok (.iload_n 2, 1) := by decide +kernel
theorem dX6_tryChange_20 : decode cX6_tryChange 20 = .ok (.iload 5, 2) := by decide +kernel
theorem dX6_tryChange_22 : decode cX6_tryChange 22 = .ok (.invokestatic 79, 3) := by decide +kernel
theorem dX6_tryChange_25 : decode cX6_tryChange 25 = .ok (.if_icmp .ge 4, 3) := by decide +kernel
theorem dX6_tryChange_28 : decode cX6_tryChange 28 = .ok (.return_, 1) := by decide +kernel
theorem dX6_tryChange_29 : decode cX6_tryChange 29 = .ok (.iload 4, 2) := by decide +kernel
theorem dX6_tryChange_31 : decode cX6_tryChange 31 = .ok (.iload_n 1, 1) := by decide +kernel
theorem dX6_tryChange_32 : decode cX6_tryChange 32 = .ok (.iload 5, 2) := by decide +kernel
theorem dX6_tryChange_34 : decode cX6_tryChange 34 = .ok (.invokestatic 79, 3) := by decide +kernel
theorem dX6_tryChange_37 : decode cX6_tryChange 37 = .ok (.iload_n 2, 1) := by decide +kernel
theorem dX6_tryChange_38 : decode cX6_tryChange 38 = .ok (.iload 5, 2) := by decide +kernel
theorem dX6_tryChange_40 : decode cX6_tryChange 40 = .ok (.invokestatic 79, 3) := by decide +kernel
theorem dX6_tryChange_43 : decode cX6_tryChange 43 = .ok (.isub, 1) := by decide +kernel
theorem dX6_tryChange_44 : decode cX6_tryChange 44 = .ok (.iload_n 3, 1) := by decide +kernel
theorem dX6_tryChange_45 : decode cX6_tryChange 45 = .ok (.iload 5, 2) := by decide +kernel
theorem dX6_tryChange_47 : decode cX6_tryChange 47 = .ok (.invokestatic 79, 3) := by decide +kernel
theorem dX6_tryChange_50 : decode cX6_tryChange 50 = .ok (.iadd, 1) := by decide +kernel
theorem dX6_tryChange_51 : decode cX6_tryChange 51 = .ok (.iadd, 1) := by decide +kernel
theorem dX6_tryChange_52 : decode cX6_tryChange 52 = .ok (.istore 4, 2) := by decide +kernel
theorem dX6_tryChange_54 : decode cX6_tryChange 54 = .ok (.iinc 5 1, 3) := by decide +kernel
theorem dX6_tryChange_57 : decode cX6_tryChange 57 = .ok (.goto (-51), 3) := by decide +kernel
theorem dX6_tryChange_60 : decode cX6_tryChange 60 = .ok (.iload 4, 2) := by decide +kernel
theorem dX6_tryChange_62 : decode cX6_tryChange 62 = .ok (.bipush 9, 2) := by decide +kernel
theorem dX6_tryChange_64 : decode cX6_tryChange 64 = .ok (.if_icmp .gt 12, 3) := by decide +kernel
theorem dX6_tryChange_67 : decode cX6_tryChange 67 = .ok (.aload_n 0, 1) := by decide +kernel
theorem dX6_tryChange_68 : decode cX6_tryChange 68 = .ok (.iload_n 1, 1) := by decide +kernel
theorem dX6_tryChange_69 : decode cX6_tryChange 69 = .ok (.iload_n 2, 1) := by decide +kernel
theorem dX6_tryChange_70 : decode cX6_tryChange 70 = .ok (.isub, 1) := by decide +kernel
theorem dX6_tryChange_71 : decode cX6_tryChange 71 = .ok (.iload_n 3, 1) := by decide +kernel
theorem dX6_tryChange_72 : decode cX6_tryChange 72 = .ok (.iadd, 1) := by decide +kernel
theorem dX6_tryChange_73 : decode cX6_tryChange 73 = .ok (.invokevirtual 60, 3) := by decide +kernel
theorem dX6_tryChange_76 : decode cX6_tryChange 76 = .ok (.return_, 1) := by decide +kernel
theorem dX6_meet_0 : decode cX6_meet 0 = .ok (.aload_n 0, 1) := by decide +kernel
theorem dX6_meet_1 : decode cX6_meet 1 = .ok (.iload_n 1, 1) := by decide +kernel
theorem dX6_meet_2 : decode cX6_meet 2 = .ok (.invokevirtual 92, 3) := by decide +kernel
theorem dX6_meet_5 : decode cX6_meet 5 = .ok (.istore_n 2, 1) := by decide +kernel
theorem dX6_meet_6 : decode cX6_meet 6 = .ok (.iload_n 2, 1) := by decide +kernel
theorem dX6_meet_7 : decode cX6_meet 7 = .ok (.bipush 64, 2) := by decide +kernel
theorem dX6_meet_9 : decode cX6_meet 9 = .ok (.idiv, 1) := by decide +kernel
theorem dX6_meet_10 : decode cX6_meet 10 = .ok (.istore_n 3, 1) := by decide +kernel
theorem dX6_meet_11 : decode cX6_meet 11 = .ok (.lconst 1, 1) := by decide +kernel
theorem dX6_meet_12 : decode cX6_meet 12 = .ok (.iload_n 2, 1) := by decide +kernel
theorem dX6_meet_13 : decode cX6_meet 13 = .ok (.bipush 64, 2) := by decide +kernel
theorem dX6_meet_15 : decode cX6_meet 15 = .ok (.irem, 1) := by decide +kernel
theorem dX6_meet_16 : decode cX6_meet 16 = .ok (.lshl, 1) := by decide +kernel
theorem dX6_meet_17 : decode cX6_meet 17 = .ok (.lstore 4, 2) := by decide +kernel
theorem dX6_meet_19 : decode cX6_meet 19 = .ok (.aload_n 0, 1) := by decide +kernel
theorem dX6_meet_20 : decode cX6_meet 20 = .ok (.getfield 9, 3) := by decide +kernel
theorem dX6_meet_23 : decode cX6_meet 23 = .ok (.sipush 24310, 3) := by decide +kernel
theorem dX6_meet_26 : decode cX6_meet 26 = .ok (.if_icmp .ge 30, 3) := by decide +kernel
theorem dX6_meet_29 : decode cX6_meet 29 = .ok (.iload_n 3, 1) := by decide +kernel
theorem dX6_meet_30 : decode cX6_meet 30 = .ok (.ifCond .lt 26, 3) := by decide +kernel
theorem dX6_meet_33 : decode cX6_meet 33 = .ok (.iload_n 3, 1) := by decide +kernel
theorem dX6_meet_34 : decode cX6_meet 34 = .ok (.aload_n 0, 1) := by decide +kernel
theorem dX6_meet_35 : decode cX6_meet 35 = .ok (.getfield 25, 3) := by decide +kernel
theorem dX6_meet_38 : decode cX6_meet 38 = .ok (.arraylength, 1) := by decide +kernel
theorem dX6_meet_39 : decode cX6_meet 39 = .ok (.if_icmp .ge 17, 3) := by decide +kernel
theorem dX6_meet_42 : decode cX6_meet 42 = .ok (.aload_n 0, 1) := by decide +kernel
theorem dX6_meet_43 : decode cX6_meet 43 = .ok (.getfield 25, 3) := by decide +kernel
theorem dX6_meet_46 : decode cX6_meet 46 = .ok (.iload_n 3, 1) := by decide +kernel
theorem dX6_meet_47 : decode cX6_meet 47 = .ok (.laload, 1) := by decide +kernel
theorem dX6_meet_48 : decode cX6_meet 48 = .ok (.lload 4, 2) := by decide +kernel
theorem dX6_meet_50 : decode cX6_meet 50 = .ok (.land, 1) := by decide +kernel
theorem dX6_meet_51 : decode cX6_meet 51 = .ok (.lconst 0, 1) := by decide +kernel
theorem dX6_meet_52 : decode cX6_meet 52 = .ok (.lcmp, 1) := by decide +kernel
theorem dX6_meet_53 : decode cX6_meet 53 = .ok (.ifCond .eq 4, 3) := by decide +kernel
theorem dX6_meet_56 : decode cX6_meet 56 = .ok (.return_, 1) := by decide +kernel
theorem dX6_meet_57 : decode cX6_meet 57 = .ok (.aload_n 0, 1) := by decide +kernel
theorem dX6_meet_58 : decode cX6_meet 58 = .ok (.getfield 25, 3) := by decide +kernel
theorem dX6_meet_61 : decode cX6_meet 61 = .ok (.iload_n 3, 1) := by decide +kernel
theorem dX6_meet_62 : decode cX6_meet 62 = .ok (.dup2, 1) := by decide +kernel
theorem dX6_meet_63 : decode cX6_meet 63 = .ok (.laload, 1) := by decide +kernel
theorem dX6_meet_64 : decode cX6_meet 64 = .ok (.lload 4, 2) := by decide +kernel
theorem dX6_meet_66 : decode cX6_meet 66 = .ok (.lor, 1) := by decide +kernel
theorem dX6_meet_67 : decode cX6_meet 67 = .ok (.lastore, 1) := by decide +kernel
theorem dX6_meet_68 : decode cX6_meet 68 = .ok (.aload_n 0, 1) := by decide +kernel
theorem dX6_meet_69 : decode cX6_meet 69 = .ok (.getfield 21, 3) := by decide +kernel
theorem dX6_meet_72 : decode cX6_meet 72 = .ok (.aload_n 0, 1) := by decide +kernel
theorem dX6_meet_73 : decode cX6_meet 73 = .ok (.getfield 9, 3) := by decide +kernel
theorem dX6_meet_76 : decode cX6_meet 76 = .ok (.iload_n 1, 1) := by decide +kernel
theorem dX6_meet_77 : decode cX6_meet 77 = .ok (.iastore, 1) := by decide +kernel
theorem dX6_meet_78 : decode cX6_meet 78 = .ok (.aload_n 0, 1) := by decide +kernel
theorem dX6_meet_79 : decode cX6_meet 79 = .ok (.dup, 1) := by decide +kernel
theorem dX6_meet_80 : decode cX6_meet 80 = .ok (.getfield 9, 3) := by decide +kernel
theorem dX6_meet_83 : decode cX6_meet 83 = .ok (.iconst 1, 1) := by decide +kernel
theorem dX6_meet_84 : decode cX6_meet 84 = .ok (.iadd, 1) := by decide +kernel
theorem dX6_meet_85 : decode cX6_meet 85 = .ok (.putfield 9, 3) := by decide +kernel
theorem dX6_meet_88 : decode cX6_meet 88 = .ok (.return_, 1) := by decide +kernel
theorem dX6_rankOf_0 : decode cX6_rankOf 0 = .ok (.iconst 0, 1) := by decide +kernel
theorem dX6_rankOf_1 : decode cX6_rankOf 1 = .ok (.istore_n 2, 1) := by decide +kernel
theorem dX6_rankOf_2 : decode cX6_rankOf 2 = .ok (.bipush 9, 2) := by decide +kernel
theorem dX6_rankOf_4 : decode cX6_rankOf 4 = .ok (.istore_n 3, 1) := by decide +kernel
theorem dX6_rankOf_5 : decode cX6_rankOf 5 = .ok (.iconst 0, 1) := by decide +kernel
theorem dX6_rankOf_6 : decode cX6_rankOf 6 = .ok (.istore 4, 2) := by decide +kernel
theorem dX6_rankOf_8 : decode cX6_rankOf 8 = .ok (.iload 4, 2) := by decide +kernel
theorem dX6_rankOf_10 : decode cX6_rankOf 10 = .ok (.bipush 8, 2) := by decide +kernel
theorem dX6_rankOf_12 : decode cX6_rankOf 12 = .ok (.if_icmp .ge 61, 3) := by decide +kernel
theorem dX6_rankOf_15 : decode cX6_rankOf 15 = .ok (.iload_n 3, 1) := by decide +kernel
theorem dX6_rankOf_16 : decode cX6_rankOf 16 = .ok (.iload_n 1, 1) := by decide +kernel
theorem dX6_rankOf_17 : decode cX6_rankOf 17 = .ok (.iload 4, 2) := by decide +kernel
theorem dX6_rankOf_19 : decode cX6_rankOf 19 = .ok (.invokestatic 79, 3) := by decide +kernel
theorem dX6_rankOf_22 : decode cX6_rankOf 22 = .ok (.isub, 1) := by decide +kernel
theorem dX6_rankOf_23 : decode cX6_rankOf 23 = .ok (.iconst 0, 1) := by decide +kernel
theorem dX6_rankOf_24 : decode cX6_rankOf 24 = .ok (.invokestatic 95, 3) := by decide +kernel
theorem dX6_rankOf_27 : decode cX6_rankOf 27 = .ok (.istore 5, 2) := by decide +kernel
theorem dX6_rankOf_29 : decode cX6_rankOf 29 = .ok (.iload_n 2, 1) := by decide +kernel
theorem dX6_rankOf_30 : decode cX6_rankOf 30 = .ok (.aload_n 0, 1) := by decide +kernel
theorem dX6_rankOf_31 : decode cX6_rankOf 31 = .ok (.getfield 35, 3) := by decide +kernel
theorem dX6_rankOf_34 : decode cX6_rankOf 34 = .ok (.iload_n 3, 1) := by decide +kernel
theorem dX6_rankOf_35 : decode cX6_rankOf 35 = .ok (.bipush 9, 2) := by decide +kernel
theorem dX6_rankOf_37 : decode cX6_rankOf 37 = .ok (.imul, 1) := by decide +kernel
theorem dX6_rankOf_38 : decode cX6_rankOf 38 = .ok (.bipush 8, 2) := by decide +kernel
theorem dX6_rankOf_40 : decode cX6_rankOf 40 = .ok (.iadd, 1) := by decide +kernel
theorem dX6_rankOf_41 : decode cX6_rankOf 41 = .ok (.iload 4, 2) := by decide +kernel
theorem dX6_rankOf_43 : decode cX6_rankOf 43 = .ok (.isub, 1) := by decide +kernel
theorem dX6_rankOf_44 : decode cX6_rankOf 44 = .ok (.iaload, 1) := by decide +kernel
theorem dX6_rankOf_45 : decode cX6_rankOf 45 = .ok (.aload_n 0, 1) := by decide +kernel
theorem dX6_rankOf_46 : decode cX6_rankOf 46 = .ok (.getfield 35, 3) := by decide +kernel
theorem dX6_rankOf_49 : decode cX6_rankOf 49 = .ok (.iload 5, 2) := by decide +kernel
theorem dX6_rankOf_51 : decode cX6_rankOf 51 = .ok (.bipush 9, 2) := by decide +kernel
theorem dX6_rankOf_53 : decode cX6_rankOf 53 = .ok (.imul, 1) := by decide +kernel
theorem dX6_rankOf_54 : decode cX6_rankOf 54 = .ok (.bipush 8, 2) := by decide +kernel
theorem dX6_rankOf_56 : decode cX6_rankOf 56 = .ok (.iadd, 1) := by decide +kernel
theorem dX6_rankOf_57 : decode cX6_rankOf 57 = .ok (.iload 4, 2) := by decide +kernel
theorem dX6_rankOf_59 : decode cX6_rankOf 59 = .ok (.isub, 1) := by decide +kernel
theorem dX6_rankOf_60 : decode cX6_rankOf 60 = .ok (.iaload, 1) := by decide +kernel
theorem dX6_rankOf_61 : decode cX6_rankOf 61 = .ok (.isub, 1) := by decide +kernel
theorem dX6_rankOf_62 : decode cX6_rankOf 62 = .ok (.iadd, 1) := by decide +kernel
theorem dX6_rankOf_63 : decode cX6_rankOf 63 = .ok (.istore_n 2, 1) := by decide +kernel
theorem dX6_rankOf_64 : decode cX6_rankOf 64 = .ok (.iload 5, 2) := by decide +kernel
theorem dX6_rankOf_66 : decode cX6_rankOf 66 = .ok (.istore_n 3, 1) := by decide +kernel
theorem dX6_rankOf_67 : decode cX6_rankOf 67 = .ok (.iinc 4 1, 3) := by decide +kernel
theorem dX6_rankOf_70 : decode cX6_rankOf 70 = .ok (.goto (-62), 3) := by decide +kernel
theorem dX6_rankOf_73 : decode cX6_rankOf 73 = .ok (.iload_n 2, 1) := by decide +kernel
theorem dX6_rankOf_74 : decode cX6_rankOf 74 = .ok (.ireturn, 1) := by decide +kernel
theorem dX7_init_0 : decode cX7_init 0 = .ok (.aload_n 0, 1) := by decide +kernel
theorem dX7_init_1 : decode cX7_init 1 = .ok (.invokespecial 3, 3) := by decide +kernel
theorem dX7_init_4 : decode cX7_init 4 = .ok (.aload_n 0, 1) := by decide +kernel
theorem dX7_init_5 : decode cX7_init 5 = .ok (.sipush 700, 3) := by decide +kernel
theorem dX7_init_8 : decode cX7_init 8 = .ok (.newarray .int, 2) := by decide +kernel
theorem dX7_init_10 : decode cX7_init 10 = .ok (.putfield 9, 3) := by decide +kernel
theorem dX7_init_13 : decode cX7_init 13 = .ok (.aload_n 0, 1) := by decide +kernel
theorem dX7_init_14 : decode cX7_init 14 = .ok (.sipush 701, 3) := by decide +kernel
theorem dX7_init_17 : decode cX7_init 17 = .ok (.newarray .int, 2) := by decide +kernel
theorem dX7_init_19 : decode cX7_init 19 = .ok (.putfield 15, 3) := by decide +kernel
theorem dX7_init_22 : decode cX7_init 22 = .ok (.aload_n 0, 1) := by decide +kernel
theorem dX7_init_23 : decode cX7_init 23 = .ok (.sipush 701, 3) := by decide +kernel
theorem dX7_init_26 : decode cX7_init 26 = .ok (.newarray .int, 2) := by decide +kernel
theorem dX7_init_28 : decode cX7_init 28 = .ok (.putfield 18, 3) := by decide +kernel
theorem dX7_init_31 : decode cX7_init 31 = .ok (.aload_n 0, 1) := by decide +kernel
theorem dX7_init_32 : decode cX7_init 32 = .ok (.sipush 701, 3) := by decide +kernel
theorem dX7_init_35 : decode cX7_init 35 = .ok (.newarray .int, 2) := by decide +kernel
theorem dX7_init_37 : decode cX7_init 37 = .ok (.putfield 21, 3) := by decide +kernel
theorem dX7_init_40 : decode cX7_init 40 = .ok (.aload_n 0, 1) := by decide +kernel
theorem dX7_init_41 : decode cX7_init 41 = .ok (.iconst 0, 1) := by decide +kernel
theorem dX7_init_42 : decode cX7_init 42 = .ok (.putfield 24, 3) := by decide +kernel
theorem dX7_init_45 : decode cX7_init 45 = .ok (.aload_n 0, 1) := by decide +kernel
theorem dX7_init_46 : decode cX7_init 46 = .ok (.iconst 0, 1) := by decide +kernel
theorem dX7_init_47 : decode cX7_init 47 = .ok (.putfield 28, 3) := by decide +kernel
theorem dX7_init_50 : decode cX7_init 50 = .ok (.aload_n 0, 1) := by decide +kernel
theorem dX7_init_51 : decode cX7_init 51 = .ok (.iconst 0, 1) := by decide +kernel
theorem dX7_init_52 : decode cX7_init 52 = .ok (.putfield 31, 3) := by decide +kernel
theorem dX7_init_55 : decode cX7_init 55 = .ok (.return_, 1) := by decide +kernel
theorem dX7_kindOf_0 : decode cX7_kindOf 0 = .ok (.iload_n 1, 1) := by decide +kernel
theorem dX7_kindOf_1 : decode cX7_kindOf 1 = .ok (.ifCond .lt 20, 3) := by decide +kernel
theorem dX7_kindOf_4 : decode cX7_kindOf 4 = .ok (.iload_n 1, 1) := by decide +kernel
theorem dX7_kindOf_5 : decode cX7_kindOf 5 = .ok (.aload_n 0, 1) := by decide +kernel
theorem dX7_kindOf_6 : decode cX7_kindOf 6 = .ok (.getfield 24, 3) := by decide +kernel
theorem dX7_kindOf_9 : decode cX7_kindOf 9 = .ok (.if_icmp .ge 12, 3) := by decide +kernel
theorem dX7_kindOf_12 : decode cX7_kindOf 12 = .ok (.aload_n 0, 1) := by decide +kernel
theorem dX7_kindOf_13 : decode cX7_kindOf 13 = .ok (.getfield 15, 3) := by decide +kernel
theorem dX7_kindOf_16 : decode cX7_kindOf 16 = .ok (.iload_n 1, 1) := by decide +kernel
theorem dX7_kindOf_17 : decode cX7_kindOf 17 = .ok (.iaload, 1) := by decide +kernel
theorem dX7_kindOf_18 : decode cX7_kindOf 18 = .ok (.goto 4, 3) := by decide +kernel
theorem dX7_kindOf_21 : decode cX7_kindOf 21 = .ok (.iconst 0, 1) := by decide +kernel
theorem dX7_kindOf_22 : decode cX7_kindOf 22 = .ok (.ireturn, 1) := by decide +kernel
theorem dX7_startOf_0 : decode cX7_startOf 0 = .ok (.iload_n 1, 1) := by decide +kernel
theorem dX7_startOf_1 : decode cX7_startOf 1 = .ok (.ifCond .lt 20, 3) := by decide +kernel
theorem dX7_startOf_4 : decode cX7_startOf 4 = .ok (.iload_n 1, 1) := by decide +kernel
theorem dX7_startOf_5 : decode cX7_startOf 5 = .ok (.aload_n 0, 1) := by decide +kernel
theorem dX7_startOf_6 : decode cX7_startOf 6 = .ok (.getfield 24, 3) := by decide +kernel
theorem dX7_startOf_9 : decode cX7_startOf 9 = .ok (.if_icmp .ge 12, 3) := by decide +kernel
theorem dX7_startOf_12 : decode cX7_startOf 12 = .ok (.aload_n 0, 1) := by decide +kernel
theorem dX7_startOf_13 : decode cX7_startOf 13 = .ok (.getfield 18, 3) := by decide +kernel
theorem dX7_startOf_16 : decode cX7_startOf 16 = .ok (.iload_n 1, 1) := by decide +kernel
theorem dX7_startOf_17 : decode cX7_startOf 17 = .ok (.iaload, 1) := by decide +kernel
theorem dX7_startOf_18 : decode cX7_startOf 18 = .ok (.goto 7, 3) := by decide +kernel
theorem dX7_startOf_21 : decode cX7_startOf 21 = .ok (.aload_n 0, 1) := by decide +kernel
theorem dX7_startOf_22 : decode cX7_startOf 22 = .ok (.getfield 28, 3) := by decide +kernel
theorem dX7_startOf_25 : decode cX7_startOf 25 = .ok (.ireturn, 1) := by decide +kernel
theorem dX7_valueOf_0 : decode cX7_valueOf 0 = .ok (.iload_n 1, 1) := by decide +kernel
theorem dX7_valueOf_1 : decode cX7_valueOf 1 = .ok (.ifCond .lt 20, 3) := by decide +kernel
theorem dX7_valueOf_4 : decode cX7_valueOf 4 = .ok (.iload_n 1, 1) := by decide +kernel
theorem dX7_valueOf_5 : decode cX7_valueOf 5 = .ok (.aload_n 0, 1) := by decide +kernel
theorem dX7_valueOf_6 : decode cX7_valueOf 6 = .ok (.getfield 24, 3) := by decide +kernel
theorem dX7_valueOf_9 : decode cX7_valueOf 9 = .ok (.if_icmp .ge 12, 3) := by decide +kernel
theorem dX7_valueOf_12 : decode cX7_valueOf 12 = .ok (.aload_n 0, 1) := by decide +kernel
theorem dX7_valueOf_13 : decode cX7_valueOf 13 = .ok (.getfield 21, 3) := by decide +kernel
theorem dX7_valueOf_16 : decode cX7_valueOf 16 = .ok (.iload_n 1, 1) := by decide +kernel
theorem dX7_valueOf_17 : decode cX7_valueOf 17 = .ok (.iaload, 1) := by decide +kernel
theorem dX7_valueOf_18 : decode cX7_valueOf 18 = .ok (.goto 4, 3) := by decide +kernel
theorem dX7_valueOf_21 : decode cX7_valueOf 21 = .ok (.iconst 0, 1) := by decide +kernel
theorem dX7_valueOf_22 : decode cX7_valueOf 22 = .ok (.ireturn, 1) := by decide +kernel
theorem dX7_cutAll_0 : decode cX7_cutAll 0 = .ok (.aload_n 0, 1) := by decide +kernel
theorem dX7_cutAll_1 : decode cX7_cutAll 1 = .ok (.iconst 0, 1) := by decide +kernel
theorem dX7_cutAll_2 : decode cX7_cutAll 2 = .ok (.iload_n 2, 1) := by decide +kernel
theorem dX7_cutAll_3 : decode cX7_cutAll 3 = .ok (.aload_n 1, 1) := by decide +kernel
theorem dX7_cutAll_4 : decode cX7_cutAll 4 = .ok (.arraylength, 1) := by decide +kernel
theorem dX7_cutAll_5 : decode cX7_cutAll 5 = .ok (.aload_n 0, 1) := by decide +kernel
theorem dX7_cutAll_6 : decode cX7_cutAll 6 = .ok (.getfield 9, 3) := by decide +kernel
theorem dX7_cutAll_9 : decode cX7_cutAll 9 = .ok (.arraylength, 1) := by decide +kernel
theorem dX7_cutAll_10 : decode cX7_cutAll 10 = .ok (.invokestatic 34, 3) := by decide +kernel
theorem dX7_cutAll_13 : decode cX7_cutAll 13 = .ok (.invokestatic 34, 3) := by decide +kernel
theorem dX7_cutAll_16 : decode cX7_cutAll 16 = .ok (.invokestatic 40, 3) := by decide +kernel
theorem dX7_cutAll_19 : decode cX7_cutAll 19 = .ok (.putfield 28, 3) := by decide +kernel
theorem dX7_cutAll_22 : decode cX7_cutAll 22 = .ok (.aload_n 1, 1) := by decide +kernel
theorem dX7_cutAll_23 : decode cX7_cutAll 23 = .ok (.iconst 0, 1) := by decide +kernel
theorem dX7_cutAll_24 : decode cX7_cutAll 24 = .ok (.aload_n 0, 1) := by decide +kernel
theorem dX7_cutAll_25 : decode cX7_cutAll 25 = .ok (.getfield 9, 3) := by decide +kernel
theorem dX7_cutAll_28 : decode cX7_cutAll 28 = .ok (.iconst 0, 1) := by decide +kernel
theorem dX7_cutAll_29 : decode cX7_cutAll 29 = .ok (.aload_n 0, 1) := by decide +kernel
theorem dX7_cutAll_30 : decode cX7_cutAll 30 = .ok (.getfield 28, 3) := by decide +kernel
theorem dX7_cutAll_33 : decode cX7_cutAll 33 = .ok (.invokestatic 43, 3) := by decide +kernel
theorem dX7_cutAll_36 : decode cX7_cutAll 36 = .ok (.aload_n 0, 1) := by decide +kernel
theorem dX7_cutAll_37 : decode cX7_cutAll 37 = .ok (.iconst 0, 1) := by decide +kernel
theorem dX7_cutAll_38 : decode cX7_cutAll 38 = .ok (.putfield 31, 3) := by decide +kernel
theorem dX7_cutAll_41 : decode cX7_cutAll 41 = .ok (.aload_n 0, 1) := by decide +kernel
theorem dX7_cutAll_42 : decode cX7_cutAll 42 = .ok (.invokevirtual 49, 3) := by decide +kernel
theorem dX7_cutAll_45 : decode cX7_cutAll 45 = .ok (.aload_n 0, 1) := by decide +kernel
theorem dX7_cutAll_46 : decode cX7_cutAll 46 = .ok (.iconst 0, 1) := by decide +kernel
theorem dX7_cutAll_47 : decode cX7_cutAll 47 = .ok (.putfield 24, 3) := by decide +kernel
theorem dX7_cutAll_50 : decode cX7_cutAll 50 = .ok (.aload_n 0, 1) := by decide +kernel
theorem dX7_cutAll_51 : decode cX7_cutAll 51 = .ok (.getfield 24, 3) := by decide +kernel
theorem dX7_cutAll_54 : decode cX7_cutAll 54 = .ok (.sipush 700, 3) := by decide +kernel
theorem dX7_cutAll_57 : decode cX7_cutAll 57 = .ok (.if_icmp .ge 35, 3) := by decide +kernel
theorem dX7_cutAll_60 : decode cX7_cutAll 60 = .ok (.aload_n 0, 1) := by decide +kernel
theorem dX7_cutAll_61 : decode cX7_cutAll 61 = .ok (.getfield 31, 3) := by decide +kernel
theorem dX7_cutAll_64 : decode cX7_cutAll 64 = .ok (.aload_n 0, 1) := by decide +kernel
theorem dX7_cutAll_65 : decode cX7_cutAll 65 = .ok (.getfield 28, 3) := by decide +kernel
theorem dX7_cutAll_68 : decode cX7_cutAll 68 = .ok (.if_icmp .ge 24, 3) := by decide +kernel
theorem dX7_cutAll_71 : decode cX7_cutAll 71 = .ok (.aload_n 0, 1) := by decide +kernel
theorem dX7_cutAll_72 : decode cX7_cutAll 72 = .ok (.invokevirtual 52, 3) := by decide +kernel
theorem dX7_cutAll_75 : decode cX7_cutAll 75 = .ok (.aload_n 0, 1) := by decide +kernel
theorem dX7_cutAll_76 : decode cX7_cutAll 76 = .ok (.invokevirtual 49, 3) := by decide +kernel
theorem dX7_cutAll_79 : decode cX7_cutAll 79 = .ok (.aload_n 0, 1) := by decide +kernel
theorem dX7_cutAll_80 : decode cX7_cutAll 80 = .ok (.dup, 1) := by decide +kernel
theorem dX7_cutAll_81 : decode cX7_cutAll 81 = .ok (.getfield 24, 3) := by decide +kernel
theorem dX7_cutAll_84 : decode cX7_cutAll 84 = .ok (.iconst 1, 1) := by decide +kernel
theorem dX7_cutAll_85 : decode cX7_cutAll 85 = .ok (.iadd, 1) := by decide +kernel
theorem dX7_cutAll_86 : decode cX7_cutAll 86 = .ok (.putfield 24, 3) := by decide +kernel
theorem dX7_cutAll_89 : decode cX7_cutAll 89 = .ok (.goto (-39), 3) := by decide +kernel
theorem dX7_cutAll_92 : decode cX7_cutAll 92 = .ok (.return_, 1) := by decide +kernel
theorem dX7_cutOne_0 : decode cX7_cutOne 0 = .ok (.aload_n 0, 1) := by decide +kernel
theorem dX7_cutOne_1 : decode cX7_cutOne 1 = .ok (.getfield 18, 3) := by decide +kernel
theorem dX7_cutOne_4 : decode cX7_cutOne 4 = .ok (.aload_n 0, 1) := by decide +kernel
theorem dX7_cutOne_5 : decode cX7_cutOne 5 = .ok (.getfield 24, 3) := by decide +kernel
theorem dX7_cutOne_8 : decode cX7_cutOne 8 = .ok (.aload_n 0, 1) := by decide +kernel
theorem dX7_cutOne_9 : decode cX7_cutOne 9 = .ok (.getfield 31, 3) := by decide +kernel
theorem dX7_cutOne_12 : decode cX7_cutOne 12 = .ok (.iastore, 1) := by decide +kernel
theorem dX7_cutOne_13 : decode cX7_cutOne 13 = .ok (.aload_n 0, 1) := by decide +kernel
theorem dX7_cutOne_14 : decode cX7_cutOne 14 = .ok (.getfield 21, 3) := by decide +kernel
theorem dX7_cutOne_17 : decode cX7_cutOne 17 = .ok (.aload_n 0, 1) := by decide +kernel
theorem dX7_cutOne_18 : decode cX7_cutOne 18 = .ok (.getfield 24, 3) := by decide +kernel
theorem dX7_cutOne_21 : decode cX7_cutOne 21 = .ok (.iconst 0, 1) := by decide +kernel
theorem dX7_cutOne_22 : decode cX7_cutOne 22 = .ok (.iastore, 1) := by decide +kernel
theorem dX7_cutOne_23 : decode cX7_cutOne 23 = .ok (.aload_n 0, 1) := by decide +kernel
theorem dX7_cutOne_24 : decode cX7_cutOne 24 = .ok (.aload_n 0, 1) := by decide +kernel
theorem dX7_cutOne_25 : decode cX7_cutOne 25 = .ok (.getfield 31, 3) := by decide +kernel
theorem dX7_cutOne_28 : decode cX7_cutOne 28 = .ok (.invokevirtual 55, 3) := by decide +kernel
theorem dX7_cutOne_31 : decode cX7_cutOne 31 = .ok (.invokestatic 59, 3) := by decide +kernel
theorem dX7_cutOne_34 : decode cX7_cutOne 34 = .ok (.ifCond .eq 32, 3) := by decide +kernel
theorem dX7_cutOne_37 : decode cX7_cutOne 37 = .ok (.aload_n 0, 1) := by decide +kernel
theorem dX7_cutOne_38 : decode cX7_cutOne 38 = .ok (.invokevirtual 63, 3) := by decide +kernel
theorem dX7_cutOne_41 : decode cX7_cutOne 41 = .ok (.aload_n 0, 1) := by decide +kernel
theorem dX7_cutOne_42 : decode cX7_cutOne 42 = .ok (.getfield 15, 3) := by decide +kernel
theorem dX7_cutOne_45 : decode cX7_cutOne 45 = .ok (.aload_n 0, 1) := by decide +kernel
theorem dX7_cutOne_46 : decode cX7_cutOne 46 = .ok (.getfield 24, 3) := by decide +kernel
theorem dX7_cutOne_49 : decode cX7_cutOne 49 = .ok (.aload_n 0, 1) := by decide +kernel
theorem dX7_cutOne_50 : decode cX7_cutOne 50 = .ok (.aload_n 0, 1) := by decide +kernel
theorem dX7_cutOne_51 : decode cX7_cutOne 51 = .ok (.getfield 18, 3) := by decide +kernel
theorem dX7_cutOne_54 : decode cX7_cutOne 54 = .ok (.aload_n 0, 1) := by decide +kernel
theorem dX7_cutOne_55 : decode cX7_cutOne 55 = .ok (.getfield 24, 3) := by decide +kernel
theorem dX7_cutOne_58 : decode cX7_cutOne 58 = .ok (.iaload, 1) := by decide +kernel
theorem dX7_cutOne_59 : decode cX7_cutOne 59 = .ok (.invokevirtual 66, 3) := by decide +kernel
theorem dX7_cutOne_62 : decode cX7_cutOne 62 = .ok (.iastore, 1) := by decide +kernel
theorem dX7_cutOne_63 : decode cX7_cutOne 63 = .ok (.goto 102, 3) := by decide +kernel
theorem dX7_cutOne_66 : decode cX7_cutOne 66 = .ok (.aload_n 0, 1) := by decide +kernel
theorem dX7_cutOne_67 : decode cX7_cutOne 67 = .ok (.aload_n 0, 1) := by decide +kernel
theorem dX7_cutOne_68 : decode cX7_cutOne 68 = .ok (.getfield 31, 3) := by decide +kernel
theorem dX7_cutOne_71 : decode cX7_cutOne 71 = .ok (.invokevirtual 55, 3) := by decide +kernel
theorem dX7_cutOne_74 : decode cX7_cutOne 74 = .ok (.invokestatic 69, 3) := by decide +kernel
theorem dX7_cutOne_77 : decode cX7_cutOne 77 = .ok (.ifCond .eq 51, 3) := by decide +kernel
theorem dX7_cutOne_80 : decode cX7_cutOne 80 = .ok (.aload_n 0, 1) := by decide +kernel
theorem dX7_cutOne_81 : decode cX7_cutOne 81 = .ok (.getfield 21, 3) := by decide +kernel
theorem dX7_cutOne_84 : decode cX7_cutOne 84 = .ok (.aload_n 0, 1) := by decide +kernel
theorem dX7_cutOne_85 : decode cX7_cutOne 85 = .ok (.getfield 24, 3) := by decide +kernel
theorem dX7_cutOne_88 : decode cX7_cutOne 88 = .ok (.aload_n 0, 1) := by decide +kernel
theorem dX7_cutOne_89 : decode cX7_cutOne 89 = .ok (.invokevirtual 72, 3) := by decide +kernel
theorem dX7_cutOne_92 : decode cX7_cutOne 92 = .ok (.iastore, 1) := by decide +kernel
theorem dX7_cutOne_93 : decode cX7_cutOne 93 = .ok (.aload_n 0, 1) := by decide +kernel
theorem dX7_cutOne_94 : decode cX7_cutOne 94 = .ok (.getfield 15, 3) := by decide +kernel
theorem dX7_cutOne_97 : decode cX7_cutOne 97 = .ok (.aload_n 0, 1) := by decide +kernel
theorem dX7_cutOne_98 : decode cX7_cutOne 98 = .ok (.getfield 24, 3) := by decide +kernel
theorem dX7_cutOne_101 : decode cX7_cutOne 101 = .ok (.aload_n 0, 1) := by decide +kernel
theorem dX7_cutOne_102 : decode cX7_cutOne 102 = .ok (.getfield 31, 3) := by decide +kernel
theorem dX7_cutOne_105 : decode cX7_cutOne 105 = .ok (.aload_n 0, 1) := by decide +kernel
theorem dX7_cutOne_106 : decode cX7_cutOne 106 = .ok (.getfield 18, 3) := by decide +kernel
theorem dX7_cutOne_109 : decode cX7_cutOne 109 = .ok (.aload_n 0, 1) := by decide +kernel
theorem dX7_cutOne_110 : decode cX7_cutOne 110 = .ok (.getfield 24, 3) := by decide +kernel
theorem dX7_cutOne_113 : decode cX7_cutOne 113 = .ok (.iaload, 1) := by decide +kernel
theorem dX7_cutOne_114 : decode cX7_cutOne 114 = .ok (.isub, 1) := by decide +kernel
theorem dX7_cutOne_115 : decode cX7_cutOne 115 = .ok (.iconst 3, 1) := by decide +kernel
theorem dX7_cutOne_116 : decode cX7_cutOne 116 = .ok (.if_icmp .le 7, 3) := by decide +kernel
theorem dX7_cutOne_119 : decode cX7_cutOne 119 = .ok (.iconst 1, 1) := by decide +kernel
theorem dX7_cutOne_120 : decode cX7_cutOne 120 = .ok (.goto 4, 3) := by decide +kernel
theorem dX7_cutOne_123 : decode cX7_cutOne 123 = .ok (.iconst 2, 1) := by decide +kernel
theorem dX7_cutOne_124 : decode cX7_cutOne 124 = .ok (.iastore, 1) := by decide +kernel
theorem dX7_cutOne_125 : decode cX7_cutOne 125 = .ok (.goto 40, 3) := by decide +kernel
theorem dX7_cutOne_128 : decode cX7_cutOne 128 = .ok (.aload_n 0, 1) := by decide +kernel
theorem dX7_cutOne_129 : decode cX7_cutOne 129 = .ok (.getfield 15, 3) := by decide +kernel
theorem dX7_cutOne_132 : decode cX7_cutOne 132 = .ok (.aload_n 0, 1) := by decide +kernel
theorem dX7_cutOne_133 : decode cX7_cutOne 133 = .ok (.getfield 24, 3) := by decide +kernel
theorem dX7_cutOne_136 : decode cX7_cutOne 136 = .ok (.aload_n 0, 1) := by decide +kernel
theorem dX7_cutOne_137 : decode cX7_cutOne 137 = .ok (.aload_n 0, 1) := by decide +kernel
theorem dX7_cutOne_138 : decode cX7_cutOne 138 = .ok (.getfield 31, 3) := by decide +kernel
theorem dX7_cutOne_141 : decode cX7_cutOne 141 = .ok (.invokevirtual 55, 3) := by decide +kernel
theorem dX7_cutOne_144 : decode cX7_cutOne 144 = .ok (.bipush 59, 2) := by decide +kernel
theorem dX7_cutOne_146 : decode cX7_cutOne 146 = .ok (.if_icmp .ne 7, 3) := by decide +kernel
theorem dX7_cutOne_149 : decode cX7_cutOne 149 = .ok (.iconst 3, 1) := by decide +kernel
theorem dX7_cutOne_150 : decode cX7_cutOne 150 = .ok (.goto 4, 3) := by decide +kernel
theorem dX7_cutOne_153 : decode cX7_cutOne 153 = .ok (.iconst 1, 1) := by decide +kernel
theorem dX7_cutOne_154 : decode cX7_cutOne 154 = .ok (.iastore, 1) := by decide +kernel
theorem dX7_cutOne_155 : decode cX7_cutOne 155 = .ok (.aload_n 0, 1) := by decide +kernel
theorem dX7_cutOne_156 : decode cX7_cutOne 156 = .ok (.dup, 1) := by decide +kernel
theorem dX7_cutOne_157 : decode cX7_cutOne 157 = .ok (.getfield 31, 3) := by decide +kernel
theorem dX7_cutOne_160 : decode cX7_cutOne 160 = .ok (.iconst 1, 1) := by decide +kernel
theorem dX7_cutOne_161 : decode cX7_cutOne 161 = .ok (.iadd, 1) := by decide +kernel
theorem dX7_cutOne_162 : decode cX7_cutOne 162 = .ok (.putfield 31, 3) := by decide +kernel
theorem dX7_cutOne_165 : decode cX7_cutOne 165 = .ok (.return_, 1) := by decide +kernel
theorem dX7_signAt_0 : decode cX7_signAt 0 = .ok (.iload_n 1, 1) := by decide +kernel
theorem dX7_signAt_1 : decode cX7_signAt 1 = .ok (.ifCond .lt 20, 3) := by decide +kernel
theorem dX7_signAt_4 : decode cX7_signAt 4 = .ok (.iload_n 1, 1) := by decide +kernel
theorem dX7_signAt_5 : decode cX7_signAt 5 = .ok (.aload_n 0, 1) := by decide +kernel
theorem dX7_signAt_6 : decode cX7_signAt 6 = .ok (.getfield 28, 3) := by decide +kernel
theorem dX7_signAt_9 : decode cX7_signAt 9 = .ok (.if_icmp .ge 12, 3) := by decide +kernel
theorem dX7_signAt_12 : decode cX7_signAt 12 = .ok (.aload_n 0, 1) := by decide +kernel
theorem dX7_signAt_13 : decode cX7_signAt 13 = .ok (.getfield 9, 3) := by decide +kernel
theorem dX7_signAt_16 : decode cX7_signAt 16 = .ok (.iload_n 1, 1) := by decide +kernel
theorem dX7_signAt_17 : decode cX7_signAt 17 = .ok (.iaload, 1) := by decide +kernel
theorem dX7_signAt_18 : decode cX7_signAt 18 = .ok (.goto 4, 3) := by decide +kernel
theorem dX7_signAt_21 : decode cX7_signAt 21 = .ok (.iconst (-1), 1) := by decide +kernel
theorem dX7_signAt_22 : decode cX7_signAt 22 = .ok (.ireturn, 1) := by decide +kernel
theorem dX7_isLetter_0 : decode cX7_isLetter 0 = .ok (.iload_n 0, 1) := by decide +kernel
theorem dX7_isLetter_1 : decode cX7_isLetter 1 = .ok (.bipush 97, 2) := by decide +kernel
theorem dX7_isLetter_3 : decode cX7_isLetter 3 = .ok (.if_icmp .lt 13, 3) := by decide +kernel
theorem dX7_isLetter_6 : decode cX7_isLetter 6 = .ok (.iload_n 0, 1) := by decide +kernel
theorem dX7_isLetter_7 : decode cX7_isLetter 7 = .ok (.bipush 122, 2) := by decide +kernel
theorem dX7_isLetter_9 : decode cX7_isLetter 9 = .ok (.if_icmp .gt 7, 3) := by decide +kernel
theorem dX7_isLetter_12 : decode cX7_isLetter 12 = .ok (.iconst 1, 1) := by decide +kernel
theorem dX7_isLetter_13 : decode cX7_isLetter 13 = .ok (.goto 4, 3) := by decide +kernel
theorem dX7_isLetter_16 : decode cX7_isLetter 16 = .ok (.iconst 0, 1) := by decide +kernel
theorem dX7_isLetter_17 : decode cX7_isLetter 17 = .ok (.ireturn, 1) := by decide +kernel
theorem dX7_isDigit_0 : decode cX7_isDigit 0 = .ok (.iload_n 0, 1) := by decide +kernel
theorem dX7_isDigit_1 : decode cX7_isDigit 1 = .ok (.bipush 48, 2) := by decide +kernel
theorem dX7_isDigit_3 : decode cX7_isDigit 3 = .ok (.if_icmp .lt 13, 3) := by decide +kernel
theorem dX7_isDigit_6 : decode cX7_isDigit 6 = .ok (.iload_n 0, 1) := by decide +kernel
theorem dX7_isDigit_7 : decode cX7_isDigit 7 = .ok (.bipush 57, 2) := by decide +kernel
theorem dX7_isDigit_9 : decode cX7_isDigit 9 = .ok (.if_icmp .gt 7, 3) := by decide +kernel
theorem dX7_isDigit_12 : decode cX7_isDigit 12 = .ok (.iconst 1, 1) := by decide +kernel
theorem dX7_isDigit_13 : decode cX7_isDigit 13 = .ok (.goto 4, 3) := by decide +kernel
theorem dX7_isDigit_16 : decode cX7_isDigit 16 = .ok (.iconst 0, 1) := by decide +kernel
theorem dX7_isDigit_17 : decode cX7_isDigit 17 = .ok (.ireturn, 1) := by decide +kernel
theorem dX7_skipBlanks_0 : decode cX7_skipBlanks 0 = .ok (.aload_n 0, 1) := by decide +kernel
theorem dX7_skipBlanks_1 : decode cX7_skipBlanks 1 = .ok (.getfield 31, 3) := by decide +kernel
theorem dX7_skipBlanks_4 : decode cX7_skipBlanks 4 = .ok (.aload_n 0, 1) := by decide +kernel
theorem dX7_skipBlanks_5 : decode cX7_skipBlanks 5 = .ok (.getfield 28, 3) := by decide +kernel
theorem dX7_skipBlanks_8 : decode cX7_skipBlanks 8 = .ok (.if_icmp .ge 42, 3) := by decide +kernel
theorem dX7_skipBlanks_11 : decode cX7_skipBlanks 11 = .ok (.aload_n 0, 1) := by decide +kernel
theorem dX7_skipBlanks_12 : decode cX7_skipBlanks 12 = .ok (.aload_n 0, 1) := by decide +kernel
theorem dX7_skipBlanks_13 : decode cX7_skipBlanks 13 = .ok (.getfield 31, 3) := by decide +kernel
theorem dX7_skipBlanks_16 : decode cX7_skipBlanks 16 = .ok (.invokevirtual 55, 3) := by decide +kernel
theorem dX7_skipBlanks_19 : decode cX7_skipBlanks 19 = .ok (.bipush 10, 2) := by decide +kernel
theorem dX7_skipBlanks_21 : decode cX7_skipBlanks 21 = .ok (.if_icmp .eq 16, 3) := by decide +kernel
theorem dX7_skipBlanks_24 : decode cX7_skipBlanks 24 = .ok (.aload_n 0, 1) := by decide +kernel
theorem dX7_skipBlanks_25 : decode cX7_skipBlanks 25 = .ok (.aload_n 0, 1) := by decide +kernel
theorem dX7_skipBlanks_26 : decode cX7_skipBlanks 26 = .ok (.getfield 31, 3) := by decide +kernel
theorem dX7_skipBlanks_29 : decode cX7_skipBlanks 29 = .ok (.invokevirtual 55, 3) := by decide +kernel
theorem dX7_skipBlanks_32 : decode cX7_skipBlanks 32 = .ok (.bipush 32, 2) := by decide +kernel
theorem dX7_skipBlanks_34 : decode cX7_skipBlanks 34 = .ok (.if_icmp .ne 16, 3) := by decide +kernel
theorem dX7_skipBlanks_37 : decode cX7_skipBlanks 37 = .ok (.aload_n 0, 1) := by decide +kernel
theorem dX7_skipBlanks_38 : decode cX7_skipBlanks 38 = .ok (.dup, 1) := by decide +kernel
theorem dX7_skipBlanks_39 : decode cX7_skipBlanks 39 = .ok (.getfield 31, 3) := by decide +kernel
theorem dX7_skipBlanks_42 : decode cX7_skipBlanks 42 = .ok (.iconst 1, 1) := by decide +kernel
theorem dX7_skipBlanks_43 : decode cX7_skipBlanks 43 = .ok (.iadd, 1) := by decide +kernel
theorem dX7_skipBlanks_44 : decode cX7_skipBlanks 44 = .ok (.putfield 31, 3) := by decide +kernel
theorem dX7_skipBlanks_47 : decode cX7_skipBlanks 47 = .ok (.goto (-47), 3) := by decide +kernel
theorem dX7_skipBlanks_50 : decode cX7_skipBlanks 50 = .ok (.return_, 1) := by decide +kernel
theorem dX7_skipLetters_0 : decode cX7_skipLetters 0 = .ok (.aload_n 0, 1) := by decide +kernel
theorem dX7_skipLetters_1 : decode cX7_skipLetters 1 = .ok (.getfield 31, 3) := by decide +kernel
theorem dX7_skipLetters_4 : decode cX7_skipLetters 4 = .ok (.aload_n 0, 1) := by decide +kernel
theorem dX7_skipLetters_5 : decode cX7_skipLetters 5 = .ok (.getfield 28, 3) := by decide +kernel
theorem dX7_skipLetters_8 : decode cX7_skipLetters 8 = .ok (.if_icmp .ge 30, 3) := by decide +kernel
theorem dX7_skipLetters_11 : decode cX7_skipLetters 11 = .ok (.aload_n 0, 1) := by decide +kernel
theorem dX7_skipLetters_12 : decode cX7_skipLetters 12 = .ok (.aload_n 0, 1) := by decide +kernel
theorem dX7_skipLetters_13 : decode cX7_skipLetters 13 = .ok (.getfield 31, 3) := by decide +kernel
theorem dX7_skipLetters_16 : decode cX7_skipLetters 16 = .ok (.invokevirtual 55, 3) := by decide +kernel
theorem dX7_skipLetters_19 : decode cX7_skipLetters 19 = .ok (.invokestatic 59, 3) := by decide +kernel
theorem dX7_skipLetters_22 : decode cX7_skipLetters 22 = .ok (.ifCond .eq 16, 3) := by decide +kernel
theorem dX7_skipLetters_25 : decode cX7_skipLetters 25 = .ok (.aload_n 0, 1) := by decide +kernel
theorem dX7_skipLetters_26 : decode cX7_skipLetters 26 = .ok (.dup, 1) := by decide +kernel
theorem dX7_skipLetters_27 : decode cX7_skipLetters 27 = .ok (.getfield 31, 3) := by decide +kernel
theorem dX7_skipLetters_30 : decode cX7_skipLetters 30 = .ok (.iconst 1, 1) := by decide +kernel
theorem dX7_skipLetters_31 : decode cX7_skipLetters 31 = .ok (.iadd, 1) := by decide +kernel
theorem dX7_skipLetters_32 : decode cX7_skipLetters 32 = .ok (.putfield 31, 3) := by decide +kernel
theorem dX7_skipLetters_35 : decode cX7_skipLetters 35 = .ok (.goto (-35), 3) := by decide +kernel
theorem dX7_skipLetters_38 : decode cX7_skipLetters 38 = .ok (.return_, 1) := by decide +kernel
theorem dX7_readDigits_0 : decode cX7_readDigits 0 = .ok (.iconst 0, 1) := by decide +kernel
theorem dX7_readDigits_1 : decode cX7_readDigits 1 = .ok (.istore_n 1, 1) := by decide +kernel
theorem dX7_readDigits_2 : decode cX7_readDigits 2 = .ok (.aload_n 0, 1) := by decide +kernel
theorem dX7_readDigits_3 : decode cX7_readDigits 3 = .ok (.getfield 31, 3) := by decide +kernel
theorem dX7_readDigits_6 : decode cX7_readDigits 6 = .ok (.aload_n 0, 1) := by decide +kernel
theorem dX7_readDigits_7 : decode cX7_readDigits 7 = .ok (.getfield 28, 3) := by decide +kernel
theorem dX7_readDigits_10 : decode cX7_readDigits 10 = .ok (.if_icmp .ge 53, 3) := by decide +kernel
theorem dX7_readDigits_13 : decode cX7_readDigits 13 = .ok (.aload_n 0, 1) := by decide +kernel
theorem dX7_readDigits_14 : decode cX7_readDigits 14 = .ok (.aload_n 0, 1) := by decide +kernel
theorem dX7_readDigits_15 : decode cX7_readDigits 15 = .ok (.getfield 31, 3) := by decide +kernel
theorem dX7_readDigits_18 : decode cX7_readDigits 18 = .ok (.invokevirtual 55, 3) := by decide +kernel
theorem dX7_readDigits_21 : decode cX7_readDigits 21 = .ok (.invokestatic 69, 3) := by decide +kernel
theorem dX7_readDigits_24 : decode cX7_readDigits 24 = .ok (.ifCond .eq 39, 3) := by decide +kernel
theorem dX7_readDigits_27 : decode cX7_readDigits 27 = .ok (.iload_n 1, 1) := by decide +kernel
theorem dX7_readDigits_28 : decode cX7_readDigits 28 = .ok (.bipush 10, 2) := by decide +kernel
theorem dX7_readDigits_30 : decode cX7_readDigits 30 = .ok (.imul, 1) := by decide +kernel
theorem dX7_readDigits_31 : decode cX7_readDigits 31 = .ok (.aload_n 0, 1) := by decide +kernel
theorem dX7_readDigits_32 : decode cX7_readDigits 32 = .ok (.aload_n 0, 1) := by decide +kernel
theorem dX7_readDigits_33 : decode cX7_readDigits 33 = .ok (.getfield 31, 3) := by decide +kernel
theorem dX7_readDigits_36 : decode cX7_readDigits 36 = .ok (.invokevirtual 55, 3) := by decide +kernel
theorem dX7_readDigits_39 : decode cX7_readDigits 39 = .ok (.iadd, 1) := by decide +kernel
theorem dX7_readDigits_40 : decode cX7_readDigits 40 = .ok (.bipush 48, 2) := by decide +kernel
theorem dX7_readDigits_42 : decode cX7_readDigits 42 = .ok (.isub, 1) := by decide +kernel
theorem dX7_readDigits_43 : decode cX7_readDigits 43 = .ok (.sipush 1000, 3) := by decide +kernel
theorem dX7_readDigits_46 : decode cX7_readDigits 46 = .ok (.invokestatic 34, 3) := by decide +kernel
theorem dX7_readDigits_49 : decode cX7_readDigits 49 = .ok (.istore_n 1, 1) := by decide +kernel
theorem dX7_readDigits_50 : decode cX7_readDigits 50 = .ok (.aload_n 0, 1) := by decide +kernel
theorem dX7_readDigits_51 : decode cX7_readDigits 51 = .ok (.dup, 1) := by decide +kernel
theorem dX7_readDigits_52 : decode cX7_readDigits 52 = .ok (.getfield 31, 3) := by decide +kernel
theorem dX7_readDigits_55 : decode cX7_readDigits 55 = .ok (.iconst 1, 1) := by decide +kernel
theorem dX7_readDigits_56 : decode cX7_readDigits 56 = .ok (.iadd, 1) := by decide +kernel
theorem dX7_readDigits_57 : decode cX7_readDigits 57 = .ok (.putfield 31, 3) := by decide +kernel
theorem dX7_readDigits_60 : decode cX7_readDigits 60 = .ok (.goto (-58), 3) := by decide +kernel
theorem dX7_readDigits_63 : decode cX7_readDigits 63 = .ok (.iload_n 1, 1) := by decide +kernel
theorem dX7_readDigits_64 : decode cX7_readDigits 64 = .ok (.ireturn, 1) := by decide +kernel
theorem dX7_kindOfWord_0 : decode cX7_kindOfWord 0 = .ok (.aload_n 0, 1) := by decide +kernel
theorem dX7_kindOfWord_1 : decode cX7_kindOfWord 1 = .ok (.iload_n 1, 1) := by decide +kernel
theorem dX7_kindOfWord_2 : decode cX7_kindOfWord 2 = .ok (.ldc 76, 2) := by decide +kernel
theorem dX7_kindOfWord_4 : decode cX7_kindOfWord 4 = .ok (.invokevirtual 78, 3) := by decide +kernel
theorem dX7_kindOfWord_7 : decode cX7_kindOfWord 7 = .ok (.ifCond .eq 5, 3) := by decide +kernel
theorem dX7_kindOfWord_10 : decode cX7_kindOfWord 10 = .ok (.iconst 5, 1) := by decide +kernel
theorem dX7_kindOfWord_11 : decode cX7_kindOfWord 11 = .ok (.ireturn, 1) := by decide +kernel
theorem dX7_kindOfWord_12 : decode cX7_kindOfWord 12 = .ok (.aload_n 0, 1) := by decide +kernel
theorem dX7_kindOfWord_13 : decode cX7_kindOfWord 13 = .ok (.iload_n 1, 1) := by decide +kernel
theorem dX7_kindOfWord_14 : decode cX7_kindOfWord 14 = .ok (.ldc 82, 2) := by decide +kernel
theorem dX7_kindOfWord_16 : decode cX7_kindOfWord 16 = .ok (.invokevirtual 78, 3) := by decide +kernel
theorem dX7_kindOfWord_19 : decode cX7_kindOfWord 19 = .ok (.ifCond .eq 6, 3) := by decide +kernel
theorem dX7_kindOfWord_22 : decode cX7_kindOfWord 22 = .ok (.bipush 6, 2) := by decide +kernel
theorem dX7_kindOfWord_24 : decode cX7_kindOfWord 24 = .ok (.ireturn, 1) := by decide +kernel
theorem dX7_kindOfWord_25 : decode cX7_kindOfWord 25 = .ok (.aload_n 0, 1) := by decide +kernel
theorem dX7_kindOfWord_26 : decode cX7_kindOfWord 26 = .ok (.iload_n 1, 1) := by decide +kernel
theorem dX7_kindOfWord_27 : decode cX7_kindOfWord 27 = .ok (.ldc 84, 2) := by decide +kernel
theorem dX7_kindOfWord_29 : decode cX7_kindOfWord 29 = .ok (.invokevirtual 78, 3) := by decide +kernel
theorem dX7_kindOfWord_32 : decode cX7_kindOfWord 32 = .ok (.ifCond .eq 6, 3) := by decide +kernel
theorem dX7_kindOfWord_35 : decode cX7_kindOfWord 35 = .ok (.bipush 7, 2) := by decide +kernel
theorem dX7_kindOfWord_37 : decode cX7_kindOfWord 37 = .ok (.ireturn, 1) := by decide +kernel
theorem dX7_kindOfWord_38 : decode cX7_kindOfWord 38 = .ok (.aload_n 0, 1) := by decide +kernel
theorem dX7_kindOfWord_39 : decode cX7_kindOfWord 39 = .ok (.iload_n 1, 1) := by decide +kernel
theorem dX7_kindOfWord_40 : decode cX7_kindOfWord 40 = .ok (.ldc 86, 2) := by decide +kernel
theorem dX7_kindOfWord_42 : decode cX7_kindOfWord 42 = .ok (.invokevirtual 78, 3) := by decide +kernel
theorem dX7_kindOfWord_45 : decode cX7_kindOfWord 45 = .ok (.ifCond .eq 6, 3) := by decide +kernel
theorem dX7_kindOfWord_48 : decode cX7_kindOfWord 48 = .ok (.bipush 8, 2) := by decide +kernel
theorem dX7_kindOfWord_50 : decode cX7_kindOfWord 50 = .ok (.ireturn, 1) := by decide +kernel
theorem dX7_kindOfWord_51 : decode cX7_kindOfWord 51 = .ok (.aload_n 0, 1) := by decide +kernel
theorem dX7_kindOfWord_52 : decode cX7_kindOfWord 52 = .ok (.iload_n 1, 1) := by decide +kernel
theorem dX7_kindOfWord_53 : decode cX7_kindOfWord 53 = .ok (.ldc 88, 2) := by decide +kernel
theorem dX7_kindOfWord_55 : decode cX7_kindOfWord 55 = .ok (.invokevirtual 78, 3) := by decide +kernel
theorem dX7_kindOfWord_58 : decode cX7_kindOfWord 58 = .ok (.ifCond .eq 8, 3) := by decide +kernel
theorem dX7_kindOfWord_61 : decode cX7_kindOfWord 61 = .ok (.bipush 9, 2) := by decide +kernel
theorem dX7_kindOfWord_63 : decode cX7_kindOfWord 63 = .ok (.goto 4, 3) := by decide +kernel
theorem dX7_kindOfWord_66 : decode cX7_kindOfWord 66 = .ok (.iconst 4, 1) := by decide +kernel
theorem dX7_kindOfWord_67 : decode cX7_kindOfWord 67 = .ok (.ireturn, 1) := by decide +kernel
theorem dX7_isWord_0 : decode cX7_isWord 0 = .ok (.aload_n 0, 1) := by decide +kernel
theorem dX7_isWord_1 : decode cX7_isWord 1 = .ok (.getfield 31, 3) := by decide +kernel
theorem dX7_isWord_4 : decode cX7_isWord 4 = .ok (.iload_n 1, 1) := by decide +kernel
theorem dX7_isWord_5 : decode cX7_isWord 5 = .ok (.isub, 1) := by decide +kernel
theorem dX7_isWord_6 : decode cX7_isWord 6 = .ok (.aload_n 2, 1) := by decide +kernel
theorem dX7_isWord_7 : decode cX7_isWord 7 = .ok (.invokevirtual 90, 3) := by decide +kernel
theorem dX7_isWord_10 : decode cX7_isWord 10 = .ok (.if_icmp .eq 5, 3) := by decide +kernel
theorem dX7_isWord_13 : decode cX7_isWord 13 = .ok (.iconst 0, 1) := by decide +kernel
theorem dX7_isWord_14 : decode cX7_isWord 14 = .ok (.ireturn, 1) := by decide +kernel
theorem dX7_isWord_15 : decode cX7_isWord 15 = .ok (.iconst 0, 1) := by decide +kernel
theorem dX7_isWord_16 : decode cX7_isWord 16 = .ok (.istore_n 3, 1) := by decide +kernel
theorem dX7_isWord_17 : decode cX7_isWord 17 = .ok (.iload_n 3, 1) := by decide +kernel
theorem dX7_isWord_18 : decode cX7_isWord 18 = .ok (.aload_n 2, 1) := by decide +kernel
theorem dX7_isWord_19 : decode cX7_isWord 19 = .ok (.invokevirtual 90, 3) := by decide +kernel
theorem dX7_isWord_22 : decode cX7_isWord 22 = .ok (.if_icmp .ge 26, 3) := by decide +kernel
theorem dX7_isWord_25 : decode cX7_isWord 25 = .ok (.aload_n 0, 1) := by decide +kernel
theorem dX7_isWord_26 : decode cX7_isWord 26 = .ok (.iload_n 1, 1) := by decide +kernel
theorem dX7_isWord_27 : decode cX7_isWord 27 = .ok (.iload_n 3, 1) := by decide +kernel
theorem dX7_isWord_28 : decode cX7_isWord 28 = .ok (.iadd, 1) := by decide +kernel
theorem dX7_isWord_29 : decode cX7_isWord 29 = .ok (.invokevirtual 55, 3) := by decide +kernel
theorem dX7_isWord_32 : decode cX7_isWord 32 = .ok (.aload_n 2, 1) := by decide +kernel
theorem dX7_isWord_33 : decode cX7_isWord 33 = .ok (.iload_n 3, 1) := by decide +kernel
theorem dX7_isWord_34 : decode cX7_isWord 34 = .ok (.invokevirtual 94, 3) := by decide +kernel
theorem dX7_isWord_37 : decode cX7_isWord 37 = .ok (.if_icmp .eq 5, 3) := by decide +kernel
theorem dX7_isWord_40 : decode cX7_isWord 40 = .ok (.iconst 0, 1) := by decide +kernel
theorem dX7_isWord_41 : decode cX7_isWord 41 = .ok (.ireturn, 1) := by decide +kernel
theorem dX7_isWord_42 : decode cX7_isWord 42 = .ok (.iinc 3 1, 3) := by decide +kernel
theorem dX7_isWord_45 : decode cX7_isWord 45 = .ok (.goto (-28), 3) := by decide +kernel
theorem dX7_isWord_48 : decode cX7_isWord 48 = .ok (.iconst 1, 1) := by decide +kernel
theorem dX7_isWord_49 : decode cX7_isWord 49 = .ok (.ireturn, 1) := by decide +kernel
theorem dX8_init_0 : decode cX8_init 0 = .ok (.aload_n 0, 1) := by decide +kernel
theorem dX8_init_1 : decode cX8_init 1 = .ok (.invokespecial 3, 3) := by decide +kernel
theorem dX8_init_4 : decode cX8_init 4 = .ok (.aload_n 0, 1) := by decide +kernel
theorem dX8_init_5 : decode cX8_init 5 = .ok (.iconst 0, 1) := by decide +kernel
theorem dX8_init_6 : decode cX8_init 6 = .ok (.putfield 9, 3) := by decide +kernel
theorem dX8_init_9 : decode cX8_init 9 = .ok (.aload_n 0, 1) := by decide +kernel
theorem dX8_init_10 : decode cX8_init 10 = .ok (.iconst 0, 1) := by decide +kernel
theorem dX8_init_11 : decode cX8_init 11 = .ok (.putfield 15, 3) := by decide +kernel
theorem dX8_init_14 : decode cX8_init 14 = .ok (.aload_n 0, 1) := by decide +kernel
theorem dX8_init_15 : decode cX8_init 15 = .ok (.iconst 0, 1) := by decide +kernel
theorem dX8_init_16 : decode cX8_init 16 = .ok (.putfield 18, 3) := by decide +kernel
theorem dX8_init_19 : decode cX8_init 19 = .ok (.aload_n 0, 1) := by decide +kernel
theorem dX8_init_20 : decode cX8_init 20 = .ok (.iconst 0, 1) := by decide +kernel
theorem dX8_init_21 : decode cX8_init 21 = .ok (.putfield 21, 3) := by decide +kernel
theorem dX8_init_24 : decode cX8_init 24 = .ok (.aload_n 0, 1) := by decide +kernel
theorem dX8_init_25 : decode cX8_init 25 = .ok (.new 24, 3) := by decide +kernel
theorem dX8_init_28 : decode cX8_init 28 = .ok (.dup, 1) := by decide +kernel
theorem dX8_init_29 : decode cX8_init 29 = .ok (.invokespecial 26, 3) := by decide +kernel
theorem dX8_init_32 : decode cX8_init 32 = .ok (.putfield 27, 3) := by decide +kernel
theorem dX8_init_35 : decode cX8_init 35 = .ok (.aload_n 0, 1) := by decide +kernel
theorem dX8_init_36 : decode cX8_init 36 = .ok (.bipush 8, 2) := by decide +kernel
theorem dX8_init_38 : decode cX8_init 38 = .ok (.newarray .int, 2) := by decide +kernel
theorem dX8_init_40 : decode cX8_init 40 = .ok (.putfield 31, 3) := by decide +kernel
theorem dX8_init_43 : decode cX8_init 43 = .ok (.aload_n 0, 1) := by decide +kernel
theorem dX8_init_44 : decode cX8_init 44 = .ok (.bipush 40, 2) := by decide +kernel
theorem dX8_init_46 : decode cX8_init 46 = .ok (.newarray .int, 2) := by decide +kernel
theorem dX8_init_48 : decode cX8_init 48 = .ok (.putfield 35, 3) := by decide +kernel
theorem dX8_init_51 : decode cX8_init 51 = .ok (.aload_n 0, 1) := by decide +kernel
theorem dX8_init_52 : decode cX8_init 52 = .ok (.bipush 96, 2) := by decide +kernel
theorem dX8_init_54 : decode cX8_init 54 = .ok (.newarray .int, 2) := by decide +kernel
theorem dX8_init_56 : decode cX8_init 56 = .ok (.putfield 38, 3) := by decide +kernel
theorem dX8_init_59 : decode cX8_init 59 = .ok (.aload_n 0, 1) := by decide +kernel
theorem dX8_init_60 : decode cX8_init 60 = .ok (.bipush 8, 2) := by decide +kernel
theorem dX8_init_62 : decode cX8_init 62 = .ok (.newarray .int, 2) := by decide +kernel
theorem dX8_init_64 : decode cX8_init 64 = .ok (.putfield 41, 3) := by decide +kernel
theorem dX8_init_67 : decode cX8_init 67 = .ok (.return_, 1) := by decide +kernel
theorem dX8_empty_0 : decode cX8_empty 0 = .ok (.aload_n 0, 1) := by decide +kernel
theorem dX8_empty_1 : decode cX8_empty 1 = .ok (.iconst 0, 1) := by decide +kernel
theorem dX8_empty_2 : decode cX8_empty 2 = .ok (.putfield 9, 3) := by decide +kernel
theorem dX8_empty_5 : decode cX8_empty 5 = .ok (.aload_n 0, 1) := by decide +kernel
theorem dX8_empty_6 : decode cX8_empty 6 = .ok (.iconst 0, 1) := by decide +kernel
theorem dX8_empty_7 : decode cX8_empty 7 = .ok (.putfield 15, 3) := by decide +kernel
theorem dX8_empty_10 : decode cX8_empty 10 = .ok (.aload_n 0, 1) := by decide +kernel
theorem dX8_empty_11 : decode cX8_empty 11 = .ok (.iconst 0, 1) := by decide +kernel
theorem dX8_empty_12 : decode cX8_empty 12 = .ok (.putfield 18, 3) := by decide +kernel
theorem dX8_empty_15 : decode cX8_empty 15 = .ok (.aload_n 0, 1) := by decide +kernel
theorem dX8_empty_16 : decode cX8_empty 16 = .ok (.iconst 0, 1) := by decide +kernel
theorem dX8_empty_17 : decode cX8_empty 17 = .ok (.putfield 21, 3) := by decide +kernel
theorem dX8_empty_20 : decode cX8_empty 20 = .ok (.aload_n 0, 1) := by decide +kernel
theorem dX8_empty_21 : decode cX8_empty 21 = .ok (.getfield 27, 3) := by decide +kernel
theorem dX8_empty_24 : decode cX8_empty 24 = .ok (.invokevirtual 44, 3) := by decide +kernel
theorem dX8_empty_27 : decode cX8_empty 27 = .ok (.aload_n 0, 1) := by decide +kernel
theorem dX8_empty_28 : decode cX8_empty 28 = .ok (.getfield 31, 3) := by decide +kernel
theorem dX8_empty_31 : decode cX8_empty 31 = .ok (.iconst 0, 1) := by decide +kernel
theorem dX8_empty_32 : decode cX8_empty 32 = .ok (.invokestatic 47, 3) := by decide +kernel
theorem dX8_empty_35 : decode cX8_empty 35 = .ok (.aload_n 0, 1) := by decide +kernel
theorem dX8_empty_36 : decode cX8_empty 36 = .ok (.getfield 35, 3) := by decide +kernel
theorem dX8_empty_39 : decode cX8_empty 39 = .ok (.iconst 0, 1) := by decide +kernel
theorem dX8_empty_40 : decode cX8_empty 40 = .ok (.invokestatic 47, 3) := by decide +kernel
theorem dX8_empty_43 : decode cX8_empty 43 = .ok (.aload_n 0, 1) := by decide +kernel
theorem dX8_empty_44 : decode cX8_empty 44 = .ok (.getfield 38, 3) := by decide +kernel
theorem dX8_empty_47 : decode cX8_empty 47 = .ok (.iconst 0, 1) := by decide +kernel
theorem dX8_empty_48 : decode cX8_empty 48 = .ok (.invokestatic 47, 3) := by decide +kernel
theorem dX8_empty_51 : decode cX8_empty 51 = .ok (.aload_n 0, 1) := by decide +kernel
theorem dX8_empty_52 : decode cX8_empty 52 = .ok (.getfield 41, 3) := by decide +kernel
theorem dX8_empty_55 : decode cX8_empty 55 = .ok (.iconst 0, 1) := by decide +kernel
theorem dX8_empty_56 : decode cX8_empty 56 = .ok (.invokestatic 47, 3) := by decide +kernel
theorem dX8_empty_59 : decode cX8_empty 59 = .ok (.return_, 1) := by decide +kernel
theorem dX8_become_0 : decode cX8_become 0 = .ok (.aload_n 0, 1) := by decide +kernel
theorem dX8_become_1 : decode cX8_become 1 = .ok (.aload_n 1, 1) := by decide +kernel
theorem dX8_become_2 : decode cX8_become 2 = .ok (.getfield 9, 3) := by decide +kernel
theorem dX8_become_5 : decode cX8_become 5 = .ok (.putfield 9, 3) := by decide +kernel
theorem dX8_become_8 : decode cX8_become 8 = .ok (.aload_n 0, 1) := by decide +kernel
theorem dX8_become_9 : decode cX8_become 9 = .ok (.aload_n 1, 1) := by decide +kernel
theorem dX8_become_10 : decode cX8_become 10 = .ok (.getfield 15, 3) := by decide +kernel
theorem dX8_become_13 : decode cX8_become 13 = .ok (.putfield 15, 3) := by decide +kernel
theorem dX8_become_16 : decode cX8_become 16 = .ok (.aload_n 0, 1) := by decide +kernel
theorem dX8_become_17 : decode cX8_become 17 = .ok (.aload_n 1, 1) := by decide +kernel
theorem dX8_become_18 : decode cX8_become 18 = .ok (.getfield 18, 3) := by decide +kernel
theorem dX8_become_21 : decode cX8_become 21 = .ok (.putfield 18, 3) := by decide +kernel
theorem dX8_become_24 : decode cX8_become 24 = .ok (.aload_n 0, 1) := by decide +kernel
theorem dX8_become_25 : decode cX8_become 25 = .ok (.aload_n 1, 1) := by decide +kernel
theorem dX8_become_26 : decode cX8_become 26 = .ok (.getfield 21, 3) := by decide +kernel
theorem dX8_become_29 : decode cX8_become 29 = .ok (.putfield 21, 3) := by decide +kernel
theorem dX8_become_32 : decode cX8_become 32 = .ok (.aload_n 0, 1) := by decide +kernel
theorem dX8_become_33 : decode cX8_become 33 = .ok (.getfield 27, 3) := by decide +kernel
theorem dX8_become_36 : decode cX8_become 36 = .ok (.aload_n 1, 1) := by decide +kernel
theorem dX8_become_37 : decode cX8_become 37 = .ok (.getfield 27, 3) := by decide +kernel
theorem dX8_become_40 : decode cX8_become 40 = .ok (.invokevirtual 53, 3) := by decide +kernel
theorem dX8_become_43 : decode cX8_become 43 = .ok (.aload_n 1, 1) := by decide +kernel
theorem dX8_become_44 : decode cX8_become 44 = .ok (.getfield 31, 3) := by decide +kernel
theorem dX8_become_47 : decode cX8_become 47 = .ok (.iconst 0, 1) := by decide +kernel
theorem dX8_become_48 : decode cX8_become 48 = .ok (.aload_n 0, 1) := by decide +kernel
theorem dX8_become_49 : decode cX8_become 49 = .ok (.getfield 31, 3) := by decide +kernel
theorem dX8_become_52 : decode cX8_become 52 = .ok (.iconst 0, 1) := by decide +kernel
theorem dX8_become_53 : decode cX8_become 53 = .ok (.aload_n 0, 1) := by decide +kernel
theorem dX8_become_54 : decode cX8_become 54 = .ok (.getfield 31, 3) := by decide +kernel
theorem dX8_become_57 : decode cX8_become 57 = .ok (.arraylength, 1) := by decide +kernel
theorem dX8_become_58 : decode cX8_become 58 = .ok (.invokestatic 57, 3) := by decide +kernel
theorem dX8_become_61 : decode cX8_become 61 = .ok (.aload_n 1, 1) := by decide +kernel
theorem dX8_become_62 : decode cX8_become 62 = .ok (.getfield 35, 3) := by decide +kernel
theorem dX8_become_65 : decode cX8_become 65 = .ok (.iconst 0, 1) := by decide +kernel
theorem dX8_become_66 : decode cX8_become 66 = .ok (.aload_n 0, 1) := by decide +kernel
theorem dX8_become_67 : decode cX8_become 67 = .ok (.getfield 35, 3) := by decide +kernel
theorem dX8_become_70 : decode cX8_become 70 = .ok (.iconst 0, 1) := by decide +kernel
theorem dX8_become_71 : decode cX8_become 71 = .ok (.aload_n 0, 1) := by decide +kernel
theorem dX8_become_72 : decode cX8_become 72 = .ok (.getfield 35, 3) := by decide +kernel
theorem dX8_become_75 : decode cX8_become 75 = .ok (.arraylength, 1) := by decide +kernel
theorem dX8_become_76 : decode cX8_become 76 = .ok (.invokestatic 57, 3) := by decide +kernel
theorem dX8_become_79 : decode cX8_become 79 = .ok (.aload_n 1, 1) := by decide +kernel
theorem dX8_become_80 : decode cX8_become 80 = .ok (.getfield 38, 3) := by decide +kernel
theorem dX8_become_83 : decode cX8_become 83 = .ok (.iconst 0, 1) := by decide +kernel
theorem dX8_become_84 : decode cX8_become 84 = .ok (.aload_n 0, 1) := by decide +kernel
theorem dX8_become_85 : decode cX8_become 85 = .ok (.getfield 38, 3) := by decide +kernel
theorem dX8_become_88 : decode cX8_become 88 = .ok (.iconst 0, 1) := by decide +kernel
theorem dX8_become_89 : decode cX8_become 89 = .ok (.aload_n 0, 1) := by decide +kernel
theorem dX8_become_90 : decode cX8_become 90 = .ok (.getfield 38, 3) := by decide +kernel
theorem dX8_become_93 : decode cX8_become 93 = .ok (.arraylength, 1) := by decide +kernel
theorem dX8_become_94 : decode cX8_become 94 = .ok (.invokestatic 57, 3) := by decide +kernel
theorem dX8_become_97 : decode cX8_become 97 = .ok (.aload_n 1, 1) := by decide +kernel
theorem dX8_become_98 : decode cX8_become 98 = .ok (.getfield 41, 3) := by decide +kernel
theorem dX8_become_101 : decode cX8_become 101 = .ok (.iconst 0, 1) := by decide +kernel
theorem dX8_become_102 : decode cX8_become 102 = .ok (.aload_n 0, 1) := by decide +kernel
theorem dX8_become_103 : decode cX8_become 103 = .ok (.getfield 41, 3) := by decide +kernel
theorem dX8_become_106 : decode cX8_become 106 = .ok (.iconst 0, 1) := by decide +kernel
theorem dX8_become_107 : decode cX8_become 107 = .ok (.aload_n 0, 1) := by decide +kernel
theorem dX8_become_108 : decode cX8_become 108 = .ok (.getfield 41, 3) := by decide +kernel
theorem dX8_become_111 : decode cX8_become 111 = .ok (.arraylength, 1) := by decide +kernel
theorem dX8_become_112 : decode cX8_become 112 = .ok (.invokestatic 57, 3) := by decide +kernel
theorem dX8_become_115 : decode cX8_become 115 = .ok (.return_, 1) := by decide +kernel
theorem dX8_addCoin_0 : decode cX8_addCoin 0 = .ok (.aload_n 0, 1) := by decide +kernel
theorem dX8_addCoin_1 : decode cX8_addCoin 1 = .ok (.getfield 15, 3) := by decide +kernel
theorem dX8_addCoin_4 : decode cX8_addCoin 4 = .ok (.bipush 8, 2) := by decide +kernel
theorem dX8_addCoin_6 : decode cX8_addCoin 6 = .ok (.if_icmp .ge 23, 3) := by decide +kernel
theorem dX8_addCoin_9 : decode cX8_addCoin 9 = .ok (.aload_n 0, 1) := by decide +kernel
theorem dX8_addCoin_10 : decode cX8_addCoin 10 = .ok (.getfield 31, 3) := by decide +kernel
theorem dX8_addCoin_13 : decode cX8_addCoin 13 = .ok (.aload_n 0, 1) := by decide +kernel
theorem dX8_addCoin_14 : decode cX8_addCoin 14 = .ok (.getfield 15, 3) := by decide +kernel
theorem dX8_addCoin_17 : decode cX8_addCoin 17 = .ok (.iload_n 1, 1) := by decide +kernel
theorem dX8_addCoin_18 : decode cX8_addCoin 18 = .ok (.iastore, 1) := by decide +kernel
theorem dX8_addCoin_19 : decode cX8_addCoin 19 = .ok (.aload_n 0, 1) := by decide +kernel
theorem dX8_addCoin_20 : decode cX8_addCoin 20 = .ok (.dup, 1) := by decide +kernel
theorem dX8_addCoin_21 : decode cX8_addCoin 21 = .ok (.getfield 15, 3) := by decide +kernel
theorem dX8_addCoin_24 : decode cX8_addCoin 24 = .ok (.iconst 1, 1) := by decide +kernel
theorem dX8_addCoin_25 : decode cX8_addCoin 25 = .ok (.iadd, 1) := by decide +kernel
theorem dX8_addCoin_26 : decode cX8_addCoin 26 = .ok (.putfield 15, 3) := by decide +kernel
theorem dX8_addCoin_29 : decode cX8_addCoin 29 = .ok (.return_, 1) := by decide +kernel
theorem dX8_primeOf_0 : decode cX8_primeOf 0 = .ok (.iload_n 1, 1) := by decide +kernel
theorem dX8_primeOf_1 : decode cX8_primeOf 1 = .ok (.ifCond .lt 20, 3) := by decide +kernel
theorem dX8_primeOf_4 : decode cX8_primeOf 4 = .ok (.iload_n 1, 1) := by decide +kernel
theorem dX8_primeOf_5 : decode cX8_primeOf 5 = .ok (.aload_n 0, 1) := by decide +kernel
theorem dX8_primeOf_6 : decode cX8_primeOf 6 = .ok (.getfield 15, 3) := by decide +kernel
theorem dX8_primeOf_9 : decode cX8_primeOf 9 = .ok (.if_icmp .ge 12, 3) := by decide +kernel
theorem dX8_primeOf_12 : decode cX8_primeOf 12 = .ok (.aload_n 0, 1) := by decide +kernel
theorem dX8_primeOf_13 : decode cX8_primeOf 13 = .ok (.getfield 31, 3) := by decide +kernel
theorem dX8_primeOf_16 : decode cX8_primeOf 16 = .ok (.iload_n 1, 1) := by decide +kernel
theorem dX8_primeOf_17 : decode cX8_primeOf 17 = .ok (.iaload, 1) := by decide +kernel
theorem dX8_primeOf_18 : decode cX8_primeOf 18 = .ok (.goto 4, 3) := by decide +kernel
theorem dX8_primeOf_21 : decode cX8_primeOf 21 = .ok (.iconst 1, 1) := by decide +kernel
theorem dX8_primeOf_22 : decode cX8_primeOf 22 = .ok (.ireturn, 1) := by decide +kernel
theorem dX8_numberOf_0 : decode cX8_numberOf 0 = .ok (.iconst 0, 1) := by decide +kernel
theorem dX8_numberOf_1 : decode cX8_numberOf 1 = .ok (.istore_n 2, 1) := by decide +kernel
theorem dX8_numberOf_2 : decode cX8_numberOf 2 = .ok (.iload_n 2, 1) := by decide +kernel
theorem dX8_numberOf_3 : decode cX8_numberOf 3 = .ok (.aload_n 0, 1) := by decide +kernel
theorem dX8_numberOf_4 : decode cX8_numberOf 4 = .ok (.getfield 15, 3) := by decide +kernel
theorem dX8_numberOf_7 : decode cX8_numberOf 7 = .ok (.if_icmp .ge 21, 3) := by decide +kernel
theorem dX8_numberOf_10 : decode cX8_numberOf 10 = .ok (.aload_n 0, 1) := by decide +kernel
theorem dX8_numberOf_11 : decode cX8_numberOf 11 = .ok (.getfield 31, 3) := by decide +kernel
theorem dX8_numberOf_14 : decode cX8_numberOf 14 = .ok (.iload_n 2, 1) := by decide +kernel
theorem dX8_numberOf_15 : decode cX8_numberOf 15 = .ok (.iaload, 1) := by decide +kernel
theorem dX8_numberOf_16 : decode cX8_numberOf 16 = .ok (.iload_n 1, 1) := by decide +kernel
theorem dX8_numberOf_17 : decode cX8_numberOf 17 = .ok (.if_icmp .ne 5, 3) := by decide +kernel
theorem dX8_numberOf_20 : decode cX8_numberOf 20 = .ok (.iload_n 2, 1) := by decide +kernel
theorem dX8_numberOf_21 : decode cX8_numberOf 21 = .ok (.ireturn, 1) := by decide +kernel
theorem dX8_numberOf_22 : decode cX8_numberOf 22 = .ok (.iinc 2 1, 3) := by decide +kernel
theorem dX8_numberOf_25 : decode cX8_numberOf 25 = .ok (.goto (-23), 3) := by decide +kernel
theorem dX8_numberOf_28 : decode cX8_numberOf 28 = .ok (.iconst (-1), 1) := by decide +kernel
theorem dX8_numberOf_29 : decode cX8_numberOf 29 = .ok (.ireturn, 1) := by decide +kernel
theorem dX8_takeApart_0 : decode cX8_takeApart 0 = .ok (.aload_n 3, 1) := by decide +kernel
theorem dX8_takeApart_1 : decode cX8_takeApart 1 = .ok (.iconst 0, 1) := by decide +kernel
theorem dX8_takeApart_2 : decode cX8_takeApart 2 = .ok (.invokestatic 47, 3) := by decide +kernel
theorem dX8_takeApart_5 : decode cX8_takeApart 5 = .ok (.lload_n 1, 1) := by decide +kernel
theorem dX8_takeApart_6 : decode cX8_takeApart 6 = .ok (.lconst 1, 1) := by decide +kernel
theorem dX8_takeApart_7 : decode cX8_takeApart 7 = .ok (.lcmp, 1) := by decide +kernel
theorem dX8_takeApart_8 : decode cX8_takeApart 8 = .ok (.ifCond .ge 5, 3) := by decide +kernel
theorem dX8_takeApart_11 : decode cX8_takeApart 11 = .ok (.iconst 0, 1) := by decide +kernel
theorem dX8_takeApart_12 : decode cX8_takeApart 12 = .ok (.ireturn, 1) := by decide +kernel
theorem dX8_takeApart_13 : decode cX8_takeApart 13 = .ok (.lload_n 1, 1) := by decide +kernel
theorem dX8_takeApart_14 : decode cX8_takeApart 14 = .ok (.lstore 4, 2) := by decide +kernel
theorem dX8_takeApart_16 : decode cX8_takeApart 16 = .ok (.iconst 0, 1) := by decide +kernel
theorem dX8_takeApart_17 : decode cX8_takeApart 17 = .ok (.istore 6, 2) := by decide +kernel
theorem dX8_takeApart_19 : decode cX8_takeApart 19 = .ok (.iload 6, 2) := by decide +kernel
theorem dX8_takeApart_21 : decode cX8_takeApart 21 = .ok (.aload_n 0, 1) := by decide +kernel
theorem dX8_takeApart_22 : decode cX8_takeApart 22 = .ok (.getfield 15, 3) := by decide +kernel
theorem dX8_takeApart_25 : decode cX8_takeApart 25 = .ok (.if_icmp .ge 72, 3) := by decide +kernel
theorem dX8_takeApart_28 : decode cX8_takeApart 28 = .ok (.iload 6, 2) := by decide +kernel
theorem dX8_takeApart_30 : decode cX8_takeApart 30 = .ok (.aload_n 3, 1) := by decide +kernel
theorem dX8_takeApart_31 : decode cX8_takeApart 31 = .ok (.arraylength, 1) := by decide +kernel
theorem dX8_takeApart_32 : decode cX8_takeApart 32 = .ok (.if_icmp .ge 65, 3) := by decide +kernel
theorem dX8_takeApart_35 : decode cX8_takeApart 35 = .ok (.aload_n 0, 1) := by decide +kernel
theorem dX8_takeApart_36 : decode cX8_takeApart 36 = .ok (.getfield 31, 3) := by decide +kernel
theorem dX8_takeApart_39 : decode cX8_takeApart 39 = .ok (.iload 6, 2) := by decide +kernel
theorem dX8_takeApart_41 : decode cX8_takeApart 41 = .ok (.iaload, 1) := by decide +kernel
theorem dX8_takeApart_42 : decode cX8_takeApart 42 = .ok (.iconst 2, 1) := by decide +kernel
theorem dX8_takeApart_43 : decode cX8_takeApart 43 = .ok (.invokestatic 63, 3) := by decide +kernel
theorem dX8_takeApart_46 : decode cX8_takeApart 46 = .ok (.istore 7, 2) := by decide +kernel
theorem dX8_takeApart_48 : decode cX8_takeApart 48 = .ok (.iconst 0, 1) := by decide +kernel
theorem dX8_takeApart_49 : decode cX8_takeApart 49 = .ok (.istore 8, 2) := by decide +kernel
theorem dX8_takeApart_51 : decode cX8_takeApart 51 = .ok (.iload 8, 2) := by decide +kernel
theorem dX8_takeApart_53 : decode cX8_takeApart 53 = .ok (.bipush 64, 2) := by decide +kernel
theorem dX8_takeApart_55 : decode cX8_takeApart 55 = .ok (.if_icmp .ge 36, 3) := by decide +kernel
theorem dX8_takeApart_58 : decode cX8_takeApart 58 = .ok (.lload 4, 2) := by decide +kernel
theorem dX8_takeApart_60 : decode cX8_takeApart 60 = .ok (.iload 7, 2) := by decide +kernel
theorem dX8_takeApart_62 : decode cX8_takeApart 62 = .ok (.i2l, 1) := by decide +kernel
theorem dX8_takeApart_63 : decode cX8_takeApart 63 = .ok (.lrem, 1) := by decide +kernel
theorem dX8_takeApart_64 : decode cX8_takeApart 64 = .ok (.lconst 0, 1) := by decide +kernel
theorem dX8_takeApart_65 : decode cX8_takeApart 65 = .ok (.lcmp, 1) := by decide +kernel
theorem dX8_takeApart_66 : decode cX8_takeApart 66 = .ok (.ifCond .ne 25, 3) := by decide +kernel
theorem dX8_takeApart_69 : decode cX8_takeApart 69 = .ok (.lload 4, 2) := by decide +kernel
theorem dX8_takeApart_71 : decode cX8_takeApart 71 = .ok (.iload 7, 2) := by decide +kernel
theorem dX8_takeApart_73 : decode cX8_takeApart 73 = .ok (.i2l, 1) := by decide +kernel
theorem dX8_takeApart_74 : decode cX8_takeApart 74 = .ok (.ldiv, 1) := by decide +kernel
theorem dX8_takeApart_75 : decode cX8_takeApart 75 = .ok (.lstore 4, 2) := by decide +kernel
theorem dX8_takeApart_77 : decode cX8_takeApart 77 = .ok (.aload_n 3, 1) := by decide +kernel
theorem dX8_takeApart_78 : decode cX8_takeApart 78 = .ok (.iload 6, 2) := by decide +kernel
theorem dX8_takeApart_80 : decode cX8_takeApart 80 = .ok (.dup2, 1) := by decide +kernel
theorem dX8_takeApart_81 : decode cX8_takeApart 81 = .ok (.iaload, 1) := by decide +kernel
theorem dX8_takeApart_82 : decode cX8_takeApart 82 = .ok (.iconst 1, 1) := by decide +kernel
theorem dX8_takeApart_83 : decode cX8_takeApart 83 = .ok (.iadd, 1) := by decide +kernel
theorem dX8_takeApart_84 : decode cX8_takeApart 84 = .ok (.iastore, 1) := by decide +kernel
theorem dX8_takeApart_85 : decode cX8_takeApart 85 = .ok (.iinc 8 1, 3) := by decide +kernel
theorem dX8_takeApart_88 : decode cX8_takeApart 88 = .ok (.goto (-37), 3) := by decide +kernel
theorem dX8_takeApart_91 : decode cX8_takeApart 91 = .ok (.iinc 6 1, 3) := by decide +kernel
theorem dX8_takeApart_94 : decode cX8_takeApart 94 = .ok (.goto (-75), 3) := by decide +kernel
theorem dX8_takeApart_97 : decode cX8_takeApart 97 = .ok (.lload 4, 2) := by decide +kernel
theorem dX8_takeApart_99 : decode cX8_takeApart 99 = .ok (.lconst 1, 1) := by decide +kernel
theorem dX8_takeApart_100 : decode cX8_takeApart 100 = .ok (.lcmp, 1) := by decide +kernel
theorem dX8_takeApart_101 : decode cX8_takeApart 101 = .ok (.ifCond .ne 7, 3) := by decide +kernel
theorem dX8_takeApart_104 : decode cX8_takeApart 104 = .ok (.iconst 1, 1) := by decide +kernel
theorem dX8_takeApart_105 : decode cX8_takeApart 105 = .ok (.goto 4, 3) := by decide +kernel
theorem dX8_takeApart_108 : decode cX8_takeApart 108 = .ok (.iconst 0, 1) := by decide +kernel
theorem dX8_takeApart_109 : decode cX8_takeApart 109 = .ok (.ireturn, 1) := by decide +kernel
theorem dX8_held_0 : decode cX8_held 0 = .ok (.iload_n 1, 1) := by decide +kernel
theorem dX8_held_1 : decode cX8_held 1 = .ok (.ifCond .lt 22, 3) := by decide +kernel
theorem dX8_held_4 : decode cX8_held 4 = .ok (.iload_n 1, 1) := by decide +kernel
theorem dX8_held_5 : decode cX8_held 5 = .ok (.iconst 5, 1) := by decide +kernel
theorem dX8_held_6 : decode cX8_held 6 = .ok (.if_icmp .ge 17, 3) := by decide +kernel
theorem dX8_held_9 : decode cX8_held 9 = .ok (.iload_n 2, 1) := by decide +kernel
theorem dX8_held_10 : decode cX8_held 10 = .ok (.ifCond .lt 13, 3) := by decide +kernel
theorem dX8_held_13 : decode cX8_held 13 = .ok (.iload_n 2, 1) := by decide +kernel
theorem dX8_held_14 : decode cX8_held 14 = .ok (.bipush 8, 2) := by decide +kernel
theorem dX8_held_16 : decode cX8_held 16 = .ok (.if_icmp .ge 7, 3) := by decide +kernel
theorem dX8_held_19 : decode cX8_held 19 = .ok (.iconst 1, 1) := by decide +kernel
theorem dX8_held_20 : decode cX8_held 20 = .ok (.goto 4, 3) := by decide +kernel
theorem dX8_held_23 : decode cX8_held 23 = .ok (.iconst 0, 1) := by decide +kernel
theorem dX8_held_24 : decode cX8_held 24 = .ok (.istore_n 3, 1) := by decide +kernel
theorem dX8_held_25 : decode cX8_held 25 = .ok (.iload_n 3, 1) := by decide +kernel
theorem dX8_held_26 : decode cX8_held 26 = .ok (.ifCond .eq 17, 3) := by decide +kernel
theorem dX8_held_29 : decode cX8_held 29 = .ok (.aload_n 0, 1) := by decide +kernel
theorem dX8_held_30 : decode cX8_held 30 = .ok (.getfield 35, 3) := by decide +kernel
theorem dX8_held_33 : decode cX8_held 33 = .ok (.iload_n 1, 1) := by decide +kernel
theorem dX8_held_34 : decode cX8_held 34 = .ok (.bipush 8, 2) := by decide +kernel
theorem dX8_held_36 : decode cX8_held 36 = .ok (.imul, 1) := by decide +kernel
theorem dX8_held_37 : decode cX8_held 37 = .ok (.iload_n 2, 1) := by decide +kernel
theorem dX8_held_38 : decode cX8_held 38 = .ok (.iadd, 1) := by decide +kernel
theorem dX8_held_39 : decode cX8_held 39 = .ok (.iaload, 1) := by decide +kernel
theorem dX8_held_40 : decode cX8_held 40 = .ok (.goto 4, 3) := by decide +kernel
theorem dX8_held_43 : decode cX8_held 43 = .ok (.iconst 0, 1) := by decide +kernel
theorem dX8_held_44 : decode cX8_held 44 = .ok (.ireturn, 1) := by decide +kernel
theorem dX8_come_0 : decode cX8_come 0 = .ok (.iload_n 1, 1) := by decide +kernel
theorem dX8_come_1 : decode cX8_come 1 = .ok (.ifCond .lt 33, 3) := by decide +kernel
theorem dX8_come_4 : decode cX8_come 4 = .ok (.iload_n 1, 1) := by decide +kernel
theorem dX8_come_5 : decode cX8_come 5 = .ok (.iconst 5, 1) := by decide +kernel
theorem dX8_come_6 : decode cX8_come 6 = .ok (.if_icmp .ge 28, 3) := by decide +kernel
theorem dX8_come_9 : decode cX8_come 9 = .ok (.iload_n 2, 1) := by decide +kernel
theorem dX8_come_10 : decode cX8_come 10 = .ok (.ifCond .lt 24, 3) := by decide +kernel
theorem dX8_come_13 : decode cX8_come 13 = .ok (.iload_n 2, 1) := by decide +kernel
theorem dX8_come_14 : decode cX8_come 14 = .ok (.bipush 8, 2) := by decide +kernel
theorem dX8_come_16 : decode cX8_come 16 = .ok (.if_icmp .ge 18, 3) := by decide +kernel
theorem dX8_come_19 : decode cX8_come 19 = .ok (.aload_n 0, 1) := by decide +kernel
theorem dX8_come_20 : decode cX8_come 20 = .ok (.getfield 35, 3) := by decide +kernel
theorem dX8_come_23 : decode cX8_come 23 = .ok (.iload_n 1, 1) := by decide +kernel
theorem dX8_come_24 : decode cX8_come 24 = .ok (.bipush 8, 2) := by decide +kernel
theorem dX8_come_26 : decode cX8_come 26 = .ok (.imul, 1) := by decide +kernel
theorem dX8_come_27 : decode cX8_come 27 = .ok (.iload_n 2, 1) := by decide +kernel
theorem dX8_come_28 : decode cX8_come 28 = .ok (.iadd, 1) := by decide +kernel
theorem dX8_come_29 : decode cX8_come 29 = .ok (.dup2, 1) := by decide +kernel
theorem dX8_come_30 : decode cX8_come 30 = .ok (.iaload, 1) := by decide +kernel
theorem dX8_come_31 : decode cX8_come 31 = .ok (.iload_n 3, 1) := by decide +kernel
theorem dX8_come_32 : decode cX8_come 32 = .ok (.iadd, 1) := by decide +kernel
theorem dX8_come_33 : decode cX8_come 33 = .ok (.iastore, 1) := by decide +kernel
theorem dX8_come_34 : decode cX8_come 34 = .ok (.return_, 1) := by decide +kernel
theorem dX8_many_0 : decode cX8_many 0 = .ok (.iconst 0, 1) := by decide +kernel
theorem dX8_many_1 : decode cX8_many 1 = .ok (.istore_n 2, 1) := by decide +kernel
theorem dX8_many_2 : decode cX8_many 2 = .ok (.iconst 0, 1) := by decide +kernel
theorem dX8_many_3 : decode cX8_many 3 = .ok (.istore_n 3, 1) := by decide +kernel
theorem dX8_many_4 : decode cX8_many 4 = .ok (.iload_n 3, 1) := by decide +kernel
theorem dX8_many_5 : decode cX8_many 5 = .ok (.aload_n 0, 1) := by decide +kernel
theorem dX8_many_6 : decode cX8_many 6 = .ok (.getfield 15, 3) := by decide +kernel
theorem dX8_many_9 : decode cX8_many 9 = .ok (.if_icmp .ge 18, 3) := by decide +kernel
theorem dX8_many_12 : decode cX8_many 12 = .ok (.iload_n 2, 1) := by decide +kernel
theorem dX8_many_13 : decode cX8_many 13 = .ok (.aload_n 0, 1) := by decide +kernel
theorem dX8_many_14 : decode cX8_many 14 = .ok (.iload_n 1, 1) := by decide +kernel
theorem dX8_many_15 : decode cX8_many 15 = .ok (.iload_n 3, 1) := by decide +kernel
theorem dX8_many_16 : decode cX8_many 16 = .ok (.invokevirtual 69, 3) := by decide +kernel
theorem dX8_many_19 : decode cX8_many 19 = .ok (.iadd, 1) := by decide +kernel
theorem dX8_many_20 : decode cX8_many 20 = .ok (.istore_n 2, 1) := by decide +kernel
theorem dX8_many_21 : decode cX8_many 21 = .ok (.iinc 3 1, 3) := by decide +kernel
theorem dX8_many_24 : decode cX8_many 24 = .ok (.goto (-20), 3) := by decide +kernel
theorem dX8_many_27 : decode cX8_many 27 = .ok (.iload_n 2, 1) := by decide +kernel
theorem dX8_many_28 : decode cX8_many 28 = .ok (.ireturn, 1) := by decide +kernel
theorem dX8_manyInPurses_0 : decode cX8_manyInPurses 0 = .ok (.iconst 0, 1) := by decide +kernel
theorem dX8_manyInPurses_1 : decode cX8_manyInPurses 1 = .ok (.istore_n 1, 1) := by decide +kernel
theorem dX8_manyInPurses_2 : decode cX8_manyInPurses 2 = .ok (.iconst 0, 1) := by decide +kernel
theorem dX8_manyInPurses_3 : decode cX8_manyInPurses 3 = .ok (.istore_n 2, 1) := by decide +kernel
theorem dX8_manyInPurses_4 : decode cX8_manyInPurses 4 = .ok (.iload_n 2, 1) := by decide +kernel
theorem dX8_manyInPurses_5 : decode cX8_manyInPurses 5 = .ok (.aload_n 0, 1) := by decide +kernel
theorem dX8_manyInPurses_6 : decode cX8_manyInPurses 6 = .ok (.getfield 18, 3) := by decide +kernel
theorem dX8_manyInPurses_9 : decode cX8_manyInPurses 9 = .ok (.if_icmp .ge 17, 3) := by decide +kernel
theorem dX8_manyInPurses_12 : decode cX8_manyInPurses 12 = .ok (.iload_n 1, 1) := by decide +kernel
theorem dX8_manyInPurses_13 : decode cX8_manyInPurses 13 = .ok (.aload_n 0, 1) := by decide +kernel
theorem dX8_manyInPurses_14 : decode cX8_manyInPurses 14 = .ok (.iload_n 2, 1) := by decide +kernel
theorem dX8_manyInPurses_15 : decode cX8_manyInPurses 15 = .ok (.invokevirtual 72, 3) := by decide +kernel
theorem dX8_manyInPurses_18 : decode cX8_manyInPurses 18 = .ok (.iadd, 1) := by decide +kernel
theorem dX8_manyInPurses_19 : decode cX8_manyInPurses 19 = .ok (.istore_n 1, 1) := by decide +kernel
theorem dX8_manyInPurses_20 : decode cX8_manyInPurses 20 = .ok (.iinc 2 1, 3) := by decide +kernel
theorem dX8_manyInPurses_23 : decode cX8_manyInPurses 23 = .ok (.goto (-19), 3) := by decide +kernel
theorem dX8_manyInPurses_26 : decode cX8_manyInPurses 26 = .ok (.iload_n 1, 1) := by decide +kernel
theorem dX8_manyInPurses_27 : decode cX8_manyInPurses 27 = .ok (.ireturn, 1) := by decide +kernel
theorem dX8_unlike_0 : decode cX8_unlike 0 = .ok (.aload_n 0, 1) := by decide +kernel
theorem dX8_unlike_1 : decode cX8_unlike 1 = .ok (.iload_n 1, 1) := by decide +kernel
theorem dX8_unlike_2 : decode cX8_unlike 2 = .ok (.invokevirtual 76, 3) := by decide +kernel
theorem dX8_unlike_5 : decode cX8_unlike 5 = .ok (.invokestatic 79, 3) := by decide +kernel
theorem dX8_unlike_8 : decode cX8_unlike 8 = .ok (.ireturn, 1) := by decide +kernel
theorem dX8_coinBits_0 : decode cX8_coinBits 0 = .ok (.iconst 0, 1) := by decide +kernel
theorem dX8_coinBits_1 : decode cX8_coinBits 1 = .ok (.istore_n 2, 1) := by decide +kernel
theorem dX8_coinBits_2 : decode cX8_coinBits 2 = .ok (.iconst 0, 1) := by decide +kernel
theorem dX8_coinBits_3 : decode cX8_coinBits 3 = .ok (.istore_n 3, 1) := by decide +kernel
theorem dX8_coinBits_4 : decode cX8_coinBits 4 = .ok (.iload_n 3, 1) := by decide +kernel
theorem dX8_coinBits_5 : decode cX8_coinBits 5 = .ok (.aload_n 0, 1) := by decide +kernel
theorem dX8_coinBits_6 : decode cX8_coinBits 6 = .ok (.getfield 15, 3) := by decide +kernel
theorem dX8_coinBits_9 : decode cX8_coinBits 9 = .ok (.if_icmp .ge 24, 3) := by decide +kernel
theorem dX8_coinBits_12 : decode cX8_coinBits 12 = .ok (.aload_n 0, 1) := by decide +kernel
theorem dX8_coinBits_13 : decode cX8_coinBits 13 = .ok (.iload_n 1, 1) := by decide +kernel
theorem dX8_coinBits_14 : decode cX8_coinBits 14 = .ok (.iload_n 3, 1) := by decide +kernel
theorem dX8_coinBits_15 : decode cX8_coinBits 15 = .ok (.invokevirtual 69, 3) := by decide +kernel
theorem dX8_coinBits_18 : decode cX8_coinBits 18 = .ok (.ifCond .le 9, 3) := by decide +kernel
theorem dX8_coinBits_21 : decode cX8_coinBits 21 = .ok (.iload_n 2, 1) := by decide +kernel
theorem dX8_coinBits_22 : decode cX8_coinBits 22 = .ok (.iconst 1, 1) := by decide +kernel
theorem dX8_coinBits_23 : decode cX8_coinBits 23 = .ok (.iload_n 3, 1) := by decide +kernel
theorem dX8_coinBits_24 : decode cX8_coinBits 24 = .ok (.ishl, 1) := by decide +kernel
theorem dX8_coinBits_25 : decode cX8_coinBits 25 = .ok (.ior, 1) := by decide +kernel
theorem dX8_coinBits_26 : decode cX8_coinBits 26 = .ok (.istore_n 2, 1) := by decide +kernel
theorem dX8_coinBits_27 : decode cX8_coinBits 27 = .ok (.iinc 3 1, 3) := by decide +kernel
theorem dX8_coinBits_30 : decode cX8_coinBits 30 = .ok (.goto (-26), 3) := by decide +kernel
theorem dX8_coinBits_33 : decode cX8_coinBits 33 = .ok (.iload_n 2, 1) := by decide +kernel
theorem dX8_coinBits_34 : decode cX8_coinBits 34 = .ok (.ireturn, 1) := by decide +kernel
theorem dX8_greatestCoin_0 : decode cX8_greatestCoin 0 = .ok (.iconst (-1), 1) := by decide +kernel
theorem dX8_greatestCoin_1 : decode cX8_greatestCoin 1 = .ok (.istore_n 2, 1) := by decide +kernel
theorem dX8_greatestCoin_2 : decode cX8_greatestCoin 2 = .ok (.iconst 0, 1) := by decide +kernel
theorem dX8_greatestCoin_3 : decode cX8_greatestCoin 3 = .ok (.istore_n 3, 1) := by decide +kernel
theorem dX8_greatestCoin_4 : decode cX8_greatestCoin 4 = .ok (.iload_n 3, 1) := by decide +kernel
theorem dX8_greatestCoin_5 : decode cX8_greatestCoin 5 = .ok (.aload_n 0, 1) := by decide +kernel
theorem dX8_greatestCoin_6 : decode cX8_greatestCoin 6 = .ok (.getfield 15, 3) := by decide +kernel
theorem dX8_greatestCoin_9 : decode cX8_greatestCoin 9 = .ok (.if_icmp .ge 38, 3) := by decide +kernel
theorem dX8_greatestCoin_12 : decode cX8_greatestCoin 12 = .ok (.aload_n 0, 1) := by decide +kernel
theorem dX8_greatestCoin_13 : decode cX8_greatestCoin 13 = .ok (.iload_n 1, 1) := by decide +kernel
theorem dX8_greatestCoin_14 : decode cX8_greatestCoin 14 = .ok (.iload_n 3, 1) := by decide +kernel
theorem dX8_greatestCoin_15 : decode cX8_greatestCoin 15 = .ok (.invokevirtual 69, 3) := by decide +kernel
theorem dX8_greatestCoin_18 : decode cX8_greatestCoin 18 = .ok (.ifCond .le 23, 3) := by decide +kernel
theorem dX8_greatestCoin_21 : decode cX8_greatestCoin 21 = .ok (.iload_n 2, 1) := by decide +kernel
theorem dX8_greatestCoin_22 : decode cX8_greatestCoin 22 = .ok (.iconst (-1), 1) := by decide +kernel
theorem dX8_greatestCoin_23 : decode cX8_greatestCoin 23 = .ok (.if_icmp .eq 16, 3) := by decide +kernel
theorem dX8_greatestCoin_26 : decode cX8_greatestCoin 26 = .ok (.aload_n 0, 1) := by decide +kernel
theorem dX8_greatestCoin_27 : decode cX8_greatestCoin 27 = .ok (.iload_n 3, 1) := by decide +kernel
theorem dX8_greatestCoin_28 : decode cX8_greatestCoin 28 = .ok (.invokevirtual 84, 3) := by decide +kernel
theorem dX8_greatestCoin_31 : decode cX8_greatestCoin 31 = .ok (.aload_n 0, 1) := by decide +kernel
theorem dX8_greatestCoin_32 : decode cX8_greatestCoin 32 = .ok (.iload_n 2, 1) := by decide +kernel
theorem dX8_greatestCoin_33 : decode cX8_greatestCoin 33 = .ok (.invokevirtual 84, 3) := by decide +kernel
theorem dX8_greatestCoin_36 : decode cX8_greatestCoin 36 = .ok (.if_icmp .le 5, 3) := by decide +kernel
theorem dX8_greatestCoin_39 : decode cX8_greatestCoin 39 = .ok (.iload_n 3, 1) := by decide +kernel
theorem dX8_greatestCoin_40 : decode cX8_greatestCoin 40 = .ok (.istore_n 2, 1) := by decide +kernel
theorem dX8_greatestCoin_41 : decode cX8_greatestCoin 41 = .ok (.iinc 3 1, 3) := by decide +kernel
theorem dX8_greatestCoin_44 : decode cX8_greatestCoin 44 = .ok (.goto (-40), 3) := by decide +kernel
theorem dX8_greatestCoin_47 : decode cX8_greatestCoin 47 = .ok (.iload_n 2, 1) := by decide +kernel
theorem dX8_greatestCoin_48 : decode cX8_greatestCoin 48 = .ok (.ireturn, 1) := by decide +kernel
theorem dX8_leastCoin_0 : decode cX8_leastCoin 0 = .ok (.iconst (-1), 1) := by decide +kernel
theorem dX8_leastCoin_1 : decode cX8_leastCoin 1 = .ok (.istore_n 2, 1) := by decide +kernel
theorem dX8_leastCoin_2 : decode cX8_leastCoin 2 = .ok (.iconst 0, 1) := by decide +kernel
theorem dX8_leastCoin_3 : decode cX8_leastCoin 3 = .ok (.istore_n 3, 1) := by decide +kernel
theorem dX8_leastCoin_4 : decode cX8_leastCoin 4 = .ok (.iload_n 3, 1) := by decide +kernel
theorem dX8_leastCoin_5 : decode cX8_leastCoin 5 = .ok (.aload_n 0, 1) := by decide +kernel
theorem dX8_leastCoin_6 : decode cX8_leastCoin 6 = .ok (.getfield 15, 3) := by decide +kernel
theorem dX8_leastCoin_9 : decode cX8_leastCoin 9 = .ok (.if_icmp .ge 38, 3) := by decide +kernel
theorem dX8_leastCoin_12 : decode cX8_leastCoin 12 = .ok (.aload_n 0, 1) := by decide +kernel
theorem dX8_leastCoin_13 : decode cX8_leastCoin 13 = .ok (.iload_n 1, 1) := by decide +kernel
theorem dX8_leastCoin_14 : decode cX8_leastCoin 14 = .ok (.iload_n 3, 1) := by decide +kernel
theorem dX8_leastCoin_15 : decode cX8_leastCoin 15 = .ok (.invokevirtual 69, 3) := by decide +kernel
theorem dX8_leastCoin_18 : decode cX8_leastCoin 18 = .ok (.ifCond .le 23, 3) := by decide +kernel
theorem dX8_leastCoin_21 : decode cX8_leastCoin 21 = .ok (.iload_n 2, 1) := by decide +kernel
theorem dX8_leastCoin_22 : decode cX8_leastCoin 22 = .ok (.iconst (-1), 1) := by decide +kernel
theorem dX8_leastCoin_23 : decode cX8_leastCoin 23 = .ok (.if_icmp .eq 16, 3) := by decide +kernel
theorem dX8_leastCoin_26 : decode cX8_leastCoin 26 = .ok (.aload_n 0, 1) := by decide +kernel
theorem dX8_leastCoin_27 : decode cX8_leastCoin 27 = .ok (.iload_n 3, 1) := by decide +kernel
theorem dX8_leastCoin_28 : decode cX8_leastCoin 28 = .ok (.invokevirtual 84, 3) := by decide +kernel
theorem dX8_leastCoin_31 : decode cX8_leastCoin 31 = .ok (.aload_n 0, 1) := by decide +kernel
theorem dX8_leastCoin_32 : decode cX8_leastCoin 32 = .ok (.iload_n 2, 1) := by decide +kernel
theorem dX8_leastCoin_33 : decode cX8_leastCoin 33 = .ok (.invokevirtual 84, 3) := by decide +kernel
theorem dX8_leastCoin_36 : decode cX8_leastCoin 36 = .ok (.if_icmp .ge 5, 3) := by decide +kernel
theorem dX8_leastCoin_39 : decode cX8_leastCoin 39 = .ok (.iload_n 3, 1) := by decide +kernel
theorem dX8_leastCoin_40 : decode cX8_leastCoin 40 = .ok (.istore_n 2, 1) := by decide +kernel
theorem dX8_leastCoin_41 : decode cX8_leastCoin 41 = .ok (.iinc 3 1, 3) := by decide +kernel
theorem dX8_leastCoin_44 : decode cX8_leastCoin 44 = .ok (.goto (-40), 3) := by decide +kernel
theorem dX8_leastCoin_47 : decode cX8_leastCoin 47 = .ok (.iload_n 2, 1) := by decide +kernel
theorem dX8_leastCoin_48 : decode cX8_leastCoin 48 = .ok (.ireturn, 1) := by decide +kernel
theorem dX8_worthOf_0 : decode cX8_worthOf 0 = .ok (.lconst 1, 1) := by decide +kernel
theorem dX8_worthOf_1 : decode cX8_worthOf 1 = .ok (.lstore_n 2, 1) := by decide +kernel
theorem dX8_worthOf_2 : decode cX8_worthOf 2 = .ok (.iconst 0, 1) := by decide +kernel
theorem dX8_worthOf_3 : decode cX8_worthOf 3 = .ok (.istore 4, 2) := by decide +kernel
theorem dX8_worthOf_5 : decode cX8_worthOf 5 = .ok (.iload 4, 2) := by decide +kernel
theorem dX8_worthOf_7 : decode cX8_worthOf 7 = .ok (.aload_n 0, 1) := by decide +kernel
theorem dX8_worthOf_8 : decode cX8_worthOf 8 = .ok (.getfield 15, 3) := by decide +kernel
theorem dX8_worthOf_11 : decode cX8_worthOf 11 = .ok (.if_icmp .ge 28, 3) := by decide +kernel
theorem dX8_worthOf_14 : decode cX8_worthOf 14 = .ok (.lload_n 2, 1) := by decide +kernel
theorem dX8_worthOf_15 : decode cX8_worthOf 15 = .ok (.aload_n 0, 1) := by decide +kernel
theorem dX8_worthOf_16 : decode cX8_worthOf 16 = .ok (.iload 4, 2) := by decide +kernel
theorem dX8_worthOf_18 : decode cX8_worthOf 18 = .ok (.invokevirtual 84, 3) := by decide +kernel
theorem dX8_worthOf_21 : decode cX8_worthOf 21 = .ok (.aload_n 0, 1) := by decide +kernel
theorem dX8_worthOf_22 : decode cX8_worthOf 22 = .ok (.iload_n 1, 1) := by decide +kernel
theorem dX8_worthOf_23 : decode cX8_worthOf 23 = .ok (.iload 4, 2) := by decide +kernel
theorem dX8_worthOf_25 : decode cX8_worthOf 25 = .ok (.invokevirtual 69, 3) := by decide +kernel
theorem dX8_worthOf_28 : decode cX8_worthOf 28 = .ok (.invokestatic 87, 3) := by decide +kernel
theorem dX8_worthOf_31 : decode cX8_worthOf 31 = .ok (.lmul, 1) := by decide +kernel
theorem dX8_worthOf_32 : decode cX8_worthOf 32 = .ok (.lstore_n 2, 1) := by decide +kernel
theorem dX8_worthOf_33 : decode cX8_worthOf 33 = .ok (.iinc 4 1, 3) := by decide +kernel
theorem dX8_worthOf_36 : decode cX8_worthOf 36 = .ok (.goto (-31), 3) := by decide +kernel
theorem dX8_worthOf_39 : decode cX8_worthOf 39 = .ok (.lload_n 2, 1) := by decide +kernel
theorem dX8_worthOf_40 : decode cX8_worthOf 40 = .ok (.lreturn, 1) := by decide +kernel
theorem dX8_richest_0 : decode cX8_richest 0 = .ok (.aload_n 0, 1) := by decide +kernel
theorem dX8_richest_1 : decode cX8_richest 1 = .ok (.getfield 18, 3) := by decide +kernel
theorem dX8_richest_4 : decode cX8_richest 4 = .ok (.ifCond .le 7, 3) := by decide +kernel
theorem dX8_richest_7 : decode cX8_richest 7 = .ok (.iconst 0, 1) := by decide +kernel
theorem dX8_richest_8 : decode cX8_richest 8 = .ok (.goto 4, 3) := by decide +kernel
theorem dX8_richest_11 : decode cX8_richest 11 = .ok (.iconst (-1), 1) := by decide +kernel
theorem dX8_richest_12 : decode cX8_richest 12 = .ok (.istore_n 1, 1) := by decide +kernel
theorem dX8_richest_13 : decode cX8_richest 13 = .ok (.iconst 1, 1) := by decide +kernel
theorem dX8_richest_14 : decode cX8_richest 14 = .ok (.istore_n 2, 1) := by decide +kernel
theorem dX8_richest_15 : decode cX8_richest 15 = .ok (.iload_n 2, 1) := by decide +kernel
theorem dX8_richest_16 : decode cX8_richest 16 = .ok (.aload_n 0, 1) := by decide +kernel
theorem dX8_richest_17 : decode cX8_richest 17 = .ok (.getfield 18, 3) := by decide +kernel
theorem dX8_richest_20 : decode cX8_richest 20 = .ok (.if_icmp .ge 25, 3) := by decide +kernel
theorem dX8_richest_23 : decode cX8_richest 23 = .ok (.aload_n 0, 1) := by decide +kernel
theorem dX8_richest_24 : decode cX8_richest 24 = .ok (.iload_n 2, 1) := by decide +kernel
theorem dX8_richest_25 : decode cX8_richest 25 = .ok (.invokevirtual 93, 3) := by decide +kernel
theorem dX8_richest_28 : decode cX8_richest 28 = .ok (.aload_n 0, 1) := by decide +kernel
theorem dX8_richest_29 : decode cX8_richest 29 = .ok (.iload_n 1, 1) := by decide +kernel
theorem dX8_richest_30 : decode cX8_richest 30 = .ok (.invokevirtual 93, 3) := by decide +kernel
theorem dX8_richest_33 : decode cX8_richest 33 = .ok (.lcmp, 1) := by decide +kernel
theorem dX8_richest_34 : decode cX8_richest 34 = .ok (.ifCond .le 5, 3) := by decide +kernel
theorem dX8_richest_37 : decode cX8_richest 37 = .ok (.iload_n 2, 1) := by decide +kernel
theorem dX8_richest_38 : decode cX8_richest 38 = .ok (.istore_n 1, 1) := by decide +kernel
theorem dX8_richest_39 : decode cX8_richest 39 = .ok (.iinc 2 1, 3) := by decide +kernel
theorem dX8_richest_42 : decode cX8_richest 42 = .ok (.goto (-27), 3) := by decide +kernel
theorem dX8_richest_45 : decode cX8_richest 45 = .ok (.iload_n 1, 1) := by decide +kernel
theorem dX8_richest_46 : decode cX8_richest 46 = .ok (.ireturn, 1) := by decide +kernel
theorem dX8_smoothPrices_0 : decode cX8_smoothPrices 0 = .ok (.iconst 1, 1) := by decide +kernel
theorem dX8_smoothPrices_1 : decode cX8_smoothPrices 1 = .ok (.istore_n 3, 1) := by decide +kernel
theorem dX8_smoothPrices_2 : decode cX8_smoothPrices 2 = .ok (.iconst 0, 1) := by decide +kernel
theorem dX8_smoothPrices_3 : decode cX8_smoothPrices 3 = .ok (.istore 4, 2) := by decide +kernel
theorem dX8_smoothPrices_5 : decode cX8_smoothPrices 5 = .ok (.iload 4, 2) := by decide +kernel
theorem dX8_smoothPrices_7 : decode cX8_smoothPrices 7 = .ok (.aload_n 0, 1) := by decide +kernel
theorem dX8_smoothPrices_8 : decode cX8_smoothPrices 8 = .ok (.getfield 15, 3) := by decide +kernel
theorem dX8_smoothPrices_11 : decode cX8_smoothPrices 11 = .ok (.if_icmp .ge 31, 3) := by decide +kernel
theorem dX8_smoothPrices_14 : decode cX8_smoothPrices 14 = .ok (.aload_n 0, 1) := by decide +kernel
theorem dX8_smoothPrices_15 : decode cX8_smoothPrices 15 = .ok (.iload 4, 2) := by decide +kernel
theorem dX8_smoothPrices_17 : decode cX8_smoothPrices 17 = .ok (.invokevirtual 84, 3) := by decide +kernel
theorem dX8_smoothPrices_20 : decode cX8_smoothPrices 20 = .ok (.iload_n 2, 1) := by decide +kernel
theorem dX8_smoothPrices_21 : decode cX8_smoothPrices 21 = .ok (.if_icmp .gt 15, 3) := by decide +kernel
theorem dX8_smoothPrices_24 : decode cX8_smoothPrices 24 = .ok (.iload_n 3, 1) := by decide +kernel
theorem dX8_smoothPrices_25 : decode cX8_smoothPrices 25 = .ok (.aload_n 0, 1) := by decide +kernel
theorem dX8_smoothPrices_26 : decode cX8_smoothPrices 26 = .ok (.iload_n 1, 1) := by decide +kernel
theorem dX8_smoothPrices_27 : decode cX8_smoothPrices 27 = .ok (.iload 4, 2) := by decide +kernel
theorem dX8_smoothPrices_29 : decode cX8_smoothPrices 29 = .ok (.invokevirtual 69, 3) := by decide +kernel
theorem dX8_smoothPrices_32 : decode cX8_smoothPrices 32 = .ok (.iconst 1, 1) := by decide +kernel
theorem dX8_smoothPrices_33 : decode cX8_smoothPrices 33 = .ok (.iadd, 1) := by decide +kernel
theorem dX8_smoothPrices_34 : decode cX8_smoothPrices 34 = .ok (.imul, 1) := by decide +kernel
theorem dX8_smoothPrices_35 : decode cX8_smoothPrices 35 = .ok (.istore_n 3, 1) := by decide +kernel
theorem dX8_smoothPrices_36 : decode cX8_smoothPrices 36 = .ok (.iinc 4 1, 3) := by decide +kernel
theorem dX8_smoothPrices_39 : decode cX8_smoothPrices 39 = .ok (.goto (-34), 3) := by decide +kernel
theorem dX8_smoothPrices_42 : decode cX8_smoothPrices 42 = .ok (.iload_n 3, 1) := by decide +kernel
theorem dX8_smoothPrices_43 : decode cX8_smoothPrices 43 = .ok (.ireturn, 1) := by decide +kernel
theorem dX8_allHold_0 : decode cX8_allHold 0 = .ok (.iconst 0, 1) := by decide +kernel
theorem dX8_allHold_1 : decode cX8_allHold 1 = .ok (.istore_n 3, 1) := by decide +kernel
theorem dX8_allHold_2 : decode cX8_allHold 2 = .ok (.iload_n 3, 1) := by decide +kernel
theorem dX8_allHold_3 : decode cX8_allHold 3 = .ok (.bipush 8, 2) := by decide +kernel
theorem dX8_allHold_5 : decode cX8_allHold 5 = .ok (.if_icmp .ge 65, 3) := by decide +kernel
theorem dX8_allHold_8 : decode cX8_allHold 8 = .ok (.iload_n 3, 1) := by decide +kernel
theorem dX8_allHold_9 : decode cX8_allHold 9 = .ok (.aload_n 2, 1) := by decide +kernel
theorem dX8_allHold_10 : decode cX8_allHold 10 = .ok (.arraylength, 1) := by decide +kernel
theorem dX8_allHold_11 : decode cX8_allHold 11 = .ok (.if_icmp .ge 59, 3) := by decide +kernel
theorem dX8_allHold_14 : decode cX8_allHold 14 = .ok (.iconst 0, 1) := by decide +kernel
theorem dX8_allHold_15 : decode cX8_allHold 15 = .ok (.istore 4, 2) := by decide +kernel
theorem dX8_allHold_17 : decode cX8_allHold 17 = .ok (.iconst 0, 1) := by decide +kernel
theorem dX8_allHold_18 : decode cX8_allHold 18 = .ok (.istore 5, 2) := by decide +kernel
theorem dX8_allHold_20 : decode cX8_allHold 20 = .ok (.iload 5, 2) := by decide +kernel
theorem dX8_allHold_22 : decode cX8_allHold 22 = .ok (.aload_n 0, 1) := by decide +kernel
theorem dX8_allHold_23 : decode cX8_allHold 23 = .ok (.getfield 18, 3) := by decide +kernel
theorem dX8_allHold_26 : decode cX8_allHold 26 = .ok (.if_icmp .ge 28, 3) := by decide +kernel
theorem dX8_allHold_29 : decode cX8_allHold 29 = .ok (.iload 4, 2) := by decide +kernel
theorem dX8_allHold_31 : decode cX8_allHold 31 = .ok (.iload_n 1, 1) := by decide +kernel
theorem dX8_allHold_32 : decode cX8_allHold 32 = .ok (.iload 5, 2) := by decide +kernel
theorem dX8_allHold_34 : decode cX8_allHold 34 = .ok (.ishr, 1) := by decide +kernel
theorem dX8_allHold_35 : decode cX8_allHold 35 = .ok (.iconst 1, 1) := by decide +kernel
theorem dX8_allHold_36 : decode cX8_allHold 36 = .ok (.iand, 1) := by decide +kernel
theorem dX8_allHold_37 : decode cX8_allHold 37 = .ok (.aload_n 0, 1) := by decide +kernel
theorem dX8_allHold_38 : decode cX8_allHold 38 = .ok (.iload 5, 2) := by decide +kernel
theorem dX8_allHold_40 : decode cX8_allHold 40 = .ok (.iload_n 3, 1) := by decide +kernel
theorem dX8_allHold_41 : decode cX8_allHold 41 = .ok (.invokevirtual 69, 3) := by decide +kernel
theorem dX8_allHold_44 : decode cX8_allHold 44 = .ok (.imul, 1) := by decide +kernel
theorem dX8_allHold_45 : decode cX8_allHold 45 = .ok (.iadd, 1) := by decide +kernel
theorem dX8_allHold_46 : decode cX8_allHold 46 = .ok (.istore 4, 2) := by decide +kernel
theorem dX8_allHold_48 : decode cX8_allHold 48 = .ok (.iinc 5 1, 3) := by decide +kernel
theorem dX8_allHold_51 : decode cX8_allHold 51 = .ok (.goto (-31), 3) := by decide +kernel
theorem dX8_allHold_54 : decode cX8_allHold 54 = .ok (.iload 4, 2) := by decide +kernel
theorem dX8_allHold_56 : decode cX8_allHold 56 = .ok (.aload_n 2, 1) := by decide +kernel
theorem dX8_allHold_57 : decode cX8_allHold 57 = .ok (.iload_n 3, 1) := by decide +kernel
theorem dX8_allHold_58 : decode cX8_allHold 58 = .ok (.iaload, 1) := by decide +kernel
theorem dX8_allHold_59 : decode cX8_allHold 59 = .ok (.if_icmp .ge 5, 3) := by decide +kernel
theorem dX8_allHold_62 : decode cX8_allHold 62 = .ok (.iconst 0, 1) := by decide +kernel
theorem dX8_allHold_63 : decode cX8_allHold 63 = .ok (.ireturn, 1) := by decide +kernel
theorem dX8_allHold_64 : decode cX8_allHold 64 = .ok (.iinc 3 1, 3) := by decide +kernel
theorem dX8_allHold_67 : decode cX8_allHold 67 = .ok (.goto (-65), 3) := by decide +kernel
theorem dX8_allHold_70 : decode cX8_allHold 70 = .ok (.iconst 1, 1) := by decide +kernel
theorem dX8_allHold_71 : decode cX8_allHold 71 = .ok (.ireturn, 1) := by decide +kernel
theorem dX8_shareNoPrime_0 : decode cX8_shareNoPrime 0 = .ok (.iconst 0, 1) := by decide +kernel
theorem dX8_shareNoPrime_1 : decode cX8_shareNoPrime 1 = .ok (.istore_n 2, 1) := by decide +kernel
theorem dX8_shareNoPrime_2 : decode cX8_shareNoPrime 2 = .ok (.iconst 0, 1) := by decide +kernel
theorem dX8_shareNoPrime_3 : decode cX8_shareNoPrime 3 = .ok (.istore_n 3, 1) := by decide +kernel
theorem dX8_shareNoPrime_4 : decode cX8_shareNoPrime 4 = .ok (.iload_n 3, 1) := by decide +kernel
theorem dX8_shareNoPrime_5 : decode cX8_shareNoPrime 5 = .ok (.aload_n 0, 1) := by decide +kernel
theorem dX8_shareNoPrime_6 : decode cX8_shareNoPrime 6 = .ok (.getfield 18, 3) := by decide +kernel
theorem dX8_shareNoPrime_9 : decode cX8_shareNoPrime 9 = .ok (.if_icmp .ge 36, 3) := by decide +kernel
theorem dX8_shareNoPrime_12 : decode cX8_shareNoPrime 12 = .ok (.iload_n 1, 1) := by decide +kernel
theorem dX8_shareNoPrime_13 : decode cX8_shareNoPrime 13 = .ok (.iload_n 3, 1) := by decide +kernel
theorem dX8_shareNoPrime_14 : decode cX8_shareNoPrime 14 = .ok (.ishr, 1) := by decide +kernel
theorem dX8_shareNoPrime_15 : decode cX8_shareNoPrime 15 = .ok (.iconst 1, 1) := by decide +kernel
theorem dX8_shareNoPrime_16 : decode cX8_shareNoPrime 16 = .ok (.iand, 1) := by decide +kernel
theorem dX8_shareNoPrime_17 : decode cX8_shareNoPrime 17 = .ok (.aload_n 0, 1) := by decide +kernel
theorem dX8_shareNoPrime_18 : decode cX8_shareNoPrime 18 = .ok (.iload_n 3, 1) := by decide +kernel
theorem dX8_shareNoPrime_19 : decode cX8_shareNoPrime 19 = .ok (.invokevirtual 76, 3) := by decide +kernel
theorem dX8_shareNoPrime_22 : decode cX8_shareNoPrime 22 = .ok (.imul, 1) := by decide +kernel
theorem dX8_shareNoPrime_23 : decode cX8_shareNoPrime 23 = .ok (.istore 4, 2) := by decide +kernel
theorem dX8_shareNoPrime_25 : decode cX8_shareNoPrime 25 = .ok (.iload_n 2, 1) := by decide +kernel
theorem dX8_shareNoPrime_26 : decode cX8_shareNoPrime 26 = .ok (.iload 4, 2) := by decide +kernel
theorem dX8_shareNoPrime_28 : decode cX8_shareNoPrime 28 = .ok (.iand, 1) := by decide +kernel
theorem dX8_shareNoPrime_29 : decode cX8_shareNoPrime 29 = .ok (.ifCond .eq 5, 3) := by decide +kernel
theorem dX8_shareNoPrime_32 : decode cX8_shareNoPrime 32 = .ok (.iconst 0, 1) := by decide +kernel
theorem dX8_shareNoPrime_33 : decode cX8_shareNoPrime 33 = .ok (.ireturn, 1) := by decide +kernel
theorem dX8_shareNoPrime_34 : decode cX8_shareNoPrime 34 = .ok (.iload_n 2, 1) := by decide +kernel
theorem dX8_shareNoPrime_35 : decode cX8_shareNoPrime 35 = .ok (.iload 4, 2) := by decide +kernel
theorem dX8_shareNoPrime_37 : decode cX8_shareNoPrime 37 = .ok (.ior, 1) := by decide +kernel
theorem dX8_shareNoPrime_38 : decode cX8_shareNoPrime 38 = .ok (.istore_n 2, 1) := by decide +kernel
theorem dX8_shareNoPrime_39 : decode cX8_shareNoPrime 39 = .ok (.iinc 3 1, 3) := by decide +kernel
theorem dX8_shareNoPrime_42 : decode cX8_shareNoPrime 42 = .ok (.goto (-38), 3) := by decide +kernel
theorem dX8_shareNoPrime_45 : decode cX8_shareNoPrime 45 = .ok (.iconst 1, 1) := by decide +kernel
theorem dX8_shareNoPrime_46 : decode cX8_shareNoPrime 46 = .ok (.ireturn, 1) := by decide +kernel
theorem dX8_differBySwap_0 : decode cX8_differBySwap 0 = .ok (.aload_n 0, 1) := by decide +kernel
theorem dX8_differBySwap_1 : decode cX8_differBySwap 1 = .ok (.iload_n 1, 1) := by decide +kernel
theorem dX8_differBySwap_2 : decode cX8_differBySwap 2 = .ok (.invokevirtual 93, 3) := by decide +kernel
theorem dX8_differBySwap_5 : decode cX8_differBySwap 5 = .ok (.aload_n 0, 1) := by decide +kernel
theorem dX8_differBySwap_6 : decode cX8_differBySwap 6 = .ok (.iload_n 3, 1) := by decide +kernel
theorem dX8_differBySwap_7 : decode cX8_differBySwap 7 = .ok (.invokevirtual 84, 3) := by decide +kernel
theorem dX8_differBySwap_10 : decode cX8_differBySwap 10 = .ok (.i2l, 1) := by decide +kernel
theorem dX8_differBySwap_11 : decode cX8_differBySwap 11 = .ok (.ldiv, 1) := by decide +kernel
theorem dX8_differBySwap_12 : decode cX8_differBySwap 12 = .ok (.aload_n 0, 1) := by decide +kernel
theorem dX8_differBySwap_13 : decode cX8_differBySwap 13 = .ok (.iload 4, 2) := by decide +kernel
theorem dX8_differBySwap_15 : decode cX8_differBySwap 15 = .ok (.invokevirtual 84, 3) := by decide +kernel
theorem dX8_differBySwap_18 : decode cX8_differBySwap 18 = .ok (.i2l, 1) := by decide +kernel
theorem dX8_differBySwap_19 : decode cX8_differBySwap 19 = .ok (.lmul, 1) := by decide +kernel
theorem dX8_differBySwap_20 : decode cX8_differBySwap 20 = .ok (.lstore 5, 2) := by decide +kernel
theorem dX8_differBySwap_22 : decode cX8_differBySwap 22 = .ok (.aload_n 0, 1) := by decide +kernel
theorem dX8_differBySwap_23 : decode cX8_differBySwap 23 = .ok (.iload_n 2, 1) := by decide +kernel
theorem dX8_differBySwap_24 : decode cX8_differBySwap 24 = .ok (.invokevirtual 93, 3) := by decide +kernel
theorem dX8_differBySwap_27 : decode cX8_differBySwap 27 = .ok (.aload_n 0, 1) := by decide +kernel
theorem dX8_differBySwap_28 : decode cX8_differBySwap 28 = .ok (.iload 4, 2) := by decide +kernel
theorem dX8_differBySwap_30 : decode cX8_differBySwap 30 = .ok (.invokevirtual 84, 3) := by decide +kernel
theorem dX8_differBySwap_33 : decode cX8_differBySwap 33 = .ok (.i2l, 1) := by decide +kernel
theorem dX8_differBySwap_34 : decode cX8_differBySwap 34 = .ok (.ldiv, 1) := by decide +kernel
theorem dX8_differBySwap_35 : decode cX8_differBySwap 35 = .ok (.aload_n 0, 1) := by decide +kernel
theorem dX8_differBySwap_36 : decode cX8_differBySwap 36 = .ok (.iload_n 3, 1) := by decide +kernel
theorem dX8_differBySwap_37 : decode cX8_differBySwap 37 = .ok (.invokevirtual 84, 3) := by decide +kernel
theorem dX8_differBySwap_40 : decode cX8_differBySwap 40 = .ok (.i2l, 1) := by decide +kernel
theorem dX8_differBySwap_41 : decode cX8_differBySwap 41 = .ok (.lmul, 1) := by decide +kernel
theorem dX8_differBySwap_42 : decode cX8_differBySwap 42 = .ok (.lstore 7, 2) := by decide +kernel
theorem dX8_differBySwap_44 : decode cX8_differBySwap 44 = .ok (.lload 5, 2) := by decide +kernel
theorem dX8_differBySwap_46 : decode cX8_differBySwap 46 = .ok (.lload 7, 2) := by decide +kernel
theorem dX8_differBySwap_48 : decode cX8_differBySwap 48 = .ok (.lsub, 1) := by decide +kernel
theorem dX8_differBySwap_49 : decode cX8_differBySwap 49 = .ok (.invokestatic 97, 3) := by decide +kernel
theorem dX8_differBySwap_52 : decode cX8_differBySwap 52 = .ok (.lreturn, 1) := by decide +kernel
theorem dX8_handOver_0 : decode cX8_handOver 0 = .ok (.iconst 0, 1) := by decide +kernel
theorem dX8_handOver_1 : decode cX8_handOver 1 = .ok (.istore 4, 2) := by decide +kernel
theorem dX8_handOver_3 : decode cX8_handOver 3 = .ok (.iconst 0, 1) := by decide +kernel
theorem dX8_handOver_4 : decode cX8_handOver 4 = .ok (.istore 5, 2) := by decide +kernel
theorem dX8_handOver_6 : decode cX8_handOver 6 = .ok (.iload 5, 2) := by decide +kernel
theorem dX8_handOver_8 : decode cX8_handOver 8 = .ok (.aload_n 0, 1) := by decide +kernel
theorem dX8_handOver_9 : decode cX8_handOver 9 = .ok (.getfield 15, 3) := by decide +kernel
theorem dX8_handOver_12 : decode cX8_handOver 12 = .ok (.if_icmp .ge 48, 3) := by decide +kernel
theorem dX8_handOver_15 : decode cX8_handOver 15 = .ok (.iload 5, 2) := by decide +kernel
theorem dX8_handOver_17 : decode cX8_handOver 17 = .ok (.aload_n 3, 1) := by decide +kernel
theorem dX8_handOver_18 : decode cX8_handOver 18 = .ok (.arraylength, 1) := by decide +kernel
theorem dX8_handOver_19 : decode cX8_handOver 19 = .ok (.if_icmp .ge 41, 3) := by decide +kernel
theorem dX8_handOver_22 : decode cX8_handOver 22 = .ok (.aload_n 0, 1) := by decide +kernel
theorem dX8_handOver_23 : decode cX8_handOver 23 = .ok (.iload_n 1, 1) := by decide +kernel
theorem dX8_handOver_24 : decode cX8_handOver 24 = .ok (.iload 5, 2) := by decide +kernel
theorem dX8_handOver_26 : decode cX8_handOver 26 = .ok (.aload_n 3, 1) := by decide +kernel
theorem dX8_handOver_27 : decode cX8_handOver 27 = .ok (.iload 5, 2) := by decide +kernel
theorem dX8_handOver_29 : decode cX8_handOver 29 = .ok (.iaload, 1) := by decide +kernel
theorem dX8_handOver_30 : decode cX8_handOver 30 = .ok (.ineg, 1) := by decide +kernel
theorem dX8_handOver_31 : decode cX8_handOver 31 = .ok (.invokevirtual 101, 3) := by decide +kernel
theorem dX8_handOver_34 : decode cX8_handOver 34 = .ok (.aload_n 0, 1) := by decide +kernel
theorem dX8_handOver_35 : decode cX8_handOver 35 = .ok (.iload_n 2, 1) := by decide +kernel
theorem dX8_handOver_36 : decode cX8_handOver 36 = .ok (.iload 5, 2) := by decide +kernel
theorem dX8_handOver_38 : decode cX8_handOver 38 = .ok (.aload_n 3, 1) := by decide +kernel
theorem dX8_handOver_39 : decode cX8_handOver 39 = .ok (.iload 5, 2) := by decide +kernel
theorem dX8_handOver_41 : decode cX8_handOver 41 = .ok (.iaload, 1) := by decide +kernel
theorem dX8_handOver_42 : decode cX8_handOver 42 = .ok (.invokevirtual 101, 3) := by decide +kernel
theorem dX8_handOver_45 : decode cX8_handOver 45 = .ok (.iload 4, 2) := by decide +kernel
theorem dX8_handOver_47 : decode cX8_handOver 47 = .ok (.aload_n 3, 1) := by decide +kernel
theorem dX8_handOver_48 : decode cX8_handOver 48 = .ok (.iload 5, 2) := by decide +kernel
theorem dX8_handOver_50 : decode cX8_handOver 50 = .ok (.iaload, 1) := by decide +kernel
theorem dX8_handOver_51 : decode cX8_handOver 51 = .ok (.iadd, 1) := by decide +kernel
theorem dX8_handOver_52 : decode cX8_handOver 52 = .ok (.istore 4, 2) := by decide +kernel
theorem dX8_handOver_54 : decode cX8_handOver 54 = .ok (.iinc 5 1, 3) := by decide +kernel
theorem dX8_handOver_57 : decode cX8_handOver 57 = .ok (.goto (-51), 3) := by decide +kernel
theorem dX8_handOver_60 : decode cX8_handOver 60 = .ok (.iload 4, 2) := by decide +kernel
theorem dX8_handOver_62 : decode cX8_handOver 62 = .ok (.ireturn, 1) := by decide +kernel
theorem dX8_isSidePlace_0 : decode cX8_isSidePlace 0 = .ok (.iload_n 0, 1) := by decide +kernel
theorem dX8_isSidePlace_1 : decode cX8_isSidePlace 1 = .ok (.ifCond .lt 32, 3) := by decide +kernel
theorem dX8_isSidePlace_4 : decode cX8_isSidePlace 4 = .ok (.iload_n 0, 1) := by decide +kernel
theorem dX8_isSidePlace_5 : decode cX8_isSidePlace 5 = .ok (.bipush 6, 2) := by decide +kernel
theorem dX8_isSidePlace_7 : decode cX8_isSidePlace 7 = .ok (.if_icmp .ge 26, 3) := by decide +kernel
theorem dX8_isSidePlace_10 : decode cX8_isSidePlace 10 = .ok (.iload_n 1, 1) := by decide +kernel
theorem dX8_isSidePlace_11 : decode cX8_isSidePlace 11 = .ok (.ifCond .eq 8, 3) := by decide +kernel
theorem dX8_isSidePlace_14 : decode cX8_isSidePlace 14 = .ok (.iload_n 1, 1) := by decide +kernel
theorem dX8_isSidePlace_15 : decode cX8_isSidePlace 15 = .ok (.iconst 1, 1) := by decide +kernel
theorem dX8_isSidePlace_16 : decode cX8_isSidePlace 16 = .ok (.if_icmp .ne 17, 3) := by decide +kernel
theorem dX8_isSidePlace_19 : decode cX8_isSidePlace 19 = .ok (.iload_n 2, 1) := by decide +kernel
theorem dX8_isSidePlace_20 : decode cX8_isSidePlace 20 = .ok (.ifCond .lt 13, 3) := by decide +kernel
theorem dX8_isSidePlace_23 : decode cX8_isSidePlace 23 = .ok (.iload_n 2, 1) := by decide +kernel
theorem dX8_isSidePlace_24 : decode cX8_isSidePlace 24 = .ok (.bipush 8, 2) := by decide +kernel
theorem dX8_isSidePlace_26 : decode cX8_isSidePlace 26 = .ok (.if_icmp .ge 7, 3) := by decide +kernel
theorem dX8_isSidePlace_29 : decode cX8_isSidePlace 29 = .ok (.iconst 1, 1) := by decide +kernel
theorem dX8_isSidePlace_30 : decode cX8_isSidePlace 30 = .ok (.goto 4, 3) := by decide +kernel
theorem dX8_isSidePlace_33 : decode cX8_isSidePlace 33 = .ok (.iconst 0, 1) := by decide +kernel
theorem dX8_isSidePlace_34 : decode cX8_isSidePlace 34 = .ok (.ireturn, 1) := by decide +kernel
theorem dX8_onSide_0 : decode cX8_onSide 0 = .ok (.iload_n 1, 1) := by decide +kernel
theorem dX8_onSide_1 : decode cX8_onSide 1 = .ok (.iload_n 2, 1) := by decide +kernel
theorem dX8_onSide_2 : decode cX8_onSide 2 = .ok (.iload_n 3, 1) := by decide +kernel
theorem dX8_onSide_3 : decode cX8_onSide 3 = .ok (.invokestatic 105, 3) := by decide +kernel
theorem dX8_onSide_6 : decode cX8_onSide 6 = .ok (.ifCond .eq 21, 3) := by decide +kernel
theorem dX8_onSide_9 : decode cX8_onSide 9 = .ok (.aload_n 0, 1) := by decide +kernel
theorem dX8_onSide_10 : decode cX8_onSide 10 = .ok (.getfield 38, 3) := by decide +kernel
theorem dX8_onSide_13 : decode cX8_onSide 13 = .ok (.iload_n 1, 1) := by decide +kernel
theorem dX8_onSide_14 : decode cX8_onSide 14 = .ok (.iconst 2, 1) := by decide +kernel
theorem dX8_onSide_15 : decode cX8_onSide 15 = .ok (.imul, 1) := by decide +kernel
theorem dX8_onSide_16 : decode cX8_onSide 16 = .ok (.iload_n 2, 1) := by decide +kernel
theorem dX8_onSide_17 : decode cX8_onSide 17 = .ok (.iadd, 1) := by decide +kernel
theorem dX8_onSide_18 : decode cX8_onSide 18 = .ok (.bipush 8, 2) := by decide +kernel
theorem dX8_onSide_20 : decode cX8_onSide 20 = .ok (.imul, 1) := by decide +kernel
theorem dX8_onSide_21 : decode cX8_onSide 21 = .ok (.iload_n 3, 1) := by decide +kernel
theorem dX8_onSide_22 : decode cX8_onSide 22 = .ok (.iadd, 1) := by decide +kernel
theorem dX8_onSide_23 : decode cX8_onSide 23 = .ok (.iaload, 1) := by decide +kernel
theorem dX8_onSide_24 : decode cX8_onSide 24 = .ok (.goto 4, 3) := by decide +kernel
theorem dX8_onSide_27 : decode cX8_onSide 27 = .ok (.iconst 0, 1) := by decide +kernel
theorem dX8_onSide_28 : decode cX8_onSide 28 = .ok (.ireturn, 1) := by decide +kernel
theorem dX8_addToSide_0 : decode cX8_addToSide 0 = .ok (.iload_n 1, 1) := by decide +kernel
theorem dX8_addToSide_1 : decode cX8_addToSide 1 = .ok (.iload_n 2, 1) := by decide +kernel
theorem dX8_addToSide_2 : decode cX8_addToSide 2 = .ok (.iload_n 3, 1) := by decide +kernel
theorem dX8_addToSide_3 : decode cX8_addToSide 3 = .ok (.invokestatic 105, 3) := by decide +kernel
theorem dX8_addToSide_6 : decode cX8_addToSide 6 = .ok (.ifCond .eq 22, 3) := by decide +kernel
theorem dX8_addToSide_9 : decode cX8_addToSide 9 = .ok (.aload_n 0, 1) := by decide +kernel
theorem dX8_addToSide_10 : decode cX8_addToSide 10 = .ok (.getfield 38, 3) := by decide +kernel
theorem dX8_addToSide_13 : decode cX8_addToSide 13 = .ok (.iload_n 1, 1) := by decide +kernel
theorem dX8_addToSide_14 : decode cX8_addToSide 14 = .ok (.iconst 2, 1) := by decide +kernel
theorem dX8_addToSide_15 : decode cX8_addToSide 15 = .ok (.imul, 1) := by decide +kernel
theorem dX8_addToSide_16 : decode cX8_addToSide 16 = .ok (.iload_n 2, 1) := by decide +kernel
theorem dX8_addToSide_17 : decode cX8_addToSide 17 = .ok (.iadd, 1) := by decide +kernel
theorem dX8_addToSide_18 : decode cX8_addToSide 18 = .ok (.bipush 8, 2) := by decide +kernel
theorem dX8_addToSide_20 : decode cX8_addToSide 20 = .ok (.imul, 1) := by decide +kernel
theorem dX8_addToSide_21 : decode cX8_addToSide 21 = .ok (.iload_n 3, 1) := by decide +kernel
theorem dX8_addToSide_22 : decode cX8_addToSide 22 = .ok (.iadd, 1) := by decide +kernel
theorem dX8_addToSide_23 : decode cX8_addToSide 23 = .ok (.dup2, 1) := by decide +kernel
theorem dX8_addToSide_24 : decode cX8_addToSide 24 = .ok (.iaload, 1) := by decide +kernel
theorem dX8_addToSide_25 : decode cX8_addToSide 25 = .ok (.iconst 1, 1) := by decide +kernel
theorem dX8_addToSide_26 : decode cX8_addToSide 26 = .ok (.iadd, 1) := by decide +kernel
theorem dX8_addToSide_27 : decode cX8_addToSide 27 = .ok (.iastore, 1) := by decide +kernel
theorem dX8_addToSide_28 : decode cX8_addToSide 28 = .ok (.return_, 1) := by decide +kernel
theorem dX8_sideWorth_0 : decode cX8_sideWorth 0 = .ok (.lconst 1, 1) := by decide +kernel
theorem dX8_sideWorth_1 : decode cX8_sideWorth 1 = .ok (.lstore_n 3, 1) := by decide +kernel
theorem dX8_sideWorth_2 : decode cX8_sideWorth 2 = .ok (.iconst 0, 1) := by decide +kernel
theorem dX8_sideWorth_3 : decode cX8_sideWorth 3 = .ok (.istore 5, 2) := by decide +kernel
theorem dX8_sideWorth_5 : decode cX8_sideWorth 5 = .ok (.iload 5, 2) := by decide +kernel
theorem dX8_sideWorth_7 : decode cX8_sideWorth 7 = .ok (.aload_n 0, 1) := by decide +kernel
theorem dX8_sideWorth_8 : decode cX8_sideWorth 8 = .ok (.getfield 15, 3) := by decide +kernel
theorem dX8_sideWorth_11 : decode cX8_sideWorth 11 = .ok (.if_icmp .ge 29, 3) := by decide +kernel
theorem dX8_sideWorth_14 : decode cX8_sideWorth 14 = .ok (.lload_n 3, 1) := by decide +kernel
theorem dX8_sideWorth_15 : decode cX8_sideWorth 15 = .ok (.aload_n 0, 1) := by decide +kernel
theorem dX8_sideWorth_16 : decode cX8_sideWorth 16 = .ok (.iload 5, 2) := by decide +kernel
theorem dX8_sideWorth_18 : decode cX8_sideWorth 18 = .ok (.invokevirtual 84, 3) := by decide +kernel
theorem dX8_sideWorth_21 : decode cX8_sideWorth 21 = .ok (.aload_n 0, 1) := by decide +kernel
theorem dX8_sideWorth_22 : decode cX8_sideWorth 22 = .ok (.iload_n 1, 1) := by decide +kernel
theorem dX8_sideWorth_23 : decode cX8_sideWorth 23 = .ok (.iload_n 2, 1) := by decide +kernel
theorem dX8_sideWorth_24 : decode cX8_sideWorth 24 = .ok (.iload 5, 2) := by decide +kernel
theorem dX8_sideWorth_26 : decode cX8_sideWorth 26 = .ok (.invokevirtual 109, 3) := by decide +kernel
theorem dX8_sideWorth_29 : decode cX8_sideWorth 29 = .ok (.invokestatic 87, 3) := by decide +kernel
theorem dX8_sideWorth_32 : decode cX8_sideWorth 32 = .ok (.lmul, 1) := by decide +kernel
theorem dX8_sideWorth_33 : decode cX8_sideWorth 33 = .ok (.lstore_n 3, 1) := by decide +kernel
theorem dX8_sideWorth_34 : decode cX8_sideWorth 34 = .ok (.iinc 5 1, 3) := by decide +kernel
theorem dX8_sideWorth_37 : decode cX8_sideWorth 37 = .ok (.goto (-32), 3) := by decide +kernel
theorem dX8_sideWorth_40 : decode cX8_sideWorth 40 = .ok (.lload_n 3, 1) := by decide +kernel
theorem dX8_sideWorth_41 : decode cX8_sideWorth 41 = .ok (.l2i, 1) := by decide +kernel
theorem dX8_sideWorth_42 : decode cX8_sideWorth 42 = .ok (.ireturn, 1) := by decide +kernel
theorem dX8_changeFault_0 : decode cX8_changeFault 0 = .ok (.aload_n 0, 1) := by decide +kernel
theorem dX8_changeFault_1 : decode cX8_changeFault 1 = .ok (.iload_n 1, 1) := by decide +kernel
theorem dX8_changeFault_2 : decode cX8_changeFault 2 = .ok (.invokevirtual 72, 3) := by decide +kernel
theorem dX8_changeFault_5 : decode cX8_changeFault 5 = .ok (.istore_n 3, 1) := by decide +kernel
theorem dX8_changeFault_6 : decode cX8_changeFault 6 = .ok (.iconst 0, 1) := by decide +kernel
theorem dX8_changeFault_7 : decode cX8_changeFault 7 = .ok (.istore 4, 2) := by decide +kernel
theorem dX8_changeFault_9 : decode cX8_changeFault 9 = .ok (.iload 4, 2) := by decide +kernel
theorem dX8_changeFault_11 : decode cX8_changeFault 11 = .ok (.aload_n 0, 1) := by decide +kernel
theorem dX8_changeFault_12 : decode cX8_changeFault 12 = .ok (.getfield 15, 3) := by decide +kernel
theorem dX8_changeFault_15 : decode cX8_changeFault 15 = .ok (.if_icmp .ge 49, 3) := by decide +kernel
theorem dX8_changeFault_18 : decode cX8_changeFault 18 = .ok (.aload_n 0, 1) := by decide +kernel
theorem dX8_changeFault_19 : decode cX8_changeFault 19 = .ok (.iload_n 1, 1) := by decide +kernel
theorem dX8_changeFault_20 : decode cX8_changeFault 20 = .ok (.iload 4, 2) := by decide +kernel
theorem dX8_changeFault_22 : decode cX8_changeFault 22 = .ok (.invokevirtual 69, 3) := by decide +kernel
theorem dX8_changeFault_25 : decode cX8_changeFault 25 = .ok (.aload_n 0, 1) := by decide +kernel
theorem dX8_changeFault_26 : decode cX8_changeFault 26 = .ok (.iload_n 2, 1) := by decide +kernel
theorem dX8_changeFault_27 : decode cX8_changeFault 27 = .ok (.iconst 0, 1) := by decide +kernel
theorem dX8_changeFault_28 : decode cX8_changeFault 28 = .ok (.iload 4, 2) := by decide +kernel
theorem dX8_changeFault_30 : decode cX8_changeFault 30 = .ok (.invokevirtual 109, 3) := by decide +kernel
theorem dX8_changeFault_33 : decode cX8_changeFault 33 = .ok (.if_icmp .ge 5, 3) := by decide +kernel
theorem dX8_changeFault_36 : decode cX8_changeFault 36 = .ok (.iconst 2, 1) := by decide +kernel
theorem dX8_changeFault_37 : decode cX8_changeFault 37 = .ok (.ireturn, 1) := by decide +kernel
theorem dX8_changeFault_38 : decode cX8_changeFault 38 = .ok (.iload_n 3, 1) := by decide +kernel
theorem dX8_changeFault_39 : decode cX8_changeFault 39 = .ok (.aload_n 0, 1) := by decide +kernel
theorem dX8_changeFault_40 : decode cX8_changeFault 40 = .ok (.iload_n 2, 1) := by decide +kernel
theorem dX8_changeFault_41 : decode cX8_changeFault 41 = .ok (.iconst 1, 1) := by decide +kernel
theorem dX8_changeFault_42 : decode cX8_changeFault 42 = .ok (.iload 4, 2) := by decide +kernel
theorem dX8_changeFault_44 : decode cX8_changeFault 44 = .ok (.invokevirtual 109, 3) := by decide +kernel
theorem dX8_changeFault_47 : decode cX8_changeFault 47 = .ok (.aload_n 0, 1) := by decide +kernel
theorem dX8_changeFault_48 : decode cX8_changeFault 48 = .ok (.iload_n 2, 1) := by decide +kernel
theorem dX8_changeFault_49 : decode cX8_changeFault 49 = .ok (.iconst 0, 1) := by decide +kernel
theorem dX8_changeFault_50 : decode cX8_changeFault 50 = .ok (.iload 4, 2) := by decide +kernel
theorem dX8_changeFault_52 : decode cX8_changeFault 52 = .ok (.invokevirtual 109, 3) := by decide +kernel
theorem dX8_changeFault_55 : decode cX8_changeFault 55 = .ok (.isub, 1) := by decide +kernel
theorem dX8_changeFault_56 : decode cX8_changeFault 56 = .ok (.iadd, 1) := by decide +kernel
theorem dX8_changeFault_57 : decode cX8_changeFault 57 = .ok (.istore_n 3, 1) := by decide +kernel
theorem dX8_changeFault_58 : decode cX8_changeFault 58 = .ok (.iinc 4 1, 3) := by decide +kernel
theorem dX8_changeFault_61 : decode cX8_changeFault 61 = .ok (.goto (-52), 3) := by decide +kernel
theorem dX8_changeFault_64 : decode cX8_changeFault 64 = .ok (.iload_n 3, 1) := by decide +kernel
theorem dX8_changeFault_65 : decode cX8_changeFault 65 = .ok (.bipush 9, 2) := by decide +kernel
theorem dX8_changeFault_67 : decode cX8_changeFault 67 = .ok (.if_icmp .le 7, 3) := by decide +kernel
theorem dX8_changeFault_70 : decode cX8_changeFault 70 = .ok (.iconst 3, 1) := by decide +kernel
theorem dX8_changeFault_71 : decode cX8_changeFault 71 = .ok (.goto 4, 3) := by decide +kernel
theorem dX8_changeFault_74 : decode cX8_changeFault 74 = .ok (.iconst 0, 1) := by decide +kernel
theorem dX8_changeFault_75 : decode cX8_changeFault 75 = .ok (.ireturn, 1) := by decide +kernel
theorem dX8_makeChange_0 : decode cX8_makeChange 0 = .ok (.iconst 0, 1) := by decide +kernel
theorem dX8_makeChange_1 : decode cX8_makeChange 1 = .ok (.istore_n 3, 1) := by decide +kernel
theorem dX8_makeChange_2 : decode cX8_makeChange 2 = .ok (.iload_n 3, 1) := by decide +kernel
theorem dX8_makeChange_3 : decode cX8_makeChange 3 = .ok (.aload_n 0, 1) := by decide +kernel
theorem dX8_makeChange_4 : decode cX8_makeChange 4 = .ok (.getfield 15, 3) := by decide +kernel
theorem dX8_makeChange_7 : decode cX8_makeChange 7 = .ok (.if_icmp .ge 30, 3) := by decide +kernel
theorem dX8_makeChange_10 : decode cX8_makeChange 10 = .ok (.aload_n 0, 1) := by decide +kernel
theorem dX8_makeChange_11 : decode cX8_makeChange 11 = .ok (.iload_n 1, 1) := by decide +kernel
theorem dX8_makeChange_12 : decode cX8_makeChange 12 = .ok (.iload_n 3, 1) := by decide +kernel
theorem dX8_makeChange_13 : decode cX8_makeChange 13 = .ok (.aload_n 0, 1) := by decide +kernel
theorem dX8_makeChange_14 : decode cX8_makeChange 14 = .ok (.iload_n 2, 1) := by decide +kernel
theorem dX8_makeChange_15 : decode cX8_makeChange 15 = .ok (.iconst 1, 1) := by decide +kernel
theorem dX8_makeChange_16 : decode cX8_makeChange 16 = .ok (.iload_n 3, 1) := by decide +kernel
theorem dX8_makeChange_17 : decode cX8_makeChange 17 = .ok (.invokevirtual 109, 3) := by decide +kernel
theorem dX8_makeChange_20 : decode cX8_makeChange 20 = .ok (.aload_n 0, 1) := by decide +kernel
theorem dX8_makeChange_21 : decode cX8_makeChange 21 = .ok (.iload_n 2, 1) := by decide +kernel
theorem dX8_makeChange_22 : decode cX8_makeChange 22 = .ok (.iconst 0, 1) := by decide +kernel
theorem dX8_makeChange_23 : decode cX8_makeChange 23 = .ok (.iload_n 3, 1) := by decide +kernel
theorem dX8_makeChange_24 : decode cX8_makeChange 24 = .ok (.invokevirtual 109, 3) := by decide +kernel
theorem dX8_makeChange_27 : decode cX8_makeChange 27 = .ok (.isub, 1) := by decide +kernel
theorem dX8_makeChange_28 : decode cX8_makeChange 28 = .ok (.invokevirtual 101, 3) := by decide +kernel
theorem dX8_makeChange_31 : decode cX8_makeChange 31 = .ok (.iinc 3 1, 3) := by decide +kernel
theorem dX8_makeChange_34 : decode cX8_makeChange 34 = .ok (.goto (-32), 3) := by decide +kernel
theorem dX8_makeChange_37 : decode cX8_makeChange 37 = .ok (.aload_n 0, 1) := by decide +kernel
theorem dX8_makeChange_38 : decode cX8_makeChange 38 = .ok (.iload_n 1, 1) := by decide +kernel
theorem dX8_makeChange_39 : decode cX8_makeChange 39 = .ok (.invokevirtual 72, 3) := by decide +kernel
theorem dX8_makeChange_42 : decode cX8_makeChange 42 = .ok (.ireturn, 1) := by decide +kernel
theorem dX8_inTreasury_0 : decode cX8_inTreasury 0 = .ok (.iload_n 1, 1) := by decide +kernel
theorem dX8_inTreasury_1 : decode cX8_inTreasury 1 = .ok (.ifCond .lt 20, 3) := by decide +kernel
theorem dX8_inTreasury_4 : decode cX8_inTreasury 4 = .ok (.iload_n 1, 1) := by decide +kernel
theorem dX8_inTreasury_5 : decode cX8_inTreasury 5 = .ok (.aload_n 0, 1) := by decide +kernel
theorem dX8_inTreasury_6 : decode cX8_inTreasury 6 = .ok (.getfield 15, 3) := by decide +kernel
theorem dX8_inTreasury_9 : decode cX8_inTreasury 9 = .ok (.if_icmp .ge 12, 3) := by decide +kernel
theorem dX8_inTreasury_12 : decode cX8_inTreasury 12 = .ok (.aload_n 0, 1) := by decide +kernel
theorem dX8_inTreasury_13 : decode cX8_inTreasury 13 = .ok (.getfield 41, 3) := by decide +kernel
theorem dX8_inTreasury_16 : decode cX8_inTreasury 16 = .ok (.iload_n 1, 1) := by decide +kernel
theorem dX8_inTreasury_17 : decode cX8_inTreasury 17 = .ok (.iaload, 1) := by decide +kernel
theorem dX8_inTreasury_18 : decode cX8_inTreasury 18 = .ok (.goto 4, 3) := by decide +kernel
theorem dX8_inTreasury_21 : decode cX8_inTreasury 21 = .ok (.iconst 0, 1) := by decide +kernel
theorem dX8_inTreasury_22 : decode cX8_inTreasury 22 = .ok (.ireturn, 1) := by decide +kernel
theorem dX8_manyInTreasury_0 : decode cX8_manyInTreasury 0 = .ok (.iconst 0, 1) := by decide +kernel
theorem dX8_manyInTreasury_1 : decode cX8_manyInTreasury 1 = .ok (.istore_n 1, 1) := by decide +kernel
theorem dX8_manyInTreasury_2 : decode cX8_manyInTreasury 2 = .ok (.iconst 0, 1) := by decide +kernel
theorem dX8_manyInTreasury_3 : decode cX8_manyInTreasury 3 = .ok (.istore_n 2, 1) := by decide +kernel
theorem dX8_manyInTreasury_4 : decode cX8_manyInTreasury 4 = .ok (.iload_n 2, 1) := by decide +kernel
theorem dX8_manyInTreasury_5 : decode cX8_manyInTreasury 5 = .ok (.aload_n 0, 1) := by decide +kernel
theorem dX8_manyInTreasury_6 : decode cX8_manyInTreasury 6 = .ok (.getfield 15, 3) := by decide +kernel
theorem dX8_manyInTreasury_9 : decode cX8_manyInTreasury 9 = .ok (.if_icmp .ge 18, 3) := by decide +kernel
theorem dX8_manyInTreasury_12 : decode cX8_manyInTreasury 12 = .ok (.iload_n 1, 1) := by decide +kernel
theorem dX8_manyInTreasury_13 : decode cX8_manyInTreasury 13 = .ok (.aload_n 0, 1) := by decide +kernel
theorem dX8_manyInTreasury_14 : decode cX8_manyInTreasury 14 = .ok (.getfield 41, 3) := by decide +kernel
theorem dX8_manyInTreasury_17 : decode cX8_manyInTreasury 17 = .ok (.iload_n 2, 1) := by decide +kernel
theorem dX8_manyInTreasury_18 : decode cX8_manyInTreasury 18 = .ok (.iaload, 1) := by decide +kernel
theorem dX8_manyInTreasury_19 : decode cX8_manyInTreasury 19 = .ok (.iadd, 1) := by decide +kernel
theorem dX8_manyInTreasury_20 : decode cX8_manyInTreasury 20 = .ok (.istore_n 1, 1) := by decide +kernel
theorem dX8_manyInTreasury_21 : decode cX8_manyInTreasury 21 = .ok (.iinc 2 1, 3) := by decide +kernel
theorem dX8_manyInTreasury_24 : decode cX8_manyInTreasury 24 = .ok (.goto (-20), 3) := by decide +kernel
theorem dX8_manyInTreasury_27 : decode cX8_manyInTreasury 27 = .ok (.iload_n 1, 1) := by decide +kernel
theorem dX8_manyInTreasury_28 : decode cX8_manyInTreasury 28 = .ok (.ireturn, 1) := by decide +kernel
theorem dX8_taxOne_0 : decode cX8_taxOne 0 = .ok (.aload_n 0, 1) := by decide +kernel
theorem dX8_taxOne_1 : decode cX8_taxOne 1 = .ok (.iload_n 1, 1) := by decide +kernel
theorem dX8_taxOne_2 : decode cX8_taxOne 2 = .ok (.invokevirtual 113, 3) := by decide +kernel
theorem dX8_taxOne_5 : decode cX8_taxOne 5 = .ok (.istore_n 2, 1) := by decide +kernel
theorem dX8_taxOne_6 : decode cX8_taxOne 6 = .ok (.iload_n 2, 1) := by decide +kernel
theorem dX8_taxOne_7 : decode cX8_taxOne 7 = .ok (.ifCond .lt 9, 3) := by decide +kernel
theorem dX8_taxOne_10 : decode cX8_taxOne 10 = .ok (.iload_n 2, 1) := by decide +kernel
theorem dX8_taxOne_11 : decode cX8_taxOne 11 = .ok (.bipush 8, 2) := by decide +kernel
theorem dX8_taxOne_13 : decode cX8_taxOne 13 = .ok (.if_icmp .lt 5, 3) := by decide +kernel
theorem dX8_taxOne_16 : decode cX8_taxOne 16 = .ok (.iconst (-1), 1) := by decide +kernel
theorem dX8_taxOne_17 : decode cX8_taxOne 17 = .ok (.ireturn, 1) := by decide +kernel
theorem dX8_taxOne_18 : decode cX8_taxOne 18 = .ok (.aload_n 0, 1) := by decide +kernel
theorem dX8_taxOne_19 : decode cX8_taxOne 19 = .ok (.iload_n 1, 1) := by decide +kernel
theorem dX8_taxOne_20 : decode cX8_taxOne 20 = .ok (.iload_n 2, 1) := by decide +kernel
theorem dX8_taxOne_21 : decode cX8_taxOne 21 = .ok (.iconst (-1), 1) := by decide +kernel
theorem dX8_taxOne_22 : decode cX8_taxOne 22 = .ok (.invokevirtual 101, 3) := by decide +kernel
theorem dX8_taxOne_25 : decode cX8_taxOne 25 = .ok (.aload_n 0, 1) := by decide +kernel
theorem dX8_taxOne_26 : decode cX8_taxOne 26 = .ok (.getfield 41, 3) := by decide +kernel
theorem dX8_taxOne_29 : decode cX8_taxOne 29 = .ok (.iload_n 2, 1) := by decide +kernel
theorem dX8_taxOne_30 : decode cX8_taxOne 30 = .ok (.aload_n 0, 1) := by decide +kernel
theorem dX8_taxOne_31 : decode cX8_taxOne 31 = .ok (.getfield 41, 3) := by decide +kernel
theorem dX8_taxOne_34 : decode cX8_taxOne 34 = .ok (.iload_n 2, 1) := by decide +kernel
theorem dX8_taxOne_35 : decode cX8_taxOne 35 = .ok (.iaload, 1) := by decide +kernel
theorem dX8_taxOne_36 : decode cX8_taxOne 36 = .ok (.iconst 1, 1) := by decide +kernel
theorem dX8_taxOne_37 : decode cX8_taxOne 37 = .ok (.iadd, 1) := by decide +kernel
theorem dX8_taxOne_38 : decode cX8_taxOne 38 = .ok (.sipush 999, 3) := by decide +kernel
theorem dX8_taxOne_41 : decode cX8_taxOne 41 = .ok (.invokestatic 116, 3) := by decide +kernel
theorem dX8_taxOne_44 : decode cX8_taxOne 44 = .ok (.iastore, 1) := by decide +kernel
theorem dX8_taxOne_45 : decode cX8_taxOne 45 = .ok (.aload_n 0, 1) := by decide +kernel
theorem dX8_taxOne_46 : decode cX8_taxOne 46 = .ok (.iload_n 2, 1) := by decide +kernel
theorem dX8_taxOne_47 : decode cX8_taxOne 47 = .ok (.invokevirtual 84, 3) := by decide +kernel
theorem dX8_taxOne_50 : decode cX8_taxOne 50 = .ok (.ireturn, 1) := by decide +kernel
theorem dX8_dealFault_0 : decode cX8_dealFault 0 = .ok (.lload_n 1, 1) := by decide +kernel
theorem dX8_dealFault_1 : decode cX8_dealFault 1 = .ok (.ldc2_w 119, 3) := by decide +kernel
theorem dX8_dealFault_4 : decode cX8_dealFault 4 = .ok (.ldiv, 1) := by decide +kernel
theorem dX8_dealFault_5 : decode cX8_dealFault 5 = .ok (.lstore_n 3, 1) := by decide +kernel
theorem dX8_dealFault_6 : decode cX8_dealFault 6 = .ok (.lload_n 1, 1) := by decide +kernel
theorem dX8_dealFault_7 : decode cX8_dealFault 7 = .ok (.ldc2_w 121, 3) := by decide +kernel
theorem dX8_dealFault_10 : decode cX8_dealFault 10 = .ok (.ldiv, 1) := by decide +kernel
theorem dX8_dealFault_11 : decode cX8_dealFault 11 = .ok (.ldc2_w 123, 3) := by decide +kernel
theorem dX8_dealFault_14 : decode cX8_dealFault 14 = .ok (.lrem, 1) := by decide +kernel
theorem dX8_dealFault_15 : decode cX8_dealFault 15 = .ok (.lstore 5, 2) := by decide +kernel
theorem dX8_dealFault_17 : decode cX8_dealFault 17 = .ok (.aload_n 0, 1) := by decide +kernel
theorem dX8_dealFault_18 : decode cX8_dealFault 18 = .ok (.lload_n 1, 1) := by decide +kernel
theorem dX8_dealFault_19 : decode cX8_dealFault 19 = .ok (.ldc2_w 121, 3) := by decide +kernel
theorem dX8_dealFault_22 : decode cX8_dealFault 22 = .ok (.lrem, 1) := by decide +kernel
theorem dX8_dealFault_23 : decode cX8_dealFault 23 = .ok (.l2i, 1) := by decide +kernel
theorem dX8_dealFault_24 : decode cX8_dealFault 24 = .ok (.invokevirtual 125, 3) := by decide +kernel
theorem dX8_dealFault_27 : decode cX8_dealFault 27 = .ok (.istore 7, 2) := by decide +kernel
theorem dX8_dealFault_29 : decode cX8_dealFault 29 = .ok (.lload_n 1, 1) := by decide +kernel
theorem dX8_dealFault_30 : decode cX8_dealFault 30 = .ok (.lconst 0, 1) := by decide +kernel
theorem dX8_dealFault_31 : decode cX8_dealFault 31 = .ok (.lcmp, 1) := by decide +kernel
theorem dX8_dealFault_32 : decode cX8_dealFault 32 = .ok (.ifCond .lt 37, 3) := by decide +kernel
theorem dX8_dealFault_35 : decode cX8_dealFault 35 = .ok (.lload_n 3, 1) := by decide +kernel
theorem dX8_dealFault_36 : decode cX8_dealFault 36 = .ok (.aload_n 0, 1) := by decide +kernel
theorem dX8_dealFault_37 : decode cX8_dealFault 37 = .ok (.getfield 18, 3) := by decide +kernel
theorem dX8_dealFault_40 : decode cX8_dealFault 40 = .ok (.i2l, 1) := by decide +kernel
theorem dX8_dealFault_41 : decode cX8_dealFault 41 = .ok (.lcmp, 1) := by decide +kernel
theorem dX8_dealFault_42 : decode cX8_dealFault 42 = .ok (.ifCond .ge 27, 3) := by decide +kernel
theorem dX8_dealFault_45 : decode cX8_dealFault 45 = .ok (.lload 5, 2) := by decide +kernel
theorem dX8_dealFault_47 : decode cX8_dealFault 47 = .ok (.aload_n 0, 1) := by decide +kernel
theorem dX8_dealFault_48 : decode cX8_dealFault 48 = .ok (.getfield 18, 3) := by decide +kernel
theorem dX8_dealFault_51 : decode cX8_dealFault 51 = .ok (.i2l, 1) := by decide +kernel
theorem dX8_dealFault_52 : decode cX8_dealFault 52 = .ok (.lcmp, 1) := by decide +kernel
theorem dX8_dealFault_53 : decode cX8_dealFault 53 = .ok (.ifCond .ge 16, 3) := by decide +kernel
theorem dX8_dealFault_56 : decode cX8_dealFault 56 = .ok (.lload_n 3, 1) := by decide +kernel
theorem dX8_dealFault_57 : decode cX8_dealFault 57 = .ok (.lload 5, 2) := by decide +kernel
theorem dX8_dealFault_59 : decode cX8_dealFault 59 = .ok (.lcmp, 1) := by decide +kernel
theorem dX8_dealFault_60 : decode cX8_dealFault 60 = .ok (.ifCond .eq 9, 3) := by decide +kernel
theorem dX8_dealFault_63 : decode cX8_dealFault 63 = .ok (.iload 7, 2) := by decide +kernel
theorem dX8_dealFault_65 : decode cX8_dealFault 65 = .ok (.iconst (-1), 1) := by decide +kernel
theorem dX8_dealFault_66 : decode cX8_dealFault 66 = .ok (.if_icmp .ne 5, 3) := by decide +kernel
theorem dX8_dealFault_69 : decode cX8_dealFault 69 = .ok (.iconst 1, 1) := by decide +kernel
theorem dX8_dealFault_70 : decode cX8_dealFault 70 = .ok (.ireturn, 1) := by decide +kernel
theorem dX8_dealFault_71 : decode cX8_dealFault 71 = .ok (.aload_n 0, 1) := by decide +kernel
theorem dX8_dealFault_72 : decode cX8_dealFault 72 = .ok (.lload_n 3, 1) := by decide +kernel
theorem dX8_dealFault_73 : decode cX8_dealFault 73 = .ok (.l2i, 1) := by decide +kernel
theorem dX8_dealFault_74 : decode cX8_dealFault 74 = .ok (.iload 7, 2) := by decide +kernel
theorem dX8_dealFault_76 : decode cX8_dealFault 76 = .ok (.invokevirtual 69, 3) := by decide +kernel
theorem dX8_dealFault_79 : decode cX8_dealFault 79 = .ok (.ifCond .ne 5, 3) := by decide +kernel
theorem dX8_dealFault_82 : decode cX8_dealFault 82 = .ok (.iconst 2, 1) := by decide +kernel
theorem dX8_dealFault_83 : decode cX8_dealFault 83 = .ok (.ireturn, 1) := by decide +kernel
theorem dX8_dealFault_84 : decode cX8_dealFault 84 = .ok (.aload_n 0, 1) := by decide +kernel
theorem dX8_dealFault_85 : decode cX8_dealFault 85 = .ok (.lload 5, 2) := by decide +kernel
theorem dX8_dealFault_87 : decode cX8_dealFault 87 = .ok (.l2i, 1) := by decide +kernel
theorem dX8_dealFault_88 : decode cX8_dealFault 88 = .ok (.invokevirtual 72, 3) := by decide +kernel
theorem dX8_dealFault_91 : decode cX8_dealFault 91 = .ok (.bipush 9, 2) := by decide +kernel
theorem dX8_dealFault_93 : decode cX8_dealFault 93 = .ok (.if_icmp .lt 7, 3) := by decide +kernel
theorem dX8_dealFault_96 : decode cX8_dealFault 96 = .ok (.iconst 3, 1) := by decide +kernel
theorem dX8_dealFault_97 : decode cX8_dealFault 97 = .ok (.goto 4, 3) := by decide +kernel
theorem dX8_dealFault_100 : decode cX8_dealFault 100 = .ok (.iconst 0, 1) := by decide +kernel
theorem dX8_dealFault_101 : decode cX8_dealFault 101 = .ok (.ireturn, 1) := by decide +kernel
theorem dX8_makeDeals_0 : decode cX8_makeDeals 0 = .ok (.iconst 0, 1) := by decide +kernel
theorem dX8_makeDeals_1 : decode cX8_makeDeals 1 = .ok (.istore_n 2, 1) := by decide +kernel
theorem dX8_makeDeals_2 : decode cX8_makeDeals 2 = .ok (.iload_n 2, 1) := by decide +kernel
theorem dX8_makeDeals_3 : decode cX8_makeDeals 3 = .ok (.aload_n 1, 1) := by decide +kernel
theorem dX8_makeDeals_4 : decode cX8_makeDeals 4 = .ok (.getfield 128, 3) := by decide +kernel
theorem dX8_makeDeals_7 : decode cX8_makeDeals 7 = .ok (.if_icmp .ge 67, 3) := by decide +kernel
theorem dX8_makeDeals_10 : decode cX8_makeDeals 10 = .ok (.aload_n 1, 1) := by decide +kernel
theorem dX8_makeDeals_11 : decode cX8_makeDeals 11 = .ok (.iload_n 2, 1) := by decide +kernel
theorem dX8_makeDeals_12 : decode cX8_makeDeals 12 = .ok (.invokevirtual 132, 3) := by decide +kernel
theorem dX8_makeDeals_15 : decode cX8_makeDeals 15 = .ok (.lstore_n 3, 1) := by decide +kernel
theorem dX8_makeDeals_16 : decode cX8_makeDeals 16 = .ok (.aload_n 0, 1) := by decide +kernel
theorem dX8_makeDeals_17 : decode cX8_makeDeals 17 = .ok (.lload_n 3, 1) := by decide +kernel
theorem dX8_makeDeals_18 : decode cX8_makeDeals 18 = .ok (.invokevirtual 135, 3) := by decide +kernel
theorem dX8_makeDeals_21 : decode cX8_makeDeals 21 = .ok (.ifCond .eq 5, 3) := by decide +kernel
theorem dX8_makeDeals_24 : decode cX8_makeDeals 24 = .ok (.iload_n 2, 1) := by decide +kernel
theorem dX8_makeDeals_25 : decode cX8_makeDeals 25 = .ok (.ireturn, 1) := by decide +kernel
theorem dX8_makeDeals_26 : decode cX8_makeDeals 26 = .ok (.aload_n 0, 1) := by decide +kernel
theorem dX8_makeDeals_27 : decode cX8_makeDeals 27 = .ok (.lload_n 3, 1) := by decide +kernel
theorem dX8_makeDeals_28 : decode cX8_makeDeals 28 = .ok (.ldc2_w 121, 3) := by decide +kernel
theorem dX8_makeDeals_31 : decode cX8_makeDeals 31 = .ok (.lrem, 1) := by decide +kernel
theorem dX8_makeDeals_32 : decode cX8_makeDeals 32 = .ok (.l2i, 1) := by decide +kernel
theorem dX8_makeDeals_33 : decode cX8_makeDeals 33 = .ok (.invokevirtual 125, 3) := by decide +kernel
theorem dX8_makeDeals_36 : decode cX8_makeDeals 36 = .ok (.istore 5, 2) := by decide +kernel
theorem dX8_makeDeals_38 : decode cX8_makeDeals 38 = .ok (.aload_n 0, 1) := by decide +kernel
theorem dX8_makeDeals_39 : decode cX8_makeDeals 39 = .ok (.lload_n 3, 1) := by decide +kernel
theorem dX8_makeDeals_40 : decode cX8_makeDeals 40 = .ok (.ldc2_w 119, 3) := by decide +kernel
theorem dX8_makeDeals_43 : decode cX8_makeDeals 43 = .ok (.ldiv, 1) := by decide +kernel
theorem dX8_makeDeals_44 : decode cX8_makeDeals 44 = .ok (.l2i, 1) := by decide +kernel
theorem dX8_makeDeals_45 : decode cX8_makeDeals 45 = .ok (.iload 5, 2) := by decide +kernel
theorem dX8_makeDeals_47 : decode cX8_makeDeals 47 = .ok (.iconst (-1), 1) := by decide +kernel
theorem dX8_makeDeals_48 : decode cX8_makeDeals 48 = .ok (.invokevirtual 101, 3) := by decide +kernel
theorem dX8_makeDeals_51 : decode cX8_makeDeals 51 = .ok (.aload_n 0, 1) := by decide +kernel
theorem dX8_makeDeals_52 : decode cX8_makeDeals 52 = .ok (.lload_n 3, 1) := by decide +kernel
theorem dX8_makeDeals_53 : decode cX8_makeDeals 53 = .ok (.ldc2_w 121, 3) := by decide +kernel
theorem dX8_makeDeals_56 : decode cX8_makeDeals 56 = .ok (.ldiv, 1) := by decide +kernel
theorem dX8_makeDeals_57 : decode cX8_makeDeals 57 = .ok (.ldc2_w 123, 3) := by decide +kernel
theorem dX8_makeDeals_60 : decode cX8_makeDeals 60 = .ok (.lrem, 1) := by decide +kernel
theorem dX8_makeDeals_61 : decode cX8_makeDeals 61 = .ok (.l2i, 1) := by decide +kernel
theorem dX8_makeDeals_62 : decode cX8_makeDeals 62 = .ok (.iload 5, 2) := by decide +kernel
theorem dX8_makeDeals_64 : decode cX8_makeDeals 64 = .ok (.iconst 1, 1) := by decide +kernel
theorem dX8_makeDeals_65 : decode cX8_makeDeals 65 = .ok (.invokevirtual 101, 3) := by decide +kernel
theorem dX8_makeDeals_68 : decode cX8_makeDeals 68 = .ok (.iinc 2 1, 3) := by decide +kernel
theorem dX8_makeDeals_71 : decode cX8_makeDeals 71 = .ok (.goto (-69), 3) := by decide +kernel
theorem dX8_makeDeals_74 : decode cX8_makeDeals 74 = .ok (.aload_n 1, 1) := by decide +kernel
theorem dX8_makeDeals_75 : decode cX8_makeDeals 75 = .ok (.getfield 128, 3) := by decide +kernel
theorem dX8_makeDeals_78 : decode cX8_makeDeals 78 = .ok (.ireturn, 1) := by decide +kernel
theorem dX9_init_0 : decode cX9_init 0 = .ok (.aload_n 0, 1) := by decide +kernel
theorem dX9_init_1 : decode cX9_init 1 = .ok (.invokespecial 3, 3) := by decide +kernel
theorem dX9_init_4 : decode cX9_init 4 = .ok (.aload_n 0, 1) := by decide +kernel
theorem dX9_init_5 : decode cX9_init 5 = .ok (.iconst (-1), 1) := by decide +kernel
theorem dX9_init_6 : decode cX9_init 6 = .ok (.putfield 9, 3) := by decide +kernel
theorem dX9_init_9 : decode cX9_init 9 = .ok (.aload_n 0, 1) := by decide +kernel
theorem dX9_init_10 : decode cX9_init 10 = .ok (.iconst 0, 1) := by decide +kernel
theorem dX9_init_11 : decode cX9_init 11 = .ok (.putfield 15, 3) := by decide +kernel
theorem dX9_init_14 : decode cX9_init 14 = .ok (.aload_n 0, 1) := by decide +kernel
theorem dX9_init_15 : decode cX9_init 15 = .ok (.bipush 30, 2) := by decide +kernel
theorem dX9_init_17 : decode cX9_init 17 = .ok (.newarray .long, 2) := by decide +kernel
theorem dX9_init_19 : decode cX9_init 19 = .ok (.putfield 18, 3) := by decide +kernel
theorem dX9_init_22 : decode cX9_init 22 = .ok (.return_, 1) := by decide +kernel
theorem dX9_layRow_0 : decode cX9_layRow 0 = .ok (.aload_n 0, 1) := by decide +kernel
theorem dX9_layRow_1 : decode cX9_layRow 1 = .ok (.iload_n 1, 1) := by decide +kernel
theorem dX9_layRow_2 : decode cX9_layRow 2 = .ok (.putfield 9, 3) := by decide +kernel
theorem dX9_layRow_5 : decode cX9_layRow 5 = .ok (.aload_n 0, 1) := by decide +kernel
theorem dX9_layRow_6 : decode cX9_layRow 6 = .ok (.iconst 0, 1) := by decide +kernel
theorem dX9_layRow_7 : decode cX9_layRow 7 = .ok (.iload_n 2, 1) := by decide +kernel
theorem dX9_layRow_8 : decode cX9_layRow 8 = .ok (.bipush 30, 2) := by decide +kernel
theorem dX9_layRow_10 : decode cX9_layRow 10 = .ok (.invokestatic 22, 3) := by decide +kernel
theorem dX9_layRow_13 : decode cX9_layRow 13 = .ok (.invokestatic 28, 3) := by decide +kernel
theorem dX9_layRow_16 : decode cX9_layRow 16 = .ok (.putfield 15, 3) := by decide +kernel
theorem dX9_layRow_19 : decode cX9_layRow 19 = .ok (.aload_n 0, 1) := by decide +kernel
theorem dX9_layRow_20 : decode cX9_layRow 20 = .ok (.getfield 18, 3) := by decide +kernel
theorem dX9_layRow_23 : decode cX9_layRow 23 = .ok (.lconst 0, 1) := by decide +kernel
theorem dX9_layRow_24 : decode cX9_layRow 24 = .ok (.invokestatic 31, 3) := by decide +kernel
theorem dX9_layRow_27 : decode cX9_layRow 27 = .ok (.return_, 1) := by decide +kernel
theorem dX9_at_0 : decode cX9_at 0 = .ok (.iload_n 1, 1) := by decide +kernel
theorem dX9_at_1 : decode cX9_at 1 = .ok (.ifCond .lt 20, 3) := by decide +kernel
theorem dX9_at_4 : decode cX9_at 4 = .ok (.iload_n 1, 1) := by decide +kernel
theorem dX9_at_5 : decode cX9_at 5 = .ok (.aload_n 0, 1) := by decide +kernel
theorem dX9_at_6 : decode cX9_at 6 = .ok (.getfield 15, 3) := by decide +kernel
theorem dX9_at_9 : decode cX9_at 9 = .ok (.if_icmp .ge 12, 3) := by decide +kernel
theorem dX9_at_12 : decode cX9_at 12 = .ok (.aload_n 0, 1) := by decide +kernel
theorem dX9_at_13 : decode cX9_at 13 = .ok (.getfield 18, 3) := by decide +kernel
theorem dX9_at_16 : decode cX9_at 16 = .ok (.iload_n 1, 1) := by decide +kernel
theorem dX9_at_17 : decode cX9_at 17 = .ok (.laload, 1) := by decide +kernel
theorem dX9_at_18 : decode cX9_at 18 = .ok (.goto 4, 3) := by decide +kernel
theorem dX9_at_21 : decode cX9_at 21 = .ok (.lconst 0, 1) := by decide +kernel
theorem dX9_at_22 : decode cX9_at 22 = .ok (.lreturn, 1) := by decide +kernel
theorem dX9_put_0 : decode cX9_put 0 = .ok (.aload_n 0, 1) := by decide +kernel
theorem dX9_put_1 : decode cX9_put 1 = .ok (.lload_n 2, 1) := by decide +kernel
theorem dX9_put_2 : decode cX9_put 2 = .ok (.invokevirtual 37, 3) := by decide +kernel
theorem dX9_put_5 : decode cX9_put 5 = .ok (.lstore 4, 2) := by decide +kernel
theorem dX9_put_7 : decode cX9_put 7 = .ok (.iload_n 1, 1) := by decide +kernel
theorem dX9_put_8 : decode cX9_put 8 = .ok (.ifCond .lt 19, 3) := by decide +kernel
theorem dX9_put_11 : decode cX9_put 11 = .ok (.iload_n 1, 1) := by decide +kernel
theorem dX9_put_12 : decode cX9_put 12 = .ok (.aload_n 0, 1) := by decide +kernel
theorem dX9_put_13 : decode cX9_put 13 = .ok (.getfield 15, 3) := by decide +kernel
theorem dX9_put_16 : decode cX9_put 16 = .ok (.if_icmp .ge 11, 3) := by decide +kernel
theorem dX9_put_19 : decode cX9_put 19 = .ok (.aload_n 0, 1) := by decide +kernel
theorem dX9_put_20 : decode cX9_put 20 = .ok (.getfield 18, 3) := by decide +kernel
theorem dX9_put_23 : decode cX9_put 23 = .ok (.iload_n 1, 1) := by decide +kernel
theorem dX9_put_24 : decode cX9_put 24 = .ok (.lload 4, 2) := by decide +kernel
theorem dX9_put_26 : decode cX9_put 26 = .ok (.lastore, 1) := by decide +kernel
theorem dX9_put_27 : decode cX9_put 27 = .ok (.lload 4, 2) := by decide +kernel
theorem dX9_put_29 : decode cX9_put 29 = .ok (.lreturn, 1) := by decide +kernel
theorem dX9_cutToSort_0 : decode cX9_cutToSort 0 = .ok (.aload_n 0, 1) := by decide +kernel
theorem dX9_cutToSort_1 : decode cX9_cutToSort 1 = .ok (.getfield 9, 3) := by decide +kernel
theorem dX9_cutToSort_4 : decode cX9_cutToSort 4 = .ok (.tableswitch 42 0 2 #[28, 33, 38], 28) := by decide +kernel
theorem dX9_cutToSort_32 : decode cX9_cutToSort 32 = .ok (.lload_n 1, 1) := by decide +kernel
theorem dX9_cutToSort_33 : decode cX9_cutToSort 33 = .ok (.l2i, 1) := by decide +kernel
theorem dX9_cutToSort_34 : decode cX9_cutToSort 34 = .ok (.i2b, 1) := by decide +kernel
theorem dX9_cutToSort_35 : decode cX9_cutToSort 35 = .ok (.i2l, 1) := by decide +kernel
theorem dX9_cutToSort_36 : decode cX9_cutToSort 36 = .ok (.lreturn, 1) := by decide +kernel
theorem dX9_cutToSort_37 : decode cX9_cutToSort 37 = .ok (.lload_n 1, 1) := by decide +kernel
theorem dX9_cutToSort_38 : decode cX9_cutToSort 38 = .ok (.l2i, 1) := by decide +kernel
theorem dX9_cutToSort_39 : decode cX9_cutToSort 39 = .ok (.i2s, 1) := by decide +kernel
theorem dX9_cutToSort_40 : decode cX9_cutToSort 40 = .ok (.i2l, 1) := by decide +kernel
theorem dX9_cutToSort_41 : decode cX9_cutToSort 41 = .ok (.lreturn, 1) := by decide +kernel
theorem dX9_cutToSort_42 : decode cX9_cutToSort 42 = .ok (.lload_n 1, 1) := by decide +kernel
theorem dX9_cutToSort_43 : decode cX9_cutToSort 43 = .ok (.l2i, 1) := by decide +kernel
theorem dX9_cutToSort_44 : decode cX9_cutToSort 44 = .ok (.i2l, 1) := by decide +kernel
theorem dX9_cutToSort_45 : decode cX9_cutToSort 45 = .ok (.lreturn, 1) := by decide +kernel
theorem dX9_cutToSort_46 : decode cX9_cutToSort 46 = .ok (.lload_n 1, 1) := by decide +kernel
theorem dX9_cutToSort_47 : decode cX9_cutToSort 47 = .ok (.lreturn, 1) := by decide +kernel
theorem dX9_tellsRests_0 : decode cX9_tellsRests 0 = .ok (.iconst 0, 1) := by decide +kernel
theorem dX9_tellsRests_1 : decode cX9_tellsRests 1 = .ok (.istore_n 1, 1) := by decide +kernel
theorem dX9_tellsRests_2 : decode cX9_tellsRests 2 = .ok (.iload_n 1, 1) := by decide +kernel
theorem dX9_tellsRests_3 : decode cX9_tellsRests 3 = .ok (.aload_n 0, 1) := by decide +kernel
theorem dX9_tellsRests_4 : decode cX9_tellsRests 4 = .ok (.getfield 15, 3) := by decide +kernel
theorem dX9_tellsRests_7 : decode cX9_tellsRests 7 = .ok (.if_icmp .ge 63, 3) := by decide +kernel
theorem dX9_tellsRests_10 : decode cX9_tellsRests 10 = .ok (.aload_n 0, 1) := by decide +kernel
theorem dX9_tellsRests_11 : decode cX9_tellsRests 11 = .ok (.iload_n 1, 1) := by decide +kernel
theorem dX9_tellsRests_12 : decode cX9_tellsRests 12 = .ok (.invokevirtual 41, 3) := by decide +kernel
theorem dX9_tellsRests_15 : decode cX9_tellsRests 15 = .ok (.ldc2_w 45, 3) := by decide +kernel
theorem dX9_tellsRests_18 : decode cX9_tellsRests 18 = .ok (.lcmp, 1) := by decide +kernel
theorem dX9_tellsRests_19 : decode cX9_tellsRests 19 = .ok (.ifCond .lt 43, 3) := by decide +kernel
theorem dX9_tellsRests_22 : decode cX9_tellsRests 22 = .ok (.aload_n 0, 1) := by decide +kernel
theorem dX9_tellsRests_23 : decode cX9_tellsRests 23 = .ok (.iload_n 1, 1) := by decide +kernel
theorem dX9_tellsRests_24 : decode cX9_tellsRests 24 = .ok (.invokevirtual 41, 3) := by decide +kernel
theorem dX9_tellsRests_27 : decode cX9_tellsRests 27 = .ok (.ldc2_w 47, 3) := by decide +kernel
theorem dX9_tellsRests_30 : decode cX9_tellsRests 30 = .ok (.lcmp, 1) := by decide +kernel
theorem dX9_tellsRests_31 : decode cX9_tellsRests 31 = .ok (.ifCond .gt 31, 3) := by decide +kernel
theorem dX9_tellsRests_34 : decode cX9_tellsRests 34 = .ok (.aload_n 0, 1) := by decide +kernel
theorem dX9_tellsRests_35 : decode cX9_tellsRests 35 = .ok (.iload_n 1, 1) := by decide +kernel
theorem dX9_tellsRests_36 : decode cX9_tellsRests 36 = .ok (.iconst 1, 1) := by decide +kernel
theorem dX9_tellsRests_37 : decode cX9_tellsRests 37 = .ok (.iadd, 1) := by decide +kernel
theorem dX9_tellsRests_38 : decode cX9_tellsRests 38 = .ok (.invokevirtual 41, 3) := by decide +kernel
theorem dX9_tellsRests_41 : decode cX9_tellsRests 41 = .ok (.lconst 0, 1) := by decide +kernel
theorem dX9_tellsRests_42 : decode cX9_tellsRests 42 = .ok (.lcmp, 1) := by decide +kernel
theorem dX9_tellsRests_43 : decode cX9_tellsRests 43 = .ok (.ifCond .lt 19, 3) := by decide +kernel
theorem dX9_tellsRests_46 : decode cX9_tellsRests 46 = .ok (.aload_n 0, 1) := by decide +kernel
theorem dX9_tellsRests_47 : decode cX9_tellsRests 47 = .ok (.iload_n 1, 1) := by decide +kernel
theorem dX9_tellsRests_48 : decode cX9_tellsRests 48 = .ok (.iconst 1, 1) := by decide +kernel
theorem dX9_tellsRests_49 : decode cX9_tellsRests 49 = .ok (.iadd, 1) := by decide +kernel
theorem dX9_tellsRests_50 : decode cX9_tellsRests 50 = .ok (.invokevirtual 41, 3) := by decide +kernel
theorem dX9_tellsRests_53 : decode cX9_tellsRests 53 = .ok (.aload_n 0, 1) := by decide +kernel
theorem dX9_tellsRests_54 : decode cX9_tellsRests 54 = .ok (.iload_n 1, 1) := by decide +kernel
theorem dX9_tellsRests_55 : decode cX9_tellsRests 55 = .ok (.invokevirtual 41, 3) := by decide +kernel
theorem dX9_tellsRests_58 : decode cX9_tellsRests 58 = .ok (.lcmp, 1) := by decide +kernel
theorem dX9_tellsRests_59 : decode cX9_tellsRests 59 = .ok (.ifCond .lt 5, 3) := by decide +kernel
theorem dX9_tellsRests_62 : decode cX9_tellsRests 62 = .ok (.iconst 0, 1) := by decide +kernel
theorem dX9_tellsRests_63 : decode cX9_tellsRests 63 = .ok (.ireturn, 1) := by decide +kernel
theorem dX9_tellsRests_64 : decode cX9_tellsRests 64 = .ok (.iinc 1 2, 3) := by decide +kernel
theorem dX9_tellsRests_67 : decode cX9_tellsRests 67 = .ok (.goto (-65), 3) := by decide +kernel
theorem dX9_tellsRests_70 : decode cX9_tellsRests 70 = .ok (.aload_n 0, 1) := by decide +kernel
theorem dX9_tellsRests_71 : decode cX9_tellsRests 71 = .ok (.getfield 15, 3) := by decide +kernel
theorem dX9_tellsRests_74 : decode cX9_tellsRests 74 = .ok (.iconst 2, 1) := by decide +kernel
theorem dX9_tellsRests_75 : decode cX9_tellsRests 75 = .ok (.irem, 1) := by decide +kernel
theorem dX9_tellsRests_76 : decode cX9_tellsRests 76 = .ok (.ifCond .ne 7, 3) := by decide +kernel
theorem dX9_tellsRests_79 : decode cX9_tellsRests 79 = .ok (.iconst 1, 1) := by decide +kernel
theorem dX9_tellsRests_80 : decode cX9_tellsRests 80 = .ok (.goto 4, 3) := by decide +kernel
theorem dX9_tellsRests_83 : decode cX9_tellsRests 83 = .ok (.iconst 0, 1) := by decide +kernel
theorem dX9_tellsRests_84 : decode cX9_tellsRests 84 = .ok (.ireturn, 1) := by decide +kernel
theorem dX9_allRestsOf_0 : decode cX9_allRestsOf 0 = .ok (.iconst 0, 1) := by decide +kernel
theorem dX9_allRestsOf_1 : decode cX9_allRestsOf 1 = .ok (.istore_n 3, 1) := by decide +kernel
theorem dX9_allRestsOf_2 : decode cX9_allRestsOf 2 = .ok (.iload_n 3, 1) := by decide +kernel
theorem dX9_allRestsOf_3 : decode cX9_allRestsOf 3 = .ok (.aload_n 0, 1) := by decide +kernel
theorem dX9_allRestsOf_4 : decode cX9_allRestsOf 4 = .ok (.getfield 15, 3) := by decide +kernel
theorem dX9_allRestsOf_7 : decode cX9_allRestsOf 7 = .ok (.if_icmp .ge 39, 3) := by decide +kernel
theorem dX9_allRestsOf_10 : decode cX9_allRestsOf 10 = .ok (.aload_n 0, 1) := by decide +kernel
theorem dX9_allRestsOf_11 : decode cX9_allRestsOf 11 = .ok (.iload_n 3, 1) := by decide +kernel
theorem dX9_allRestsOf_12 : decode cX9_allRestsOf 12 = .ok (.invokevirtual 41, 3) := by decide +kernel
theorem dX9_allRestsOf_15 : decode cX9_allRestsOf 15 = .ok (.lconst 1, 1) := by decide +kernel
theorem dX9_allRestsOf_16 : decode cX9_allRestsOf 16 = .ok (.lcmp, 1) := by decide +kernel
theorem dX9_allRestsOf_17 : decode cX9_allRestsOf 17 = .ok (.ifCond .le 23, 3) := by decide +kernel
theorem dX9_allRestsOf_20 : decode cX9_allRestsOf 20 = .ok (.lload_n 1, 1) := by decide +kernel
theorem dX9_allRestsOf_21 : decode cX9_allRestsOf 21 = .ok (.aload_n 0, 1) := by decide +kernel
theorem dX9_allRestsOf_22 : decode cX9_allRestsOf 22 = .ok (.iload_n 3, 1) := by decide +kernel
theorem dX9_allRestsOf_23 : decode cX9_allRestsOf 23 = .ok (.invokevirtual 41, 3) := by decide +kernel
theorem dX9_allRestsOf_26 : decode cX9_allRestsOf 26 = .ok (.lrem, 1) := by decide +kernel
theorem dX9_allRestsOf_27 : decode cX9_allRestsOf 27 = .ok (.aload_n 0, 1) := by decide +kernel
theorem dX9_allRestsOf_28 : decode cX9_allRestsOf 28 = .ok (.iload_n 3, 1) := by decide +kernel
theorem dX9_allRestsOf_29 : decode cX9_allRestsOf 29 = .ok (.iconst 1, 1) := by decide +kernel
theorem dX9_allRestsOf_30 : decode cX9_allRestsOf 30 = .ok (.iadd, 1) := by decide +kernel
theorem dX9_allRestsOf_31 : decode cX9_allRestsOf 31 = .ok (.invokevirtual 41, 3) := by decide +kernel
theorem dX9_allRestsOf_34 : decode cX9_allRestsOf 34 = .ok (.lcmp, 1) := by decide +kernel
theorem dX9_allRestsOf_35 : decode cX9_allRestsOf 35 = .ok (.ifCond .eq 5, 3) := by decide +kernel
theorem dX9_allRestsOf_38 : decode cX9_allRestsOf 38 = .ok (.iconst 0, 1) := by decide +kernel
theorem dX9_allRestsOf_39 : decode cX9_allRestsOf 39 = .ok (.ireturn, 1) := by decide +kernel
theorem dX9_allRestsOf_40 : decode cX9_allRestsOf 40 = .ok (.iinc 3 2, 3) := by decide +kernel
theorem dX9_allRestsOf_43 : decode cX9_allRestsOf 43 = .ok (.goto (-41), 3) := by decide +kernel
theorem dX9_allRestsOf_46 : decode cX9_allRestsOf 46 = .ok (.iconst 1, 1) := by decide +kernel
theorem dX9_allRestsOf_47 : decode cX9_allRestsOf 47 = .ok (.ireturn, 1) := by decide +kernel
theorem dX10_init_0 : decode cX10_init 0 = .ok (.aload_n 0, 1) := by decide +kernel
theorem dX10_init_1 : decode cX10_init 1 = .ok (.invokespecial 1, 3) := by decide +kernel
theorem dX10_init_4 : decode cX10_init 4 = .ok (.aload_n 0, 1) := by decide +kernel
theorem dX10_init_5 : decode cX10_init 5 = .ok (.sipush 700, 3) := by decide +kernel
theorem dX10_init_8 : decode cX10_init 8 = .ok (.newarray .int, 2) := by decide +kernel
theorem dX10_init_10 : decode cX10_init 10 = .ok (.putfield 9, 3) := by decide +kernel
theorem dX10_init_13 : decode cX10_init 13 = .ok (.aload_n 0, 1) := by decide +kernel
theorem dX10_init_14 : decode cX10_init 14 = .ok (.iconst 0, 1) := by decide +kernel
theorem dX10_init_15 : decode cX10_init 15 = .ok (.putfield 13, 3) := by decide +kernel
theorem dX10_init_18 : decode cX10_init 18 = .ok (.aload_n 0, 1) := by decide +kernel
theorem dX10_init_19 : decode cX10_init 19 = .ok (.iconst 0, 1) := by decide +kernel
theorem dX10_init_20 : decode cX10_init 20 = .ok (.putfield 17, 3) := by decide +kernel
theorem dX10_init_23 : decode cX10_init 23 = .ok (.aload_n 0, 1) := by decide +kernel
theorem dX10_init_24 : decode cX10_init 24 = .ok (.iconst (-1), 1) := by decide +kernel
theorem dX10_init_25 : decode cX10_init 25 = .ok (.putfield 20, 3) := by decide +kernel
theorem dX10_init_28 : decode cX10_init 28 = .ok (.aload_n 0, 1) := by decide +kernel
theorem dX10_init_29 : decode cX10_init 29 = .ok (.new 23, 3) := by decide +kernel
theorem dX10_init_32 : decode cX10_init 32 = .ok (.dup, 1) := by decide +kernel
theorem dX10_init_33 : decode cX10_init 33 = .ok (.invokespecial 25, 3) := by decide +kernel
theorem dX10_init_36 : decode cX10_init 36 = .ok (.putfield 26, 3) := by decide +kernel
theorem dX10_init_39 : decode cX10_init 39 = .ok (.aload_n 0, 1) := by decide +kernel
theorem dX10_init_40 : decode cX10_init 40 = .ok (.new 23, 3) := by decide +kernel
theorem dX10_init_43 : decode cX10_init 43 = .ok (.dup, 1) := by decide +kernel
theorem dX10_init_44 : decode cX10_init 44 = .ok (.invokespecial 25, 3) := by decide +kernel
theorem dX10_init_47 : decode cX10_init 47 = .ok (.putfield 30, 3) := by decide +kernel
theorem dX10_init_50 : decode cX10_init 50 = .ok (.aload_n 0, 1) := by decide +kernel
theorem dX10_init_51 : decode cX10_init 51 = .ok (.iconst 3, 1) := by decide +kernel
theorem dX10_init_52 : decode cX10_init 52 = .ok (.anewarray 23, 3) := by decide +kernel
theorem dX10_init_55 : decode cX10_init 55 = .ok (.putfield 33, 3) := by decide +kernel
theorem dX10_init_58 : decode cX10_init 58 = .ok (.aload_n 0, 1) := by decide +kernel
theorem dX10_init_59 : decode cX10_init 59 = .ok (.iconst 3, 1) := by decide +kernel
theorem dX10_init_60 : decode cX10_init 60 = .ok (.newarray .boolean, 2) := by decide +kernel
theorem dX10_init_62 : decode cX10_init 62 = .ok (.putfield 37, 3) := by decide +kernel
theorem dX10_init_65 : decode cX10_init 65 = .ok (.aload_n 0, 1) := by decide +kernel
theorem dX10_init_66 : decode cX10_init 66 = .ok (.iconst 4, 1) := by decide +kernel
theorem dX10_init_67 : decode cX10_init 67 = .ok (.anewarray 41, 3) := by decide +kernel
theorem dX10_init_70 : decode cX10_init 70 = .ok (.putfield 43, 3) := by decide +kernel
theorem dX10_init_73 : decode cX10_init 73 = .ok (.aload_n 0, 1) := by decide +kernel
theorem dX10_init_74 : decode cX10_init 74 = .ok (.bipush 8, 2) := by decide +kernel
theorem dX10_init_76 : decode cX10_init 76 = .ok (.newarray .int, 2) := by decide +kernel
theorem dX10_init_78 : decode cX10_init 78 = .ok (.putfield 47, 3) := by decide +kernel
theorem dX10_init_81 : decode cX10_init 81 = .ok (.aload_n 0, 1) := by decide +kernel
theorem dX10_init_82 : decode cX10_init 82 = .ok (.new 50, 3) := by decide +kernel
theorem dX10_init_85 : decode cX10_init 85 = .ok (.dup, 1) := by decide +kernel
theorem dX10_init_86 : decode cX10_init 86 = .ok (.invokespecial 52, 3) := by decide +kernel
theorem dX10_init_89 : decode cX10_init 89 = .ok (.putfield 53, 3) := by decide +kernel
theorem dX10_init_92 : decode cX10_init 92 = .ok (.aload_n 0, 1) := by decide +kernel
theorem dX10_init_93 : decode cX10_init 93 = .ok (.new 57, 3) := by decide +kernel
theorem dX10_init_96 : decode cX10_init 96 = .ok (.dup, 1) := by decide +kernel
theorem dX10_init_97 : decode cX10_init 97 = .ok (.invokespecial 59, 3) := by decide +kernel
theorem dX10_init_100 : decode cX10_init 100 = .ok (.putfield 60, 3) := by decide +kernel
theorem dX10_init_103 : decode cX10_init 103 = .ok (.aload_n 0, 1) := by decide +kernel
theorem dX10_init_104 : decode cX10_init 104 = .ok (.new 64, 3) := by decide +kernel
theorem dX10_init_107 : decode cX10_init 107 = .ok (.dup, 1) := by decide +kernel
theorem dX10_init_108 : decode cX10_init 108 = .ok (.invokespecial 66, 3) := by decide +kernel
theorem dX10_init_111 : decode cX10_init 111 = .ok (.putfield 67, 3) := by decide +kernel
theorem dX10_init_114 : decode cX10_init 114 = .ok (.aload_n 0, 1) := by decide +kernel
theorem dX10_init_115 : decode cX10_init 115 = .ok (.new 71, 3) := by decide +kernel
theorem dX10_init_118 : decode cX10_init 118 = .ok (.dup, 1) := by decide +kernel
theorem dX10_init_119 : decode cX10_init 119 = .ok (.invokespecial 73, 3) := by decide +kernel
theorem dX10_init_122 : decode cX10_init 122 = .ok (.putfield 74, 3) := by decide +kernel
theorem dX10_init_125 : decode cX10_init 125 = .ok (.aload_n 0, 1) := by decide +kernel
theorem dX10_init_126 : decode cX10_init 126 = .ok (.new 78, 3) := by decide +kernel
theorem dX10_init_129 : decode cX10_init 129 = .ok (.dup, 1) := by decide +kernel
theorem dX10_init_130 : decode cX10_init 130 = .ok (.invokespecial 80, 3) := by decide +kernel
theorem dX10_init_133 : decode cX10_init 133 = .ok (.putfield 81, 3) := by decide +kernel
theorem dX10_init_136 : decode cX10_init 136 = .ok (.iconst 0, 1) := by decide +kernel
theorem dX10_init_137 : decode cX10_init 137 = .ok (.istore_n 1, 1) := by decide +kernel
theorem dX10_init_138 : decode cX10_init 138 = .ok (.iload_n 1, 1) := by decide +kernel
theorem dX10_init_139 : decode cX10_init 139 = .ok (.iconst 3, 1) := by decide +kernel
theorem dX10_init_140 : decode cX10_init 140 = .ok (.if_icmp .ge 22, 3) := by decide +kernel
theorem dX10_init_143 : decode cX10_init 143 = .ok (.aload_n 0, 1) := by decide +kernel
theorem dX10_init_144 : decode cX10_init 144 = .ok (.getfield 33, 3) := by decide +kernel
theorem dX10_init_147 : decode cX10_init 147 = .ok (.iload_n 1, 1) := by decide +kernel
theorem dX10_init_148 : decode cX10_init 148 = .ok (.new 23, 3) := by decide +kernel
theorem dX10_init_151 : decode cX10_init 151 = .ok (.dup, 1) := by decide +kernel
theorem dX10_init_152 : decode cX10_init 152 = .ok (.invokespecial 25, 3) := by decide +kernel
theorem dX10_init_155 : decode cX10_init 155 = .ok (.aastore, 1) := by decide +kernel
theorem dX10_init_156 : decode cX10_init 156 = .ok (.iinc 1 1, 3) := by decide +kernel
theorem dX10_init_159 : decode cX10_init 159 = .ok (.goto (-21), 3) := by decide +kernel
theorem dX10_init_162 : decode cX10_init 162 = .ok (.iconst 0, 1) := by decide +kernel
theorem dX10_init_163 : decode cX10_init 163 = .ok (.istore_n 1, 1) := by decide +kernel
theorem dX10_init_164 : decode cX10_init 164 = .ok (.iload_n 1, 1) := by decide +kernel
theorem dX10_init_165 : decode cX10_init 165 = .ok (.iconst 4, 1) := by decide +kernel
theorem dX10_init_166 : decode cX10_init 166 = .ok (.if_icmp .ge 22, 3) := by decide +kernel
theorem dX10_init_169 : decode cX10_init 169 = .ok (.aload_n 0, 1) := by decide +kernel
theorem dX10_init_170 : decode cX10_init 170 = .ok (.getfield 43, 3) := by decide +kernel
theorem dX10_init_173 : decode cX10_init 173 = .ok (.iload_n 1, 1) := by decide +kernel
theorem dX10_init_174 : decode cX10_init 174 = .ok (.new 41, 3) := by decide +kernel
theorem dX10_init_177 : decode cX10_init 177 = .ok (.dup, 1) := by decide +kernel
theorem dX10_init_178 : decode cX10_init 178 = .ok (.invokespecial 85, 3) := by decide +kernel
theorem dX10_init_181 : decode cX10_init 181 = .ok (.aastore, 1) := by decide +kernel
theorem dX10_init_182 : decode cX10_init 182 = .ok (.iinc 1 1, 3) := by decide +kernel
theorem dX10_init_185 : decode cX10_init 185 = .ok (.goto (-21), 3) := by decide +kernel
theorem dX10_init_188 : decode cX10_init 188 = .ok (.return_, 1) := by decide +kernel
theorem dX10_feed_0 : decode cX10_feed 0 = .ok (.aload_n 0, 1) := by decide +kernel
theorem dX10_feed_1 : decode cX10_feed 1 = .ok (.getfield 13, 3) := by decide +kernel
theorem dX10_feed_4 : decode cX10_feed 4 = .ok (.bipush 20, 2) := by decide +kernel
theorem dX10_feed_6 : decode cX10_feed 6 = .ok (.iadd, 1) := by decide +kernel
theorem dX10_feed_7 : decode cX10_feed 7 = .ok (.sipush 700, 3) := by decide +kernel
theorem dX10_feed_10 : decode cX10_feed 10 = .ok (.if_icmp .le 5, 3) := by decide +kernel
theorem dX10_feed_13 : decode cX10_feed 13 = .ok (.iconst (-1), 1) := by decide +kernel
theorem dX10_feed_14 : decode cX10_feed 14 = .ok (.ireturn, 1) := by decide +kernel
theorem dX10_feed_15 : decode cX10_feed 15 = .ok (.aload_n 0, 1) := by decide +kernel
theorem dX10_feed_16 : decode cX10_feed 16 = .ok (.iload_n 1, 1) := by decide +kernel
theorem dX10_feed_17 : decode cX10_feed 17 = .ok (.invokevirtual 86, 3) := by decide +kernel
theorem dX10_feed_20 : decode cX10_feed 20 = .ok (.aload_n 0, 1) := by decide +kernel
theorem dX10_feed_21 : decode cX10_feed 21 = .ok (.iload_n 2, 1) := by decide +kernel
theorem dX10_feed_22 : decode cX10_feed 22 = .ok (.invokevirtual 86, 3) := by decide +kernel
theorem dX10_feed_25 : decode cX10_feed 25 = .ok (.aload_n 0, 1) := by decide +kernel
theorem dX10_feed_26 : decode cX10_feed 26 = .ok (.iload_n 3, 1) := by decide +kernel
theorem dX10_feed_27 : decode cX10_feed 27 = .ok (.invokevirtual 86, 3) := by decide +kernel
theorem dX10_feed_30 : decode cX10_feed 30 = .ok (.aload_n 0, 1) := by decide +kernel
theorem dX10_feed_31 : decode cX10_feed 31 = .ok (.iload 4, 2) := by decide +kernel
theorem dX10_feed_33 : decode cX10_feed 33 = .ok (.invokevirtual 86, 3) := by decide +kernel
theorem dX10_feed_36 : decode cX10_feed 36 = .ok (.aload_n 0, 1) := by decide +kernel
theorem dX10_feed_37 : decode cX10_feed 37 = .ok (.iload 5, 2) := by decide +kernel
theorem dX10_feed_39 : decode cX10_feed 39 = .ok (.invokevirtual 86, 3) := by decide +kernel
theorem dX10_feed_42 : decode cX10_feed 42 = .ok (.aload_n 0, 1) := by decide +kernel
theorem dX10_feed_43 : decode cX10_feed 43 = .ok (.getfield 13, 3) := by decide +kernel
theorem dX10_feed_46 : decode cX10_feed 46 = .ok (.ireturn, 1) := by decide +kernel
theorem dX10_town_0 : decode cX10_town 0 = .ok (.iload_n 1, 1) := by decide +kernel
theorem dX10_town_1 : decode cX10_town 1 = .ok (.ifCond .lt 11, 3) := by decide +kernel
theorem dX10_town_4 : decode cX10_town 4 = .ok (.iload_n 1, 1) := by decide +kernel
theorem dX10_town_5 : decode cX10_town 5 = .ok (.aload_n 0, 1) := by decide +kernel
theorem dX10_town_6 : decode cX10_town 6 = .ok (.getfield 13, 3) := by decide +kernel
theorem dX10_town_9 : decode cX10_town 9 = .ok (.if_icmp .le 13, 3) := by decide +kernel
theorem dX10_town_12 : decode cX10_town 12 = .ok (.new 90, 3) := by decide +kernel
theorem dX10_town_15 : decode cX10_town 15 = .ok (.dup, 1) := by decide +kernel
theorem dX10_town_16 : decode cX10_town 16 = .ok (.ldc 92, 2) := by decide +kernel
theorem dX10_town_18 : decode cX10_town 18 = .ok (.invokespecial 94, 3) := by decide +kernel
theorem dX10_town_21 : decode cX10_town 21 = .ok (.athrow, 1) := by decide +kernel
theorem dX10_town_22 : decode cX10_town 22 = .ok (.aload_n 0, 1) := by decide +kernel
theorem dX10_town_23 : decode cX10_town 23 = .ok (.getfield 53, 3) := by decide +kernel
theorem dX10_town_26 : decode cX10_town 26 = .ok (.aload_n 0, 1) := by decide +kernel
theorem dX10_town_27 : decode cX10_town 27 = .ok (.getfield 9, 3) := by decide +kernel
theorem dX10_town_30 : decode cX10_town 30 = .ok (.iload_n 1, 1) := by decide +kernel
theorem dX10_town_31 : decode cX10_town 31 = .ok (.invokevirtual 97, 3) := by decide +kernel
theorem dX10_town_34 : decode cX10_town 34 = .ok (.aload_n 0, 1) := by decide +kernel
theorem dX10_town_35 : decode cX10_town 35 = .ok (.iconst 0, 1) := by decide +kernel
theorem dX10_town_36 : decode cX10_town 36 = .ok (.putfield 13, 3) := by decide +kernel
theorem dX10_town_39 : decode cX10_town 39 = .ok (.aload_n 0, 1) := by decide +kernel
theorem dX10_town_40 : decode cX10_town 40 = .ok (.aload_n 0, 1) := by decide +kernel
theorem dX10_town_41 : decode cX10_town 41 = .ok (.getfield 53, 3) := by decide +kernel
theorem dX10_town_44 : decode cX10_town 44 = .ok (.getfield 101, 3) := by decide +kernel
theorem dX10_town_47 : decode cX10_town 47 = .ok (.putfield 17, 3) := by decide +kernel
theorem dX10_town_50 : decode cX10_town 50 = .ok (.aload_n 0, 1) := by decide +kernel
theorem dX10_town_51 : decode cX10_town 51 = .ok (.aload_n 0, 1) := by decide +kernel
theorem dX10_town_52 : decode cX10_town 52 = .ok (.getfield 53, 3) := by decide +kernel
theorem dX10_town_55 : decode cX10_town 55 = .ok (.getfield 104, 3) := by decide +kernel
theorem dX10_town_58 : decode cX10_town 58 = .ok (.putfield 20, 3) := by decide +kernel
theorem dX10_town_61 : decode cX10_town 61 = .ok (.aload_n 0, 1) := by decide +kernel
theorem dX10_town_62 : decode cX10_town 62 = .ok (.getfield 17, 3) := by decide +kernel
theorem dX10_town_65 : decode cX10_town 65 = .ok (.ifCond .eq 11, 3) := by decide +kernel
theorem dX10_town_68 : decode cX10_town 68 = .ok (.bipush (-10), 2) := by decide +kernel
theorem dX10_town_70 : decode cX10_town 70 = .ok (.aload_n 0, 1) := by decide +kernel
theorem dX10_town_71 : decode cX10_town 71 = .ok (.getfield 17, 3) := by decide +kernel
theorem dX10_town_74 : decode cX10_town 74 = .ok (.isub, 1) := by decide +kernel
theorem dX10_town_75 : decode cX10_town 75 = .ok (.ireturn, 1) := by decide +kernel
theorem dX10_town_76 : decode cX10_town 76 = .ok (.aload_n 0, 1) := by decide +kernel
theorem dX10_town_77 : decode cX10_town 77 = .ok (.getfield 26, 3) := by decide +kernel
theorem dX10_town_80 : decode cX10_town 80 = .ok (.aload_n 0, 1) := by decide +kernel
theorem dX10_town_81 : decode cX10_town 81 = .ok (.getfield 53, 3) := by decide +kernel
theorem dX10_town_84 : decode cX10_town 84 = .ok (.getfield 107, 3) := by decide +kernel
theorem dX10_town_87 : decode cX10_town 87 = .ok (.invokevirtual 110, 3) := by decide +kernel
theorem dX10_town_90 : decode cX10_town 90 = .ok (.aload_n 0, 1) := by decide +kernel
theorem dX10_town_91 : decode cX10_town 91 = .ok (.getfield 26, 3) := by decide +kernel
theorem dX10_town_94 : decode cX10_town 94 = .ok (.getfield 114, 3) := by decide +kernel
theorem dX10_town_97 : decode cX10_town 97 = .ok (.ireturn, 1) := by decide +kernel
theorem dX10_fault_0 : decode cX10_fault 0 = .ok (.iload_n 1, 1) := by decide +kernel
theorem dX10_fault_1 : decode cX10_fault 1 = .ok (.ifCond .ne 8, 3) := by decide +kernel
theorem dX10_fault_4 : decode cX10_fault 4 = .ok (.aload_n 0, 1) := by decide +kernel
theorem dX10_fault_5 : decode cX10_fault 5 = .ok (.getfield 17, 3) := by decide +kernel
theorem dX10_fault_8 : decode cX10_fault 8 = .ok (.ireturn, 1) := by decide +kernel
theorem dX10_fault_9 : decode cX10_fault 9 = .ok (.iload_n 1, 1) := by decide +kernel
theorem dX10_fault_10 : decode cX10_fault 10 = .ok (.iconst 1, 1) := by decide +kernel
theorem dX10_fault_11 : decode cX10_fault 11 = .ok (.if_icmp .ne 10, 3) := by decide +kernel
theorem dX10_fault_14 : decode cX10_fault 14 = .ok (.aload_n 0, 1) := by decide +kernel
theorem dX10_fault_15 : decode cX10_fault 15 = .ok (.getfield 20, 3) := by decide +kernel
theorem dX10_fault_18 : decode cX10_fault 18 = .ok (.goto 4, 3) := by decide +kernel
theorem dX10_fault_21 : decode cX10_fault 21 = .ok (.iconst (-1), 1) := by decide +kernel
theorem dX10_fault_22 : decode cX10_fault 22 = .ok (.ireturn, 1) := by decide +kernel
theorem dX10_coin_0 : decode cX10_coin 0 = .ok (.iload_n 1, 1) := by decide +kernel
theorem dX10_coin_1 : decode cX10_coin 1 = .ok (.ifCond .lt 14, 3) := by decide +kernel
theorem dX10_coin_4 : decode cX10_coin 4 = .ok (.iload_n 1, 1) := by decide +kernel
theorem dX10_coin_5 : decode cX10_coin 5 = .ok (.aload_n 0, 1) := by decide +kernel
theorem dX10_coin_6 : decode cX10_coin 6 = .ok (.getfield 26, 3) := by decide +kernel
theorem dX10_coin_9 : decode cX10_coin 9 = .ok (.getfield 117, 3) := by decide +kernel
theorem dX10_coin_12 : decode cX10_coin 12 = .ok (.if_icmp .lt 13, 3) := by decide +kernel
theorem dX10_coin_15 : decode cX10_coin 15 = .ok (.new 120, 3) := by decide +kernel
theorem dX10_coin_18 : decode cX10_coin 18 = .ok (.dup, 1) := by decide +kernel
theorem dX10_coin_19 : decode cX10_coin 19 = .ok (.ldc 122, 2) := by decide +kernel
theorem dX10_coin_21 : decode cX10_coin 21 = .ok (.invokespecial 124, 3) := by decide +kernel
theorem dX10_coin_24 : decode cX10_coin 24 = .ok (.athrow, 1) := by decide +kernel
theorem dX10_coin_25 : decode cX10_coin 25 = .ok (.aload_n 0, 1) := by decide +kernel
theorem dX10_coin_26 : decode cX10_coin 26 = .ok (.getfield 26, 3) := by decide +kernel
theorem dX10_coin_29 : decode cX10_coin 29 = .ok (.iload_n 1, 1) := by decide +kernel
theorem dX10_coin_30 : decode cX10_coin 30 = .ok (.invokevirtual 125, 3) := by decide +kernel
theorem dX10_coin_33 : decode cX10_coin 33 = .ok (.ireturn, 1) := by decide +kernel
theorem dX10_has_0 : decode cX10_has 0 = .ok (.aload_n 0, 1) := by decide +kernel
theorem dX10_has_1 : decode cX10_has 1 = .ok (.iload_n 1, 1) := by decide +kernel
theorem dX10_has_2 : decode cX10_has 2 = .ok (.invokevirtual 129, 3) := by decide +kernel
theorem dX10_has_5 : decode cX10_has 5 = .ok (.aload_n 0, 1) := by decide +kernel
theorem dX10_has_6 : decode cX10_has 6 = .ok (.getfield 26, 3) := by decide +kernel
theorem dX10_has_9 : decode cX10_has 9 = .ok (.iload_n 1, 1) := by decide +kernel
theorem dX10_has_10 : decode cX10_has 10 = .ok (.aload_n 0, 1) := by decide +kernel
theorem dX10_has_11 : decode cX10_has 11 = .ok (.getfield 26, 3) := by decide +kernel
theorem dX10_has_14 : decode cX10_has 14 = .ok (.iload_n 2, 1) := by decide +kernel
theorem dX10_has_15 : decode cX10_has 15 = .ok (.invokevirtual 132, 3) := by decide +kernel
theorem dX10_has_18 : decode cX10_has 18 = .ok (.invokevirtual 135, 3) := by decide +kernel
theorem dX10_has_21 : decode cX10_has 21 = .ok (.ireturn, 1) := by decide +kernel
theorem dX10_purse_0 : decode cX10_purse 0 = .ok (.aload_n 0, 1) := by decide +kernel
theorem dX10_purse_1 : decode cX10_purse 1 = .ok (.iload_n 1, 1) := by decide +kernel
theorem dX10_purse_2 : decode cX10_purse 2 = .ok (.invokevirtual 129, 3) := by decide +kernel
theorem dX10_purse_5 : decode cX10_purse 5 = .ok (.aload_n 0, 1) := by decide +kernel
theorem dX10_purse_6 : decode cX10_purse 6 = .ok (.iload_n 2, 1) := by decide +kernel
theorem dX10_purse_7 : decode cX10_purse 7 = .ok (.iconst 3, 1) := by decide +kernel
theorem dX10_purse_8 : decode cX10_purse 8 = .ok (.invokevirtual 139, 3) := by decide +kernel
theorem dX10_purse_11 : decode cX10_purse 11 = .ok (.iload_n 2, 1) := by decide +kernel
theorem dX10_purse_12 : decode cX10_purse 12 = .ok (.tableswitch 62 0 2 #[28, 37, 46], 28) := by decide +kernel
theorem dX10_purse_40 : decode cX10_purse 40 = .ok (.aload_n 0, 1) := by decide +kernel
theorem dX10_purse_41 : decode cX10_purse 41 = .ok (.getfield 26, 3) := by decide +kernel
theorem dX10_purse_44 : decode cX10_purse 44 = .ok (.iload_n 1, 1) := by decide +kernel
theorem dX10_purse_45 : decode cX10_purse 45 = .ok (.invokevirtual 143, 3) := by decide +kernel
theorem dX10_purse_48 : decode cX10_purse 48 = .ok (.ireturn, 1) := by decide +kernel
theorem dX10_purse_49 : decode cX10_purse 49 = .ok (.aload_n 0, 1) := by decide +kernel
theorem dX10_purse_50 : decode cX10_purse 50 = .ok (.getfield 26, 3) := by decide +kernel
theorem dX10_purse_53 : decode cX10_purse 53 = .ok (.iload_n 1, 1) := by decide +kernel
theorem dX10_purse_54 : decode cX10_purse 54 = .ok (.invokevirtual 146, 3) := by decide +kernel
theorem dX10_purse_57 : decode cX10_purse 57 = .ok (.ireturn, 1) := by decide +kernel
theorem dX10_purse_58 : decode cX10_purse 58 = .ok (.aload_n 0, 1) := by decide +kernel
theorem dX10_purse_59 : decode cX10_purse 59 = .ok (.getfield 26, 3) := by decide +kernel
theorem dX10_purse_62 : decode cX10_purse 62 = .ok (.aload_n 0, 1) := by decide +kernel
theorem dX10_purse_63 : decode cX10_purse 63 = .ok (.getfield 26, 3) := by decide +kernel
theorem dX10_purse_66 : decode cX10_purse 66 = .ok (.iload_n 1, 1) := by decide +kernel
theorem dX10_purse_67 : decode cX10_purse 67 = .ok (.invokevirtual 149, 3) := by decide +kernel
theorem dX10_purse_70 : decode cX10_purse 70 = .ok (.invokevirtual 125, 3) := by decide +kernel
theorem dX10_purse_73 : decode cX10_purse 73 = .ok (.ireturn, 1) := by decide +kernel
theorem dX10_purse_74 : decode cX10_purse 74 = .ok (.aload_n 0, 1) := by decide +kernel
theorem dX10_purse_75 : decode cX10_purse 75 = .ok (.getfield 26, 3) := by decide +kernel
theorem dX10_purse_78 : decode cX10_purse 78 = .ok (.aload_n 0, 1) := by decide +kernel
theorem dX10_purse_79 : decode cX10_purse 79 = .ok (.getfield 26, 3) := by decide +kernel
theorem dX10_purse_82 : decode cX10_purse 82 = .ok (.iload_n 1, 1) := by decide +kernel
theorem dX10_purse_83 : decode cX10_purse 83 = .ok (.invokevirtual 152, 3) := by decide +kernel
theorem dX10_purse_86 : decode cX10_purse 86 = .ok (.invokevirtual 125, 3) := by decide +kernel
theorem dX10_purse_89 : decode cX10_purse 89 = .ok (.ireturn, 1) := by decide +kernel
theorem dX10_worth_0 : decode cX10_worth 0 = .ok (.aload_n 0, 1) := by decide +kernel
theorem dX10_worth_1 : decode cX10_worth 1 = .ok (.iload_n 1, 1) := by decide +kernel
theorem dX10_worth_2 : decode cX10_worth 2 = .ok (.invokevirtual 129, 3) := by decide +kernel
theorem dX10_worth_5 : decode cX10_worth 5 = .ok (.aload_n 0, 1) := by decide +kernel
theorem dX10_worth_6 : decode cX10_worth 6 = .ok (.getfield 26, 3) := by decide +kernel
theorem dX10_worth_9 : decode cX10_worth 9 = .ok (.iload_n 1, 1) := by decide +kernel
theorem dX10_worth_10 : decode cX10_worth 10 = .ok (.invokevirtual 155, 3) := by decide +kernel
theorem dX10_worth_13 : decode cX10_worth 13 = .ok (.lreturn, 1) := by decide +kernel
theorem dX10_change_0 : decode cX10_change 0 = .ok (.aload_n 0, 1) := by decide +kernel
theorem dX10_change_1 : decode cX10_change 1 = .ok (.iload_n 1, 1) := by decide +kernel
theorem dX10_change_2 : decode cX10_change 2 = .ok (.invokevirtual 159, 3) := by decide +kernel
theorem dX10_change_5 : decode cX10_change 5 = .ok (.aload_n 0, 1) := by decide +kernel
theorem dX10_change_6 : decode cX10_change 6 = .ok (.iload_n 2, 1) := by decide +kernel
theorem dX10_change_7 : decode cX10_change 7 = .ok (.iconst 1, 1) := by decide +kernel
theorem dX10_change_8 : decode cX10_change 8 = .ok (.invokevirtual 139, 3) := by decide +kernel
theorem dX10_change_11 : decode cX10_change 11 = .ok (.aload_n 0, 1) := by decide +kernel
theorem dX10_change_12 : decode cX10_change 12 = .ok (.getfield 26, 3) := by decide +kernel
theorem dX10_change_15 : decode cX10_change 15 = .ok (.iload_n 1, 1) := by decide +kernel
theorem dX10_change_16 : decode cX10_change 16 = .ok (.iload_n 2, 1) := by decide +kernel
theorem dX10_change_17 : decode cX10_change 17 = .ok (.invokevirtual 162, 3) := by decide +kernel
theorem dX10_change_20 : decode cX10_change 20 = .ok (.ireturn, 1) := by decide +kernel
theorem dX10_may_0 : decode cX10_may 0 = .ok (.aload_n 0, 1) := by decide +kernel
theorem dX10_may_1 : decode cX10_may 1 = .ok (.iload_n 1, 1) := by decide +kernel
theorem dX10_may_2 : decode cX10_may 2 = .ok (.iload_n 2, 1) := by decide +kernel
theorem dX10_may_3 : decode cX10_may 3 = .ok (.invokevirtual 165, 3) := by decide +kernel
theorem dX10_may_6 : decode cX10_may 6 = .ok (.aload_n 0, 1) := by decide +kernel
theorem dX10_may_7 : decode cX10_may 7 = .ok (.iload_n 1, 1) := by decide +kernel
theorem dX10_may_8 : decode cX10_may 8 = .ok (.iload_n 2, 1) := by decide +kernel
theorem dX10_may_9 : decode cX10_may 9 = .ok (.lload_n 3, 1) := by decide +kernel
theorem dX10_may_10 : decode cX10_may 10 = .ok (.invokevirtual 168, 3) := by decide +kernel
theorem dX10_may_13 : decode cX10_may 13 = .ok (.ireturn, 1) := by decide +kernel
theorem dX10_pay_0 : decode cX10_pay 0 = .ok (.aload_n 0, 1) := by decide +kernel
theorem dX10_pay_1 : decode cX10_pay 1 = .ok (.iload_n 1, 1) := by decide +kernel
theorem dX10_pay_2 : decode cX10_pay 2 = .ok (.iload_n 2, 1) := by decide +kernel
theorem dX10_pay_3 : decode cX10_pay 3 = .ok (.invokevirtual 165, 3) := by decide +kernel
theorem dX10_pay_6 : decode cX10_pay 6 = .ok (.aload_n 0, 1) := by decide +kernel
theorem dX10_pay_7 : decode cX10_pay 7 = .ok (.iload_n 1, 1) := by decide +kernel
theorem dX10_pay_8 : decode cX10_pay 8 = .ok (.iload_n 2, 1) := by decide +kernel
theorem dX10_pay_9 : decode cX10_pay 9 = .ok (.lload_n 3, 1) := by decide +kernel
theorem dX10_pay_10 : decode cX10_pay 10 = .ok (.invokevirtual 168, 3) := by decide +kernel
theorem dX10_pay_13 : decode cX10_pay 13 = .ok (.istore 5, 2) := by decide +kernel
theorem dX10_pay_15 : decode cX10_pay 15 = .ok (.iload 5, 2) := by decide +kernel
theorem dX10_pay_17 : decode cX10_pay 17 = .ok (.ifCond .eq 9, 3) := by decide +kernel
theorem dX10_pay_20 : decode cX10_pay 20 = .ok (.iload 5, 2) := by decide +kernel
theorem dX10_pay_22 : decode cX10_pay 22 = .ok (.ineg, 1) := by decide +kernel
theorem dX10_pay_23 : decode cX10_pay 23 = .ok (.goto 16, 3) := by decide +kernel
theorem dX10_pay_26 : decode cX10_pay 26 = .ok (.aload_n 0, 1) := by decide +kernel
theorem dX10_pay_27 : decode cX10_pay 27 = .ok (.getfield 26, 3) := by decide +kernel
theorem dX10_pay_30 : decode cX10_pay 30 = .ok (.iload_n 1, 1) := by decide +kernel
theorem dX10_pay_31 : decode cX10_pay 31 = .ok (.iload_n 2, 1) := by decide +kernel
theorem dX10_pay_32 : decode cX10_pay 32 = .ok (.aload_n 0, 1) := by decide +kernel
theorem dX10_pay_33 : decode cX10_pay 33 = .ok (.getfield 47, 3) := by decide +kernel
theorem dX10_pay_36 : decode cX10_pay 36 = .ok (.invokevirtual 172, 3) := by decide +kernel
theorem dX10_pay_39 : decode cX10_pay 39 = .ok (.ireturn, 1) := by decide +kernel
theorem dX10_changes_0 : decode cX10_changes 0 = .ok (.aload_n 0, 1) := by decide +kernel
theorem dX10_changes_1 : decode cX10_changes 1 = .ok (.iload_n 1, 1) := by decide +kernel
theorem dX10_changes_2 : decode cX10_changes 2 = .ok (.invokevirtual 129, 3) := by decide +kernel
theorem dX10_changes_5 : decode cX10_changes 5 = .ok (.aload_n 0, 1) := by decide +kernel
theorem dX10_changes_6 : decode cX10_changes 6 = .ok (.iload_n 2, 1) := by decide +kernel
theorem dX10_changes_7 : decode cX10_changes 7 = .ok (.invokevirtual 159, 3) := by decide +kernel
theorem dX10_changes_10 : decode cX10_changes 10 = .ok (.aload_n 0, 1) := by decide +kernel
theorem dX10_changes_11 : decode cX10_changes 11 = .ok (.getfield 26, 3) := by decide +kernel
theorem dX10_changes_14 : decode cX10_changes 14 = .ok (.iload_n 1, 1) := by decide +kernel
theorem dX10_changes_15 : decode cX10_changes 15 = .ok (.iload_n 2, 1) := by decide +kernel
theorem dX10_changes_16 : decode cX10_changes 16 = .ok (.invokevirtual 176, 3) := by decide +kernel
theorem dX10_changes_19 : decode cX10_changes 19 = .ok (.istore_n 3, 1) := by decide +kernel
theorem dX10_changes_20 : decode cX10_changes 20 = .ok (.iload_n 3, 1) := by decide +kernel
theorem dX10_changes_21 : decode cX10_changes 21 = .ok (.ifCond .eq 8, 3) := by decide +kernel
theorem dX10_changes_24 : decode cX10_changes 24 = .ok (.iload_n 3, 1) := by decide +kernel
theorem dX10_changes_25 : decode cX10_changes 25 = .ok (.ineg, 1) := by decide +kernel
theorem dX10_changes_26 : decode cX10_changes 26 = .ok (.goto 12, 3) := by decide +kernel
theorem dX10_changes_29 : decode cX10_changes 29 = .ok (.aload_n 0, 1) := by decide +kernel
theorem dX10_changes_30 : decode cX10_changes 30 = .ok (.getfield 26, 3) := by decide +kernel
theorem dX10_changes_33 : decode cX10_changes 33 = .ok (.iload_n 1, 1) := by decide +kernel
theorem dX10_changes_34 : decode cX10_changes 34 = .ok (.iload_n 2, 1) := by decide +kernel
theorem dX10_changes_35 : decode cX10_changes 35 = .ok (.invokevirtual 179, 3) := by decide +kernel
theorem dX10_changes_38 : decode cX10_changes 38 = .ok (.ireturn, 1) := by decide +kernel
theorem dX10_tax_0 : decode cX10_tax 0 = .ok (.aload_n 0, 1) := by decide +kernel
theorem dX10_tax_1 : decode cX10_tax 1 = .ok (.iload_n 1, 1) := by decide +kernel
theorem dX10_tax_2 : decode cX10_tax 2 = .ok (.invokevirtual 129, 3) := by decide +kernel
theorem dX10_tax_5 : decode cX10_tax 5 = .ok (.aload_n 0, 1) := by decide +kernel
theorem dX10_tax_6 : decode cX10_tax 6 = .ok (.getfield 26, 3) := by decide +kernel
theorem dX10_tax_9 : decode cX10_tax 9 = .ok (.iload_n 1, 1) := by decide +kernel
theorem dX10_tax_10 : decode cX10_tax 10 = .ok (.invokevirtual 182, 3) := by decide +kernel
theorem dX10_tax_13 : decode cX10_tax 13 = .ok (.ireturn, 1) := by decide +kernel
theorem dX10_strike_0 : decode cX10_strike 0 = .ok (.aload_n 0, 1) := by decide +kernel
theorem dX10_strike_1 : decode cX10_strike 1 = .ok (.iload_n 1, 1) := by decide +kernel
theorem dX10_strike_2 : decode cX10_strike 2 = .ok (.invokevirtual 129, 3) := by decide +kernel
theorem dX10_strike_5 : decode cX10_strike 5 = .ok (.aload_n 0, 1) := by decide +kernel
theorem dX10_strike_6 : decode cX10_strike 6 = .ok (.getfield 26, 3) := by decide +kernel
theorem dX10_strike_9 : decode cX10_strike 9 = .ok (.iload_n 2, 1) := by decide +kernel
theorem dX10_strike_10 : decode cX10_strike 10 = .ok (.invokevirtual 132, 3) := by decide +kernel
theorem dX10_strike_13 : decode cX10_strike 13 = .ok (.istore_n 3, 1) := by decide +kernel
theorem dX10_strike_14 : decode cX10_strike 14 = .ok (.iload_n 3, 1) := by decide +kernel
theorem dX10_strike_15 : decode cX10_strike 15 = .ok (.iconst (-1), 1) := by decide +kernel
theorem dX10_strike_16 : decode cX10_strike 16 = .ok (.if_icmp .ne 13, 3) := by decide +kernel
theorem dX10_strike_19 : decode cX10_strike 19 = .ok (.new 90, 3) := by decide +kernel
theorem dX10_strike_22 : decode cX10_strike 22 = .ok (.dup, 1) := by decide +kernel
theorem dX10_strike_23 : decode cX10_strike 23 = .ok (.ldc 185, 2) := by decide +kernel
theorem dX10_strike_25 : decode cX10_strike 25 = .ok (.invokespecial 94, 3) := by decide +kernel
theorem dX10_strike_28 : decode cX10_strike 28 = .ok (.athrow, 1) := by decide +kernel
theorem dX10_strike_29 : decode cX10_strike 29 = .ok (.aload_n 0, 1) := by decide +kernel
theorem dX10_strike_30 : decode cX10_strike 30 = .ok (.getfield 26, 3) := by decide +kernel
theorem dX10_strike_33 : decode cX10_strike 33 = .ok (.iload_n 1, 1) := by decide +kernel
theorem dX10_strike_34 : decode cX10_strike 34 = .ok (.invokevirtual 143, 3) := by decide +kernel
theorem dX10_strike_37 : decode cX10_strike 37 = .ok (.bipush 9, 2) := by decide +kernel
theorem dX10_strike_39 : decode cX10_strike 39 = .ok (.if_icmp .lt 13, 3) := by decide +kernel
theorem dX10_strike_42 : decode cX10_strike 42 = .ok (.new 187, 3) := by decide +kernel
theorem dX10_strike_45 : decode cX10_strike 45 = .ok (.dup, 1) := by decide +kernel
theorem dX10_strike_46 : decode cX10_strike 46 = .ok (.ldc 189, 2) := by decide +kernel
theorem dX10_strike_48 : decode cX10_strike 48 = .ok (.invokespecial 191, 3) := by decide +kernel
theorem dX10_strike_51 : decode cX10_strike 51 = .ok (.athrow, 1) := by decide +kernel
theorem dX10_strike_52 : decode cX10_strike 52 = .ok (.aload_n 0, 1) := by decide +kernel
theorem dX10_strike_53 : decode cX10_strike 53 = .ok (.getfield 26, 3) := by decide +kernel
theorem dX10_strike_56 : decode cX10_strike 56 = .ok (.iload_n 1, 1) := by decide +kernel
theorem dX10_strike_57 : decode cX10_strike 57 = .ok (.iload_n 3, 1) := by decide +kernel
theorem dX10_strike_58 : decode cX10_strike 58 = .ok (.iconst 1, 1) := by decide +kernel
theorem dX10_strike_59 : decode cX10_strike 59 = .ok (.invokevirtual 192, 3) := by decide +kernel
theorem dX10_strike_62 : decode cX10_strike 62 = .ok (.aload_n 0, 1) := by decide +kernel
theorem dX10_strike_63 : decode cX10_strike 63 = .ok (.getfield 26, 3) := by decide +kernel
theorem dX10_strike_66 : decode cX10_strike 66 = .ok (.iload_n 1, 1) := by decide +kernel
theorem dX10_strike_67 : decode cX10_strike 67 = .ok (.invokevirtual 143, 3) := by decide +kernel
theorem dX10_strike_70 : decode cX10_strike 70 = .ok (.ireturn, 1) := by decide +kernel
theorem dX10_treasury_0 : decode cX10_treasury 0 = .ok (.aload_n 0, 1) := by decide +kernel
theorem dX10_treasury_1 : decode cX10_treasury 1 = .ok (.getfield 26, 3) := by decide +kernel
theorem dX10_treasury_4 : decode cX10_treasury 4 = .ok (.aload_n 0, 1) := by decide +kernel
