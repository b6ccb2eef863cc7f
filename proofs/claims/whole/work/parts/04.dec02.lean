theorem d_Ln_peakOf_49 : decode b_Ln_peakOf 49 = .ok (.iaload, 1) := by decide +kernel
theorem d_Ln_peakOf_50 : decode b_Ln_peakOf 50 = .ok (.aload_n 0, 1) := by decide +kernel
theorem d_Ln_peakOf_51 : decode b_Ln_peakOf 51 = .ok (.getfield 15, 3) := by decide +kernel
theorem d_Ln_peakOf_54 : decode b_Ln_peakOf 54 = .ok (.iload_n 1, 1) := by decide +kernel
theorem d_Ln_peakOf_55 : decode b_Ln_peakOf 55 = .ok (.iaload, 1) := by decide +kernel
theorem d_Ln_peakOf_56 : decode b_Ln_peakOf 56 = .ok (.if_icmp .le (15), 3) := by decide +kernel
theorem d_Ln_peakOf_59 : decode b_Ln_peakOf 59 = .ok (.aload_n 0, 1) := by decide +kernel
theorem d_Ln_peakOf_60 : decode b_Ln_peakOf 60 = .ok (.getfield 24, 3) := by decide +kernel
theorem d_Ln_peakOf_63 : decode b_Ln_peakOf 63 = .ok (.aload_n 0, 1) := by decide +kernel
theorem d_Ln_peakOf_64 : decode b_Ln_peakOf 64 = .ok (.getfield 21, 3) := by decide +kernel
theorem d_Ln_peakOf_67 : decode b_Ln_peakOf 67 = .ok (.iload_n 1, 1) := by decide +kernel
theorem d_Ln_peakOf_68 : decode b_Ln_peakOf 68 = .ok (.iaload, 1) := by decide +kernel
theorem d_Ln_peakOf_69 : decode b_Ln_peakOf 69 = .ok (.iaload, 1) := by decide +kernel
theorem d_Ln_peakOf_70 : decode b_Ln_peakOf 70 = .ok (.ireturn, 1) := by decide +kernel
theorem d_Ln_peakOf_71 : decode b_Ln_peakOf 71 = .ok (.aload_n 0, 1) := by decide +kernel
theorem d_Ln_peakOf_72 : decode b_Ln_peakOf 72 = .ok (.getfield 24, 3) := by decide +kernel
theorem d_Ln_peakOf_75 : decode b_Ln_peakOf 75 = .ok (.aload_n 0, 1) := by decide +kernel
theorem d_Ln_peakOf_76 : decode b_Ln_peakOf 76 = .ok (.getfield 18, 3) := by decide +kernel
theorem d_Ln_peakOf_79 : decode b_Ln_peakOf 79 = .ok (.iload_n 1, 1) := by decide +kernel
theorem d_Ln_peakOf_80 : decode b_Ln_peakOf 80 = .ok (.iaload, 1) := by decide +kernel
theorem d_Ln_peakOf_81 : decode b_Ln_peakOf 81 = .ok (.iaload, 1) := by decide +kernel
theorem d_Ln_peakOf_82 : decode b_Ln_peakOf 82 = .ok (.aload_n 0, 1) := by decide +kernel
theorem d_Ln_peakOf_83 : decode b_Ln_peakOf 83 = .ok (.getfield 24, 3) := by decide +kernel
theorem d_Ln_peakOf_86 : decode b_Ln_peakOf 86 = .ok (.aload_n 0, 1) := by decide +kernel
theorem d_Ln_peakOf_87 : decode b_Ln_peakOf 87 = .ok (.getfield 21, 3) := by decide +kernel
theorem d_Ln_peakOf_90 : decode b_Ln_peakOf 90 = .ok (.iload_n 1, 1) := by decide +kernel
theorem d_Ln_peakOf_91 : decode b_Ln_peakOf 91 = .ok (.iaload, 1) := by decide +kernel
theorem d_Ln_peakOf_92 : decode b_Ln_peakOf 92 = .ok (.iaload, 1) := by decide +kernel
theorem d_Ln_peakOf_93 : decode b_Ln_peakOf 93 = .ok (.invokestatic 52, 3) := by decide +kernel
theorem d_Ln_peakOf_96 : decode b_Ln_peakOf 96 = .ok (.ireturn, 1) := by decide +kernel
theorem d_Se_settle_0 : decode b_Se_settle 0 = .ok (.iconst (0), 1) := by decide +kernel
theorem d_Se_settle_1 : decode b_Se_settle 1 = .ok (.istore_n 3, 1) := by decide +kernel
theorem d_Se_settle_2 : decode b_Se_settle 2 = .ok (.iload_n 3, 1) := by decide +kernel
theorem d_Se_settle_3 : decode b_Se_settle 3 = .ok (.aload_n 0, 1) := by decide +kernel
theorem d_Se_settle_4 : decode b_Se_settle 4 = .ok (.getfield 20, 3) := by decide +kernel
theorem d_Se_settle_7 : decode b_Se_settle 7 = .ok (.iload_n 1, 1) := by decide +kernel
theorem d_Se_settle_8 : decode b_Se_settle 8 = .ok (.iaload, 1) := by decide +kernel
theorem d_Se_settle_9 : decode b_Se_settle 9 = .ok (.if_icmp .ge (51), 3) := by decide +kernel
theorem d_Se_settle_12 : decode b_Se_settle 12 = .ok (.aload_n 0, 1) := by decide +kernel
theorem d_Se_settle_13 : decode b_Se_settle 13 = .ok (.getfield 17, 3) := by decide +kernel
theorem d_Se_settle_16 : decode b_Se_settle 16 = .ok (.iload_n 1, 1) := by decide +kernel
theorem d_Se_settle_17 : decode b_Se_settle 17 = .ok (.aaload, 1) := by decide +kernel
theorem d_Se_settle_18 : decode b_Se_settle 18 = .ok (.iload_n 3, 1) := by decide +kernel
theorem d_Se_settle_19 : decode b_Se_settle 19 = .ok (.iaload, 1) := by decide +kernel
theorem d_Se_settle_20 : decode b_Se_settle 20 = .ok (.istore 4, 2) := by decide +kernel
theorem d_Se_settle_22 : decode b_Se_settle 22 = .ok (.aload_n 0, 1) := by decide +kernel
theorem d_Se_settle_23 : decode b_Se_settle 23 = .ok (.getfield 24, 3) := by decide +kernel
theorem d_Se_settle_26 : decode b_Se_settle 26 = .ok (.iload_n 1, 1) := by decide +kernel
theorem d_Se_settle_27 : decode b_Se_settle 27 = .ok (.iload 4, 2) := by decide +kernel
theorem d_Se_settle_29 : decode b_Se_settle 29 = .ok (.iastore, 1) := by decide +kernel
theorem d_Se_settle_30 : decode b_Se_settle 30 = .ok (.aload_n 0, 1) := by decide +kernel
theorem d_Se_settle_31 : decode b_Se_settle 31 = .ok (.getfield 27, 3) := by decide +kernel
theorem d_Se_settle_34 : decode b_Se_settle 34 = .ok (.iload_n 1, 1) := by decide +kernel
theorem d_Se_settle_35 : decode b_Se_settle 35 = .ok (.iload 4, 2) := by decide +kernel
theorem d_Se_settle_37 : decode b_Se_settle 37 = .ok (.iastore, 1) := by decide +kernel
theorem d_Se_settle_38 : decode b_Se_settle 38 = .ok (.aload_n 0, 1) := by decide +kernel
theorem d_Se_settle_39 : decode b_Se_settle 39 = .ok (.iload_n 1, 1) := by decide +kernel
theorem d_Se_settle_40 : decode b_Se_settle 40 = .ok (.iconst (1), 1) := by decide +kernel
theorem d_Se_settle_41 : decode b_Se_settle 41 = .ok (.iadd, 1) := by decide +kernel
theorem d_Se_settle_42 : decode b_Se_settle 42 = .ok (.iload_n 2, 1) := by decide +kernel
theorem d_Se_settle_43 : decode b_Se_settle 43 = .ok (.aload_n 0, 1) := by decide +kernel
theorem d_Se_settle_44 : decode b_Se_settle 44 = .ok (.iload_n 1, 1) := by decide +kernel
theorem d_Se_settle_45 : decode b_Se_settle 45 = .ok (.iload 4, 2) := by decide +kernel
theorem d_Se_settle_47 : decode b_Se_settle 47 = .ok (.invokevirtual 88, 3) := by decide +kernel
theorem d_Se_settle_50 : decode b_Se_settle 50 = .ok (.iadd, 1) := by decide +kernel
theorem d_Se_settle_51 : decode b_Se_settle 51 = .ok (.invokevirtual 59, 3) := by decide +kernel
theorem d_Se_settle_54 : decode b_Se_settle 54 = .ok (.iinc 3 (1), 3) := by decide +kernel
theorem d_Se_settle_57 : decode b_Se_settle 57 = .ok (.goto (-55), 3) := by decide +kernel
theorem d_Se_settle_60 : decode b_Se_settle 60 = .ok (.aload_n 0, 1) := by decide +kernel
theorem d_Se_settle_61 : decode b_Se_settle 61 = .ok (.iload_n 1, 1) := by decide +kernel
theorem d_Se_settle_62 : decode b_Se_settle 62 = .ok (.invokevirtual 56, 3) := by decide +kernel
theorem d_Se_settle_65 : decode b_Se_settle 65 = .ok (.return_, 1) := by decide +kernel
theorem d_Se_costOf_0 : decode b_Se_costOf 0 = .ok (.iload_n 2, 1) := by decide +kernel
theorem d_Se_costOf_1 : decode b_Se_costOf 1 = .ok (.aload_n 0, 1) := by decide +kernel
theorem d_Se_costOf_2 : decode b_Se_costOf 2 = .ok (.getfield 48, 3) := by decide +kernel
theorem d_Se_costOf_5 : decode b_Se_costOf 5 = .ok (.iconst (-1), 1) := by decide +kernel
theorem d_Se_costOf_6 : decode b_Se_costOf 6 = .ok (.invokevirtual 63, 3) := by decide +kernel
theorem d_Se_costOf_9 : decode b_Se_costOf 9 = .ok (.iload_n 1, 1) := by decide +kernel
theorem d_Se_costOf_10 : decode b_Se_costOf 10 = .ok (.iaload, 1) := by decide +kernel
theorem d_Se_costOf_11 : decode b_Se_costOf 11 = .ok (.isub, 1) := by decide +kernel
theorem d_Se_costOf_12 : decode b_Se_costOf 12 = .ok (.invokestatic 92, 3) := by decide +kernel
theorem d_Se_costOf_15 : decode b_Se_costOf 15 = .ok (.istore_n 3, 1) := by decide +kernel
theorem d_Se_costOf_16 : decode b_Se_costOf 16 = .ok (.iload_n 3, 1) := by decide +kernel
theorem d_Se_costOf_17 : decode b_Se_costOf 17 = .ok (.ifCond .ne (7), 3) := by decide +kernel
theorem d_Se_costOf_20 : decode b_Se_costOf 20 = .ok (.iconst (0), 1) := by decide +kernel
theorem d_Se_costOf_21 : decode b_Se_costOf 21 = .ok (.goto (8), 3) := by decide +kernel
theorem d_Se_costOf_24 : decode b_Se_costOf 24 = .ok (.sipush (10000), 3) := by decide +kernel
theorem d_Se_costOf_27 : decode b_Se_costOf 27 = .ok (.iload_n 3, 1) := by decide +kernel
theorem d_Se_costOf_28 : decode b_Se_costOf 28 = .ok (.iadd, 1) := by decide +kernel
theorem d_Se_costOf_29 : decode b_Se_costOf 29 = .ok (.ireturn, 1) := by decide +kernel
theorem d_Se_keep_0 : decode b_Se_keep 0 = .ok (.aload_n 0, 1) := by decide +kernel
theorem d_Se_keep_1 : decode b_Se_keep 1 = .ok (.iload_n 1, 1) := by decide +kernel
theorem d_Se_keep_2 : decode b_Se_keep 2 = .ok (.putfield 34, 3) := by decide +kernel
theorem d_Se_keep_5 : decode b_Se_keep 5 = .ok (.iconst (0), 1) := by decide +kernel
theorem d_Se_keep_6 : decode b_Se_keep 6 = .ok (.istore_n 2, 1) := by decide +kernel
theorem d_Se_keep_7 : decode b_Se_keep 7 = .ok (.iload_n 2, 1) := by decide +kernel
theorem d_Se_keep_8 : decode b_Se_keep 8 = .ok (.aload_n 0, 1) := by decide +kernel
theorem d_Se_keep_9 : decode b_Se_keep 9 = .ok (.getfield 41, 3) := by decide +kernel
theorem d_Se_keep_12 : decode b_Se_keep 12 = .ok (.if_icmp .ge (21), 3) := by decide +kernel
theorem d_Se_keep_15 : decode b_Se_keep 15 = .ok (.aload_n 0, 1) := by decide +kernel
theorem d_Se_keep_16 : decode b_Se_keep 16 = .ok (.getfield 30, 3) := by decide +kernel
theorem d_Se_keep_19 : decode b_Se_keep 19 = .ok (.iload_n 2, 1) := by decide +kernel
theorem d_Se_keep_20 : decode b_Se_keep 20 = .ok (.aload_n 0, 1) := by decide +kernel
theorem d_Se_keep_21 : decode b_Se_keep 21 = .ok (.getfield 24, 3) := by decide +kernel
theorem d_Se_keep_24 : decode b_Se_keep 24 = .ok (.iload_n 2, 1) := by decide +kernel
theorem d_Se_keep_25 : decode b_Se_keep 25 = .ok (.iaload, 1) := by decide +kernel
theorem d_Se_keep_26 : decode b_Se_keep 26 = .ok (.iastore, 1) := by decide +kernel
theorem d_Se_keep_27 : decode b_Se_keep 27 = .ok (.iinc 2 (1), 3) := by decide +kernel
theorem d_Se_keep_30 : decode b_Se_keep 30 = .ok (.goto (-23), 3) := by decide +kernel
theorem d_Se_keep_33 : decode b_Se_keep 33 = .ok (.return_, 1) := by decide +kernel
theorem d_Se_differing_0 : decode b_Se_differing 0 = .ok (.aload_n 0, 1) := by decide +kernel
theorem d_Se_differing_1 : decode b_Se_differing 1 = .ok (.getfield 34, 3) := by decide +kernel
theorem d_Se_differing_4 : decode b_Se_differing 4 = .ok (.sipush (10000), 3) := by decide +kernel
theorem d_Se_differing_7 : decode b_Se_differing 7 = .ok (.idiv, 1) := by decide +kernel
theorem d_Se_differing_8 : decode b_Se_differing 8 = .ok (.ireturn, 1) := by decide +kernel
theorem d_ES_nearestAt_0 : decode b_ES_nearestAt 0 = .ok (.aload_n 0, 1) := by decide +kernel
theorem d_ES_nearestAt_1 : decode b_ES_nearestAt 1 = .ok (.iload_n 2, 1) := by decide +kernel
theorem d_ES_nearestAt_2 : decode b_ES_nearestAt 2 = .ok (.invokevirtual 71, 3) := by decide +kernel
theorem d_ES_nearestAt_5 : decode b_ES_nearestAt 5 = .ok (.ifCond .eq (14), 3) := by decide +kernel
theorem d_ES_nearestAt_8 : decode b_ES_nearestAt 8 = .ok (.aload_n 0, 1) := by decide +kernel
theorem d_ES_nearestAt_9 : decode b_ES_nearestAt 9 = .ok (.getfield 59, 3) := by decide +kernel
theorem d_ES_nearestAt_12 : decode b_ES_nearestAt 12 = .ok (.iload_n 1, 1) := by decide +kernel
theorem d_ES_nearestAt_13 : decode b_ES_nearestAt 13 = .ok (.invokevirtual 175, 3) := by decide +kernel
theorem d_ES_nearestAt_16 : decode b_ES_nearestAt 16 = .ok (.ifCond .ne (7), 3) := by decide +kernel
theorem d_ES_nearestAt_19 : decode b_ES_nearestAt 19 = .ok (.ldc2_w 114, 3) := by decide +kernel
theorem d_ES_nearestAt_22 : decode b_ES_nearestAt 22 = .ok (.lreturn, 1) := by decide +kernel
theorem d_ES_nearestAt_23 : decode b_ES_nearestAt 23 = .ok (.aload_n 0, 1) := by decide +kernel
theorem d_ES_nearestAt_24 : decode b_ES_nearestAt 24 = .ok (.getfield 59, 3) := by decide +kernel
theorem d_ES_nearestAt_27 : decode b_ES_nearestAt 27 = .ok (.iload_n 2, 1) := by decide +kernel
theorem d_ES_nearestAt_28 : decode b_ES_nearestAt 28 = .ok (.invokevirtual 181, 3) := by decide +kernel
theorem d_ES_nearestAt_31 : decode b_ES_nearestAt 31 = .ok (.i2l, 1) := by decide +kernel
theorem d_ES_nearestAt_32 : decode b_ES_nearestAt 32 = .ok (.lreturn, 1) := by decide +kernel
theorem d_Se_foundIn_0 : decode b_Se_foundIn 0 = .ok (.aload_n 0, 1) := by decide +kernel
theorem d_Se_foundIn_1 : decode b_Se_foundIn 1 = .ok (.getfield 30, 3) := by decide +kernel
theorem d_Se_foundIn_4 : decode b_Se_foundIn 4 = .ok (.iload_n 1, 1) := by decide +kernel
theorem d_Se_foundIn_5 : decode b_Se_foundIn 5 = .ok (.iaload, 1) := by decide +kernel
theorem d_Se_foundIn_6 : decode b_Se_foundIn 6 = .ok (.ireturn, 1) := by decide +kernel
theorem d_La_cell_0 : decode b_La_cell 0 = .ok (.iload_n 1, 1) := by decide +kernel
theorem d_La_cell_1 : decode b_La_cell 1 = .ok (.aload_n 0, 1) := by decide +kernel
theorem d_La_cell_2 : decode b_La_cell 2 = .ok (.arraylength, 1) := by decide +kernel
theorem d_La_cell_3 : decode b_La_cell 3 = .ok (.if_icmp .ge (9), 3) := by decide +kernel
theorem d_La_cell_6 : decode b_La_cell 6 = .ok (.aload_n 0, 1) := by decide +kernel
theorem d_La_cell_7 : decode b_La_cell 7 = .ok (.iload_n 1, 1) := by decide +kernel
theorem d_La_cell_8 : decode b_La_cell 8 = .ok (.iaload, 1) := by decide +kernel
theorem d_La_cell_9 : decode b_La_cell 9 = .ok (.goto (4), 3) := by decide +kernel
theorem d_La_cell_12 : decode b_La_cell 12 = .ok (.iconst (0), 1) := by decide +kernel
theorem d_La_cell_13 : decode b_La_cell 13 = .ok (.ireturn, 1) := by decide +kernel
theorem d_La_value_0 : decode b_La_value 0 = .ok (.aload_n 3, 1) := by decide +kernel
theorem d_La_value_1 : decode b_La_value 1 = .ok (.iconst (0), 1) := by decide +kernel
theorem d_La_value_2 : decode b_La_value 2 = .ok (.aload_n 0, 1) := by decide +kernel
theorem d_La_value_3 : decode b_La_value 3 = .ok (.iload_n 1, 1) := by decide +kernel
theorem d_La_value_4 : decode b_La_value 4 = .ok (.iload_n 2, 1) := by decide +kernel
theorem d_La_value_5 : decode b_La_value 5 = .ok (.invokevirtual 7, 3) := by decide +kernel
theorem d_La_value_8 : decode b_La_value 8 = .ok (.lastore, 1) := by decide +kernel
theorem d_La_value_9 : decode b_La_value 9 = .ok (.goto (7), 3) := by decide +kernel
theorem d_La_value_12 : decode b_La_value 12 = .ok (.astore 4, 2) := by decide +kernel
theorem d_La_value_14 : decode b_La_value 14 = .ok (.iconst (1), 1) := by decide +kernel
theorem d_La_value_15 : decode b_La_value 15 = .ok (.ireturn, 1) := by decide +kernel
theorem d_La_value_16 : decode b_La_value 16 = .ok (.iconst (0), 1) := by decide +kernel
theorem d_La_value_17 : decode b_La_value 17 = .ok (.ireturn, 1) := by decide +kernel
theorem d_ES_value_0 : decode b_ES_value 0 = .ok (.iload_n 1, 1) := by decide +kernel
theorem d_ES_value_1 : decode b_ES_value 1 = .ok (.ifCond .lt (20), 3) := by decide +kernel
theorem d_ES_value_4 : decode b_ES_value 4 = .ok (.iload_n 1, 1) := by decide +kernel
theorem d_ES_value_5 : decode b_ES_value 5 = .ok (.iconst (1), 1) := by decide +kernel
theorem d_ES_value_6 : decode b_ES_value 6 = .ok (.aload_n 0, 1) := by decide +kernel
theorem d_ES_value_7 : decode b_ES_value 7 = .ok (.getfield 18, 3) := by decide +kernel
theorem d_ES_value_10 : decode b_ES_value 10 = .ok (.ishl, 1) := by decide +kernel
theorem d_ES_value_11 : decode b_ES_value 11 = .ok (.if_icmp .ge (10), 3) := by decide +kernel
theorem d_ES_value_14 : decode b_ES_value 14 = .ok (.iload_n 2, 1) := by decide +kernel
theorem d_ES_value_15 : decode b_ES_value 15 = .ok (.invokestatic 120, 3) := by decide +kernel
theorem d_ES_value_18 : decode b_ES_value 18 = .ok (.ifCond .ne (7), 3) := by decide +kernel
theorem d_ES_value_21 : decode b_ES_value 21 = .ok (.ldc2_w 114, 3) := by decide +kernel
theorem d_ES_value_24 : decode b_ES_value 24 = .ok (.lreturn, 1) := by decide +kernel
theorem d_ES_value_25 : decode b_ES_value 25 = .ok (.aload_n 0, 1) := by decide +kernel
theorem d_ES_value_26 : decode b_ES_value 26 = .ok (.getfield 50, 3) := by decide +kernel
theorem d_ES_value_29 : decode b_ES_value 29 = .ok (.iload_n 1, 1) := by decide +kernel
theorem d_ES_value_30 : decode b_ES_value 30 = .ok (.invokevirtual 123, 3) := by decide +kernel
theorem d_ES_value_33 : decode b_ES_value 33 = .ok (.aload_n 0, 1) := by decide +kernel
theorem d_ES_value_34 : decode b_ES_value 34 = .ok (.getfield 32, 3) := by decide +kernel
theorem d_ES_value_37 : decode b_ES_value 37 = .ok (.invokevirtual 127, 3) := by decide +kernel
theorem d_ES_value_40 : decode b_ES_value 40 = .ok (.i2l, 1) := by decide +kernel
theorem d_ES_value_41 : decode b_ES_value 41 = .ok (.iload_n 2, 1) := by decide +kernel
theorem d_ES_value_42 : decode b_ES_value 42 = .ok (.invokestatic 130, 3) := by decide +kernel
theorem d_ES_value_45 : decode b_ES_value 45 = .ok (.lreturn, 1) := by decide +kernel
theorem d_ES_isPart_0 : decode b_ES_isPart 0 = .ok (.iload_n 0, 1) := by decide +kernel
theorem d_ES_isPart_1 : decode b_ES_isPart 1 = .ok (.ifCond .eq (8), 3) := by decide +kernel
theorem d_ES_isPart_4 : decode b_ES_isPart 4 = .ok (.iload_n 0, 1) := by decide +kernel
theorem d_ES_isPart_5 : decode b_ES_isPart 5 = .ok (.iconst (1), 1) := by decide +kernel
theorem d_ES_isPart_6 : decode b_ES_isPart 6 = .ok (.if_icmp .ne (7), 3) := by decide +kernel
theorem d_ES_isPart_9 : decode b_ES_isPart 9 = .ok (.iconst (1), 1) := by decide +kernel
theorem d_ES_isPart_10 : decode b_ES_isPart 10 = .ok (.goto (4), 3) := by decide +kernel
theorem d_ES_isPart_13 : decode b_ES_isPart 13 = .ok (.iconst (0), 1) := by decide +kernel
theorem d_ES_isPart_14 : decode b_ES_isPart 14 = .ok (.ireturn, 1) := by decide +kernel
theorem d_ES_told_0 : decode b_ES_told 0 = .ok (.lload_n 2, 1) := by decide +kernel
theorem d_ES_told_1 : decode b_ES_told 1 = .ok (.lconst 0, 1) := by decide +kernel
theorem d_ES_told_2 : decode b_ES_told 2 = .ok (.lcmp, 1) := by decide +kernel
theorem d_ES_told_3 : decode b_ES_told 3 = .ok (.ifCond .gt (13), 3) := by decide +kernel
theorem d_ES_told_6 : decode b_ES_told 6 = .ok (.new 184, 3) := by decide +kernel
theorem d_ES_told_9 : decode b_ES_told 9 = .ok (.dup, 1) := by decide +kernel
theorem d_ES_told_10 : decode b_ES_told 10 = .ok (.ldc 186, 2) := by decide +kernel
theorem d_ES_told_12 : decode b_ES_told 12 = .ok (.invokespecial 188, 3) := by decide +kernel
theorem d_ES_told_15 : decode b_ES_told 15 = .ok (.athrow, 1) := by decide +kernel
theorem d_ES_told_16 : decode b_ES_told 16 = .ok (.lload_n 0, 1) := by decide +kernel
theorem d_ES_told_17 : decode b_ES_told 17 = .ok (.invokestatic 191, 3) := by decide +kernel
theorem d_ES_told_20 : decode b_ES_told 20 = .ok (.lload_n 2, 1) := by decide +kernel
theorem d_ES_told_21 : decode b_ES_told 21 = .ok (.invokestatic 195, 3) := by decide +kernel
theorem d_ES_told_24 : decode b_ES_told 24 = .ok (.lstore 5, 2) := by decide +kernel
theorem d_ES_told_26 : decode b_ES_told 26 = .ok (.lload 5, 2) := by decide +kernel
theorem d_ES_told_28 : decode b_ES_told 28 = .ok (.lconst 0, 1) := by decide +kernel
theorem d_ES_told_29 : decode b_ES_told 29 = .ok (.lcmp, 1) := by decide +kernel
theorem d_ES_told_30 : decode b_ES_told 30 = .ok (.ifCond .gt (7), 3) := by decide +kernel
theorem d_ES_told_33 : decode b_ES_told 33 = .ok (.ldc2_w 114, 3) := by decide +kernel
theorem d_ES_told_36 : decode b_ES_told 36 = .ok (.lreturn, 1) := by decide +kernel
theorem d_ES_told_37 : decode b_ES_told 37 = .ok (.iload 4, 2) := by decide +kernel
theorem d_ES_told_39 : decode b_ES_told 39 = .ok (.ifCond .ne (10), 3) := by decide +kernel
theorem d_ES_told_42 : decode b_ES_told 42 = .ok (.lload_n 0, 1) := by decide +kernel
theorem d_ES_told_43 : decode b_ES_told 43 = .ok (.lload 5, 2) := by decide +kernel
theorem d_ES_told_45 : decode b_ES_told 45 = .ok (.ldiv, 1) := by decide +kernel
theorem d_ES_told_46 : decode b_ES_told 46 = .ok (.goto (7), 3) := by decide +kernel
theorem d_ES_told_49 : decode b_ES_told 49 = .ok (.lload_n 2, 1) := by decide +kernel
theorem d_ES_told_50 : decode b_ES_told 50 = .ok (.lload 5, 2) := by decide +kernel
theorem d_ES_told_52 : decode b_ES_told 52 = .ok (.ldiv, 1) := by decide +kernel
theorem d_ES_told_53 : decode b_ES_told 53 = .ok (.lreturn, 1) := by decide +kernel
theorem d_ES_commonDivisor_0 : decode b_ES_commonDivisor 0 = .ok (.lload_n 0, 1) := by decide +kernel
theorem d_ES_commonDivisor_1 : decode b_ES_commonDivisor 1 = .ok (.lstore 4, 2) := by decide +kernel
theorem d_ES_commonDivisor_3 : decode b_ES_commonDivisor 3 = .ok (.lload_n 2, 1) := by decide +kernel
theorem d_ES_commonDivisor_4 : decode b_ES_commonDivisor 4 = .ok (.lstore 6, 2) := by decide +kernel
theorem d_ES_commonDivisor_6 : decode b_ES_commonDivisor 6 = .ok (.iconst (0), 1) := by decide +kernel
theorem d_ES_commonDivisor_7 : decode b_ES_commonDivisor 7 = .ok (.istore 8, 2) := by decide +kernel
theorem d_ES_commonDivisor_9 : decode b_ES_commonDivisor 9 = .ok (.iload 8, 2) := by decide +kernel
theorem d_ES_commonDivisor_11 : decode b_ES_commonDivisor 11 = .ok (.bipush (100), 2) := by decide +kernel
theorem d_ES_commonDivisor_13 : decode b_ES_commonDivisor 13 = .ok (.if_icmp .ge (31), 3) := by decide +kernel
theorem d_ES_commonDivisor_16 : decode b_ES_commonDivisor 16 = .ok (.lload 6, 2) := by decide +kernel
theorem d_ES_commonDivisor_18 : decode b_ES_commonDivisor 18 = .ok (.lconst 0, 1) := by decide +kernel
theorem d_ES_commonDivisor_19 : decode b_ES_commonDivisor 19 = .ok (.lcmp, 1) := by decide +kernel
theorem d_ES_commonDivisor_20 : decode b_ES_commonDivisor 20 = .ok (.ifCond .eq (24), 3) := by decide +kernel
theorem d_ES_commonDivisor_23 : decode b_ES_commonDivisor 23 = .ok (.lload 4, 2) := by decide +kernel
theorem d_ES_commonDivisor_25 : decode b_ES_commonDivisor 25 = .ok (.lload 6, 2) := by decide +kernel
theorem d_ES_commonDivisor_27 : decode b_ES_commonDivisor 27 = .ok (.lrem, 1) := by decide +kernel
theorem d_ES_commonDivisor_28 : decode b_ES_commonDivisor 28 = .ok (.lstore 9, 2) := by decide +kernel
theorem d_ES_commonDivisor_30 : decode b_ES_commonDivisor 30 = .ok (.lload 6, 2) := by decide +kernel
theorem d_ES_commonDivisor_32 : decode b_ES_commonDivisor 32 = .ok (.lstore 4, 2) := by decide +kernel
theorem d_ES_commonDivisor_34 : decode b_ES_commonDivisor 34 = .ok (.lload 9, 2) := by decide +kernel
theorem d_ES_commonDivisor_36 : decode b_ES_commonDivisor 36 = .ok (.lstore 6, 2) := by decide +kernel
theorem d_ES_commonDivisor_38 : decode b_ES_commonDivisor 38 = .ok (.iinc 8 (1), 3) := by decide +kernel
theorem d_ES_commonDivisor_41 : decode b_ES_commonDivisor 41 = .ok (.goto (-32), 3) := by decide +kernel
theorem d_ES_commonDivisor_44 : decode b_ES_commonDivisor 44 = .ok (.lload 4, 2) := by decide +kernel
theorem d_ES_commonDivisor_46 : decode b_ES_commonDivisor 46 = .ok (.lreturn, 1) := by decide +kernel
theorem d_La_share_0 : decode b_La_share 0 = .ok (.aload 4, 2) := by decide +kernel
theorem d_La_share_2 : decode b_La_share 2 = .ok (.iconst (0), 1) := by decide +kernel
theorem d_La_share_3 : decode b_La_share 3 = .ok (.aload_n 0, 1) := by decide +kernel
theorem d_La_share_4 : decode b_La_share 4 = .ok (.iload_n 1, 1) := by decide +kernel
theorem d_La_share_5 : decode b_La_share 5 = .ok (.iload_n 2, 1) := by decide +kernel
theorem d_La_share_6 : decode b_La_share 6 = .ok (.iload_n 3, 1) := by decide +kernel
theorem d_La_share_7 : decode b_La_share 7 = .ok (.invokevirtual 15, 3) := by decide +kernel
theorem d_La_share_10 : decode b_La_share 10 = .ok (.lastore, 1) := by decide +kernel
theorem d_La_share_11 : decode b_La_share 11 = .ok (.goto (7), 3) := by decide +kernel
theorem d_La_share_14 : decode b_La_share 14 = .ok (.astore 5, 2) := by decide +kernel
theorem d_La_share_16 : decode b_La_share 16 = .ok (.iconst (1), 1) := by decide +kernel
theorem d_La_share_17 : decode b_La_share 17 = .ok (.ireturn, 1) := by decide +kernel
theorem d_La_share_18 : decode b_La_share 18 = .ok (.iconst (0), 1) := by decide +kernel
theorem d_La_share_19 : decode b_La_share 19 = .ok (.ireturn, 1) := by decide +kernel
theorem d_ES_share_0 : decode b_ES_share 0 = .ok (.aload_n 0, 1) := by decide +kernel
theorem d_ES_share_1 : decode b_ES_share 1 = .ok (.iload_n 1, 1) := by decide +kernel
theorem d_ES_share_2 : decode b_ES_share 2 = .ok (.invokevirtual 71, 3) := by decide +kernel
theorem d_ES_share_5 : decode b_ES_share 5 = .ok (.ifCond .eq (17), 3) := by decide +kernel
theorem d_ES_share_8 : decode b_ES_share 8 = .ok (.iload_n 2, 1) := by decide +kernel
theorem d_ES_share_9 : decode b_ES_share 9 = .ok (.invokestatic 134, 3) := by decide +kernel
theorem d_ES_share_12 : decode b_ES_share 12 = .ok (.ifCond .eq (10), 3) := by decide +kernel
theorem d_ES_share_15 : decode b_ES_share 15 = .ok (.iload_n 3, 1) := by decide +kernel
theorem d_ES_share_16 : decode b_ES_share 16 = .ok (.invokestatic 120, 3) := by decide +kernel
theorem d_ES_share_19 : decode b_ES_share 19 = .ok (.ifCond .ne (7), 3) := by decide +kernel
theorem d_ES_share_22 : decode b_ES_share 22 = .ok (.ldc2_w 114, 3) := by decide +kernel
theorem d_ES_share_25 : decode b_ES_share 25 = .ok (.lreturn, 1) := by decide +kernel
theorem d_ES_share_26 : decode b_ES_share 26 = .ok (.aload_n 0, 1) := by decide +kernel
theorem d_ES_share_27 : decode b_ES_share 27 = .ok (.getfield 50, 3) := by decide +kernel
theorem d_ES_share_30 : decode b_ES_share 30 = .ok (.aload_n 0, 1) := by decide +kernel
theorem d_ES_share_31 : decode b_ES_share 31 = .ok (.getfield 41, 3) := by decide +kernel
theorem d_ES_share_34 : decode b_ES_share 34 = .ok (.iload_n 1, 1) := by decide +kernel
theorem d_ES_share_35 : decode b_ES_share 35 = .ok (.invokevirtual 137, 3) := by decide +kernel
theorem d_ES_share_38 : decode b_ES_share 38 = .ok (.iload_n 2, 1) := by decide +kernel
theorem d_ES_share_39 : decode b_ES_share 39 = .ok (.invokevirtual 140, 3) := by decide +kernel
theorem d_ES_share_42 : decode b_ES_share 42 = .ok (.lstore 4, 2) := by decide +kernel
theorem d_ES_share_44 : decode b_ES_share 44 = .ok (.lload 4, 2) := by decide +kernel
theorem d_ES_share_46 : decode b_ES_share 46 = .ok (.aload_n 0, 1) := by decide +kernel
theorem d_ES_share_47 : decode b_ES_share 47 = .ok (.getfield 50, 3) := by decide +kernel
theorem d_ES_share_50 : decode b_ES_share 50 = .ok (.iload_n 2, 1) := by decide +kernel
theorem d_ES_share_51 : decode b_ES_share 51 = .ok (.invokevirtual 144, 3) := by decide +kernel
theorem d_ES_share_54 : decode b_ES_share 54 = .ok (.aload_n 0, 1) := by decide +kernel
theorem d_ES_share_55 : decode b_ES_share 55 = .ok (.getfield 32, 3) := by decide +kernel
theorem d_ES_share_58 : decode b_ES_share 58 = .ok (.invokevirtual 127, 3) := by decide +kernel
theorem d_ES_share_61 : decode b_ES_share 61 = .ok (.i2l, 1) := by decide +kernel
theorem d_ES_share_62 : decode b_ES_share 62 = .ok (.lmul, 1) := by decide +kernel
theorem d_ES_share_63 : decode b_ES_share 63 = .ok (.iload_n 3, 1) := by decide +kernel
theorem d_ES_share_64 : decode b_ES_share 64 = .ok (.invokestatic 130, 3) := by decide +kernel
theorem d_ES_share_67 : decode b_ES_share 67 = .ok (.lreturn, 1) := by decide +kernel
theorem d_ES_isManner_0 : decode b_ES_isManner 0 = .ok (.iload_n 0, 1) := by decide +kernel
theorem d_ES_isManner_1 : decode b_ES_isManner 1 = .ok (.ifCond .eq (8), 3) := by decide +kernel
theorem d_ES_isManner_4 : decode b_ES_isManner 4 = .ok (.iload_n 0, 1) := by decide +kernel
theorem d_ES_isManner_5 : decode b_ES_isManner 5 = .ok (.iconst (1), 1) := by decide +kernel
theorem d_ES_isManner_6 : decode b_ES_isManner 6 = .ok (.if_icmp .ne (7), 3) := by decide +kernel
theorem d_ES_isManner_9 : decode b_ES_isManner 9 = .ok (.iconst (1), 1) := by decide +kernel
theorem d_ES_isManner_10 : decode b_ES_isManner 10 = .ok (.goto (4), 3) := by decide +kernel
theorem d_ES_isManner_13 : decode b_ES_isManner 13 = .ok (.iconst (0), 1) := by decide +kernel
theorem d_ES_isManner_14 : decode b_ES_isManner 14 = .ok (.ireturn, 1) := by decide +kernel
theorem d_Gr_ofColumn_0 : decode b_Gr_ofColumn 0 = .ok (.aload_n 0, 1) := by decide +kernel
theorem d_Gr_ofColumn_1 : decode b_Gr_ofColumn 1 = .ok (.getfield 9, 3) := by decide +kernel
theorem d_Gr_ofColumn_4 : decode b_Gr_ofColumn 4 = .ok (.iload_n 1, 1) := by decide +kernel
theorem d_Gr_ofColumn_5 : decode b_Gr_ofColumn 5 = .ok (.iaload, 1) := by decide +kernel
theorem d_Gr_ofColumn_6 : decode b_Gr_ofColumn 6 = .ok (.ireturn, 1) := by decide +kernel
theorem d_Me_shareWays_0 : decode b_Me_shareWays 0 = .ok (.aload_n 0, 1) := by decide +kernel
theorem d_Me_shareWays_1 : decode b_Me_shareWays 1 = .ok (.getfield 27, 3) := by decide +kernel
theorem d_Me_shareWays_4 : decode b_Me_shareWays 4 = .ok (.invokevirtual 85, 3) := by decide +kernel
theorem d_Me_shareWays_7 : decode b_Me_shareWays 7 = .ok (.istore_n 2, 1) := by decide +kernel
theorem d_Me_shareWays_8 : decode b_Me_shareWays 8 = .ok (.iload_n 1, 1) := by decide +kernel
theorem d_Me_shareWays_9 : decode b_Me_shareWays 9 = .ok (.iconst (1), 1) := by decide +kernel
theorem d_Me_shareWays_10 : decode b_Me_shareWays 10 = .ok (.if_icmp .ne (11), 3) := by decide +kernel
theorem d_Me_shareWays_13 : decode b_Me_shareWays 13 = .ok (.lconst 1, 1) := by decide +kernel
theorem d_Me_shareWays_14 : decode b_Me_shareWays 14 = .ok (.iload_n 2, 1) := by decide +kernel
theorem d_Me_shareWays_15 : decode b_Me_shareWays 15 = .ok (.iconst (1), 1) := by decide +kernel
theorem d_Me_shareWays_16 : decode b_Me_shareWays 16 = .ok (.isub, 1) := by decide +kernel
theorem d_Me_shareWays_17 : decode b_Me_shareWays 17 = .ok (.lshl, 1) := by decide +kernel
theorem d_Me_shareWays_18 : decode b_Me_shareWays 18 = .ok (.goto (7), 3) := by decide +kernel
theorem d_Me_shareWays_21 : decode b_Me_shareWays 21 = .ok (.iload_n 2, 1) := by decide +kernel
theorem d_Me_shareWays_22 : decode b_Me_shareWays 22 = .ok (.invokestatic 86, 3) := by decide +kernel
theorem d_Me_shareWays_25 : decode b_Me_shareWays 25 = .ok (.lreturn, 1) := by decide +kernel
theorem d_La_both_0 : decode b_La_both 0 = .ok (.aload 4, 2) := by decide +kernel
theorem d_La_both_2 : decode b_La_both 2 = .ok (.iconst (0), 1) := by decide +kernel
theorem d_La_both_3 : decode b_La_both 3 = .ok (.aload_n 0, 1) := by decide +kernel
theorem d_La_both_4 : decode b_La_both 4 = .ok (.iload_n 1, 1) := by decide +kernel
theorem d_La_both_5 : decode b_La_both 5 = .ok (.iload_n 2, 1) := by decide +kernel
theorem d_La_both_6 : decode b_La_both 6 = .ok (.iload_n 3, 1) := by decide +kernel
theorem d_La_both_7 : decode b_La_both 7 = .ok (.invokevirtual 19, 3) := by decide +kernel
theorem d_La_both_10 : decode b_La_both 10 = .ok (.lastore, 1) := by decide +kernel
theorem d_La_both_11 : decode b_La_both 11 = .ok (.goto (7), 3) := by decide +kernel
theorem d_La_both_14 : decode b_La_both 14 = .ok (.astore 5, 2) := by decide +kernel
theorem d_La_both_16 : decode b_La_both 16 = .ok (.iconst (1), 1) := by decide +kernel
theorem d_La_both_17 : decode b_La_both 17 = .ok (.ireturn, 1) := by decide +kernel
theorem d_La_both_18 : decode b_La_both 18 = .ok (.iconst (0), 1) := by decide +kernel
theorem d_La_both_19 : decode b_La_both 19 = .ok (.ireturn, 1) := by decide +kernel
theorem d_ES_both_0 : decode b_ES_both 0 = .ok (.aload_n 0, 1) := by decide +kernel
theorem d_ES_both_1 : decode b_ES_both 1 = .ok (.iload_n 1, 1) := by decide +kernel
theorem d_ES_both_2 : decode b_ES_both 2 = .ok (.invokevirtual 71, 3) := by decide +kernel
theorem d_ES_both_5 : decode b_ES_both 5 = .ok (.ifCond .eq (18), 3) := by decide +kernel
theorem d_ES_both_8 : decode b_ES_both 8 = .ok (.aload_n 0, 1) := by decide +kernel
theorem d_ES_both_9 : decode b_ES_both 9 = .ok (.iload_n 2, 1) := by decide +kernel
theorem d_ES_both_10 : decode b_ES_both 10 = .ok (.invokevirtual 71, 3) := by decide +kernel
theorem d_ES_both_13 : decode b_ES_both 13 = .ok (.ifCond .eq (10), 3) := by decide +kernel
theorem d_ES_both_16 : decode b_ES_both 16 = .ok (.iload_n 3, 1) := by decide +kernel
theorem d_ES_both_17 : decode b_ES_both 17 = .ok (.invokestatic 120, 3) := by decide +kernel
theorem d_ES_both_20 : decode b_ES_both 20 = .ok (.ifCond .ne (7), 3) := by decide +kernel
theorem d_ES_both_23 : decode b_ES_both 23 = .ok (.ldc2_w 114, 3) := by decide +kernel
theorem d_ES_both_26 : decode b_ES_both 26 = .ok (.lreturn, 1) := by decide +kernel
theorem d_ES_both_27 : decode b_ES_both 27 = .ok (.aload_n 0, 1) := by decide +kernel
theorem d_ES_both_28 : decode b_ES_both 28 = .ok (.getfield 41, 3) := by decide +kernel
theorem d_ES_both_31 : decode b_ES_both 31 = .ok (.iload_n 1, 1) := by decide +kernel
theorem d_ES_both_32 : decode b_ES_both 32 = .ok (.invokevirtual 137, 3) := by decide +kernel
theorem d_ES_both_35 : decode b_ES_both 35 = .ok (.istore 4, 2) := by decide +kernel
theorem d_ES_both_37 : decode b_ES_both 37 = .ok (.aload_n 0, 1) := by decide +kernel
theorem d_ES_both_38 : decode b_ES_both 38 = .ok (.getfield 41, 3) := by decide +kernel
theorem d_ES_both_41 : decode b_ES_both 41 = .ok (.iload_n 2, 1) := by decide +kernel
theorem d_ES_both_42 : decode b_ES_both 42 = .ok (.invokevirtual 137, 3) := by decide +kernel
theorem d_ES_both_45 : decode b_ES_both 45 = .ok (.istore 5, 2) := by decide +kernel
theorem d_ES_both_47 : decode b_ES_both 47 = .ok (.iload 4, 2) := by decide +kernel
theorem d_ES_both_49 : decode b_ES_both 49 = .ok (.iload 5, 2) := by decide +kernel
theorem d_ES_both_51 : decode b_ES_both 51 = .ok (.if_icmp .ne (7), 3) := by decide +kernel
theorem d_ES_both_54 : decode b_ES_both 54 = .ok (.ldc2_w 114, 3) := by decide +kernel
theorem d_ES_both_57 : decode b_ES_both 57 = .ok (.lreturn, 1) := by decide +kernel
theorem d_ES_both_58 : decode b_ES_both 58 = .ok (.aload_n 0, 1) := by decide +kernel
theorem d_ES_both_59 : decode b_ES_both 59 = .ok (.getfield 50, 3) := by decide +kernel
theorem d_ES_both_62 : decode b_ES_both 62 = .ok (.iload 4, 2) := by decide +kernel
theorem d_ES_both_64 : decode b_ES_both 64 = .ok (.iload 5, 2) := by decide +kernel
theorem d_ES_both_66 : decode b_ES_both 66 = .ok (.invokevirtual 147, 3) := by decide +kernel
theorem d_ES_both_69 : decode b_ES_both 69 = .ok (.aload_n 0, 1) := by decide +kernel
theorem d_ES_both_70 : decode b_ES_both 70 = .ok (.getfield 50, 3) := by decide +kernel
theorem d_ES_both_73 : decode b_ES_both 73 = .ok (.invokevirtual 150, 3) := by decide +kernel
theorem d_ES_both_76 : decode b_ES_both 76 = .ok (.aload_n 0, 1) := by decide +kernel
theorem d_ES_both_77 : decode b_ES_both 77 = .ok (.getfield 32, 3) := by decide +kernel
theorem d_ES_both_80 : decode b_ES_both 80 = .ok (.invokevirtual 127, 3) := by decide +kernel
theorem d_ES_both_83 : decode b_ES_both 83 = .ok (.i2l, 1) := by decide +kernel
theorem d_ES_both_84 : decode b_ES_both 84 = .ok (.lmul, 1) := by decide +kernel
theorem d_ES_both_85 : decode b_ES_both 85 = .ok (.iload_n 3, 1) := by decide +kernel
theorem d_ES_both_86 : decode b_ES_both 86 = .ok (.invokestatic 130, 3) := by decide +kernel
theorem d_ES_both_89 : decode b_ES_both 89 = .ok (.lreturn, 1) := by decide +kernel
theorem d_Me_togetherSum_0 : decode b_Me_togetherSum 0 = .ok (.aload_n 0, 1) := by decide +kernel
theorem d_Me_togetherSum_1 : decode b_Me_togetherSum 1 = .ok (.getfield 27, 3) := by decide +kernel
theorem d_Me_togetherSum_4 : decode b_Me_togetherSum 4 = .ok (.invokevirtual 64, 3) := by decide +kernel
theorem d_Me_togetherSum_7 : decode b_Me_togetherSum 7 = .ok (.iconst (1), 1) := by decide +kernel
theorem d_Me_togetherSum_8 : decode b_Me_togetherSum 8 = .ok (.iload_n 1, 1) := by decide +kernel
theorem d_Me_togetherSum_9 : decode b_Me_togetherSum 9 = .ok (.ishl, 1) := by decide +kernel
theorem d_Me_togetherSum_10 : decode b_Me_togetherSum 10 = .ok (.iconst (-1), 1) := by decide +kernel
theorem d_Me_togetherSum_11 : decode b_Me_togetherSum 11 = .ok (.ixor, 1) := by decide +kernel
theorem d_Me_togetherSum_12 : decode b_Me_togetherSum 12 = .ok (.iand, 1) := by decide +kernel
theorem d_Me_togetherSum_13 : decode b_Me_togetherSum 13 = .ok (.iconst (1), 1) := by decide +kernel
theorem d_Me_togetherSum_14 : decode b_Me_togetherSum 14 = .ok (.iload_n 2, 1) := by decide +kernel
theorem d_Me_togetherSum_15 : decode b_Me_togetherSum 15 = .ok (.ishl, 1) := by decide +kernel
theorem d_Me_togetherSum_16 : decode b_Me_togetherSum 16 = .ok (.iconst (-1), 1) := by decide +kernel
theorem d_Me_togetherSum_17 : decode b_Me_togetherSum 17 = .ok (.ixor, 1) := by decide +kernel
theorem d_Me_togetherSum_18 : decode b_Me_togetherSum 18 = .ok (.iand, 1) := by decide +kernel
theorem d_Me_togetherSum_19 : decode b_Me_togetherSum 19 = .ok (.istore_n 3, 1) := by decide +kernel
theorem d_Me_togetherSum_20 : decode b_Me_togetherSum 20 = .ok (.aload_n 0, 1) := by decide +kernel
theorem d_Me_togetherSum_21 : decode b_Me_togetherSum 21 = .ok (.getfield 27, 3) := by decide +kernel
theorem d_Me_togetherSum_24 : decode b_Me_togetherSum 24 = .ok (.iconst (1), 1) := by decide +kernel
theorem d_Me_togetherSum_25 : decode b_Me_togetherSum 25 = .ok (.iload_n 1, 1) := by decide +kernel
theorem d_Me_togetherSum_26 : decode b_Me_togetherSum 26 = .ok (.ishl, 1) := by decide +kernel
theorem d_Me_togetherSum_27 : decode b_Me_togetherSum 27 = .ok (.invokevirtual 69, 3) := by decide +kernel
theorem d_Me_togetherSum_30 : decode b_Me_togetherSum 30 = .ok (.istore 4, 2) := by decide +kernel
theorem d_Me_togetherSum_32 : decode b_Me_togetherSum 32 = .ok (.aload_n 0, 1) := by decide +kernel
theorem d_Me_togetherSum_33 : decode b_Me_togetherSum 33 = .ok (.getfield 27, 3) := by decide +kernel
theorem d_Me_togetherSum_36 : decode b_Me_togetherSum 36 = .ok (.iconst (1), 1) := by decide +kernel
theorem d_Me_togetherSum_37 : decode b_Me_togetherSum 37 = .ok (.iload_n 2, 1) := by decide +kernel
theorem d_Me_togetherSum_38 : decode b_Me_togetherSum 38 = .ok (.ishl, 1) := by decide +kernel
theorem d_Me_togetherSum_39 : decode b_Me_togetherSum 39 = .ok (.invokevirtual 69, 3) := by decide +kernel
theorem d_Me_togetherSum_42 : decode b_Me_togetherSum 42 = .ok (.istore 5, 2) := by decide +kernel
theorem d_Me_togetherSum_44 : decode b_Me_togetherSum 44 = .ok (.iload_n 3, 1) := by decide +kernel
theorem d_Me_togetherSum_45 : decode b_Me_togetherSum 45 = .ok (.invokestatic 73, 3) := by decide +kernel
theorem d_Me_togetherSum_48 : decode b_Me_togetherSum 48 = .ok (.istore 6, 2) := by decide +kernel
theorem d_Me_togetherSum_50 : decode b_Me_togetherSum 50 = .ok (.lconst 0, 1) := by decide +kernel
theorem d_Me_togetherSum_51 : decode b_Me_togetherSum 51 = .ok (.lstore 7, 2) := by decide +kernel
theorem d_Me_togetherSum_53 : decode b_Me_togetherSum 53 = .ok (.iconst (0), 1) := by decide +kernel
theorem d_Me_togetherSum_54 : decode b_Me_togetherSum 54 = .ok (.istore 9, 2) := by decide +kernel
theorem d_Me_togetherSum_56 : decode b_Me_togetherSum 56 = .ok (.iload 9, 2) := by decide +kernel
theorem d_Me_togetherSum_58 : decode b_Me_togetherSum 58 = .ok (.iload_n 3, 1) := by decide +kernel
theorem d_Me_togetherSum_59 : decode b_Me_togetherSum 59 = .ok (.if_icmp .gt (66), 3) := by decide +kernel
theorem d_Me_togetherSum_62 : decode b_Me_togetherSum 62 = .ok (.iload 9, 2) := by decide +kernel
theorem d_Me_togetherSum_64 : decode b_Me_togetherSum 64 = .ok (.iload_n 3, 1) := by decide +kernel
theorem d_Me_togetherSum_65 : decode b_Me_togetherSum 65 = .ok (.iconst (-1), 1) := by decide +kernel
theorem d_Me_togetherSum_66 : decode b_Me_togetherSum 66 = .ok (.ixor, 1) := by decide +kernel
theorem d_Me_togetherSum_67 : decode b_Me_togetherSum 67 = .ok (.iand, 1) := by decide +kernel
theorem d_Me_togetherSum_68 : decode b_Me_togetherSum 68 = .ok (.ifCond .ne (51), 3) := by decide +kernel
theorem d_Me_togetherSum_71 : decode b_Me_togetherSum 71 = .ok (.aload_n 0, 1) := by decide +kernel
theorem d_Me_togetherSum_72 : decode b_Me_togetherSum 72 = .ok (.getfield 27, 3) := by decide +kernel
theorem d_Me_togetherSum_75 : decode b_Me_togetherSum 75 = .ok (.iload 9, 2) := by decide +kernel
theorem d_Me_togetherSum_77 : decode b_Me_togetherSum 77 = .ok (.invokevirtual 69, 3) := by decide +kernel
theorem d_Me_togetherSum_80 : decode b_Me_togetherSum 80 = .ok (.istore 10, 2) := by decide +kernel
theorem d_Me_togetherSum_82 : decode b_Me_togetherSum 82 = .ok (.aload_n 0, 1) := by decide +kernel
theorem d_Me_togetherSum_83 : decode b_Me_togetherSum 83 = .ok (.iload 10, 2) := by decide +kernel
theorem d_Me_togetherSum_85 : decode b_Me_togetherSum 85 = .ok (.iload 5, 2) := by decide +kernel
theorem d_Me_togetherSum_87 : decode b_Me_togetherSum 87 = .ok (.ior, 1) := by decide +kernel
theorem d_Me_togetherSum_88 : decode b_Me_togetherSum 88 = .ok (.iload 4, 2) := by decide +kernel
theorem d_Me_togetherSum_90 : decode b_Me_togetherSum 90 = .ok (.invokevirtual 82, 3) := by decide +kernel
theorem d_Me_togetherSum_93 : decode b_Me_togetherSum 93 = .ok (.aload_n 0, 1) := by decide +kernel
theorem d_Me_togetherSum_94 : decode b_Me_togetherSum 94 = .ok (.iload 10, 2) := by decide +kernel
theorem d_Me_togetherSum_96 : decode b_Me_togetherSum 96 = .ok (.iload 4, 2) := by decide +kernel
theorem d_Me_togetherSum_98 : decode b_Me_togetherSum 98 = .ok (.invokevirtual 82, 3) := by decide +kernel
theorem d_Me_togetherSum_101 : decode b_Me_togetherSum 101 = .ok (.lsub, 1) := by decide +kernel
theorem d_Me_togetherSum_102 : decode b_Me_togetherSum 102 = .ok (.lstore 11, 2) := by decide +kernel
theorem d_Me_togetherSum_104 : decode b_Me_togetherSum 104 = .ok (.lload 7, 2) := by decide +kernel
theorem d_Me_togetherSum_106 : decode b_Me_togetherSum 106 = .ok (.iload 9, 2) := by decide +kernel
theorem d_Me_togetherSum_108 : decode b_Me_togetherSum 108 = .ok (.iload 6, 2) := by decide +kernel
theorem d_Me_togetherSum_110 : decode b_Me_togetherSum 110 = .ok (.invokestatic 78, 3) := by decide +kernel
theorem d_Me_togetherSum_113 : decode b_Me_togetherSum 113 = .ok (.lload 11, 2) := by decide +kernel
theorem d_Me_togetherSum_115 : decode b_Me_togetherSum 115 = .ok (.lmul, 1) := by decide +kernel
theorem d_Me_togetherSum_116 : decode b_Me_togetherSum 116 = .ok (.ladd, 1) := by decide +kernel
theorem d_Me_togetherSum_117 : decode b_Me_togetherSum 117 = .ok (.lstore 7, 2) := by decide +kernel
theorem d_Me_togetherSum_119 : decode b_Me_togetherSum 119 = .ok (.iinc 9 (1), 3) := by decide +kernel
theorem d_Me_togetherSum_122 : decode b_Me_togetherSum 122 = .ok (.goto (-66), 3) := by decide +kernel
theorem d_Me_togetherSum_125 : decode b_Me_togetherSum 125 = .ok (.lload 7, 2) := by decide +kernel
theorem d_Me_togetherSum_127 : decode b_Me_togetherSum 127 = .ok (.lreturn, 1) := by decide +kernel
theorem d_Me_togetherWays_0 : decode b_Me_togetherWays 0 = .ok (.aload_n 0, 1) := by decide +kernel
theorem d_Me_togetherWays_1 : decode b_Me_togetherWays 1 = .ok (.getfield 27, 3) := by decide +kernel
theorem d_Me_togetherWays_4 : decode b_Me_togetherWays 4 = .ok (.invokevirtual 85, 3) := by decide +kernel
theorem d_Me_togetherWays_7 : decode b_Me_togetherWays 7 = .ok (.iconst (1), 1) := by decide +kernel
theorem d_Me_togetherWays_8 : decode b_Me_togetherWays 8 = .ok (.isub, 1) := by decide +kernel
theorem d_Me_togetherWays_9 : decode b_Me_togetherWays 9 = .ok (.invokestatic 86, 3) := by decide +kernel
theorem d_Me_togetherWays_12 : decode b_Me_togetherWays 12 = .ok (.lreturn, 1) := by decide +kernel
theorem d_La_drawn_0 : decode b_La_drawn 0 = .ok (.aload 5, 2) := by decide +kernel
theorem d_La_drawn_2 : decode b_La_drawn 2 = .ok (.iconst (0), 1) := by decide +kernel
theorem d_La_drawn_3 : decode b_La_drawn 3 = .ok (.aload_n 0, 1) := by decide +kernel
theorem d_La_drawn_4 : decode b_La_drawn 4 = .ok (.iload_n 1, 1) := by decide +kernel
theorem d_La_drawn_5 : decode b_La_drawn 5 = .ok (.iload_n 2, 1) := by decide +kernel
theorem d_La_drawn_6 : decode b_La_drawn 6 = .ok (.iload_n 3, 1) := by decide +kernel
theorem d_La_drawn_7 : decode b_La_drawn 7 = .ok (.iload 4, 2) := by decide +kernel
theorem d_La_drawn_9 : decode b_La_drawn 9 = .ok (.invokevirtual 22, 3) := by decide +kernel
theorem d_La_drawn_12 : decode b_La_drawn 12 = .ok (.lastore, 1) := by decide +kernel
theorem d_La_drawn_13 : decode b_La_drawn 13 = .ok (.goto (7), 3) := by decide +kernel
theorem d_La_drawn_16 : decode b_La_drawn 16 = .ok (.astore 6, 2) := by decide +kernel
theorem d_La_drawn_18 : decode b_La_drawn 18 = .ok (.iconst (1), 1) := by decide +kernel
theorem d_La_drawn_19 : decode b_La_drawn 19 = .ok (.ireturn, 1) := by decide +kernel
theorem d_La_drawn_20 : decode b_La_drawn 20 = .ok (.iconst (0), 1) := by decide +kernel
theorem d_La_drawn_21 : decode b_La_drawn 21 = .ok (.ireturn, 1) := by decide +kernel
theorem d_ES_drawn_0 : decode b_ES_drawn 0 = .ok (.aload_n 0, 1) := by decide +kernel
theorem d_ES_drawn_1 : decode b_ES_drawn 1 = .ok (.iload_n 1, 1) := by decide +kernel
theorem d_ES_drawn_2 : decode b_ES_drawn 2 = .ok (.invokevirtual 71, 3) := by decide +kernel
theorem d_ES_drawn_5 : decode b_ES_drawn 5 = .ok (.ifCond .eq (22), 3) := by decide +kernel
theorem d_ES_drawn_8 : decode b_ES_drawn 8 = .ok (.iload 4, 2) := by decide +kernel
theorem d_ES_drawn_10 : decode b_ES_drawn 10 = .ok (.invokestatic 120, 3) := by decide +kernel
theorem d_ES_drawn_13 : decode b_ES_drawn 13 = .ok (.ifCond .eq (14), 3) := by decide +kernel
theorem d_ES_drawn_16 : decode b_ES_drawn 16 = .ok (.iload_n 3, 1) := by decide +kernel
theorem d_ES_drawn_17 : decode b_ES_drawn 17 = .ok (.iconst (1), 1) := by decide +kernel
theorem d_ES_drawn_18 : decode b_ES_drawn 18 = .ok (.if_icmp .lt (9), 3) := by decide +kernel
theorem d_ES_drawn_21 : decode b_ES_drawn 21 = .ok (.iload_n 3, 1) := by decide +kernel
theorem d_ES_drawn_22 : decode b_ES_drawn 22 = .ok (.bipush (20), 2) := by decide +kernel
theorem d_ES_drawn_24 : decode b_ES_drawn 24 = .ok (.if_icmp .le (7), 3) := by decide +kernel
theorem d_ES_drawn_27 : decode b_ES_drawn 27 = .ok (.ldc2_w 114, 3) := by decide +kernel
theorem d_ES_drawn_30 : decode b_ES_drawn 30 = .ok (.lreturn, 1) := by decide +kernel
theorem d_ES_drawn_31 : decode b_ES_drawn 31 = .ok (.aload_n 0, 1) := by decide +kernel
theorem d_ES_drawn_32 : decode b_ES_drawn 32 = .ok (.getfield 50, 3) := by decide +kernel
theorem d_ES_drawn_35 : decode b_ES_drawn 35 = .ok (.aload_n 0, 1) := by decide +kernel
theorem d_ES_drawn_36 : decode b_ES_drawn 36 = .ok (.getfield 41, 3) := by decide +kernel
theorem d_ES_drawn_39 : decode b_ES_drawn 39 = .ok (.iload_n 1, 1) := by decide +kernel
theorem d_ES_drawn_40 : decode b_ES_drawn 40 = .ok (.invokevirtual 137, 3) := by decide +kernel
theorem d_ES_drawn_43 : decode b_ES_drawn 43 = .ok (.iload_n 2, 1) := by decide +kernel
theorem d_ES_drawn_44 : decode b_ES_drawn 44 = .ok (.iload_n 3, 1) := by decide +kernel
theorem d_ES_drawn_45 : decode b_ES_drawn 45 = .ok (.invokevirtual 154, 3) := by decide +kernel
theorem d_ES_drawn_48 : decode b_ES_drawn 48 = .ok (.lstore 5, 2) := by decide +kernel
theorem d_ES_drawn_50 : decode b_ES_drawn 50 = .ok (.lload 5, 2) := by decide +kernel
theorem d_ES_drawn_52 : decode b_ES_drawn 52 = .ok (.iload_n 3, 1) := by decide +kernel
theorem d_ES_drawn_53 : decode b_ES_drawn 53 = .ok (.i2l, 1) := by decide +kernel
theorem d_ES_drawn_54 : decode b_ES_drawn 54 = .ok (.aload_n 0, 1) := by decide +kernel
theorem d_ES_drawn_55 : decode b_ES_drawn 55 = .ok (.getfield 32, 3) := by decide +kernel
theorem d_ES_drawn_58 : decode b_ES_drawn 58 = .ok (.invokevirtual 127, 3) := by decide +kernel
theorem d_ES_drawn_61 : decode b_ES_drawn 61 = .ok (.i2l, 1) := by decide +kernel
theorem d_ES_drawn_62 : decode b_ES_drawn 62 = .ok (.lmul, 1) := by decide +kernel
theorem d_ES_drawn_63 : decode b_ES_drawn 63 = .ok (.iload 4, 2) := by decide +kernel
theorem d_ES_drawn_65 : decode b_ES_drawn 65 = .ok (.invokestatic 130, 3) := by decide +kernel
theorem d_ES_drawn_68 : decode b_ES_drawn 68 = .ok (.lreturn, 1) := by decide +kernel
theorem d_Me_drawnSum_0 : decode b_Me_drawnSum 0 = .ok (.aload_n 0, 1) := by decide +kernel
theorem d_Me_drawnSum_1 : decode b_Me_drawnSum 1 = .ok (.getfield 27, 3) := by decide +kernel
theorem d_Me_drawnSum_4 : decode b_Me_drawnSum 4 = .ok (.iconst (1), 1) := by decide +kernel
theorem d_Me_drawnSum_5 : decode b_Me_drawnSum 5 = .ok (.iload_n 1, 1) := by decide +kernel
theorem d_Me_drawnSum_6 : decode b_Me_drawnSum 6 = .ok (.ishl, 1) := by decide +kernel
theorem d_Me_drawnSum_7 : decode b_Me_drawnSum 7 = .ok (.invokevirtual 69, 3) := by decide +kernel
theorem d_Me_drawnSum_10 : decode b_Me_drawnSum 10 = .ok (.istore 4, 2) := by decide +kernel
theorem d_Me_drawnSum_12 : decode b_Me_drawnSum 12 = .ok (.lconst 0, 1) := by decide +kernel
theorem d_Me_drawnSum_13 : decode b_Me_drawnSum 13 = .ok (.lstore 5, 2) := by decide +kernel
theorem d_Me_drawnSum_15 : decode b_Me_drawnSum 15 = .ok (.aload_n 0, 1) := by decide +kernel
theorem d_Me_drawnSum_16 : decode b_Me_drawnSum 16 = .ok (.getfield 36, 3) := by decide +kernel
theorem d_Me_drawnSum_19 : decode b_Me_drawnSum 19 = .ok (.iload_n 2, 1) := by decide +kernel
theorem d_Me_drawnSum_20 : decode b_Me_drawnSum 20 = .ok (.invokevirtual 89, 3) := by decide +kernel
theorem d_Me_drawnSum_23 : decode b_Me_drawnSum 23 = .ok (.iconst (0), 1) := by decide +kernel
theorem d_Me_drawnSum_24 : decode b_Me_drawnSum 24 = .ok (.istore 7, 2) := by decide +kernel
theorem d_Me_drawnSum_26 : decode b_Me_drawnSum 26 = .ok (.iload 7, 2) := by decide +kernel
theorem d_Me_drawnSum_28 : decode b_Me_drawnSum 28 = .ok (.iload_n 3, 1) := by decide +kernel
theorem d_Me_drawnSum_29 : decode b_Me_drawnSum 29 = .ok (.if_icmp .ge (42), 3) := by decide +kernel
theorem d_Me_drawnSum_32 : decode b_Me_drawnSum 32 = .ok (.aload_n 0, 1) := by decide +kernel
theorem d_Me_drawnSum_33 : decode b_Me_drawnSum 33 = .ok (.getfield 36, 3) := by decide +kernel
theorem d_Me_drawnSum_36 : decode b_Me_drawnSum 36 = .ok (.invokevirtual 93, 3) := by decide +kernel
theorem d_Me_drawnSum_39 : decode b_Me_drawnSum 39 = .ok (.lload 5, 2) := by decide +kernel
theorem d_Me_drawnSum_41 : decode b_Me_drawnSum 41 = .ok (.aload_n 0, 1) := by decide +kernel
theorem d_Me_drawnSum_42 : decode b_Me_drawnSum 42 = .ok (.aload_n 0, 1) := by decide +kernel
theorem d_Me_drawnSum_43 : decode b_Me_drawnSum 43 = .ok (.getfield 27, 3) := by decide +kernel
theorem d_Me_drawnSum_46 : decode b_Me_drawnSum 46 = .ok (.aload_n 0, 1) := by decide +kernel
theorem d_Me_drawnSum_47 : decode b_Me_drawnSum 47 = .ok (.getfield 36, 3) := by decide +kernel
theorem d_Me_drawnSum_50 : decode b_Me_drawnSum 50 = .ok (.iload_n 1, 1) := by decide +kernel
theorem d_Me_drawnSum_51 : decode b_Me_drawnSum 51 = .ok (.invokevirtual 96, 3) := by decide +kernel
theorem d_Me_drawnSum_54 : decode b_Me_drawnSum 54 = .ok (.invokevirtual 69, 3) := by decide +kernel
theorem d_Me_drawnSum_57 : decode b_Me_drawnSum 57 = .ok (.iload 4, 2) := by decide +kernel
theorem d_Me_drawnSum_59 : decode b_Me_drawnSum 59 = .ok (.invokevirtual 82, 3) := by decide +kernel
theorem d_Me_drawnSum_62 : decode b_Me_drawnSum 62 = .ok (.ladd, 1) := by decide +kernel
theorem d_Me_drawnSum_63 : decode b_Me_drawnSum 63 = .ok (.lstore 5, 2) := by decide +kernel
theorem d_Me_drawnSum_65 : decode b_Me_drawnSum 65 = .ok (.iinc 7 (1), 3) := by decide +kernel
theorem d_Me_drawnSum_68 : decode b_Me_drawnSum 68 = .ok (.goto (-42), 3) := by decide +kernel
theorem d_Me_drawnSum_71 : decode b_Me_drawnSum 71 = .ok (.lload 5, 2) := by decide +kernel
theorem d_Me_drawnSum_73 : decode b_Me_drawnSum 73 = .ok (.lreturn, 1) := by decide +kernel
theorem d_Or_start_0 : decode b_Or_start 0 = .ok (.aload_n 0, 1) := by decide +kernel
theorem d_Or_start_1 : decode b_Or_start 1 = .ok (.iload_n 1, 1) := by decide +kernel
theorem d_Or_start_2 : decode b_Or_start 2 = .ok (.putfield 19, 3) := by decide +kernel
theorem d_Or_start_5 : decode b_Or_start 5 = .ok (.return_, 1) := by decide +kernel
theorem d_Or_drawNext_0 : decode b_Or_drawNext 0 = .ok (.aload_n 0, 1) := by decide +kernel
theorem d_Or_drawNext_1 : decode b_Or_drawNext 1 = .ok (.invokevirtual 26, 3) := by decide +kernel
theorem d_Or_drawNext_4 : decode b_Or_drawNext 4 = .ok (.aload_n 0, 1) := by decide +kernel
theorem d_Or_drawNext_5 : decode b_Or_drawNext 5 = .ok (.getfield 15, 3) := by decide +kernel
theorem d_Or_drawNext_8 : decode b_Or_drawNext 8 = .ok (.iconst (1), 1) := by decide +kernel
theorem d_Or_drawNext_9 : decode b_Or_drawNext 9 = .ok (.isub, 1) := by decide +kernel
theorem d_Or_drawNext_10 : decode b_Or_drawNext 10 = .ok (.istore_n 1, 1) := by decide +kernel
theorem d_Or_drawNext_11 : decode b_Or_drawNext 11 = .ok (.iload_n 1, 1) := by decide +kernel
theorem d_Or_drawNext_12 : decode b_Or_drawNext 12 = .ok (.iconst (1), 1) := by decide +kernel
theorem d_Or_drawNext_13 : decode b_Or_drawNext 13 = .ok (.if_icmp .lt (43), 3) := by decide +kernel
theorem d_Or_drawNext_16 : decode b_Or_drawNext 16 = .ok (.aload_n 0, 1) := by decide +kernel
theorem d_Or_drawNext_17 : decode b_Or_drawNext 17 = .ok (.iload_n 1, 1) := by decide +kernel
theorem d_Or_drawNext_18 : decode b_Or_drawNext 18 = .ok (.iconst (1), 1) := by decide +kernel
theorem d_Or_drawNext_19 : decode b_Or_drawNext 19 = .ok (.iadd, 1) := by decide +kernel
theorem d_Or_drawNext_20 : decode b_Or_drawNext 20 = .ok (.invokevirtual 29, 3) := by decide +kernel
theorem d_Or_drawNext_23 : decode b_Or_drawNext 23 = .ok (.istore_n 2, 1) := by decide +kernel
theorem d_Or_drawNext_24 : decode b_Or_drawNext 24 = .ok (.aload_n 0, 1) := by decide +kernel
theorem d_Or_drawNext_25 : decode b_Or_drawNext 25 = .ok (.getfield 9, 3) := by decide +kernel
theorem d_Or_drawNext_28 : decode b_Or_drawNext 28 = .ok (.iload_n 1, 1) := by decide +kernel
theorem d_Or_drawNext_29 : decode b_Or_drawNext 29 = .ok (.iaload, 1) := by decide +kernel
theorem d_Or_drawNext_30 : decode b_Or_drawNext 30 = .ok (.istore_n 3, 1) := by decide +kernel
theorem d_Or_drawNext_31 : decode b_Or_drawNext 31 = .ok (.aload_n 0, 1) := by decide +kernel
theorem d_Or_drawNext_32 : decode b_Or_drawNext 32 = .ok (.getfield 9, 3) := by decide +kernel
theorem d_Or_drawNext_35 : decode b_Or_drawNext 35 = .ok (.iload_n 1, 1) := by decide +kernel
theorem d_Or_drawNext_36 : decode b_Or_drawNext 36 = .ok (.aload_n 0, 1) := by decide +kernel
theorem d_Or_drawNext_37 : decode b_Or_drawNext 37 = .ok (.getfield 9, 3) := by decide +kernel
theorem d_Or_drawNext_40 : decode b_Or_drawNext 40 = .ok (.iload_n 2, 1) := by decide +kernel
theorem d_Or_drawNext_41 : decode b_Or_drawNext 41 = .ok (.iaload, 1) := by decide +kernel
theorem d_Or_drawNext_42 : decode b_Or_drawNext 42 = .ok (.iastore, 1) := by decide +kernel
theorem d_Or_drawNext_43 : decode b_Or_drawNext 43 = .ok (.aload_n 0, 1) := by decide +kernel
theorem d_Or_drawNext_44 : decode b_Or_drawNext 44 = .ok (.getfield 9, 3) := by decide +kernel
theorem d_Or_drawNext_47 : decode b_Or_drawNext 47 = .ok (.iload_n 2, 1) := by decide +kernel
theorem d_Or_drawNext_48 : decode b_Or_drawNext 48 = .ok (.iload_n 3, 1) := by decide +kernel
theorem d_Or_drawNext_49 : decode b_Or_drawNext 49 = .ok (.iastore, 1) := by decide +kernel
theorem d_Or_drawNext_50 : decode b_Or_drawNext 50 = .ok (.iinc 1 (-1), 3) := by decide +kernel
theorem d_Or_drawNext_53 : decode b_Or_drawNext 53 = .ok (.goto (-42), 3) := by decide +kernel
theorem d_Or_drawNext_56 : decode b_Or_drawNext 56 = .ok (.return_, 1) := by decide +kernel
theorem d_Or_lineUp_0 : decode b_Or_lineUp 0 = .ok (.aload_n 0, 1) := by decide +kernel
theorem d_Or_lineUp_1 : decode b_Or_lineUp 1 = .ok (.getfield 22, 3) := by decide +kernel
theorem d_Or_lineUp_4 : decode b_Or_lineUp 4 = .ok (.invokevirtual 33, 3) := by decide +kernel
theorem d_Or_lineUp_7 : decode b_Or_lineUp 7 = .ok (.istore_n 1, 1) := by decide +kernel
theorem d_Or_lineUp_8 : decode b_Or_lineUp 8 = .ok (.aload_n 0, 1) := by decide +kernel
theorem d_Or_lineUp_9 : decode b_Or_lineUp 9 = .ok (.iconst (0), 1) := by decide +kernel
theorem d_Or_lineUp_10 : decode b_Or_lineUp 10 = .ok (.putfield 15, 3) := by decide +kernel
theorem d_Or_lineUp_13 : decode b_Or_lineUp 13 = .ok (.iconst (0), 1) := by decide +kernel
theorem d_Or_lineUp_14 : decode b_Or_lineUp 14 = .ok (.istore_n 2, 1) := by decide +kernel
theorem d_Or_lineUp_15 : decode b_Or_lineUp 15 = .ok (.iload_n 2, 1) := by decide +kernel
theorem d_Or_lineUp_16 : decode b_Or_lineUp 16 = .ok (.bipush (6), 2) := by decide +kernel
theorem d_Or_lineUp_18 : decode b_Or_lineUp 18 = .ok (.if_icmp .ge (38), 3) := by decide +kernel
theorem d_Or_lineUp_21 : decode b_Or_lineUp 21 = .ok (.iload_n 1, 1) := by decide +kernel
theorem d_Or_lineUp_22 : decode b_Or_lineUp 22 = .ok (.iload_n 2, 1) := by decide +kernel
theorem d_Or_lineUp_23 : decode b_Or_lineUp 23 = .ok (.ishr, 1) := by decide +kernel
theorem d_Or_lineUp_24 : decode b_Or_lineUp 24 = .ok (.iconst (1), 1) := by decide +kernel
theorem d_Or_lineUp_25 : decode b_Or_lineUp 25 = .ok (.iand, 1) := by decide +kernel
theorem d_Or_lineUp_26 : decode b_Or_lineUp 26 = .ok (.iconst (1), 1) := by decide +kernel
theorem d_Or_lineUp_27 : decode b_Or_lineUp 27 = .ok (.if_icmp .ne (23), 3) := by decide +kernel
theorem d_Or_lineUp_30 : decode b_Or_lineUp 30 = .ok (.aload_n 0, 1) := by decide +kernel
theorem d_Or_lineUp_31 : decode b_Or_lineUp 31 = .ok (.getfield 9, 3) := by decide +kernel
theorem d_Or_lineUp_34 : decode b_Or_lineUp 34 = .ok (.aload_n 0, 1) := by decide +kernel
theorem d_Or_lineUp_35 : decode b_Or_lineUp 35 = .ok (.getfield 15, 3) := by decide +kernel
theorem d_Or_lineUp_38 : decode b_Or_lineUp 38 = .ok (.iload_n 2, 1) := by decide +kernel
theorem d_Or_lineUp_39 : decode b_Or_lineUp 39 = .ok (.iastore, 1) := by decide +kernel
theorem d_Or_lineUp_40 : decode b_Or_lineUp 40 = .ok (.aload_n 0, 1) := by decide +kernel
theorem d_Or_lineUp_41 : decode b_Or_lineUp 41 = .ok (.dup, 1) := by decide +kernel
theorem d_Or_lineUp_42 : decode b_Or_lineUp 42 = .ok (.getfield 15, 3) := by decide +kernel
theorem d_Or_lineUp_45 : decode b_Or_lineUp 45 = .ok (.iconst (1), 1) := by decide +kernel
theorem d_Or_lineUp_46 : decode b_Or_lineUp 46 = .ok (.iadd, 1) := by decide +kernel
theorem d_Or_lineUp_47 : decode b_Or_lineUp 47 = .ok (.putfield 15, 3) := by decide +kernel
theorem d_Or_lineUp_50 : decode b_Or_lineUp 50 = .ok (.iinc 2 (1), 3) := by decide +kernel
theorem d_Or_lineUp_53 : decode b_Or_lineUp 53 = .ok (.goto (-38), 3) := by decide +kernel
theorem d_Or_lineUp_56 : decode b_Or_lineUp 56 = .ok (.return_, 1) := by decide +kernel
theorem d_Or_below_0 : decode b_Or_below 0 = .ok (.aload_n 0, 1) := by decide +kernel
theorem d_Or_below_1 : decode b_Or_below 1 = .ok (.aload_n 0, 1) := by decide +kernel
theorem d_Or_below_2 : decode b_Or_below 2 = .ok (.getfield 19, 3) := by decide +kernel
theorem d_Or_below_5 : decode b_Or_below 5 = .ok (.ldc 39, 2) := by decide +kernel
theorem d_Or_below_7 : decode b_Or_below 7 = .ok (.imul, 1) := by decide +kernel
theorem d_Or_below_8 : decode b_Or_below 8 = .ok (.sipush (12345), 3) := by decide +kernel
theorem d_Or_below_11 : decode b_Or_below 11 = .ok (.iadd, 1) := by decide +kernel
theorem d_Or_below_12 : decode b_Or_below 12 = .ok (.putfield 19, 3) := by decide +kernel
theorem d_Or_below_15 : decode b_Or_below 15 = .ok (.iload_n 1, 1) := by decide +kernel
theorem d_Or_below_16 : decode b_Or_below 16 = .ok (.ifCond .le (15), 3) := by decide +kernel
theorem d_Or_below_19 : decode b_Or_below 19 = .ok (.aload_n 0, 1) := by decide +kernel
theorem d_Or_below_20 : decode b_Or_below 20 = .ok (.getfield 19, 3) := by decide +kernel
theorem d_Or_below_23 : decode b_Or_below 23 = .ok (.bipush (16), 2) := by decide +kernel
theorem d_Or_below_25 : decode b_Or_below 25 = .ok (.iushr, 1) := by decide +kernel
theorem d_Or_below_26 : decode b_Or_below 26 = .ok (.iload_n 1, 1) := by decide +kernel
theorem d_Or_below_27 : decode b_Or_below 27 = .ok (.irem, 1) := by decide +kernel
theorem d_Or_below_28 : decode b_Or_below 28 = .ok (.goto (4), 3) := by decide +kernel
theorem d_Or_below_31 : decode b_Or_below 31 = .ok (.iconst (0), 1) := by decide +kernel
theorem d_Or_below_32 : decode b_Or_below 32 = .ok (.ireturn, 1) := by decide +kernel
theorem d_Or_groupsBefore_0 : decode b_Or_groupsBefore 0 = .ok (.iconst (0), 1) := by decide +kernel
theorem d_Or_groupsBefore_1 : decode b_Or_groupsBefore 1 = .ok (.istore_n 2, 1) := by decide +kernel
theorem d_Or_groupsBefore_2 : decode b_Or_groupsBefore 2 = .ok (.iconst (0), 1) := by decide +kernel
theorem d_Or_groupsBefore_3 : decode b_Or_groupsBefore 3 = .ok (.istore_n 3, 1) := by decide +kernel
theorem d_Or_groupsBefore_4 : decode b_Or_groupsBefore 4 = .ok (.iload_n 3, 1) := by decide +kernel
theorem d_Or_groupsBefore_5 : decode b_Or_groupsBefore 5 = .ok (.aload_n 0, 1) := by decide +kernel
theorem d_Or_groupsBefore_6 : decode b_Or_groupsBefore 6 = .ok (.getfield 15, 3) := by decide +kernel
theorem d_Or_groupsBefore_9 : decode b_Or_groupsBefore 9 = .ok (.if_icmp .ge (30), 3) := by decide +kernel
theorem d_Or_groupsBefore_12 : decode b_Or_groupsBefore 12 = .ok (.aload_n 0, 1) := by decide +kernel
theorem d_Or_groupsBefore_13 : decode b_Or_groupsBefore 13 = .ok (.getfield 9, 3) := by decide +kernel
theorem d_Or_groupsBefore_16 : decode b_Or_groupsBefore 16 = .ok (.iload_n 3, 1) := by decide +kernel
theorem d_Or_groupsBefore_17 : decode b_Or_groupsBefore 17 = .ok (.iaload, 1) := by decide +kernel
theorem d_Or_groupsBefore_18 : decode b_Or_groupsBefore 18 = .ok (.iload_n 1, 1) := by decide +kernel
theorem d_Or_groupsBefore_19 : decode b_Or_groupsBefore 19 = .ok (.if_icmp .eq (20), 3) := by decide +kernel
theorem d_Or_groupsBefore_22 : decode b_Or_groupsBefore 22 = .ok (.iload_n 2, 1) := by decide +kernel
theorem d_Or_groupsBefore_23 : decode b_Or_groupsBefore 23 = .ok (.iconst (1), 1) := by decide +kernel
theorem d_Or_groupsBefore_24 : decode b_Or_groupsBefore 24 = .ok (.aload_n 0, 1) := by decide +kernel
theorem d_Or_groupsBefore_25 : decode b_Or_groupsBefore 25 = .ok (.getfield 9, 3) := by decide +kernel
theorem d_Or_groupsBefore_28 : decode b_Or_groupsBefore 28 = .ok (.iload_n 3, 1) := by decide +kernel
theorem d_Or_groupsBefore_29 : decode b_Or_groupsBefore 29 = .ok (.iaload, 1) := by decide +kernel
theorem d_Or_groupsBefore_30 : decode b_Or_groupsBefore 30 = .ok (.ishl, 1) := by decide +kernel
theorem d_Or_groupsBefore_31 : decode b_Or_groupsBefore 31 = .ok (.ior, 1) := by decide +kernel
theorem d_Or_groupsBefore_32 : decode b_Or_groupsBefore 32 = .ok (.istore_n 2, 1) := by decide +kernel
theorem d_Or_groupsBefore_33 : decode b_Or_groupsBefore 33 = .ok (.iinc 3 (1), 3) := by decide +kernel
theorem d_Or_groupsBefore_36 : decode b_Or_groupsBefore 36 = .ok (.goto (-32), 3) := by decide +kernel
theorem d_Or_groupsBefore_39 : decode b_Or_groupsBefore 39 = .ok (.iload_n 2, 1) := by decide +kernel
theorem d_Or_groupsBefore_40 : decode b_Or_groupsBefore 40 = .ok (.ireturn, 1) := by decide +kernel
theorem d_La_partial_0 : decode b_La_partial 0 = .ok (.aload 4, 2) := by decide +kernel
theorem d_La_partial_2 : decode b_La_partial 2 = .ok (.iconst (0), 1) := by decide +kernel
theorem d_La_partial_3 : decode b_La_partial 3 = .ok (.aload_n 0, 1) := by decide +kernel
theorem d_La_partial_4 : decode b_La_partial 4 = .ok (.iload_n 1, 1) := by decide +kernel
theorem d_La_partial_5 : decode b_La_partial 5 = .ok (.iload_n 2, 1) := by decide +kernel
theorem d_La_partial_6 : decode b_La_partial 6 = .ok (.iload_n 3, 1) := by decide +kernel
theorem d_La_partial_7 : decode b_La_partial 7 = .ok (.invokevirtual 26, 3) := by decide +kernel
theorem d_La_partial_10 : decode b_La_partial 10 = .ok (.lastore, 1) := by decide +kernel
theorem d_La_partial_11 : decode b_La_partial 11 = .ok (.goto (7), 3) := by decide +kernel
theorem d_La_partial_14 : decode b_La_partial 14 = .ok (.astore 5, 2) := by decide +kernel
theorem d_La_partial_16 : decode b_La_partial 16 = .ok (.iconst (1), 1) := by decide +kernel
theorem d_La_partial_17 : decode b_La_partial 17 = .ok (.ireturn, 1) := by decide +kernel
theorem d_La_partial_18 : decode b_La_partial 18 = .ok (.iconst (0), 1) := by decide +kernel
theorem d_La_partial_19 : decode b_La_partial 19 = .ok (.ireturn, 1) := by decide +kernel
theorem d_ES_partial_0 : decode b_ES_partial 0 = .ok (.aload_n 0, 1) := by decide +kernel
theorem d_ES_partial_1 : decode b_ES_partial 1 = .ok (.iload_n 1, 1) := by decide +kernel
theorem d_ES_partial_2 : decode b_ES_partial 2 = .ok (.invokevirtual 71, 3) := by decide +kernel
theorem d_ES_partial_5 : decode b_ES_partial 5 = .ok (.ifCond .eq (19), 3) := by decide +kernel
theorem d_ES_partial_8 : decode b_ES_partial 8 = .ok (.iload_n 3, 1) := by decide +kernel
theorem d_ES_partial_9 : decode b_ES_partial 9 = .ok (.invokestatic 120, 3) := by decide +kernel
theorem d_ES_partial_12 : decode b_ES_partial 12 = .ok (.ifCond .eq (12), 3) := by decide +kernel
theorem d_ES_partial_15 : decode b_ES_partial 15 = .ok (.iload_n 2, 1) := by decide +kernel
theorem d_ES_partial_16 : decode b_ES_partial 16 = .ok (.bipush (100), 2) := by decide +kernel
theorem d_ES_partial_18 : decode b_ES_partial 18 = .ok (.invokestatic 63, 3) := by decide +kernel
