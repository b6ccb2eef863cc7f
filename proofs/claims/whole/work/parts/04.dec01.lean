theorem d_ES_rank_45 : decode b_ES_rank 45 = .ok (.ireturn, 1) := by decide +kernel
theorem d_Gr_count_0 : decode b_Gr_count 0 = .ok (.aload_n 0, 1) := by decide +kernel
theorem d_Gr_count_1 : decode b_Gr_count 1 = .ok (.invokevirtual 22, 3) := by decide +kernel
theorem d_Gr_count_4 : decode b_Gr_count 4 = .ok (.invokestatic 26, 3) := by decide +kernel
theorem d_Gr_count_7 : decode b_Gr_count 7 = .ok (.ireturn, 1) := by decide +kernel
theorem d_Gr_there_0 : decode b_Gr_there 0 = .ok (.iconst (0), 1) := by decide +kernel
theorem d_Gr_there_1 : decode b_Gr_there 1 = .ok (.istore_n 1, 1) := by decide +kernel
theorem d_Gr_there_2 : decode b_Gr_there 2 = .ok (.iconst (0), 1) := by decide +kernel
theorem d_Gr_there_3 : decode b_Gr_there 3 = .ok (.istore_n 2, 1) := by decide +kernel
theorem d_Gr_there_4 : decode b_Gr_there 4 = .ok (.iload_n 2, 1) := by decide +kernel
theorem d_Gr_there_5 : decode b_Gr_there 5 = .ok (.aload_n 0, 1) := by decide +kernel
theorem d_Gr_there_6 : decode b_Gr_there 6 = .ok (.getfield 15, 3) := by decide +kernel
theorem d_Gr_there_9 : decode b_Gr_there 9 = .ok (.if_icmp .ge (20), 3) := by decide +kernel
theorem d_Gr_there_12 : decode b_Gr_there 12 = .ok (.iload_n 1, 1) := by decide +kernel
theorem d_Gr_there_13 : decode b_Gr_there 13 = .ok (.iconst (1), 1) := by decide +kernel
theorem d_Gr_there_14 : decode b_Gr_there 14 = .ok (.aload_n 0, 1) := by decide +kernel
theorem d_Gr_there_15 : decode b_Gr_there 15 = .ok (.getfield 9, 3) := by decide +kernel
theorem d_Gr_there_18 : decode b_Gr_there 18 = .ok (.iload_n 2, 1) := by decide +kernel
theorem d_Gr_there_19 : decode b_Gr_there 19 = .ok (.iaload, 1) := by decide +kernel
theorem d_Gr_there_20 : decode b_Gr_there 20 = .ok (.ishl, 1) := by decide +kernel
theorem d_Gr_there_21 : decode b_Gr_there 21 = .ok (.ior, 1) := by decide +kernel
theorem d_Gr_there_22 : decode b_Gr_there 22 = .ok (.istore_n 1, 1) := by decide +kernel
theorem d_Gr_there_23 : decode b_Gr_there 23 = .ok (.iinc 2 (1), 3) := by decide +kernel
theorem d_Gr_there_26 : decode b_Gr_there 26 = .ok (.goto (-22), 3) := by decide +kernel
theorem d_Gr_there_29 : decode b_Gr_there 29 = .ok (.iload_n 1, 1) := by decide +kernel
theorem d_Gr_there_30 : decode b_Gr_there 30 = .ok (.ireturn, 1) := by decide +kernel
theorem d_In_bitCount_0 : decode b_In_bitCount 0 = .ok (.iload_n 0, 1) := by decide +kernel
theorem d_In_bitCount_1 : decode b_In_bitCount 1 = .ok (.iload_n 0, 1) := by decide +kernel
theorem d_In_bitCount_2 : decode b_In_bitCount 2 = .ok (.iconst (1), 1) := by decide +kernel
theorem d_In_bitCount_3 : decode b_In_bitCount 3 = .ok (.iushr, 1) := by decide +kernel
theorem d_In_bitCount_4 : decode b_In_bitCount 4 = .ok (.ldc_w 265, 3) := by decide +kernel
theorem d_In_bitCount_7 : decode b_In_bitCount 7 = .ok (.iand, 1) := by decide +kernel
theorem d_In_bitCount_8 : decode b_In_bitCount 8 = .ok (.isub, 1) := by decide +kernel
theorem d_In_bitCount_9 : decode b_In_bitCount 9 = .ok (.istore_n 0, 1) := by decide +kernel
theorem d_In_bitCount_10 : decode b_In_bitCount 10 = .ok (.iload_n 0, 1) := by decide +kernel
theorem d_In_bitCount_11 : decode b_In_bitCount 11 = .ok (.ldc_w 266, 3) := by decide +kernel
theorem d_In_bitCount_14 : decode b_In_bitCount 14 = .ok (.iand, 1) := by decide +kernel
theorem d_In_bitCount_15 : decode b_In_bitCount 15 = .ok (.iload_n 0, 1) := by decide +kernel
theorem d_In_bitCount_16 : decode b_In_bitCount 16 = .ok (.iconst (2), 1) := by decide +kernel
theorem d_In_bitCount_17 : decode b_In_bitCount 17 = .ok (.iushr, 1) := by decide +kernel
theorem d_In_bitCount_18 : decode b_In_bitCount 18 = .ok (.ldc_w 266, 3) := by decide +kernel
theorem d_In_bitCount_21 : decode b_In_bitCount 21 = .ok (.iand, 1) := by decide +kernel
theorem d_In_bitCount_22 : decode b_In_bitCount 22 = .ok (.iadd, 1) := by decide +kernel
theorem d_In_bitCount_23 : decode b_In_bitCount 23 = .ok (.istore_n 0, 1) := by decide +kernel
theorem d_In_bitCount_24 : decode b_In_bitCount 24 = .ok (.iload_n 0, 1) := by decide +kernel
theorem d_In_bitCount_25 : decode b_In_bitCount 25 = .ok (.iload_n 0, 1) := by decide +kernel
theorem d_In_bitCount_26 : decode b_In_bitCount 26 = .ok (.iconst (4), 1) := by decide +kernel
theorem d_In_bitCount_27 : decode b_In_bitCount 27 = .ok (.iushr, 1) := by decide +kernel
theorem d_In_bitCount_28 : decode b_In_bitCount 28 = .ok (.iadd, 1) := by decide +kernel
theorem d_In_bitCount_29 : decode b_In_bitCount 29 = .ok (.ldc_w 267, 3) := by decide +kernel
theorem d_In_bitCount_32 : decode b_In_bitCount 32 = .ok (.iand, 1) := by decide +kernel
theorem d_In_bitCount_33 : decode b_In_bitCount 33 = .ok (.istore_n 0, 1) := by decide +kernel
theorem d_In_bitCount_34 : decode b_In_bitCount 34 = .ok (.iload_n 0, 1) := by decide +kernel
theorem d_In_bitCount_35 : decode b_In_bitCount 35 = .ok (.iload_n 0, 1) := by decide +kernel
theorem d_In_bitCount_36 : decode b_In_bitCount 36 = .ok (.bipush (8), 2) := by decide +kernel
theorem d_In_bitCount_38 : decode b_In_bitCount 38 = .ok (.iushr, 1) := by decide +kernel
theorem d_In_bitCount_39 : decode b_In_bitCount 39 = .ok (.iadd, 1) := by decide +kernel
theorem d_In_bitCount_40 : decode b_In_bitCount 40 = .ok (.istore_n 0, 1) := by decide +kernel
theorem d_In_bitCount_41 : decode b_In_bitCount 41 = .ok (.iload_n 0, 1) := by decide +kernel
theorem d_In_bitCount_42 : decode b_In_bitCount 42 = .ok (.iload_n 0, 1) := by decide +kernel
theorem d_In_bitCount_43 : decode b_In_bitCount 43 = .ok (.bipush (16), 2) := by decide +kernel
theorem d_In_bitCount_45 : decode b_In_bitCount 45 = .ok (.iushr, 1) := by decide +kernel
theorem d_In_bitCount_46 : decode b_In_bitCount 46 = .ok (.iadd, 1) := by decide +kernel
theorem d_In_bitCount_47 : decode b_In_bitCount 47 = .ok (.istore_n 0, 1) := by decide +kernel
theorem d_In_bitCount_48 : decode b_In_bitCount 48 = .ok (.iload_n 0, 1) := by decide +kernel
theorem d_In_bitCount_49 : decode b_In_bitCount 49 = .ok (.bipush (63), 2) := by decide +kernel
theorem d_In_bitCount_51 : decode b_In_bitCount 51 = .ok (.iand, 1) := by decide +kernel
theorem d_In_bitCount_52 : decode b_In_bitCount 52 = .ok (.ireturn, 1) := by decide +kernel
theorem d_Rw_count_0 : decode b_Rw_count 0 = .ok (.aload_n 0, 1) := by decide +kernel
theorem d_Rw_count_1 : decode b_Rw_count 1 = .ok (.getfield 20, 3) := by decide +kernel
theorem d_Rw_count_4 : decode b_Rw_count 4 = .ok (.ireturn, 1) := by decide +kernel
theorem d_Me_measureShares_0 : decode b_Me_measureShares 0 = .ok (.aload_n 0, 1) := by decide +kernel
theorem d_Me_measureShares_1 : decode b_Me_measureShares 1 = .ok (.getfield 27, 3) := by decide +kernel
theorem d_Me_measureShares_4 : decode b_Me_measureShares 4 = .ok (.invokevirtual 64, 3) := by decide +kernel
theorem d_Me_measureShares_7 : decode b_Me_measureShares 7 = .ok (.istore_n 1, 1) := by decide +kernel
theorem d_Me_measureShares_8 : decode b_Me_measureShares 8 = .ok (.iconst (0), 1) := by decide +kernel
theorem d_Me_measureShares_9 : decode b_Me_measureShares 9 = .ok (.istore_n 2, 1) := by decide +kernel
theorem d_Me_measureShares_10 : decode b_Me_measureShares 10 = .ok (.iload_n 2, 1) := by decide +kernel
theorem d_Me_measureShares_11 : decode b_Me_measureShares 11 = .ok (.bipush (6), 2) := by decide +kernel
theorem d_Me_measureShares_13 : decode b_Me_measureShares 13 = .ok (.if_icmp .ge (47), 3) := by decide +kernel
theorem d_Me_measureShares_16 : decode b_Me_measureShares 16 = .ok (.iload_n 1, 1) := by decide +kernel
theorem d_Me_measureShares_17 : decode b_Me_measureShares 17 = .ok (.iload_n 2, 1) := by decide +kernel
theorem d_Me_measureShares_18 : decode b_Me_measureShares 18 = .ok (.ishr, 1) := by decide +kernel
theorem d_Me_measureShares_19 : decode b_Me_measureShares 19 = .ok (.iconst (1), 1) := by decide +kernel
theorem d_Me_measureShares_20 : decode b_Me_measureShares 20 = .ok (.iand, 1) := by decide +kernel
theorem d_Me_measureShares_21 : decode b_Me_measureShares 21 = .ok (.iconst (1), 1) := by decide +kernel
theorem d_Me_measureShares_22 : decode b_Me_measureShares 22 = .ok (.if_icmp .ne (7), 3) := by decide +kernel
theorem d_Me_measureShares_25 : decode b_Me_measureShares 25 = .ok (.iconst (1), 1) := by decide +kernel
theorem d_Me_measureShares_26 : decode b_Me_measureShares 26 = .ok (.goto (4), 3) := by decide +kernel
theorem d_Me_measureShares_29 : decode b_Me_measureShares 29 = .ok (.iconst (0), 1) := by decide +kernel
theorem d_Me_measureShares_30 : decode b_Me_measureShares 30 = .ok (.istore_n 3, 1) := by decide +kernel
theorem d_Me_measureShares_31 : decode b_Me_measureShares 31 = .ok (.aload_n 0, 1) := by decide +kernel
theorem d_Me_measureShares_32 : decode b_Me_measureShares 32 = .ok (.getfield 15, 3) := by decide +kernel
theorem d_Me_measureShares_35 : decode b_Me_measureShares 35 = .ok (.iload_n 2, 1) := by decide +kernel
theorem d_Me_measureShares_36 : decode b_Me_measureShares 36 = .ok (.iload_n 3, 1) := by decide +kernel
theorem d_Me_measureShares_37 : decode b_Me_measureShares 37 = .ok (.ifCond .eq (15), 3) := by decide +kernel
theorem d_Me_measureShares_40 : decode b_Me_measureShares 40 = .ok (.aload_n 0, 1) := by decide +kernel
theorem d_Me_measureShares_41 : decode b_Me_measureShares 41 = .ok (.iload_n 2, 1) := by decide +kernel
theorem d_Me_measureShares_42 : decode b_Me_measureShares 42 = .ok (.iconst (0), 1) := by decide +kernel
theorem d_Me_measureShares_43 : decode b_Me_measureShares 43 = .ok (.invokevirtual 103, 3) := by decide +kernel
theorem d_Me_measureShares_46 : decode b_Me_measureShares 46 = .ok (.invokestatic 106, 3) := by decide +kernel
theorem d_Me_measureShares_49 : decode b_Me_measureShares 49 = .ok (.goto (4), 3) := by decide +kernel
theorem d_Me_measureShares_52 : decode b_Me_measureShares 52 = .ok (.lconst 0, 1) := by decide +kernel
theorem d_Me_measureShares_53 : decode b_Me_measureShares 53 = .ok (.lastore, 1) := by decide +kernel
theorem d_Me_measureShares_54 : decode b_Me_measureShares 54 = .ok (.iinc 2 (1), 3) := by decide +kernel
theorem d_Me_measureShares_57 : decode b_Me_measureShares 57 = .ok (.goto (-47), 3) := by decide +kernel
theorem d_Me_measureShares_60 : decode b_Me_measureShares 60 = .ok (.return_, 1) := by decide +kernel
theorem d_Me_shareSum_0 : decode b_Me_shareSum 0 = .ok (.aload_n 0, 1) := by decide +kernel
theorem d_Me_shareSum_1 : decode b_Me_shareSum 1 = .ok (.getfield 27, 3) := by decide +kernel
theorem d_Me_shareSum_4 : decode b_Me_shareSum 4 = .ok (.invokevirtual 64, 3) := by decide +kernel
theorem d_Me_shareSum_7 : decode b_Me_shareSum 7 = .ok (.iconst (1), 1) := by decide +kernel
theorem d_Me_shareSum_8 : decode b_Me_shareSum 8 = .ok (.iload_n 1, 1) := by decide +kernel
theorem d_Me_shareSum_9 : decode b_Me_shareSum 9 = .ok (.ishl, 1) := by decide +kernel
theorem d_Me_shareSum_10 : decode b_Me_shareSum 10 = .ok (.iconst (-1), 1) := by decide +kernel
theorem d_Me_shareSum_11 : decode b_Me_shareSum 11 = .ok (.ixor, 1) := by decide +kernel
theorem d_Me_shareSum_12 : decode b_Me_shareSum 12 = .ok (.iand, 1) := by decide +kernel
theorem d_Me_shareSum_13 : decode b_Me_shareSum 13 = .ok (.istore_n 3, 1) := by decide +kernel
theorem d_Me_shareSum_14 : decode b_Me_shareSum 14 = .ok (.aload_n 0, 1) := by decide +kernel
theorem d_Me_shareSum_15 : decode b_Me_shareSum 15 = .ok (.getfield 27, 3) := by decide +kernel
theorem d_Me_shareSum_18 : decode b_Me_shareSum 18 = .ok (.iconst (1), 1) := by decide +kernel
theorem d_Me_shareSum_19 : decode b_Me_shareSum 19 = .ok (.iload_n 1, 1) := by decide +kernel
theorem d_Me_shareSum_20 : decode b_Me_shareSum 20 = .ok (.ishl, 1) := by decide +kernel
theorem d_Me_shareSum_21 : decode b_Me_shareSum 21 = .ok (.invokevirtual 69, 3) := by decide +kernel
theorem d_Me_shareSum_24 : decode b_Me_shareSum 24 = .ok (.istore 4, 2) := by decide +kernel
theorem d_Me_shareSum_26 : decode b_Me_shareSum 26 = .ok (.iload_n 3, 1) := by decide +kernel
theorem d_Me_shareSum_27 : decode b_Me_shareSum 27 = .ok (.invokestatic 73, 3) := by decide +kernel
theorem d_Me_shareSum_30 : decode b_Me_shareSum 30 = .ok (.istore 5, 2) := by decide +kernel
theorem d_Me_shareSum_32 : decode b_Me_shareSum 32 = .ok (.lconst 0, 1) := by decide +kernel
theorem d_Me_shareSum_33 : decode b_Me_shareSum 33 = .ok (.lstore 6, 2) := by decide +kernel
theorem d_Me_shareSum_35 : decode b_Me_shareSum 35 = .ok (.iconst (0), 1) := by decide +kernel
theorem d_Me_shareSum_36 : decode b_Me_shareSum 36 = .ok (.istore 8, 2) := by decide +kernel
theorem d_Me_shareSum_38 : decode b_Me_shareSum 38 = .ok (.iload 8, 2) := by decide +kernel
theorem d_Me_shareSum_40 : decode b_Me_shareSum 40 = .ok (.iload_n 3, 1) := by decide +kernel
theorem d_Me_shareSum_41 : decode b_Me_shareSum 41 = .ok (.if_icmp .gt (59), 3) := by decide +kernel
theorem d_Me_shareSum_44 : decode b_Me_shareSum 44 = .ok (.iload 8, 2) := by decide +kernel
theorem d_Me_shareSum_46 : decode b_Me_shareSum 46 = .ok (.iload_n 3, 1) := by decide +kernel
theorem d_Me_shareSum_47 : decode b_Me_shareSum 47 = .ok (.iconst (-1), 1) := by decide +kernel
theorem d_Me_shareSum_48 : decode b_Me_shareSum 48 = .ok (.ixor, 1) := by decide +kernel
theorem d_Me_shareSum_49 : decode b_Me_shareSum 49 = .ok (.iand, 1) := by decide +kernel
theorem d_Me_shareSum_50 : decode b_Me_shareSum 50 = .ok (.ifCond .ne (44), 3) := by decide +kernel
theorem d_Me_shareSum_53 : decode b_Me_shareSum 53 = .ok (.iload_n 2, 1) := by decide +kernel
theorem d_Me_shareSum_54 : decode b_Me_shareSum 54 = .ok (.iconst (1), 1) := by decide +kernel
theorem d_Me_shareSum_55 : decode b_Me_shareSum 55 = .ok (.if_icmp .ne (7), 3) := by decide +kernel
theorem d_Me_shareSum_58 : decode b_Me_shareSum 58 = .ok (.lconst 1, 1) := by decide +kernel
theorem d_Me_shareSum_59 : decode b_Me_shareSum 59 = .ok (.goto (10), 3) := by decide +kernel
theorem d_Me_shareSum_62 : decode b_Me_shareSum 62 = .ok (.iload 8, 2) := by decide +kernel
theorem d_Me_shareSum_64 : decode b_Me_shareSum 64 = .ok (.iload 5, 2) := by decide +kernel
theorem d_Me_shareSum_66 : decode b_Me_shareSum 66 = .ok (.invokestatic 78, 3) := by decide +kernel
theorem d_Me_shareSum_69 : decode b_Me_shareSum 69 = .ok (.lstore 9, 2) := by decide +kernel
theorem d_Me_shareSum_71 : decode b_Me_shareSum 71 = .ok (.lload 6, 2) := by decide +kernel
theorem d_Me_shareSum_73 : decode b_Me_shareSum 73 = .ok (.lload 9, 2) := by decide +kernel
theorem d_Me_shareSum_75 : decode b_Me_shareSum 75 = .ok (.aload_n 0, 1) := by decide +kernel
theorem d_Me_shareSum_76 : decode b_Me_shareSum 76 = .ok (.aload_n 0, 1) := by decide +kernel
theorem d_Me_shareSum_77 : decode b_Me_shareSum 77 = .ok (.getfield 27, 3) := by decide +kernel
theorem d_Me_shareSum_80 : decode b_Me_shareSum 80 = .ok (.iload 8, 2) := by decide +kernel
theorem d_Me_shareSum_82 : decode b_Me_shareSum 82 = .ok (.invokevirtual 69, 3) := by decide +kernel
theorem d_Me_shareSum_85 : decode b_Me_shareSum 85 = .ok (.iload 4, 2) := by decide +kernel
theorem d_Me_shareSum_87 : decode b_Me_shareSum 87 = .ok (.invokevirtual 82, 3) := by decide +kernel
theorem d_Me_shareSum_90 : decode b_Me_shareSum 90 = .ok (.lmul, 1) := by decide +kernel
theorem d_Me_shareSum_91 : decode b_Me_shareSum 91 = .ok (.ladd, 1) := by decide +kernel
theorem d_Me_shareSum_92 : decode b_Me_shareSum 92 = .ok (.lstore 6, 2) := by decide +kernel
theorem d_Me_shareSum_94 : decode b_Me_shareSum 94 = .ok (.iinc 8 (1), 3) := by decide +kernel
theorem d_Me_shareSum_97 : decode b_Me_shareSum 97 = .ok (.goto (-59), 3) := by decide +kernel
theorem d_Me_shareSum_100 : decode b_Me_shareSum 100 = .ok (.lload 6, 2) := by decide +kernel
theorem d_Me_shareSum_102 : decode b_Me_shareSum 102 = .ok (.lreturn, 1) := by decide +kernel
theorem d_Gr_columnsOf_0 : decode b_Gr_columnsOf 0 = .ok (.iconst (0), 1) := by decide +kernel
theorem d_Gr_columnsOf_1 : decode b_Gr_columnsOf 1 = .ok (.istore_n 2, 1) := by decide +kernel
theorem d_Gr_columnsOf_2 : decode b_Gr_columnsOf 2 = .ok (.iconst (0), 1) := by decide +kernel
theorem d_Gr_columnsOf_3 : decode b_Gr_columnsOf 3 = .ok (.istore_n 3, 1) := by decide +kernel
theorem d_Gr_columnsOf_4 : decode b_Gr_columnsOf 4 = .ok (.iload_n 3, 1) := by decide +kernel
theorem d_Gr_columnsOf_5 : decode b_Gr_columnsOf 5 = .ok (.aload_n 0, 1) := by decide +kernel
theorem d_Gr_columnsOf_6 : decode b_Gr_columnsOf 6 = .ok (.getfield 15, 3) := by decide +kernel
theorem d_Gr_columnsOf_9 : decode b_Gr_columnsOf 9 = .ok (.if_icmp .ge (29), 3) := by decide +kernel
theorem d_Gr_columnsOf_12 : decode b_Gr_columnsOf 12 = .ok (.iload_n 1, 1) := by decide +kernel
theorem d_Gr_columnsOf_13 : decode b_Gr_columnsOf 13 = .ok (.aload_n 0, 1) := by decide +kernel
theorem d_Gr_columnsOf_14 : decode b_Gr_columnsOf 14 = .ok (.getfield 9, 3) := by decide +kernel
theorem d_Gr_columnsOf_17 : decode b_Gr_columnsOf 17 = .ok (.iload_n 3, 1) := by decide +kernel
theorem d_Gr_columnsOf_18 : decode b_Gr_columnsOf 18 = .ok (.iaload, 1) := by decide +kernel
theorem d_Gr_columnsOf_19 : decode b_Gr_columnsOf 19 = .ok (.ishr, 1) := by decide +kernel
theorem d_Gr_columnsOf_20 : decode b_Gr_columnsOf 20 = .ok (.iconst (1), 1) := by decide +kernel
theorem d_Gr_columnsOf_21 : decode b_Gr_columnsOf 21 = .ok (.iand, 1) := by decide +kernel
theorem d_Gr_columnsOf_22 : decode b_Gr_columnsOf 22 = .ok (.iconst (1), 1) := by decide +kernel
theorem d_Gr_columnsOf_23 : decode b_Gr_columnsOf 23 = .ok (.if_icmp .ne (9), 3) := by decide +kernel
theorem d_Gr_columnsOf_26 : decode b_Gr_columnsOf 26 = .ok (.iload_n 2, 1) := by decide +kernel
theorem d_Gr_columnsOf_27 : decode b_Gr_columnsOf 27 = .ok (.iconst (1), 1) := by decide +kernel
theorem d_Gr_columnsOf_28 : decode b_Gr_columnsOf 28 = .ok (.iload_n 3, 1) := by decide +kernel
theorem d_Gr_columnsOf_29 : decode b_Gr_columnsOf 29 = .ok (.ishl, 1) := by decide +kernel
theorem d_Gr_columnsOf_30 : decode b_Gr_columnsOf 30 = .ok (.ior, 1) := by decide +kernel
theorem d_Gr_columnsOf_31 : decode b_Gr_columnsOf 31 = .ok (.istore_n 2, 1) := by decide +kernel
theorem d_Gr_columnsOf_32 : decode b_Gr_columnsOf 32 = .ok (.iinc 3 (1), 3) := by decide +kernel
theorem d_Gr_columnsOf_35 : decode b_Gr_columnsOf 35 = .ok (.goto (-31), 3) := by decide +kernel
theorem d_Gr_columnsOf_38 : decode b_Gr_columnsOf 38 = .ok (.iload_n 2, 1) := by decide +kernel
theorem d_Gr_columnsOf_39 : decode b_Gr_columnsOf 39 = .ok (.ireturn, 1) := by decide +kernel
theorem d_Me_ordersAround_0 : decode b_Me_ordersAround 0 = .ok (.iload_n 0, 1) := by decide +kernel
theorem d_Me_ordersAround_1 : decode b_Me_ordersAround 1 = .ok (.invokestatic 73, 3) := by decide +kernel
theorem d_Me_ordersAround_4 : decode b_Me_ordersAround 4 = .ok (.istore_n 2, 1) := by decide +kernel
theorem d_Me_ordersAround_5 : decode b_Me_ordersAround 5 = .ok (.iload_n 2, 1) := by decide +kernel
theorem d_Me_ordersAround_6 : decode b_Me_ordersAround 6 = .ok (.invokestatic 86, 3) := by decide +kernel
theorem d_Me_ordersAround_9 : decode b_Me_ordersAround 9 = .ok (.iload_n 1, 1) := by decide +kernel
theorem d_Me_ordersAround_10 : decode b_Me_ordersAround 10 = .ok (.iload_n 2, 1) := by decide +kernel
theorem d_Me_ordersAround_11 : decode b_Me_ordersAround 11 = .ok (.isub, 1) := by decide +kernel
theorem d_Me_ordersAround_12 : decode b_Me_ordersAround 12 = .ok (.invokestatic 86, 3) := by decide +kernel
theorem d_Me_ordersAround_15 : decode b_Me_ordersAround 15 = .ok (.lmul, 1) := by decide +kernel
theorem d_Me_ordersAround_16 : decode b_Me_ordersAround 16 = .ok (.lreturn, 1) := by decide +kernel
theorem d_ES_factorial_0 : decode b_ES_factorial 0 = .ok (.lconst 1, 1) := by decide +kernel
theorem d_ES_factorial_1 : decode b_ES_factorial 1 = .ok (.lstore_n 1, 1) := by decide +kernel
theorem d_ES_factorial_2 : decode b_ES_factorial 2 = .ok (.iconst (2), 1) := by decide +kernel
theorem d_ES_factorial_3 : decode b_ES_factorial 3 = .ok (.istore_n 3, 1) := by decide +kernel
theorem d_ES_factorial_4 : decode b_ES_factorial 4 = .ok (.iload_n 3, 1) := by decide +kernel
theorem d_ES_factorial_5 : decode b_ES_factorial 5 = .ok (.iload_n 0, 1) := by decide +kernel
theorem d_ES_factorial_6 : decode b_ES_factorial 6 = .ok (.if_icmp .gt (14), 3) := by decide +kernel
theorem d_ES_factorial_9 : decode b_ES_factorial 9 = .ok (.lload_n 1, 1) := by decide +kernel
theorem d_ES_factorial_10 : decode b_ES_factorial 10 = .ok (.iload_n 3, 1) := by decide +kernel
theorem d_ES_factorial_11 : decode b_ES_factorial 11 = .ok (.i2l, 1) := by decide +kernel
theorem d_ES_factorial_12 : decode b_ES_factorial 12 = .ok (.lmul, 1) := by decide +kernel
theorem d_ES_factorial_13 : decode b_ES_factorial 13 = .ok (.lstore_n 1, 1) := by decide +kernel
theorem d_ES_factorial_14 : decode b_ES_factorial 14 = .ok (.iinc 3 (1), 3) := by decide +kernel
theorem d_ES_factorial_17 : decode b_ES_factorial 17 = .ok (.goto (-13), 3) := by decide +kernel
theorem d_ES_factorial_20 : decode b_ES_factorial 20 = .ok (.lload_n 1, 1) := by decide +kernel
theorem d_ES_factorial_21 : decode b_ES_factorial 21 = .ok (.lreturn, 1) := by decide +kernel
theorem d_Me_brought_0 : decode b_Me_brought 0 = .ok (.aload_n 0, 1) := by decide +kernel
theorem d_Me_brought_1 : decode b_Me_brought 1 = .ok (.iload_n 1, 1) := by decide +kernel
theorem d_Me_brought_2 : decode b_Me_brought 2 = .ok (.iload_n 2, 1) := by decide +kernel
theorem d_Me_brought_3 : decode b_Me_brought 3 = .ok (.ior, 1) := by decide +kernel
theorem d_Me_brought_4 : decode b_Me_brought 4 = .ok (.invokevirtual 60, 3) := by decide +kernel
theorem d_Me_brought_7 : decode b_Me_brought 7 = .ok (.aload_n 0, 1) := by decide +kernel
theorem d_Me_brought_8 : decode b_Me_brought 8 = .ok (.iload_n 1, 1) := by decide +kernel
theorem d_Me_brought_9 : decode b_Me_brought 9 = .ok (.invokevirtual 60, 3) := by decide +kernel
theorem d_Me_brought_12 : decode b_Me_brought 12 = .ok (.lsub, 1) := by decide +kernel
theorem d_Me_brought_13 : decode b_Me_brought 13 = .ok (.lreturn, 1) := by decide +kernel
theorem d_Me_total_0 : decode b_Me_total 0 = .ok (.lconst 0, 1) := by decide +kernel
theorem d_Me_total_1 : decode b_Me_total 1 = .ok (.lstore_n 2, 1) := by decide +kernel
theorem d_Me_total_2 : decode b_Me_total 2 = .ok (.iconst (0), 1) := by decide +kernel
theorem d_Me_total_3 : decode b_Me_total 3 = .ok (.istore 4, 2) := by decide +kernel
theorem d_Me_total_5 : decode b_Me_total 5 = .ok (.iload 4, 2) := by decide +kernel
theorem d_Me_total_7 : decode b_Me_total 7 = .ok (.aload_n 0, 1) := by decide +kernel
theorem d_Me_total_8 : decode b_Me_total 8 = .ok (.getfield 23, 3) := by decide +kernel
theorem d_Me_total_11 : decode b_Me_total 11 = .ok (.invokevirtual 40, 3) := by decide +kernel
theorem d_Me_total_14 : decode b_Me_total 14 = .ok (.if_icmp .ge (46), 3) := by decide +kernel
theorem d_Me_total_17 : decode b_Me_total 17 = .ok (.aload_n 0, 1) := by decide +kernel
theorem d_Me_total_18 : decode b_Me_total 18 = .ok (.iload_n 1, 1) := by decide +kernel
theorem d_Me_total_19 : decode b_Me_total 19 = .ok (.aload_n 0, 1) := by decide +kernel
theorem d_Me_total_20 : decode b_Me_total 20 = .ok (.getfield 23, 3) := by decide +kernel
theorem d_Me_total_23 : decode b_Me_total 23 = .ok (.iconst (-1), 1) := by decide +kernel
theorem d_Me_total_24 : decode b_Me_total 24 = .ok (.invokevirtual 46, 3) := by decide +kernel
theorem d_Me_total_27 : decode b_Me_total 27 = .ok (.aload_n 0, 1) := by decide +kernel
theorem d_Me_total_28 : decode b_Me_total 28 = .ok (.getfield 23, 3) := by decide +kernel
theorem d_Me_total_31 : decode b_Me_total 31 = .ok (.iload 4, 2) := by decide +kernel
theorem d_Me_total_33 : decode b_Me_total 33 = .ok (.invokevirtual 46, 3) := by decide +kernel
theorem d_Me_total_36 : decode b_Me_total 36 = .ok (.invokevirtual 50, 3) := by decide +kernel
theorem d_Me_total_39 : decode b_Me_total 39 = .ok (.lload_n 2, 1) := by decide +kernel
theorem d_Me_total_40 : decode b_Me_total 40 = .ok (.aload_n 0, 1) := by decide +kernel
theorem d_Me_total_41 : decode b_Me_total 41 = .ok (.getfield 19, 3) := by decide +kernel
theorem d_Me_total_44 : decode b_Me_total 44 = .ok (.aload_n 0, 1) := by decide +kernel
theorem d_Me_total_45 : decode b_Me_total 45 = .ok (.getfield 9, 3) := by decide +kernel
theorem d_Me_total_48 : decode b_Me_total 48 = .ok (.invokevirtual 54, 3) := by decide +kernel
theorem d_Me_total_51 : decode b_Me_total 51 = .ok (.i2l, 1) := by decide +kernel
theorem d_Me_total_52 : decode b_Me_total 52 = .ok (.ladd, 1) := by decide +kernel
theorem d_Me_total_53 : decode b_Me_total 53 = .ok (.lstore_n 2, 1) := by decide +kernel
theorem d_Me_total_54 : decode b_Me_total 54 = .ok (.iinc 4 (1), 3) := by decide +kernel
theorem d_Me_total_57 : decode b_Me_total 57 = .ok (.goto (-52), 3) := by decide +kernel
theorem d_Me_total_60 : decode b_Me_total 60 = .ok (.lload_n 2, 1) := by decide +kernel
theorem d_Me_total_61 : decode b_Me_total 61 = .ok (.lreturn, 1) := by decide +kernel
theorem d_Me_mix_0 : decode b_Me_mix 0 = .ok (.iconst (0), 1) := by decide +kernel
theorem d_Me_mix_1 : decode b_Me_mix 1 = .ok (.istore 4, 2) := by decide +kernel
theorem d_Me_mix_3 : decode b_Me_mix 3 = .ok (.iload 4, 2) := by decide +kernel
theorem d_Me_mix_5 : decode b_Me_mix 5 = .ok (.bipush (6), 2) := by decide +kernel
theorem d_Me_mix_7 : decode b_Me_mix 7 = .ok (.if_icmp .ge (37), 3) := by decide +kernel
theorem d_Me_mix_10 : decode b_Me_mix 10 = .ok (.aload_n 0, 1) := by decide +kernel
theorem d_Me_mix_11 : decode b_Me_mix 11 = .ok (.getfield 9, 3) := by decide +kernel
theorem d_Me_mix_14 : decode b_Me_mix 14 = .ok (.iload 4, 2) := by decide +kernel
theorem d_Me_mix_16 : decode b_Me_mix 16 = .ok (.iload_n 1, 1) := by decide +kernel
theorem d_Me_mix_17 : decode b_Me_mix 17 = .ok (.iload 4, 2) := by decide +kernel
theorem d_Me_mix_19 : decode b_Me_mix 19 = .ok (.ishr, 1) := by decide +kernel
theorem d_Me_mix_20 : decode b_Me_mix 20 = .ok (.iconst (1), 1) := by decide +kernel
theorem d_Me_mix_21 : decode b_Me_mix 21 = .ok (.iand, 1) := by decide +kernel
theorem d_Me_mix_22 : decode b_Me_mix 22 = .ok (.iconst (1), 1) := by decide +kernel
theorem d_Me_mix_23 : decode b_Me_mix 23 = .ok (.if_icmp .ne (10), 3) := by decide +kernel
theorem d_Me_mix_26 : decode b_Me_mix 26 = .ok (.aload_n 2, 1) := by decide +kernel
theorem d_Me_mix_27 : decode b_Me_mix 27 = .ok (.iload 4, 2) := by decide +kernel
theorem d_Me_mix_29 : decode b_Me_mix 29 = .ok (.iaload, 1) := by decide +kernel
theorem d_Me_mix_30 : decode b_Me_mix 30 = .ok (.goto (7), 3) := by decide +kernel
theorem d_Me_mix_33 : decode b_Me_mix 33 = .ok (.aload_n 3, 1) := by decide +kernel
theorem d_Me_mix_34 : decode b_Me_mix 34 = .ok (.iload 4, 2) := by decide +kernel
theorem d_Me_mix_36 : decode b_Me_mix 36 = .ok (.iaload, 1) := by decide +kernel
theorem d_Me_mix_37 : decode b_Me_mix 37 = .ok (.iastore, 1) := by decide +kernel
theorem d_Me_mix_38 : decode b_Me_mix 38 = .ok (.iinc 4 (1), 3) := by decide +kernel
theorem d_Me_mix_41 : decode b_Me_mix 41 = .ok (.goto (-38), 3) := by decide +kernel
theorem d_Me_mix_44 : decode b_Me_mix 44 = .ok (.return_, 1) := by decide +kernel
theorem d_Me_groupAtPlace_0 : decode b_Me_groupAtPlace 0 = .ok (.aload_n 0, 1) := by decide +kernel
theorem d_Me_groupAtPlace_1 : decode b_Me_groupAtPlace 1 = .ok (.getfield 27, 3) := by decide +kernel
theorem d_Me_groupAtPlace_4 : decode b_Me_groupAtPlace 4 = .ok (.invokevirtual 64, 3) := by decide +kernel
theorem d_Me_groupAtPlace_7 : decode b_Me_groupAtPlace 7 = .ok (.istore_n 2, 1) := by decide +kernel
theorem d_Me_groupAtPlace_8 : decode b_Me_groupAtPlace 8 = .ok (.iconst (0), 1) := by decide +kernel
theorem d_Me_groupAtPlace_9 : decode b_Me_groupAtPlace 9 = .ok (.istore_n 3, 1) := by decide +kernel
theorem d_Me_groupAtPlace_10 : decode b_Me_groupAtPlace 10 = .ok (.iload_n 3, 1) := by decide +kernel
theorem d_Me_groupAtPlace_11 : decode b_Me_groupAtPlace 11 = .ok (.bipush (6), 2) := by decide +kernel
theorem d_Me_groupAtPlace_13 : decode b_Me_groupAtPlace 13 = .ok (.if_icmp .ge (30), 3) := by decide +kernel
theorem d_Me_groupAtPlace_16 : decode b_Me_groupAtPlace 16 = .ok (.iload_n 2, 1) := by decide +kernel
theorem d_Me_groupAtPlace_17 : decode b_Me_groupAtPlace 17 = .ok (.iload_n 3, 1) := by decide +kernel
theorem d_Me_groupAtPlace_18 : decode b_Me_groupAtPlace 18 = .ok (.ishr, 1) := by decide +kernel
theorem d_Me_groupAtPlace_19 : decode b_Me_groupAtPlace 19 = .ok (.iconst (1), 1) := by decide +kernel
theorem d_Me_groupAtPlace_20 : decode b_Me_groupAtPlace 20 = .ok (.iand, 1) := by decide +kernel
theorem d_Me_groupAtPlace_21 : decode b_Me_groupAtPlace 21 = .ok (.iconst (1), 1) := by decide +kernel
theorem d_Me_groupAtPlace_22 : decode b_Me_groupAtPlace 22 = .ok (.if_icmp .ne (15), 3) := by decide +kernel
theorem d_Me_groupAtPlace_25 : decode b_Me_groupAtPlace 25 = .ok (.aload_n 0, 1) := by decide +kernel
theorem d_Me_groupAtPlace_26 : decode b_Me_groupAtPlace 26 = .ok (.iload_n 3, 1) := by decide +kernel
theorem d_Me_groupAtPlace_27 : decode b_Me_groupAtPlace 27 = .ok (.iload_n 2, 1) := by decide +kernel
theorem d_Me_groupAtPlace_28 : decode b_Me_groupAtPlace 28 = .ok (.invokevirtual 112, 3) := by decide +kernel
theorem d_Me_groupAtPlace_31 : decode b_Me_groupAtPlace 31 = .ok (.iload_n 1, 1) := by decide +kernel
theorem d_Me_groupAtPlace_32 : decode b_Me_groupAtPlace 32 = .ok (.if_icmp .ne (5), 3) := by decide +kernel
theorem d_Me_groupAtPlace_35 : decode b_Me_groupAtPlace 35 = .ok (.iload_n 3, 1) := by decide +kernel
theorem d_Me_groupAtPlace_36 : decode b_Me_groupAtPlace 36 = .ok (.ireturn, 1) := by decide +kernel
theorem d_Me_groupAtPlace_37 : decode b_Me_groupAtPlace 37 = .ok (.iinc 3 (1), 3) := by decide +kernel
theorem d_Me_groupAtPlace_40 : decode b_Me_groupAtPlace 40 = .ok (.goto (-30), 3) := by decide +kernel
theorem d_Me_groupAtPlace_43 : decode b_Me_groupAtPlace 43 = .ok (.iconst (-1), 1) := by decide +kernel
theorem d_Me_groupAtPlace_44 : decode b_Me_groupAtPlace 44 = .ok (.ireturn, 1) := by decide +kernel
theorem d_Me_countAhead_0 : decode b_Me_countAhead 0 = .ok (.iconst (0), 1) := by decide +kernel
theorem d_Me_countAhead_1 : decode b_Me_countAhead 1 = .ok (.istore_n 3, 1) := by decide +kernel
theorem d_Me_countAhead_2 : decode b_Me_countAhead 2 = .ok (.iconst (0), 1) := by decide +kernel
theorem d_Me_countAhead_3 : decode b_Me_countAhead 3 = .ok (.istore 4, 2) := by decide +kernel
theorem d_Me_countAhead_5 : decode b_Me_countAhead 5 = .ok (.iload 4, 2) := by decide +kernel
theorem d_Me_countAhead_7 : decode b_Me_countAhead 7 = .ok (.bipush (6), 2) := by decide +kernel
theorem d_Me_countAhead_9 : decode b_Me_countAhead 9 = .ok (.if_icmp .ge (86), 3) := by decide +kernel
theorem d_Me_countAhead_12 : decode b_Me_countAhead 12 = .ok (.aload_n 0, 1) := by decide +kernel
theorem d_Me_countAhead_13 : decode b_Me_countAhead 13 = .ok (.getfield 15, 3) := by decide +kernel
theorem d_Me_countAhead_16 : decode b_Me_countAhead 16 = .ok (.iload 4, 2) := by decide +kernel
theorem d_Me_countAhead_18 : decode b_Me_countAhead 18 = .ok (.laload, 1) := by decide +kernel
theorem d_Me_countAhead_19 : decode b_Me_countAhead 19 = .ok (.aload_n 0, 1) := by decide +kernel
theorem d_Me_countAhead_20 : decode b_Me_countAhead 20 = .ok (.getfield 15, 3) := by decide +kernel
theorem d_Me_countAhead_23 : decode b_Me_countAhead 23 = .ok (.iload_n 1, 1) := by decide +kernel
theorem d_Me_countAhead_24 : decode b_Me_countAhead 24 = .ok (.laload, 1) := by decide +kernel
theorem d_Me_countAhead_25 : decode b_Me_countAhead 25 = .ok (.lcmp, 1) := by decide +kernel
theorem d_Me_countAhead_26 : decode b_Me_countAhead 26 = .ok (.ifCond .ne (13), 3) := by decide +kernel
theorem d_Me_countAhead_29 : decode b_Me_countAhead 29 = .ok (.iload 4, 2) := by decide +kernel
theorem d_Me_countAhead_31 : decode b_Me_countAhead 31 = .ok (.iload_n 1, 1) := by decide +kernel
theorem d_Me_countAhead_32 : decode b_Me_countAhead 32 = .ok (.if_icmp .ge (7), 3) := by decide +kernel
theorem d_Me_countAhead_35 : decode b_Me_countAhead 35 = .ok (.iconst (1), 1) := by decide +kernel
theorem d_Me_countAhead_36 : decode b_Me_countAhead 36 = .ok (.goto (4), 3) := by decide +kernel
theorem d_Me_countAhead_39 : decode b_Me_countAhead 39 = .ok (.iconst (0), 1) := by decide +kernel
theorem d_Me_countAhead_40 : decode b_Me_countAhead 40 = .ok (.istore 5, 2) := by decide +kernel
theorem d_Me_countAhead_42 : decode b_Me_countAhead 42 = .ok (.aload_n 0, 1) := by decide +kernel
theorem d_Me_countAhead_43 : decode b_Me_countAhead 43 = .ok (.getfield 15, 3) := by decide +kernel
theorem d_Me_countAhead_46 : decode b_Me_countAhead 46 = .ok (.iload 4, 2) := by decide +kernel
theorem d_Me_countAhead_48 : decode b_Me_countAhead 48 = .ok (.laload, 1) := by decide +kernel
theorem d_Me_countAhead_49 : decode b_Me_countAhead 49 = .ok (.aload_n 0, 1) := by decide +kernel
theorem d_Me_countAhead_50 : decode b_Me_countAhead 50 = .ok (.getfield 15, 3) := by decide +kernel
theorem d_Me_countAhead_53 : decode b_Me_countAhead 53 = .ok (.iload_n 1, 1) := by decide +kernel
theorem d_Me_countAhead_54 : decode b_Me_countAhead 54 = .ok (.laload, 1) := by decide +kernel
theorem d_Me_countAhead_55 : decode b_Me_countAhead 55 = .ok (.lcmp, 1) := by decide +kernel
theorem d_Me_countAhead_56 : decode b_Me_countAhead 56 = .ok (.ifCond .gt (8), 3) := by decide +kernel
theorem d_Me_countAhead_59 : decode b_Me_countAhead 59 = .ok (.iload 5, 2) := by decide +kernel
theorem d_Me_countAhead_61 : decode b_Me_countAhead 61 = .ok (.ifCond .eq (7), 3) := by decide +kernel
theorem d_Me_countAhead_64 : decode b_Me_countAhead 64 = .ok (.iconst (1), 1) := by decide +kernel
theorem d_Me_countAhead_65 : decode b_Me_countAhead 65 = .ok (.goto (4), 3) := by decide +kernel
theorem d_Me_countAhead_68 : decode b_Me_countAhead 68 = .ok (.iconst (0), 1) := by decide +kernel
theorem d_Me_countAhead_69 : decode b_Me_countAhead 69 = .ok (.istore 6, 2) := by decide +kernel
theorem d_Me_countAhead_71 : decode b_Me_countAhead 71 = .ok (.iload_n 2, 1) := by decide +kernel
theorem d_Me_countAhead_72 : decode b_Me_countAhead 72 = .ok (.iload 4, 2) := by decide +kernel
theorem d_Me_countAhead_74 : decode b_Me_countAhead 74 = .ok (.ishr, 1) := by decide +kernel
theorem d_Me_countAhead_75 : decode b_Me_countAhead 75 = .ok (.iconst (1), 1) := by decide +kernel
theorem d_Me_countAhead_76 : decode b_Me_countAhead 76 = .ok (.iand, 1) := by decide +kernel
theorem d_Me_countAhead_77 : decode b_Me_countAhead 77 = .ok (.iconst (1), 1) := by decide +kernel
theorem d_Me_countAhead_78 : decode b_Me_countAhead 78 = .ok (.if_icmp .ne (11), 3) := by decide +kernel
theorem d_Me_countAhead_81 : decode b_Me_countAhead 81 = .ok (.iload 6, 2) := by decide +kernel
theorem d_Me_countAhead_83 : decode b_Me_countAhead 83 = .ok (.ifCond .eq (6), 3) := by decide +kernel
theorem d_Me_countAhead_86 : decode b_Me_countAhead 86 = .ok (.iinc 3 (1), 3) := by decide +kernel
theorem d_Me_countAhead_89 : decode b_Me_countAhead 89 = .ok (.iinc 4 (1), 3) := by decide +kernel
theorem d_Me_countAhead_92 : decode b_Me_countAhead 92 = .ok (.goto (-87), 3) := by decide +kernel
theorem d_Me_countAhead_95 : decode b_Me_countAhead 95 = .ok (.iload_n 3, 1) := by decide +kernel
theorem d_Me_countAhead_96 : decode b_Me_countAhead 96 = .ok (.ireturn, 1) := by decide +kernel
theorem d_ES_bar_0 : decode b_ES_bar 0 = .ok (.aload_n 0, 1) := by decide +kernel
theorem d_ES_bar_1 : decode b_ES_bar 1 = .ok (.iload_n 1, 1) := by decide +kernel
theorem d_ES_bar_2 : decode b_ES_bar 2 = .ok (.invokevirtual 71, 3) := by decide +kernel
theorem d_ES_bar_5 : decode b_ES_bar 5 = .ok (.ifCond .ne (5), 3) := by decide +kernel
theorem d_ES_bar_8 : decode b_ES_bar 8 = .ok (.iconst (-1), 1) := by decide +kernel
theorem d_ES_bar_9 : decode b_ES_bar 9 = .ok (.ireturn, 1) := by decide +kernel
theorem d_ES_bar_10 : decode b_ES_bar 10 = .ok (.aload_n 0, 1) := by decide +kernel
theorem d_ES_bar_11 : decode b_ES_bar 11 = .ok (.getfield 59, 3) := by decide +kernel
theorem d_ES_bar_14 : decode b_ES_bar 14 = .ok (.iload_n 1, 1) := by decide +kernel
theorem d_ES_bar_15 : decode b_ES_bar 15 = .ok (.iload_n 2, 1) := by decide +kernel
theorem d_ES_bar_16 : decode b_ES_bar 16 = .ok (.invokevirtual 171, 3) := by decide +kernel
theorem d_ES_bar_19 : decode b_ES_bar 19 = .ok (.ifCond .eq (7), 3) := by decide +kernel
theorem d_ES_bar_22 : decode b_ES_bar 22 = .ok (.iconst (1), 1) := by decide +kernel
theorem d_ES_bar_23 : decode b_ES_bar 23 = .ok (.goto (4), 3) := by decide +kernel
theorem d_ES_bar_26 : decode b_ES_bar 26 = .ok (.iconst (0), 1) := by decide +kernel
theorem d_ES_bar_27 : decode b_ES_bar 27 = .ok (.ireturn, 1) := by decide +kernel
theorem d_Se_setBarred_0 : decode b_Se_setBarred 0 = .ok (.aload_n 0, 1) := by decide +kernel
theorem d_Se_setBarred_1 : decode b_Se_setBarred 1 = .ok (.getfield 9, 3) := by decide +kernel
theorem d_Se_setBarred_4 : decode b_Se_setBarred 4 = .ok (.iload_n 1, 1) := by decide +kernel
theorem d_Se_setBarred_5 : decode b_Se_setBarred 5 = .ok (.baload, 1) := by decide +kernel
theorem d_Se_setBarred_6 : decode b_Se_setBarred 6 = .ok (.istore_n 3, 1) := by decide +kernel
theorem d_Se_setBarred_7 : decode b_Se_setBarred 7 = .ok (.aload_n 0, 1) := by decide +kernel
theorem d_Se_setBarred_8 : decode b_Se_setBarred 8 = .ok (.getfield 9, 3) := by decide +kernel
theorem d_Se_setBarred_11 : decode b_Se_setBarred 11 = .ok (.iload_n 1, 1) := by decide +kernel
theorem d_Se_setBarred_12 : decode b_Se_setBarred 12 = .ok (.iload_n 2, 1) := by decide +kernel
theorem d_Se_setBarred_13 : decode b_Se_setBarred 13 = .ok (.bastore, 1) := by decide +kernel
theorem d_Se_setBarred_14 : decode b_Se_setBarred 14 = .ok (.iload_n 3, 1) := by decide +kernel
theorem d_Se_setBarred_15 : decode b_Se_setBarred 15 = .ok (.ireturn, 1) := by decide +kernel
theorem d_ES_nearest_0 : decode b_ES_nearest 0 = .ok (.aload_n 0, 1) := by decide +kernel
theorem d_ES_nearest_1 : decode b_ES_nearest 1 = .ok (.getfield 59, 3) := by decide +kernel
theorem d_ES_nearest_4 : decode b_ES_nearest 4 = .ok (.iload_n 1, 1) := by decide +kernel
theorem d_ES_nearest_5 : decode b_ES_nearest 5 = .ok (.invokevirtual 175, 3) := by decide +kernel
theorem d_ES_nearest_8 : decode b_ES_nearest 8 = .ok (.ifCond .eq (13), 3) := by decide +kernel
theorem d_ES_nearest_11 : decode b_ES_nearest 11 = .ok (.aload_n 0, 1) := by decide +kernel
theorem d_ES_nearest_12 : decode b_ES_nearest 12 = .ok (.getfield 59, 3) := by decide +kernel
theorem d_ES_nearest_15 : decode b_ES_nearest 15 = .ok (.invokevirtual 178, 3) := by decide +kernel
theorem d_ES_nearest_18 : decode b_ES_nearest 18 = .ok (.goto (5), 3) := by decide +kernel
theorem d_ES_nearest_21 : decode b_ES_nearest 21 = .ok (.bipush (-3), 2) := by decide +kernel
theorem d_ES_nearest_23 : decode b_ES_nearest 23 = .ok (.ireturn, 1) := by decide +kernel
theorem d_Se_find_0 : decode b_Se_find 0 = .ok (.aload_n 0, 1) := by decide +kernel
theorem d_Se_find_1 : decode b_Se_find 1 = .ok (.iload_n 1, 1) := by decide +kernel
theorem d_Se_find_2 : decode b_Se_find 2 = .ok (.putfield 38, 3) := by decide +kernel
theorem d_Se_find_5 : decode b_Se_find 5 = .ok (.aload_n 0, 1) := by decide +kernel
theorem d_Se_find_6 : decode b_Se_find 6 = .ok (.ldc 33, 2) := by decide +kernel
theorem d_Se_find_8 : decode b_Se_find 8 = .ok (.putfield 34, 3) := by decide +kernel
theorem d_Se_find_11 : decode b_Se_find 11 = .ok (.iconst (0), 1) := by decide +kernel
theorem d_Se_find_12 : decode b_Se_find 12 = .ok (.istore_n 2, 1) := by decide +kernel
theorem d_Se_find_13 : decode b_Se_find 13 = .ok (.iload_n 2, 1) := by decide +kernel
theorem d_Se_find_14 : decode b_Se_find 14 = .ok (.aload_n 0, 1) := by decide +kernel
theorem d_Se_find_15 : decode b_Se_find 15 = .ok (.getfield 41, 3) := by decide +kernel
theorem d_Se_find_18 : decode b_Se_find 18 = .ok (.if_icmp .ge (19), 3) := by decide +kernel
theorem d_Se_find_21 : decode b_Se_find 21 = .ok (.aload_n 0, 1) := by decide +kernel
theorem d_Se_find_22 : decode b_Se_find 22 = .ok (.iload_n 2, 1) := by decide +kernel
theorem d_Se_find_23 : decode b_Se_find 23 = .ok (.invokevirtual 52, 3) := by decide +kernel
theorem d_Se_find_26 : decode b_Se_find 26 = .ok (.aload_n 0, 1) := by decide +kernel
theorem d_Se_find_27 : decode b_Se_find 27 = .ok (.iload_n 2, 1) := by decide +kernel
theorem d_Se_find_28 : decode b_Se_find 28 = .ok (.invokevirtual 56, 3) := by decide +kernel
theorem d_Se_find_31 : decode b_Se_find 31 = .ok (.iinc 2 (1), 3) := by decide +kernel
theorem d_Se_find_34 : decode b_Se_find 34 = .ok (.goto (-21), 3) := by decide +kernel
theorem d_Se_find_37 : decode b_Se_find 37 = .ok (.aload_n 0, 1) := by decide +kernel
theorem d_Se_find_38 : decode b_Se_find 38 = .ok (.iconst (0), 1) := by decide +kernel
theorem d_Se_find_39 : decode b_Se_find 39 = .ok (.iconst (0), 1) := by decide +kernel
theorem d_Se_find_40 : decode b_Se_find 40 = .ok (.invokevirtual 59, 3) := by decide +kernel
theorem d_Se_find_43 : decode b_Se_find 43 = .ok (.aload_n 0, 1) := by decide +kernel
theorem d_Se_find_44 : decode b_Se_find 44 = .ok (.getfield 34, 3) := by decide +kernel
theorem d_Se_find_47 : decode b_Se_find 47 = .ok (.ldc 33, 2) := by decide +kernel
theorem d_Se_find_49 : decode b_Se_find 49 = .ok (.if_icmp .ge (7), 3) := by decide +kernel
theorem d_Se_find_52 : decode b_Se_find 52 = .ok (.iconst (1), 1) := by decide +kernel
theorem d_Se_find_53 : decode b_Se_find 53 = .ok (.goto (4), 3) := by decide +kernel
theorem d_Se_find_56 : decode b_Se_find 56 = .ok (.iconst (0), 1) := by decide +kernel
theorem d_Se_find_57 : decode b_Se_find 57 = .ok (.ireturn, 1) := by decide +kernel
theorem d_Se_gatherChoices_0 : decode b_Se_gatherChoices 0 = .ok (.aload_n 0, 1) := by decide +kernel
theorem d_Se_gatherChoices_1 : decode b_Se_gatherChoices 1 = .ok (.getfield 20, 3) := by decide +kernel
theorem d_Se_gatherChoices_4 : decode b_Se_gatherChoices 4 = .ok (.iload_n 1, 1) := by decide +kernel
theorem d_Se_gatherChoices_5 : decode b_Se_gatherChoices 5 = .ok (.iconst (0), 1) := by decide +kernel
theorem d_Se_gatherChoices_6 : decode b_Se_gatherChoices 6 = .ok (.iastore, 1) := by decide +kernel
theorem d_Se_gatherChoices_7 : decode b_Se_gatherChoices 7 = .ok (.aload_n 0, 1) := by decide +kernel
theorem d_Se_gatherChoices_8 : decode b_Se_gatherChoices 8 = .ok (.iload_n 1, 1) := by decide +kernel
theorem d_Se_gatherChoices_9 : decode b_Se_gatherChoices 9 = .ok (.aload_n 0, 1) := by decide +kernel
theorem d_Se_gatherChoices_10 : decode b_Se_gatherChoices 10 = .ok (.getfield 48, 3) := by decide +kernel
theorem d_Se_gatherChoices_13 : decode b_Se_gatherChoices 13 = .ok (.iconst (-1), 1) := by decide +kernel
theorem d_Se_gatherChoices_14 : decode b_Se_gatherChoices 14 = .ok (.invokevirtual 63, 3) := by decide +kernel
theorem d_Se_gatherChoices_17 : decode b_Se_gatherChoices 17 = .ok (.iload_n 1, 1) := by decide +kernel
theorem d_Se_gatherChoices_18 : decode b_Se_gatherChoices 18 = .ok (.iaload, 1) := by decide +kernel
theorem d_Se_gatherChoices_19 : decode b_Se_gatherChoices 19 = .ok (.invokevirtual 69, 3) := by decide +kernel
theorem d_Se_gatherChoices_22 : decode b_Se_gatherChoices 22 = .ok (.aload_n 0, 1) := by decide +kernel
theorem d_Se_gatherChoices_23 : decode b_Se_gatherChoices 23 = .ok (.getfield 9, 3) := by decide +kernel
theorem d_Se_gatherChoices_26 : decode b_Se_gatherChoices 26 = .ok (.iload_n 1, 1) := by decide +kernel
theorem d_Se_gatherChoices_27 : decode b_Se_gatherChoices 27 = .ok (.baload, 1) := by decide +kernel
theorem d_Se_gatherChoices_28 : decode b_Se_gatherChoices 28 = .ok (.ifCond .eq (4), 3) := by decide +kernel
theorem d_Se_gatherChoices_31 : decode b_Se_gatherChoices 31 = .ok (.return_, 1) := by decide +kernel
theorem d_Se_gatherChoices_32 : decode b_Se_gatherChoices 32 = .ok (.iconst (0), 1) := by decide +kernel
theorem d_Se_gatherChoices_33 : decode b_Se_gatherChoices 33 = .ok (.istore_n 2, 1) := by decide +kernel
theorem d_Se_gatherChoices_34 : decode b_Se_gatherChoices 34 = .ok (.iload_n 2, 1) := by decide +kernel
theorem d_Se_gatherChoices_35 : decode b_Se_gatherChoices 35 = .ok (.aload_n 0, 1) := by decide +kernel
theorem d_Se_gatherChoices_36 : decode b_Se_gatherChoices 36 = .ok (.getfield 48, 3) := by decide +kernel
theorem d_Se_gatherChoices_39 : decode b_Se_gatherChoices 39 = .ok (.invokevirtual 72, 3) := by decide +kernel
theorem d_Se_gatherChoices_42 : decode b_Se_gatherChoices 42 = .ok (.if_icmp .ge (24), 3) := by decide +kernel
theorem d_Se_gatherChoices_45 : decode b_Se_gatherChoices 45 = .ok (.aload_n 0, 1) := by decide +kernel
theorem d_Se_gatherChoices_46 : decode b_Se_gatherChoices 46 = .ok (.iload_n 1, 1) := by decide +kernel
theorem d_Se_gatherChoices_47 : decode b_Se_gatherChoices 47 = .ok (.aload_n 0, 1) := by decide +kernel
theorem d_Se_gatherChoices_48 : decode b_Se_gatherChoices 48 = .ok (.getfield 48, 3) := by decide +kernel
theorem d_Se_gatherChoices_51 : decode b_Se_gatherChoices 51 = .ok (.iload_n 2, 1) := by decide +kernel
theorem d_Se_gatherChoices_52 : decode b_Se_gatherChoices 52 = .ok (.invokevirtual 63, 3) := by decide +kernel
theorem d_Se_gatherChoices_55 : decode b_Se_gatherChoices 55 = .ok (.iload_n 1, 1) := by decide +kernel
theorem d_Se_gatherChoices_56 : decode b_Se_gatherChoices 56 = .ok (.iaload, 1) := by decide +kernel
theorem d_Se_gatherChoices_57 : decode b_Se_gatherChoices 57 = .ok (.invokevirtual 69, 3) := by decide +kernel
theorem d_Se_gatherChoices_60 : decode b_Se_gatherChoices 60 = .ok (.iinc 2 (1), 3) := by decide +kernel
theorem d_Se_gatherChoices_63 : decode b_Se_gatherChoices 63 = .ok (.goto (-29), 3) := by decide +kernel
theorem d_Se_gatherChoices_66 : decode b_Se_gatherChoices 66 = .ok (.return_, 1) := by decide +kernel
theorem d_Se_addChoice_0 : decode b_Se_addChoice 0 = .ok (.aload_n 0, 1) := by decide +kernel
theorem d_Se_addChoice_1 : decode b_Se_addChoice 1 = .ok (.getfield 17, 3) := by decide +kernel
theorem d_Se_addChoice_4 : decode b_Se_addChoice 4 = .ok (.iload_n 1, 1) := by decide +kernel
theorem d_Se_addChoice_5 : decode b_Se_addChoice 5 = .ok (.aaload, 1) := by decide +kernel
theorem d_Se_addChoice_6 : decode b_Se_addChoice 6 = .ok (.astore_n 3, 1) := by decide +kernel
theorem d_Se_addChoice_7 : decode b_Se_addChoice 7 = .ok (.aload_n 0, 1) := by decide +kernel
theorem d_Se_addChoice_8 : decode b_Se_addChoice 8 = .ok (.getfield 20, 3) := by decide +kernel
theorem d_Se_addChoice_11 : decode b_Se_addChoice 11 = .ok (.iload_n 1, 1) := by decide +kernel
theorem d_Se_addChoice_12 : decode b_Se_addChoice 12 = .ok (.iaload, 1) := by decide +kernel
theorem d_Se_addChoice_13 : decode b_Se_addChoice 13 = .ok (.istore 4, 2) := by decide +kernel
theorem d_Se_addChoice_15 : decode b_Se_addChoice 15 = .ok (.iconst (0), 1) := by decide +kernel
theorem d_Se_addChoice_16 : decode b_Se_addChoice 16 = .ok (.istore 5, 2) := by decide +kernel
theorem d_Se_addChoice_18 : decode b_Se_addChoice 18 = .ok (.iload 5, 2) := by decide +kernel
theorem d_Se_addChoice_20 : decode b_Se_addChoice 20 = .ok (.iload 4, 2) := by decide +kernel
theorem d_Se_addChoice_22 : decode b_Se_addChoice 22 = .ok (.if_icmp .ge (17), 3) := by decide +kernel
theorem d_Se_addChoice_25 : decode b_Se_addChoice 25 = .ok (.aload_n 3, 1) := by decide +kernel
theorem d_Se_addChoice_26 : decode b_Se_addChoice 26 = .ok (.iload 5, 2) := by decide +kernel
theorem d_Se_addChoice_28 : decode b_Se_addChoice 28 = .ok (.iaload, 1) := by decide +kernel
theorem d_Se_addChoice_29 : decode b_Se_addChoice 29 = .ok (.iload_n 2, 1) := by decide +kernel
theorem d_Se_addChoice_30 : decode b_Se_addChoice 30 = .ok (.if_icmp .ge (9), 3) := by decide +kernel
theorem d_Se_addChoice_33 : decode b_Se_addChoice 33 = .ok (.iinc 5 (1), 3) := by decide +kernel
theorem d_Se_addChoice_36 : decode b_Se_addChoice 36 = .ok (.goto (-18), 3) := by decide +kernel
theorem d_Se_addChoice_39 : decode b_Se_addChoice 39 = .ok (.iload 5, 2) := by decide +kernel
theorem d_Se_addChoice_41 : decode b_Se_addChoice 41 = .ok (.iload 4, 2) := by decide +kernel
theorem d_Se_addChoice_43 : decode b_Se_addChoice 43 = .ok (.if_icmp .ge (15), 3) := by decide +kernel
theorem d_Se_addChoice_46 : decode b_Se_addChoice 46 = .ok (.aload_n 3, 1) := by decide +kernel
theorem d_Se_addChoice_47 : decode b_Se_addChoice 47 = .ok (.iload 5, 2) := by decide +kernel
theorem d_Se_addChoice_49 : decode b_Se_addChoice 49 = .ok (.iaload, 1) := by decide +kernel
theorem d_Se_addChoice_50 : decode b_Se_addChoice 50 = .ok (.iload_n 2, 1) := by decide +kernel
theorem d_Se_addChoice_51 : decode b_Se_addChoice 51 = .ok (.if_icmp .ne (7), 3) := by decide +kernel
theorem d_Se_addChoice_54 : decode b_Se_addChoice 54 = .ok (.iconst (1), 1) := by decide +kernel
theorem d_Se_addChoice_55 : decode b_Se_addChoice 55 = .ok (.goto (4), 3) := by decide +kernel
theorem d_Se_addChoice_58 : decode b_Se_addChoice 58 = .ok (.iconst (0), 1) := by decide +kernel
theorem d_Se_addChoice_59 : decode b_Se_addChoice 59 = .ok (.istore 6, 2) := by decide +kernel
theorem d_Se_addChoice_61 : decode b_Se_addChoice 61 = .ok (.iload 6, 2) := by decide +kernel
theorem d_Se_addChoice_63 : decode b_Se_addChoice 63 = .ok (.ifCond .ne (10), 3) := by decide +kernel
theorem d_Se_addChoice_66 : decode b_Se_addChoice 66 = .ok (.iload 4, 2) := by decide +kernel
theorem d_Se_addChoice_68 : decode b_Se_addChoice 68 = .ok (.aload_n 3, 1) := by decide +kernel
theorem d_Se_addChoice_69 : decode b_Se_addChoice 69 = .ok (.arraylength, 1) := by decide +kernel
theorem d_Se_addChoice_70 : decode b_Se_addChoice 70 = .ok (.if_icmp .lt (4), 3) := by decide +kernel
theorem d_Se_addChoice_73 : decode b_Se_addChoice 73 = .ok (.return_, 1) := by decide +kernel
theorem d_Se_addChoice_74 : decode b_Se_addChoice 74 = .ok (.iload 4, 2) := by decide +kernel
theorem d_Se_addChoice_76 : decode b_Se_addChoice 76 = .ok (.istore 7, 2) := by decide +kernel
theorem d_Se_addChoice_78 : decode b_Se_addChoice 78 = .ok (.iload 7, 2) := by decide +kernel
theorem d_Se_addChoice_80 : decode b_Se_addChoice 80 = .ok (.iload 5, 2) := by decide +kernel
theorem d_Se_addChoice_82 : decode b_Se_addChoice 82 = .ok (.if_icmp .le (19), 3) := by decide +kernel
theorem d_Se_addChoice_85 : decode b_Se_addChoice 85 = .ok (.aload_n 3, 1) := by decide +kernel
theorem d_Se_addChoice_86 : decode b_Se_addChoice 86 = .ok (.iload 7, 2) := by decide +kernel
theorem d_Se_addChoice_88 : decode b_Se_addChoice 88 = .ok (.aload_n 3, 1) := by decide +kernel
theorem d_Se_addChoice_89 : decode b_Se_addChoice 89 = .ok (.iload 7, 2) := by decide +kernel
theorem d_Se_addChoice_91 : decode b_Se_addChoice 91 = .ok (.iconst (1), 1) := by decide +kernel
theorem d_Se_addChoice_92 : decode b_Se_addChoice 92 = .ok (.isub, 1) := by decide +kernel
theorem d_Se_addChoice_93 : decode b_Se_addChoice 93 = .ok (.iaload, 1) := by decide +kernel
theorem d_Se_addChoice_94 : decode b_Se_addChoice 94 = .ok (.iastore, 1) := by decide +kernel
theorem d_Se_addChoice_95 : decode b_Se_addChoice 95 = .ok (.iinc 7 (-1), 3) := by decide +kernel
theorem d_Se_addChoice_98 : decode b_Se_addChoice 98 = .ok (.goto (-20), 3) := by decide +kernel
theorem d_Se_addChoice_101 : decode b_Se_addChoice 101 = .ok (.aload_n 3, 1) := by decide +kernel
theorem d_Se_addChoice_102 : decode b_Se_addChoice 102 = .ok (.iload 5, 2) := by decide +kernel
theorem d_Se_addChoice_104 : decode b_Se_addChoice 104 = .ok (.iload_n 2, 1) := by decide +kernel
theorem d_Se_addChoice_105 : decode b_Se_addChoice 105 = .ok (.iastore, 1) := by decide +kernel
theorem d_Se_addChoice_106 : decode b_Se_addChoice 106 = .ok (.aload_n 0, 1) := by decide +kernel
theorem d_Se_addChoice_107 : decode b_Se_addChoice 107 = .ok (.getfield 20, 3) := by decide +kernel
theorem d_Se_addChoice_110 : decode b_Se_addChoice 110 = .ok (.iload_n 1, 1) := by decide +kernel
theorem d_Se_addChoice_111 : decode b_Se_addChoice 111 = .ok (.iload 4, 2) := by decide +kernel
theorem d_Se_addChoice_113 : decode b_Se_addChoice 113 = .ok (.iconst (1), 1) := by decide +kernel
theorem d_Se_addChoice_114 : decode b_Se_addChoice 114 = .ok (.iadd, 1) := by decide +kernel
theorem d_Se_addChoice_115 : decode b_Se_addChoice 115 = .ok (.iastore, 1) := by decide +kernel
theorem d_Se_addChoice_116 : decode b_Se_addChoice 116 = .ok (.return_, 1) := by decide +kernel
theorem d_Se_open_0 : decode b_Se_open 0 = .ok (.aload_n 0, 1) := by decide +kernel
theorem d_Se_open_1 : decode b_Se_open 1 = .ok (.getfield 24, 3) := by decide +kernel
theorem d_Se_open_4 : decode b_Se_open 4 = .ok (.iload_n 1, 1) := by decide +kernel
theorem d_Se_open_5 : decode b_Se_open 5 = .ok (.aload_n 0, 1) := by decide +kernel
theorem d_Se_open_6 : decode b_Se_open 6 = .ok (.getfield 17, 3) := by decide +kernel
theorem d_Se_open_9 : decode b_Se_open 9 = .ok (.iload_n 1, 1) := by decide +kernel
theorem d_Se_open_10 : decode b_Se_open 10 = .ok (.aaload, 1) := by decide +kernel
theorem d_Se_open_11 : decode b_Se_open 11 = .ok (.iconst (0), 1) := by decide +kernel
theorem d_Se_open_12 : decode b_Se_open 12 = .ok (.iaload, 1) := by decide +kernel
theorem d_Se_open_13 : decode b_Se_open 13 = .ok (.iastore, 1) := by decide +kernel
theorem d_Se_open_14 : decode b_Se_open 14 = .ok (.aload_n 0, 1) := by decide +kernel
theorem d_Se_open_15 : decode b_Se_open 15 = .ok (.getfield 27, 3) := by decide +kernel
theorem d_Se_open_18 : decode b_Se_open 18 = .ok (.iload_n 1, 1) := by decide +kernel
theorem d_Se_open_19 : decode b_Se_open 19 = .ok (.aload_n 0, 1) := by decide +kernel
theorem d_Se_open_20 : decode b_Se_open 20 = .ok (.getfield 17, 3) := by decide +kernel
theorem d_Se_open_23 : decode b_Se_open 23 = .ok (.iload_n 1, 1) := by decide +kernel
theorem d_Se_open_24 : decode b_Se_open 24 = .ok (.aaload, 1) := by decide +kernel
theorem d_Se_open_25 : decode b_Se_open 25 = .ok (.aload_n 0, 1) := by decide +kernel
theorem d_Se_open_26 : decode b_Se_open 26 = .ok (.getfield 20, 3) := by decide +kernel
theorem d_Se_open_29 : decode b_Se_open 29 = .ok (.iload_n 1, 1) := by decide +kernel
theorem d_Se_open_30 : decode b_Se_open 30 = .ok (.iaload, 1) := by decide +kernel
theorem d_Se_open_31 : decode b_Se_open 31 = .ok (.iconst (1), 1) := by decide +kernel
theorem d_Se_open_32 : decode b_Se_open 32 = .ok (.isub, 1) := by decide +kernel
theorem d_Se_open_33 : decode b_Se_open 33 = .ok (.iaload, 1) := by decide +kernel
theorem d_Se_open_34 : decode b_Se_open 34 = .ok (.iastore, 1) := by decide +kernel
theorem d_Se_open_35 : decode b_Se_open 35 = .ok (.return_, 1) := by decide +kernel
theorem d_Se_visit_0 : decode b_Se_visit 0 = .ok (.iload_n 2, 1) := by decide +kernel
theorem d_Se_visit_1 : decode b_Se_visit 1 = .ok (.aload_n 0, 1) := by decide +kernel
theorem d_Se_visit_2 : decode b_Se_visit 2 = .ok (.getfield 34, 3) := by decide +kernel
theorem d_Se_visit_5 : decode b_Se_visit 5 = .ok (.if_icmp .ge (25), 3) := by decide +kernel
theorem d_Se_visit_8 : decode b_Se_visit 8 = .ok (.aload_n 0, 1) := by decide +kernel
theorem d_Se_visit_9 : decode b_Se_visit 9 = .ok (.getfield 44, 3) := by decide +kernel
theorem d_Se_visit_12 : decode b_Se_visit 12 = .ok (.aload_n 0, 1) := by decide +kernel
theorem d_Se_visit_13 : decode b_Se_visit 13 = .ok (.getfield 24, 3) := by decide +kernel
theorem d_Se_visit_16 : decode b_Se_visit 16 = .ok (.aload_n 0, 1) := by decide +kernel
theorem d_Se_visit_17 : decode b_Se_visit 17 = .ok (.getfield 27, 3) := by decide +kernel
theorem d_Se_visit_20 : decode b_Se_visit 20 = .ok (.invokevirtual 76, 3) := by decide +kernel
theorem d_Se_visit_23 : decode b_Se_visit 23 = .ok (.aload_n 0, 1) := by decide +kernel
theorem d_Se_visit_24 : decode b_Se_visit 24 = .ok (.getfield 38, 3) := by decide +kernel
theorem d_Se_visit_27 : decode b_Se_visit 27 = .ok (.if_icmp .ge (4), 3) := by decide +kernel
theorem d_Se_visit_30 : decode b_Se_visit 30 = .ok (.return_, 1) := by decide +kernel
theorem d_Se_visit_31 : decode b_Se_visit 31 = .ok (.iload_n 1, 1) := by decide +kernel
theorem d_Se_visit_32 : decode b_Se_visit 32 = .ok (.aload_n 0, 1) := by decide +kernel
theorem d_Se_visit_33 : decode b_Se_visit 33 = .ok (.getfield 41, 3) := by decide +kernel
theorem d_Se_visit_36 : decode b_Se_visit 36 = .ok (.if_icmp .ge (12), 3) := by decide +kernel
theorem d_Se_visit_39 : decode b_Se_visit 39 = .ok (.aload_n 0, 1) := by decide +kernel
theorem d_Se_visit_40 : decode b_Se_visit 40 = .ok (.iload_n 1, 1) := by decide +kernel
theorem d_Se_visit_41 : decode b_Se_visit 41 = .ok (.iload_n 2, 1) := by decide +kernel
theorem d_Se_visit_42 : decode b_Se_visit 42 = .ok (.invokevirtual 82, 3) := by decide +kernel
theorem d_Se_visit_45 : decode b_Se_visit 45 = .ok (.goto (8), 3) := by decide +kernel
theorem d_Se_visit_48 : decode b_Se_visit 48 = .ok (.aload_n 0, 1) := by decide +kernel
theorem d_Se_visit_49 : decode b_Se_visit 49 = .ok (.iload_n 2, 1) := by decide +kernel
theorem d_Se_visit_50 : decode b_Se_visit 50 = .ok (.invokevirtual 85, 3) := by decide +kernel
theorem d_Se_visit_53 : decode b_Se_visit 53 = .ok (.return_, 1) := by decide +kernel
theorem d_Ln_boundWithin_0 : decode b_Ln_boundWithin 0 = .ok (.iconst (0), 1) := by decide +kernel
theorem d_Ln_boundWithin_1 : decode b_Ln_boundWithin 1 = .ok (.istore_n 3, 1) := by decide +kernel
theorem d_Ln_boundWithin_2 : decode b_Ln_boundWithin 2 = .ok (.iload_n 3, 1) := by decide +kernel
theorem d_Ln_boundWithin_3 : decode b_Ln_boundWithin 3 = .ok (.aload_n 0, 1) := by decide +kernel
theorem d_Ln_boundWithin_4 : decode b_Ln_boundWithin 4 = .ok (.getfield 33, 3) := by decide +kernel
theorem d_Ln_boundWithin_7 : decode b_Ln_boundWithin 7 = .ok (.if_icmp .ge (22), 3) := by decide +kernel
theorem d_Ln_boundWithin_10 : decode b_Ln_boundWithin 10 = .ok (.aload_n 0, 1) := by decide +kernel
theorem d_Ln_boundWithin_11 : decode b_Ln_boundWithin 11 = .ok (.getfield 24, 3) := by decide +kernel
theorem d_Ln_boundWithin_14 : decode b_Ln_boundWithin 14 = .ok (.iload_n 3, 1) := by decide +kernel
theorem d_Ln_boundWithin_15 : decode b_Ln_boundWithin 15 = .ok (.aload_n 0, 1) := by decide +kernel
theorem d_Ln_boundWithin_16 : decode b_Ln_boundWithin 16 = .ok (.iload_n 3, 1) := by decide +kernel
theorem d_Ln_boundWithin_17 : decode b_Ln_boundWithin 17 = .ok (.aload_n 1, 1) := by decide +kernel
theorem d_Ln_boundWithin_18 : decode b_Ln_boundWithin 18 = .ok (.aload_n 2, 1) := by decide +kernel
theorem d_Ln_boundWithin_19 : decode b_Ln_boundWithin 19 = .ok (.invokevirtual 48, 3) := by decide +kernel
theorem d_Ln_boundWithin_22 : decode b_Ln_boundWithin 22 = .ok (.iastore, 1) := by decide +kernel
theorem d_Ln_boundWithin_23 : decode b_Ln_boundWithin 23 = .ok (.iinc 3 (1), 3) := by decide +kernel
theorem d_Ln_boundWithin_26 : decode b_Ln_boundWithin 26 = .ok (.goto (-24), 3) := by decide +kernel
theorem d_Ln_boundWithin_29 : decode b_Ln_boundWithin 29 = .ok (.iconst (0), 1) := by decide +kernel
theorem d_Ln_boundWithin_30 : decode b_Ln_boundWithin 30 = .ok (.istore_n 3, 1) := by decide +kernel
theorem d_Ln_boundWithin_31 : decode b_Ln_boundWithin 31 = .ok (.iconst (0), 1) := by decide +kernel
theorem d_Ln_boundWithin_32 : decode b_Ln_boundWithin 32 = .ok (.istore 4, 2) := by decide +kernel
theorem d_Ln_boundWithin_34 : decode b_Ln_boundWithin 34 = .ok (.iload 4, 2) := by decide +kernel
theorem d_Ln_boundWithin_36 : decode b_Ln_boundWithin 36 = .ok (.aload_n 0, 1) := by decide +kernel
theorem d_Ln_boundWithin_37 : decode b_Ln_boundWithin 37 = .ok (.getfield 37, 3) := by decide +kernel
theorem d_Ln_boundWithin_40 : decode b_Ln_boundWithin 40 = .ok (.if_icmp .ge (24), 3) := by decide +kernel
theorem d_Ln_boundWithin_43 : decode b_Ln_boundWithin 43 = .ok (.iload_n 3, 1) := by decide +kernel
theorem d_Ln_boundWithin_44 : decode b_Ln_boundWithin 44 = .ok (.aload_n 0, 1) := by decide +kernel
theorem d_Ln_boundWithin_45 : decode b_Ln_boundWithin 45 = .ok (.getfield 24, 3) := by decide +kernel
theorem d_Ln_boundWithin_48 : decode b_Ln_boundWithin 48 = .ok (.aload_n 0, 1) := by decide +kernel
theorem d_Ln_boundWithin_49 : decode b_Ln_boundWithin 49 = .ok (.getfield 27, 3) := by decide +kernel
theorem d_Ln_boundWithin_52 : decode b_Ln_boundWithin 52 = .ok (.iload 4, 2) := by decide +kernel
theorem d_Ln_boundWithin_54 : decode b_Ln_boundWithin 54 = .ok (.iaload, 1) := by decide +kernel
theorem d_Ln_boundWithin_55 : decode b_Ln_boundWithin 55 = .ok (.iaload, 1) := by decide +kernel
theorem d_Ln_boundWithin_56 : decode b_Ln_boundWithin 56 = .ok (.iadd, 1) := by decide +kernel
theorem d_Ln_boundWithin_57 : decode b_Ln_boundWithin 57 = .ok (.istore_n 3, 1) := by decide +kernel
theorem d_Ln_boundWithin_58 : decode b_Ln_boundWithin 58 = .ok (.iinc 4 (1), 3) := by decide +kernel
theorem d_Ln_boundWithin_61 : decode b_Ln_boundWithin 61 = .ok (.goto (-27), 3) := by decide +kernel
theorem d_Ln_boundWithin_64 : decode b_Ln_boundWithin 64 = .ok (.iconst (0), 1) := by decide +kernel
theorem d_Ln_boundWithin_65 : decode b_Ln_boundWithin 65 = .ok (.istore 4, 2) := by decide +kernel
theorem d_Ln_boundWithin_67 : decode b_Ln_boundWithin 67 = .ok (.iload 4, 2) := by decide +kernel
theorem d_Ln_boundWithin_69 : decode b_Ln_boundWithin 69 = .ok (.bipush (6), 2) := by decide +kernel
theorem d_Ln_boundWithin_71 : decode b_Ln_boundWithin 71 = .ok (.if_icmp .ge (39), 3) := by decide +kernel
theorem d_Ln_boundWithin_74 : decode b_Ln_boundWithin 74 = .ok (.iload_n 3, 1) := by decide +kernel
theorem d_Ln_boundWithin_75 : decode b_Ln_boundWithin 75 = .ok (.aload_n 0, 1) := by decide +kernel
theorem d_Ln_boundWithin_76 : decode b_Ln_boundWithin 76 = .ok (.getfield 30, 3) := by decide +kernel
theorem d_Ln_boundWithin_79 : decode b_Ln_boundWithin 79 = .ok (.iload 4, 2) := by decide +kernel
theorem d_Ln_boundWithin_81 : decode b_Ln_boundWithin 81 = .ok (.iaload, 1) := by decide +kernel
theorem d_Ln_boundWithin_82 : decode b_Ln_boundWithin 82 = .ok (.aload_n 1, 1) := by decide +kernel
theorem d_Ln_boundWithin_83 : decode b_Ln_boundWithin 83 = .ok (.iload 4, 2) := by decide +kernel
theorem d_Ln_boundWithin_85 : decode b_Ln_boundWithin 85 = .ok (.iaload, 1) := by decide +kernel
theorem d_Ln_boundWithin_86 : decode b_Ln_boundWithin 86 = .ok (.imul, 1) := by decide +kernel
theorem d_Ln_boundWithin_87 : decode b_Ln_boundWithin 87 = .ok (.aload_n 0, 1) := by decide +kernel
theorem d_Ln_boundWithin_88 : decode b_Ln_boundWithin 88 = .ok (.getfield 30, 3) := by decide +kernel
theorem d_Ln_boundWithin_91 : decode b_Ln_boundWithin 91 = .ok (.iload 4, 2) := by decide +kernel
theorem d_Ln_boundWithin_93 : decode b_Ln_boundWithin 93 = .ok (.iaload, 1) := by decide +kernel
theorem d_Ln_boundWithin_94 : decode b_Ln_boundWithin 94 = .ok (.aload_n 2, 1) := by decide +kernel
theorem d_Ln_boundWithin_95 : decode b_Ln_boundWithin 95 = .ok (.iload 4, 2) := by decide +kernel
theorem d_Ln_boundWithin_97 : decode b_Ln_boundWithin 97 = .ok (.iaload, 1) := by decide +kernel
theorem d_Ln_boundWithin_98 : decode b_Ln_boundWithin 98 = .ok (.imul, 1) := by decide +kernel
theorem d_Ln_boundWithin_99 : decode b_Ln_boundWithin 99 = .ok (.invokestatic 52, 3) := by decide +kernel
theorem d_Ln_boundWithin_102 : decode b_Ln_boundWithin 102 = .ok (.iadd, 1) := by decide +kernel
theorem d_Ln_boundWithin_103 : decode b_Ln_boundWithin 103 = .ok (.istore_n 3, 1) := by decide +kernel
theorem d_Ln_boundWithin_104 : decode b_Ln_boundWithin 104 = .ok (.iinc 4 (1), 3) := by decide +kernel
theorem d_Ln_boundWithin_107 : decode b_Ln_boundWithin 107 = .ok (.goto (-40), 3) := by decide +kernel
theorem d_Ln_boundWithin_110 : decode b_Ln_boundWithin 110 = .ok (.iload_n 3, 1) := by decide +kernel
theorem d_Ln_boundWithin_111 : decode b_Ln_boundWithin 111 = .ok (.ireturn, 1) := by decide +kernel
theorem d_Ln_peakOf_0 : decode b_Ln_peakOf 0 = .ok (.aload_n 0, 1) := by decide +kernel
theorem d_Ln_peakOf_1 : decode b_Ln_peakOf 1 = .ok (.getfield 9, 3) := by decide +kernel
theorem d_Ln_peakOf_4 : decode b_Ln_peakOf 4 = .ok (.iload_n 1, 1) := by decide +kernel
theorem d_Ln_peakOf_5 : decode b_Ln_peakOf 5 = .ok (.iaload, 1) := by decide +kernel
theorem d_Ln_peakOf_6 : decode b_Ln_peakOf 6 = .ok (.istore 4, 2) := by decide +kernel
theorem d_Ln_peakOf_8 : decode b_Ln_peakOf 8 = .ok (.iload 4, 2) := by decide +kernel
theorem d_Ln_peakOf_10 : decode b_Ln_peakOf 10 = .ok (.iconst (-1), 1) := by decide +kernel
theorem d_Ln_peakOf_11 : decode b_Ln_peakOf 11 = .ok (.if_icmp .ne (10), 3) := by decide +kernel
theorem d_Ln_peakOf_14 : decode b_Ln_peakOf 14 = .ok (.aload_n 0, 1) := by decide +kernel
theorem d_Ln_peakOf_15 : decode b_Ln_peakOf 15 = .ok (.getfield 15, 3) := by decide +kernel
theorem d_Ln_peakOf_18 : decode b_Ln_peakOf 18 = .ok (.iload_n 1, 1) := by decide +kernel
theorem d_Ln_peakOf_19 : decode b_Ln_peakOf 19 = .ok (.iaload, 1) := by decide +kernel
theorem d_Ln_peakOf_20 : decode b_Ln_peakOf 20 = .ok (.ireturn, 1) := by decide +kernel
theorem d_Ln_peakOf_21 : decode b_Ln_peakOf 21 = .ok (.aload_n 3, 1) := by decide +kernel
theorem d_Ln_peakOf_22 : decode b_Ln_peakOf 22 = .ok (.iload 4, 2) := by decide +kernel
theorem d_Ln_peakOf_24 : decode b_Ln_peakOf 24 = .ok (.iaload, 1) := by decide +kernel
theorem d_Ln_peakOf_25 : decode b_Ln_peakOf 25 = .ok (.aload_n 0, 1) := by decide +kernel
theorem d_Ln_peakOf_26 : decode b_Ln_peakOf 26 = .ok (.getfield 15, 3) := by decide +kernel
theorem d_Ln_peakOf_29 : decode b_Ln_peakOf 29 = .ok (.iload_n 1, 1) := by decide +kernel
theorem d_Ln_peakOf_30 : decode b_Ln_peakOf 30 = .ok (.iaload, 1) := by decide +kernel
theorem d_Ln_peakOf_31 : decode b_Ln_peakOf 31 = .ok (.if_icmp .gt (15), 3) := by decide +kernel
theorem d_Ln_peakOf_34 : decode b_Ln_peakOf 34 = .ok (.aload_n 0, 1) := by decide +kernel
theorem d_Ln_peakOf_35 : decode b_Ln_peakOf 35 = .ok (.getfield 24, 3) := by decide +kernel
theorem d_Ln_peakOf_38 : decode b_Ln_peakOf 38 = .ok (.aload_n 0, 1) := by decide +kernel
theorem d_Ln_peakOf_39 : decode b_Ln_peakOf 39 = .ok (.getfield 18, 3) := by decide +kernel
theorem d_Ln_peakOf_42 : decode b_Ln_peakOf 42 = .ok (.iload_n 1, 1) := by decide +kernel
theorem d_Ln_peakOf_43 : decode b_Ln_peakOf 43 = .ok (.iaload, 1) := by decide +kernel
theorem d_Ln_peakOf_44 : decode b_Ln_peakOf 44 = .ok (.iaload, 1) := by decide +kernel
theorem d_Ln_peakOf_45 : decode b_Ln_peakOf 45 = .ok (.ireturn, 1) := by decide +kernel
theorem d_Ln_peakOf_46 : decode b_Ln_peakOf 46 = .ok (.aload_n 2, 1) := by decide +kernel
theorem d_Ln_peakOf_47 : decode b_Ln_peakOf 47 = .ok (.iload 4, 2) := by decide +kernel
