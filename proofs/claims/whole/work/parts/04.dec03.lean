theorem d_ES_partial_21 : decode b_ES_partial 21 = .ok (.ifCond .ne (7), 3) := by decide +kernel
theorem d_ES_partial_24 : decode b_ES_partial 24 = .ok (.ldc2_w 114, 3) := by decide +kernel
theorem d_ES_partial_27 : decode b_ES_partial 27 = .ok (.lreturn, 1) := by decide +kernel
theorem d_ES_partial_28 : decode b_ES_partial 28 = .ok (.aload_n 0, 1) := by decide +kernel
theorem d_ES_partial_29 : decode b_ES_partial 29 = .ok (.getfield 50, 3) := by decide +kernel
theorem d_ES_partial_32 : decode b_ES_partial 32 = .ok (.iload_n 1, 1) := by decide +kernel
theorem d_ES_partial_33 : decode b_ES_partial 33 = .ok (.iload_n 2, 1) := by decide +kernel
theorem d_ES_partial_34 : decode b_ES_partial 34 = .ok (.invokevirtual 158, 3) := by decide +kernel
theorem d_ES_partial_37 : decode b_ES_partial 37 = .ok (.aload_n 0, 1) := by decide +kernel
theorem d_ES_partial_38 : decode b_ES_partial 38 = .ok (.getfield 32, 3) := by decide +kernel
theorem d_ES_partial_41 : decode b_ES_partial 41 = .ok (.invokevirtual 127, 3) := by decide +kernel
theorem d_ES_partial_44 : decode b_ES_partial 44 = .ok (.i2l, 1) := by decide +kernel
theorem d_ES_partial_45 : decode b_ES_partial 45 = .ok (.iload_n 3, 1) := by decide +kernel
theorem d_ES_partial_46 : decode b_ES_partial 46 = .ok (.invokestatic 130, 3) := by decide +kernel
theorem d_ES_partial_49 : decode b_ES_partial 49 = .ok (.lreturn, 1) := by decide +kernel
theorem d_Me_replacedSum_0 : decode b_Me_replacedSum 0 = .ok (.lconst 0, 1) := by decide +kernel
theorem d_Me_replacedSum_1 : decode b_Me_replacedSum 1 = .ok (.lstore_n 3, 1) := by decide +kernel
theorem d_Me_replacedSum_2 : decode b_Me_replacedSum 2 = .ok (.iconst (0), 1) := by decide +kernel
theorem d_Me_replacedSum_3 : decode b_Me_replacedSum 3 = .ok (.istore 5, 2) := by decide +kernel
theorem d_Me_replacedSum_5 : decode b_Me_replacedSum 5 = .ok (.iload 5, 2) := by decide +kernel
theorem d_Me_replacedSum_7 : decode b_Me_replacedSum 7 = .ok (.aload_n 0, 1) := by decide +kernel
theorem d_Me_replacedSum_8 : decode b_Me_replacedSum 8 = .ok (.getfield 23, 3) := by decide +kernel
theorem d_Me_replacedSum_11 : decode b_Me_replacedSum 11 = .ok (.invokevirtual 40, 3) := by decide +kernel
theorem d_Me_replacedSum_14 : decode b_Me_replacedSum 14 = .ok (.if_icmp .ge (27), 3) := by decide +kernel
theorem d_Me_replacedSum_17 : decode b_Me_replacedSum 17 = .ok (.lload_n 3, 1) := by decide +kernel
theorem d_Me_replacedSum_18 : decode b_Me_replacedSum 18 = .ok (.aload_n 0, 1) := by decide +kernel
theorem d_Me_replacedSum_19 : decode b_Me_replacedSum 19 = .ok (.aload_n 0, 1) := by decide +kernel
theorem d_Me_replacedSum_20 : decode b_Me_replacedSum 20 = .ok (.getfield 23, 3) := by decide +kernel
theorem d_Me_replacedSum_23 : decode b_Me_replacedSum 23 = .ok (.iload 5, 2) := by decide +kernel
theorem d_Me_replacedSum_25 : decode b_Me_replacedSum 25 = .ok (.invokevirtual 46, 3) := by decide +kernel
theorem d_Me_replacedSum_28 : decode b_Me_replacedSum 28 = .ok (.iload_n 1, 1) := by decide +kernel
theorem d_Me_replacedSum_29 : decode b_Me_replacedSum 29 = .ok (.iload_n 2, 1) := by decide +kernel
theorem d_Me_replacedSum_30 : decode b_Me_replacedSum 30 = .ok (.invokevirtual 99, 3) := by decide +kernel
theorem d_Me_replacedSum_33 : decode b_Me_replacedSum 33 = .ok (.ladd, 1) := by decide +kernel
theorem d_Me_replacedSum_34 : decode b_Me_replacedSum 34 = .ok (.lstore_n 3, 1) := by decide +kernel
theorem d_Me_replacedSum_35 : decode b_Me_replacedSum 35 = .ok (.iinc 5 (1), 3) := by decide +kernel
theorem d_Me_replacedSum_38 : decode b_Me_replacedSum 38 = .ok (.goto (-33), 3) := by decide +kernel
theorem d_Me_replacedSum_41 : decode b_Me_replacedSum 41 = .ok (.lload_n 3, 1) := by decide +kernel
theorem d_Me_replacedSum_42 : decode b_Me_replacedSum 42 = .ok (.lreturn, 1) := by decide +kernel
theorem d_Me_sumWith_0 : decode b_Me_sumWith 0 = .ok (.iconst (0), 1) := by decide +kernel
theorem d_Me_sumWith_1 : decode b_Me_sumWith 1 = .ok (.istore 4, 2) := by decide +kernel
theorem d_Me_sumWith_3 : decode b_Me_sumWith 3 = .ok (.iload 4, 2) := by decide +kernel
theorem d_Me_sumWith_5 : decode b_Me_sumWith 5 = .ok (.bipush (6), 2) := by decide +kernel
theorem d_Me_sumWith_7 : decode b_Me_sumWith 7 = .ok (.if_icmp .ge (30), 3) := by decide +kernel
theorem d_Me_sumWith_10 : decode b_Me_sumWith 10 = .ok (.aload_n 0, 1) := by decide +kernel
theorem d_Me_sumWith_11 : decode b_Me_sumWith 11 = .ok (.getfield 9, 3) := by decide +kernel
theorem d_Me_sumWith_14 : decode b_Me_sumWith 14 = .ok (.iload 4, 2) := by decide +kernel
theorem d_Me_sumWith_16 : decode b_Me_sumWith 16 = .ok (.iload 4, 2) := by decide +kernel
theorem d_Me_sumWith_18 : decode b_Me_sumWith 18 = .ok (.iload_n 2, 1) := by decide +kernel
theorem d_Me_sumWith_19 : decode b_Me_sumWith 19 = .ok (.if_icmp .ne (7), 3) := by decide +kernel
theorem d_Me_sumWith_22 : decode b_Me_sumWith 22 = .ok (.iload_n 3, 1) := by decide +kernel
theorem d_Me_sumWith_23 : decode b_Me_sumWith 23 = .ok (.goto (7), 3) := by decide +kernel
theorem d_Me_sumWith_26 : decode b_Me_sumWith 26 = .ok (.aload_n 1, 1) := by decide +kernel
theorem d_Me_sumWith_27 : decode b_Me_sumWith 27 = .ok (.iload 4, 2) := by decide +kernel
theorem d_Me_sumWith_29 : decode b_Me_sumWith 29 = .ok (.iaload, 1) := by decide +kernel
theorem d_Me_sumWith_30 : decode b_Me_sumWith 30 = .ok (.iastore, 1) := by decide +kernel
theorem d_Me_sumWith_31 : decode b_Me_sumWith 31 = .ok (.iinc 4 (1), 3) := by decide +kernel
theorem d_Me_sumWith_34 : decode b_Me_sumWith 34 = .ok (.goto (-31), 3) := by decide +kernel
theorem d_Me_sumWith_37 : decode b_Me_sumWith 37 = .ok (.aload_n 0, 1) := by decide +kernel
theorem d_Me_sumWith_38 : decode b_Me_sumWith 38 = .ok (.getfield 19, 3) := by decide +kernel
theorem d_Me_sumWith_41 : decode b_Me_sumWith 41 = .ok (.aload_n 0, 1) := by decide +kernel
theorem d_Me_sumWith_42 : decode b_Me_sumWith 42 = .ok (.getfield 9, 3) := by decide +kernel
theorem d_Me_sumWith_45 : decode b_Me_sumWith 45 = .ok (.invokevirtual 54, 3) := by decide +kernel
theorem d_Me_sumWith_48 : decode b_Me_sumWith 48 = .ok (.i2l, 1) := by decide +kernel
theorem d_Me_sumWith_49 : decode b_Me_sumWith 49 = .ok (.lreturn, 1) := by decide +kernel
theorem d_La_worth_0 : decode b_La_worth 0 = .ok (.aload_n 3, 1) := by decide +kernel
theorem d_La_worth_1 : decode b_La_worth 1 = .ok (.iconst (0), 1) := by decide +kernel
theorem d_La_worth_2 : decode b_La_worth 2 = .ok (.aload_n 0, 1) := by decide +kernel
theorem d_La_worth_3 : decode b_La_worth 3 = .ok (.iload_n 1, 1) := by decide +kernel
theorem d_La_worth_4 : decode b_La_worth 4 = .ok (.iload_n 2, 1) := by decide +kernel
theorem d_La_worth_5 : decode b_La_worth 5 = .ok (.invokevirtual 29, 3) := by decide +kernel
theorem d_La_worth_8 : decode b_La_worth 8 = .ok (.lastore, 1) := by decide +kernel
theorem d_La_worth_9 : decode b_La_worth 9 = .ok (.goto (7), 3) := by decide +kernel
theorem d_La_worth_12 : decode b_La_worth 12 = .ok (.astore 4, 2) := by decide +kernel
theorem d_La_worth_14 : decode b_La_worth 14 = .ok (.iconst (1), 1) := by decide +kernel
theorem d_La_worth_15 : decode b_La_worth 15 = .ok (.ireturn, 1) := by decide +kernel
theorem d_La_worth_16 : decode b_La_worth 16 = .ok (.iconst (0), 1) := by decide +kernel
theorem d_La_worth_17 : decode b_La_worth 17 = .ok (.ireturn, 1) := by decide +kernel
theorem d_ES_worth_0 : decode b_ES_worth 0 = .ok (.aload_n 0, 1) := by decide +kernel
theorem d_ES_worth_1 : decode b_ES_worth 1 = .ok (.iload_n 1, 1) := by decide +kernel
theorem d_ES_worth_2 : decode b_ES_worth 2 = .ok (.invokevirtual 71, 3) := by decide +kernel
theorem d_ES_worth_5 : decode b_ES_worth 5 = .ok (.ifCond .eq (10), 3) := by decide +kernel
theorem d_ES_worth_8 : decode b_ES_worth 8 = .ok (.iload_n 2, 1) := by decide +kernel
theorem d_ES_worth_9 : decode b_ES_worth 9 = .ok (.invokestatic 120, 3) := by decide +kernel
theorem d_ES_worth_12 : decode b_ES_worth 12 = .ok (.ifCond .ne (7), 3) := by decide +kernel
theorem d_ES_worth_15 : decode b_ES_worth 15 = .ok (.ldc2_w 114, 3) := by decide +kernel
theorem d_ES_worth_18 : decode b_ES_worth 18 = .ok (.lreturn, 1) := by decide +kernel
theorem d_ES_worth_19 : decode b_ES_worth 19 = .ok (.aload_n 0, 1) := by decide +kernel
theorem d_ES_worth_20 : decode b_ES_worth 20 = .ok (.getfield 50, 3) := by decide +kernel
theorem d_ES_worth_23 : decode b_ES_worth 23 = .ok (.iload_n 1, 1) := by decide +kernel
theorem d_ES_worth_24 : decode b_ES_worth 24 = .ok (.invokevirtual 161, 3) := by decide +kernel
theorem d_ES_worth_27 : decode b_ES_worth 27 = .ok (.aload_n 0, 1) := by decide +kernel
theorem d_ES_worth_28 : decode b_ES_worth 28 = .ok (.getfield 32, 3) := by decide +kernel
theorem d_ES_worth_31 : decode b_ES_worth 31 = .ok (.invokevirtual 127, 3) := by decide +kernel
theorem d_ES_worth_34 : decode b_ES_worth 34 = .ok (.i2l, 1) := by decide +kernel
theorem d_ES_worth_35 : decode b_ES_worth 35 = .ok (.aload_n 0, 1) := by decide +kernel
theorem d_ES_worth_36 : decode b_ES_worth 36 = .ok (.getfield 32, 3) := by decide +kernel
theorem d_ES_worth_39 : decode b_ES_worth 39 = .ok (.invokevirtual 127, 3) := by decide +kernel
theorem d_ES_worth_42 : decode b_ES_worth 42 = .ok (.i2l, 1) := by decide +kernel
theorem d_ES_worth_43 : decode b_ES_worth 43 = .ok (.lmul, 1) := by decide +kernel
theorem d_ES_worth_44 : decode b_ES_worth 44 = .ok (.iload_n 2, 1) := by decide +kernel
theorem d_ES_worth_45 : decode b_ES_worth 45 = .ok (.invokestatic 130, 3) := by decide +kernel
theorem d_ES_worth_48 : decode b_ES_worth 48 = .ok (.lreturn, 1) := by decide +kernel
theorem d_Me_changeSum_0 : decode b_Me_changeSum 0 = .ok (.lconst 0, 1) := by decide +kernel
theorem d_Me_changeSum_1 : decode b_Me_changeSum 1 = .ok (.lstore_n 2, 1) := by decide +kernel
theorem d_Me_changeSum_2 : decode b_Me_changeSum 2 = .ok (.iconst (0), 1) := by decide +kernel
theorem d_Me_changeSum_3 : decode b_Me_changeSum 3 = .ok (.istore 4, 2) := by decide +kernel
theorem d_Me_changeSum_5 : decode b_Me_changeSum 5 = .ok (.iload 4, 2) := by decide +kernel
theorem d_Me_changeSum_7 : decode b_Me_changeSum 7 = .ok (.aload_n 0, 1) := by decide +kernel
theorem d_Me_changeSum_8 : decode b_Me_changeSum 8 = .ok (.getfield 23, 3) := by decide +kernel
theorem d_Me_changeSum_11 : decode b_Me_changeSum 11 = .ok (.invokevirtual 40, 3) := by decide +kernel
theorem d_Me_changeSum_14 : decode b_Me_changeSum 14 = .ok (.if_icmp .ge (84), 3) := by decide +kernel
theorem d_Me_changeSum_17 : decode b_Me_changeSum 17 = .ok (.aload_n 0, 1) := by decide +kernel
theorem d_Me_changeSum_18 : decode b_Me_changeSum 18 = .ok (.getfield 23, 3) := by decide +kernel
theorem d_Me_changeSum_21 : decode b_Me_changeSum 21 = .ok (.iload 4, 2) := by decide +kernel
theorem d_Me_changeSum_23 : decode b_Me_changeSum 23 = .ok (.invokevirtual 46, 3) := by decide +kernel
theorem d_Me_changeSum_26 : decode b_Me_changeSum 26 = .ok (.astore 5, 2) := by decide +kernel
theorem d_Me_changeSum_28 : decode b_Me_changeSum 28 = .ok (.aload_n 0, 1) := by decide +kernel
theorem d_Me_changeSum_29 : decode b_Me_changeSum 29 = .ok (.getfield 19, 3) := by decide +kernel
theorem d_Me_changeSum_32 : decode b_Me_changeSum 32 = .ok (.aload 5, 2) := by decide +kernel
theorem d_Me_changeSum_34 : decode b_Me_changeSum 34 = .ok (.invokevirtual 54, 3) := by decide +kernel
theorem d_Me_changeSum_37 : decode b_Me_changeSum 37 = .ok (.i2l, 1) := by decide +kernel
theorem d_Me_changeSum_38 : decode b_Me_changeSum 38 = .ok (.lstore 6, 2) := by decide +kernel
theorem d_Me_changeSum_40 : decode b_Me_changeSum 40 = .ok (.iconst (0), 1) := by decide +kernel
theorem d_Me_changeSum_41 : decode b_Me_changeSum 41 = .ok (.istore 8, 2) := by decide +kernel
theorem d_Me_changeSum_43 : decode b_Me_changeSum 43 = .ok (.iload 8, 2) := by decide +kernel
theorem d_Me_changeSum_45 : decode b_Me_changeSum 45 = .ok (.aload_n 0, 1) := by decide +kernel
theorem d_Me_changeSum_46 : decode b_Me_changeSum 46 = .ok (.getfield 23, 3) := by decide +kernel
theorem d_Me_changeSum_49 : decode b_Me_changeSum 49 = .ok (.invokevirtual 40, 3) := by decide +kernel
theorem d_Me_changeSum_52 : decode b_Me_changeSum 52 = .ok (.if_icmp .ge (40), 3) := by decide +kernel
theorem d_Me_changeSum_55 : decode b_Me_changeSum 55 = .ok (.aload_n 0, 1) := by decide +kernel
theorem d_Me_changeSum_56 : decode b_Me_changeSum 56 = .ok (.aload 5, 2) := by decide +kernel
theorem d_Me_changeSum_58 : decode b_Me_changeSum 58 = .ok (.iload_n 1, 1) := by decide +kernel
theorem d_Me_changeSum_59 : decode b_Me_changeSum 59 = .ok (.aload_n 0, 1) := by decide +kernel
theorem d_Me_changeSum_60 : decode b_Me_changeSum 60 = .ok (.getfield 23, 3) := by decide +kernel
theorem d_Me_changeSum_63 : decode b_Me_changeSum 63 = .ok (.iload 8, 2) := by decide +kernel
theorem d_Me_changeSum_65 : decode b_Me_changeSum 65 = .ok (.invokevirtual 46, 3) := by decide +kernel
theorem d_Me_changeSum_68 : decode b_Me_changeSum 68 = .ok (.iload_n 1, 1) := by decide +kernel
theorem d_Me_changeSum_69 : decode b_Me_changeSum 69 = .ok (.iaload, 1) := by decide +kernel
theorem d_Me_changeSum_70 : decode b_Me_changeSum 70 = .ok (.invokevirtual 99, 3) := by decide +kernel
theorem d_Me_changeSum_73 : decode b_Me_changeSum 73 = .ok (.lload 6, 2) := by decide +kernel
theorem d_Me_changeSum_75 : decode b_Me_changeSum 75 = .ok (.lsub, 1) := by decide +kernel
theorem d_Me_changeSum_76 : decode b_Me_changeSum 76 = .ok (.lstore 9, 2) := by decide +kernel
theorem d_Me_changeSum_78 : decode b_Me_changeSum 78 = .ok (.lload_n 2, 1) := by decide +kernel
theorem d_Me_changeSum_79 : decode b_Me_changeSum 79 = .ok (.lload 9, 2) := by decide +kernel
theorem d_Me_changeSum_81 : decode b_Me_changeSum 81 = .ok (.lload 9, 2) := by decide +kernel
theorem d_Me_changeSum_83 : decode b_Me_changeSum 83 = .ok (.lmul, 1) := by decide +kernel
theorem d_Me_changeSum_84 : decode b_Me_changeSum 84 = .ok (.ladd, 1) := by decide +kernel
theorem d_Me_changeSum_85 : decode b_Me_changeSum 85 = .ok (.lstore_n 2, 1) := by decide +kernel
theorem d_Me_changeSum_86 : decode b_Me_changeSum 86 = .ok (.iinc 8 (1), 3) := by decide +kernel
theorem d_Me_changeSum_89 : decode b_Me_changeSum 89 = .ok (.goto (-46), 3) := by decide +kernel
theorem d_Me_changeSum_92 : decode b_Me_changeSum 92 = .ok (.iinc 4 (1), 3) := by decide +kernel
theorem d_Me_changeSum_95 : decode b_Me_changeSum 95 = .ok (.goto (-90), 3) := by decide +kernel
theorem d_Me_changeSum_98 : decode b_Me_changeSum 98 = .ok (.lload_n 2, 1) := by decide +kernel
theorem d_Me_changeSum_99 : decode b_Me_changeSum 99 = .ok (.lreturn, 1) := by decide +kernel
theorem d_Md_init_0 : decode b_Md_init 0 = .ok (.aload_n 0, 1) := by decide +kernel
theorem d_Md_init_1 : decode b_Md_init 1 = .ok (.invokespecial 1, 3) := by decide +kernel
theorem d_Md_init_4 : decode b_Md_init 4 = .ok (.aload_n 0, 1) := by decide +kernel
theorem d_Md_init_5 : decode b_Md_init 5 = .ok (.bipush (30), 2) := by decide +kernel
theorem d_Md_init_7 : decode b_Md_init 7 = .ok (.newarray .boolean, 2) := by decide +kernel
theorem d_Md_init_9 : decode b_Md_init 9 = .ok (.putfield 7, 3) := by decide +kernel
theorem d_Md_init_12 : decode b_Md_init 12 = .ok (.aload_n 0, 1) := by decide +kernel
theorem d_Md_init_13 : decode b_Md_init 13 = .ok (.bipush (30), 2) := by decide +kernel
theorem d_Md_init_15 : decode b_Md_init 15 = .ok (.newarray .int, 2) := by decide +kernel
theorem d_Md_init_17 : decode b_Md_init 17 = .ok (.putfield 13, 3) := by decide +kernel
theorem d_Md_init_20 : decode b_Md_init 20 = .ok (.aload_n 0, 1) := by decide +kernel
theorem d_Md_init_21 : decode b_Md_init 21 = .ok (.bipush (30), 2) := by decide +kernel
theorem d_Md_init_23 : decode b_Md_init 23 = .ok (.newarray .int, 2) := by decide +kernel
theorem d_Md_init_25 : decode b_Md_init 25 = .ok (.putfield 17, 3) := by decide +kernel
theorem d_Md_init_28 : decode b_Md_init 28 = .ok (.aload_n 0, 1) := by decide +kernel
theorem d_Md_init_29 : decode b_Md_init 29 = .ok (.bipush (30), 2) := by decide +kernel
theorem d_Md_init_31 : decode b_Md_init 31 = .ok (.newarray .int, 2) := by decide +kernel
theorem d_Md_init_33 : decode b_Md_init 33 = .ok (.putfield 20, 3) := by decide +kernel
theorem d_Md_init_36 : decode b_Md_init 36 = .ok (.aload_n 0, 1) := by decide +kernel
theorem d_Md_init_37 : decode b_Md_init 37 = .ok (.bipush (30), 2) := by decide +kernel
theorem d_Md_init_39 : decode b_Md_init 39 = .ok (.newarray .int, 2) := by decide +kernel
theorem d_Md_init_41 : decode b_Md_init 41 = .ok (.putfield 23, 3) := by decide +kernel
theorem d_Md_init_44 : decode b_Md_init 44 = .ok (.aload_n 0, 1) := by decide +kernel
theorem d_Md_init_45 : decode b_Md_init 45 = .ok (.iconst (4), 1) := by decide +kernel
theorem d_Md_init_46 : decode b_Md_init 46 = .ok (.newarray .int, 2) := by decide +kernel
theorem d_Md_init_48 : decode b_Md_init 48 = .ok (.putfield 26, 3) := by decide +kernel
theorem d_Md_init_51 : decode b_Md_init 51 = .ok (.aload_n 0, 1) := by decide +kernel
theorem d_Md_init_52 : decode b_Md_init 52 = .ok (.bipush (6), 2) := by decide +kernel
theorem d_Md_init_54 : decode b_Md_init 54 = .ok (.newarray .int, 2) := by decide +kernel
theorem d_Md_init_56 : decode b_Md_init 56 = .ok (.putfield 29, 3) := by decide +kernel
theorem d_Md_init_59 : decode b_Md_init 59 = .ok (.aload_n 0, 1) := by decide +kernel
theorem d_Md_init_60 : decode b_Md_init 60 = .ok (.bipush (6), 2) := by decide +kernel
theorem d_Md_init_62 : decode b_Md_init 62 = .ok (.newarray .int, 2) := by decide +kernel
theorem d_Md_init_64 : decode b_Md_init 64 = .ok (.putfield 32, 3) := by decide +kernel
theorem d_Md_init_67 : decode b_Md_init 67 = .ok (.aload_n 0, 1) := by decide +kernel
theorem d_Md_init_68 : decode b_Md_init 68 = .ok (.bipush (6), 2) := by decide +kernel
theorem d_Md_init_70 : decode b_Md_init 70 = .ok (.newarray .boolean, 2) := by decide +kernel
theorem d_Md_init_72 : decode b_Md_init 72 = .ok (.putfield 35, 3) := by decide +kernel
theorem d_Md_init_75 : decode b_Md_init 75 = .ok (.aload_n 0, 1) := by decide +kernel
theorem d_Md_init_76 : decode b_Md_init 76 = .ok (.bipush (36), 2) := by decide +kernel
theorem d_Md_init_78 : decode b_Md_init 78 = .ok (.newarray .int, 2) := by decide +kernel
theorem d_Md_init_80 : decode b_Md_init 80 = .ok (.putfield 38, 3) := by decide +kernel
theorem d_Md_init_83 : decode b_Md_init 83 = .ok (.aload_n 0, 1) := by decide +kernel
theorem d_Md_init_84 : decode b_Md_init 84 = .ok (.bipush (6), 2) := by decide +kernel
theorem d_Md_init_86 : decode b_Md_init 86 = .ok (.newarray .int, 2) := by decide +kernel
theorem d_Md_init_88 : decode b_Md_init 88 = .ok (.putfield 41, 3) := by decide +kernel
theorem d_Md_init_91 : decode b_Md_init 91 = .ok (.aload_n 0, 1) := by decide +kernel
theorem d_Md_init_92 : decode b_Md_init 92 = .ok (.bipush (64), 2) := by decide +kernel
theorem d_Md_init_94 : decode b_Md_init 94 = .ok (.newarray .long, 2) := by decide +kernel
theorem d_Md_init_96 : decode b_Md_init 96 = .ok (.putfield 44, 3) := by decide +kernel
theorem d_Md_init_99 : decode b_Md_init 99 = .ok (.aload_n 0, 1) := by decide +kernel
theorem d_Md_init_100 : decode b_Md_init 100 = .ok (.bipush (6), 2) := by decide +kernel
theorem d_Md_init_102 : decode b_Md_init 102 = .ok (.newarray .int, 2) := by decide +kernel
theorem d_Md_init_104 : decode b_Md_init 104 = .ok (.putfield 48, 3) := by decide +kernel
theorem d_Md_init_107 : decode b_Md_init 107 = .ok (.aload_n 0, 1) := by decide +kernel
theorem d_Md_init_108 : decode b_Md_init 108 = .ok (.bipush (6), 2) := by decide +kernel
theorem d_Md_init_110 : decode b_Md_init 110 = .ok (.newarray .int, 2) := by decide +kernel
theorem d_Md_init_112 : decode b_Md_init 112 = .ok (.putfield 51, 3) := by decide +kernel
theorem d_Md_init_115 : decode b_Md_init 115 = .ok (.aload_n 0, 1) := by decide +kernel
theorem d_Md_init_116 : decode b_Md_init 116 = .ok (.bipush (6), 2) := by decide +kernel
theorem d_Md_init_118 : decode b_Md_init 118 = .ok (.newarray .long, 2) := by decide +kernel
theorem d_Md_init_120 : decode b_Md_init 120 = .ok (.putfield 54, 3) := by decide +kernel
theorem d_Md_init_123 : decode b_Md_init 123 = .ok (.aload_n 0, 1) := by decide +kernel
theorem d_Md_init_124 : decode b_Md_init 124 = .ok (.bipush (6), 2) := by decide +kernel
theorem d_Md_init_126 : decode b_Md_init 126 = .ok (.newarray .int, 2) := by decide +kernel
theorem d_Md_init_128 : decode b_Md_init 128 = .ok (.putfield 57, 3) := by decide +kernel
theorem d_Md_init_131 : decode b_Md_init 131 = .ok (.aload_n 0, 1) := by decide +kernel
theorem d_Md_init_132 : decode b_Md_init 132 = .ok (.bipush (6), 2) := by decide +kernel
theorem d_Md_init_134 : decode b_Md_init 134 = .ok (.newarray .int, 2) := by decide +kernel
theorem d_Md_init_136 : decode b_Md_init 136 = .ok (.putfield 60, 3) := by decide +kernel
theorem d_Md_init_139 : decode b_Md_init 139 = .ok (.aload_n 0, 1) := by decide +kernel
theorem d_Md_init_140 : decode b_Md_init 140 = .ok (.iload_n 1, 1) := by decide +kernel
theorem d_Md_init_141 : decode b_Md_init 141 = .ok (.iconst (1), 1) := by decide +kernel
theorem d_Md_init_142 : decode b_Md_init 142 = .ok (.if_icmp .ge (7), 3) := by decide +kernel
theorem d_Md_init_145 : decode b_Md_init 145 = .ok (.iconst (1), 1) := by decide +kernel
theorem d_Md_init_146 : decode b_Md_init 146 = .ok (.goto (15), 3) := by decide +kernel
theorem d_Md_init_149 : decode b_Md_init 149 = .ok (.iload_n 1, 1) := by decide +kernel
theorem d_Md_init_150 : decode b_Md_init 150 = .ok (.bipush (6), 2) := by decide +kernel
theorem d_Md_init_152 : decode b_Md_init 152 = .ok (.if_icmp .le (8), 3) := by decide +kernel
theorem d_Md_init_155 : decode b_Md_init 155 = .ok (.bipush (6), 2) := by decide +kernel
theorem d_Md_init_157 : decode b_Md_init 157 = .ok (.goto (4), 3) := by decide +kernel
theorem d_Md_init_160 : decode b_Md_init 160 = .ok (.iload_n 1, 1) := by decide +kernel
theorem d_Md_init_161 : decode b_Md_init 161 = .ok (.putfield 63, 3) := by decide +kernel
theorem d_Md_init_164 : decode b_Md_init 164 = .ok (.aload_n 0, 1) := by decide +kernel
theorem d_Md_init_165 : decode b_Md_init 165 = .ok (.invokevirtual 67, 3) := by decide +kernel
theorem d_Md_init_168 : decode b_Md_init 168 = .ok (.pop, 1) := by decide +kernel
theorem d_Md_init_169 : decode b_Md_init 169 = .ok (.return_, 1) := by decide +kernel
theorem d_Md_clear_0 : decode b_Md_clear 0 = .ok (.aload_n 0, 1) := by decide +kernel
theorem d_Md_clear_1 : decode b_Md_clear 1 = .ok (.iconst (0), 1) := by decide +kernel
theorem d_Md_clear_2 : decode b_Md_clear 2 = .ok (.putfield 71, 3) := by decide +kernel
theorem d_Md_clear_5 : decode b_Md_clear 5 = .ok (.aload_n 0, 1) := by decide +kernel
theorem d_Md_clear_6 : decode b_Md_clear 6 = .ok (.getfield 78, 3) := by decide +kernel
theorem d_Md_clear_9 : decode b_Md_clear 9 = .ok (.istore_n 1, 1) := by decide +kernel
theorem d_Md_clear_10 : decode b_Md_clear 10 = .ok (.aload_n 0, 1) := by decide +kernel
theorem d_Md_clear_11 : decode b_Md_clear 11 = .ok (.iconst (0), 1) := by decide +kernel
theorem d_Md_clear_12 : decode b_Md_clear 12 = .ok (.putfield 78, 3) := by decide +kernel
theorem d_Md_clear_15 : decode b_Md_clear 15 = .ok (.aload_n 0, 1) := by decide +kernel
theorem d_Md_clear_16 : decode b_Md_clear 16 = .ok (.iconst (0), 1) := by decide +kernel
theorem d_Md_clear_17 : decode b_Md_clear 17 = .ok (.putfield 85, 3) := by decide +kernel
theorem d_Md_clear_20 : decode b_Md_clear 20 = .ok (.aload_n 0, 1) := by decide +kernel
theorem d_Md_clear_21 : decode b_Md_clear 21 = .ok (.iconst (0), 1) := by decide +kernel
theorem d_Md_clear_22 : decode b_Md_clear 22 = .ok (.putfield 88, 3) := by decide +kernel
theorem d_Md_clear_25 : decode b_Md_clear 25 = .ok (.iconst (0), 1) := by decide +kernel
theorem d_Md_clear_26 : decode b_Md_clear 26 = .ok (.istore_n 2, 1) := by decide +kernel
theorem d_Md_clear_27 : decode b_Md_clear 27 = .ok (.iload_n 2, 1) := by decide +kernel
theorem d_Md_clear_28 : decode b_Md_clear 28 = .ok (.bipush (6), 2) := by decide +kernel
theorem d_Md_clear_30 : decode b_Md_clear 30 = .ok (.if_icmp .ge (37), 3) := by decide +kernel
theorem d_Md_clear_33 : decode b_Md_clear 33 = .ok (.aload_n 0, 1) := by decide +kernel
theorem d_Md_clear_34 : decode b_Md_clear 34 = .ok (.getfield 29, 3) := by decide +kernel
theorem d_Md_clear_37 : decode b_Md_clear 37 = .ok (.iload_n 2, 1) := by decide +kernel
theorem d_Md_clear_38 : decode b_Md_clear 38 = .ok (.iconst (0), 1) := by decide +kernel
theorem d_Md_clear_39 : decode b_Md_clear 39 = .ok (.iastore, 1) := by decide +kernel
theorem d_Md_clear_40 : decode b_Md_clear 40 = .ok (.aload_n 0, 1) := by decide +kernel
theorem d_Md_clear_41 : decode b_Md_clear 41 = .ok (.getfield 38, 3) := by decide +kernel
theorem d_Md_clear_44 : decode b_Md_clear 44 = .ok (.iload_n 2, 1) := by decide +kernel
theorem d_Md_clear_45 : decode b_Md_clear 45 = .ok (.iconst (0), 1) := by decide +kernel
theorem d_Md_clear_46 : decode b_Md_clear 46 = .ok (.iastore, 1) := by decide +kernel
theorem d_Md_clear_47 : decode b_Md_clear 47 = .ok (.aload_n 0, 1) := by decide +kernel
theorem d_Md_clear_48 : decode b_Md_clear 48 = .ok (.getfield 32, 3) := by decide +kernel
theorem d_Md_clear_51 : decode b_Md_clear 51 = .ok (.iload_n 2, 1) := by decide +kernel
theorem d_Md_clear_52 : decode b_Md_clear 52 = .ok (.iload_n 2, 1) := by decide +kernel
theorem d_Md_clear_53 : decode b_Md_clear 53 = .ok (.iastore, 1) := by decide +kernel
theorem d_Md_clear_54 : decode b_Md_clear 54 = .ok (.aload_n 0, 1) := by decide +kernel
theorem d_Md_clear_55 : decode b_Md_clear 55 = .ok (.getfield 35, 3) := by decide +kernel
theorem d_Md_clear_58 : decode b_Md_clear 58 = .ok (.iload_n 2, 1) := by decide +kernel
theorem d_Md_clear_59 : decode b_Md_clear 59 = .ok (.iconst (0), 1) := by decide +kernel
theorem d_Md_clear_60 : decode b_Md_clear 60 = .ok (.bastore, 1) := by decide +kernel
theorem d_Md_clear_61 : decode b_Md_clear 61 = .ok (.iinc 2 (1), 3) := by decide +kernel
theorem d_Md_clear_64 : decode b_Md_clear 64 = .ok (.goto (-37), 3) := by decide +kernel
theorem d_Md_clear_67 : decode b_Md_clear 67 = .ok (.iload_n 1, 1) := by decide +kernel
theorem d_Md_clear_68 : decode b_Md_clear 68 = .ok (.ireturn, 1) := by decide +kernel
theorem d_Md_thrown_0 : decode b_Md_thrown 0 = .ok (.aload_n 0, 1) := by decide +kernel
theorem d_Md_thrown_1 : decode b_Md_thrown 1 = .ok (.getfield 71, 3) := by decide +kernel
theorem d_Md_thrown_4 : decode b_Md_thrown 4 = .ok (.ireturn, 1) := by decide +kernel
theorem d_Md_leaf_0 : decode b_Md_leaf 0 = .ok (.aload_n 0, 1) := by decide +kernel
theorem d_Md_leaf_1 : decode b_Md_leaf 1 = .ok (.iconst (0), 1) := by decide +kernel
theorem d_Md_leaf_2 : decode b_Md_leaf 2 = .ok (.putfield 71, 3) := by decide +kernel
theorem d_Md_leaf_5 : decode b_Md_leaf 5 = .ok (.iload_n 1, 1) := by decide +kernel
theorem d_Md_leaf_6 : decode b_Md_leaf 6 = .ok (.sipush (-1000), 3) := by decide +kernel
theorem d_Md_leaf_9 : decode b_Md_leaf 9 = .ok (.sipush (1000), 3) := by decide +kernel
theorem d_Md_leaf_12 : decode b_Md_leaf 12 = .ok (.invokestatic 74, 3) := by decide +kernel
theorem d_Md_leaf_15 : decode b_Md_leaf 15 = .ok (.ifCond .ne (6), 3) := by decide +kernel
theorem d_Md_leaf_18 : decode b_Md_leaf 18 = .ok (.bipush (-2), 2) := by decide +kernel
theorem d_Md_leaf_20 : decode b_Md_leaf 20 = .ok (.ireturn, 1) := by decide +kernel
theorem d_Md_leaf_21 : decode b_Md_leaf 21 = .ok (.aload_n 0, 1) := by decide +kernel
theorem d_Md_leaf_22 : decode b_Md_leaf 22 = .ok (.getfield 78, 3) := by decide +kernel
theorem d_Md_leaf_25 : decode b_Md_leaf 25 = .ok (.bipush (30), 2) := by decide +kernel
theorem d_Md_leaf_27 : decode b_Md_leaf 27 = .ok (.if_icmp .ne (6), 3) := by decide +kernel
theorem d_Md_leaf_30 : decode b_Md_leaf 30 = .ok (.bipush (-4), 2) := by decide +kernel
theorem d_Md_leaf_32 : decode b_Md_leaf 32 = .ok (.ireturn, 1) := by decide +kernel
theorem d_Md_leaf_33 : decode b_Md_leaf 33 = .ok (.aload_n 0, 1) := by decide +kernel
theorem d_Md_leaf_34 : decode b_Md_leaf 34 = .ok (.getfield 7, 3) := by decide +kernel
theorem d_Md_leaf_37 : decode b_Md_leaf 37 = .ok (.aload_n 0, 1) := by decide +kernel
theorem d_Md_leaf_38 : decode b_Md_leaf 38 = .ok (.getfield 78, 3) := by decide +kernel
theorem d_Md_leaf_41 : decode b_Md_leaf 41 = .ok (.iconst (1), 1) := by decide +kernel
theorem d_Md_leaf_42 : decode b_Md_leaf 42 = .ok (.bastore, 1) := by decide +kernel
theorem d_Md_leaf_43 : decode b_Md_leaf 43 = .ok (.aload_n 0, 1) := by decide +kernel
theorem d_Md_leaf_44 : decode b_Md_leaf 44 = .ok (.getfield 13, 3) := by decide +kernel
theorem d_Md_leaf_47 : decode b_Md_leaf 47 = .ok (.aload_n 0, 1) := by decide +kernel
theorem d_Md_leaf_48 : decode b_Md_leaf 48 = .ok (.getfield 78, 3) := by decide +kernel
theorem d_Md_leaf_51 : decode b_Md_leaf 51 = .ok (.iload_n 1, 1) := by decide +kernel
theorem d_Md_leaf_52 : decode b_Md_leaf 52 = .ok (.iastore, 1) := by decide +kernel
theorem d_Md_leaf_53 : decode b_Md_leaf 53 = .ok (.aload_n 0, 1) := by decide +kernel
theorem d_Md_leaf_54 : decode b_Md_leaf 54 = .ok (.dup, 1) := by decide +kernel
theorem d_Md_leaf_55 : decode b_Md_leaf 55 = .ok (.getfield 78, 3) := by decide +kernel
theorem d_Md_leaf_58 : decode b_Md_leaf 58 = .ok (.iconst (1), 1) := by decide +kernel
theorem d_Md_leaf_59 : decode b_Md_leaf 59 = .ok (.iadd, 1) := by decide +kernel
theorem d_Md_leaf_60 : decode b_Md_leaf 60 = .ok (.putfield 78, 3) := by decide +kernel
theorem d_Md_leaf_63 : decode b_Md_leaf 63 = .ok (.aload_n 0, 1) := by decide +kernel
theorem d_Md_leaf_64 : decode b_Md_leaf 64 = .ok (.getfield 78, 3) := by decide +kernel
theorem d_Md_leaf_67 : decode b_Md_leaf 67 = .ok (.iconst (1), 1) := by decide +kernel
theorem d_Md_leaf_68 : decode b_Md_leaf 68 = .ok (.isub, 1) := by decide +kernel
theorem d_Md_leaf_69 : decode b_Md_leaf 69 = .ok (.ireturn, 1) := by decide +kernel
theorem d_Md_in_0 : decode b_Md_in 0 = .ok (.iload_n 0, 1) := by decide +kernel
theorem d_Md_in_1 : decode b_Md_in 1 = .ok (.iload_n 1, 1) := by decide +kernel
theorem d_Md_in_2 : decode b_Md_in 2 = .ok (.if_icmp .lt (12), 3) := by decide +kernel
theorem d_Md_in_5 : decode b_Md_in 5 = .ok (.iload_n 0, 1) := by decide +kernel
theorem d_Md_in_6 : decode b_Md_in 6 = .ok (.iload_n 2, 1) := by decide +kernel
theorem d_Md_in_7 : decode b_Md_in 7 = .ok (.if_icmp .gt (7), 3) := by decide +kernel
theorem d_Md_in_10 : decode b_Md_in 10 = .ok (.iconst (1), 1) := by decide +kernel
theorem d_Md_in_11 : decode b_Md_in 11 = .ok (.goto (4), 3) := by decide +kernel
theorem d_Md_in_14 : decode b_Md_in 14 = .ok (.iconst (0), 1) := by decide +kernel
theorem d_Md_in_15 : decode b_Md_in 15 = .ok (.ireturn, 1) := by decide +kernel
theorem d_Md_split_0 : decode b_Md_split 0 = .ok (.aload_n 0, 1) := by decide +kernel
theorem d_Md_split_1 : decode b_Md_split 1 = .ok (.iconst (0), 1) := by decide +kernel
theorem d_Md_split_2 : decode b_Md_split 2 = .ok (.putfield 71, 3) := by decide +kernel
theorem d_Md_split_5 : decode b_Md_split 5 = .ok (.aload_n 0, 1) := by decide +kernel
theorem d_Md_split_6 : decode b_Md_split 6 = .ok (.iload_n 1, 1) := by decide +kernel
theorem d_Md_split_7 : decode b_Md_split 7 = .ok (.invokevirtual 81, 3) := by decide +kernel
theorem d_Md_split_10 : decode b_Md_split 10 = .ok (.ifCond .eq (32), 3) := by decide +kernel
theorem d_Md_split_13 : decode b_Md_split 13 = .ok (.iload_n 3, 1) := by decide +kernel
theorem d_Md_split_14 : decode b_Md_split 14 = .ok (.iconst (0), 1) := by decide +kernel
theorem d_Md_split_15 : decode b_Md_split 15 = .ok (.aload_n 0, 1) := by decide +kernel
theorem d_Md_split_16 : decode b_Md_split 16 = .ok (.getfield 78, 3) := by decide +kernel
theorem d_Md_split_19 : decode b_Md_split 19 = .ok (.iconst (1), 1) := by decide +kernel
theorem d_Md_split_20 : decode b_Md_split 20 = .ok (.isub, 1) := by decide +kernel
theorem d_Md_split_21 : decode b_Md_split 21 = .ok (.invokestatic 74, 3) := by decide +kernel
theorem d_Md_split_24 : decode b_Md_split 24 = .ok (.ifCond .eq (18), 3) := by decide +kernel
theorem d_Md_split_27 : decode b_Md_split 27 = .ok (.iload 4, 2) := by decide +kernel
theorem d_Md_split_29 : decode b_Md_split 29 = .ok (.iconst (0), 1) := by decide +kernel
theorem d_Md_split_30 : decode b_Md_split 30 = .ok (.aload_n 0, 1) := by decide +kernel
theorem d_Md_split_31 : decode b_Md_split 31 = .ok (.getfield 78, 3) := by decide +kernel
theorem d_Md_split_34 : decode b_Md_split 34 = .ok (.iconst (1), 1) := by decide +kernel
theorem d_Md_split_35 : decode b_Md_split 35 = .ok (.isub, 1) := by decide +kernel
theorem d_Md_split_36 : decode b_Md_split 36 = .ok (.invokestatic 74, 3) := by decide +kernel
theorem d_Md_split_39 : decode b_Md_split 39 = .ok (.ifCond .ne (5), 3) := by decide +kernel
theorem d_Md_split_42 : decode b_Md_split 42 = .ok (.iconst (-1), 1) := by decide +kernel
theorem d_Md_split_43 : decode b_Md_split 43 = .ok (.ireturn, 1) := by decide +kernel
theorem d_Md_split_44 : decode b_Md_split 44 = .ok (.iload_n 2, 1) := by decide +kernel
theorem d_Md_split_45 : decode b_Md_split 45 = .ok (.bipush (-100), 2) := by decide +kernel
theorem d_Md_split_47 : decode b_Md_split 47 = .ok (.bipush (100), 2) := by decide +kernel
theorem d_Md_split_49 : decode b_Md_split 49 = .ok (.invokestatic 74, 3) := by decide +kernel
theorem d_Md_split_52 : decode b_Md_split 52 = .ok (.ifCond .ne (6), 3) := by decide +kernel
theorem d_Md_split_55 : decode b_Md_split 55 = .ok (.bipush (-2), 2) := by decide +kernel
theorem d_Md_split_57 : decode b_Md_split 57 = .ok (.ireturn, 1) := by decide +kernel
theorem d_Md_split_58 : decode b_Md_split 58 = .ok (.aload_n 0, 1) := by decide +kernel
theorem d_Md_split_59 : decode b_Md_split 59 = .ok (.getfield 78, 3) := by decide +kernel
theorem d_Md_split_62 : decode b_Md_split 62 = .ok (.bipush (30), 2) := by decide +kernel
theorem d_Md_split_64 : decode b_Md_split 64 = .ok (.if_icmp .ne (6), 3) := by decide +kernel
theorem d_Md_split_67 : decode b_Md_split 67 = .ok (.bipush (-4), 2) := by decide +kernel
theorem d_Md_split_69 : decode b_Md_split 69 = .ok (.ireturn, 1) := by decide +kernel
theorem d_Md_split_70 : decode b_Md_split 70 = .ok (.aload_n 0, 1) := by decide +kernel
theorem d_Md_split_71 : decode b_Md_split 71 = .ok (.getfield 7, 3) := by decide +kernel
theorem d_Md_split_74 : decode b_Md_split 74 = .ok (.aload_n 0, 1) := by decide +kernel
theorem d_Md_split_75 : decode b_Md_split 75 = .ok (.getfield 78, 3) := by decide +kernel
theorem d_Md_split_78 : decode b_Md_split 78 = .ok (.iconst (0), 1) := by decide +kernel
theorem d_Md_split_79 : decode b_Md_split 79 = .ok (.bastore, 1) := by decide +kernel
theorem d_Md_split_80 : decode b_Md_split 80 = .ok (.aload_n 0, 1) := by decide +kernel
theorem d_Md_split_81 : decode b_Md_split 81 = .ok (.getfield 13, 3) := by decide +kernel
theorem d_Md_split_84 : decode b_Md_split 84 = .ok (.aload_n 0, 1) := by decide +kernel
theorem d_Md_split_85 : decode b_Md_split 85 = .ok (.getfield 78, 3) := by decide +kernel
theorem d_Md_split_88 : decode b_Md_split 88 = .ok (.iload_n 2, 1) := by decide +kernel
theorem d_Md_split_89 : decode b_Md_split 89 = .ok (.iastore, 1) := by decide +kernel
theorem d_Md_split_90 : decode b_Md_split 90 = .ok (.aload_n 0, 1) := by decide +kernel
theorem d_Md_split_91 : decode b_Md_split 91 = .ok (.getfield 17, 3) := by decide +kernel
theorem d_Md_split_94 : decode b_Md_split 94 = .ok (.aload_n 0, 1) := by decide +kernel
theorem d_Md_split_95 : decode b_Md_split 95 = .ok (.getfield 78, 3) := by decide +kernel
theorem d_Md_split_98 : decode b_Md_split 98 = .ok (.iload_n 1, 1) := by decide +kernel
theorem d_Md_split_99 : decode b_Md_split 99 = .ok (.iastore, 1) := by decide +kernel
theorem d_Md_split_100 : decode b_Md_split 100 = .ok (.aload_n 0, 1) := by decide +kernel
theorem d_Md_split_101 : decode b_Md_split 101 = .ok (.getfield 20, 3) := by decide +kernel
theorem d_Md_split_104 : decode b_Md_split 104 = .ok (.aload_n 0, 1) := by decide +kernel
theorem d_Md_split_105 : decode b_Md_split 105 = .ok (.getfield 78, 3) := by decide +kernel
theorem d_Md_split_108 : decode b_Md_split 108 = .ok (.iload_n 3, 1) := by decide +kernel
theorem d_Md_split_109 : decode b_Md_split 109 = .ok (.iastore, 1) := by decide +kernel
theorem d_Md_split_110 : decode b_Md_split 110 = .ok (.aload_n 0, 1) := by decide +kernel
theorem d_Md_split_111 : decode b_Md_split 111 = .ok (.getfield 23, 3) := by decide +kernel
theorem d_Md_split_114 : decode b_Md_split 114 = .ok (.aload_n 0, 1) := by decide +kernel
theorem d_Md_split_115 : decode b_Md_split 115 = .ok (.getfield 78, 3) := by decide +kernel
theorem d_Md_split_118 : decode b_Md_split 118 = .ok (.iload 4, 2) := by decide +kernel
theorem d_Md_split_120 : decode b_Md_split 120 = .ok (.iastore, 1) := by decide +kernel
theorem d_Md_split_121 : decode b_Md_split 121 = .ok (.aload_n 0, 1) := by decide +kernel
theorem d_Md_split_122 : decode b_Md_split 122 = .ok (.dup, 1) := by decide +kernel
theorem d_Md_split_123 : decode b_Md_split 123 = .ok (.getfield 78, 3) := by decide +kernel
theorem d_Md_split_126 : decode b_Md_split 126 = .ok (.iconst (1), 1) := by decide +kernel
theorem d_Md_split_127 : decode b_Md_split 127 = .ok (.iadd, 1) := by decide +kernel
theorem d_Md_split_128 : decode b_Md_split 128 = .ok (.putfield 78, 3) := by decide +kernel
theorem d_Md_split_131 : decode b_Md_split 131 = .ok (.aload_n 0, 1) := by decide +kernel
theorem d_Md_split_132 : decode b_Md_split 132 = .ok (.getfield 78, 3) := by decide +kernel
theorem d_Md_split_135 : decode b_Md_split 135 = .ok (.iconst (1), 1) := by decide +kernel
theorem d_Md_split_136 : decode b_Md_split 136 = .ok (.isub, 1) := by decide +kernel
theorem d_Md_split_137 : decode b_Md_split 137 = .ok (.ireturn, 1) := by decide +kernel
theorem d_Md_isColumn_0 : decode b_Md_isColumn 0 = .ok (.iload_n 1, 1) := by decide +kernel
theorem d_Md_isColumn_1 : decode b_Md_isColumn 1 = .ok (.iconst (0), 1) := by decide +kernel
theorem d_Md_isColumn_2 : decode b_Md_isColumn 2 = .ok (.aload_n 0, 1) := by decide +kernel
theorem d_Md_isColumn_3 : decode b_Md_isColumn 3 = .ok (.getfield 63, 3) := by decide +kernel
theorem d_Md_isColumn_6 : decode b_Md_isColumn 6 = .ok (.iconst (1), 1) := by decide +kernel
theorem d_Md_isColumn_7 : decode b_Md_isColumn 7 = .ok (.isub, 1) := by decide +kernel
theorem d_Md_isColumn_8 : decode b_Md_isColumn 8 = .ok (.invokestatic 74, 3) := by decide +kernel
theorem d_Md_isColumn_11 : decode b_Md_isColumn 11 = .ok (.ireturn, 1) := by decide +kernel
theorem d_Md_root_0 : decode b_Md_root 0 = .ok (.aload_n 0, 1) := by decide +kernel
theorem d_Md_root_1 : decode b_Md_root 1 = .ok (.iconst (0), 1) := by decide +kernel
theorem d_Md_root_2 : decode b_Md_root 2 = .ok (.putfield 71, 3) := by decide +kernel
theorem d_Md_root_5 : decode b_Md_root 5 = .ok (.iload_n 1, 1) := by decide +kernel
theorem d_Md_root_6 : decode b_Md_root 6 = .ok (.iconst (0), 1) := by decide +kernel
theorem d_Md_root_7 : decode b_Md_root 7 = .ok (.aload_n 0, 1) := by decide +kernel
theorem d_Md_root_8 : decode b_Md_root 8 = .ok (.getfield 78, 3) := by decide +kernel
theorem d_Md_root_11 : decode b_Md_root 11 = .ok (.iconst (1), 1) := by decide +kernel
theorem d_Md_root_12 : decode b_Md_root 12 = .ok (.isub, 1) := by decide +kernel
theorem d_Md_root_13 : decode b_Md_root 13 = .ok (.invokestatic 74, 3) := by decide +kernel
theorem d_Md_root_16 : decode b_Md_root 16 = .ok (.ifCond .ne (5), 3) := by decide +kernel
theorem d_Md_root_19 : decode b_Md_root 19 = .ok (.iconst (-1), 1) := by decide +kernel
theorem d_Md_root_20 : decode b_Md_root 20 = .ok (.ireturn, 1) := by decide +kernel
theorem d_Md_root_21 : decode b_Md_root 21 = .ok (.aload_n 0, 1) := by decide +kernel
theorem d_Md_root_22 : decode b_Md_root 22 = .ok (.getfield 85, 3) := by decide +kernel
theorem d_Md_root_25 : decode b_Md_root 25 = .ok (.iconst (4), 1) := by decide +kernel
theorem d_Md_root_26 : decode b_Md_root 26 = .ok (.if_icmp .ne (6), 3) := by decide +kernel
theorem d_Md_root_29 : decode b_Md_root 29 = .ok (.bipush (-4), 2) := by decide +kernel
theorem d_Md_root_31 : decode b_Md_root 31 = .ok (.ireturn, 1) := by decide +kernel
theorem d_Md_root_32 : decode b_Md_root 32 = .ok (.aload_n 0, 1) := by decide +kernel
theorem d_Md_root_33 : decode b_Md_root 33 = .ok (.getfield 26, 3) := by decide +kernel
theorem d_Md_root_36 : decode b_Md_root 36 = .ok (.aload_n 0, 1) := by decide +kernel
theorem d_Md_root_37 : decode b_Md_root 37 = .ok (.getfield 85, 3) := by decide +kernel
theorem d_Md_root_40 : decode b_Md_root 40 = .ok (.iload_n 1, 1) := by decide +kernel
theorem d_Md_root_41 : decode b_Md_root 41 = .ok (.iastore, 1) := by decide +kernel
theorem d_Md_root_42 : decode b_Md_root 42 = .ok (.aload_n 0, 1) := by decide +kernel
theorem d_Md_root_43 : decode b_Md_root 43 = .ok (.dup, 1) := by decide +kernel
theorem d_Md_root_44 : decode b_Md_root 44 = .ok (.getfield 85, 3) := by decide +kernel
theorem d_Md_root_47 : decode b_Md_root 47 = .ok (.iconst (1), 1) := by decide +kernel
theorem d_Md_root_48 : decode b_Md_root 48 = .ok (.iadd, 1) := by decide +kernel
theorem d_Md_root_49 : decode b_Md_root 49 = .ok (.putfield 85, 3) := by decide +kernel
theorem d_Md_root_52 : decode b_Md_root 52 = .ok (.aload_n 0, 1) := by decide +kernel
theorem d_Md_root_53 : decode b_Md_root 53 = .ok (.getfield 85, 3) := by decide +kernel
theorem d_Md_root_56 : decode b_Md_root 56 = .ok (.ireturn, 1) := by decide +kernel
theorem d_Md_weight_0 : decode b_Md_weight 0 = .ok (.aload_n 0, 1) := by decide +kernel
theorem d_Md_weight_1 : decode b_Md_weight 1 = .ok (.iconst (0), 1) := by decide +kernel
theorem d_Md_weight_2 : decode b_Md_weight 2 = .ok (.putfield 71, 3) := by decide +kernel
theorem d_Md_weight_5 : decode b_Md_weight 5 = .ok (.aload_n 0, 1) := by decide +kernel
theorem d_Md_weight_6 : decode b_Md_weight 6 = .ok (.iload_n 1, 1) := by decide +kernel
theorem d_Md_weight_7 : decode b_Md_weight 7 = .ok (.invokevirtual 81, 3) := by decide +kernel
theorem d_Md_weight_10 : decode b_Md_weight 10 = .ok (.ifCond .ne (5), 3) := by decide +kernel
theorem d_Md_weight_13 : decode b_Md_weight 13 = .ok (.iconst (-1), 1) := by decide +kernel
theorem d_Md_weight_14 : decode b_Md_weight 14 = .ok (.ireturn, 1) := by decide +kernel
theorem d_Md_weight_15 : decode b_Md_weight 15 = .ok (.iload_n 2, 1) := by decide +kernel
theorem d_Md_weight_16 : decode b_Md_weight 16 = .ok (.bipush (-20), 2) := by decide +kernel
theorem d_Md_weight_18 : decode b_Md_weight 18 = .ok (.bipush (20), 2) := by decide +kernel
theorem d_Md_weight_20 : decode b_Md_weight 20 = .ok (.invokestatic 74, 3) := by decide +kernel
theorem d_Md_weight_23 : decode b_Md_weight 23 = .ok (.ifCond .ne (6), 3) := by decide +kernel
theorem d_Md_weight_26 : decode b_Md_weight 26 = .ok (.bipush (-2), 2) := by decide +kernel
theorem d_Md_weight_28 : decode b_Md_weight 28 = .ok (.ireturn, 1) := by decide +kernel
theorem d_Md_weight_29 : decode b_Md_weight 29 = .ok (.aload_n 0, 1) := by decide +kernel
theorem d_Md_weight_30 : decode b_Md_weight 30 = .ok (.getfield 29, 3) := by decide +kernel
theorem d_Md_weight_33 : decode b_Md_weight 33 = .ok (.iload_n 1, 1) := by decide +kernel
theorem d_Md_weight_34 : decode b_Md_weight 34 = .ok (.iload_n 2, 1) := by decide +kernel
theorem d_Md_weight_35 : decode b_Md_weight 35 = .ok (.iastore, 1) := by decide +kernel
theorem d_Md_weight_36 : decode b_Md_weight 36 = .ok (.iconst (1), 1) := by decide +kernel
theorem d_Md_weight_37 : decode b_Md_weight 37 = .ok (.ireturn, 1) := by decide +kernel
theorem d_Md_background_0 : decode b_Md_background 0 = .ok (.aload_n 0, 1) := by decide +kernel
theorem d_Md_background_1 : decode b_Md_background 1 = .ok (.iconst (0), 1) := by decide +kernel
theorem d_Md_background_2 : decode b_Md_background 2 = .ok (.putfield 71, 3) := by decide +kernel
theorem d_Md_background_5 : decode b_Md_background 5 = .ok (.aload_n 0, 1) := by decide +kernel
theorem d_Md_background_6 : decode b_Md_background 6 = .ok (.getfield 88, 3) := by decide +kernel
theorem d_Md_background_9 : decode b_Md_background 9 = .ok (.iconst (5), 1) := by decide +kernel
theorem d_Md_background_10 : decode b_Md_background 10 = .ok (.if_icmp .ne (6), 3) := by decide +kernel
theorem d_Md_background_13 : decode b_Md_background 13 = .ok (.bipush (-4), 2) := by decide +kernel
theorem d_Md_background_15 : decode b_Md_background 15 = .ok (.ireturn, 1) := by decide +kernel
theorem d_Md_background_16 : decode b_Md_background 16 = .ok (.aload_n 0, 1) := by decide +kernel
theorem d_Md_background_17 : decode b_Md_background 17 = .ok (.dup, 1) := by decide +kernel
theorem d_Md_background_18 : decode b_Md_background 18 = .ok (.getfield 88, 3) := by decide +kernel
theorem d_Md_background_21 : decode b_Md_background 21 = .ok (.iconst (1), 1) := by decide +kernel
theorem d_Md_background_22 : decode b_Md_background 22 = .ok (.iadd, 1) := by decide +kernel
theorem d_Md_background_23 : decode b_Md_background 23 = .ok (.putfield 88, 3) := by decide +kernel
theorem d_Md_background_26 : decode b_Md_background 26 = .ok (.iconst (0), 1) := by decide +kernel
theorem d_Md_background_27 : decode b_Md_background 27 = .ok (.istore_n 1, 1) := by decide +kernel
theorem d_Md_background_28 : decode b_Md_background 28 = .ok (.iload_n 1, 1) := by decide +kernel
theorem d_Md_background_29 : decode b_Md_background 29 = .ok (.bipush (6), 2) := by decide +kernel
theorem d_Md_background_31 : decode b_Md_background 31 = .ok (.if_icmp .ge (24), 3) := by decide +kernel
theorem d_Md_background_34 : decode b_Md_background 34 = .ok (.aload_n 0, 1) := by decide +kernel
theorem d_Md_background_35 : decode b_Md_background 35 = .ok (.getfield 38, 3) := by decide +kernel
theorem d_Md_background_38 : decode b_Md_background 38 = .ok (.bipush (6), 2) := by decide +kernel
theorem d_Md_background_40 : decode b_Md_background 40 = .ok (.aload_n 0, 1) := by decide +kernel
theorem d_Md_background_41 : decode b_Md_background 41 = .ok (.getfield 88, 3) := by decide +kernel
theorem d_Md_background_44 : decode b_Md_background 44 = .ok (.imul, 1) := by decide +kernel
theorem d_Md_background_45 : decode b_Md_background 45 = .ok (.iload_n 1, 1) := by decide +kernel
theorem d_Md_background_46 : decode b_Md_background 46 = .ok (.iadd, 1) := by decide +kernel
theorem d_Md_background_47 : decode b_Md_background 47 = .ok (.iconst (0), 1) := by decide +kernel
theorem d_Md_background_48 : decode b_Md_background 48 = .ok (.iastore, 1) := by decide +kernel
theorem d_Md_background_49 : decode b_Md_background 49 = .ok (.iinc 1 (1), 3) := by decide +kernel
theorem d_Md_background_52 : decode b_Md_background 52 = .ok (.goto (-24), 3) := by decide +kernel
theorem d_Md_background_55 : decode b_Md_background 55 = .ok (.aload_n 0, 1) := by decide +kernel
theorem d_Md_background_56 : decode b_Md_background 56 = .ok (.getfield 88, 3) := by decide +kernel
theorem d_Md_background_59 : decode b_Md_background 59 = .ok (.iconst (1), 1) := by decide +kernel
theorem d_Md_background_60 : decode b_Md_background 60 = .ok (.isub, 1) := by decide +kernel
theorem d_Md_background_61 : decode b_Md_background 61 = .ok (.ireturn, 1) := by decide +kernel
theorem d_Md_item_0 : decode b_Md_item 0 = .ok (.aload_n 0, 1) := by decide +kernel
theorem d_Md_item_1 : decode b_Md_item 1 = .ok (.iconst (0), 1) := by decide +kernel
theorem d_Md_item_2 : decode b_Md_item 2 = .ok (.putfield 71, 3) := by decide +kernel
theorem d_Md_item_5 : decode b_Md_item 5 = .ok (.iload_n 1, 1) := by decide +kernel
theorem d_Md_item_6 : decode b_Md_item 6 = .ok (.iconst (-1), 1) := by decide +kernel
theorem d_Md_item_7 : decode b_Md_item 7 = .ok (.aload_n 0, 1) := by decide +kernel
theorem d_Md_item_8 : decode b_Md_item 8 = .ok (.getfield 88, 3) := by decide +kernel
theorem d_Md_item_11 : decode b_Md_item 11 = .ok (.iconst (1), 1) := by decide +kernel
theorem d_Md_item_12 : decode b_Md_item 12 = .ok (.isub, 1) := by decide +kernel
theorem d_Md_item_13 : decode b_Md_item 13 = .ok (.invokestatic 74, 3) := by decide +kernel
theorem d_Md_item_16 : decode b_Md_item 16 = .ok (.ifCond .eq (11), 3) := by decide +kernel
theorem d_Md_item_19 : decode b_Md_item 19 = .ok (.aload_n 0, 1) := by decide +kernel
theorem d_Md_item_20 : decode b_Md_item 20 = .ok (.iload_n 2, 1) := by decide +kernel
theorem d_Md_item_21 : decode b_Md_item 21 = .ok (.invokevirtual 81, 3) := by decide +kernel
theorem d_Md_item_24 : decode b_Md_item 24 = .ok (.ifCond .ne (5), 3) := by decide +kernel
theorem d_Md_item_27 : decode b_Md_item 27 = .ok (.iconst (-1), 1) := by decide +kernel
theorem d_Md_item_28 : decode b_Md_item 28 = .ok (.ireturn, 1) := by decide +kernel
theorem d_Md_item_29 : decode b_Md_item 29 = .ok (.iload_n 3, 1) := by decide +kernel
theorem d_Md_item_30 : decode b_Md_item 30 = .ok (.bipush (-100), 2) := by decide +kernel
theorem d_Md_item_32 : decode b_Md_item 32 = .ok (.bipush (100), 2) := by decide +kernel
theorem d_Md_item_34 : decode b_Md_item 34 = .ok (.invokestatic 74, 3) := by decide +kernel
theorem d_Md_item_37 : decode b_Md_item 37 = .ok (.ifCond .ne (6), 3) := by decide +kernel
theorem d_Md_item_40 : decode b_Md_item 40 = .ok (.bipush (-2), 2) := by decide +kernel
theorem d_Md_item_42 : decode b_Md_item 42 = .ok (.ireturn, 1) := by decide +kernel
theorem d_Md_item_43 : decode b_Md_item 43 = .ok (.aload_n 0, 1) := by decide +kernel
theorem d_Md_item_44 : decode b_Md_item 44 = .ok (.getfield 38, 3) := by decide +kernel
theorem d_Md_item_47 : decode b_Md_item 47 = .ok (.bipush (6), 2) := by decide +kernel
theorem d_Md_item_49 : decode b_Md_item 49 = .ok (.iload_n 1, 1) := by decide +kernel
theorem d_Md_item_50 : decode b_Md_item 50 = .ok (.iconst (1), 1) := by decide +kernel
theorem d_Md_item_51 : decode b_Md_item 51 = .ok (.iadd, 1) := by decide +kernel
theorem d_Md_item_52 : decode b_Md_item 52 = .ok (.imul, 1) := by decide +kernel
theorem d_Md_item_53 : decode b_Md_item 53 = .ok (.iload_n 2, 1) := by decide +kernel
theorem d_Md_item_54 : decode b_Md_item 54 = .ok (.iadd, 1) := by decide +kernel
theorem d_Md_item_55 : decode b_Md_item 55 = .ok (.iload_n 3, 1) := by decide +kernel
theorem d_Md_item_56 : decode b_Md_item 56 = .ok (.iastore, 1) := by decide +kernel
theorem d_Md_item_57 : decode b_Md_item 57 = .ok (.iconst (1), 1) := by decide +kernel
theorem d_Md_item_58 : decode b_Md_item 58 = .ok (.ireturn, 1) := by decide +kernel
theorem d_Md_group_0 : decode b_Md_group 0 = .ok (.aload_n 0, 1) := by decide +kernel
theorem d_Md_group_1 : decode b_Md_group 1 = .ok (.iconst (0), 1) := by decide +kernel
theorem d_Md_group_2 : decode b_Md_group 2 = .ok (.putfield 71, 3) := by decide +kernel
theorem d_Md_group_5 : decode b_Md_group 5 = .ok (.aload_n 0, 1) := by decide +kernel
theorem d_Md_group_6 : decode b_Md_group 6 = .ok (.iload_n 1, 1) := by decide +kernel
theorem d_Md_group_7 : decode b_Md_group 7 = .ok (.invokevirtual 81, 3) := by decide +kernel
theorem d_Md_group_10 : decode b_Md_group 10 = .ok (.ifCond .ne (5), 3) := by decide +kernel
theorem d_Md_group_13 : decode b_Md_group 13 = .ok (.iconst (-1), 1) := by decide +kernel
theorem d_Md_group_14 : decode b_Md_group 14 = .ok (.ireturn, 1) := by decide +kernel
theorem d_Md_group_15 : decode b_Md_group 15 = .ok (.iload_n 2, 1) := by decide +kernel
theorem d_Md_group_16 : decode b_Md_group 16 = .ok (.iconst (0), 1) := by decide +kernel
theorem d_Md_group_17 : decode b_Md_group 17 = .ok (.aload_n 0, 1) := by decide +kernel
theorem d_Md_group_18 : decode b_Md_group 18 = .ok (.getfield 63, 3) := by decide +kernel
theorem d_Md_group_21 : decode b_Md_group 21 = .ok (.iconst (1), 1) := by decide +kernel
theorem d_Md_group_22 : decode b_Md_group 22 = .ok (.isub, 1) := by decide +kernel
theorem d_Md_group_23 : decode b_Md_group 23 = .ok (.invokestatic 74, 3) := by decide +kernel
theorem d_Md_group_26 : decode b_Md_group 26 = .ok (.ifCond .ne (6), 3) := by decide +kernel
theorem d_Md_group_29 : decode b_Md_group 29 = .ok (.bipush (-2), 2) := by decide +kernel
theorem d_Md_group_31 : decode b_Md_group 31 = .ok (.ireturn, 1) := by decide +kernel
theorem d_Md_group_32 : decode b_Md_group 32 = .ok (.aload_n 0, 1) := by decide +kernel
theorem d_Md_group_33 : decode b_Md_group 33 = .ok (.getfield 32, 3) := by decide +kernel
theorem d_Md_group_36 : decode b_Md_group 36 = .ok (.iload_n 1, 1) := by decide +kernel
theorem d_Md_group_37 : decode b_Md_group 37 = .ok (.iaload, 1) := by decide +kernel
theorem d_Md_group_38 : decode b_Md_group 38 = .ok (.istore_n 3, 1) := by decide +kernel
theorem d_Md_group_39 : decode b_Md_group 39 = .ok (.aload_n 0, 1) := by decide +kernel
theorem d_Md_group_40 : decode b_Md_group 40 = .ok (.getfield 32, 3) := by decide +kernel
theorem d_Md_group_43 : decode b_Md_group 43 = .ok (.iload_n 1, 1) := by decide +kernel
theorem d_Md_group_44 : decode b_Md_group 44 = .ok (.iload_n 2, 1) := by decide +kernel
theorem d_Md_group_45 : decode b_Md_group 45 = .ok (.iastore, 1) := by decide +kernel
theorem d_Md_group_46 : decode b_Md_group 46 = .ok (.iload_n 3, 1) := by decide +kernel
theorem d_Md_group_47 : decode b_Md_group 47 = .ok (.ireturn, 1) := by decide +kernel
theorem d_Md_answer_0 : decode b_Md_answer 0 = .ok (.aload_n 0, 1) := by decide +kernel
theorem d_Md_answer_1 : decode b_Md_answer 1 = .ok (.iconst (0), 1) := by decide +kernel
theorem d_Md_answer_2 : decode b_Md_answer 2 = .ok (.putfield 71, 3) := by decide +kernel
theorem d_Md_answer_5 : decode b_Md_answer 5 = .ok (.iload_n 1, 1) := by decide +kernel
theorem d_Md_answer_6 : decode b_Md_answer 6 = .ok (.iconst (-1), 1) := by decide +kernel
theorem d_Md_answer_7 : decode b_Md_answer 7 = .ok (.aload_n 0, 1) := by decide +kernel
theorem d_Md_answer_8 : decode b_Md_answer 8 = .ok (.getfield 88, 3) := by decide +kernel
theorem d_Md_answer_11 : decode b_Md_answer 11 = .ok (.iconst (1), 1) := by decide +kernel
theorem d_Md_answer_12 : decode b_Md_answer 12 = .ok (.isub, 1) := by decide +kernel
theorem d_Md_answer_13 : decode b_Md_answer 13 = .ok (.invokestatic 74, 3) := by decide +kernel
theorem d_Md_answer_16 : decode b_Md_answer 16 = .ok (.ifCond .ne (7), 3) := by decide +kernel
theorem d_Md_answer_19 : decode b_Md_answer 19 = .ok (.ldc2_w 91, 3) := by decide +kernel
theorem d_Md_answer_22 : decode b_Md_answer 22 = .ok (.lreturn, 1) := by decide +kernel
theorem d_Md_answer_23 : decode b_Md_answer 23 = .ok (.aload_n 0, 1) := by decide +kernel
theorem d_Md_answer_24 : decode b_Md_answer 24 = .ok (.iload_n 1, 1) := by decide +kernel
theorem d_Md_answer_25 : decode b_Md_answer 25 = .ok (.iconst (1), 1) := by decide +kernel
theorem d_Md_answer_26 : decode b_Md_answer 26 = .ok (.iadd, 1) := by decide +kernel
theorem d_Md_answer_27 : decode b_Md_answer 27 = .ok (.invokevirtual 93, 3) := by decide +kernel
theorem d_Md_answer_30 : decode b_Md_answer 30 = .ok (.aload_n 0, 1) := by decide +kernel
theorem d_Md_answer_31 : decode b_Md_answer 31 = .ok (.invokevirtual 97, 3) := by decide +kernel
theorem d_Md_answer_34 : decode b_Md_answer 34 = .ok (.lreturn, 1) := by decide +kernel
theorem d_Md_take_0 : decode b_Md_take 0 = .ok (.iconst (0), 1) := by decide +kernel
theorem d_Md_take_1 : decode b_Md_take 1 = .ok (.istore_n 2, 1) := by decide +kernel
theorem d_Md_take_2 : decode b_Md_take 2 = .ok (.iload_n 2, 1) := by decide +kernel
theorem d_Md_take_3 : decode b_Md_take 3 = .ok (.aload_n 0, 1) := by decide +kernel
theorem d_Md_take_4 : decode b_Md_take 4 = .ok (.getfield 63, 3) := by decide +kernel
theorem d_Md_take_7 : decode b_Md_take 7 = .ok (.if_icmp .ge (26), 3) := by decide +kernel
theorem d_Md_take_10 : decode b_Md_take 10 = .ok (.aload_n 0, 1) := by decide +kernel
theorem d_Md_take_11 : decode b_Md_take 11 = .ok (.getfield 41, 3) := by decide +kernel
theorem d_Md_take_14 : decode b_Md_take 14 = .ok (.iload_n 2, 1) := by decide +kernel
theorem d_Md_take_15 : decode b_Md_take 15 = .ok (.aload_n 0, 1) := by decide +kernel
theorem d_Md_take_16 : decode b_Md_take 16 = .ok (.getfield 38, 3) := by decide +kernel
theorem d_Md_take_19 : decode b_Md_take 19 = .ok (.bipush (6), 2) := by decide +kernel
theorem d_Md_take_21 : decode b_Md_take 21 = .ok (.iload_n 1, 1) := by decide +kernel
theorem d_Md_take_22 : decode b_Md_take 22 = .ok (.imul, 1) := by decide +kernel
theorem d_Md_take_23 : decode b_Md_take 23 = .ok (.iload_n 2, 1) := by decide +kernel
theorem d_Md_take_24 : decode b_Md_take 24 = .ok (.iadd, 1) := by decide +kernel
theorem d_Md_take_25 : decode b_Md_take 25 = .ok (.iaload, 1) := by decide +kernel
theorem d_Md_take_26 : decode b_Md_take 26 = .ok (.iastore, 1) := by decide +kernel
theorem d_Md_take_27 : decode b_Md_take 27 = .ok (.iinc 2 (1), 3) := by decide +kernel
theorem d_Md_take_30 : decode b_Md_take 30 = .ok (.goto (-28), 3) := by decide +kernel
theorem d_Md_take_33 : decode b_Md_take 33 = .ok (.return_, 1) := by decide +kernel
theorem d_Md_answerNow_0 : decode b_Md_answerNow 0 = .ok (.lconst 0, 1) := by decide +kernel
theorem d_Md_answerNow_1 : decode b_Md_answerNow 1 = .ok (.lstore_n 1, 1) := by decide +kernel
theorem d_Md_answerNow_2 : decode b_Md_answerNow 2 = .ok (.iconst (0), 1) := by decide +kernel
theorem d_Md_answerNow_3 : decode b_Md_answerNow 3 = .ok (.istore_n 3, 1) := by decide +kernel
theorem d_Md_answerNow_4 : decode b_Md_answerNow 4 = .ok (.iload_n 3, 1) := by decide +kernel
theorem d_Md_answerNow_5 : decode b_Md_answerNow 5 = .ok (.aload_n 0, 1) := by decide +kernel
theorem d_Md_answerNow_6 : decode b_Md_answerNow 6 = .ok (.getfield 85, 3) := by decide +kernel
theorem d_Md_answerNow_9 : decode b_Md_answerNow 9 = .ok (.if_icmp .ge (82), 3) := by decide +kernel
theorem d_Md_answerNow_12 : decode b_Md_answerNow 12 = .ok (.aload_n 0, 1) := by decide +kernel
theorem d_Md_answerNow_13 : decode b_Md_answerNow 13 = .ok (.getfield 26, 3) := by decide +kernel
theorem d_Md_answerNow_16 : decode b_Md_answerNow 16 = .ok (.iload_n 3, 1) := by decide +kernel
theorem d_Md_answerNow_17 : decode b_Md_answerNow 17 = .ok (.iaload, 1) := by decide +kernel
theorem d_Md_answerNow_18 : decode b_Md_answerNow 18 = .ok (.istore 4, 2) := by decide +kernel
theorem d_Md_answerNow_20 : decode b_Md_answerNow 20 = .ok (.aload_n 0, 1) := by decide +kernel
theorem d_Md_answerNow_21 : decode b_Md_answerNow 21 = .ok (.getfield 7, 3) := by decide +kernel
theorem d_Md_answerNow_24 : decode b_Md_answerNow 24 = .ok (.iload 4, 2) := by decide +kernel
theorem d_Md_answerNow_26 : decode b_Md_answerNow 26 = .ok (.baload, 1) := by decide +kernel
theorem d_Md_answerNow_27 : decode b_Md_answerNow 27 = .ok (.ifCond .ne (47), 3) := by decide +kernel
theorem d_Md_answerNow_30 : decode b_Md_answerNow 30 = .ok (.aload_n 0, 1) := by decide +kernel
theorem d_Md_answerNow_31 : decode b_Md_answerNow 31 = .ok (.getfield 41, 3) := by decide +kernel
theorem d_Md_answerNow_34 : decode b_Md_answerNow 34 = .ok (.aload_n 0, 1) := by decide +kernel
theorem d_Md_answerNow_35 : decode b_Md_answerNow 35 = .ok (.getfield 17, 3) := by decide +kernel
theorem d_Md_answerNow_38 : decode b_Md_answerNow 38 = .ok (.iload 4, 2) := by decide +kernel
theorem d_Md_answerNow_40 : decode b_Md_answerNow 40 = .ok (.iaload, 1) := by decide +kernel
theorem d_Md_answerNow_41 : decode b_Md_answerNow 41 = .ok (.iaload, 1) := by decide +kernel
theorem d_Md_answerNow_42 : decode b_Md_answerNow 42 = .ok (.aload_n 0, 1) := by decide +kernel
theorem d_Md_answerNow_43 : decode b_Md_answerNow 43 = .ok (.getfield 13, 3) := by decide +kernel
theorem d_Md_answerNow_46 : decode b_Md_answerNow 46 = .ok (.iload 4, 2) := by decide +kernel
theorem d_Md_answerNow_48 : decode b_Md_answerNow 48 = .ok (.iaload, 1) := by decide +kernel
theorem d_Md_answerNow_49 : decode b_Md_answerNow 49 = .ok (.if_icmp .gt (13), 3) := by decide +kernel
theorem d_Md_answerNow_52 : decode b_Md_answerNow 52 = .ok (.aload_n 0, 1) := by decide +kernel
theorem d_Md_answerNow_53 : decode b_Md_answerNow 53 = .ok (.getfield 20, 3) := by decide +kernel
theorem d_Md_answerNow_56 : decode b_Md_answerNow 56 = .ok (.iload 4, 2) := by decide +kernel
theorem d_Md_answerNow_58 : decode b_Md_answerNow 58 = .ok (.iaload, 1) := by decide +kernel
theorem d_Md_answerNow_59 : decode b_Md_answerNow 59 = .ok (.goto (10), 3) := by decide +kernel
theorem d_Md_answerNow_62 : decode b_Md_answerNow 62 = .ok (.aload_n 0, 1) := by decide +kernel
theorem d_Md_answerNow_63 : decode b_Md_answerNow 63 = .ok (.getfield 23, 3) := by decide +kernel
theorem d_Md_answerNow_66 : decode b_Md_answerNow 66 = .ok (.iload 4, 2) := by decide +kernel
theorem d_Md_answerNow_68 : decode b_Md_answerNow 68 = .ok (.iaload, 1) := by decide +kernel
theorem d_Md_answerNow_69 : decode b_Md_answerNow 69 = .ok (.istore 4, 2) := by decide +kernel
theorem d_Md_answerNow_71 : decode b_Md_answerNow 71 = .ok (.goto (-51), 3) := by decide +kernel
theorem d_Md_answerNow_74 : decode b_Md_answerNow 74 = .ok (.lload_n 1, 1) := by decide +kernel
theorem d_Md_answerNow_75 : decode b_Md_answerNow 75 = .ok (.aload_n 0, 1) := by decide +kernel
theorem d_Md_answerNow_76 : decode b_Md_answerNow 76 = .ok (.getfield 13, 3) := by decide +kernel
theorem d_Md_answerNow_79 : decode b_Md_answerNow 79 = .ok (.iload 4, 2) := by decide +kernel
theorem d_Md_answerNow_81 : decode b_Md_answerNow 81 = .ok (.iaload, 1) := by decide +kernel
theorem d_Md_answerNow_82 : decode b_Md_answerNow 82 = .ok (.i2l, 1) := by decide +kernel
theorem d_Md_answerNow_83 : decode b_Md_answerNow 83 = .ok (.ladd, 1) := by decide +kernel
theorem d_Md_answerNow_84 : decode b_Md_answerNow 84 = .ok (.lstore_n 1, 1) := by decide +kernel
theorem d_Md_answerNow_85 : decode b_Md_answerNow 85 = .ok (.iinc 3 (1), 3) := by decide +kernel
theorem d_Md_answerNow_88 : decode b_Md_answerNow 88 = .ok (.goto (-84), 3) := by decide +kernel
theorem d_Md_answerNow_91 : decode b_Md_answerNow 91 = .ok (.iconst (0), 1) := by decide +kernel
theorem d_Md_answerNow_92 : decode b_Md_answerNow 92 = .ok (.istore_n 3, 1) := by decide +kernel
theorem d_Md_answerNow_93 : decode b_Md_answerNow 93 = .ok (.iload_n 3, 1) := by decide +kernel
theorem d_Md_answerNow_94 : decode b_Md_answerNow 94 = .ok (.aload_n 0, 1) := by decide +kernel
theorem d_Md_answerNow_95 : decode b_Md_answerNow 95 = .ok (.getfield 63, 3) := by decide +kernel
theorem d_Md_answerNow_98 : decode b_Md_answerNow 98 = .ok (.if_icmp .ge (26), 3) := by decide +kernel
theorem d_Md_answerNow_101 : decode b_Md_answerNow 101 = .ok (.lload_n 1, 1) := by decide +kernel
theorem d_Md_answerNow_102 : decode b_Md_answerNow 102 = .ok (.aload_n 0, 1) := by decide +kernel
theorem d_Md_answerNow_103 : decode b_Md_answerNow 103 = .ok (.getfield 29, 3) := by decide +kernel
theorem d_Md_answerNow_106 : decode b_Md_answerNow 106 = .ok (.iload_n 3, 1) := by decide +kernel
theorem d_Md_answerNow_107 : decode b_Md_answerNow 107 = .ok (.iaload, 1) := by decide +kernel
theorem d_Md_answerNow_108 : decode b_Md_answerNow 108 = .ok (.aload_n 0, 1) := by decide +kernel
theorem d_Md_answerNow_109 : decode b_Md_answerNow 109 = .ok (.getfield 41, 3) := by decide +kernel
theorem d_Md_answerNow_112 : decode b_Md_answerNow 112 = .ok (.iload_n 3, 1) := by decide +kernel
theorem d_Md_answerNow_113 : decode b_Md_answerNow 113 = .ok (.iaload, 1) := by decide +kernel
theorem d_Md_answerNow_114 : decode b_Md_answerNow 114 = .ok (.imul, 1) := by decide +kernel
theorem d_Md_answerNow_115 : decode b_Md_answerNow 115 = .ok (.i2l, 1) := by decide +kernel
theorem d_Md_answerNow_116 : decode b_Md_answerNow 116 = .ok (.ladd, 1) := by decide +kernel
theorem d_Md_answerNow_117 : decode b_Md_answerNow 117 = .ok (.lstore_n 1, 1) := by decide +kernel
theorem d_Md_answerNow_118 : decode b_Md_answerNow 118 = .ok (.iinc 3 (1), 3) := by decide +kernel
