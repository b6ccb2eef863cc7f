theorem d_Md_answerNow_121 : decode b_Md_answerNow 121 = .ok (.goto (-28), 3) := by decide +kernel
theorem d_Md_answerNow_124 : decode b_Md_answerNow 124 = .ok (.lload_n 1, 1) := by decide +kernel
theorem d_Md_answerNow_125 : decode b_Md_answerNow 125 = .ok (.lreturn, 1) := by decide +kernel
theorem d_Md_value_0 : decode b_Md_value 0 = .ok (.aload_n 0, 1) := by decide +kernel
theorem d_Md_value_1 : decode b_Md_value 1 = .ok (.iconst (0), 1) := by decide +kernel
theorem d_Md_value_2 : decode b_Md_value 2 = .ok (.putfield 71, 3) := by decide +kernel
theorem d_Md_value_5 : decode b_Md_value 5 = .ok (.iload_n 1, 1) := by decide +kernel
theorem d_Md_value_6 : decode b_Md_value 6 = .ok (.iconst (0), 1) := by decide +kernel
theorem d_Md_value_7 : decode b_Md_value 7 = .ok (.iconst (1), 1) := by decide +kernel
theorem d_Md_value_8 : decode b_Md_value 8 = .ok (.aload_n 0, 1) := by decide +kernel
theorem d_Md_value_9 : decode b_Md_value 9 = .ok (.getfield 63, 3) := by decide +kernel
theorem d_Md_value_12 : decode b_Md_value 12 = .ok (.ishl, 1) := by decide +kernel
theorem d_Md_value_13 : decode b_Md_value 13 = .ok (.iconst (1), 1) := by decide +kernel
theorem d_Md_value_14 : decode b_Md_value 14 = .ok (.isub, 1) := by decide +kernel
theorem d_Md_value_15 : decode b_Md_value 15 = .ok (.invokestatic 74, 3) := by decide +kernel
theorem d_Md_value_18 : decode b_Md_value 18 = .ok (.ifCond .eq (12), 3) := by decide +kernel
theorem d_Md_value_21 : decode b_Md_value 21 = .ok (.iload_n 2, 1) := by decide +kernel
theorem d_Md_value_22 : decode b_Md_value 22 = .ok (.iconst (0), 1) := by decide +kernel
theorem d_Md_value_23 : decode b_Md_value 23 = .ok (.iconst (1), 1) := by decide +kernel
theorem d_Md_value_24 : decode b_Md_value 24 = .ok (.invokestatic 74, 3) := by decide +kernel
theorem d_Md_value_27 : decode b_Md_value 27 = .ok (.ifCond .ne (7), 3) := by decide +kernel
theorem d_Md_value_30 : decode b_Md_value 30 = .ok (.ldc2_w 91, 3) := by decide +kernel
theorem d_Md_value_33 : decode b_Md_value 33 = .ok (.lreturn, 1) := by decide +kernel
theorem d_Md_value_34 : decode b_Md_value 34 = .ok (.aload_n 0, 1) := by decide +kernel
theorem d_Md_value_35 : decode b_Md_value 35 = .ok (.invokevirtual 101, 3) := by decide +kernel
theorem d_Md_value_38 : decode b_Md_value 38 = .ok (.ifCond .eq (5), 3) := by decide +kernel
theorem d_Md_value_41 : decode b_Md_value 41 = .ok (.lconst 0, 1) := by decide +kernel
theorem d_Md_value_42 : decode b_Md_value 42 = .ok (.lreturn, 1) := by decide +kernel
theorem d_Md_value_43 : decode b_Md_value 43 = .ok (.aload_n 0, 1) := by decide +kernel
theorem d_Md_value_44 : decode b_Md_value 44 = .ok (.invokevirtual 105, 3) := by decide +kernel
theorem d_Md_value_47 : decode b_Md_value 47 = .ok (.aload_n 0, 1) := by decide +kernel
theorem d_Md_value_48 : decode b_Md_value 48 = .ok (.getfield 44, 3) := by decide +kernel
theorem d_Md_value_51 : decode b_Md_value 51 = .ok (.iload_n 1, 1) := by decide +kernel
theorem d_Md_value_52 : decode b_Md_value 52 = .ok (.laload, 1) := by decide +kernel
theorem d_Md_value_53 : decode b_Md_value 53 = .ok (.aload_n 0, 1) := by decide +kernel
theorem d_Md_value_54 : decode b_Md_value 54 = .ok (.getfield 88, 3) := by decide +kernel
theorem d_Md_value_57 : decode b_Md_value 57 = .ok (.i2l, 1) := by decide +kernel
theorem d_Md_value_58 : decode b_Md_value 58 = .ok (.iload_n 2, 1) := by decide +kernel
theorem d_Md_value_59 : decode b_Md_value 59 = .ok (.invokestatic 108, 3) := by decide +kernel
theorem d_Md_value_62 : decode b_Md_value 62 = .ok (.lreturn, 1) := by decide +kernel
theorem d_Md_throwsNow_0 : decode b_Md_throwsNow 0 = .ok (.aload_n 0, 1) := by decide +kernel
theorem d_Md_throwsNow_1 : decode b_Md_throwsNow 1 = .ok (.aload_n 0, 1) := by decide +kernel
theorem d_Md_throwsNow_2 : decode b_Md_throwsNow 2 = .ok (.getfield 88, 3) := by decide +kernel
theorem d_Md_throwsNow_5 : decode b_Md_throwsNow 5 = .ok (.ifCond .ne (7), 3) := by decide +kernel
theorem d_Md_throwsNow_8 : decode b_Md_throwsNow 8 = .ok (.iconst (1), 1) := by decide +kernel
theorem d_Md_throwsNow_9 : decode b_Md_throwsNow 9 = .ok (.goto (4), 3) := by decide +kernel
theorem d_Md_throwsNow_12 : decode b_Md_throwsNow 12 = .ok (.iconst (0), 1) := by decide +kernel
theorem d_Md_throwsNow_13 : decode b_Md_throwsNow 13 = .ok (.putfield 71, 3) := by decide +kernel
theorem d_Md_throwsNow_16 : decode b_Md_throwsNow 16 = .ok (.aload_n 0, 1) := by decide +kernel
theorem d_Md_throwsNow_17 : decode b_Md_throwsNow 17 = .ok (.getfield 88, 3) := by decide +kernel
theorem d_Md_throwsNow_20 : decode b_Md_throwsNow 20 = .ok (.ifCond .ne (7), 3) := by decide +kernel
theorem d_Md_throwsNow_23 : decode b_Md_throwsNow 23 = .ok (.iconst (1), 1) := by decide +kernel
theorem d_Md_throwsNow_24 : decode b_Md_throwsNow 24 = .ok (.goto (4), 3) := by decide +kernel
theorem d_Md_throwsNow_27 : decode b_Md_throwsNow 27 = .ok (.iconst (0), 1) := by decide +kernel
theorem d_Md_throwsNow_28 : decode b_Md_throwsNow 28 = .ok (.ireturn, 1) := by decide +kernel
theorem d_Md_sumAll_0 : decode b_Md_sumAll 0 = .ok (.iconst (0), 1) := by decide +kernel
theorem d_Md_sumAll_1 : decode b_Md_sumAll 1 = .ok (.istore_n 1, 1) := by decide +kernel
theorem d_Md_sumAll_2 : decode b_Md_sumAll 2 = .ok (.iload_n 1, 1) := by decide +kernel
theorem d_Md_sumAll_3 : decode b_Md_sumAll 3 = .ok (.iconst (1), 1) := by decide +kernel
theorem d_Md_sumAll_4 : decode b_Md_sumAll 4 = .ok (.aload_n 0, 1) := by decide +kernel
theorem d_Md_sumAll_5 : decode b_Md_sumAll 5 = .ok (.getfield 63, 3) := by decide +kernel
theorem d_Md_sumAll_8 : decode b_Md_sumAll 8 = .ok (.ishl, 1) := by decide +kernel
theorem d_Md_sumAll_9 : decode b_Md_sumAll 9 = .ok (.if_icmp .ge (91), 3) := by decide +kernel
theorem d_Md_sumAll_12 : decode b_Md_sumAll 12 = .ok (.aload_n 0, 1) := by decide +kernel
theorem d_Md_sumAll_13 : decode b_Md_sumAll 13 = .ok (.getfield 44, 3) := by decide +kernel
theorem d_Md_sumAll_16 : decode b_Md_sumAll 16 = .ok (.iload_n 1, 1) := by decide +kernel
theorem d_Md_sumAll_17 : decode b_Md_sumAll 17 = .ok (.lconst 0, 1) := by decide +kernel
theorem d_Md_sumAll_18 : decode b_Md_sumAll 18 = .ok (.lastore, 1) := by decide +kernel
theorem d_Md_sumAll_19 : decode b_Md_sumAll 19 = .ok (.iconst (1), 1) := by decide +kernel
theorem d_Md_sumAll_20 : decode b_Md_sumAll 20 = .ok (.istore_n 2, 1) := by decide +kernel
theorem d_Md_sumAll_21 : decode b_Md_sumAll 21 = .ok (.iload_n 2, 1) := by decide +kernel
theorem d_Md_sumAll_22 : decode b_Md_sumAll 22 = .ok (.aload_n 0, 1) := by decide +kernel
theorem d_Md_sumAll_23 : decode b_Md_sumAll 23 = .ok (.getfield 88, 3) := by decide +kernel
theorem d_Md_sumAll_26 : decode b_Md_sumAll 26 = .ok (.if_icmp .gt (68), 3) := by decide +kernel
theorem d_Md_sumAll_29 : decode b_Md_sumAll 29 = .ok (.iconst (0), 1) := by decide +kernel
theorem d_Md_sumAll_30 : decode b_Md_sumAll 30 = .ok (.istore_n 3, 1) := by decide +kernel
theorem d_Md_sumAll_31 : decode b_Md_sumAll 31 = .ok (.iload_n 3, 1) := by decide +kernel
theorem d_Md_sumAll_32 : decode b_Md_sumAll 32 = .ok (.aload_n 0, 1) := by decide +kernel
theorem d_Md_sumAll_33 : decode b_Md_sumAll 33 = .ok (.getfield 63, 3) := by decide +kernel
theorem d_Md_sumAll_36 : decode b_Md_sumAll 36 = .ok (.if_icmp .ge (39), 3) := by decide +kernel
theorem d_Md_sumAll_39 : decode b_Md_sumAll 39 = .ok (.aload_n 0, 1) := by decide +kernel
theorem d_Md_sumAll_40 : decode b_Md_sumAll 40 = .ok (.getfield 41, 3) := by decide +kernel
theorem d_Md_sumAll_43 : decode b_Md_sumAll 43 = .ok (.iload_n 3, 1) := by decide +kernel
theorem d_Md_sumAll_44 : decode b_Md_sumAll 44 = .ok (.aload_n 0, 1) := by decide +kernel
theorem d_Md_sumAll_45 : decode b_Md_sumAll 45 = .ok (.getfield 38, 3) := by decide +kernel
theorem d_Md_sumAll_48 : decode b_Md_sumAll 48 = .ok (.bipush (6), 2) := by decide +kernel
theorem d_Md_sumAll_50 : decode b_Md_sumAll 50 = .ok (.iload_n 1, 1) := by decide +kernel
theorem d_Md_sumAll_51 : decode b_Md_sumAll 51 = .ok (.iload_n 3, 1) := by decide +kernel
theorem d_Md_sumAll_52 : decode b_Md_sumAll 52 = .ok (.ishr, 1) := by decide +kernel
theorem d_Md_sumAll_53 : decode b_Md_sumAll 53 = .ok (.iconst (1), 1) := by decide +kernel
theorem d_Md_sumAll_54 : decode b_Md_sumAll 54 = .ok (.iand, 1) := by decide +kernel
theorem d_Md_sumAll_55 : decode b_Md_sumAll 55 = .ok (.iconst (1), 1) := by decide +kernel
theorem d_Md_sumAll_56 : decode b_Md_sumAll 56 = .ok (.if_icmp .ne (7), 3) := by decide +kernel
theorem d_Md_sumAll_59 : decode b_Md_sumAll 59 = .ok (.iconst (0), 1) := by decide +kernel
theorem d_Md_sumAll_60 : decode b_Md_sumAll 60 = .ok (.goto (4), 3) := by decide +kernel
theorem d_Md_sumAll_63 : decode b_Md_sumAll 63 = .ok (.iload_n 2, 1) := by decide +kernel
theorem d_Md_sumAll_64 : decode b_Md_sumAll 64 = .ok (.imul, 1) := by decide +kernel
theorem d_Md_sumAll_65 : decode b_Md_sumAll 65 = .ok (.iload_n 3, 1) := by decide +kernel
theorem d_Md_sumAll_66 : decode b_Md_sumAll 66 = .ok (.iadd, 1) := by decide +kernel
theorem d_Md_sumAll_67 : decode b_Md_sumAll 67 = .ok (.iaload, 1) := by decide +kernel
theorem d_Md_sumAll_68 : decode b_Md_sumAll 68 = .ok (.iastore, 1) := by decide +kernel
theorem d_Md_sumAll_69 : decode b_Md_sumAll 69 = .ok (.iinc 3 (1), 3) := by decide +kernel
theorem d_Md_sumAll_72 : decode b_Md_sumAll 72 = .ok (.goto (-41), 3) := by decide +kernel
theorem d_Md_sumAll_75 : decode b_Md_sumAll 75 = .ok (.aload_n 0, 1) := by decide +kernel
theorem d_Md_sumAll_76 : decode b_Md_sumAll 76 = .ok (.getfield 44, 3) := by decide +kernel
theorem d_Md_sumAll_79 : decode b_Md_sumAll 79 = .ok (.iload_n 1, 1) := by decide +kernel
theorem d_Md_sumAll_80 : decode b_Md_sumAll 80 = .ok (.dup2, 1) := by decide +kernel
theorem d_Md_sumAll_81 : decode b_Md_sumAll 81 = .ok (.laload, 1) := by decide +kernel
theorem d_Md_sumAll_82 : decode b_Md_sumAll 82 = .ok (.aload_n 0, 1) := by decide +kernel
theorem d_Md_sumAll_83 : decode b_Md_sumAll 83 = .ok (.invokevirtual 97, 3) := by decide +kernel
theorem d_Md_sumAll_86 : decode b_Md_sumAll 86 = .ok (.ladd, 1) := by decide +kernel
theorem d_Md_sumAll_87 : decode b_Md_sumAll 87 = .ok (.lastore, 1) := by decide +kernel
theorem d_Md_sumAll_88 : decode b_Md_sumAll 88 = .ok (.iinc 2 (1), 3) := by decide +kernel
theorem d_Md_sumAll_91 : decode b_Md_sumAll 91 = .ok (.goto (-70), 3) := by decide +kernel
theorem d_Md_sumAll_94 : decode b_Md_sumAll 94 = .ok (.iinc 1 (1), 3) := by decide +kernel
theorem d_Md_sumAll_97 : decode b_Md_sumAll 97 = .ok (.goto (-95), 3) := by decide +kernel
theorem d_Md_sumAll_100 : decode b_Md_sumAll 100 = .ok (.return_, 1) := by decide +kernel
theorem d_Md_part_0 : decode b_Md_part 0 = .ok (.lload_n 0, 1) := by decide +kernel
theorem d_Md_part_1 : decode b_Md_part 1 = .ok (.lconst 0, 1) := by decide +kernel
theorem d_Md_part_2 : decode b_Md_part 2 = .ok (.lcmp, 1) := by decide +kernel
theorem d_Md_part_3 : decode b_Md_part 3 = .ok (.ifCond .ge (8), 3) := by decide +kernel
theorem d_Md_part_6 : decode b_Md_part 6 = .ok (.lload_n 0, 1) := by decide +kernel
theorem d_Md_part_7 : decode b_Md_part 7 = .ok (.lneg, 1) := by decide +kernel
theorem d_Md_part_8 : decode b_Md_part 8 = .ok (.goto (4), 3) := by decide +kernel
theorem d_Md_part_11 : decode b_Md_part 11 = .ok (.lload_n 0, 1) := by decide +kernel
theorem d_Md_part_12 : decode b_Md_part 12 = .ok (.lstore 5, 2) := by decide +kernel
theorem d_Md_part_14 : decode b_Md_part 14 = .ok (.lload_n 2, 1) := by decide +kernel
theorem d_Md_part_15 : decode b_Md_part 15 = .ok (.lstore 7, 2) := by decide +kernel
theorem d_Md_part_17 : decode b_Md_part 17 = .ok (.lload 7, 2) := by decide +kernel
theorem d_Md_part_19 : decode b_Md_part 19 = .ok (.lconst 0, 1) := by decide +kernel
theorem d_Md_part_20 : decode b_Md_part 20 = .ok (.lcmp, 1) := by decide +kernel
theorem d_Md_part_21 : decode b_Md_part 21 = .ok (.ifCond .eq (21), 3) := by decide +kernel
theorem d_Md_part_24 : decode b_Md_part 24 = .ok (.lload 5, 2) := by decide +kernel
theorem d_Md_part_26 : decode b_Md_part 26 = .ok (.lload 7, 2) := by decide +kernel
theorem d_Md_part_28 : decode b_Md_part 28 = .ok (.lrem, 1) := by decide +kernel
theorem d_Md_part_29 : decode b_Md_part 29 = .ok (.lstore 9, 2) := by decide +kernel
theorem d_Md_part_31 : decode b_Md_part 31 = .ok (.lload 7, 2) := by decide +kernel
theorem d_Md_part_33 : decode b_Md_part 33 = .ok (.lstore 5, 2) := by decide +kernel
theorem d_Md_part_35 : decode b_Md_part 35 = .ok (.lload 9, 2) := by decide +kernel
theorem d_Md_part_37 : decode b_Md_part 37 = .ok (.lstore 7, 2) := by decide +kernel
theorem d_Md_part_39 : decode b_Md_part 39 = .ok (.goto (-22), 3) := by decide +kernel
theorem d_Md_part_42 : decode b_Md_part 42 = .ok (.iload 4, 2) := by decide +kernel
theorem d_Md_part_44 : decode b_Md_part 44 = .ok (.ifCond .ne (10), 3) := by decide +kernel
theorem d_Md_part_47 : decode b_Md_part 47 = .ok (.lload_n 0, 1) := by decide +kernel
theorem d_Md_part_48 : decode b_Md_part 48 = .ok (.lload 5, 2) := by decide +kernel
theorem d_Md_part_50 : decode b_Md_part 50 = .ok (.ldiv, 1) := by decide +kernel
theorem d_Md_part_51 : decode b_Md_part 51 = .ok (.goto (7), 3) := by decide +kernel
theorem d_Md_part_54 : decode b_Md_part 54 = .ok (.lload_n 2, 1) := by decide +kernel
theorem d_Md_part_55 : decode b_Md_part 55 = .ok (.lload 5, 2) := by decide +kernel
theorem d_Md_part_57 : decode b_Md_part 57 = .ok (.ldiv, 1) := by decide +kernel
theorem d_Md_part_58 : decode b_Md_part 58 = .ok (.lreturn, 1) := by decide +kernel
theorem d_Md_share_0 : decode b_Md_share 0 = .ok (.aload_n 0, 1) := by decide +kernel
theorem d_Md_share_1 : decode b_Md_share 1 = .ok (.iconst (0), 1) := by decide +kernel
theorem d_Md_share_2 : decode b_Md_share 2 = .ok (.putfield 71, 3) := by decide +kernel
theorem d_Md_share_5 : decode b_Md_share 5 = .ok (.aload_n 0, 1) := by decide +kernel
theorem d_Md_share_6 : decode b_Md_share 6 = .ok (.iload_n 1, 1) := by decide +kernel
theorem d_Md_share_7 : decode b_Md_share 7 = .ok (.invokevirtual 81, 3) := by decide +kernel
theorem d_Md_share_10 : decode b_Md_share 10 = .ok (.ifCond .eq (21), 3) := by decide +kernel
theorem d_Md_share_13 : decode b_Md_share 13 = .ok (.iload_n 2, 1) := by decide +kernel
theorem d_Md_share_14 : decode b_Md_share 14 = .ok (.iconst (0), 1) := by decide +kernel
theorem d_Md_share_15 : decode b_Md_share 15 = .ok (.iconst (1), 1) := by decide +kernel
theorem d_Md_share_16 : decode b_Md_share 16 = .ok (.invokestatic 74, 3) := by decide +kernel
theorem d_Md_share_19 : decode b_Md_share 19 = .ok (.ifCond .eq (12), 3) := by decide +kernel
theorem d_Md_share_22 : decode b_Md_share 22 = .ok (.iload_n 3, 1) := by decide +kernel
theorem d_Md_share_23 : decode b_Md_share 23 = .ok (.iconst (0), 1) := by decide +kernel
theorem d_Md_share_24 : decode b_Md_share 24 = .ok (.iconst (1), 1) := by decide +kernel
theorem d_Md_share_25 : decode b_Md_share 25 = .ok (.invokestatic 74, 3) := by decide +kernel
theorem d_Md_share_28 : decode b_Md_share 28 = .ok (.ifCond .ne (7), 3) := by decide +kernel
theorem d_Md_share_31 : decode b_Md_share 31 = .ok (.ldc2_w 91, 3) := by decide +kernel
theorem d_Md_share_34 : decode b_Md_share 34 = .ok (.lreturn, 1) := by decide +kernel
theorem d_Md_share_35 : decode b_Md_share 35 = .ok (.aload_n 0, 1) := by decide +kernel
theorem d_Md_share_36 : decode b_Md_share 36 = .ok (.invokevirtual 101, 3) := by decide +kernel
theorem d_Md_share_39 : decode b_Md_share 39 = .ok (.ifCond .eq (5), 3) := by decide +kernel
theorem d_Md_share_42 : decode b_Md_share 42 = .ok (.lconst 0, 1) := by decide +kernel
theorem d_Md_share_43 : decode b_Md_share 43 = .ok (.lreturn, 1) := by decide +kernel
theorem d_Md_share_44 : decode b_Md_share 44 = .ok (.aload_n 0, 1) := by decide +kernel
theorem d_Md_share_45 : decode b_Md_share 45 = .ok (.invokevirtual 105, 3) := by decide +kernel
theorem d_Md_share_48 : decode b_Md_share 48 = .ok (.aload_n 0, 1) := by decide +kernel
theorem d_Md_share_49 : decode b_Md_share 49 = .ok (.aload_n 0, 1) := by decide +kernel
theorem d_Md_share_50 : decode b_Md_share 50 = .ok (.getfield 32, 3) := by decide +kernel
theorem d_Md_share_53 : decode b_Md_share 53 = .ok (.iload_n 1, 1) := by decide +kernel
theorem d_Md_share_54 : decode b_Md_share 54 = .ok (.iaload, 1) := by decide +kernel
theorem d_Md_share_55 : decode b_Md_share 55 = .ok (.invokevirtual 115, 3) := by decide +kernel
theorem d_Md_share_58 : decode b_Md_share 58 = .ok (.istore 4, 2) := by decide +kernel
theorem d_Md_share_60 : decode b_Md_share 60 = .ok (.iload_n 2, 1) := by decide +kernel
theorem d_Md_share_61 : decode b_Md_share 61 = .ok (.ifCond .ne (12), 3) := by decide +kernel
theorem d_Md_share_64 : decode b_Md_share 64 = .ok (.aload_n 0, 1) := by decide +kernel
theorem d_Md_share_65 : decode b_Md_share 65 = .ok (.iload 4, 2) := by decide +kernel
theorem d_Md_share_67 : decode b_Md_share 67 = .ok (.invokevirtual 132, 3) := by decide +kernel
theorem d_Md_share_70 : decode b_Md_share 70 = .ok (.goto (9), 3) := by decide +kernel
theorem d_Md_share_73 : decode b_Md_share 73 = .ok (.aload_n 0, 1) := by decide +kernel
theorem d_Md_share_74 : decode b_Md_share 74 = .ok (.iload 4, 2) := by decide +kernel
theorem d_Md_share_76 : decode b_Md_share 76 = .ok (.invokevirtual 136, 3) := by decide +kernel
theorem d_Md_share_79 : decode b_Md_share 79 = .ok (.lstore 5, 2) := by decide +kernel
theorem d_Md_share_81 : decode b_Md_share 81 = .ok (.lload 5, 2) := by decide +kernel
theorem d_Md_share_83 : decode b_Md_share 83 = .ok (.aload_n 0, 1) := by decide +kernel
theorem d_Md_share_84 : decode b_Md_share 84 = .ok (.getfield 88, 3) := by decide +kernel
theorem d_Md_share_87 : decode b_Md_share 87 = .ok (.i2l, 1) := by decide +kernel
theorem d_Md_share_88 : decode b_Md_share 88 = .ok (.iload_n 2, 1) := by decide +kernel
theorem d_Md_share_89 : decode b_Md_share 89 = .ok (.ifCond .ne (10), 3) := by decide +kernel
theorem d_Md_share_92 : decode b_Md_share 92 = .ok (.aload_n 0, 1) := by decide +kernel
theorem d_Md_share_93 : decode b_Md_share 93 = .ok (.invokevirtual 123, 3) := by decide +kernel
theorem d_Md_share_96 : decode b_Md_share 96 = .ok (.goto (11), 3) := by decide +kernel
theorem d_Md_share_99 : decode b_Md_share 99 = .ok (.iconst (1), 1) := by decide +kernel
theorem d_Md_share_100 : decode b_Md_share 100 = .ok (.aload_n 0, 1) := by decide +kernel
theorem d_Md_share_101 : decode b_Md_share 101 = .ok (.getfield 112, 3) := by decide +kernel
theorem d_Md_share_104 : decode b_Md_share 104 = .ok (.iconst (1), 1) := by decide +kernel
theorem d_Md_share_105 : decode b_Md_share 105 = .ok (.isub, 1) := by decide +kernel
theorem d_Md_share_106 : decode b_Md_share 106 = .ok (.ishl, 1) := by decide +kernel
theorem d_Md_share_107 : decode b_Md_share 107 = .ok (.i2l, 1) := by decide +kernel
theorem d_Md_share_108 : decode b_Md_share 108 = .ok (.lmul, 1) := by decide +kernel
theorem d_Md_share_109 : decode b_Md_share 109 = .ok (.iload_n 3, 1) := by decide +kernel
theorem d_Md_share_110 : decode b_Md_share 110 = .ok (.invokestatic 108, 3) := by decide +kernel
theorem d_Md_share_113 : decode b_Md_share 113 = .ok (.lreturn, 1) := by decide +kernel
theorem d_Md_groupBits_0 : decode b_Md_groupBits 0 = .ok (.iconst (0), 1) := by decide +kernel
theorem d_Md_groupBits_1 : decode b_Md_groupBits 1 = .ok (.istore_n 2, 1) := by decide +kernel
theorem d_Md_groupBits_2 : decode b_Md_groupBits 2 = .ok (.iconst (0), 1) := by decide +kernel
theorem d_Md_groupBits_3 : decode b_Md_groupBits 3 = .ok (.istore_n 3, 1) := by decide +kernel
theorem d_Md_groupBits_4 : decode b_Md_groupBits 4 = .ok (.iload_n 3, 1) := by decide +kernel
theorem d_Md_groupBits_5 : decode b_Md_groupBits 5 = .ok (.aload_n 0, 1) := by decide +kernel
theorem d_Md_groupBits_6 : decode b_Md_groupBits 6 = .ok (.getfield 63, 3) := by decide +kernel
theorem d_Md_groupBits_9 : decode b_Md_groupBits 9 = .ok (.if_icmp .ge (29), 3) := by decide +kernel
theorem d_Md_groupBits_12 : decode b_Md_groupBits 12 = .ok (.iload_n 2, 1) := by decide +kernel
theorem d_Md_groupBits_13 : decode b_Md_groupBits 13 = .ok (.aload_n 0, 1) := by decide +kernel
theorem d_Md_groupBits_14 : decode b_Md_groupBits 14 = .ok (.getfield 32, 3) := by decide +kernel
theorem d_Md_groupBits_17 : decode b_Md_groupBits 17 = .ok (.iload_n 3, 1) := by decide +kernel
theorem d_Md_groupBits_18 : decode b_Md_groupBits 18 = .ok (.iaload, 1) := by decide +kernel
theorem d_Md_groupBits_19 : decode b_Md_groupBits 19 = .ok (.iload_n 1, 1) := by decide +kernel
theorem d_Md_groupBits_20 : decode b_Md_groupBits 20 = .ok (.if_icmp .ne (9), 3) := by decide +kernel
theorem d_Md_groupBits_23 : decode b_Md_groupBits 23 = .ok (.iconst (1), 1) := by decide +kernel
theorem d_Md_groupBits_24 : decode b_Md_groupBits 24 = .ok (.iload_n 3, 1) := by decide +kernel
theorem d_Md_groupBits_25 : decode b_Md_groupBits 25 = .ok (.ishl, 1) := by decide +kernel
theorem d_Md_groupBits_26 : decode b_Md_groupBits 26 = .ok (.goto (4), 3) := by decide +kernel
theorem d_Md_groupBits_29 : decode b_Md_groupBits 29 = .ok (.iconst (0), 1) := by decide +kernel
theorem d_Md_groupBits_30 : decode b_Md_groupBits 30 = .ok (.ior, 1) := by decide +kernel
theorem d_Md_groupBits_31 : decode b_Md_groupBits 31 = .ok (.istore_n 2, 1) := by decide +kernel
theorem d_Md_groupBits_32 : decode b_Md_groupBits 32 = .ok (.iinc 3 (1), 3) := by decide +kernel
theorem d_Md_groupBits_35 : decode b_Md_groupBits 35 = .ok (.goto (-31), 3) := by decide +kernel
theorem d_Md_groupBits_38 : decode b_Md_groupBits 38 = .ok (.iload_n 2, 1) := by decide +kernel
theorem d_Md_groupBits_39 : decode b_Md_groupBits 39 = .ok (.ireturn, 1) := by decide +kernel
theorem d_Md_shareSum_0 : decode b_Md_shareSum 0 = .ok (.aload_n 0, 1) := by decide +kernel
theorem d_Md_shareSum_1 : decode b_Md_shareSum 1 = .ok (.iconst (0), 1) := by decide +kernel
theorem d_Md_shareSum_2 : decode b_Md_shareSum 2 = .ok (.iconst (0), 1) := by decide +kernel
theorem d_Md_shareSum_3 : decode b_Md_shareSum 3 = .ok (.invokevirtual 119, 3) := by decide +kernel
theorem d_Md_shareSum_6 : decode b_Md_shareSum 6 = .ok (.lconst 0, 1) := by decide +kernel
theorem d_Md_shareSum_7 : decode b_Md_shareSum 7 = .ok (.lstore_n 2, 1) := by decide +kernel
theorem d_Md_shareSum_8 : decode b_Md_shareSum 8 = .ok (.iconst (0), 1) := by decide +kernel
theorem d_Md_shareSum_9 : decode b_Md_shareSum 9 = .ok (.istore 4, 2) := by decide +kernel
theorem d_Md_shareSum_11 : decode b_Md_shareSum 11 = .ok (.iload 4, 2) := by decide +kernel
theorem d_Md_shareSum_13 : decode b_Md_shareSum 13 = .ok (.aload_n 0, 1) := by decide +kernel
theorem d_Md_shareSum_14 : decode b_Md_shareSum 14 = .ok (.invokevirtual 123, 3) := by decide +kernel
theorem d_Md_shareSum_17 : decode b_Md_shareSum 17 = .ok (.if_icmp .ge (42), 3) := by decide +kernel
theorem d_Md_shareSum_20 : decode b_Md_shareSum 20 = .ok (.aload_n 0, 1) := by decide +kernel
theorem d_Md_shareSum_21 : decode b_Md_shareSum 21 = .ok (.iload 4, 2) := by decide +kernel
theorem d_Md_shareSum_23 : decode b_Md_shareSum 23 = .ok (.invokevirtual 126, 3) := by decide +kernel
theorem d_Md_shareSum_26 : decode b_Md_shareSum 26 = .ok (.aload_n 0, 1) := by decide +kernel
theorem d_Md_shareSum_27 : decode b_Md_shareSum 27 = .ok (.iload_n 1, 1) := by decide +kernel
theorem d_Md_shareSum_28 : decode b_Md_shareSum 28 = .ok (.invokevirtual 129, 3) := by decide +kernel
theorem d_Md_shareSum_31 : decode b_Md_shareSum 31 = .ok (.istore 5, 2) := by decide +kernel
theorem d_Md_shareSum_33 : decode b_Md_shareSum 33 = .ok (.lload_n 2, 1) := by decide +kernel
theorem d_Md_shareSum_34 : decode b_Md_shareSum 34 = .ok (.aload_n 0, 1) := by decide +kernel
theorem d_Md_shareSum_35 : decode b_Md_shareSum 35 = .ok (.getfield 44, 3) := by decide +kernel
theorem d_Md_shareSum_38 : decode b_Md_shareSum 38 = .ok (.iload 5, 2) := by decide +kernel
theorem d_Md_shareSum_40 : decode b_Md_shareSum 40 = .ok (.iload_n 1, 1) := by decide +kernel
theorem d_Md_shareSum_41 : decode b_Md_shareSum 41 = .ok (.ior, 1) := by decide +kernel
theorem d_Md_shareSum_42 : decode b_Md_shareSum 42 = .ok (.laload, 1) := by decide +kernel
theorem d_Md_shareSum_43 : decode b_Md_shareSum 43 = .ok (.aload_n 0, 1) := by decide +kernel
theorem d_Md_shareSum_44 : decode b_Md_shareSum 44 = .ok (.getfield 44, 3) := by decide +kernel
theorem d_Md_shareSum_47 : decode b_Md_shareSum 47 = .ok (.iload 5, 2) := by decide +kernel
theorem d_Md_shareSum_49 : decode b_Md_shareSum 49 = .ok (.laload, 1) := by decide +kernel
theorem d_Md_shareSum_50 : decode b_Md_shareSum 50 = .ok (.lsub, 1) := by decide +kernel
theorem d_Md_shareSum_51 : decode b_Md_shareSum 51 = .ok (.ladd, 1) := by decide +kernel
theorem d_Md_shareSum_52 : decode b_Md_shareSum 52 = .ok (.lstore_n 2, 1) := by decide +kernel
theorem d_Md_shareSum_53 : decode b_Md_shareSum 53 = .ok (.iinc 4 (1), 3) := by decide +kernel
theorem d_Md_shareSum_56 : decode b_Md_shareSum 56 = .ok (.goto (-45), 3) := by decide +kernel
theorem d_Md_shareSum_59 : decode b_Md_shareSum 59 = .ok (.lload_n 2, 1) := by decide +kernel
theorem d_Md_shareSum_60 : decode b_Md_shareSum 60 = .ok (.lreturn, 1) := by decide +kernel
theorem d_Md_listParts_0 : decode b_Md_listParts 0 = .ok (.aload_n 0, 1) := by decide +kernel
theorem d_Md_listParts_1 : decode b_Md_listParts 1 = .ok (.iconst (0), 1) := by decide +kernel
theorem d_Md_listParts_2 : decode b_Md_listParts 2 = .ok (.putfield 112, 3) := by decide +kernel
theorem d_Md_listParts_5 : decode b_Md_listParts 5 = .ok (.iload_n 1, 1) := by decide +kernel
theorem d_Md_listParts_6 : decode b_Md_listParts 6 = .ok (.ifCond .eq (17), 3) := by decide +kernel
theorem d_Md_listParts_9 : decode b_Md_listParts 9 = .ok (.aload_n 0, 1) := by decide +kernel
theorem d_Md_listParts_10 : decode b_Md_listParts 10 = .ok (.getfield 48, 3) := by decide +kernel
theorem d_Md_listParts_13 : decode b_Md_listParts 13 = .ok (.iconst (0), 1) := by decide +kernel
theorem d_Md_listParts_14 : decode b_Md_listParts 14 = .ok (.iload_n 1, 1) := by decide +kernel
theorem d_Md_listParts_15 : decode b_Md_listParts 15 = .ok (.iload_n 2, 1) := by decide +kernel
theorem d_Md_listParts_16 : decode b_Md_listParts 16 = .ok (.ior, 1) := by decide +kernel
theorem d_Md_listParts_17 : decode b_Md_listParts 17 = .ok (.iastore, 1) := by decide +kernel
theorem d_Md_listParts_18 : decode b_Md_listParts 18 = .ok (.aload_n 0, 1) := by decide +kernel
theorem d_Md_listParts_19 : decode b_Md_listParts 19 = .ok (.iconst (1), 1) := by decide +kernel
theorem d_Md_listParts_20 : decode b_Md_listParts 20 = .ok (.putfield 112, 3) := by decide +kernel
theorem d_Md_listParts_23 : decode b_Md_listParts 23 = .ok (.iconst (0), 1) := by decide +kernel
theorem d_Md_listParts_24 : decode b_Md_listParts 24 = .ok (.istore_n 3, 1) := by decide +kernel
theorem d_Md_listParts_25 : decode b_Md_listParts 25 = .ok (.iload_n 3, 1) := by decide +kernel
theorem d_Md_listParts_26 : decode b_Md_listParts 26 = .ok (.aload_n 0, 1) := by decide +kernel
theorem d_Md_listParts_27 : decode b_Md_listParts 27 = .ok (.getfield 63, 3) := by decide +kernel
theorem d_Md_listParts_30 : decode b_Md_listParts 30 = .ok (.if_icmp .ge (51), 3) := by decide +kernel
theorem d_Md_listParts_33 : decode b_Md_listParts 33 = .ok (.aload_n 0, 1) := by decide +kernel
theorem d_Md_listParts_34 : decode b_Md_listParts 34 = .ok (.iload_n 3, 1) := by decide +kernel
theorem d_Md_listParts_35 : decode b_Md_listParts 35 = .ok (.invokevirtual 115, 3) := by decide +kernel
theorem d_Md_listParts_38 : decode b_Md_listParts 38 = .ok (.istore 4, 2) := by decide +kernel
theorem d_Md_listParts_40 : decode b_Md_listParts 40 = .ok (.iload 4, 2) := by decide +kernel
theorem d_Md_listParts_42 : decode b_Md_listParts 42 = .ok (.ifCond .eq (33), 3) := by decide +kernel
theorem d_Md_listParts_45 : decode b_Md_listParts 45 = .ok (.iload 4, 2) := by decide +kernel
theorem d_Md_listParts_47 : decode b_Md_listParts 47 = .ok (.iload_n 1, 1) := by decide +kernel
theorem d_Md_listParts_48 : decode b_Md_listParts 48 = .ok (.iload_n 2, 1) := by decide +kernel
theorem d_Md_listParts_49 : decode b_Md_listParts 49 = .ok (.ior, 1) := by decide +kernel
theorem d_Md_listParts_50 : decode b_Md_listParts 50 = .ok (.iand, 1) := by decide +kernel
theorem d_Md_listParts_51 : decode b_Md_listParts 51 = .ok (.ifCond .ne (24), 3) := by decide +kernel
theorem d_Md_listParts_54 : decode b_Md_listParts 54 = .ok (.aload_n 0, 1) := by decide +kernel
theorem d_Md_listParts_55 : decode b_Md_listParts 55 = .ok (.getfield 48, 3) := by decide +kernel
theorem d_Md_listParts_58 : decode b_Md_listParts 58 = .ok (.aload_n 0, 1) := by decide +kernel
theorem d_Md_listParts_59 : decode b_Md_listParts 59 = .ok (.getfield 112, 3) := by decide +kernel
theorem d_Md_listParts_62 : decode b_Md_listParts 62 = .ok (.iload 4, 2) := by decide +kernel
theorem d_Md_listParts_64 : decode b_Md_listParts 64 = .ok (.iastore, 1) := by decide +kernel
theorem d_Md_listParts_65 : decode b_Md_listParts 65 = .ok (.aload_n 0, 1) := by decide +kernel
theorem d_Md_listParts_66 : decode b_Md_listParts 66 = .ok (.dup, 1) := by decide +kernel
theorem d_Md_listParts_67 : decode b_Md_listParts 67 = .ok (.getfield 112, 3) := by decide +kernel
theorem d_Md_listParts_70 : decode b_Md_listParts 70 = .ok (.iconst (1), 1) := by decide +kernel
theorem d_Md_listParts_71 : decode b_Md_listParts 71 = .ok (.iadd, 1) := by decide +kernel
theorem d_Md_listParts_72 : decode b_Md_listParts 72 = .ok (.putfield 112, 3) := by decide +kernel
theorem d_Md_listParts_75 : decode b_Md_listParts 75 = .ok (.iinc 3 (1), 3) := by decide +kernel
theorem d_Md_listParts_78 : decode b_Md_listParts 78 = .ok (.goto (-53), 3) := by decide +kernel
theorem d_Md_listParts_81 : decode b_Md_listParts 81 = .ok (.return_, 1) := by decide +kernel
theorem d_Md_orders_0 : decode b_Md_orders 0 = .ok (.iconst (1), 1) := by decide +kernel
theorem d_Md_orders_1 : decode b_Md_orders 1 = .ok (.istore_n 1, 1) := by decide +kernel
theorem d_Md_orders_2 : decode b_Md_orders 2 = .ok (.iconst (2), 1) := by decide +kernel
theorem d_Md_orders_3 : decode b_Md_orders 3 = .ok (.istore_n 2, 1) := by decide +kernel
theorem d_Md_orders_4 : decode b_Md_orders 4 = .ok (.iload_n 2, 1) := by decide +kernel
theorem d_Md_orders_5 : decode b_Md_orders 5 = .ok (.aload_n 0, 1) := by decide +kernel
theorem d_Md_orders_6 : decode b_Md_orders 6 = .ok (.getfield 112, 3) := by decide +kernel
theorem d_Md_orders_9 : decode b_Md_orders 9 = .ok (.if_icmp .gt (13), 3) := by decide +kernel
theorem d_Md_orders_12 : decode b_Md_orders 12 = .ok (.iload_n 1, 1) := by decide +kernel
theorem d_Md_orders_13 : decode b_Md_orders 13 = .ok (.iload_n 2, 1) := by decide +kernel
theorem d_Md_orders_14 : decode b_Md_orders 14 = .ok (.imul, 1) := by decide +kernel
theorem d_Md_orders_15 : decode b_Md_orders 15 = .ok (.istore_n 1, 1) := by decide +kernel
theorem d_Md_orders_16 : decode b_Md_orders 16 = .ok (.iinc 2 (1), 3) := by decide +kernel
theorem d_Md_orders_19 : decode b_Md_orders 19 = .ok (.goto (-15), 3) := by decide +kernel
theorem d_Md_orders_22 : decode b_Md_orders 22 = .ok (.iload_n 1, 1) := by decide +kernel
theorem d_Md_orders_23 : decode b_Md_orders 23 = .ok (.ireturn, 1) := by decide +kernel
theorem d_Md_layOrder_0 : decode b_Md_layOrder 0 = .ok (.iload_n 1, 1) := by decide +kernel
theorem d_Md_layOrder_1 : decode b_Md_layOrder 1 = .ok (.istore_n 2, 1) := by decide +kernel
theorem d_Md_layOrder_2 : decode b_Md_layOrder 2 = .ok (.iconst (0), 1) := by decide +kernel
theorem d_Md_layOrder_3 : decode b_Md_layOrder 3 = .ok (.istore_n 3, 1) := by decide +kernel
theorem d_Md_layOrder_4 : decode b_Md_layOrder 4 = .ok (.iconst (0), 1) := by decide +kernel
theorem d_Md_layOrder_5 : decode b_Md_layOrder 5 = .ok (.istore 4, 2) := by decide +kernel
theorem d_Md_layOrder_7 : decode b_Md_layOrder 7 = .ok (.iload 4, 2) := by decide +kernel
theorem d_Md_layOrder_9 : decode b_Md_layOrder 9 = .ok (.aload_n 0, 1) := by decide +kernel
theorem d_Md_layOrder_10 : decode b_Md_layOrder 10 = .ok (.getfield 112, 3) := by decide +kernel
theorem d_Md_layOrder_13 : decode b_Md_layOrder 13 = .ok (.if_icmp .ge (90), 3) := by decide +kernel
theorem d_Md_layOrder_16 : decode b_Md_layOrder 16 = .ok (.iload_n 2, 1) := by decide +kernel
theorem d_Md_layOrder_17 : decode b_Md_layOrder 17 = .ok (.aload_n 0, 1) := by decide +kernel
theorem d_Md_layOrder_18 : decode b_Md_layOrder 18 = .ok (.getfield 112, 3) := by decide +kernel
theorem d_Md_layOrder_21 : decode b_Md_layOrder 21 = .ok (.iload 4, 2) := by decide +kernel
theorem d_Md_layOrder_23 : decode b_Md_layOrder 23 = .ok (.isub, 1) := by decide +kernel
theorem d_Md_layOrder_24 : decode b_Md_layOrder 24 = .ok (.irem, 1) := by decide +kernel
theorem d_Md_layOrder_25 : decode b_Md_layOrder 25 = .ok (.istore 5, 2) := by decide +kernel
theorem d_Md_layOrder_27 : decode b_Md_layOrder 27 = .ok (.iload_n 2, 1) := by decide +kernel
theorem d_Md_layOrder_28 : decode b_Md_layOrder 28 = .ok (.aload_n 0, 1) := by decide +kernel
theorem d_Md_layOrder_29 : decode b_Md_layOrder 29 = .ok (.getfield 112, 3) := by decide +kernel
theorem d_Md_layOrder_32 : decode b_Md_layOrder 32 = .ok (.iload 4, 2) := by decide +kernel
theorem d_Md_layOrder_34 : decode b_Md_layOrder 34 = .ok (.isub, 1) := by decide +kernel
theorem d_Md_layOrder_35 : decode b_Md_layOrder 35 = .ok (.idiv, 1) := by decide +kernel
theorem d_Md_layOrder_36 : decode b_Md_layOrder 36 = .ok (.istore_n 2, 1) := by decide +kernel
theorem d_Md_layOrder_37 : decode b_Md_layOrder 37 = .ok (.iconst (0), 1) := by decide +kernel
theorem d_Md_layOrder_38 : decode b_Md_layOrder 38 = .ok (.istore 6, 2) := by decide +kernel
theorem d_Md_layOrder_40 : decode b_Md_layOrder 40 = .ok (.iload_n 3, 1) := by decide +kernel
theorem d_Md_layOrder_41 : decode b_Md_layOrder 41 = .ok (.iload 6, 2) := by decide +kernel
theorem d_Md_layOrder_43 : decode b_Md_layOrder 43 = .ok (.ishr, 1) := by decide +kernel
theorem d_Md_layOrder_44 : decode b_Md_layOrder 44 = .ok (.iconst (1), 1) := by decide +kernel
theorem d_Md_layOrder_45 : decode b_Md_layOrder 45 = .ok (.iand, 1) := by decide +kernel
theorem d_Md_layOrder_46 : decode b_Md_layOrder 46 = .ok (.iconst (1), 1) := by decide +kernel
theorem d_Md_layOrder_47 : decode b_Md_layOrder 47 = .ok (.if_icmp .eq (8), 3) := by decide +kernel
theorem d_Md_layOrder_50 : decode b_Md_layOrder 50 = .ok (.iload 5, 2) := by decide +kernel
theorem d_Md_layOrder_52 : decode b_Md_layOrder 52 = .ok (.ifCond .le (29), 3) := by decide +kernel
theorem d_Md_layOrder_55 : decode b_Md_layOrder 55 = .ok (.iload 5, 2) := by decide +kernel
theorem d_Md_layOrder_57 : decode b_Md_layOrder 57 = .ok (.iload_n 3, 1) := by decide +kernel
theorem d_Md_layOrder_58 : decode b_Md_layOrder 58 = .ok (.iload 6, 2) := by decide +kernel
theorem d_Md_layOrder_60 : decode b_Md_layOrder 60 = .ok (.ishr, 1) := by decide +kernel
theorem d_Md_layOrder_61 : decode b_Md_layOrder 61 = .ok (.iconst (1), 1) := by decide +kernel
theorem d_Md_layOrder_62 : decode b_Md_layOrder 62 = .ok (.iand, 1) := by decide +kernel
theorem d_Md_layOrder_63 : decode b_Md_layOrder 63 = .ok (.iconst (1), 1) := by decide +kernel
theorem d_Md_layOrder_64 : decode b_Md_layOrder 64 = .ok (.if_icmp .ne (7), 3) := by decide +kernel
theorem d_Md_layOrder_67 : decode b_Md_layOrder 67 = .ok (.iconst (0), 1) := by decide +kernel
theorem d_Md_layOrder_68 : decode b_Md_layOrder 68 = .ok (.goto (4), 3) := by decide +kernel
theorem d_Md_layOrder_71 : decode b_Md_layOrder 71 = .ok (.iconst (1), 1) := by decide +kernel
theorem d_Md_layOrder_72 : decode b_Md_layOrder 72 = .ok (.isub, 1) := by decide +kernel
theorem d_Md_layOrder_73 : decode b_Md_layOrder 73 = .ok (.istore 5, 2) := by decide +kernel
theorem d_Md_layOrder_75 : decode b_Md_layOrder 75 = .ok (.iinc 6 (1), 3) := by decide +kernel
theorem d_Md_layOrder_78 : decode b_Md_layOrder 78 = .ok (.goto (-38), 3) := by decide +kernel
theorem d_Md_layOrder_81 : decode b_Md_layOrder 81 = .ok (.iload_n 3, 1) := by decide +kernel
theorem d_Md_layOrder_82 : decode b_Md_layOrder 82 = .ok (.iconst (1), 1) := by decide +kernel
theorem d_Md_layOrder_83 : decode b_Md_layOrder 83 = .ok (.iload 6, 2) := by decide +kernel
theorem d_Md_layOrder_85 : decode b_Md_layOrder 85 = .ok (.ishl, 1) := by decide +kernel
theorem d_Md_layOrder_86 : decode b_Md_layOrder 86 = .ok (.ior, 1) := by decide +kernel
theorem d_Md_layOrder_87 : decode b_Md_layOrder 87 = .ok (.istore_n 3, 1) := by decide +kernel
theorem d_Md_layOrder_88 : decode b_Md_layOrder 88 = .ok (.aload_n 0, 1) := by decide +kernel
theorem d_Md_layOrder_89 : decode b_Md_layOrder 89 = .ok (.getfield 51, 3) := by decide +kernel
theorem d_Md_layOrder_92 : decode b_Md_layOrder 92 = .ok (.iload 4, 2) := by decide +kernel
theorem d_Md_layOrder_94 : decode b_Md_layOrder 94 = .ok (.iload 6, 2) := by decide +kernel
theorem d_Md_layOrder_96 : decode b_Md_layOrder 96 = .ok (.iastore, 1) := by decide +kernel
theorem d_Md_layOrder_97 : decode b_Md_layOrder 97 = .ok (.iinc 4 (1), 3) := by decide +kernel
theorem d_Md_layOrder_100 : decode b_Md_layOrder 100 = .ok (.goto (-93), 3) := by decide +kernel
theorem d_Md_layOrder_103 : decode b_Md_layOrder 103 = .ok (.return_, 1) := by decide +kernel
theorem d_Md_before_0 : decode b_Md_before 0 = .ok (.iconst (0), 1) := by decide +kernel
theorem d_Md_before_1 : decode b_Md_before 1 = .ok (.istore_n 2, 1) := by decide +kernel
theorem d_Md_before_2 : decode b_Md_before 2 = .ok (.iconst (0), 1) := by decide +kernel
theorem d_Md_before_3 : decode b_Md_before 3 = .ok (.istore_n 3, 1) := by decide +kernel
theorem d_Md_before_4 : decode b_Md_before 4 = .ok (.aload_n 0, 1) := by decide +kernel
theorem d_Md_before_5 : decode b_Md_before 5 = .ok (.getfield 48, 3) := by decide +kernel
theorem d_Md_before_8 : decode b_Md_before 8 = .ok (.aload_n 0, 1) := by decide +kernel
theorem d_Md_before_9 : decode b_Md_before 9 = .ok (.getfield 51, 3) := by decide +kernel
theorem d_Md_before_12 : decode b_Md_before 12 = .ok (.iload_n 3, 1) := by decide +kernel
theorem d_Md_before_13 : decode b_Md_before 13 = .ok (.iaload, 1) := by decide +kernel
theorem d_Md_before_14 : decode b_Md_before 14 = .ok (.iaload, 1) := by decide +kernel
theorem d_Md_before_15 : decode b_Md_before 15 = .ok (.iload_n 1, 1) := by decide +kernel
theorem d_Md_before_16 : decode b_Md_before 16 = .ok (.if_icmp .eq (23), 3) := by decide +kernel
theorem d_Md_before_19 : decode b_Md_before 19 = .ok (.iload_n 2, 1) := by decide +kernel
theorem d_Md_before_20 : decode b_Md_before 20 = .ok (.aload_n 0, 1) := by decide +kernel
theorem d_Md_before_21 : decode b_Md_before 21 = .ok (.getfield 48, 3) := by decide +kernel
theorem d_Md_before_24 : decode b_Md_before 24 = .ok (.aload_n 0, 1) := by decide +kernel
theorem d_Md_before_25 : decode b_Md_before 25 = .ok (.getfield 51, 3) := by decide +kernel
theorem d_Md_before_28 : decode b_Md_before 28 = .ok (.iload_n 3, 1) := by decide +kernel
theorem d_Md_before_29 : decode b_Md_before 29 = .ok (.iaload, 1) := by decide +kernel
theorem d_Md_before_30 : decode b_Md_before 30 = .ok (.iaload, 1) := by decide +kernel
theorem d_Md_before_31 : decode b_Md_before 31 = .ok (.ior, 1) := by decide +kernel
theorem d_Md_before_32 : decode b_Md_before 32 = .ok (.istore_n 2, 1) := by decide +kernel
theorem d_Md_before_33 : decode b_Md_before 33 = .ok (.iinc 3 (1), 3) := by decide +kernel
theorem d_Md_before_36 : decode b_Md_before 36 = .ok (.goto (-32), 3) := by decide +kernel
theorem d_Md_before_39 : decode b_Md_before 39 = .ok (.iload_n 2, 1) := by decide +kernel
theorem d_Md_before_40 : decode b_Md_before 40 = .ok (.ireturn, 1) := by decide +kernel
theorem d_Md_setSum_0 : decode b_Md_setSum 0 = .ok (.aload_n 0, 1) := by decide +kernel
theorem d_Md_setSum_1 : decode b_Md_setSum 1 = .ok (.iconst (0), 1) := by decide +kernel
theorem d_Md_setSum_2 : decode b_Md_setSum 2 = .ok (.iconst (0), 1) := by decide +kernel
theorem d_Md_setSum_3 : decode b_Md_setSum 3 = .ok (.invokevirtual 119, 3) := by decide +kernel
theorem d_Md_setSum_6 : decode b_Md_setSum 6 = .ok (.lconst 0, 1) := by decide +kernel
theorem d_Md_setSum_7 : decode b_Md_setSum 7 = .ok (.lstore_n 2, 1) := by decide +kernel
theorem d_Md_setSum_8 : decode b_Md_setSum 8 = .ok (.iconst (0), 1) := by decide +kernel
theorem d_Md_setSum_9 : decode b_Md_setSum 9 = .ok (.istore 4, 2) := by decide +kernel
theorem d_Md_setSum_11 : decode b_Md_setSum 11 = .ok (.iload 4, 2) := by decide +kernel
theorem d_Md_setSum_13 : decode b_Md_setSum 13 = .ok (.iconst (1), 1) := by decide +kernel
theorem d_Md_setSum_14 : decode b_Md_setSum 14 = .ok (.aload_n 0, 1) := by decide +kernel
theorem d_Md_setSum_15 : decode b_Md_setSum 15 = .ok (.getfield 112, 3) := by decide +kernel
theorem d_Md_setSum_18 : decode b_Md_setSum 18 = .ok (.ishl, 1) := by decide +kernel
theorem d_Md_setSum_19 : decode b_Md_setSum 19 = .ok (.if_icmp .ge (88), 3) := by decide +kernel
theorem d_Md_setSum_22 : decode b_Md_setSum 22 = .ok (.iconst (0), 1) := by decide +kernel
theorem d_Md_setSum_23 : decode b_Md_setSum 23 = .ok (.istore 5, 2) := by decide +kernel
theorem d_Md_setSum_25 : decode b_Md_setSum 25 = .ok (.iconst (0), 1) := by decide +kernel
theorem d_Md_setSum_26 : decode b_Md_setSum 26 = .ok (.istore 6, 2) := by decide +kernel
theorem d_Md_setSum_28 : decode b_Md_setSum 28 = .ok (.iload 6, 2) := by decide +kernel
theorem d_Md_setSum_30 : decode b_Md_setSum 30 = .ok (.aload_n 0, 1) := by decide +kernel
theorem d_Md_setSum_31 : decode b_Md_setSum 31 = .ok (.getfield 112, 3) := by decide +kernel
theorem d_Md_setSum_34 : decode b_Md_setSum 34 = .ok (.if_icmp .ge (36), 3) := by decide +kernel
theorem d_Md_setSum_37 : decode b_Md_setSum 37 = .ok (.iload 5, 2) := by decide +kernel
theorem d_Md_setSum_39 : decode b_Md_setSum 39 = .ok (.iload 4, 2) := by decide +kernel
theorem d_Md_setSum_41 : decode b_Md_setSum 41 = .ok (.iload 6, 2) := by decide +kernel
theorem d_Md_setSum_43 : decode b_Md_setSum 43 = .ok (.ishr, 1) := by decide +kernel
theorem d_Md_setSum_44 : decode b_Md_setSum 44 = .ok (.iconst (1), 1) := by decide +kernel
theorem d_Md_setSum_45 : decode b_Md_setSum 45 = .ok (.iand, 1) := by decide +kernel
theorem d_Md_setSum_46 : decode b_Md_setSum 46 = .ok (.iconst (1), 1) := by decide +kernel
theorem d_Md_setSum_47 : decode b_Md_setSum 47 = .ok (.if_icmp .ne (13), 3) := by decide +kernel
theorem d_Md_setSum_50 : decode b_Md_setSum 50 = .ok (.aload_n 0, 1) := by decide +kernel
theorem d_Md_setSum_51 : decode b_Md_setSum 51 = .ok (.getfield 48, 3) := by decide +kernel
theorem d_Md_setSum_54 : decode b_Md_setSum 54 = .ok (.iload 6, 2) := by decide +kernel
theorem d_Md_setSum_56 : decode b_Md_setSum 56 = .ok (.iaload, 1) := by decide +kernel
theorem d_Md_setSum_57 : decode b_Md_setSum 57 = .ok (.goto (4), 3) := by decide +kernel
theorem d_Md_setSum_60 : decode b_Md_setSum 60 = .ok (.iconst (0), 1) := by decide +kernel
theorem d_Md_setSum_61 : decode b_Md_setSum 61 = .ok (.ior, 1) := by decide +kernel
theorem d_Md_setSum_62 : decode b_Md_setSum 62 = .ok (.istore 5, 2) := by decide +kernel
theorem d_Md_setSum_64 : decode b_Md_setSum 64 = .ok (.iinc 6 (1), 3) := by decide +kernel
theorem d_Md_setSum_67 : decode b_Md_setSum 67 = .ok (.goto (-39), 3) := by decide +kernel
theorem d_Md_setSum_70 : decode b_Md_setSum 70 = .ok (.lload_n 2, 1) := by decide +kernel
theorem d_Md_setSum_71 : decode b_Md_setSum 71 = .ok (.iload 5, 2) := by decide +kernel
theorem d_Md_setSum_73 : decode b_Md_setSum 73 = .ok (.iload_n 1, 1) := by decide +kernel
theorem d_Md_setSum_74 : decode b_Md_setSum 74 = .ok (.iand, 1) := by decide +kernel
theorem d_Md_setSum_75 : decode b_Md_setSum 75 = .ok (.ifCond .ne (23), 3) := by decide +kernel
theorem d_Md_setSum_78 : decode b_Md_setSum 78 = .ok (.aload_n 0, 1) := by decide +kernel
theorem d_Md_setSum_79 : decode b_Md_setSum 79 = .ok (.getfield 44, 3) := by decide +kernel
theorem d_Md_setSum_82 : decode b_Md_setSum 82 = .ok (.iload 5, 2) := by decide +kernel
theorem d_Md_setSum_84 : decode b_Md_setSum 84 = .ok (.iload_n 1, 1) := by decide +kernel
theorem d_Md_setSum_85 : decode b_Md_setSum 85 = .ok (.ior, 1) := by decide +kernel
theorem d_Md_setSum_86 : decode b_Md_setSum 86 = .ok (.laload, 1) := by decide +kernel
theorem d_Md_setSum_87 : decode b_Md_setSum 87 = .ok (.aload_n 0, 1) := by decide +kernel
theorem d_Md_setSum_88 : decode b_Md_setSum 88 = .ok (.getfield 44, 3) := by decide +kernel
theorem d_Md_setSum_91 : decode b_Md_setSum 91 = .ok (.iload 5, 2) := by decide +kernel
theorem d_Md_setSum_93 : decode b_Md_setSum 93 = .ok (.laload, 1) := by decide +kernel
theorem d_Md_setSum_94 : decode b_Md_setSum 94 = .ok (.lsub, 1) := by decide +kernel
theorem d_Md_setSum_95 : decode b_Md_setSum 95 = .ok (.goto (4), 3) := by decide +kernel
theorem d_Md_setSum_98 : decode b_Md_setSum 98 = .ok (.lconst 0, 1) := by decide +kernel
theorem d_Md_setSum_99 : decode b_Md_setSum 99 = .ok (.ladd, 1) := by decide +kernel
theorem d_Md_setSum_100 : decode b_Md_setSum 100 = .ok (.lstore_n 2, 1) := by decide +kernel
theorem d_Md_setSum_101 : decode b_Md_setSum 101 = .ok (.iinc 4 (1), 3) := by decide +kernel
theorem d_Md_setSum_104 : decode b_Md_setSum 104 = .ok (.goto (-93), 3) := by decide +kernel
theorem d_Md_setSum_107 : decode b_Md_setSum 107 = .ok (.lload_n 2, 1) := by decide +kernel
theorem d_Md_setSum_108 : decode b_Md_setSum 108 = .ok (.lreturn, 1) := by decide +kernel
theorem d_Md_both_0 : decode b_Md_both 0 = .ok (.aload_n 0, 1) := by decide +kernel
theorem d_Md_both_1 : decode b_Md_both 1 = .ok (.iconst (0), 1) := by decide +kernel
theorem d_Md_both_2 : decode b_Md_both 2 = .ok (.putfield 71, 3) := by decide +kernel
theorem d_Md_both_5 : decode b_Md_both 5 = .ok (.aload_n 0, 1) := by decide +kernel
theorem d_Md_both_6 : decode b_Md_both 6 = .ok (.iload_n 1, 1) := by decide +kernel
theorem d_Md_both_7 : decode b_Md_both 7 = .ok (.invokevirtual 81, 3) := by decide +kernel
theorem d_Md_both_10 : decode b_Md_both 10 = .ok (.ifCond .eq (35), 3) := by decide +kernel
theorem d_Md_both_13 : decode b_Md_both 13 = .ok (.aload_n 0, 1) := by decide +kernel
theorem d_Md_both_14 : decode b_Md_both 14 = .ok (.iload_n 2, 1) := by decide +kernel
theorem d_Md_both_15 : decode b_Md_both 15 = .ok (.invokevirtual 81, 3) := by decide +kernel
theorem d_Md_both_18 : decode b_Md_both 18 = .ok (.ifCond .eq (27), 3) := by decide +kernel
theorem d_Md_both_21 : decode b_Md_both 21 = .ok (.iload_n 3, 1) := by decide +kernel
theorem d_Md_both_22 : decode b_Md_both 22 = .ok (.iconst (0), 1) := by decide +kernel
theorem d_Md_both_23 : decode b_Md_both 23 = .ok (.iconst (1), 1) := by decide +kernel
theorem d_Md_both_24 : decode b_Md_both 24 = .ok (.invokestatic 74, 3) := by decide +kernel
theorem d_Md_both_27 : decode b_Md_both 27 = .ok (.ifCond .eq (18), 3) := by decide +kernel
theorem d_Md_both_30 : decode b_Md_both 30 = .ok (.aload_n 0, 1) := by decide +kernel
theorem d_Md_both_31 : decode b_Md_both 31 = .ok (.getfield 32, 3) := by decide +kernel
theorem d_Md_both_34 : decode b_Md_both 34 = .ok (.iload_n 1, 1) := by decide +kernel
theorem d_Md_both_35 : decode b_Md_both 35 = .ok (.iaload, 1) := by decide +kernel
theorem d_Md_both_36 : decode b_Md_both 36 = .ok (.aload_n 0, 1) := by decide +kernel
theorem d_Md_both_37 : decode b_Md_both 37 = .ok (.getfield 32, 3) := by decide +kernel
theorem d_Md_both_40 : decode b_Md_both 40 = .ok (.iload_n 2, 1) := by decide +kernel
theorem d_Md_both_41 : decode b_Md_both 41 = .ok (.iaload, 1) := by decide +kernel
theorem d_Md_both_42 : decode b_Md_both 42 = .ok (.if_icmp .ne (7), 3) := by decide +kernel
theorem d_Md_both_45 : decode b_Md_both 45 = .ok (.ldc2_w 91, 3) := by decide +kernel
theorem d_Md_both_48 : decode b_Md_both 48 = .ok (.lreturn, 1) := by decide +kernel
theorem d_Md_both_49 : decode b_Md_both 49 = .ok (.aload_n 0, 1) := by decide +kernel
theorem d_Md_both_50 : decode b_Md_both 50 = .ok (.invokevirtual 101, 3) := by decide +kernel
theorem d_Md_both_53 : decode b_Md_both 53 = .ok (.ifCond .eq (5), 3) := by decide +kernel
theorem d_Md_both_56 : decode b_Md_both 56 = .ok (.lconst 0, 1) := by decide +kernel
theorem d_Md_both_57 : decode b_Md_both 57 = .ok (.lreturn, 1) := by decide +kernel
theorem d_Md_both_58 : decode b_Md_both 58 = .ok (.aload_n 0, 1) := by decide +kernel
theorem d_Md_both_59 : decode b_Md_both 59 = .ok (.invokevirtual 105, 3) := by decide +kernel
theorem d_Md_both_62 : decode b_Md_both 62 = .ok (.aload_n 0, 1) := by decide +kernel
theorem d_Md_both_63 : decode b_Md_both 63 = .ok (.aload_n 0, 1) := by decide +kernel
theorem d_Md_both_64 : decode b_Md_both 64 = .ok (.getfield 32, 3) := by decide +kernel
theorem d_Md_both_67 : decode b_Md_both 67 = .ok (.iload_n 1, 1) := by decide +kernel
theorem d_Md_both_68 : decode b_Md_both 68 = .ok (.iaload, 1) := by decide +kernel
theorem d_Md_both_69 : decode b_Md_both 69 = .ok (.invokevirtual 115, 3) := by decide +kernel
theorem d_Md_both_72 : decode b_Md_both 72 = .ok (.istore 4, 2) := by decide +kernel
theorem d_Md_both_74 : decode b_Md_both 74 = .ok (.aload_n 0, 1) := by decide +kernel
theorem d_Md_both_75 : decode b_Md_both 75 = .ok (.aload_n 0, 1) := by decide +kernel
theorem d_Md_both_76 : decode b_Md_both 76 = .ok (.getfield 32, 3) := by decide +kernel
theorem d_Md_both_79 : decode b_Md_both 79 = .ok (.iload_n 2, 1) := by decide +kernel
theorem d_Md_both_80 : decode b_Md_both 80 = .ok (.iaload, 1) := by decide +kernel
theorem d_Md_both_81 : decode b_Md_both 81 = .ok (.invokevirtual 115, 3) := by decide +kernel
theorem d_Md_both_84 : decode b_Md_both 84 = .ok (.istore 5, 2) := by decide +kernel
theorem d_Md_both_86 : decode b_Md_both 86 = .ok (.aload_n 0, 1) := by decide +kernel
theorem d_Md_both_87 : decode b_Md_both 87 = .ok (.iload 4, 2) := by decide +kernel
theorem d_Md_both_89 : decode b_Md_both 89 = .ok (.iload 5, 2) := by decide +kernel
theorem d_Md_both_91 : decode b_Md_both 91 = .ok (.invokevirtual 119, 3) := by decide +kernel
theorem d_Md_both_94 : decode b_Md_both 94 = .ok (.lconst 0, 1) := by decide +kernel
theorem d_Md_both_95 : decode b_Md_both 95 = .ok (.lstore 6, 2) := by decide +kernel
theorem d_Md_both_97 : decode b_Md_both 97 = .ok (.iconst (0), 1) := by decide +kernel
theorem d_Md_both_98 : decode b_Md_both 98 = .ok (.istore 8, 2) := by decide +kernel
theorem d_Md_both_100 : decode b_Md_both 100 = .ok (.iload 8, 2) := by decide +kernel
theorem d_Md_both_102 : decode b_Md_both 102 = .ok (.aload_n 0, 1) := by decide +kernel
theorem d_Md_both_103 : decode b_Md_both 103 = .ok (.invokevirtual 123, 3) := by decide +kernel
theorem d_Md_both_106 : decode b_Md_both 106 = .ok (.if_icmp .ge (74), 3) := by decide +kernel
theorem d_Md_both_109 : decode b_Md_both 109 = .ok (.aload_n 0, 1) := by decide +kernel
theorem d_Md_both_110 : decode b_Md_both 110 = .ok (.iload 8, 2) := by decide +kernel
theorem d_Md_both_112 : decode b_Md_both 112 = .ok (.invokevirtual 126, 3) := by decide +kernel
theorem d_Md_both_115 : decode b_Md_both 115 = .ok (.aload_n 0, 1) := by decide +kernel
theorem d_Md_both_116 : decode b_Md_both 116 = .ok (.iload 4, 2) := by decide +kernel
theorem d_Md_both_118 : decode b_Md_both 118 = .ok (.iload 5, 2) := by decide +kernel
theorem d_Md_both_120 : decode b_Md_both 120 = .ok (.ior, 1) := by decide +kernel
theorem d_Md_both_121 : decode b_Md_both 121 = .ok (.invokevirtual 129, 3) := by decide +kernel
theorem d_Md_both_124 : decode b_Md_both 124 = .ok (.istore 9, 2) := by decide +kernel
theorem d_Md_both_126 : decode b_Md_both 126 = .ok (.lload 6, 2) := by decide +kernel
theorem d_Md_both_128 : decode b_Md_both 128 = .ok (.aload_n 0, 1) := by decide +kernel
theorem d_Md_both_129 : decode b_Md_both 129 = .ok (.getfield 44, 3) := by decide +kernel
theorem d_Md_both_132 : decode b_Md_both 132 = .ok (.iload 9, 2) := by decide +kernel
theorem d_Md_both_134 : decode b_Md_both 134 = .ok (.iload 4, 2) := by decide +kernel
theorem d_Md_both_136 : decode b_Md_both 136 = .ok (.ior, 1) := by decide +kernel
theorem d_Md_both_137 : decode b_Md_both 137 = .ok (.iload 5, 2) := by decide +kernel
theorem d_Md_both_139 : decode b_Md_both 139 = .ok (.ior, 1) := by decide +kernel
theorem d_Md_both_140 : decode b_Md_both 140 = .ok (.laload, 1) := by decide +kernel
theorem d_Md_both_141 : decode b_Md_both 141 = .ok (.aload_n 0, 1) := by decide +kernel
theorem d_Md_both_142 : decode b_Md_both 142 = .ok (.getfield 44, 3) := by decide +kernel
theorem d_Md_both_145 : decode b_Md_both 145 = .ok (.iload 9, 2) := by decide +kernel
theorem d_Md_both_147 : decode b_Md_both 147 = .ok (.iload 4, 2) := by decide +kernel
theorem d_Md_both_149 : decode b_Md_both 149 = .ok (.ior, 1) := by decide +kernel
theorem d_Md_both_150 : decode b_Md_both 150 = .ok (.laload, 1) := by decide +kernel
theorem d_Md_both_151 : decode b_Md_both 151 = .ok (.lsub, 1) := by decide +kernel
theorem d_Md_both_152 : decode b_Md_both 152 = .ok (.aload_n 0, 1) := by decide +kernel
theorem d_Md_both_153 : decode b_Md_both 153 = .ok (.getfield 44, 3) := by decide +kernel
theorem d_Md_both_156 : decode b_Md_both 156 = .ok (.iload 9, 2) := by decide +kernel
theorem d_Md_both_158 : decode b_Md_both 158 = .ok (.iload 5, 2) := by decide +kernel
theorem d_Md_both_160 : decode b_Md_both 160 = .ok (.ior, 1) := by decide +kernel
theorem d_Md_both_161 : decode b_Md_both 161 = .ok (.laload, 1) := by decide +kernel
theorem d_Md_both_162 : decode b_Md_both 162 = .ok (.lsub, 1) := by decide +kernel
theorem d_Md_both_163 : decode b_Md_both 163 = .ok (.aload_n 0, 1) := by decide +kernel
theorem d_Md_both_164 : decode b_Md_both 164 = .ok (.getfield 44, 3) := by decide +kernel
theorem d_Md_both_167 : decode b_Md_both 167 = .ok (.iload 9, 2) := by decide +kernel
theorem d_Md_both_169 : decode b_Md_both 169 = .ok (.laload, 1) := by decide +kernel
theorem d_Md_both_170 : decode b_Md_both 170 = .ok (.ladd, 1) := by decide +kernel
theorem d_Md_both_171 : decode b_Md_both 171 = .ok (.ladd, 1) := by decide +kernel
theorem d_Md_both_172 : decode b_Md_both 172 = .ok (.lstore 6, 2) := by decide +kernel
theorem d_Md_both_174 : decode b_Md_both 174 = .ok (.iinc 8 (1), 3) := by decide +kernel
theorem d_Md_both_177 : decode b_Md_both 177 = .ok (.goto (-77), 3) := by decide +kernel
theorem d_Md_both_180 : decode b_Md_both 180 = .ok (.lload 6, 2) := by decide +kernel
theorem d_Md_both_182 : decode b_Md_both 182 = .ok (.aload_n 0, 1) := by decide +kernel
theorem d_Md_both_183 : decode b_Md_both 183 = .ok (.getfield 88, 3) := by decide +kernel
theorem d_Md_both_186 : decode b_Md_both 186 = .ok (.i2l, 1) := by decide +kernel
theorem d_Md_both_187 : decode b_Md_both 187 = .ok (.aload_n 0, 1) := by decide +kernel
theorem d_Md_both_188 : decode b_Md_both 188 = .ok (.invokevirtual 123, 3) := by decide +kernel
theorem d_Md_both_191 : decode b_Md_both 191 = .ok (.i2l, 1) := by decide +kernel
theorem d_Md_both_192 : decode b_Md_both 192 = .ok (.lmul, 1) := by decide +kernel
theorem d_Md_both_193 : decode b_Md_both 193 = .ok (.iload_n 3, 1) := by decide +kernel
theorem d_Md_both_194 : decode b_Md_both 194 = .ok (.invokestatic 108, 3) := by decide +kernel
theorem d_Md_both_197 : decode b_Md_both 197 = .ok (.lreturn, 1) := by decide +kernel
theorem d_Md_drawn_0 : decode b_Md_drawn 0 = .ok (.aload_n 0, 1) := by decide +kernel
theorem d_Md_drawn_1 : decode b_Md_drawn 1 = .ok (.iconst (0), 1) := by decide +kernel
theorem d_Md_drawn_2 : decode b_Md_drawn 2 = .ok (.putfield 71, 3) := by decide +kernel
theorem d_Md_drawn_5 : decode b_Md_drawn 5 = .ok (.aload_n 0, 1) := by decide +kernel
theorem d_Md_drawn_6 : decode b_Md_drawn 6 = .ok (.iload_n 1, 1) := by decide +kernel
theorem d_Md_drawn_7 : decode b_Md_drawn 7 = .ok (.invokevirtual 81, 3) := by decide +kernel
theorem d_Md_drawn_10 : decode b_Md_drawn 10 = .ok (.ifCond .eq (23), 3) := by decide +kernel
theorem d_Md_drawn_13 : decode b_Md_drawn 13 = .ok (.iload_n 3, 1) := by decide +kernel
theorem d_Md_drawn_14 : decode b_Md_drawn 14 = .ok (.iconst (1), 1) := by decide +kernel
theorem d_Md_drawn_15 : decode b_Md_drawn 15 = .ok (.bipush (20), 2) := by decide +kernel
theorem d_Md_drawn_17 : decode b_Md_drawn 17 = .ok (.invokestatic 74, 3) := by decide +kernel
theorem d_Md_drawn_20 : decode b_Md_drawn 20 = .ok (.ifCond .eq (13), 3) := by decide +kernel
theorem d_Md_drawn_23 : decode b_Md_drawn 23 = .ok (.iload 4, 2) := by decide +kernel
theorem d_Md_drawn_25 : decode b_Md_drawn 25 = .ok (.iconst (0), 1) := by decide +kernel
theorem d_Md_drawn_26 : decode b_Md_drawn 26 = .ok (.iconst (1), 1) := by decide +kernel
theorem d_Md_drawn_27 : decode b_Md_drawn 27 = .ok (.invokestatic 74, 3) := by decide +kernel
theorem d_Md_drawn_30 : decode b_Md_drawn 30 = .ok (.ifCond .ne (7), 3) := by decide +kernel
theorem d_Md_drawn_33 : decode b_Md_drawn 33 = .ok (.ldc2_w 91, 3) := by decide +kernel
theorem d_Md_drawn_36 : decode b_Md_drawn 36 = .ok (.lreturn, 1) := by decide +kernel
theorem d_Md_drawn_37 : decode b_Md_drawn 37 = .ok (.aload_n 0, 1) := by decide +kernel
theorem d_Md_drawn_38 : decode b_Md_drawn 38 = .ok (.invokevirtual 101, 3) := by decide +kernel
theorem d_Md_drawn_41 : decode b_Md_drawn 41 = .ok (.ifCond .eq (5), 3) := by decide +kernel
theorem d_Md_drawn_44 : decode b_Md_drawn 44 = .ok (.lconst 0, 1) := by decide +kernel
theorem d_Md_drawn_45 : decode b_Md_drawn 45 = .ok (.lreturn, 1) := by decide +kernel
theorem d_Md_drawn_46 : decode b_Md_drawn 46 = .ok (.aload_n 0, 1) := by decide +kernel
theorem d_Md_drawn_47 : decode b_Md_drawn 47 = .ok (.invokevirtual 105, 3) := by decide +kernel
theorem d_Md_drawn_50 : decode b_Md_drawn 50 = .ok (.aload_n 0, 1) := by decide +kernel
theorem d_Md_drawn_51 : decode b_Md_drawn 51 = .ok (.aload_n 0, 1) := by decide +kernel
theorem d_Md_drawn_52 : decode b_Md_drawn 52 = .ok (.getfield 32, 3) := by decide +kernel
theorem d_Md_drawn_55 : decode b_Md_drawn 55 = .ok (.iload_n 1, 1) := by decide +kernel
theorem d_Md_drawn_56 : decode b_Md_drawn 56 = .ok (.iaload, 1) := by decide +kernel
theorem d_Md_drawn_57 : decode b_Md_drawn 57 = .ok (.invokevirtual 115, 3) := by decide +kernel
theorem d_Md_drawn_60 : decode b_Md_drawn 60 = .ok (.istore 5, 2) := by decide +kernel
theorem d_Md_drawn_62 : decode b_Md_drawn 62 = .ok (.aload_n 0, 1) := by decide +kernel
theorem d_Md_drawn_63 : decode b_Md_drawn 63 = .ok (.iconst (0), 1) := by decide +kernel
theorem d_Md_drawn_64 : decode b_Md_drawn 64 = .ok (.iconst (0), 1) := by decide +kernel
theorem d_Md_drawn_65 : decode b_Md_drawn 65 = .ok (.invokevirtual 119, 3) := by decide +kernel
theorem d_Md_drawn_68 : decode b_Md_drawn 68 = .ok (.iload_n 2, 1) := by decide +kernel
theorem d_Md_drawn_69 : decode b_Md_drawn 69 = .ok (.istore 6, 2) := by decide +kernel
theorem d_Md_drawn_71 : decode b_Md_drawn 71 = .ok (.lconst 0, 1) := by decide +kernel
theorem d_Md_drawn_72 : decode b_Md_drawn 72 = .ok (.lstore 7, 2) := by decide +kernel
theorem d_Md_drawn_74 : decode b_Md_drawn 74 = .ok (.iconst (0), 1) := by decide +kernel
theorem d_Md_drawn_75 : decode b_Md_drawn 75 = .ok (.istore 9, 2) := by decide +kernel
theorem d_Md_drawn_77 : decode b_Md_drawn 77 = .ok (.iload 9, 2) := by decide +kernel
theorem d_Md_drawn_79 : decode b_Md_drawn 79 = .ok (.iload_n 3, 1) := by decide +kernel
theorem d_Md_drawn_80 : decode b_Md_drawn 80 = .ok (.if_icmp .ge (141), 3) := by decide +kernel
theorem d_Md_drawn_83 : decode b_Md_drawn 83 = .ok (.iconst (0), 1) := by decide +kernel
theorem d_Md_drawn_84 : decode b_Md_drawn 84 = .ok (.istore 10, 2) := by decide +kernel
theorem d_Md_drawn_86 : decode b_Md_drawn 86 = .ok (.iload 10, 2) := by decide +kernel
theorem d_Md_drawn_88 : decode b_Md_drawn 88 = .ok (.aload_n 0, 1) := by decide +kernel
theorem d_Md_drawn_89 : decode b_Md_drawn 89 = .ok (.getfield 112, 3) := by decide +kernel
theorem d_Md_drawn_92 : decode b_Md_drawn 92 = .ok (.if_icmp .ge (18), 3) := by decide +kernel
theorem d_Md_drawn_95 : decode b_Md_drawn 95 = .ok (.aload_n 0, 1) := by decide +kernel
theorem d_Md_drawn_96 : decode b_Md_drawn 96 = .ok (.getfield 51, 3) := by decide +kernel
theorem d_Md_drawn_99 : decode b_Md_drawn 99 = .ok (.iload 10, 2) := by decide +kernel
theorem d_Md_drawn_101 : decode b_Md_drawn 101 = .ok (.iload 10, 2) := by decide +kernel
theorem d_Md_drawn_103 : decode b_Md_drawn 103 = .ok (.iastore, 1) := by decide +kernel
theorem d_Md_drawn_104 : decode b_Md_drawn 104 = .ok (.iinc 10 (1), 3) := by decide +kernel
theorem d_Md_drawn_107 : decode b_Md_drawn 107 = .ok (.goto (-21), 3) := by decide +kernel
theorem d_Md_drawn_110 : decode b_Md_drawn 110 = .ok (.aload_n 0, 1) := by decide +kernel
theorem d_Md_drawn_111 : decode b_Md_drawn 111 = .ok (.getfield 112, 3) := by decide +kernel
theorem d_Md_drawn_114 : decode b_Md_drawn 114 = .ok (.iconst (1), 1) := by decide +kernel
theorem d_Md_drawn_115 : decode b_Md_drawn 115 = .ok (.isub, 1) := by decide +kernel
theorem d_Md_drawn_116 : decode b_Md_drawn 116 = .ok (.istore 10, 2) := by decide +kernel
theorem d_Md_drawn_118 : decode b_Md_drawn 118 = .ok (.iload 10, 2) := by decide +kernel
theorem d_Md_drawn_120 : decode b_Md_drawn 120 = .ok (.ifCond .le (64), 3) := by decide +kernel
theorem d_Md_drawn_123 : decode b_Md_drawn 123 = .ok (.iload 6, 2) := by decide +kernel
theorem d_Md_drawn_125 : decode b_Md_drawn 125 = .ok (.ldc 139, 2) := by decide +kernel
theorem d_Md_drawn_127 : decode b_Md_drawn 127 = .ok (.imul, 1) := by decide +kernel
theorem d_Md_drawn_128 : decode b_Md_drawn 128 = .ok (.sipush (12345), 3) := by decide +kernel
theorem d_Md_drawn_131 : decode b_Md_drawn 131 = .ok (.iadd, 1) := by decide +kernel
theorem d_Md_drawn_132 : decode b_Md_drawn 132 = .ok (.istore 6, 2) := by decide +kernel
theorem d_Md_drawn_134 : decode b_Md_drawn 134 = .ok (.iload 6, 2) := by decide +kernel
theorem d_Md_drawn_136 : decode b_Md_drawn 136 = .ok (.bipush (16), 2) := by decide +kernel
theorem d_Md_drawn_138 : decode b_Md_drawn 138 = .ok (.iushr, 1) := by decide +kernel
theorem d_Md_drawn_139 : decode b_Md_drawn 139 = .ok (.iload 10, 2) := by decide +kernel
theorem d_Md_drawn_141 : decode b_Md_drawn 141 = .ok (.iconst (1), 1) := by decide +kernel
theorem d_Md_drawn_142 : decode b_Md_drawn 142 = .ok (.iadd, 1) := by decide +kernel
theorem d_Md_drawn_143 : decode b_Md_drawn 143 = .ok (.irem, 1) := by decide +kernel
theorem d_Md_drawn_144 : decode b_Md_drawn 144 = .ok (.istore 11, 2) := by decide +kernel
theorem d_Md_drawn_146 : decode b_Md_drawn 146 = .ok (.aload_n 0, 1) := by decide +kernel
theorem d_Md_drawn_147 : decode b_Md_drawn 147 = .ok (.getfield 51, 3) := by decide +kernel
theorem d_Md_drawn_150 : decode b_Md_drawn 150 = .ok (.iload 10, 2) := by decide +kernel
theorem d_Md_drawn_152 : decode b_Md_drawn 152 = .ok (.iaload, 1) := by decide +kernel
theorem d_Md_drawn_153 : decode b_Md_drawn 153 = .ok (.istore 12, 2) := by decide +kernel
theorem d_Md_drawn_155 : decode b_Md_drawn 155 = .ok (.aload_n 0, 1) := by decide +kernel
theorem d_Md_drawn_156 : decode b_Md_drawn 156 = .ok (.getfield 51, 3) := by decide +kernel
theorem d_Md_drawn_159 : decode b_Md_drawn 159 = .ok (.iload 10, 2) := by decide +kernel
theorem d_Md_drawn_161 : decode b_Md_drawn 161 = .ok (.aload_n 0, 1) := by decide +kernel
theorem d_Md_drawn_162 : decode b_Md_drawn 162 = .ok (.getfield 51, 3) := by decide +kernel
theorem d_Md_drawn_165 : decode b_Md_drawn 165 = .ok (.iload 11, 2) := by decide +kernel
theorem d_Md_drawn_167 : decode b_Md_drawn 167 = .ok (.iaload, 1) := by decide +kernel
