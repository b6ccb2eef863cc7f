theorem d_Md_drawn_168 : decode b_Md_drawn 168 = .ok (.iastore, 1) := by decide +kernel
theorem d_Md_drawn_169 : decode b_Md_drawn 169 = .ok (.aload_n 0, 1) := by decide +kernel
theorem d_Md_drawn_170 : decode b_Md_drawn 170 = .ok (.getfield 51, 3) := by decide +kernel
theorem d_Md_drawn_173 : decode b_Md_drawn 173 = .ok (.iload 11, 2) := by decide +kernel
theorem d_Md_drawn_175 : decode b_Md_drawn 175 = .ok (.iload 12, 2) := by decide +kernel
theorem d_Md_drawn_177 : decode b_Md_drawn 177 = .ok (.iastore, 1) := by decide +kernel
theorem d_Md_drawn_178 : decode b_Md_drawn 178 = .ok (.iinc 10 (-1), 3) := by decide +kernel
theorem d_Md_drawn_181 : decode b_Md_drawn 181 = .ok (.goto (-63), 3) := by decide +kernel
theorem d_Md_drawn_184 : decode b_Md_drawn 184 = .ok (.aload_n 0, 1) := by decide +kernel
theorem d_Md_drawn_185 : decode b_Md_drawn 185 = .ok (.iload 5, 2) := by decide +kernel
theorem d_Md_drawn_187 : decode b_Md_drawn 187 = .ok (.invokevirtual 129, 3) := by decide +kernel
theorem d_Md_drawn_190 : decode b_Md_drawn 190 = .ok (.istore 10, 2) := by decide +kernel
theorem d_Md_drawn_192 : decode b_Md_drawn 192 = .ok (.lload 7, 2) := by decide +kernel
theorem d_Md_drawn_194 : decode b_Md_drawn 194 = .ok (.aload_n 0, 1) := by decide +kernel
theorem d_Md_drawn_195 : decode b_Md_drawn 195 = .ok (.getfield 44, 3) := by decide +kernel
theorem d_Md_drawn_198 : decode b_Md_drawn 198 = .ok (.iload 10, 2) := by decide +kernel
theorem d_Md_drawn_200 : decode b_Md_drawn 200 = .ok (.iload 5, 2) := by decide +kernel
theorem d_Md_drawn_202 : decode b_Md_drawn 202 = .ok (.ior, 1) := by decide +kernel
theorem d_Md_drawn_203 : decode b_Md_drawn 203 = .ok (.laload, 1) := by decide +kernel
theorem d_Md_drawn_204 : decode b_Md_drawn 204 = .ok (.aload_n 0, 1) := by decide +kernel
theorem d_Md_drawn_205 : decode b_Md_drawn 205 = .ok (.getfield 44, 3) := by decide +kernel
theorem d_Md_drawn_208 : decode b_Md_drawn 208 = .ok (.iload 10, 2) := by decide +kernel
theorem d_Md_drawn_210 : decode b_Md_drawn 210 = .ok (.laload, 1) := by decide +kernel
theorem d_Md_drawn_211 : decode b_Md_drawn 211 = .ok (.lsub, 1) := by decide +kernel
theorem d_Md_drawn_212 : decode b_Md_drawn 212 = .ok (.ladd, 1) := by decide +kernel
theorem d_Md_drawn_213 : decode b_Md_drawn 213 = .ok (.lstore 7, 2) := by decide +kernel
theorem d_Md_drawn_215 : decode b_Md_drawn 215 = .ok (.iinc 9 (1), 3) := by decide +kernel
theorem d_Md_drawn_218 : decode b_Md_drawn 218 = .ok (.goto (-141), 3) := by decide +kernel
theorem d_Md_drawn_221 : decode b_Md_drawn 221 = .ok (.lload 7, 2) := by decide +kernel
theorem d_Md_drawn_223 : decode b_Md_drawn 223 = .ok (.aload_n 0, 1) := by decide +kernel
theorem d_Md_drawn_224 : decode b_Md_drawn 224 = .ok (.getfield 88, 3) := by decide +kernel
theorem d_Md_drawn_227 : decode b_Md_drawn 227 = .ok (.i2l, 1) := by decide +kernel
theorem d_Md_drawn_228 : decode b_Md_drawn 228 = .ok (.iload_n 3, 1) := by decide +kernel
theorem d_Md_drawn_229 : decode b_Md_drawn 229 = .ok (.i2l, 1) := by decide +kernel
theorem d_Md_drawn_230 : decode b_Md_drawn 230 = .ok (.lmul, 1) := by decide +kernel
theorem d_Md_drawn_231 : decode b_Md_drawn 231 = .ok (.iload 4, 2) := by decide +kernel
theorem d_Md_drawn_233 : decode b_Md_drawn 233 = .ok (.invokestatic 108, 3) := by decide +kernel
theorem d_Md_drawn_236 : decode b_Md_drawn 236 = .ok (.lreturn, 1) := by decide +kernel
theorem d_Md_partial_0 : decode b_Md_partial 0 = .ok (.aload_n 0, 1) := by decide +kernel
theorem d_Md_partial_1 : decode b_Md_partial 1 = .ok (.iconst (0), 1) := by decide +kernel
theorem d_Md_partial_2 : decode b_Md_partial 2 = .ok (.putfield 71, 3) := by decide +kernel
theorem d_Md_partial_5 : decode b_Md_partial 5 = .ok (.aload_n 0, 1) := by decide +kernel
theorem d_Md_partial_6 : decode b_Md_partial 6 = .ok (.iload_n 1, 1) := by decide +kernel
theorem d_Md_partial_7 : decode b_Md_partial 7 = .ok (.invokevirtual 81, 3) := by decide +kernel
theorem d_Md_partial_10 : decode b_Md_partial 10 = .ok (.ifCond .eq (23), 3) := by decide +kernel
theorem d_Md_partial_13 : decode b_Md_partial 13 = .ok (.iload_n 2, 1) := by decide +kernel
theorem d_Md_partial_14 : decode b_Md_partial 14 = .ok (.bipush (-100), 2) := by decide +kernel
theorem d_Md_partial_16 : decode b_Md_partial 16 = .ok (.bipush (100), 2) := by decide +kernel
theorem d_Md_partial_18 : decode b_Md_partial 18 = .ok (.invokestatic 74, 3) := by decide +kernel
theorem d_Md_partial_21 : decode b_Md_partial 21 = .ok (.ifCond .eq (12), 3) := by decide +kernel
theorem d_Md_partial_24 : decode b_Md_partial 24 = .ok (.iload_n 3, 1) := by decide +kernel
theorem d_Md_partial_25 : decode b_Md_partial 25 = .ok (.iconst (0), 1) := by decide +kernel
theorem d_Md_partial_26 : decode b_Md_partial 26 = .ok (.iconst (1), 1) := by decide +kernel
theorem d_Md_partial_27 : decode b_Md_partial 27 = .ok (.invokestatic 74, 3) := by decide +kernel
theorem d_Md_partial_30 : decode b_Md_partial 30 = .ok (.ifCond .ne (7), 3) := by decide +kernel
theorem d_Md_partial_33 : decode b_Md_partial 33 = .ok (.ldc2_w 91, 3) := by decide +kernel
theorem d_Md_partial_36 : decode b_Md_partial 36 = .ok (.lreturn, 1) := by decide +kernel
theorem d_Md_partial_37 : decode b_Md_partial 37 = .ok (.aload_n 0, 1) := by decide +kernel
theorem d_Md_partial_38 : decode b_Md_partial 38 = .ok (.invokevirtual 101, 3) := by decide +kernel
theorem d_Md_partial_41 : decode b_Md_partial 41 = .ok (.ifCond .eq (5), 3) := by decide +kernel
theorem d_Md_partial_44 : decode b_Md_partial 44 = .ok (.lconst 0, 1) := by decide +kernel
theorem d_Md_partial_45 : decode b_Md_partial 45 = .ok (.lreturn, 1) := by decide +kernel
theorem d_Md_partial_46 : decode b_Md_partial 46 = .ok (.lconst 0, 1) := by decide +kernel
theorem d_Md_partial_47 : decode b_Md_partial 47 = .ok (.lstore 4, 2) := by decide +kernel
theorem d_Md_partial_49 : decode b_Md_partial 49 = .ok (.iconst (1), 1) := by decide +kernel
theorem d_Md_partial_50 : decode b_Md_partial 50 = .ok (.istore 6, 2) := by decide +kernel
theorem d_Md_partial_52 : decode b_Md_partial 52 = .ok (.iload 6, 2) := by decide +kernel
theorem d_Md_partial_54 : decode b_Md_partial 54 = .ok (.aload_n 0, 1) := by decide +kernel
theorem d_Md_partial_55 : decode b_Md_partial 55 = .ok (.getfield 88, 3) := by decide +kernel
theorem d_Md_partial_58 : decode b_Md_partial 58 = .ok (.if_icmp .gt (31), 3) := by decide +kernel
theorem d_Md_partial_61 : decode b_Md_partial 61 = .ok (.aload_n 0, 1) := by decide +kernel
theorem d_Md_partial_62 : decode b_Md_partial 62 = .ok (.iload 6, 2) := by decide +kernel
theorem d_Md_partial_64 : decode b_Md_partial 64 = .ok (.invokevirtual 93, 3) := by decide +kernel
theorem d_Md_partial_67 : decode b_Md_partial 67 = .ok (.aload_n 0, 1) := by decide +kernel
theorem d_Md_partial_68 : decode b_Md_partial 68 = .ok (.getfield 41, 3) := by decide +kernel
theorem d_Md_partial_71 : decode b_Md_partial 71 = .ok (.iload_n 1, 1) := by decide +kernel
theorem d_Md_partial_72 : decode b_Md_partial 72 = .ok (.iload_n 2, 1) := by decide +kernel
theorem d_Md_partial_73 : decode b_Md_partial 73 = .ok (.iastore, 1) := by decide +kernel
theorem d_Md_partial_74 : decode b_Md_partial 74 = .ok (.lload 4, 2) := by decide +kernel
theorem d_Md_partial_76 : decode b_Md_partial 76 = .ok (.aload_n 0, 1) := by decide +kernel
theorem d_Md_partial_77 : decode b_Md_partial 77 = .ok (.invokevirtual 97, 3) := by decide +kernel
theorem d_Md_partial_80 : decode b_Md_partial 80 = .ok (.ladd, 1) := by decide +kernel
theorem d_Md_partial_81 : decode b_Md_partial 81 = .ok (.lstore 4, 2) := by decide +kernel
theorem d_Md_partial_83 : decode b_Md_partial 83 = .ok (.iinc 6 (1), 3) := by decide +kernel
theorem d_Md_partial_86 : decode b_Md_partial 86 = .ok (.goto (-34), 3) := by decide +kernel
theorem d_Md_partial_89 : decode b_Md_partial 89 = .ok (.lload 4, 2) := by decide +kernel
theorem d_Md_partial_91 : decode b_Md_partial 91 = .ok (.aload_n 0, 1) := by decide +kernel
theorem d_Md_partial_92 : decode b_Md_partial 92 = .ok (.getfield 88, 3) := by decide +kernel
theorem d_Md_partial_95 : decode b_Md_partial 95 = .ok (.i2l, 1) := by decide +kernel
theorem d_Md_partial_96 : decode b_Md_partial 96 = .ok (.iload_n 3, 1) := by decide +kernel
theorem d_Md_partial_97 : decode b_Md_partial 97 = .ok (.invokestatic 108, 3) := by decide +kernel
theorem d_Md_partial_100 : decode b_Md_partial 100 = .ok (.lreturn, 1) := by decide +kernel
theorem d_Md_worth_0 : decode b_Md_worth 0 = .ok (.aload_n 0, 1) := by decide +kernel
theorem d_Md_worth_1 : decode b_Md_worth 1 = .ok (.iconst (0), 1) := by decide +kernel
theorem d_Md_worth_2 : decode b_Md_worth 2 = .ok (.putfield 71, 3) := by decide +kernel
theorem d_Md_worth_5 : decode b_Md_worth 5 = .ok (.aload_n 0, 1) := by decide +kernel
theorem d_Md_worth_6 : decode b_Md_worth 6 = .ok (.iload_n 1, 1) := by decide +kernel
theorem d_Md_worth_7 : decode b_Md_worth 7 = .ok (.invokevirtual 81, 3) := by decide +kernel
theorem d_Md_worth_10 : decode b_Md_worth 10 = .ok (.ifCond .eq (12), 3) := by decide +kernel
theorem d_Md_worth_13 : decode b_Md_worth 13 = .ok (.iload_n 2, 1) := by decide +kernel
theorem d_Md_worth_14 : decode b_Md_worth 14 = .ok (.iconst (0), 1) := by decide +kernel
theorem d_Md_worth_15 : decode b_Md_worth 15 = .ok (.iconst (1), 1) := by decide +kernel
theorem d_Md_worth_16 : decode b_Md_worth 16 = .ok (.invokestatic 74, 3) := by decide +kernel
theorem d_Md_worth_19 : decode b_Md_worth 19 = .ok (.ifCond .ne (7), 3) := by decide +kernel
theorem d_Md_worth_22 : decode b_Md_worth 22 = .ok (.ldc2_w 91, 3) := by decide +kernel
theorem d_Md_worth_25 : decode b_Md_worth 25 = .ok (.lreturn, 1) := by decide +kernel
theorem d_Md_worth_26 : decode b_Md_worth 26 = .ok (.aload_n 0, 1) := by decide +kernel
theorem d_Md_worth_27 : decode b_Md_worth 27 = .ok (.invokevirtual 101, 3) := by decide +kernel
theorem d_Md_worth_30 : decode b_Md_worth 30 = .ok (.ifCond .eq (5), 3) := by decide +kernel
theorem d_Md_worth_33 : decode b_Md_worth 33 = .ok (.lconst 0, 1) := by decide +kernel
theorem d_Md_worth_34 : decode b_Md_worth 34 = .ok (.lreturn, 1) := by decide +kernel
theorem d_Md_worth_35 : decode b_Md_worth 35 = .ok (.lconst 0, 1) := by decide +kernel
theorem d_Md_worth_36 : decode b_Md_worth 36 = .ok (.lstore_n 3, 1) := by decide +kernel
theorem d_Md_worth_37 : decode b_Md_worth 37 = .ok (.iconst (1), 1) := by decide +kernel
theorem d_Md_worth_38 : decode b_Md_worth 38 = .ok (.istore 5, 2) := by decide +kernel
theorem d_Md_worth_40 : decode b_Md_worth 40 = .ok (.iload 5, 2) := by decide +kernel
theorem d_Md_worth_42 : decode b_Md_worth 42 = .ok (.aload_n 0, 1) := by decide +kernel
theorem d_Md_worth_43 : decode b_Md_worth 43 = .ok (.getfield 88, 3) := by decide +kernel
theorem d_Md_worth_46 : decode b_Md_worth 46 = .ok (.if_icmp .gt (74), 3) := by decide +kernel
theorem d_Md_worth_49 : decode b_Md_worth 49 = .ok (.aload_n 0, 1) := by decide +kernel
theorem d_Md_worth_50 : decode b_Md_worth 50 = .ok (.iload 5, 2) := by decide +kernel
theorem d_Md_worth_52 : decode b_Md_worth 52 = .ok (.invokevirtual 93, 3) := by decide +kernel
theorem d_Md_worth_55 : decode b_Md_worth 55 = .ok (.aload_n 0, 1) := by decide +kernel
theorem d_Md_worth_56 : decode b_Md_worth 56 = .ok (.invokevirtual 97, 3) := by decide +kernel
theorem d_Md_worth_59 : decode b_Md_worth 59 = .ok (.lstore 6, 2) := by decide +kernel
theorem d_Md_worth_61 : decode b_Md_worth 61 = .ok (.iconst (1), 1) := by decide +kernel
theorem d_Md_worth_62 : decode b_Md_worth 62 = .ok (.istore 8, 2) := by decide +kernel
theorem d_Md_worth_64 : decode b_Md_worth 64 = .ok (.iload 8, 2) := by decide +kernel
theorem d_Md_worth_66 : decode b_Md_worth 66 = .ok (.aload_n 0, 1) := by decide +kernel
theorem d_Md_worth_67 : decode b_Md_worth 67 = .ok (.getfield 88, 3) := by decide +kernel
theorem d_Md_worth_70 : decode b_Md_worth 70 = .ok (.if_icmp .gt (44), 3) := by decide +kernel
theorem d_Md_worth_73 : decode b_Md_worth 73 = .ok (.aload_n 0, 1) := by decide +kernel
theorem d_Md_worth_74 : decode b_Md_worth 74 = .ok (.getfield 41, 3) := by decide +kernel
theorem d_Md_worth_77 : decode b_Md_worth 77 = .ok (.iload_n 1, 1) := by decide +kernel
theorem d_Md_worth_78 : decode b_Md_worth 78 = .ok (.aload_n 0, 1) := by decide +kernel
theorem d_Md_worth_79 : decode b_Md_worth 79 = .ok (.getfield 38, 3) := by decide +kernel
theorem d_Md_worth_82 : decode b_Md_worth 82 = .ok (.bipush (6), 2) := by decide +kernel
theorem d_Md_worth_84 : decode b_Md_worth 84 = .ok (.iload 8, 2) := by decide +kernel
theorem d_Md_worth_86 : decode b_Md_worth 86 = .ok (.imul, 1) := by decide +kernel
theorem d_Md_worth_87 : decode b_Md_worth 87 = .ok (.iload_n 1, 1) := by decide +kernel
theorem d_Md_worth_88 : decode b_Md_worth 88 = .ok (.iadd, 1) := by decide +kernel
theorem d_Md_worth_89 : decode b_Md_worth 89 = .ok (.iaload, 1) := by decide +kernel
theorem d_Md_worth_90 : decode b_Md_worth 90 = .ok (.iastore, 1) := by decide +kernel
theorem d_Md_worth_91 : decode b_Md_worth 91 = .ok (.aload_n 0, 1) := by decide +kernel
theorem d_Md_worth_92 : decode b_Md_worth 92 = .ok (.invokevirtual 97, 3) := by decide +kernel
theorem d_Md_worth_95 : decode b_Md_worth 95 = .ok (.lload 6, 2) := by decide +kernel
theorem d_Md_worth_97 : decode b_Md_worth 97 = .ok (.lsub, 1) := by decide +kernel
theorem d_Md_worth_98 : decode b_Md_worth 98 = .ok (.lstore 9, 2) := by decide +kernel
theorem d_Md_worth_100 : decode b_Md_worth 100 = .ok (.lload_n 3, 1) := by decide +kernel
theorem d_Md_worth_101 : decode b_Md_worth 101 = .ok (.lload 9, 2) := by decide +kernel
theorem d_Md_worth_103 : decode b_Md_worth 103 = .ok (.lload 9, 2) := by decide +kernel
theorem d_Md_worth_105 : decode b_Md_worth 105 = .ok (.lmul, 1) := by decide +kernel
theorem d_Md_worth_106 : decode b_Md_worth 106 = .ok (.ladd, 1) := by decide +kernel
theorem d_Md_worth_107 : decode b_Md_worth 107 = .ok (.lstore_n 3, 1) := by decide +kernel
theorem d_Md_worth_108 : decode b_Md_worth 108 = .ok (.iinc 8 (1), 3) := by decide +kernel
theorem d_Md_worth_111 : decode b_Md_worth 111 = .ok (.goto (-47), 3) := by decide +kernel
theorem d_Md_worth_114 : decode b_Md_worth 114 = .ok (.iinc 5 (1), 3) := by decide +kernel
theorem d_Md_worth_117 : decode b_Md_worth 117 = .ok (.goto (-77), 3) := by decide +kernel
theorem d_Md_worth_120 : decode b_Md_worth 120 = .ok (.lload_n 3, 1) := by decide +kernel
theorem d_Md_worth_121 : decode b_Md_worth 121 = .ok (.aload_n 0, 1) := by decide +kernel
theorem d_Md_worth_122 : decode b_Md_worth 122 = .ok (.getfield 88, 3) := by decide +kernel
theorem d_Md_worth_125 : decode b_Md_worth 125 = .ok (.i2l, 1) := by decide +kernel
theorem d_Md_worth_126 : decode b_Md_worth 126 = .ok (.aload_n 0, 1) := by decide +kernel
theorem d_Md_worth_127 : decode b_Md_worth 127 = .ok (.getfield 88, 3) := by decide +kernel
theorem d_Md_worth_130 : decode b_Md_worth 130 = .ok (.i2l, 1) := by decide +kernel
theorem d_Md_worth_131 : decode b_Md_worth 131 = .ok (.lmul, 1) := by decide +kernel
theorem d_Md_worth_132 : decode b_Md_worth 132 = .ok (.iload_n 2, 1) := by decide +kernel
theorem d_Md_worth_133 : decode b_Md_worth 133 = .ok (.invokestatic 108, 3) := by decide +kernel
theorem d_Md_worth_136 : decode b_Md_worth 136 = .ok (.lreturn, 1) := by decide +kernel
theorem d_Md_rank_0 : decode b_Md_rank 0 = .ok (.aload_n 0, 1) := by decide +kernel
theorem d_Md_rank_1 : decode b_Md_rank 1 = .ok (.iconst (0), 1) := by decide +kernel
theorem d_Md_rank_2 : decode b_Md_rank 2 = .ok (.putfield 71, 3) := by decide +kernel
theorem d_Md_rank_5 : decode b_Md_rank 5 = .ok (.aload_n 0, 1) := by decide +kernel
theorem d_Md_rank_6 : decode b_Md_rank 6 = .ok (.iconst (0), 1) := by decide +kernel
theorem d_Md_rank_7 : decode b_Md_rank 7 = .ok (.iconst (0), 1) := by decide +kernel
theorem d_Md_rank_8 : decode b_Md_rank 8 = .ok (.invokevirtual 119, 3) := by decide +kernel
theorem d_Md_rank_11 : decode b_Md_rank 11 = .ok (.iload_n 1, 1) := by decide +kernel
theorem d_Md_rank_12 : decode b_Md_rank 12 = .ok (.iconst (0), 1) := by decide +kernel
theorem d_Md_rank_13 : decode b_Md_rank 13 = .ok (.aload_n 0, 1) := by decide +kernel
theorem d_Md_rank_14 : decode b_Md_rank 14 = .ok (.getfield 112, 3) := by decide +kernel
theorem d_Md_rank_17 : decode b_Md_rank 17 = .ok (.iconst (1), 1) := by decide +kernel
theorem d_Md_rank_18 : decode b_Md_rank 18 = .ok (.isub, 1) := by decide +kernel
theorem d_Md_rank_19 : decode b_Md_rank 19 = .ok (.invokestatic 74, 3) := by decide +kernel
theorem d_Md_rank_22 : decode b_Md_rank 22 = .ok (.ifCond .ne (5), 3) := by decide +kernel
theorem d_Md_rank_25 : decode b_Md_rank 25 = .ok (.iconst (-1), 1) := by decide +kernel
theorem d_Md_rank_26 : decode b_Md_rank 26 = .ok (.ireturn, 1) := by decide +kernel
theorem d_Md_rank_27 : decode b_Md_rank 27 = .ok (.aload_n 0, 1) := by decide +kernel
theorem d_Md_rank_28 : decode b_Md_rank 28 = .ok (.getfield 88, 3) := by decide +kernel
theorem d_Md_rank_31 : decode b_Md_rank 31 = .ok (.ifCond .ne (6), 3) := by decide +kernel
theorem d_Md_rank_34 : decode b_Md_rank 34 = .ok (.bipush (-3), 2) := by decide +kernel
theorem d_Md_rank_36 : decode b_Md_rank 36 = .ok (.ireturn, 1) := by decide +kernel
theorem d_Md_rank_37 : decode b_Md_rank 37 = .ok (.aload_n 0, 1) := by decide +kernel
theorem d_Md_rank_38 : decode b_Md_rank 38 = .ok (.invokevirtual 105, 3) := by decide +kernel
theorem d_Md_rank_41 : decode b_Md_rank 41 = .ok (.aload_n 0, 1) := by decide +kernel
theorem d_Md_rank_42 : decode b_Md_rank 42 = .ok (.invokevirtual 140, 3) := by decide +kernel
theorem d_Md_rank_45 : decode b_Md_rank 45 = .ok (.iconst (-1), 1) := by decide +kernel
theorem d_Md_rank_46 : decode b_Md_rank 46 = .ok (.istore_n 2, 1) := by decide +kernel
theorem d_Md_rank_47 : decode b_Md_rank 47 = .ok (.iconst (0), 1) := by decide +kernel
theorem d_Md_rank_48 : decode b_Md_rank 48 = .ok (.istore_n 3, 1) := by decide +kernel
theorem d_Md_rank_49 : decode b_Md_rank 49 = .ok (.iload_n 3, 1) := by decide +kernel
theorem d_Md_rank_50 : decode b_Md_rank 50 = .ok (.aload_n 0, 1) := by decide +kernel
theorem d_Md_rank_51 : decode b_Md_rank 51 = .ok (.getfield 63, 3) := by decide +kernel
theorem d_Md_rank_54 : decode b_Md_rank 54 = .ok (.if_icmp .ge (135), 3) := by decide +kernel
theorem d_Md_rank_57 : decode b_Md_rank 57 = .ok (.iconst (0), 1) := by decide +kernel
theorem d_Md_rank_58 : decode b_Md_rank 58 = .ok (.istore 4, 2) := by decide +kernel
theorem d_Md_rank_60 : decode b_Md_rank 60 = .ok (.iconst (0), 1) := by decide +kernel
theorem d_Md_rank_61 : decode b_Md_rank 61 = .ok (.istore 5, 2) := by decide +kernel
theorem d_Md_rank_63 : decode b_Md_rank 63 = .ok (.iload 5, 2) := by decide +kernel
theorem d_Md_rank_65 : decode b_Md_rank 65 = .ok (.aload_n 0, 1) := by decide +kernel
theorem d_Md_rank_66 : decode b_Md_rank 66 = .ok (.getfield 63, 3) := by decide +kernel
theorem d_Md_rank_69 : decode b_Md_rank 69 = .ok (.if_icmp .ge (94), 3) := by decide +kernel
theorem d_Md_rank_72 : decode b_Md_rank 72 = .ok (.aload_n 0, 1) := by decide +kernel
theorem d_Md_rank_73 : decode b_Md_rank 73 = .ok (.iload_n 3, 1) := by decide +kernel
theorem d_Md_rank_74 : decode b_Md_rank 74 = .ok (.invokevirtual 115, 3) := by decide +kernel
theorem d_Md_rank_77 : decode b_Md_rank 77 = .ok (.ifCond .eq (86), 3) := by decide +kernel
theorem d_Md_rank_80 : decode b_Md_rank 80 = .ok (.iload 5, 2) := by decide +kernel
theorem d_Md_rank_82 : decode b_Md_rank 82 = .ok (.iload_n 3, 1) := by decide +kernel
theorem d_Md_rank_83 : decode b_Md_rank 83 = .ok (.if_icmp .eq (16), 3) := by decide +kernel
theorem d_Md_rank_86 : decode b_Md_rank 86 = .ok (.aload_n 0, 1) := by decide +kernel
theorem d_Md_rank_87 : decode b_Md_rank 87 = .ok (.iload 5, 2) := by decide +kernel
theorem d_Md_rank_89 : decode b_Md_rank 89 = .ok (.invokevirtual 115, 3) := by decide +kernel
theorem d_Md_rank_92 : decode b_Md_rank 92 = .ok (.ifCond .eq (7), 3) := by decide +kernel
theorem d_Md_rank_95 : decode b_Md_rank 95 = .ok (.iconst (1), 1) := by decide +kernel
theorem d_Md_rank_96 : decode b_Md_rank 96 = .ok (.goto (4), 3) := by decide +kernel
theorem d_Md_rank_99 : decode b_Md_rank 99 = .ok (.iconst (0), 1) := by decide +kernel
theorem d_Md_rank_100 : decode b_Md_rank 100 = .ok (.istore 6, 2) := by decide +kernel
theorem d_Md_rank_102 : decode b_Md_rank 102 = .ok (.iload 4, 2) := by decide +kernel
theorem d_Md_rank_104 : decode b_Md_rank 104 = .ok (.iload 6, 2) := by decide +kernel
theorem d_Md_rank_106 : decode b_Md_rank 106 = .ok (.ifCond .eq (47), 3) := by decide +kernel
theorem d_Md_rank_109 : decode b_Md_rank 109 = .ok (.aload_n 0, 1) := by decide +kernel
theorem d_Md_rank_110 : decode b_Md_rank 110 = .ok (.getfield 54, 3) := by decide +kernel
theorem d_Md_rank_113 : decode b_Md_rank 113 = .ok (.iload 5, 2) := by decide +kernel
theorem d_Md_rank_115 : decode b_Md_rank 115 = .ok (.laload, 1) := by decide +kernel
theorem d_Md_rank_116 : decode b_Md_rank 116 = .ok (.aload_n 0, 1) := by decide +kernel
theorem d_Md_rank_117 : decode b_Md_rank 117 = .ok (.getfield 54, 3) := by decide +kernel
theorem d_Md_rank_120 : decode b_Md_rank 120 = .ok (.iload_n 3, 1) := by decide +kernel
theorem d_Md_rank_121 : decode b_Md_rank 121 = .ok (.laload, 1) := by decide +kernel
theorem d_Md_rank_122 : decode b_Md_rank 122 = .ok (.lcmp, 1) := by decide +kernel
theorem d_Md_rank_123 : decode b_Md_rank 123 = .ok (.ifCond .gt (26), 3) := by decide +kernel
theorem d_Md_rank_126 : decode b_Md_rank 126 = .ok (.aload_n 0, 1) := by decide +kernel
theorem d_Md_rank_127 : decode b_Md_rank 127 = .ok (.getfield 54, 3) := by decide +kernel
theorem d_Md_rank_130 : decode b_Md_rank 130 = .ok (.iload 5, 2) := by decide +kernel
theorem d_Md_rank_132 : decode b_Md_rank 132 = .ok (.laload, 1) := by decide +kernel
theorem d_Md_rank_133 : decode b_Md_rank 133 = .ok (.aload_n 0, 1) := by decide +kernel
theorem d_Md_rank_134 : decode b_Md_rank 134 = .ok (.getfield 54, 3) := by decide +kernel
theorem d_Md_rank_137 : decode b_Md_rank 137 = .ok (.iload_n 3, 1) := by decide +kernel
theorem d_Md_rank_138 : decode b_Md_rank 138 = .ok (.laload, 1) := by decide +kernel
theorem d_Md_rank_139 : decode b_Md_rank 139 = .ok (.lcmp, 1) := by decide +kernel
theorem d_Md_rank_140 : decode b_Md_rank 140 = .ok (.ifCond .ne (13), 3) := by decide +kernel
theorem d_Md_rank_143 : decode b_Md_rank 143 = .ok (.iload 5, 2) := by decide +kernel
theorem d_Md_rank_145 : decode b_Md_rank 145 = .ok (.iload_n 3, 1) := by decide +kernel
theorem d_Md_rank_146 : decode b_Md_rank 146 = .ok (.if_icmp .ge (7), 3) := by decide +kernel
theorem d_Md_rank_149 : decode b_Md_rank 149 = .ok (.iconst (1), 1) := by decide +kernel
theorem d_Md_rank_150 : decode b_Md_rank 150 = .ok (.goto (4), 3) := by decide +kernel
theorem d_Md_rank_153 : decode b_Md_rank 153 = .ok (.iconst (0), 1) := by decide +kernel
theorem d_Md_rank_154 : decode b_Md_rank 154 = .ok (.iadd, 1) := by decide +kernel
theorem d_Md_rank_155 : decode b_Md_rank 155 = .ok (.istore 4, 2) := by decide +kernel
theorem d_Md_rank_157 : decode b_Md_rank 157 = .ok (.iinc 5 (1), 3) := by decide +kernel
theorem d_Md_rank_160 : decode b_Md_rank 160 = .ok (.goto (-97), 3) := by decide +kernel
theorem d_Md_rank_163 : decode b_Md_rank 163 = .ok (.aload_n 0, 1) := by decide +kernel
theorem d_Md_rank_164 : decode b_Md_rank 164 = .ok (.iload_n 3, 1) := by decide +kernel
theorem d_Md_rank_165 : decode b_Md_rank 165 = .ok (.invokevirtual 115, 3) := by decide +kernel
theorem d_Md_rank_168 : decode b_Md_rank 168 = .ok (.ifCond .eq (13), 3) := by decide +kernel
theorem d_Md_rank_171 : decode b_Md_rank 171 = .ok (.iload 4, 2) := by decide +kernel
theorem d_Md_rank_173 : decode b_Md_rank 173 = .ok (.iload_n 1, 1) := by decide +kernel
theorem d_Md_rank_174 : decode b_Md_rank 174 = .ok (.if_icmp .ne (7), 3) := by decide +kernel
theorem d_Md_rank_177 : decode b_Md_rank 177 = .ok (.iload_n 3, 1) := by decide +kernel
theorem d_Md_rank_178 : decode b_Md_rank 178 = .ok (.goto (4), 3) := by decide +kernel
theorem d_Md_rank_181 : decode b_Md_rank 181 = .ok (.iload_n 2, 1) := by decide +kernel
theorem d_Md_rank_182 : decode b_Md_rank 182 = .ok (.istore_n 2, 1) := by decide +kernel
theorem d_Md_rank_183 : decode b_Md_rank 183 = .ok (.iinc 3 (1), 3) := by decide +kernel
theorem d_Md_rank_186 : decode b_Md_rank 186 = .ok (.goto (-137), 3) := by decide +kernel
theorem d_Md_rank_189 : decode b_Md_rank 189 = .ok (.iload_n 2, 1) := by decide +kernel
theorem d_Md_rank_190 : decode b_Md_rank 190 = .ok (.ireturn, 1) := by decide +kernel
theorem d_Md_findSizes_0 : decode b_Md_findSizes 0 = .ok (.iconst (0), 1) := by decide +kernel
theorem d_Md_findSizes_1 : decode b_Md_findSizes 1 = .ok (.istore_n 1, 1) := by decide +kernel
theorem d_Md_findSizes_2 : decode b_Md_findSizes 2 = .ok (.iload_n 1, 1) := by decide +kernel
theorem d_Md_findSizes_3 : decode b_Md_findSizes 3 = .ok (.aload_n 0, 1) := by decide +kernel
theorem d_Md_findSizes_4 : decode b_Md_findSizes 4 = .ok (.getfield 63, 3) := by decide +kernel
theorem d_Md_findSizes_7 : decode b_Md_findSizes 7 = .ok (.if_icmp .ge (49), 3) := by decide +kernel
theorem d_Md_findSizes_10 : decode b_Md_findSizes 10 = .ok (.aload_n 0, 1) := by decide +kernel
theorem d_Md_findSizes_11 : decode b_Md_findSizes 11 = .ok (.iload_n 1, 1) := by decide +kernel
theorem d_Md_findSizes_12 : decode b_Md_findSizes 12 = .ok (.invokevirtual 115, 3) := by decide +kernel
theorem d_Md_findSizes_15 : decode b_Md_findSizes 15 = .ok (.ifCond .ne (7), 3) := by decide +kernel
theorem d_Md_findSizes_18 : decode b_Md_findSizes 18 = .ok (.lconst 0, 1) := by decide +kernel
theorem d_Md_findSizes_19 : decode b_Md_findSizes 19 = .ok (.goto (12), 3) := by decide +kernel
theorem d_Md_findSizes_22 : decode b_Md_findSizes 22 = .ok (.aload_n 0, 1) := by decide +kernel
theorem d_Md_findSizes_23 : decode b_Md_findSizes 23 = .ok (.aload_n 0, 1) := by decide +kernel
theorem d_Md_findSizes_24 : decode b_Md_findSizes 24 = .ok (.iload_n 1, 1) := by decide +kernel
theorem d_Md_findSizes_25 : decode b_Md_findSizes 25 = .ok (.invokevirtual 115, 3) := by decide +kernel
theorem d_Md_findSizes_28 : decode b_Md_findSizes 28 = .ok (.invokevirtual 132, 3) := by decide +kernel
theorem d_Md_findSizes_31 : decode b_Md_findSizes 31 = .ok (.lstore_n 2, 1) := by decide +kernel
theorem d_Md_findSizes_32 : decode b_Md_findSizes 32 = .ok (.aload_n 0, 1) := by decide +kernel
theorem d_Md_findSizes_33 : decode b_Md_findSizes 33 = .ok (.getfield 54, 3) := by decide +kernel
theorem d_Md_findSizes_36 : decode b_Md_findSizes 36 = .ok (.iload_n 1, 1) := by decide +kernel
theorem d_Md_findSizes_37 : decode b_Md_findSizes 37 = .ok (.lload_n 2, 1) := by decide +kernel
theorem d_Md_findSizes_38 : decode b_Md_findSizes 38 = .ok (.lconst 0, 1) := by decide +kernel
theorem d_Md_findSizes_39 : decode b_Md_findSizes 39 = .ok (.lcmp, 1) := by decide +kernel
theorem d_Md_findSizes_40 : decode b_Md_findSizes 40 = .ok (.ifCond .ge (8), 3) := by decide +kernel
theorem d_Md_findSizes_43 : decode b_Md_findSizes 43 = .ok (.lload_n 2, 1) := by decide +kernel
theorem d_Md_findSizes_44 : decode b_Md_findSizes 44 = .ok (.lneg, 1) := by decide +kernel
theorem d_Md_findSizes_45 : decode b_Md_findSizes 45 = .ok (.goto (4), 3) := by decide +kernel
theorem d_Md_findSizes_48 : decode b_Md_findSizes 48 = .ok (.lload_n 2, 1) := by decide +kernel
theorem d_Md_findSizes_49 : decode b_Md_findSizes 49 = .ok (.lastore, 1) := by decide +kernel
theorem d_Md_findSizes_50 : decode b_Md_findSizes 50 = .ok (.iinc 1 (1), 3) := by decide +kernel
theorem d_Md_findSizes_53 : decode b_Md_findSizes 53 = .ok (.goto (-51), 3) := by decide +kernel
theorem d_Md_findSizes_56 : decode b_Md_findSizes 56 = .ok (.return_, 1) := by decide +kernel
theorem d_Md_bar_0 : decode b_Md_bar 0 = .ok (.aload_n 0, 1) := by decide +kernel
theorem d_Md_bar_1 : decode b_Md_bar 1 = .ok (.iconst (0), 1) := by decide +kernel
theorem d_Md_bar_2 : decode b_Md_bar 2 = .ok (.putfield 71, 3) := by decide +kernel
theorem d_Md_bar_5 : decode b_Md_bar 5 = .ok (.aload_n 0, 1) := by decide +kernel
theorem d_Md_bar_6 : decode b_Md_bar 6 = .ok (.iload_n 1, 1) := by decide +kernel
theorem d_Md_bar_7 : decode b_Md_bar 7 = .ok (.invokevirtual 81, 3) := by decide +kernel
theorem d_Md_bar_10 : decode b_Md_bar 10 = .ok (.ifCond .ne (5), 3) := by decide +kernel
theorem d_Md_bar_13 : decode b_Md_bar 13 = .ok (.iconst (-1), 1) := by decide +kernel
theorem d_Md_bar_14 : decode b_Md_bar 14 = .ok (.ireturn, 1) := by decide +kernel
theorem d_Md_bar_15 : decode b_Md_bar 15 = .ok (.aload_n 0, 1) := by decide +kernel
theorem d_Md_bar_16 : decode b_Md_bar 16 = .ok (.getfield 35, 3) := by decide +kernel
theorem d_Md_bar_19 : decode b_Md_bar 19 = .ok (.iload_n 1, 1) := by decide +kernel
theorem d_Md_bar_20 : decode b_Md_bar 20 = .ok (.baload, 1) := by decide +kernel
theorem d_Md_bar_21 : decode b_Md_bar 21 = .ok (.ifCond .eq (7), 3) := by decide +kernel
theorem d_Md_bar_24 : decode b_Md_bar 24 = .ok (.iconst (1), 1) := by decide +kernel
theorem d_Md_bar_25 : decode b_Md_bar 25 = .ok (.goto (4), 3) := by decide +kernel
theorem d_Md_bar_28 : decode b_Md_bar 28 = .ok (.iconst (0), 1) := by decide +kernel
theorem d_Md_bar_29 : decode b_Md_bar 29 = .ok (.istore_n 3, 1) := by decide +kernel
theorem d_Md_bar_30 : decode b_Md_bar 30 = .ok (.aload_n 0, 1) := by decide +kernel
theorem d_Md_bar_31 : decode b_Md_bar 31 = .ok (.getfield 35, 3) := by decide +kernel
theorem d_Md_bar_34 : decode b_Md_bar 34 = .ok (.iload_n 1, 1) := by decide +kernel
theorem d_Md_bar_35 : decode b_Md_bar 35 = .ok (.iload_n 2, 1) := by decide +kernel
theorem d_Md_bar_36 : decode b_Md_bar 36 = .ok (.bastore, 1) := by decide +kernel
theorem d_Md_bar_37 : decode b_Md_bar 37 = .ok (.iload_n 3, 1) := by decide +kernel
theorem d_Md_bar_38 : decode b_Md_bar 38 = .ok (.ireturn, 1) := by decide +kernel
theorem d_Md_nearest_0 : decode b_Md_nearest 0 = .ok (.aload_n 0, 1) := by decide +kernel
theorem d_Md_nearest_1 : decode b_Md_nearest 1 = .ok (.iconst (0), 1) := by decide +kernel
theorem d_Md_nearest_2 : decode b_Md_nearest 2 = .ok (.putfield 71, 3) := by decide +kernel
theorem d_Md_nearest_5 : decode b_Md_nearest 5 = .ok (.aload_n 0, 1) := by decide +kernel
theorem d_Md_nearest_6 : decode b_Md_nearest 6 = .ok (.iload_n 1, 1) := by decide +kernel
theorem d_Md_nearest_7 : decode b_Md_nearest 7 = .ok (.invokevirtual 156, 3) := by decide +kernel
theorem d_Md_nearest_10 : decode b_Md_nearest 10 = .ok (.ifCond .eq (10), 3) := by decide +kernel
theorem d_Md_nearest_13 : decode b_Md_nearest 13 = .ok (.aload_n 0, 1) := by decide +kernel
theorem d_Md_nearest_14 : decode b_Md_nearest 14 = .ok (.getfield 143, 3) := by decide +kernel
theorem d_Md_nearest_17 : decode b_Md_nearest 17 = .ok (.goto (5), 3) := by decide +kernel
theorem d_Md_nearest_20 : decode b_Md_nearest 20 = .ok (.bipush (-3), 2) := by decide +kernel
theorem d_Md_nearest_22 : decode b_Md_nearest 22 = .ok (.ireturn, 1) := by decide +kernel
theorem d_Md_findNearest_0 : decode b_Md_findNearest 0 = .ok (.iconst (0), 1) := by decide +kernel
theorem d_Md_findNearest_1 : decode b_Md_findNearest 1 = .ok (.istore_n 2, 1) := by decide +kernel
theorem d_Md_findNearest_2 : decode b_Md_findNearest 2 = .ok (.iload_n 2, 1) := by decide +kernel
theorem d_Md_findNearest_3 : decode b_Md_findNearest 3 = .ok (.aload_n 0, 1) := by decide +kernel
theorem d_Md_findNearest_4 : decode b_Md_findNearest 4 = .ok (.getfield 63, 3) := by decide +kernel
theorem d_Md_findNearest_7 : decode b_Md_findNearest 7 = .ok (.if_icmp .ge (16), 3) := by decide +kernel
theorem d_Md_findNearest_10 : decode b_Md_findNearest 10 = .ok (.aload_n 0, 1) := by decide +kernel
theorem d_Md_findNearest_11 : decode b_Md_findNearest 11 = .ok (.getfield 57, 3) := by decide +kernel
theorem d_Md_findNearest_14 : decode b_Md_findNearest 14 = .ok (.iload_n 2, 1) := by decide +kernel
theorem d_Md_findNearest_15 : decode b_Md_findNearest 15 = .ok (.iconst (0), 1) := by decide +kernel
theorem d_Md_findNearest_16 : decode b_Md_findNearest 16 = .ok (.iastore, 1) := by decide +kernel
theorem d_Md_findNearest_17 : decode b_Md_findNearest 17 = .ok (.iinc 2 (1), 3) := by decide +kernel
theorem d_Md_findNearest_20 : decode b_Md_findNearest 20 = .ok (.goto (-18), 3) := by decide +kernel
theorem d_Md_findNearest_23 : decode b_Md_findNearest 23 = .ok (.iconst (0), 1) := by decide +kernel
theorem d_Md_findNearest_24 : decode b_Md_findNearest 24 = .ok (.istore_n 2, 1) := by decide +kernel
theorem d_Md_findNearest_25 : decode b_Md_findNearest 25 = .ok (.iconst (0), 1) := by decide +kernel
theorem d_Md_findNearest_26 : decode b_Md_findNearest 26 = .ok (.istore_n 3, 1) := by decide +kernel
theorem d_Md_findNearest_27 : decode b_Md_findNearest 27 = .ok (.iload_n 3, 1) := by decide +kernel
theorem d_Md_findNearest_28 : decode b_Md_findNearest 28 = .ok (.aload_n 0, 1) := by decide +kernel
theorem d_Md_findNearest_29 : decode b_Md_findNearest 29 = .ok (.getfield 63, 3) := by decide +kernel
theorem d_Md_findNearest_32 : decode b_Md_findNearest 32 = .ok (.if_icmp .ge (128), 3) := by decide +kernel
theorem d_Md_findNearest_35 : decode b_Md_findNearest 35 = .ok (.iconst (0), 1) := by decide +kernel
theorem d_Md_findNearest_36 : decode b_Md_findNearest 36 = .ok (.istore 4, 2) := by decide +kernel
theorem d_Md_findNearest_38 : decode b_Md_findNearest 38 = .ok (.iload 4, 2) := by decide +kernel
theorem d_Md_findNearest_40 : decode b_Md_findNearest 40 = .ok (.aload_n 0, 1) := by decide +kernel
theorem d_Md_findNearest_41 : decode b_Md_findNearest 41 = .ok (.getfield 63, 3) := by decide +kernel
theorem d_Md_findNearest_44 : decode b_Md_findNearest 44 = .ok (.if_icmp .ge (34), 3) := by decide +kernel
theorem d_Md_findNearest_47 : decode b_Md_findNearest 47 = .ok (.aload_n 0, 1) := by decide +kernel
theorem d_Md_findNearest_48 : decode b_Md_findNearest 48 = .ok (.getfield 41, 3) := by decide +kernel
theorem d_Md_findNearest_51 : decode b_Md_findNearest 51 = .ok (.iload 4, 2) := by decide +kernel
theorem d_Md_findNearest_53 : decode b_Md_findNearest 53 = .ok (.aload_n 0, 1) := by decide +kernel
theorem d_Md_findNearest_54 : decode b_Md_findNearest 54 = .ok (.getfield 38, 3) := by decide +kernel
theorem d_Md_findNearest_57 : decode b_Md_findNearest 57 = .ok (.bipush (6), 2) := by decide +kernel
theorem d_Md_findNearest_59 : decode b_Md_findNearest 59 = .ok (.aload_n 0, 1) := by decide +kernel
theorem d_Md_findNearest_60 : decode b_Md_findNearest 60 = .ok (.getfield 57, 3) := by decide +kernel
theorem d_Md_findNearest_63 : decode b_Md_findNearest 63 = .ok (.iload 4, 2) := by decide +kernel
theorem d_Md_findNearest_65 : decode b_Md_findNearest 65 = .ok (.iaload, 1) := by decide +kernel
theorem d_Md_findNearest_66 : decode b_Md_findNearest 66 = .ok (.imul, 1) := by decide +kernel
theorem d_Md_findNearest_67 : decode b_Md_findNearest 67 = .ok (.iload 4, 2) := by decide +kernel
theorem d_Md_findNearest_69 : decode b_Md_findNearest 69 = .ok (.iadd, 1) := by decide +kernel
theorem d_Md_findNearest_70 : decode b_Md_findNearest 70 = .ok (.iaload, 1) := by decide +kernel
theorem d_Md_findNearest_71 : decode b_Md_findNearest 71 = .ok (.iastore, 1) := by decide +kernel
theorem d_Md_findNearest_72 : decode b_Md_findNearest 72 = .ok (.iinc 4 (1), 3) := by decide +kernel
theorem d_Md_findNearest_75 : decode b_Md_findNearest 75 = .ok (.goto (-37), 3) := by decide +kernel
theorem d_Md_findNearest_78 : decode b_Md_findNearest 78 = .ok (.aload_n 0, 1) := by decide +kernel
theorem d_Md_findNearest_79 : decode b_Md_findNearest 79 = .ok (.invokevirtual 97, 3) := by decide +kernel
theorem d_Md_findNearest_82 : decode b_Md_findNearest 82 = .ok (.iload_n 1, 1) := by decide +kernel
theorem d_Md_findNearest_83 : decode b_Md_findNearest 83 = .ok (.i2l, 1) := by decide +kernel
theorem d_Md_findNearest_84 : decode b_Md_findNearest 84 = .ok (.lcmp, 1) := by decide +kernel
theorem d_Md_findNearest_85 : decode b_Md_findNearest 85 = .ok (.ifCond .lt (18), 3) := by decide +kernel
theorem d_Md_findNearest_88 : decode b_Md_findNearest 88 = .ok (.aload_n 0, 1) := by decide +kernel
theorem d_Md_findNearest_89 : decode b_Md_findNearest 89 = .ok (.iload_n 2, 1) := by decide +kernel
theorem d_Md_findNearest_90 : decode b_Md_findNearest 90 = .ok (.ifCond .ne (7), 3) := by decide +kernel
theorem d_Md_findNearest_93 : decode b_Md_findNearest 93 = .ok (.iconst (1), 1) := by decide +kernel
theorem d_Md_findNearest_94 : decode b_Md_findNearest 94 = .ok (.goto (4), 3) := by decide +kernel
theorem d_Md_findNearest_97 : decode b_Md_findNearest 97 = .ok (.iconst (0), 1) := by decide +kernel
theorem d_Md_findNearest_98 : decode b_Md_findNearest 98 = .ok (.invokevirtual 149, 3) := by decide +kernel
theorem d_Md_findNearest_101 : decode b_Md_findNearest 101 = .ok (.iconst (1), 1) := by decide +kernel
theorem d_Md_findNearest_102 : decode b_Md_findNearest 102 = .ok (.istore_n 2, 1) := by decide +kernel
theorem d_Md_findNearest_103 : decode b_Md_findNearest 103 = .ok (.iconst (0), 1) := by decide +kernel
theorem d_Md_findNearest_104 : decode b_Md_findNearest 104 = .ok (.istore_n 3, 1) := by decide +kernel
theorem d_Md_findNearest_105 : decode b_Md_findNearest 105 = .ok (.iload_n 3, 1) := by decide +kernel
theorem d_Md_findNearest_106 : decode b_Md_findNearest 106 = .ok (.aload_n 0, 1) := by decide +kernel
theorem d_Md_findNearest_107 : decode b_Md_findNearest 107 = .ok (.getfield 63, 3) := by decide +kernel
theorem d_Md_findNearest_110 : decode b_Md_findNearest 110 = .ok (.if_icmp .ge (28), 3) := by decide +kernel
theorem d_Md_findNearest_113 : decode b_Md_findNearest 113 = .ok (.aload_n 0, 1) := by decide +kernel
theorem d_Md_findNearest_114 : decode b_Md_findNearest 114 = .ok (.iload_n 3, 1) := by decide +kernel
theorem d_Md_findNearest_115 : decode b_Md_findNearest 115 = .ok (.invokevirtual 153, 3) := by decide +kernel
theorem d_Md_findNearest_118 : decode b_Md_findNearest 118 = .ok (.aload_n 0, 1) := by decide +kernel
theorem d_Md_findNearest_119 : decode b_Md_findNearest 119 = .ok (.getfield 88, 3) := by decide +kernel
theorem d_Md_findNearest_122 : decode b_Md_findNearest 122 = .ok (.if_icmp .le (16), 3) := by decide +kernel
theorem d_Md_findNearest_125 : decode b_Md_findNearest 125 = .ok (.aload_n 0, 1) := by decide +kernel
theorem d_Md_findNearest_126 : decode b_Md_findNearest 126 = .ok (.getfield 57, 3) := by decide +kernel
theorem d_Md_findNearest_129 : decode b_Md_findNearest 129 = .ok (.iload_n 3, 1) := by decide +kernel
theorem d_Md_findNearest_130 : decode b_Md_findNearest 130 = .ok (.iconst (0), 1) := by decide +kernel
theorem d_Md_findNearest_131 : decode b_Md_findNearest 131 = .ok (.iastore, 1) := by decide +kernel
theorem d_Md_findNearest_132 : decode b_Md_findNearest 132 = .ok (.iinc 3 (1), 3) := by decide +kernel
theorem d_Md_findNearest_135 : decode b_Md_findNearest 135 = .ok (.goto (-30), 3) := by decide +kernel
theorem d_Md_findNearest_138 : decode b_Md_findNearest 138 = .ok (.iload_n 3, 1) := by decide +kernel
theorem d_Md_findNearest_139 : decode b_Md_findNearest 139 = .ok (.aload_n 0, 1) := by decide +kernel
theorem d_Md_findNearest_140 : decode b_Md_findNearest 140 = .ok (.getfield 63, 3) := by decide +kernel
theorem d_Md_findNearest_143 : decode b_Md_findNearest 143 = .ok (.if_icmp .ge (-116), 3) := by decide +kernel
theorem d_Md_findNearest_146 : decode b_Md_findNearest 146 = .ok (.aload_n 0, 1) := by decide +kernel
theorem d_Md_findNearest_147 : decode b_Md_findNearest 147 = .ok (.getfield 57, 3) := by decide +kernel
theorem d_Md_findNearest_150 : decode b_Md_findNearest 150 = .ok (.iload_n 3, 1) := by decide +kernel
theorem d_Md_findNearest_151 : decode b_Md_findNearest 151 = .ok (.aload_n 0, 1) := by decide +kernel
theorem d_Md_findNearest_152 : decode b_Md_findNearest 152 = .ok (.iload_n 3, 1) := by decide +kernel
theorem d_Md_findNearest_153 : decode b_Md_findNearest 153 = .ok (.invokevirtual 153, 3) := by decide +kernel
theorem d_Md_findNearest_156 : decode b_Md_findNearest 156 = .ok (.iastore, 1) := by decide +kernel
theorem d_Md_findNearest_157 : decode b_Md_findNearest 157 = .ok (.goto (-130), 3) := by decide +kernel
theorem d_Md_findNearest_160 : decode b_Md_findNearest 160 = .ok (.iload_n 2, 1) := by decide +kernel
theorem d_Md_findNearest_161 : decode b_Md_findNearest 161 = .ok (.ireturn, 1) := by decide +kernel
theorem d_Md_hold_0 : decode b_Md_hold 0 = .ok (.iconst (0), 1) := by decide +kernel
theorem d_Md_hold_1 : decode b_Md_hold 1 = .ok (.istore_n 2, 1) := by decide +kernel
theorem d_Md_hold_2 : decode b_Md_hold 2 = .ok (.iconst (0), 1) := by decide +kernel
theorem d_Md_hold_3 : decode b_Md_hold 3 = .ok (.istore_n 3, 1) := by decide +kernel
theorem d_Md_hold_4 : decode b_Md_hold 4 = .ok (.iconst (0), 1) := by decide +kernel
theorem d_Md_hold_5 : decode b_Md_hold 5 = .ok (.istore 4, 2) := by decide +kernel
theorem d_Md_hold_7 : decode b_Md_hold 7 = .ok (.iconst (0), 1) := by decide +kernel
theorem d_Md_hold_8 : decode b_Md_hold 8 = .ok (.istore 5, 2) := by decide +kernel
theorem d_Md_hold_10 : decode b_Md_hold 10 = .ok (.iload 5, 2) := by decide +kernel
theorem d_Md_hold_12 : decode b_Md_hold 12 = .ok (.aload_n 0, 1) := by decide +kernel
theorem d_Md_hold_13 : decode b_Md_hold 13 = .ok (.getfield 63, 3) := by decide +kernel
theorem d_Md_hold_16 : decode b_Md_hold 16 = .ok (.if_icmp .ge (82), 3) := by decide +kernel
theorem d_Md_hold_19 : decode b_Md_hold 19 = .ok (.aload_n 0, 1) := by decide +kernel
theorem d_Md_hold_20 : decode b_Md_hold 20 = .ok (.getfield 41, 3) := by decide +kernel
theorem d_Md_hold_23 : decode b_Md_hold 23 = .ok (.iload 5, 2) := by decide +kernel
theorem d_Md_hold_25 : decode b_Md_hold 25 = .ok (.iaload, 1) := by decide +kernel
theorem d_Md_hold_26 : decode b_Md_hold 26 = .ok (.aload_n 0, 1) := by decide +kernel
theorem d_Md_hold_27 : decode b_Md_hold 27 = .ok (.getfield 38, 3) := by decide +kernel
theorem d_Md_hold_30 : decode b_Md_hold 30 = .ok (.iload 5, 2) := by decide +kernel
theorem d_Md_hold_32 : decode b_Md_hold 32 = .ok (.iaload, 1) := by decide +kernel
theorem d_Md_hold_33 : decode b_Md_hold 33 = .ok (.isub, 1) := by decide +kernel
theorem d_Md_hold_34 : decode b_Md_hold 34 = .ok (.istore 6, 2) := by decide +kernel
theorem d_Md_hold_36 : decode b_Md_hold 36 = .ok (.iload_n 2, 1) := by decide +kernel
theorem d_Md_hold_37 : decode b_Md_hold 37 = .ok (.iload 6, 2) := by decide +kernel
theorem d_Md_hold_39 : decode b_Md_hold 39 = .ok (.ifCond .eq (7), 3) := by decide +kernel
theorem d_Md_hold_42 : decode b_Md_hold 42 = .ok (.iconst (1), 1) := by decide +kernel
theorem d_Md_hold_43 : decode b_Md_hold 43 = .ok (.goto (4), 3) := by decide +kernel
theorem d_Md_hold_46 : decode b_Md_hold 46 = .ok (.iconst (0), 1) := by decide +kernel
theorem d_Md_hold_47 : decode b_Md_hold 47 = .ok (.iadd, 1) := by decide +kernel
theorem d_Md_hold_48 : decode b_Md_hold 48 = .ok (.istore_n 2, 1) := by decide +kernel
theorem d_Md_hold_49 : decode b_Md_hold 49 = .ok (.iload_n 3, 1) := by decide +kernel
theorem d_Md_hold_50 : decode b_Md_hold 50 = .ok (.iload 6, 2) := by decide +kernel
theorem d_Md_hold_52 : decode b_Md_hold 52 = .ok (.ifCond .ge (9), 3) := by decide +kernel
theorem d_Md_hold_55 : decode b_Md_hold 55 = .ok (.iload 6, 2) := by decide +kernel
theorem d_Md_hold_57 : decode b_Md_hold 57 = .ok (.ineg, 1) := by decide +kernel
theorem d_Md_hold_58 : decode b_Md_hold 58 = .ok (.goto (5), 3) := by decide +kernel
theorem d_Md_hold_61 : decode b_Md_hold 61 = .ok (.iload 6, 2) := by decide +kernel
theorem d_Md_hold_63 : decode b_Md_hold 63 = .ok (.iadd, 1) := by decide +kernel
theorem d_Md_hold_64 : decode b_Md_hold 64 = .ok (.istore_n 3, 1) := by decide +kernel
theorem d_Md_hold_65 : decode b_Md_hold 65 = .ok (.iload 4, 2) := by decide +kernel
theorem d_Md_hold_67 : decode b_Md_hold 67 = .ok (.ifCond .ne (21), 3) := by decide +kernel
theorem d_Md_hold_70 : decode b_Md_hold 70 = .ok (.aload_n 0, 1) := by decide +kernel
theorem d_Md_hold_71 : decode b_Md_hold 71 = .ok (.getfield 41, 3) := by decide +kernel
theorem d_Md_hold_74 : decode b_Md_hold 74 = .ok (.iload 5, 2) := by decide +kernel
theorem d_Md_hold_76 : decode b_Md_hold 76 = .ok (.iaload, 1) := by decide +kernel
theorem d_Md_hold_77 : decode b_Md_hold 77 = .ok (.aload_n 0, 1) := by decide +kernel
theorem d_Md_hold_78 : decode b_Md_hold 78 = .ok (.getfield 60, 3) := by decide +kernel
theorem d_Md_hold_81 : decode b_Md_hold 81 = .ok (.iload 5, 2) := by decide +kernel
theorem d_Md_hold_83 : decode b_Md_hold 83 = .ok (.iaload, 1) := by decide +kernel
theorem d_Md_hold_84 : decode b_Md_hold 84 = .ok (.isub, 1) := by decide +kernel
theorem d_Md_hold_85 : decode b_Md_hold 85 = .ok (.goto (5), 3) := by decide +kernel
theorem d_Md_hold_88 : decode b_Md_hold 88 = .ok (.iload 4, 2) := by decide +kernel
theorem d_Md_hold_90 : decode b_Md_hold 90 = .ok (.istore 4, 2) := by decide +kernel
theorem d_Md_hold_92 : decode b_Md_hold 92 = .ok (.iinc 5 (1), 3) := by decide +kernel
theorem d_Md_hold_95 : decode b_Md_hold 95 = .ok (.goto (-85), 3) := by decide +kernel
theorem d_Md_hold_98 : decode b_Md_hold 98 = .ok (.iload_n 1, 1) := by decide +kernel
theorem d_Md_hold_99 : decode b_Md_hold 99 = .ok (.ifCond .ne (40), 3) := by decide +kernel
theorem d_Md_hold_102 : decode b_Md_hold 102 = .ok (.iload_n 2, 1) := by decide +kernel
theorem d_Md_hold_103 : decode b_Md_hold 103 = .ok (.aload_n 0, 1) := by decide +kernel
theorem d_Md_hold_104 : decode b_Md_hold 104 = .ok (.getfield 143, 3) := by decide +kernel
theorem d_Md_hold_107 : decode b_Md_hold 107 = .ok (.if_icmp .lt (32), 3) := by decide +kernel
theorem d_Md_hold_110 : decode b_Md_hold 110 = .ok (.iload_n 2, 1) := by decide +kernel
theorem d_Md_hold_111 : decode b_Md_hold 111 = .ok (.aload_n 0, 1) := by decide +kernel
theorem d_Md_hold_112 : decode b_Md_hold 112 = .ok (.getfield 143, 3) := by decide +kernel
theorem d_Md_hold_115 : decode b_Md_hold 115 = .ok (.if_icmp .ne (66), 3) := by decide +kernel
theorem d_Md_hold_118 : decode b_Md_hold 118 = .ok (.iload_n 3, 1) := by decide +kernel
theorem d_Md_hold_119 : decode b_Md_hold 119 = .ok (.aload_n 0, 1) := by decide +kernel
theorem d_Md_hold_120 : decode b_Md_hold 120 = .ok (.getfield 146, 3) := by decide +kernel
theorem d_Md_hold_123 : decode b_Md_hold 123 = .ok (.if_icmp .lt (16), 3) := by decide +kernel
theorem d_Md_hold_126 : decode b_Md_hold 126 = .ok (.iload_n 3, 1) := by decide +kernel
theorem d_Md_hold_127 : decode b_Md_hold 127 = .ok (.aload_n 0, 1) := by decide +kernel
theorem d_Md_hold_128 : decode b_Md_hold 128 = .ok (.getfield 146, 3) := by decide +kernel
theorem d_Md_hold_131 : decode b_Md_hold 131 = .ok (.if_icmp .ne (50), 3) := by decide +kernel
theorem d_Md_hold_134 : decode b_Md_hold 134 = .ok (.iload 4, 2) := by decide +kernel
theorem d_Md_hold_136 : decode b_Md_hold 136 = .ok (.ifCond .ge (45), 3) := by decide +kernel
theorem d_Md_hold_139 : decode b_Md_hold 139 = .ok (.aload_n 0, 1) := by decide +kernel
theorem d_Md_hold_140 : decode b_Md_hold 140 = .ok (.iload_n 2, 1) := by decide +kernel
theorem d_Md_hold_141 : decode b_Md_hold 141 = .ok (.putfield 143, 3) := by decide +kernel
theorem d_Md_hold_144 : decode b_Md_hold 144 = .ok (.aload_n 0, 1) := by decide +kernel
theorem d_Md_hold_145 : decode b_Md_hold 145 = .ok (.iload_n 3, 1) := by decide +kernel
theorem d_Md_hold_146 : decode b_Md_hold 146 = .ok (.putfield 146, 3) := by decide +kernel
theorem d_Md_hold_149 : decode b_Md_hold 149 = .ok (.iconst (0), 1) := by decide +kernel
theorem d_Md_hold_150 : decode b_Md_hold 150 = .ok (.istore 5, 2) := by decide +kernel
theorem d_Md_hold_152 : decode b_Md_hold 152 = .ok (.iload 5, 2) := by decide +kernel
theorem d_Md_hold_154 : decode b_Md_hold 154 = .ok (.aload_n 0, 1) := by decide +kernel
theorem d_Md_hold_155 : decode b_Md_hold 155 = .ok (.getfield 63, 3) := by decide +kernel
theorem d_Md_hold_158 : decode b_Md_hold 158 = .ok (.if_icmp .ge (23), 3) := by decide +kernel
theorem d_Md_hold_161 : decode b_Md_hold 161 = .ok (.aload_n 0, 1) := by decide +kernel
theorem d_Md_hold_162 : decode b_Md_hold 162 = .ok (.getfield 60, 3) := by decide +kernel
theorem d_Md_hold_165 : decode b_Md_hold 165 = .ok (.iload 5, 2) := by decide +kernel
theorem d_Md_hold_167 : decode b_Md_hold 167 = .ok (.aload_n 0, 1) := by decide +kernel
theorem d_Md_hold_168 : decode b_Md_hold 168 = .ok (.getfield 41, 3) := by decide +kernel
theorem d_Md_hold_171 : decode b_Md_hold 171 = .ok (.iload 5, 2) := by decide +kernel
theorem d_Md_hold_173 : decode b_Md_hold 173 = .ok (.iaload, 1) := by decide +kernel
theorem d_Md_hold_174 : decode b_Md_hold 174 = .ok (.iastore, 1) := by decide +kernel
theorem d_Md_hold_175 : decode b_Md_hold 175 = .ok (.iinc 5 (1), 3) := by decide +kernel
theorem d_Md_hold_178 : decode b_Md_hold 178 = .ok (.goto (-26), 3) := by decide +kernel
theorem d_Md_hold_181 : decode b_Md_hold 181 = .ok (.return_, 1) := by decide +kernel
theorem d_Md_next_0 : decode b_Md_next 0 = .ok (.aload_n 0, 1) := by decide +kernel
theorem d_Md_next_1 : decode b_Md_next 1 = .ok (.getfield 57, 3) := by decide +kernel
theorem d_Md_next_4 : decode b_Md_next 4 = .ok (.iload_n 1, 1) := by decide +kernel
theorem d_Md_next_5 : decode b_Md_next 5 = .ok (.iaload, 1) := by decide +kernel
theorem d_Md_next_6 : decode b_Md_next 6 = .ok (.iconst (1), 1) := by decide +kernel
theorem d_Md_next_7 : decode b_Md_next 7 = .ok (.iadd, 1) := by decide +kernel
theorem d_Md_next_8 : decode b_Md_next 8 = .ok (.istore_n 2, 1) := by decide +kernel
theorem d_Md_next_9 : decode b_Md_next 9 = .ok (.iconst (0), 1) := by decide +kernel
theorem d_Md_next_10 : decode b_Md_next 10 = .ok (.istore_n 3, 1) := by decide +kernel
theorem d_Md_next_11 : decode b_Md_next 11 = .ok (.iload_n 2, 1) := by decide +kernel
theorem d_Md_next_12 : decode b_Md_next 12 = .ok (.aload_n 0, 1) := by decide +kernel
theorem d_Md_next_13 : decode b_Md_next 13 = .ok (.getfield 88, 3) := by decide +kernel
theorem d_Md_next_16 : decode b_Md_next 16 = .ok (.if_icmp .gt (75), 3) := by decide +kernel
theorem d_Md_next_19 : decode b_Md_next 19 = .ok (.iload_n 3, 1) := by decide +kernel
theorem d_Md_next_20 : decode b_Md_next 20 = .ok (.ifCond .ne (71), 3) := by decide +kernel
theorem d_Md_next_23 : decode b_Md_next 23 = .ok (.iconst (1), 1) := by decide +kernel
theorem d_Md_next_24 : decode b_Md_next 24 = .ok (.istore_n 3, 1) := by decide +kernel
theorem d_Md_next_25 : decode b_Md_next 25 = .ok (.iconst (0), 1) := by decide +kernel
theorem d_Md_next_26 : decode b_Md_next 26 = .ok (.istore 4, 2) := by decide +kernel
theorem d_Md_next_28 : decode b_Md_next 28 = .ok (.iload 4, 2) := by decide +kernel
theorem d_Md_next_30 : decode b_Md_next 30 = .ok (.iload_n 2, 1) := by decide +kernel
theorem d_Md_next_31 : decode b_Md_next 31 = .ok (.if_icmp .ge (45), 3) := by decide +kernel
theorem d_Md_next_34 : decode b_Md_next 34 = .ok (.iload_n 3, 1) := by decide +kernel
theorem d_Md_next_35 : decode b_Md_next 35 = .ok (.ifCond .eq (33), 3) := by decide +kernel
theorem d_Md_next_38 : decode b_Md_next 38 = .ok (.aload_n 0, 1) := by decide +kernel
theorem d_Md_next_39 : decode b_Md_next 39 = .ok (.getfield 38, 3) := by decide +kernel
theorem d_Md_next_42 : decode b_Md_next 42 = .ok (.bipush (6), 2) := by decide +kernel
theorem d_Md_next_44 : decode b_Md_next 44 = .ok (.iload 4, 2) := by decide +kernel
theorem d_Md_next_46 : decode b_Md_next 46 = .ok (.imul, 1) := by decide +kernel
theorem d_Md_next_47 : decode b_Md_next 47 = .ok (.iload_n 1, 1) := by decide +kernel
theorem d_Md_next_48 : decode b_Md_next 48 = .ok (.iadd, 1) := by decide +kernel
theorem d_Md_next_49 : decode b_Md_next 49 = .ok (.iaload, 1) := by decide +kernel
theorem d_Md_next_50 : decode b_Md_next 50 = .ok (.aload_n 0, 1) := by decide +kernel
theorem d_Md_next_51 : decode b_Md_next 51 = .ok (.getfield 38, 3) := by decide +kernel
theorem d_Md_next_54 : decode b_Md_next 54 = .ok (.bipush (6), 2) := by decide +kernel
theorem d_Md_next_56 : decode b_Md_next 56 = .ok (.iload_n 2, 1) := by decide +kernel
theorem d_Md_next_57 : decode b_Md_next 57 = .ok (.imul, 1) := by decide +kernel
theorem d_Md_next_58 : decode b_Md_next 58 = .ok (.iload_n 1, 1) := by decide +kernel
theorem d_Md_next_59 : decode b_Md_next 59 = .ok (.iadd, 1) := by decide +kernel
theorem d_Md_next_60 : decode b_Md_next 60 = .ok (.iaload, 1) := by decide +kernel
theorem d_Md_next_61 : decode b_Md_next 61 = .ok (.if_icmp .eq (7), 3) := by decide +kernel
theorem d_Md_next_64 : decode b_Md_next 64 = .ok (.iconst (1), 1) := by decide +kernel
theorem d_Md_next_65 : decode b_Md_next 65 = .ok (.goto (4), 3) := by decide +kernel
theorem d_Md_next_68 : decode b_Md_next 68 = .ok (.iconst (0), 1) := by decide +kernel
theorem d_Md_next_69 : decode b_Md_next 69 = .ok (.istore_n 3, 1) := by decide +kernel
theorem d_Md_next_70 : decode b_Md_next 70 = .ok (.iinc 4 (1), 3) := by decide +kernel
theorem d_Md_next_73 : decode b_Md_next 73 = .ok (.goto (-45), 3) := by decide +kernel
theorem d_Md_next_76 : decode b_Md_next 76 = .ok (.iload_n 2, 1) := by decide +kernel
theorem d_Md_next_77 : decode b_Md_next 77 = .ok (.iload_n 3, 1) := by decide +kernel
theorem d_Md_next_78 : decode b_Md_next 78 = .ok (.ifCond .eq (7), 3) := by decide +kernel
theorem d_Md_next_81 : decode b_Md_next 81 = .ok (.iconst (0), 1) := by decide +kernel
theorem d_Md_next_82 : decode b_Md_next 82 = .ok (.goto (4), 3) := by decide +kernel
theorem d_Md_next_85 : decode b_Md_next 85 = .ok (.iconst (1), 1) := by decide +kernel
theorem d_Md_next_86 : decode b_Md_next 86 = .ok (.iadd, 1) := by decide +kernel
theorem d_Md_next_87 : decode b_Md_next 87 = .ok (.istore_n 2, 1) := by decide +kernel
theorem d_Md_next_88 : decode b_Md_next 88 = .ok (.goto (-77), 3) := by decide +kernel
theorem d_Md_next_91 : decode b_Md_next 91 = .ok (.aload_n 0, 1) := by decide +kernel
theorem d_Md_next_92 : decode b_Md_next 92 = .ok (.getfield 35, 3) := by decide +kernel
theorem d_Md_next_95 : decode b_Md_next 95 = .ok (.iload_n 1, 1) := by decide +kernel
theorem d_Md_next_96 : decode b_Md_next 96 = .ok (.baload, 1) := by decide +kernel
theorem d_Md_next_97 : decode b_Md_next 97 = .ok (.ifCond .eq (12), 3) := by decide +kernel
theorem d_Md_next_100 : decode b_Md_next 100 = .ok (.aload_n 0, 1) := by decide +kernel
theorem d_Md_next_101 : decode b_Md_next 101 = .ok (.getfield 88, 3) := by decide +kernel
theorem d_Md_next_104 : decode b_Md_next 104 = .ok (.iconst (1), 1) := by decide +kernel
theorem d_Md_next_105 : decode b_Md_next 105 = .ok (.iadd, 1) := by decide +kernel
theorem d_Md_next_106 : decode b_Md_next 106 = .ok (.goto (4), 3) := by decide +kernel
theorem d_Md_next_109 : decode b_Md_next 109 = .ok (.iload_n 2, 1) := by decide +kernel
theorem d_Md_next_110 : decode b_Md_next 110 = .ok (.ireturn, 1) := by decide +kernel
theorem d_Md_nearestAt_0 : decode b_Md_nearestAt 0 = .ok (.aload_n 0, 1) := by decide +kernel
theorem d_Md_nearestAt_1 : decode b_Md_nearestAt 1 = .ok (.iconst (0), 1) := by decide +kernel
theorem d_Md_nearestAt_2 : decode b_Md_nearestAt 2 = .ok (.putfield 71, 3) := by decide +kernel
theorem d_Md_nearestAt_5 : decode b_Md_nearestAt 5 = .ok (.aload_n 0, 1) := by decide +kernel
theorem d_Md_nearestAt_6 : decode b_Md_nearestAt 6 = .ok (.iload_n 2, 1) := by decide +kernel
theorem d_Md_nearestAt_7 : decode b_Md_nearestAt 7 = .ok (.invokevirtual 81, 3) := by decide +kernel
theorem d_Md_nearestAt_10 : decode b_Md_nearestAt 10 = .ok (.ifCond .eq (21), 3) := by decide +kernel
theorem d_Md_nearestAt_13 : decode b_Md_nearestAt 13 = .ok (.aload_n 0, 1) := by decide +kernel
theorem d_Md_nearestAt_14 : decode b_Md_nearestAt 14 = .ok (.iload_n 1, 1) := by decide +kernel
theorem d_Md_nearestAt_15 : decode b_Md_nearestAt 15 = .ok (.invokevirtual 156, 3) := by decide +kernel
theorem d_Md_nearestAt_18 : decode b_Md_nearestAt 18 = .ok (.ifCond .eq (13), 3) := by decide +kernel
theorem d_Md_nearestAt_21 : decode b_Md_nearestAt 21 = .ok (.aload_n 0, 1) := by decide +kernel
theorem d_Md_nearestAt_22 : decode b_Md_nearestAt 22 = .ok (.getfield 60, 3) := by decide +kernel
theorem d_Md_nearestAt_25 : decode b_Md_nearestAt 25 = .ok (.iload_n 2, 1) := by decide +kernel
theorem d_Md_nearestAt_26 : decode b_Md_nearestAt 26 = .ok (.iaload, 1) := by decide +kernel
theorem d_Md_nearestAt_27 : decode b_Md_nearestAt 27 = .ok (.i2l, 1) := by decide +kernel
theorem d_Md_nearestAt_28 : decode b_Md_nearestAt 28 = .ok (.goto (6), 3) := by decide +kernel
theorem d_Md_nearestAt_31 : decode b_Md_nearestAt 31 = .ok (.ldc2_w 91, 3) := by decide +kernel
theorem d_Md_nearestAt_34 : decode b_Md_nearestAt 34 = .ok (.lreturn, 1) := by decide +kernel
