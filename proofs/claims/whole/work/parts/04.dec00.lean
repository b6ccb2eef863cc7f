theorem d_ES_init_0 : decode b_ES_init 0 = .ok (.aload_n 0, 1) := by decide +kernel
theorem d_ES_init_1 : decode b_ES_init 1 = .ok (.invokespecial 1, 3) := by decide +kernel
theorem d_ES_init_4 : decode b_ES_init 4 = .ok (.aload_n 0, 1) := by decide +kernel
theorem d_ES_init_5 : decode b_ES_init 5 = .ok (.iconst (1), 1) := by decide +kernel
theorem d_ES_init_6 : decode b_ES_init 6 = .ok (.bipush (6), 2) := by decide +kernel
theorem d_ES_init_8 : decode b_ES_init 8 = .ok (.iload_n 1, 1) := by decide +kernel
theorem d_ES_init_9 : decode b_ES_init 9 = .ok (.invokestatic 9, 3) := by decide +kernel
theorem d_ES_init_12 : decode b_ES_init 12 = .ok (.invokestatic 15, 3) := by decide +kernel
theorem d_ES_init_15 : decode b_ES_init 15 = .ok (.putfield 18, 3) := by decide +kernel
theorem d_ES_init_18 : decode b_ES_init 18 = .ok (.aload_n 0, 1) := by decide +kernel
theorem d_ES_init_19 : decode b_ES_init 19 = .ok (.new 22, 3) := by decide +kernel
theorem d_ES_init_22 : decode b_ES_init 22 = .ok (.dup, 1) := by decide +kernel
theorem d_ES_init_23 : decode b_ES_init 23 = .ok (.invokespecial 24, 3) := by decide +kernel
theorem d_ES_init_26 : decode b_ES_init 26 = .ok (.putfield 25, 3) := by decide +kernel
theorem d_ES_init_29 : decode b_ES_init 29 = .ok (.aload_n 0, 1) := by decide +kernel
theorem d_ES_init_30 : decode b_ES_init 30 = .ok (.new 29, 3) := by decide +kernel
theorem d_ES_init_33 : decode b_ES_init 33 = .ok (.dup, 1) := by decide +kernel
theorem d_ES_init_34 : decode b_ES_init 34 = .ok (.invokespecial 31, 3) := by decide +kernel
theorem d_ES_init_37 : decode b_ES_init 37 = .ok (.putfield 32, 3) := by decide +kernel
theorem d_ES_init_40 : decode b_ES_init 40 = .ok (.aload_n 0, 1) := by decide +kernel
theorem d_ES_init_41 : decode b_ES_init 41 = .ok (.new 36, 3) := by decide +kernel
theorem d_ES_init_44 : decode b_ES_init 44 = .ok (.dup, 1) := by decide +kernel
theorem d_ES_init_45 : decode b_ES_init 45 = .ok (.aload_n 0, 1) := by decide +kernel
theorem d_ES_init_46 : decode b_ES_init 46 = .ok (.getfield 18, 3) := by decide +kernel
theorem d_ES_init_49 : decode b_ES_init 49 = .ok (.invokespecial 38, 3) := by decide +kernel
theorem d_ES_init_52 : decode b_ES_init 52 = .ok (.putfield 41, 3) := by decide +kernel
theorem d_ES_init_55 : decode b_ES_init 55 = .ok (.aload_n 0, 1) := by decide +kernel
theorem d_ES_init_56 : decode b_ES_init 56 = .ok (.new 45, 3) := by decide +kernel
theorem d_ES_init_59 : decode b_ES_init 59 = .ok (.dup, 1) := by decide +kernel
theorem d_ES_init_60 : decode b_ES_init 60 = .ok (.aload_n 0, 1) := by decide +kernel
theorem d_ES_init_61 : decode b_ES_init 61 = .ok (.getfield 25, 3) := by decide +kernel
theorem d_ES_init_64 : decode b_ES_init 64 = .ok (.aload_n 0, 1) := by decide +kernel
theorem d_ES_init_65 : decode b_ES_init 65 = .ok (.getfield 32, 3) := by decide +kernel
theorem d_ES_init_68 : decode b_ES_init 68 = .ok (.aload_n 0, 1) := by decide +kernel
theorem d_ES_init_69 : decode b_ES_init 69 = .ok (.getfield 41, 3) := by decide +kernel
theorem d_ES_init_72 : decode b_ES_init 72 = .ok (.invokespecial 47, 3) := by decide +kernel
theorem d_ES_init_75 : decode b_ES_init 75 = .ok (.putfield 50, 3) := by decide +kernel
theorem d_ES_init_78 : decode b_ES_init 78 = .ok (.aload_n 0, 1) := by decide +kernel
theorem d_ES_init_79 : decode b_ES_init 79 = .ok (.new 54, 3) := by decide +kernel
theorem d_ES_init_82 : decode b_ES_init 82 = .ok (.dup, 1) := by decide +kernel
theorem d_ES_init_83 : decode b_ES_init 83 = .ok (.aload_n 0, 1) := by decide +kernel
theorem d_ES_init_84 : decode b_ES_init 84 = .ok (.getfield 18, 3) := by decide +kernel
theorem d_ES_init_87 : decode b_ES_init 87 = .ok (.aload_n 0, 1) := by decide +kernel
theorem d_ES_init_88 : decode b_ES_init 88 = .ok (.getfield 25, 3) := by decide +kernel
theorem d_ES_init_91 : decode b_ES_init 91 = .ok (.aload_n 0, 1) := by decide +kernel
theorem d_ES_init_92 : decode b_ES_init 92 = .ok (.getfield 32, 3) := by decide +kernel
theorem d_ES_init_95 : decode b_ES_init 95 = .ok (.invokespecial 56, 3) := by decide +kernel
theorem d_ES_init_98 : decode b_ES_init 98 = .ok (.putfield 59, 3) := by decide +kernel
theorem d_ES_init_101 : decode b_ES_init 101 = .ok (.return_, 1) := by decide +kernel
theorem d_Ln_init_0 : decode b_Ln_init 0 = .ok (.aload_n 0, 1) := by decide +kernel
theorem d_Ln_init_1 : decode b_Ln_init 1 = .ok (.invokespecial 3, 3) := by decide +kernel
theorem d_Ln_init_4 : decode b_Ln_init 4 = .ok (.aload_n 0, 1) := by decide +kernel
theorem d_Ln_init_5 : decode b_Ln_init 5 = .ok (.bipush (30), 2) := by decide +kernel
theorem d_Ln_init_7 : decode b_Ln_init 7 = .ok (.newarray .int, 2) := by decide +kernel
theorem d_Ln_init_9 : decode b_Ln_init 9 = .ok (.putfield 9, 3) := by decide +kernel
theorem d_Ln_init_12 : decode b_Ln_init 12 = .ok (.aload_n 0, 1) := by decide +kernel
theorem d_Ln_init_13 : decode b_Ln_init 13 = .ok (.bipush (30), 2) := by decide +kernel
theorem d_Ln_init_15 : decode b_Ln_init 15 = .ok (.newarray .int, 2) := by decide +kernel
theorem d_Ln_init_17 : decode b_Ln_init 17 = .ok (.putfield 15, 3) := by decide +kernel
theorem d_Ln_init_20 : decode b_Ln_init 20 = .ok (.aload_n 0, 1) := by decide +kernel
theorem d_Ln_init_21 : decode b_Ln_init 21 = .ok (.bipush (30), 2) := by decide +kernel
theorem d_Ln_init_23 : decode b_Ln_init 23 = .ok (.newarray .int, 2) := by decide +kernel
theorem d_Ln_init_25 : decode b_Ln_init 25 = .ok (.putfield 18, 3) := by decide +kernel
theorem d_Ln_init_28 : decode b_Ln_init 28 = .ok (.aload_n 0, 1) := by decide +kernel
theorem d_Ln_init_29 : decode b_Ln_init 29 = .ok (.bipush (30), 2) := by decide +kernel
theorem d_Ln_init_31 : decode b_Ln_init 31 = .ok (.newarray .int, 2) := by decide +kernel
theorem d_Ln_init_33 : decode b_Ln_init 33 = .ok (.putfield 21, 3) := by decide +kernel
theorem d_Ln_init_36 : decode b_Ln_init 36 = .ok (.aload_n 0, 1) := by decide +kernel
theorem d_Ln_init_37 : decode b_Ln_init 37 = .ok (.bipush (30), 2) := by decide +kernel
theorem d_Ln_init_39 : decode b_Ln_init 39 = .ok (.newarray .int, 2) := by decide +kernel
theorem d_Ln_init_41 : decode b_Ln_init 41 = .ok (.putfield 24, 3) := by decide +kernel
theorem d_Ln_init_44 : decode b_Ln_init 44 = .ok (.aload_n 0, 1) := by decide +kernel
theorem d_Ln_init_45 : decode b_Ln_init 45 = .ok (.iconst (4), 1) := by decide +kernel
theorem d_Ln_init_46 : decode b_Ln_init 46 = .ok (.newarray .int, 2) := by decide +kernel
theorem d_Ln_init_48 : decode b_Ln_init 48 = .ok (.putfield 27, 3) := by decide +kernel
theorem d_Ln_init_51 : decode b_Ln_init 51 = .ok (.aload_n 0, 1) := by decide +kernel
theorem d_Ln_init_52 : decode b_Ln_init 52 = .ok (.bipush (6), 2) := by decide +kernel
theorem d_Ln_init_54 : decode b_Ln_init 54 = .ok (.newarray .int, 2) := by decide +kernel
theorem d_Ln_init_56 : decode b_Ln_init 56 = .ok (.putfield 30, 3) := by decide +kernel
theorem d_Ln_init_59 : decode b_Ln_init 59 = .ok (.aload_n 0, 1) := by decide +kernel
theorem d_Ln_init_60 : decode b_Ln_init 60 = .ok (.iconst (0), 1) := by decide +kernel
theorem d_Ln_init_61 : decode b_Ln_init 61 = .ok (.putfield 33, 3) := by decide +kernel
theorem d_Ln_init_64 : decode b_Ln_init 64 = .ok (.aload_n 0, 1) := by decide +kernel
theorem d_Ln_init_65 : decode b_Ln_init 65 = .ok (.iconst (0), 1) := by decide +kernel
theorem d_Ln_init_66 : decode b_Ln_init 66 = .ok (.putfield 37, 3) := by decide +kernel
theorem d_Ln_init_69 : decode b_Ln_init 69 = .ok (.return_, 1) := by decide +kernel
theorem d_Rw_init_0 : decode b_Rw_init 0 = .ok (.aload_n 0, 1) := by decide +kernel
theorem d_Rw_init_1 : decode b_Rw_init 1 = .ok (.invokespecial 3, 3) := by decide +kernel
theorem d_Rw_init_4 : decode b_Rw_init 4 = .ok (.aload_n 0, 1) := by decide +kernel
theorem d_Rw_init_5 : decode b_Rw_init 5 = .ok (.bipush (6), 2) := by decide +kernel
theorem d_Rw_init_7 : decode b_Rw_init 7 = .ok (.newarray .int, 2) := by decide +kernel
theorem d_Rw_init_9 : decode b_Rw_init 9 = .ok (.putfield 9, 3) := by decide +kernel
theorem d_Rw_init_12 : decode b_Rw_init 12 = .ok (.aload_n 0, 1) := by decide +kernel
theorem d_Rw_init_13 : decode b_Rw_init 13 = .ok (.iconst (5), 1) := by decide +kernel
theorem d_Rw_init_14 : decode b_Rw_init 14 = .ok (.bipush (6), 2) := by decide +kernel
theorem d_Rw_init_16 : decode b_Rw_init 16 = .ok (.multianewarray 15 2, 4) := by decide +kernel
theorem d_Rw_init_20 : decode b_Rw_init 20 = .ok (.putfield 17, 3) := by decide +kernel
theorem d_Rw_init_23 : decode b_Rw_init 23 = .ok (.aload_n 0, 1) := by decide +kernel
theorem d_Rw_init_24 : decode b_Rw_init 24 = .ok (.iconst (0), 1) := by decide +kernel
theorem d_Rw_init_25 : decode b_Rw_init 25 = .ok (.putfield 20, 3) := by decide +kernel
theorem d_Rw_init_28 : decode b_Rw_init 28 = .ok (.return_, 1) := by decide +kernel
theorem d_Gr_init_0 : decode b_Gr_init 0 = .ok (.aload_n 0, 1) := by decide +kernel
theorem d_Gr_init_1 : decode b_Gr_init 1 = .ok (.invokespecial 3, 3) := by decide +kernel
theorem d_Gr_init_4 : decode b_Gr_init 4 = .ok (.aload_n 0, 1) := by decide +kernel
theorem d_Gr_init_5 : decode b_Gr_init 5 = .ok (.bipush (6), 2) := by decide +kernel
theorem d_Gr_init_7 : decode b_Gr_init 7 = .ok (.newarray .int, 2) := by decide +kernel
theorem d_Gr_init_9 : decode b_Gr_init 9 = .ok (.putfield 9, 3) := by decide +kernel
theorem d_Gr_init_12 : decode b_Gr_init 12 = .ok (.aload_n 0, 1) := by decide +kernel
theorem d_Gr_init_13 : decode b_Gr_init 13 = .ok (.iload_n 1, 1) := by decide +kernel
theorem d_Gr_init_14 : decode b_Gr_init 14 = .ok (.putfield 15, 3) := by decide +kernel
theorem d_Gr_init_17 : decode b_Gr_init 17 = .ok (.aload_n 0, 1) := by decide +kernel
theorem d_Gr_init_18 : decode b_Gr_init 18 = .ok (.invokevirtual 19, 3) := by decide +kernel
theorem d_Gr_init_21 : decode b_Gr_init 21 = .ok (.return_, 1) := by decide +kernel
theorem d_Gr_standAlone_0 : decode b_Gr_standAlone 0 = .ok (.iconst (0), 1) := by decide +kernel
theorem d_Gr_standAlone_1 : decode b_Gr_standAlone 1 = .ok (.istore_n 1, 1) := by decide +kernel
theorem d_Gr_standAlone_2 : decode b_Gr_standAlone 2 = .ok (.iload_n 1, 1) := by decide +kernel
theorem d_Gr_standAlone_3 : decode b_Gr_standAlone 3 = .ok (.bipush (6), 2) := by decide +kernel
theorem d_Gr_standAlone_5 : decode b_Gr_standAlone 5 = .ok (.if_icmp .ge (16), 3) := by decide +kernel
theorem d_Gr_standAlone_8 : decode b_Gr_standAlone 8 = .ok (.aload_n 0, 1) := by decide +kernel
theorem d_Gr_standAlone_9 : decode b_Gr_standAlone 9 = .ok (.getfield 9, 3) := by decide +kernel
theorem d_Gr_standAlone_12 : decode b_Gr_standAlone 12 = .ok (.iload_n 1, 1) := by decide +kernel
theorem d_Gr_standAlone_13 : decode b_Gr_standAlone 13 = .ok (.iload_n 1, 1) := by decide +kernel
theorem d_Gr_standAlone_14 : decode b_Gr_standAlone 14 = .ok (.iastore, 1) := by decide +kernel
theorem d_Gr_standAlone_15 : decode b_Gr_standAlone 15 = .ok (.iinc 1 (1), 3) := by decide +kernel
theorem d_Gr_standAlone_18 : decode b_Gr_standAlone 18 = .ok (.goto (-16), 3) := by decide +kernel
theorem d_Gr_standAlone_21 : decode b_Gr_standAlone 21 = .ok (.return_, 1) := by decide +kernel
theorem d_Me_init_0 : decode b_Me_init 0 = .ok (.aload_n 0, 1) := by decide +kernel
theorem d_Me_init_1 : decode b_Me_init 1 = .ok (.invokespecial 3, 3) := by decide +kernel
theorem d_Me_init_4 : decode b_Me_init 4 = .ok (.aload_n 0, 1) := by decide +kernel
theorem d_Me_init_5 : decode b_Me_init 5 = .ok (.bipush (6), 2) := by decide +kernel
theorem d_Me_init_7 : decode b_Me_init 7 = .ok (.newarray .int, 2) := by decide +kernel
theorem d_Me_init_9 : decode b_Me_init 9 = .ok (.putfield 9, 3) := by decide +kernel
theorem d_Me_init_12 : decode b_Me_init 12 = .ok (.aload_n 0, 1) := by decide +kernel
theorem d_Me_init_13 : decode b_Me_init 13 = .ok (.bipush (6), 2) := by decide +kernel
theorem d_Me_init_15 : decode b_Me_init 15 = .ok (.newarray .long, 2) := by decide +kernel
theorem d_Me_init_17 : decode b_Me_init 17 = .ok (.putfield 15, 3) := by decide +kernel
theorem d_Me_init_20 : decode b_Me_init 20 = .ok (.aload_n 0, 1) := by decide +kernel
theorem d_Me_init_21 : decode b_Me_init 21 = .ok (.aload_n 1, 1) := by decide +kernel
theorem d_Me_init_22 : decode b_Me_init 22 = .ok (.putfield 19, 3) := by decide +kernel
theorem d_Me_init_25 : decode b_Me_init 25 = .ok (.aload_n 0, 1) := by decide +kernel
theorem d_Me_init_26 : decode b_Me_init 26 = .ok (.aload_n 2, 1) := by decide +kernel
theorem d_Me_init_27 : decode b_Me_init 27 = .ok (.putfield 23, 3) := by decide +kernel
theorem d_Me_init_30 : decode b_Me_init 30 = .ok (.aload_n 0, 1) := by decide +kernel
theorem d_Me_init_31 : decode b_Me_init 31 = .ok (.aload_n 3, 1) := by decide +kernel
theorem d_Me_init_32 : decode b_Me_init 32 = .ok (.putfield 27, 3) := by decide +kernel
theorem d_Me_init_35 : decode b_Me_init 35 = .ok (.aload_n 0, 1) := by decide +kernel
theorem d_Me_init_36 : decode b_Me_init 36 = .ok (.new 31, 3) := by decide +kernel
theorem d_Me_init_39 : decode b_Me_init 39 = .ok (.dup, 1) := by decide +kernel
theorem d_Me_init_40 : decode b_Me_init 40 = .ok (.aload_n 3, 1) := by decide +kernel
theorem d_Me_init_41 : decode b_Me_init 41 = .ok (.invokespecial 33, 3) := by decide +kernel
theorem d_Me_init_44 : decode b_Me_init 44 = .ok (.putfield 36, 3) := by decide +kernel
theorem d_Me_init_47 : decode b_Me_init 47 = .ok (.return_, 1) := by decide +kernel
theorem d_Or_init_0 : decode b_Or_init 0 = .ok (.aload_n 0, 1) := by decide +kernel
theorem d_Or_init_1 : decode b_Or_init 1 = .ok (.invokespecial 3, 3) := by decide +kernel
theorem d_Or_init_4 : decode b_Or_init 4 = .ok (.aload_n 0, 1) := by decide +kernel
theorem d_Or_init_5 : decode b_Or_init 5 = .ok (.bipush (6), 2) := by decide +kernel
theorem d_Or_init_7 : decode b_Or_init 7 = .ok (.newarray .int, 2) := by decide +kernel
theorem d_Or_init_9 : decode b_Or_init 9 = .ok (.putfield 9, 3) := by decide +kernel
theorem d_Or_init_12 : decode b_Or_init 12 = .ok (.aload_n 0, 1) := by decide +kernel
theorem d_Or_init_13 : decode b_Or_init 13 = .ok (.iconst (0), 1) := by decide +kernel
theorem d_Or_init_14 : decode b_Or_init 14 = .ok (.putfield 15, 3) := by decide +kernel
theorem d_Or_init_17 : decode b_Or_init 17 = .ok (.aload_n 0, 1) := by decide +kernel
theorem d_Or_init_18 : decode b_Or_init 18 = .ok (.iconst (0), 1) := by decide +kernel
theorem d_Or_init_19 : decode b_Or_init 19 = .ok (.putfield 19, 3) := by decide +kernel
theorem d_Or_init_22 : decode b_Or_init 22 = .ok (.aload_n 0, 1) := by decide +kernel
theorem d_Or_init_23 : decode b_Or_init 23 = .ok (.aload_n 1, 1) := by decide +kernel
theorem d_Or_init_24 : decode b_Or_init 24 = .ok (.putfield 22, 3) := by decide +kernel
theorem d_Or_init_27 : decode b_Or_init 27 = .ok (.return_, 1) := by decide +kernel
theorem d_Se_init_0 : decode b_Se_init 0 = .ok (.aload_n 0, 1) := by decide +kernel
theorem d_Se_init_1 : decode b_Se_init 1 = .ok (.invokespecial 3, 3) := by decide +kernel
theorem d_Se_init_4 : decode b_Se_init 4 = .ok (.aload_n 0, 1) := by decide +kernel
theorem d_Se_init_5 : decode b_Se_init 5 = .ok (.bipush (6), 2) := by decide +kernel
theorem d_Se_init_7 : decode b_Se_init 7 = .ok (.newarray .boolean, 2) := by decide +kernel
theorem d_Se_init_9 : decode b_Se_init 9 = .ok (.putfield 9, 3) := by decide +kernel
theorem d_Se_init_12 : decode b_Se_init 12 = .ok (.aload_n 0, 1) := by decide +kernel
theorem d_Se_init_13 : decode b_Se_init 13 = .ok (.bipush (6), 2) := by decide +kernel
theorem d_Se_init_15 : decode b_Se_init 15 = .ok (.bipush (6), 2) := by decide +kernel
theorem d_Se_init_17 : decode b_Se_init 17 = .ok (.multianewarray 15 2, 4) := by decide +kernel
theorem d_Se_init_21 : decode b_Se_init 21 = .ok (.putfield 17, 3) := by decide +kernel
theorem d_Se_init_24 : decode b_Se_init 24 = .ok (.aload_n 0, 1) := by decide +kernel
theorem d_Se_init_25 : decode b_Se_init 25 = .ok (.bipush (6), 2) := by decide +kernel
theorem d_Se_init_27 : decode b_Se_init 27 = .ok (.newarray .int, 2) := by decide +kernel
theorem d_Se_init_29 : decode b_Se_init 29 = .ok (.putfield 20, 3) := by decide +kernel
theorem d_Se_init_32 : decode b_Se_init 32 = .ok (.aload_n 0, 1) := by decide +kernel
theorem d_Se_init_33 : decode b_Se_init 33 = .ok (.bipush (6), 2) := by decide +kernel
theorem d_Se_init_35 : decode b_Se_init 35 = .ok (.newarray .int, 2) := by decide +kernel
theorem d_Se_init_37 : decode b_Se_init 37 = .ok (.putfield 24, 3) := by decide +kernel
theorem d_Se_init_40 : decode b_Se_init 40 = .ok (.aload_n 0, 1) := by decide +kernel
theorem d_Se_init_41 : decode b_Se_init 41 = .ok (.bipush (6), 2) := by decide +kernel
theorem d_Se_init_43 : decode b_Se_init 43 = .ok (.newarray .int, 2) := by decide +kernel
theorem d_Se_init_45 : decode b_Se_init 45 = .ok (.putfield 27, 3) := by decide +kernel
theorem d_Se_init_48 : decode b_Se_init 48 = .ok (.aload_n 0, 1) := by decide +kernel
theorem d_Se_init_49 : decode b_Se_init 49 = .ok (.bipush (6), 2) := by decide +kernel
theorem d_Se_init_51 : decode b_Se_init 51 = .ok (.newarray .int, 2) := by decide +kernel
theorem d_Se_init_53 : decode b_Se_init 53 = .ok (.putfield 30, 3) := by decide +kernel
theorem d_Se_init_56 : decode b_Se_init 56 = .ok (.aload_n 0, 1) := by decide +kernel
theorem d_Se_init_57 : decode b_Se_init 57 = .ok (.ldc 33, 2) := by decide +kernel
theorem d_Se_init_59 : decode b_Se_init 59 = .ok (.putfield 34, 3) := by decide +kernel
theorem d_Se_init_62 : decode b_Se_init 62 = .ok (.aload_n 0, 1) := by decide +kernel
theorem d_Se_init_63 : decode b_Se_init 63 = .ok (.iconst (0), 1) := by decide +kernel
theorem d_Se_init_64 : decode b_Se_init 64 = .ok (.putfield 38, 3) := by decide +kernel
theorem d_Se_init_67 : decode b_Se_init 67 = .ok (.aload_n 0, 1) := by decide +kernel
theorem d_Se_init_68 : decode b_Se_init 68 = .ok (.iload_n 1, 1) := by decide +kernel
theorem d_Se_init_69 : decode b_Se_init 69 = .ok (.putfield 41, 3) := by decide +kernel
theorem d_Se_init_72 : decode b_Se_init 72 = .ok (.aload_n 0, 1) := by decide +kernel
theorem d_Se_init_73 : decode b_Se_init 73 = .ok (.aload_n 2, 1) := by decide +kernel
theorem d_Se_init_74 : decode b_Se_init 74 = .ok (.putfield 44, 3) := by decide +kernel
theorem d_Se_init_77 : decode b_Se_init 77 = .ok (.aload_n 0, 1) := by decide +kernel
theorem d_Se_init_78 : decode b_Se_init 78 = .ok (.aload_n 3, 1) := by decide +kernel
theorem d_Se_init_79 : decode b_Se_init 79 = .ok (.putfield 48, 3) := by decide +kernel
theorem d_Se_init_82 : decode b_Se_init 82 = .ok (.return_, 1) := by decide +kernel
theorem d_ES_leaf_0 : decode b_ES_leaf 0 = .ok (.iload_n 1, 1) := by decide +kernel
theorem d_ES_leaf_1 : decode b_ES_leaf 1 = .ok (.sipush (1000), 3) := by decide +kernel
theorem d_ES_leaf_4 : decode b_ES_leaf 4 = .ok (.invokestatic 63, 3) := by decide +kernel
theorem d_ES_leaf_7 : decode b_ES_leaf 7 = .ok (.ifCond .ne (6), 3) := by decide +kernel
theorem d_ES_leaf_10 : decode b_ES_leaf 10 = .ok (.bipush (-2), 2) := by decide +kernel
theorem d_ES_leaf_12 : decode b_ES_leaf 12 = .ok (.ireturn, 1) := by decide +kernel
theorem d_ES_leaf_13 : decode b_ES_leaf 13 = .ok (.aload_n 0, 1) := by decide +kernel
theorem d_ES_leaf_14 : decode b_ES_leaf 14 = .ok (.getfield 25, 3) := by decide +kernel
theorem d_ES_leaf_17 : decode b_ES_leaf 17 = .ok (.iload_n 1, 1) := by decide +kernel
theorem d_ES_leaf_18 : decode b_ES_leaf 18 = .ok (.invokevirtual 67, 3) := by decide +kernel
theorem d_ES_leaf_21 : decode b_ES_leaf 21 = .ok (.ireturn, 1) := by decide +kernel
theorem d_ES_isWithin_0 : decode b_ES_isWithin 0 = .ok (.iload_n 0, 1) := by decide +kernel
theorem d_ES_isWithin_1 : decode b_ES_isWithin 1 = .ok (.iload_n 1, 1) := by decide +kernel
theorem d_ES_isWithin_2 : decode b_ES_isWithin 2 = .ok (.ineg, 1) := by decide +kernel
theorem d_ES_isWithin_3 : decode b_ES_isWithin 3 = .ok (.if_icmp .lt (12), 3) := by decide +kernel
theorem d_ES_isWithin_6 : decode b_ES_isWithin 6 = .ok (.iload_n 0, 1) := by decide +kernel
theorem d_ES_isWithin_7 : decode b_ES_isWithin 7 = .ok (.iload_n 1, 1) := by decide +kernel
theorem d_ES_isWithin_8 : decode b_ES_isWithin 8 = .ok (.if_icmp .gt (7), 3) := by decide +kernel
theorem d_ES_isWithin_11 : decode b_ES_isWithin 11 = .ok (.iconst (1), 1) := by decide +kernel
theorem d_ES_isWithin_12 : decode b_ES_isWithin 12 = .ok (.goto (4), 3) := by decide +kernel
theorem d_ES_isWithin_15 : decode b_ES_isWithin 15 = .ok (.iconst (0), 1) := by decide +kernel
theorem d_ES_isWithin_16 : decode b_ES_isWithin 16 = .ok (.ireturn, 1) := by decide +kernel
theorem d_Ln_addLeaf_0 : decode b_Ln_addLeaf 0 = .ok (.aload_n 0, 1) := by decide +kernel
theorem d_Ln_addLeaf_1 : decode b_Ln_addLeaf 1 = .ok (.iconst (-1), 1) := by decide +kernel
theorem d_Ln_addLeaf_2 : decode b_Ln_addLeaf 2 = .ok (.iload_n 1, 1) := by decide +kernel
theorem d_Ln_addLeaf_3 : decode b_Ln_addLeaf 3 = .ok (.iconst (0), 1) := by decide +kernel
theorem d_Ln_addLeaf_4 : decode b_Ln_addLeaf 4 = .ok (.iconst (0), 1) := by decide +kernel
theorem d_Ln_addLeaf_5 : decode b_Ln_addLeaf 5 = .ok (.invokevirtual 40, 3) := by decide +kernel
theorem d_Ln_addLeaf_8 : decode b_Ln_addLeaf 8 = .ok (.ireturn, 1) := by decide +kernel
theorem d_Ln_addNode_0 : decode b_Ln_addNode 0 = .ok (.aload_n 0, 1) := by decide +kernel
theorem d_Ln_addNode_1 : decode b_Ln_addNode 1 = .ok (.getfield 33, 3) := by decide +kernel
theorem d_Ln_addNode_4 : decode b_Ln_addNode 4 = .ok (.bipush (30), 2) := by decide +kernel
theorem d_Ln_addNode_6 : decode b_Ln_addNode 6 = .ok (.if_icmp .lt (6), 3) := by decide +kernel
theorem d_Ln_addNode_9 : decode b_Ln_addNode 9 = .ok (.bipush (-4), 2) := by decide +kernel
theorem d_Ln_addNode_11 : decode b_Ln_addNode 11 = .ok (.ireturn, 1) := by decide +kernel
theorem d_Ln_addNode_12 : decode b_Ln_addNode 12 = .ok (.aload_n 0, 1) := by decide +kernel
theorem d_Ln_addNode_13 : decode b_Ln_addNode 13 = .ok (.getfield 9, 3) := by decide +kernel
theorem d_Ln_addNode_16 : decode b_Ln_addNode 16 = .ok (.aload_n 0, 1) := by decide +kernel
theorem d_Ln_addNode_17 : decode b_Ln_addNode 17 = .ok (.getfield 33, 3) := by decide +kernel
theorem d_Ln_addNode_20 : decode b_Ln_addNode 20 = .ok (.iload_n 1, 1) := by decide +kernel
theorem d_Ln_addNode_21 : decode b_Ln_addNode 21 = .ok (.iastore, 1) := by decide +kernel
theorem d_Ln_addNode_22 : decode b_Ln_addNode 22 = .ok (.aload_n 0, 1) := by decide +kernel
theorem d_Ln_addNode_23 : decode b_Ln_addNode 23 = .ok (.getfield 15, 3) := by decide +kernel
theorem d_Ln_addNode_26 : decode b_Ln_addNode 26 = .ok (.aload_n 0, 1) := by decide +kernel
theorem d_Ln_addNode_27 : decode b_Ln_addNode 27 = .ok (.getfield 33, 3) := by decide +kernel
theorem d_Ln_addNode_30 : decode b_Ln_addNode 30 = .ok (.iload_n 2, 1) := by decide +kernel
theorem d_Ln_addNode_31 : decode b_Ln_addNode 31 = .ok (.iastore, 1) := by decide +kernel
theorem d_Ln_addNode_32 : decode b_Ln_addNode 32 = .ok (.aload_n 0, 1) := by decide +kernel
theorem d_Ln_addNode_33 : decode b_Ln_addNode 33 = .ok (.getfield 18, 3) := by decide +kernel
theorem d_Ln_addNode_36 : decode b_Ln_addNode 36 = .ok (.aload_n 0, 1) := by decide +kernel
theorem d_Ln_addNode_37 : decode b_Ln_addNode 37 = .ok (.getfield 33, 3) := by decide +kernel
theorem d_Ln_addNode_40 : decode b_Ln_addNode 40 = .ok (.iload_n 3, 1) := by decide +kernel
theorem d_Ln_addNode_41 : decode b_Ln_addNode 41 = .ok (.iastore, 1) := by decide +kernel
theorem d_Ln_addNode_42 : decode b_Ln_addNode 42 = .ok (.aload_n 0, 1) := by decide +kernel
theorem d_Ln_addNode_43 : decode b_Ln_addNode 43 = .ok (.getfield 21, 3) := by decide +kernel
theorem d_Ln_addNode_46 : decode b_Ln_addNode 46 = .ok (.aload_n 0, 1) := by decide +kernel
theorem d_Ln_addNode_47 : decode b_Ln_addNode 47 = .ok (.getfield 33, 3) := by decide +kernel
theorem d_Ln_addNode_50 : decode b_Ln_addNode 50 = .ok (.iload 4, 2) := by decide +kernel
theorem d_Ln_addNode_52 : decode b_Ln_addNode 52 = .ok (.iastore, 1) := by decide +kernel
theorem d_Ln_addNode_53 : decode b_Ln_addNode 53 = .ok (.aload_n 0, 1) := by decide +kernel
theorem d_Ln_addNode_54 : decode b_Ln_addNode 54 = .ok (.dup, 1) := by decide +kernel
theorem d_Ln_addNode_55 : decode b_Ln_addNode 55 = .ok (.getfield 33, 3) := by decide +kernel
theorem d_Ln_addNode_58 : decode b_Ln_addNode 58 = .ok (.iconst (1), 1) := by decide +kernel
theorem d_Ln_addNode_59 : decode b_Ln_addNode 59 = .ok (.iadd, 1) := by decide +kernel
theorem d_Ln_addNode_60 : decode b_Ln_addNode 60 = .ok (.putfield 33, 3) := by decide +kernel
theorem d_Ln_addNode_63 : decode b_Ln_addNode 63 = .ok (.aload_n 0, 1) := by decide +kernel
theorem d_Ln_addNode_64 : decode b_Ln_addNode 64 = .ok (.getfield 33, 3) := by decide +kernel
theorem d_Ln_addNode_67 : decode b_Ln_addNode 67 = .ok (.iconst (1), 1) := by decide +kernel
theorem d_Ln_addNode_68 : decode b_Ln_addNode 68 = .ok (.isub, 1) := by decide +kernel
theorem d_Ln_addNode_69 : decode b_Ln_addNode 69 = .ok (.ireturn, 1) := by decide +kernel
theorem d_ES_split_0 : decode b_ES_split 0 = .ok (.aload_n 0, 1) := by decide +kernel
theorem d_ES_split_1 : decode b_ES_split 1 = .ok (.iload_n 1, 1) := by decide +kernel
theorem d_ES_split_2 : decode b_ES_split 2 = .ok (.invokevirtual 71, 3) := by decide +kernel
theorem d_ES_split_5 : decode b_ES_split 5 = .ok (.ifCond .eq (26), 3) := by decide +kernel
theorem d_ES_split_8 : decode b_ES_split 8 = .ok (.aload_n 0, 1) := by decide +kernel
theorem d_ES_split_9 : decode b_ES_split 9 = .ok (.getfield 25, 3) := by decide +kernel
theorem d_ES_split_12 : decode b_ES_split 12 = .ok (.iload_n 3, 1) := by decide +kernel
theorem d_ES_split_13 : decode b_ES_split 13 = .ok (.invokevirtual 75, 3) := by decide +kernel
theorem d_ES_split_16 : decode b_ES_split 16 = .ok (.ifCond .eq (15), 3) := by decide +kernel
theorem d_ES_split_19 : decode b_ES_split 19 = .ok (.aload_n 0, 1) := by decide +kernel
theorem d_ES_split_20 : decode b_ES_split 20 = .ok (.getfield 25, 3) := by decide +kernel
theorem d_ES_split_23 : decode b_ES_split 23 = .ok (.iload 4, 2) := by decide +kernel
theorem d_ES_split_25 : decode b_ES_split 25 = .ok (.invokevirtual 75, 3) := by decide +kernel
theorem d_ES_split_28 : decode b_ES_split 28 = .ok (.ifCond .ne (5), 3) := by decide +kernel
theorem d_ES_split_31 : decode b_ES_split 31 = .ok (.iconst (-1), 1) := by decide +kernel
theorem d_ES_split_32 : decode b_ES_split 32 = .ok (.ireturn, 1) := by decide +kernel
theorem d_ES_split_33 : decode b_ES_split 33 = .ok (.iload_n 2, 1) := by decide +kernel
theorem d_ES_split_34 : decode b_ES_split 34 = .ok (.bipush (100), 2) := by decide +kernel
theorem d_ES_split_36 : decode b_ES_split 36 = .ok (.invokestatic 63, 3) := by decide +kernel
theorem d_ES_split_39 : decode b_ES_split 39 = .ok (.ifCond .ne (6), 3) := by decide +kernel
theorem d_ES_split_42 : decode b_ES_split 42 = .ok (.bipush (-2), 2) := by decide +kernel
theorem d_ES_split_44 : decode b_ES_split 44 = .ok (.ireturn, 1) := by decide +kernel
theorem d_ES_split_45 : decode b_ES_split 45 = .ok (.aload_n 0, 1) := by decide +kernel
theorem d_ES_split_46 : decode b_ES_split 46 = .ok (.getfield 25, 3) := by decide +kernel
theorem d_ES_split_49 : decode b_ES_split 49 = .ok (.iload_n 1, 1) := by decide +kernel
theorem d_ES_split_50 : decode b_ES_split 50 = .ok (.iload_n 2, 1) := by decide +kernel
theorem d_ES_split_51 : decode b_ES_split 51 = .ok (.iload_n 3, 1) := by decide +kernel
theorem d_ES_split_52 : decode b_ES_split 52 = .ok (.iload 4, 2) := by decide +kernel
theorem d_ES_split_54 : decode b_ES_split 54 = .ok (.invokevirtual 78, 3) := by decide +kernel
theorem d_ES_split_57 : decode b_ES_split 57 = .ok (.ireturn, 1) := by decide +kernel
theorem d_ES_isColumn_0 : decode b_ES_isColumn 0 = .ok (.iload_n 1, 1) := by decide +kernel
theorem d_ES_isColumn_1 : decode b_ES_isColumn 1 = .ok (.ifCond .lt (15), 3) := by decide +kernel
theorem d_ES_isColumn_4 : decode b_ES_isColumn 4 = .ok (.iload_n 1, 1) := by decide +kernel
theorem d_ES_isColumn_5 : decode b_ES_isColumn 5 = .ok (.aload_n 0, 1) := by decide +kernel
theorem d_ES_isColumn_6 : decode b_ES_isColumn 6 = .ok (.getfield 18, 3) := by decide +kernel
theorem d_ES_isColumn_9 : decode b_ES_isColumn 9 = .ok (.if_icmp .ge (7), 3) := by decide +kernel
theorem d_ES_isColumn_12 : decode b_ES_isColumn 12 = .ok (.iconst (1), 1) := by decide +kernel
theorem d_ES_isColumn_13 : decode b_ES_isColumn 13 = .ok (.goto (4), 3) := by decide +kernel
theorem d_ES_isColumn_16 : decode b_ES_isColumn 16 = .ok (.iconst (0), 1) := by decide +kernel
theorem d_ES_isColumn_17 : decode b_ES_isColumn 17 = .ok (.ireturn, 1) := by decide +kernel
theorem d_Ln_hasNode_0 : decode b_Ln_hasNode 0 = .ok (.iload_n 1, 1) := by decide +kernel
theorem d_Ln_hasNode_1 : decode b_Ln_hasNode 1 = .ok (.ifCond .lt (15), 3) := by decide +kernel
theorem d_Ln_hasNode_4 : decode b_Ln_hasNode 4 = .ok (.iload_n 1, 1) := by decide +kernel
theorem d_Ln_hasNode_5 : decode b_Ln_hasNode 5 = .ok (.aload_n 0, 1) := by decide +kernel
theorem d_Ln_hasNode_6 : decode b_Ln_hasNode 6 = .ok (.getfield 33, 3) := by decide +kernel
theorem d_Ln_hasNode_9 : decode b_Ln_hasNode 9 = .ok (.if_icmp .ge (7), 3) := by decide +kernel
theorem d_Ln_hasNode_12 : decode b_Ln_hasNode 12 = .ok (.iconst (1), 1) := by decide +kernel
theorem d_Ln_hasNode_13 : decode b_Ln_hasNode 13 = .ok (.goto (4), 3) := by decide +kernel
theorem d_Ln_hasNode_16 : decode b_Ln_hasNode 16 = .ok (.iconst (0), 1) := by decide +kernel
theorem d_Ln_hasNode_17 : decode b_Ln_hasNode 17 = .ok (.ireturn, 1) := by decide +kernel
theorem d_Ln_addSplit_0 : decode b_Ln_addSplit 0 = .ok (.aload_n 0, 1) := by decide +kernel
theorem d_Ln_addSplit_1 : decode b_Ln_addSplit 1 = .ok (.iload_n 1, 1) := by decide +kernel
theorem d_Ln_addSplit_2 : decode b_Ln_addSplit 2 = .ok (.iload_n 2, 1) := by decide +kernel
theorem d_Ln_addSplit_3 : decode b_Ln_addSplit 3 = .ok (.iload_n 3, 1) := by decide +kernel
theorem d_Ln_addSplit_4 : decode b_Ln_addSplit 4 = .ok (.iload 4, 2) := by decide +kernel
theorem d_Ln_addSplit_6 : decode b_Ln_addSplit 6 = .ok (.invokevirtual 40, 3) := by decide +kernel
theorem d_Ln_addSplit_9 : decode b_Ln_addSplit 9 = .ok (.ireturn, 1) := by decide +kernel
theorem d_ES_root_0 : decode b_ES_root 0 = .ok (.aload_n 0, 1) := by decide +kernel
theorem d_ES_root_1 : decode b_ES_root 1 = .ok (.getfield 25, 3) := by decide +kernel
theorem d_ES_root_4 : decode b_ES_root 4 = .ok (.iload_n 1, 1) := by decide +kernel
theorem d_ES_root_5 : decode b_ES_root 5 = .ok (.invokevirtual 75, 3) := by decide +kernel
theorem d_ES_root_8 : decode b_ES_root 8 = .ok (.ifCond .ne (5), 3) := by decide +kernel
theorem d_ES_root_11 : decode b_ES_root 11 = .ok (.iconst (-1), 1) := by decide +kernel
theorem d_ES_root_12 : decode b_ES_root 12 = .ok (.ireturn, 1) := by decide +kernel
theorem d_ES_root_13 : decode b_ES_root 13 = .ok (.aload_n 0, 1) := by decide +kernel
theorem d_ES_root_14 : decode b_ES_root 14 = .ok (.getfield 25, 3) := by decide +kernel
theorem d_ES_root_17 : decode b_ES_root 17 = .ok (.iload_n 1, 1) := by decide +kernel
theorem d_ES_root_18 : decode b_ES_root 18 = .ok (.invokevirtual 82, 3) := by decide +kernel
theorem d_ES_root_21 : decode b_ES_root 21 = .ok (.ireturn, 1) := by decide +kernel
theorem d_Ln_addRoot_0 : decode b_Ln_addRoot 0 = .ok (.aload_n 0, 1) := by decide +kernel
theorem d_Ln_addRoot_1 : decode b_Ln_addRoot 1 = .ok (.getfield 37, 3) := by decide +kernel
theorem d_Ln_addRoot_4 : decode b_Ln_addRoot 4 = .ok (.iconst (4), 1) := by decide +kernel
theorem d_Ln_addRoot_5 : decode b_Ln_addRoot 5 = .ok (.if_icmp .lt (6), 3) := by decide +kernel
theorem d_Ln_addRoot_8 : decode b_Ln_addRoot 8 = .ok (.bipush (-4), 2) := by decide +kernel
theorem d_Ln_addRoot_10 : decode b_Ln_addRoot 10 = .ok (.ireturn, 1) := by decide +kernel
theorem d_Ln_addRoot_11 : decode b_Ln_addRoot 11 = .ok (.aload_n 0, 1) := by decide +kernel
theorem d_Ln_addRoot_12 : decode b_Ln_addRoot 12 = .ok (.getfield 27, 3) := by decide +kernel
theorem d_Ln_addRoot_15 : decode b_Ln_addRoot 15 = .ok (.aload_n 0, 1) := by decide +kernel
theorem d_Ln_addRoot_16 : decode b_Ln_addRoot 16 = .ok (.getfield 37, 3) := by decide +kernel
theorem d_Ln_addRoot_19 : decode b_Ln_addRoot 19 = .ok (.iload_n 1, 1) := by decide +kernel
theorem d_Ln_addRoot_20 : decode b_Ln_addRoot 20 = .ok (.iastore, 1) := by decide +kernel
theorem d_Ln_addRoot_21 : decode b_Ln_addRoot 21 = .ok (.aload_n 0, 1) := by decide +kernel
theorem d_Ln_addRoot_22 : decode b_Ln_addRoot 22 = .ok (.dup, 1) := by decide +kernel
theorem d_Ln_addRoot_23 : decode b_Ln_addRoot 23 = .ok (.getfield 37, 3) := by decide +kernel
theorem d_Ln_addRoot_26 : decode b_Ln_addRoot 26 = .ok (.iconst (1), 1) := by decide +kernel
theorem d_Ln_addRoot_27 : decode b_Ln_addRoot 27 = .ok (.iadd, 1) := by decide +kernel
theorem d_Ln_addRoot_28 : decode b_Ln_addRoot 28 = .ok (.putfield 37, 3) := by decide +kernel
theorem d_Ln_addRoot_31 : decode b_Ln_addRoot 31 = .ok (.aload_n 0, 1) := by decide +kernel
theorem d_Ln_addRoot_32 : decode b_Ln_addRoot 32 = .ok (.getfield 37, 3) := by decide +kernel
theorem d_Ln_addRoot_35 : decode b_Ln_addRoot 35 = .ok (.ireturn, 1) := by decide +kernel
theorem d_ES_weight_0 : decode b_ES_weight 0 = .ok (.aload_n 0, 1) := by decide +kernel
theorem d_ES_weight_1 : decode b_ES_weight 1 = .ok (.iload_n 1, 1) := by decide +kernel
theorem d_ES_weight_2 : decode b_ES_weight 2 = .ok (.invokevirtual 71, 3) := by decide +kernel
theorem d_ES_weight_5 : decode b_ES_weight 5 = .ok (.ifCond .ne (5), 3) := by decide +kernel
theorem d_ES_weight_8 : decode b_ES_weight 8 = .ok (.iconst (-1), 1) := by decide +kernel
theorem d_ES_weight_9 : decode b_ES_weight 9 = .ok (.ireturn, 1) := by decide +kernel
theorem d_ES_weight_10 : decode b_ES_weight 10 = .ok (.iload_n 2, 1) := by decide +kernel
theorem d_ES_weight_11 : decode b_ES_weight 11 = .ok (.bipush (20), 2) := by decide +kernel
theorem d_ES_weight_13 : decode b_ES_weight 13 = .ok (.invokestatic 63, 3) := by decide +kernel
theorem d_ES_weight_16 : decode b_ES_weight 16 = .ok (.ifCond .ne (6), 3) := by decide +kernel
theorem d_ES_weight_19 : decode b_ES_weight 19 = .ok (.bipush (-2), 2) := by decide +kernel
theorem d_ES_weight_21 : decode b_ES_weight 21 = .ok (.ireturn, 1) := by decide +kernel
theorem d_ES_weight_22 : decode b_ES_weight 22 = .ok (.aload_n 0, 1) := by decide +kernel
theorem d_ES_weight_23 : decode b_ES_weight 23 = .ok (.getfield 25, 3) := by decide +kernel
theorem d_ES_weight_26 : decode b_ES_weight 26 = .ok (.iload_n 1, 1) := by decide +kernel
theorem d_ES_weight_27 : decode b_ES_weight 27 = .ok (.iload_n 2, 1) := by decide +kernel
theorem d_ES_weight_28 : decode b_ES_weight 28 = .ok (.invokevirtual 85, 3) := by decide +kernel
theorem d_ES_weight_31 : decode b_ES_weight 31 = .ok (.iconst (1), 1) := by decide +kernel
theorem d_ES_weight_32 : decode b_ES_weight 32 = .ok (.ireturn, 1) := by decide +kernel
theorem d_Ln_weigh_0 : decode b_Ln_weigh 0 = .ok (.aload_n 0, 1) := by decide +kernel
theorem d_Ln_weigh_1 : decode b_Ln_weigh 1 = .ok (.getfield 30, 3) := by decide +kernel
theorem d_Ln_weigh_4 : decode b_Ln_weigh 4 = .ok (.iload_n 1, 1) := by decide +kernel
theorem d_Ln_weigh_5 : decode b_Ln_weigh 5 = .ok (.iload_n 2, 1) := by decide +kernel
theorem d_Ln_weigh_6 : decode b_Ln_weigh 6 = .ok (.iastore, 1) := by decide +kernel
theorem d_Ln_weigh_7 : decode b_Ln_weigh 7 = .ok (.return_, 1) := by decide +kernel
theorem d_ES_clear_0 : decode b_ES_clear 0 = .ok (.aload_n 0, 1) := by decide +kernel
theorem d_ES_clear_1 : decode b_ES_clear 1 = .ok (.getfield 25, 3) := by decide +kernel
theorem d_ES_clear_4 : decode b_ES_clear 4 = .ok (.invokevirtual 89, 3) := by decide +kernel
theorem d_ES_clear_7 : decode b_ES_clear 7 = .ok (.istore_n 1, 1) := by decide +kernel
theorem d_ES_clear_8 : decode b_ES_clear 8 = .ok (.aload_n 0, 1) := by decide +kernel
theorem d_ES_clear_9 : decode b_ES_clear 9 = .ok (.getfield 32, 3) := by decide +kernel
theorem d_ES_clear_12 : decode b_ES_clear 12 = .ok (.invokevirtual 93, 3) := by decide +kernel
theorem d_ES_clear_15 : decode b_ES_clear 15 = .ok (.aload_n 0, 1) := by decide +kernel
theorem d_ES_clear_16 : decode b_ES_clear 16 = .ok (.getfield 41, 3) := by decide +kernel
theorem d_ES_clear_19 : decode b_ES_clear 19 = .ok (.invokevirtual 95, 3) := by decide +kernel
theorem d_ES_clear_22 : decode b_ES_clear 22 = .ok (.aload_n 0, 1) := by decide +kernel
theorem d_ES_clear_23 : decode b_ES_clear 23 = .ok (.getfield 59, 3) := by decide +kernel
theorem d_ES_clear_26 : decode b_ES_clear 26 = .ok (.invokevirtual 98, 3) := by decide +kernel
theorem d_ES_clear_29 : decode b_ES_clear 29 = .ok (.iload_n 1, 1) := by decide +kernel
theorem d_ES_clear_30 : decode b_ES_clear 30 = .ok (.ireturn, 1) := by decide +kernel
theorem d_Ln_forget_0 : decode b_Ln_forget 0 = .ok (.aload_n 0, 1) := by decide +kernel
theorem d_Ln_forget_1 : decode b_Ln_forget 1 = .ok (.getfield 33, 3) := by decide +kernel
theorem d_Ln_forget_4 : decode b_Ln_forget 4 = .ok (.istore_n 1, 1) := by decide +kernel
theorem d_Ln_forget_5 : decode b_Ln_forget 5 = .ok (.aload_n 0, 1) := by decide +kernel
theorem d_Ln_forget_6 : decode b_Ln_forget 6 = .ok (.iconst (0), 1) := by decide +kernel
theorem d_Ln_forget_7 : decode b_Ln_forget 7 = .ok (.putfield 33, 3) := by decide +kernel
theorem d_Ln_forget_10 : decode b_Ln_forget 10 = .ok (.aload_n 0, 1) := by decide +kernel
theorem d_Ln_forget_11 : decode b_Ln_forget 11 = .ok (.iconst (0), 1) := by decide +kernel
theorem d_Ln_forget_12 : decode b_Ln_forget 12 = .ok (.putfield 37, 3) := by decide +kernel
theorem d_Ln_forget_15 : decode b_Ln_forget 15 = .ok (.iconst (0), 1) := by decide +kernel
theorem d_Ln_forget_16 : decode b_Ln_forget 16 = .ok (.istore_n 2, 1) := by decide +kernel
theorem d_Ln_forget_17 : decode b_Ln_forget 17 = .ok (.iload_n 2, 1) := by decide +kernel
theorem d_Ln_forget_18 : decode b_Ln_forget 18 = .ok (.bipush (6), 2) := by decide +kernel
theorem d_Ln_forget_20 : decode b_Ln_forget 20 = .ok (.if_icmp .ge (16), 3) := by decide +kernel
theorem d_Ln_forget_23 : decode b_Ln_forget 23 = .ok (.aload_n 0, 1) := by decide +kernel
theorem d_Ln_forget_24 : decode b_Ln_forget 24 = .ok (.getfield 30, 3) := by decide +kernel
theorem d_Ln_forget_27 : decode b_Ln_forget 27 = .ok (.iload_n 2, 1) := by decide +kernel
theorem d_Ln_forget_28 : decode b_Ln_forget 28 = .ok (.iconst (0), 1) := by decide +kernel
theorem d_Ln_forget_29 : decode b_Ln_forget 29 = .ok (.iastore, 1) := by decide +kernel
theorem d_Ln_forget_30 : decode b_Ln_forget 30 = .ok (.iinc 2 (1), 3) := by decide +kernel
theorem d_Ln_forget_33 : decode b_Ln_forget 33 = .ok (.goto (-16), 3) := by decide +kernel
theorem d_Ln_forget_36 : decode b_Ln_forget 36 = .ok (.iload_n 1, 1) := by decide +kernel
theorem d_Ln_forget_37 : decode b_Ln_forget 37 = .ok (.ireturn, 1) := by decide +kernel
theorem d_Rw_forget_0 : decode b_Rw_forget 0 = .ok (.aload_n 0, 1) := by decide +kernel
theorem d_Rw_forget_1 : decode b_Rw_forget 1 = .ok (.getfield 9, 3) := by decide +kernel
theorem d_Rw_forget_4 : decode b_Rw_forget 4 = .ok (.invokestatic 24, 3) := by decide +kernel
theorem d_Rw_forget_7 : decode b_Rw_forget 7 = .ok (.aload_n 0, 1) := by decide +kernel
theorem d_Rw_forget_8 : decode b_Rw_forget 8 = .ok (.iconst (0), 1) := by decide +kernel
theorem d_Rw_forget_9 : decode b_Rw_forget 9 = .ok (.putfield 20, 3) := by decide +kernel
theorem d_Rw_forget_12 : decode b_Rw_forget 12 = .ok (.return_, 1) := by decide +kernel
theorem d_Rw_empty_0 : decode b_Rw_empty 0 = .ok (.iconst (0), 1) := by decide +kernel
theorem d_Rw_empty_1 : decode b_Rw_empty 1 = .ok (.istore_n 1, 1) := by decide +kernel
theorem d_Rw_empty_2 : decode b_Rw_empty 2 = .ok (.iload_n 1, 1) := by decide +kernel
theorem d_Rw_empty_3 : decode b_Rw_empty 3 = .ok (.aload_n 0, 1) := by decide +kernel
theorem d_Rw_empty_4 : decode b_Rw_empty 4 = .ok (.arraylength, 1) := by decide +kernel
theorem d_Rw_empty_5 : decode b_Rw_empty 5 = .ok (.if_icmp .ge (13), 3) := by decide +kernel
theorem d_Rw_empty_8 : decode b_Rw_empty 8 = .ok (.aload_n 0, 1) := by decide +kernel
theorem d_Rw_empty_9 : decode b_Rw_empty 9 = .ok (.iload_n 1, 1) := by decide +kernel
theorem d_Rw_empty_10 : decode b_Rw_empty 10 = .ok (.iconst (0), 1) := by decide +kernel
theorem d_Rw_empty_11 : decode b_Rw_empty 11 = .ok (.iastore, 1) := by decide +kernel
theorem d_Rw_empty_12 : decode b_Rw_empty 12 = .ok (.iinc 1 (1), 3) := by decide +kernel
theorem d_Rw_empty_15 : decode b_Rw_empty 15 = .ok (.goto (-13), 3) := by decide +kernel
theorem d_Rw_empty_18 : decode b_Rw_empty 18 = .ok (.return_, 1) := by decide +kernel
theorem d_Se_unbarAll_0 : decode b_Se_unbarAll 0 = .ok (.iconst (0), 1) := by decide +kernel
theorem d_Se_unbarAll_1 : decode b_Se_unbarAll 1 = .ok (.istore_n 1, 1) := by decide +kernel
theorem d_Se_unbarAll_2 : decode b_Se_unbarAll 2 = .ok (.iload_n 1, 1) := by decide +kernel
theorem d_Se_unbarAll_3 : decode b_Se_unbarAll 3 = .ok (.bipush (6), 2) := by decide +kernel
theorem d_Se_unbarAll_5 : decode b_Se_unbarAll 5 = .ok (.if_icmp .ge (16), 3) := by decide +kernel
theorem d_Se_unbarAll_8 : decode b_Se_unbarAll 8 = .ok (.aload_n 0, 1) := by decide +kernel
theorem d_Se_unbarAll_9 : decode b_Se_unbarAll 9 = .ok (.getfield 9, 3) := by decide +kernel
theorem d_Se_unbarAll_12 : decode b_Se_unbarAll 12 = .ok (.iload_n 1, 1) := by decide +kernel
theorem d_Se_unbarAll_13 : decode b_Se_unbarAll 13 = .ok (.iconst (0), 1) := by decide +kernel
theorem d_Se_unbarAll_14 : decode b_Se_unbarAll 14 = .ok (.bastore, 1) := by decide +kernel
theorem d_Se_unbarAll_15 : decode b_Se_unbarAll 15 = .ok (.iinc 1 (1), 3) := by decide +kernel
theorem d_Se_unbarAll_18 : decode b_Se_unbarAll 18 = .ok (.goto (-16), 3) := by decide +kernel
theorem d_Se_unbarAll_21 : decode b_Se_unbarAll 21 = .ok (.return_, 1) := by decide +kernel
theorem d_ES_background_0 : decode b_ES_background 0 = .ok (.aload_n 0, 1) := by decide +kernel
theorem d_ES_background_1 : decode b_ES_background 1 = .ok (.getfield 32, 3) := by decide +kernel
theorem d_ES_background_4 : decode b_ES_background 4 = .ok (.invokevirtual 101, 3) := by decide +kernel
theorem d_ES_background_7 : decode b_ES_background 7 = .ok (.ireturn, 1) := by decide +kernel
theorem d_Rw_addRow_0 : decode b_Rw_addRow 0 = .ok (.aload_n 0, 1) := by decide +kernel
theorem d_Rw_addRow_1 : decode b_Rw_addRow 1 = .ok (.getfield 20, 3) := by decide +kernel
theorem d_Rw_addRow_4 : decode b_Rw_addRow 4 = .ok (.iconst (5), 1) := by decide +kernel
theorem d_Rw_addRow_5 : decode b_Rw_addRow 5 = .ok (.if_icmp .lt (6), 3) := by decide +kernel
theorem d_Rw_addRow_8 : decode b_Rw_addRow 8 = .ok (.bipush (-4), 2) := by decide +kernel
theorem d_Rw_addRow_10 : decode b_Rw_addRow 10 = .ok (.ireturn, 1) := by decide +kernel
theorem d_Rw_addRow_11 : decode b_Rw_addRow 11 = .ok (.aload_n 0, 1) := by decide +kernel
theorem d_Rw_addRow_12 : decode b_Rw_addRow 12 = .ok (.getfield 17, 3) := by decide +kernel
theorem d_Rw_addRow_15 : decode b_Rw_addRow 15 = .ok (.aload_n 0, 1) := by decide +kernel
theorem d_Rw_addRow_16 : decode b_Rw_addRow 16 = .ok (.getfield 20, 3) := by decide +kernel
theorem d_Rw_addRow_19 : decode b_Rw_addRow 19 = .ok (.aaload, 1) := by decide +kernel
theorem d_Rw_addRow_20 : decode b_Rw_addRow 20 = .ok (.invokestatic 24, 3) := by decide +kernel
theorem d_Rw_addRow_23 : decode b_Rw_addRow 23 = .ok (.aload_n 0, 1) := by decide +kernel
theorem d_Rw_addRow_24 : decode b_Rw_addRow 24 = .ok (.dup, 1) := by decide +kernel
theorem d_Rw_addRow_25 : decode b_Rw_addRow 25 = .ok (.getfield 20, 3) := by decide +kernel
theorem d_Rw_addRow_28 : decode b_Rw_addRow 28 = .ok (.iconst (1), 1) := by decide +kernel
theorem d_Rw_addRow_29 : decode b_Rw_addRow 29 = .ok (.iadd, 1) := by decide +kernel
theorem d_Rw_addRow_30 : decode b_Rw_addRow 30 = .ok (.putfield 20, 3) := by decide +kernel
theorem d_Rw_addRow_33 : decode b_Rw_addRow 33 = .ok (.aload_n 0, 1) := by decide +kernel
theorem d_Rw_addRow_34 : decode b_Rw_addRow 34 = .ok (.getfield 20, 3) := by decide +kernel
theorem d_Rw_addRow_37 : decode b_Rw_addRow 37 = .ok (.iconst (1), 1) := by decide +kernel
theorem d_Rw_addRow_38 : decode b_Rw_addRow 38 = .ok (.isub, 1) := by decide +kernel
theorem d_Rw_addRow_39 : decode b_Rw_addRow 39 = .ok (.ireturn, 1) := by decide +kernel
theorem d_ES_item_0 : decode b_ES_item 0 = .ok (.aload_n 0, 1) := by decide +kernel
theorem d_ES_item_1 : decode b_ES_item 1 = .ok (.getfield 32, 3) := by decide +kernel
theorem d_ES_item_4 : decode b_ES_item 4 = .ok (.iload_n 1, 1) := by decide +kernel
theorem d_ES_item_5 : decode b_ES_item 5 = .ok (.invokevirtual 104, 3) := by decide +kernel
theorem d_ES_item_8 : decode b_ES_item 8 = .ok (.ifCond .eq (11), 3) := by decide +kernel
theorem d_ES_item_11 : decode b_ES_item 11 = .ok (.aload_n 0, 1) := by decide +kernel
theorem d_ES_item_12 : decode b_ES_item 12 = .ok (.iload_n 2, 1) := by decide +kernel
theorem d_ES_item_13 : decode b_ES_item 13 = .ok (.invokevirtual 71, 3) := by decide +kernel
theorem d_ES_item_16 : decode b_ES_item 16 = .ok (.ifCond .ne (5), 3) := by decide +kernel
theorem d_ES_item_19 : decode b_ES_item 19 = .ok (.iconst (-1), 1) := by decide +kernel
theorem d_ES_item_20 : decode b_ES_item 20 = .ok (.ireturn, 1) := by decide +kernel
theorem d_ES_item_21 : decode b_ES_item 21 = .ok (.iload_n 3, 1) := by decide +kernel
theorem d_ES_item_22 : decode b_ES_item 22 = .ok (.bipush (100), 2) := by decide +kernel
theorem d_ES_item_24 : decode b_ES_item 24 = .ok (.invokestatic 63, 3) := by decide +kernel
theorem d_ES_item_27 : decode b_ES_item 27 = .ok (.ifCond .ne (6), 3) := by decide +kernel
theorem d_ES_item_30 : decode b_ES_item 30 = .ok (.bipush (-2), 2) := by decide +kernel
theorem d_ES_item_32 : decode b_ES_item 32 = .ok (.ireturn, 1) := by decide +kernel
theorem d_ES_item_33 : decode b_ES_item 33 = .ok (.aload_n 0, 1) := by decide +kernel
theorem d_ES_item_34 : decode b_ES_item 34 = .ok (.getfield 32, 3) := by decide +kernel
theorem d_ES_item_37 : decode b_ES_item 37 = .ok (.iload_n 1, 1) := by decide +kernel
theorem d_ES_item_38 : decode b_ES_item 38 = .ok (.invokevirtual 107, 3) := by decide +kernel
theorem d_ES_item_41 : decode b_ES_item 41 = .ok (.iload_n 2, 1) := by decide +kernel
theorem d_ES_item_42 : decode b_ES_item 42 = .ok (.iload_n 3, 1) := by decide +kernel
theorem d_ES_item_43 : decode b_ES_item 43 = .ok (.iastore, 1) := by decide +kernel
theorem d_ES_item_44 : decode b_ES_item 44 = .ok (.iconst (1), 1) := by decide +kernel
theorem d_ES_item_45 : decode b_ES_item 45 = .ok (.ireturn, 1) := by decide +kernel
theorem d_Rw_has_0 : decode b_Rw_has 0 = .ok (.iload_n 1, 1) := by decide +kernel
theorem d_Rw_has_1 : decode b_Rw_has 1 = .ok (.iconst (-1), 1) := by decide +kernel
theorem d_Rw_has_2 : decode b_Rw_has 2 = .ok (.if_icmp .lt (15), 3) := by decide +kernel
theorem d_Rw_has_5 : decode b_Rw_has 5 = .ok (.iload_n 1, 1) := by decide +kernel
theorem d_Rw_has_6 : decode b_Rw_has 6 = .ok (.aload_n 0, 1) := by decide +kernel
theorem d_Rw_has_7 : decode b_Rw_has 7 = .ok (.getfield 20, 3) := by decide +kernel
theorem d_Rw_has_10 : decode b_Rw_has 10 = .ok (.if_icmp .ge (7), 3) := by decide +kernel
theorem d_Rw_has_13 : decode b_Rw_has 13 = .ok (.iconst (1), 1) := by decide +kernel
theorem d_Rw_has_14 : decode b_Rw_has 14 = .ok (.goto (4), 3) := by decide +kernel
theorem d_Rw_has_17 : decode b_Rw_has 17 = .ok (.iconst (0), 1) := by decide +kernel
theorem d_Rw_has_18 : decode b_Rw_has 18 = .ok (.ireturn, 1) := by decide +kernel
theorem d_Rw_at_0 : decode b_Rw_at 0 = .ok (.iload_n 1, 1) := by decide +kernel
theorem d_Rw_at_1 : decode b_Rw_at 1 = .ok (.ifCond .lt (17), 3) := by decide +kernel
theorem d_Rw_at_4 : decode b_Rw_at 4 = .ok (.iload_n 1, 1) := by decide +kernel
theorem d_Rw_at_5 : decode b_Rw_at 5 = .ok (.iconst (5), 1) := by decide +kernel
theorem d_Rw_at_6 : decode b_Rw_at 6 = .ok (.if_icmp .ge (12), 3) := by decide +kernel
theorem d_Rw_at_9 : decode b_Rw_at 9 = .ok (.aload_n 0, 1) := by decide +kernel
theorem d_Rw_at_10 : decode b_Rw_at 10 = .ok (.getfield 17, 3) := by decide +kernel
theorem d_Rw_at_13 : decode b_Rw_at 13 = .ok (.iload_n 1, 1) := by decide +kernel
theorem d_Rw_at_14 : decode b_Rw_at 14 = .ok (.aaload, 1) := by decide +kernel
theorem d_Rw_at_15 : decode b_Rw_at 15 = .ok (.goto (7), 3) := by decide +kernel
theorem d_Rw_at_18 : decode b_Rw_at 18 = .ok (.aload_n 0, 1) := by decide +kernel
theorem d_Rw_at_19 : decode b_Rw_at 19 = .ok (.getfield 9, 3) := by decide +kernel
theorem d_Rw_at_22 : decode b_Rw_at 22 = .ok (.areturn, 1) := by decide +kernel
theorem d_ES_group_0 : decode b_ES_group 0 = .ok (.aload_n 0, 1) := by decide +kernel
theorem d_ES_group_1 : decode b_ES_group 1 = .ok (.iload_n 1, 1) := by decide +kernel
theorem d_ES_group_2 : decode b_ES_group 2 = .ok (.invokevirtual 71, 3) := by decide +kernel
theorem d_ES_group_5 : decode b_ES_group 5 = .ok (.ifCond .ne (5), 3) := by decide +kernel
theorem d_ES_group_8 : decode b_ES_group 8 = .ok (.iconst (-1), 1) := by decide +kernel
theorem d_ES_group_9 : decode b_ES_group 9 = .ok (.ireturn, 1) := by decide +kernel
theorem d_ES_group_10 : decode b_ES_group 10 = .ok (.aload_n 0, 1) := by decide +kernel
theorem d_ES_group_11 : decode b_ES_group 11 = .ok (.iload_n 2, 1) := by decide +kernel
theorem d_ES_group_12 : decode b_ES_group 12 = .ok (.invokevirtual 71, 3) := by decide +kernel
theorem d_ES_group_15 : decode b_ES_group 15 = .ok (.ifCond .ne (6), 3) := by decide +kernel
theorem d_ES_group_18 : decode b_ES_group 18 = .ok (.bipush (-2), 2) := by decide +kernel
theorem d_ES_group_20 : decode b_ES_group 20 = .ok (.ireturn, 1) := by decide +kernel
theorem d_ES_group_21 : decode b_ES_group 21 = .ok (.aload_n 0, 1) := by decide +kernel
theorem d_ES_group_22 : decode b_ES_group 22 = .ok (.getfield 41, 3) := by decide +kernel
theorem d_ES_group_25 : decode b_ES_group 25 = .ok (.iload_n 1, 1) := by decide +kernel
theorem d_ES_group_26 : decode b_ES_group 26 = .ok (.iload_n 2, 1) := by decide +kernel
theorem d_ES_group_27 : decode b_ES_group 27 = .ok (.invokevirtual 111, 3) := by decide +kernel
theorem d_ES_group_30 : decode b_ES_group 30 = .ok (.ireturn, 1) := by decide +kernel
theorem d_Gr_move_0 : decode b_Gr_move 0 = .ok (.aload_n 0, 1) := by decide +kernel
theorem d_Gr_move_1 : decode b_Gr_move 1 = .ok (.getfield 9, 3) := by decide +kernel
theorem d_Gr_move_4 : decode b_Gr_move 4 = .ok (.iload_n 1, 1) := by decide +kernel
theorem d_Gr_move_5 : decode b_Gr_move 5 = .ok (.iaload, 1) := by decide +kernel
theorem d_Gr_move_6 : decode b_Gr_move 6 = .ok (.istore_n 3, 1) := by decide +kernel
theorem d_Gr_move_7 : decode b_Gr_move 7 = .ok (.aload_n 0, 1) := by decide +kernel
theorem d_Gr_move_8 : decode b_Gr_move 8 = .ok (.getfield 9, 3) := by decide +kernel
theorem d_Gr_move_11 : decode b_Gr_move 11 = .ok (.iload_n 1, 1) := by decide +kernel
theorem d_Gr_move_12 : decode b_Gr_move 12 = .ok (.iload_n 2, 1) := by decide +kernel
theorem d_Gr_move_13 : decode b_Gr_move 13 = .ok (.iastore, 1) := by decide +kernel
theorem d_Gr_move_14 : decode b_Gr_move 14 = .ok (.iload_n 3, 1) := by decide +kernel
theorem d_Gr_move_15 : decode b_Gr_move 15 = .ok (.ireturn, 1) := by decide +kernel
theorem d_ES_answer_0 : decode b_ES_answer 0 = .ok (.aload_n 0, 1) := by decide +kernel
theorem d_ES_answer_1 : decode b_ES_answer 1 = .ok (.getfield 32, 3) := by decide +kernel
theorem d_ES_answer_4 : decode b_ES_answer 4 = .ok (.iload_n 1, 1) := by decide +kernel
theorem d_ES_answer_5 : decode b_ES_answer 5 = .ok (.invokevirtual 104, 3) := by decide +kernel
theorem d_ES_answer_8 : decode b_ES_answer 8 = .ok (.ifCond .ne (7), 3) := by decide +kernel
theorem d_ES_answer_11 : decode b_ES_answer 11 = .ok (.ldc2_w 114, 3) := by decide +kernel
theorem d_ES_answer_14 : decode b_ES_answer 14 = .ok (.lreturn, 1) := by decide +kernel
theorem d_ES_answer_15 : decode b_ES_answer 15 = .ok (.aload_n 0, 1) := by decide +kernel
theorem d_ES_answer_16 : decode b_ES_answer 16 = .ok (.getfield 25, 3) := by decide +kernel
theorem d_ES_answer_19 : decode b_ES_answer 19 = .ok (.aload_n 0, 1) := by decide +kernel
theorem d_ES_answer_20 : decode b_ES_answer 20 = .ok (.getfield 32, 3) := by decide +kernel
theorem d_ES_answer_23 : decode b_ES_answer 23 = .ok (.iload_n 1, 1) := by decide +kernel
theorem d_ES_answer_24 : decode b_ES_answer 24 = .ok (.invokevirtual 107, 3) := by decide +kernel
theorem d_ES_answer_27 : decode b_ES_answer 27 = .ok (.invokevirtual 116, 3) := by decide +kernel
theorem d_ES_answer_30 : decode b_ES_answer 30 = .ok (.i2l, 1) := by decide +kernel
theorem d_ES_answer_31 : decode b_ES_answer 31 = .ok (.lreturn, 1) := by decide +kernel
theorem d_Ln_sumFor_0 : decode b_Ln_sumFor 0 = .ok (.iconst (0), 1) := by decide +kernel
theorem d_Ln_sumFor_1 : decode b_Ln_sumFor 1 = .ok (.istore_n 2, 1) := by decide +kernel
theorem d_Ln_sumFor_2 : decode b_Ln_sumFor 2 = .ok (.iconst (0), 1) := by decide +kernel
theorem d_Ln_sumFor_3 : decode b_Ln_sumFor 3 = .ok (.istore_n 3, 1) := by decide +kernel
theorem d_Ln_sumFor_4 : decode b_Ln_sumFor 4 = .ok (.iload_n 3, 1) := by decide +kernel
theorem d_Ln_sumFor_5 : decode b_Ln_sumFor 5 = .ok (.aload_n 0, 1) := by decide +kernel
theorem d_Ln_sumFor_6 : decode b_Ln_sumFor 6 = .ok (.getfield 37, 3) := by decide +kernel
theorem d_Ln_sumFor_9 : decode b_Ln_sumFor 9 = .ok (.if_icmp .ge (23), 3) := by decide +kernel
theorem d_Ln_sumFor_12 : decode b_Ln_sumFor 12 = .ok (.iload_n 2, 1) := by decide +kernel
theorem d_Ln_sumFor_13 : decode b_Ln_sumFor 13 = .ok (.aload_n 0, 1) := by decide +kernel
theorem d_Ln_sumFor_14 : decode b_Ln_sumFor 14 = .ok (.aload_n 0, 1) := by decide +kernel
theorem d_Ln_sumFor_15 : decode b_Ln_sumFor 15 = .ok (.getfield 27, 3) := by decide +kernel
theorem d_Ln_sumFor_18 : decode b_Ln_sumFor 18 = .ok (.iload_n 3, 1) := by decide +kernel
theorem d_Ln_sumFor_19 : decode b_Ln_sumFor 19 = .ok (.iaload, 1) := by decide +kernel
theorem d_Ln_sumFor_20 : decode b_Ln_sumFor 20 = .ok (.aload_n 1, 1) := by decide +kernel
theorem d_Ln_sumFor_21 : decode b_Ln_sumFor 21 = .ok (.invokevirtual 44, 3) := by decide +kernel
theorem d_Ln_sumFor_24 : decode b_Ln_sumFor 24 = .ok (.iadd, 1) := by decide +kernel
theorem d_Ln_sumFor_25 : decode b_Ln_sumFor 25 = .ok (.istore_n 2, 1) := by decide +kernel
theorem d_Ln_sumFor_26 : decode b_Ln_sumFor 26 = .ok (.iinc 3 (1), 3) := by decide +kernel
theorem d_Ln_sumFor_29 : decode b_Ln_sumFor 29 = .ok (.goto (-25), 3) := by decide +kernel
theorem d_Ln_sumFor_32 : decode b_Ln_sumFor 32 = .ok (.iconst (0), 1) := by decide +kernel
theorem d_Ln_sumFor_33 : decode b_Ln_sumFor 33 = .ok (.istore_n 3, 1) := by decide +kernel
theorem d_Ln_sumFor_34 : decode b_Ln_sumFor 34 = .ok (.iload_n 3, 1) := by decide +kernel
theorem d_Ln_sumFor_35 : decode b_Ln_sumFor 35 = .ok (.bipush (6), 2) := by decide +kernel
theorem d_Ln_sumFor_37 : decode b_Ln_sumFor 37 = .ok (.if_icmp .ge (22), 3) := by decide +kernel
theorem d_Ln_sumFor_40 : decode b_Ln_sumFor 40 = .ok (.iload_n 2, 1) := by decide +kernel
theorem d_Ln_sumFor_41 : decode b_Ln_sumFor 41 = .ok (.aload_n 0, 1) := by decide +kernel
theorem d_Ln_sumFor_42 : decode b_Ln_sumFor 42 = .ok (.getfield 30, 3) := by decide +kernel
theorem d_Ln_sumFor_45 : decode b_Ln_sumFor 45 = .ok (.iload_n 3, 1) := by decide +kernel
theorem d_Ln_sumFor_46 : decode b_Ln_sumFor 46 = .ok (.iaload, 1) := by decide +kernel
theorem d_Ln_sumFor_47 : decode b_Ln_sumFor 47 = .ok (.aload_n 1, 1) := by decide +kernel
theorem d_Ln_sumFor_48 : decode b_Ln_sumFor 48 = .ok (.iload_n 3, 1) := by decide +kernel
theorem d_Ln_sumFor_49 : decode b_Ln_sumFor 49 = .ok (.iaload, 1) := by decide +kernel
theorem d_Ln_sumFor_50 : decode b_Ln_sumFor 50 = .ok (.imul, 1) := by decide +kernel
theorem d_Ln_sumFor_51 : decode b_Ln_sumFor 51 = .ok (.iadd, 1) := by decide +kernel
theorem d_Ln_sumFor_52 : decode b_Ln_sumFor 52 = .ok (.istore_n 2, 1) := by decide +kernel
theorem d_Ln_sumFor_53 : decode b_Ln_sumFor 53 = .ok (.iinc 3 (1), 3) := by decide +kernel
theorem d_Ln_sumFor_56 : decode b_Ln_sumFor 56 = .ok (.goto (-22), 3) := by decide +kernel
theorem d_Ln_sumFor_59 : decode b_Ln_sumFor 59 = .ok (.iload_n 2, 1) := by decide +kernel
theorem d_Ln_sumFor_60 : decode b_Ln_sumFor 60 = .ok (.ireturn, 1) := by decide +kernel
theorem d_Ln_givenBy_0 : decode b_Ln_givenBy 0 = .ok (.iload_n 1, 1) := by decide +kernel
theorem d_Ln_givenBy_1 : decode b_Ln_givenBy 1 = .ok (.istore_n 3, 1) := by decide +kernel
theorem d_Ln_givenBy_2 : decode b_Ln_givenBy 2 = .ok (.iconst (0), 1) := by decide +kernel
theorem d_Ln_givenBy_3 : decode b_Ln_givenBy 3 = .ok (.istore 4, 2) := by decide +kernel
theorem d_Ln_givenBy_5 : decode b_Ln_givenBy 5 = .ok (.iload 4, 2) := by decide +kernel
theorem d_Ln_givenBy_7 : decode b_Ln_givenBy 7 = .ok (.aload_n 0, 1) := by decide +kernel
theorem d_Ln_givenBy_8 : decode b_Ln_givenBy 8 = .ok (.getfield 33, 3) := by decide +kernel
theorem d_Ln_givenBy_11 : decode b_Ln_givenBy 11 = .ok (.if_icmp .ge (64), 3) := by decide +kernel
theorem d_Ln_givenBy_14 : decode b_Ln_givenBy 14 = .ok (.aload_n 0, 1) := by decide +kernel
theorem d_Ln_givenBy_15 : decode b_Ln_givenBy 15 = .ok (.getfield 9, 3) := by decide +kernel
theorem d_Ln_givenBy_18 : decode b_Ln_givenBy 18 = .ok (.iload_n 3, 1) := by decide +kernel
theorem d_Ln_givenBy_19 : decode b_Ln_givenBy 19 = .ok (.iaload, 1) := by decide +kernel
theorem d_Ln_givenBy_20 : decode b_Ln_givenBy 20 = .ok (.iconst (-1), 1) := by decide +kernel
theorem d_Ln_givenBy_21 : decode b_Ln_givenBy 21 = .ok (.if_icmp .eq (54), 3) := by decide +kernel
theorem d_Ln_givenBy_24 : decode b_Ln_givenBy 24 = .ok (.aload_n 2, 1) := by decide +kernel
theorem d_Ln_givenBy_25 : decode b_Ln_givenBy 25 = .ok (.aload_n 0, 1) := by decide +kernel
theorem d_Ln_givenBy_26 : decode b_Ln_givenBy 26 = .ok (.getfield 9, 3) := by decide +kernel
theorem d_Ln_givenBy_29 : decode b_Ln_givenBy 29 = .ok (.iload_n 3, 1) := by decide +kernel
theorem d_Ln_givenBy_30 : decode b_Ln_givenBy 30 = .ok (.iaload, 1) := by decide +kernel
theorem d_Ln_givenBy_31 : decode b_Ln_givenBy 31 = .ok (.iaload, 1) := by decide +kernel
theorem d_Ln_givenBy_32 : decode b_Ln_givenBy 32 = .ok (.aload_n 0, 1) := by decide +kernel
theorem d_Ln_givenBy_33 : decode b_Ln_givenBy 33 = .ok (.getfield 15, 3) := by decide +kernel
theorem d_Ln_givenBy_36 : decode b_Ln_givenBy 36 = .ok (.iload_n 3, 1) := by decide +kernel
theorem d_Ln_givenBy_37 : decode b_Ln_givenBy 37 = .ok (.iaload, 1) := by decide +kernel
theorem d_Ln_givenBy_38 : decode b_Ln_givenBy 38 = .ok (.if_icmp .gt (7), 3) := by decide +kernel
theorem d_Ln_givenBy_41 : decode b_Ln_givenBy 41 = .ok (.iconst (1), 1) := by decide +kernel
theorem d_Ln_givenBy_42 : decode b_Ln_givenBy 42 = .ok (.goto (4), 3) := by decide +kernel
theorem d_Ln_givenBy_45 : decode b_Ln_givenBy 45 = .ok (.iconst (0), 1) := by decide +kernel
theorem d_Ln_givenBy_46 : decode b_Ln_givenBy 46 = .ok (.istore 5, 2) := by decide +kernel
theorem d_Ln_givenBy_48 : decode b_Ln_givenBy 48 = .ok (.iload 5, 2) := by decide +kernel
theorem d_Ln_givenBy_50 : decode b_Ln_givenBy 50 = .ok (.ifCond .eq (12), 3) := by decide +kernel
theorem d_Ln_givenBy_53 : decode b_Ln_givenBy 53 = .ok (.aload_n 0, 1) := by decide +kernel
theorem d_Ln_givenBy_54 : decode b_Ln_givenBy 54 = .ok (.getfield 18, 3) := by decide +kernel
theorem d_Ln_givenBy_57 : decode b_Ln_givenBy 57 = .ok (.iload_n 3, 1) := by decide +kernel
theorem d_Ln_givenBy_58 : decode b_Ln_givenBy 58 = .ok (.iaload, 1) := by decide +kernel
theorem d_Ln_givenBy_59 : decode b_Ln_givenBy 59 = .ok (.goto (9), 3) := by decide +kernel
theorem d_Ln_givenBy_62 : decode b_Ln_givenBy 62 = .ok (.aload_n 0, 1) := by decide +kernel
theorem d_Ln_givenBy_63 : decode b_Ln_givenBy 63 = .ok (.getfield 21, 3) := by decide +kernel
theorem d_Ln_givenBy_66 : decode b_Ln_givenBy 66 = .ok (.iload_n 3, 1) := by decide +kernel
theorem d_Ln_givenBy_67 : decode b_Ln_givenBy 67 = .ok (.iaload, 1) := by decide +kernel
theorem d_Ln_givenBy_68 : decode b_Ln_givenBy 68 = .ok (.istore_n 3, 1) := by decide +kernel
theorem d_Ln_givenBy_69 : decode b_Ln_givenBy 69 = .ok (.iinc 4 (1), 3) := by decide +kernel
theorem d_Ln_givenBy_72 : decode b_Ln_givenBy 72 = .ok (.goto (-67), 3) := by decide +kernel
theorem d_Ln_givenBy_75 : decode b_Ln_givenBy 75 = .ok (.aload_n 0, 1) := by decide +kernel
theorem d_Ln_givenBy_76 : decode b_Ln_givenBy 76 = .ok (.getfield 15, 3) := by decide +kernel
theorem d_Ln_givenBy_79 : decode b_Ln_givenBy 79 = .ok (.iload_n 3, 1) := by decide +kernel
theorem d_Ln_givenBy_80 : decode b_Ln_givenBy 80 = .ok (.iaload, 1) := by decide +kernel
theorem d_Ln_givenBy_81 : decode b_Ln_givenBy 81 = .ok (.ireturn, 1) := by decide +kernel
theorem d_ES_rank_0 : decode b_ES_rank 0 = .ok (.iload_n 1, 1) := by decide +kernel
theorem d_ES_rank_1 : decode b_ES_rank 1 = .ok (.ifCond .lt (14), 3) := by decide +kernel
theorem d_ES_rank_4 : decode b_ES_rank 4 = .ok (.iload_n 1, 1) := by decide +kernel
theorem d_ES_rank_5 : decode b_ES_rank 5 = .ok (.aload_n 0, 1) := by decide +kernel
theorem d_ES_rank_6 : decode b_ES_rank 6 = .ok (.getfield 41, 3) := by decide +kernel
theorem d_ES_rank_9 : decode b_ES_rank 9 = .ok (.invokevirtual 164, 3) := by decide +kernel
theorem d_ES_rank_12 : decode b_ES_rank 12 = .ok (.if_icmp .lt (5), 3) := by decide +kernel
theorem d_ES_rank_15 : decode b_ES_rank 15 = .ok (.iconst (-1), 1) := by decide +kernel
theorem d_ES_rank_16 : decode b_ES_rank 16 = .ok (.ireturn, 1) := by decide +kernel
theorem d_ES_rank_17 : decode b_ES_rank 17 = .ok (.aload_n 0, 1) := by decide +kernel
theorem d_ES_rank_18 : decode b_ES_rank 18 = .ok (.getfield 32, 3) := by decide +kernel
theorem d_ES_rank_21 : decode b_ES_rank 21 = .ok (.invokevirtual 127, 3) := by decide +kernel
theorem d_ES_rank_24 : decode b_ES_rank 24 = .ok (.ifCond .ne (6), 3) := by decide +kernel
theorem d_ES_rank_27 : decode b_ES_rank 27 = .ok (.bipush (-3), 2) := by decide +kernel
theorem d_ES_rank_29 : decode b_ES_rank 29 = .ok (.ireturn, 1) := by decide +kernel
theorem d_ES_rank_30 : decode b_ES_rank 30 = .ok (.aload_n 0, 1) := by decide +kernel
theorem d_ES_rank_31 : decode b_ES_rank 31 = .ok (.getfield 50, 3) := by decide +kernel
theorem d_ES_rank_34 : decode b_ES_rank 34 = .ok (.invokevirtual 165, 3) := by decide +kernel
theorem d_ES_rank_37 : decode b_ES_rank 37 = .ok (.aload_n 0, 1) := by decide +kernel
theorem d_ES_rank_38 : decode b_ES_rank 38 = .ok (.getfield 50, 3) := by decide +kernel
theorem d_ES_rank_41 : decode b_ES_rank 41 = .ok (.iload_n 1, 1) := by decide +kernel
theorem d_ES_rank_42 : decode b_ES_rank 42 = .ok (.invokevirtual 168, 3) := by decide +kernel
