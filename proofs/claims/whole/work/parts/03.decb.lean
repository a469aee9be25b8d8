theorem dX0_init_0 : decode cX0_init 0 = .ok (.aload_n 0, 1) := by decide +kernel
theorem dX0_init_1 : decode cX0_init 1 = .ok (.invokespecial 3, 3) := by decide +kernel
theorem dX0_init_4 : decode cX0_init 4 = .ok (.aload_n 0, 1) := by decide +kernel
theorem dX0_init_5 : decode cX0_init 5 = .ok (.bipush 10, 2) := by decide +kernel
theorem dX0_init_7 : decode cX0_init 7 = .ok (.anewarray 9, 3) := by decide +kernel
theorem dX0_init_10 : decode cX0_init 10 = .ok (.putfield 11, 3) := by decide +kernel
theorem dX0_init_13 : decode cX0_init 13 = .ok (.aload_n 0, 1) := by decide +kernel
theorem dX0_init_14 : decode cX0_init 14 = .ok (.bipush 6, 2) := by decide +kernel
theorem dX0_init_16 : decode cX0_init 16 = .ok (.newarray .int, 2) := by decide +kernel
theorem dX0_init_18 : decode cX0_init 18 = .ok (.putfield 17, 3) := by decide +kernel
theorem dX0_init_21 : decode cX0_init 21 = .ok (.aload_n 0, 1) := by decide +kernel
theorem dX0_init_22 : decode cX0_init 22 = .ok (.iconst 2, 1) := by decide +kernel
theorem dX0_init_23 : decode cX0_init 23 = .ok (.newarray .int, 2) := by decide +kernel
theorem dX0_init_25 : decode cX0_init 25 = .ok (.putfield 21, 3) := by decide +kernel
theorem dX0_init_28 : decode cX0_init 28 = .ok (.iconst 0, 1) := by decide +kernel
theorem dX0_init_29 : decode cX0_init 29 = .ok (.istore_n 1, 1) := by decide +kernel
theorem dX0_init_30 : decode cX0_init 30 = .ok (.iload_n 1, 1) := by decide +kernel
theorem dX0_init_31 : decode cX0_init 31 = .ok (.bipush 10, 2) := by decide +kernel
theorem dX0_init_33 : decode cX0_init 33 = .ok (.if_icmp .ge 22, 3) := by decide +kernel
theorem dX0_init_36 : decode cX0_init 36 = .ok (.aload_n 0, 1) := by decide +kernel
theorem dX0_init_37 : decode cX0_init 37 = .ok (.getfield 11, 3) := by decide +kernel
theorem dX0_init_40 : decode cX0_init 40 = .ok (.iload_n 1, 1) := by decide +kernel
theorem dX0_init_41 : decode cX0_init 41 = .ok (.new 9, 3) := by decide +kernel
theorem dX0_init_44 : decode cX0_init 44 = .ok (.dup, 1) := by decide +kernel
theorem dX0_init_45 : decode cX0_init 45 = .ok (.invokespecial 24, 3) := by decide +kernel
theorem dX0_init_48 : decode cX0_init 48 = .ok (.aastore, 1) := by decide +kernel
theorem dX0_init_49 : decode cX0_init 49 = .ok (.iinc 1 1, 3) := by decide +kernel
theorem dX0_init_52 : decode cX0_init 52 = .ok (.goto (-22), 3) := by decide +kernel
theorem dX0_init_55 : decode cX0_init 55 = .ok (.return_, 1) := by decide +kernel
theorem dX0_load_0 : decode cX0_load 0 = .ok (.aload_n 0, 1) := by decide +kernel
theorem dX0_load_1 : decode cX0_load 1 = .ok (.aload_n 1, 1) := by decide +kernel
theorem dX0_load_2 : decode cX0_load 2 = .ok (.aload_n 1, 1) := by decide +kernel
theorem dX0_load_3 : decode cX0_load 3 = .ok (.getfield 25, 3) := by decide +kernel
theorem dX0_load_6 : decode cX0_load 6 = .ok (.invokevirtual 31, 3) := by decide +kernel
theorem dX0_load_9 : decode cX0_load 9 = .ok (.aload_n 0, 1) := by decide +kernel
theorem dX0_load_10 : decode cX0_load 10 = .ok (.iconst (-1), 1) := by decide +kernel
theorem dX0_load_11 : decode cX0_load 11 = .ok (.putfield 35, 3) := by decide +kernel
theorem dX0_load_14 : decode cX0_load 14 = .ok (.iconst 0, 1) := by decide +kernel
theorem dX0_load_15 : decode cX0_load 15 = .ok (.istore_n 2, 1) := by decide +kernel
theorem dX0_load_16 : decode cX0_load 16 = .ok (.iload_n 2, 1) := by decide +kernel
theorem dX0_load_17 : decode cX0_load 17 = .ok (.aload_n 0, 1) := by decide +kernel
theorem dX0_load_18 : decode cX0_load 18 = .ok (.getfield 38, 3) := by decide +kernel
theorem dX0_load_21 : decode cX0_load 21 = .ok (.if_icmp .ge 86, 3) := by decide +kernel
theorem dX0_load_24 : decode cX0_load 24 = .ok (.aload_n 1, 1) := by decide +kernel
theorem dX0_load_25 : decode cX0_load 25 = .ok (.getfield 39, 3) := by decide +kernel
theorem dX0_load_28 : decode cX0_load 28 = .ok (.iload_n 2, 1) := by decide +kernel
theorem dX0_load_29 : decode cX0_load 29 = .ok (.aaload, 1) := by decide +kernel
theorem dX0_load_30 : decode cX0_load 30 = .ok (.astore_n 3, 1) := by decide +kernel
theorem dX0_load_31 : decode cX0_load 31 = .ok (.aload_n 0, 1) := by decide +kernel
theorem dX0_load_32 : decode cX0_load 32 = .ok (.getfield 11, 3) := by decide +kernel
theorem dX0_load_35 : decode cX0_load 35 = .ok (.iload_n 2, 1) := by decide +kernel
theorem dX0_load_36 : decode cX0_load 36 = .ok (.aaload, 1) := by decide +kernel
theorem dX0_load_37 : decode cX0_load 37 = .ok (.astore 4, 2) := by decide +kernel
theorem dX0_load_39 : decode cX0_load 39 = .ok (.aload_n 0, 1) := by decide +kernel
theorem dX0_load_40 : decode cX0_load 40 = .ok (.aload_n 1, 1) := by decide +kernel
theorem dX0_load_41 : decode cX0_load 41 = .ok (.iload_n 2, 1) := by decide +kernel
theorem dX0_load_42 : decode cX0_load 42 = .ok (.iload_n 2, 1) := by decide +kernel
theorem dX0_load_43 : decode cX0_load 43 = .ok (.invokevirtual 43, 3) := by decide +kernel
theorem dX0_load_46 : decode cX0_load 46 = .ok (.aload 4, 2) := by decide +kernel
theorem dX0_load_48 : decode cX0_load 48 = .ok (.aload_n 3, 1) := by decide +kernel
theorem dX0_load_49 : decode cX0_load 49 = .ok (.iconst 0, 1) := by decide +kernel
theorem dX0_load_50 : decode cX0_load 50 = .ok (.iaload, 1) := by decide +kernel
theorem dX0_load_51 : decode cX0_load 51 = .ok (.putfield 47, 3) := by decide +kernel
theorem dX0_load_54 : decode cX0_load 54 = .ok (.aload 4, 2) := by decide +kernel
theorem dX0_load_56 : decode cX0_load 56 = .ok (.aload_n 3, 1) := by decide +kernel
theorem dX0_load_57 : decode cX0_load 57 = .ok (.iconst 1, 1) := by decide +kernel
theorem dX0_load_58 : decode cX0_load 58 = .ok (.iaload, 1) := by decide +kernel
theorem dX0_load_59 : decode cX0_load 59 = .ok (.putfield 50, 3) := by decide +kernel
theorem dX0_load_62 : decode cX0_load 62 = .ok (.aload 4, 2) := by decide +kernel
theorem dX0_load_64 : decode cX0_load 64 = .ok (.aload_n 3, 1) := by decide +kernel
theorem dX0_load_65 : decode cX0_load 65 = .ok (.iconst 4, 1) := by decide +kernel
theorem dX0_load_66 : decode cX0_load 66 = .ok (.iaload, 1) := by decide +kernel
theorem dX0_load_67 : decode cX0_load 67 = .ok (.putfield 53, 3) := by decide +kernel
theorem dX0_load_70 : decode cX0_load 70 = .ok (.aload 4, 2) := by decide +kernel
theorem dX0_load_72 : decode cX0_load 72 = .ok (.aload_n 3, 1) := by decide +kernel
theorem dX0_load_73 : decode cX0_load 73 = .ok (.iconst 5, 1) := by decide +kernel
theorem dX0_load_74 : decode cX0_load 74 = .ok (.iaload, 1) := by decide +kernel
theorem dX0_load_75 : decode cX0_load 75 = .ok (.putfield 56, 3) := by decide +kernel
theorem dX0_load_78 : decode cX0_load 78 = .ok (.aload 4, 2) := by decide +kernel
theorem dX0_load_80 : decode cX0_load 80 = .ok (.aload_n 3, 1) := by decide +kernel
theorem dX0_load_81 : decode cX0_load 81 = .ok (.bipush 6, 2) := by decide +kernel
theorem dX0_load_83 : decode cX0_load 83 = .ok (.iaload, 1) := by decide +kernel
theorem dX0_load_84 : decode cX0_load 84 = .ok (.iconst (-1), 1) := by decide +kernel
theorem dX0_load_85 : decode cX0_load 85 = .ok (.if_icmp .ne 7, 3) := by decide +kernel
theorem dX0_load_88 : decode cX0_load 88 = .ok (.iconst 0, 1) := by decide +kernel
theorem dX0_load_89 : decode cX0_load 89 = .ok (.goto 9, 3) := by decide +kernel
theorem dX0_load_92 : decode cX0_load 92 = .ok (.iconst 1, 1) := by decide +kernel
theorem dX0_load_93 : decode cX0_load 93 = .ok (.aload_n 3, 1) := by decide +kernel
theorem dX0_load_94 : decode cX0_load 94 = .ok (.bipush 6, 2) := by decide +kernel
theorem dX0_load_96 : decode cX0_load 96 = .ok (.iaload, 1) := by decide +kernel
theorem dX0_load_97 : decode cX0_load 97 = .ok (.ishl, 1) := by decide +kernel
theorem dX0_load_98 : decode cX0_load 98 = .ok (.putfield 59, 3) := by decide +kernel
theorem dX0_load_101 : decode cX0_load 101 = .ok (.iinc 2 1, 3) := by decide +kernel
theorem dX0_load_104 : decode cX0_load 104 = .ok (.goto (-88), 3) := by decide +kernel
theorem dX0_load_107 : decode cX0_load 107 = .ok (.return_, 1) := by decide +kernel
theorem dX0_loadOnce_0 : decode cX0_loadOnce 0 = .ok (.aload_n 0, 1) := by decide +kernel
theorem dX0_loadOnce_1 : decode cX0_loadOnce 1 = .ok (.aload_n 1, 1) := by decide +kernel
theorem dX0_loadOnce_2 : decode cX0_loadOnce 2 = .ok (.iload_n 3, 1) := by decide +kernel
theorem dX0_loadOnce_3 : decode cX0_loadOnce 3 = .ok (.aload_n 2, 1) := by decide +kernel
theorem dX0_loadOnce_4 : decode cX0_loadOnce 4 = .ok (.arraylength, 1) := by decide +kernel
theorem dX0_loadOnce_5 : decode cX0_loadOnce 5 = .ok (.invokestatic 62, 3) := by decide +kernel
theorem dX0_loadOnce_8 : decode cX0_loadOnce 8 = .ok (.invokevirtual 31, 3) := by decide +kernel
theorem dX0_loadOnce_11 : decode cX0_loadOnce 11 = .ok (.aload_n 0, 1) := by decide +kernel
theorem dX0_loadOnce_12 : decode cX0_loadOnce 12 = .ok (.getfield 17, 3) := by decide +kernel
theorem dX0_loadOnce_15 : decode cX0_loadOnce 15 = .ok (.iconst 3, 1) := by decide +kernel
theorem dX0_loadOnce_16 : decode cX0_loadOnce 16 = .ok (.iconst 0, 1) := by decide +kernel
theorem dX0_loadOnce_17 : decode cX0_loadOnce 17 = .ok (.iastore, 1) := by decide +kernel
theorem dX0_loadOnce_18 : decode cX0_loadOnce 18 = .ok (.aload_n 0, 1) := by decide +kernel
theorem dX0_loadOnce_19 : decode cX0_loadOnce 19 = .ok (.getfield 17, 3) := by decide +kernel
theorem dX0_loadOnce_22 : decode cX0_loadOnce 22 = .ok (.iconst 5, 1) := by decide +kernel
theorem dX0_loadOnce_23 : decode cX0_loadOnce 23 = .ok (.iconst 0, 1) := by decide +kernel
theorem dX0_loadOnce_24 : decode cX0_loadOnce 24 = .ok (.iastore, 1) := by decide +kernel
theorem dX0_loadOnce_25 : decode cX0_loadOnce 25 = .ok (.aload_n 0, 1) := by decide +kernel
theorem dX0_loadOnce_26 : decode cX0_loadOnce 26 = .ok (.iconst 1, 1) := by decide +kernel
theorem dX0_loadOnce_27 : decode cX0_loadOnce 27 = .ok (.aload_n 0, 1) := by decide +kernel
theorem dX0_loadOnce_28 : decode cX0_loadOnce 28 = .ok (.getfield 38, 3) := by decide +kernel
theorem dX0_loadOnce_31 : decode cX0_loadOnce 31 = .ok (.ishl, 1) := by decide +kernel
theorem dX0_loadOnce_32 : decode cX0_loadOnce 32 = .ok (.iconst 1, 1) := by decide +kernel
theorem dX0_loadOnce_33 : decode cX0_loadOnce 33 = .ok (.isub, 1) := by decide +kernel
theorem dX0_loadOnce_34 : decode cX0_loadOnce 34 = .ok (.putfield 35, 3) := by decide +kernel
theorem dX0_loadOnce_37 : decode cX0_loadOnce 37 = .ok (.iconst 0, 1) := by decide +kernel
theorem dX0_loadOnce_38 : decode cX0_loadOnce 38 = .ok (.istore 4, 2) := by decide +kernel
theorem dX0_loadOnce_40 : decode cX0_loadOnce 40 = .ok (.iload 4, 2) := by decide +kernel
theorem dX0_loadOnce_42 : decode cX0_loadOnce 42 = .ok (.aload_n 0, 1) := by decide +kernel
theorem dX0_loadOnce_43 : decode cX0_loadOnce 43 = .ok (.getfield 38, 3) := by decide +kernel
theorem dX0_loadOnce_46 : decode cX0_loadOnce 46 = .ok (.if_icmp .ge 59, 3) := by decide +kernel
theorem dX0_loadOnce_49 : decode cX0_loadOnce 49 = .ok (.aload_n 0, 1) := by decide +kernel
theorem dX0_loadOnce_50 : decode cX0_loadOnce 50 = .ok (.getfield 11, 3) := by decide +kernel
theorem dX0_loadOnce_53 : decode cX0_loadOnce 53 = .ok (.iload 4, 2) := by decide +kernel
theorem dX0_loadOnce_55 : decode cX0_loadOnce 55 = .ok (.aaload, 1) := by decide +kernel
theorem dX0_loadOnce_56 : decode cX0_loadOnce 56 = .ok (.astore 5, 2) := by decide +kernel
theorem dX0_loadOnce_58 : decode cX0_loadOnce 58 = .ok (.aload_n 0, 1) := by decide +kernel
theorem dX0_loadOnce_59 : decode cX0_loadOnce 59 = .ok (.aload_n 1, 1) := by decide +kernel
theorem dX0_loadOnce_60 : decode cX0_loadOnce 60 = .ok (.iload 4, 2) := by decide +kernel
theorem dX0_loadOnce_62 : decode cX0_loadOnce 62 = .ok (.aload_n 2, 1) := by decide +kernel
theorem dX0_loadOnce_63 : decode cX0_loadOnce 63 = .ok (.iload 4, 2) := by decide +kernel
theorem dX0_loadOnce_65 : decode cX0_loadOnce 65 = .ok (.iaload, 1) := by decide +kernel
theorem dX0_loadOnce_66 : decode cX0_loadOnce 66 = .ok (.invokevirtual 43, 3) := by decide +kernel
theorem dX0_loadOnce_69 : decode cX0_loadOnce 69 = .ok (.aload 5, 2) := by decide +kernel
theorem dX0_loadOnce_71 : decode cX0_loadOnce 71 = .ok (.iconst 0, 1) := by decide +kernel
theorem dX0_loadOnce_72 : decode cX0_loadOnce 72 = .ok (.putfield 47, 3) := by decide +kernel
theorem dX0_loadOnce_75 : decode cX0_loadOnce 75 = .ok (.aload 5, 2) := by decide +kernel
theorem dX0_loadOnce_77 : decode cX0_loadOnce 77 = .ok (.iconst 0, 1) := by decide +kernel
theorem dX0_loadOnce_78 : decode cX0_loadOnce 78 = .ok (.putfield 50, 3) := by decide +kernel
theorem dX0_loadOnce_81 : decode cX0_loadOnce 81 = .ok (.aload 5, 2) := by decide +kernel
theorem dX0_loadOnce_83 : decode cX0_loadOnce 83 = .ok (.iconst 1, 1) := by decide +kernel
theorem dX0_loadOnce_84 : decode cX0_loadOnce 84 = .ok (.putfield 53, 3) := by decide +kernel
theorem dX0_loadOnce_87 : decode cX0_loadOnce 87 = .ok (.aload 5, 2) := by decide +kernel
theorem dX0_loadOnce_89 : decode cX0_loadOnce 89 = .ok (.iconst 0, 1) := by decide +kernel
theorem dX0_loadOnce_90 : decode cX0_loadOnce 90 = .ok (.putfield 56, 3) := by decide +kernel
theorem dX0_loadOnce_93 : decode cX0_loadOnce 93 = .ok (.aload 5, 2) := by decide +kernel
theorem dX0_loadOnce_95 : decode cX0_loadOnce 95 = .ok (.iconst 0, 1) := by decide +kernel
theorem dX0_loadOnce_96 : decode cX0_loadOnce 96 = .ok (.putfield 59, 3) := by decide +kernel
theorem dX0_loadOnce_99 : decode cX0_loadOnce 99 = .ok (.iinc 4 1, 3) := by decide +kernel
theorem dX0_loadOnce_102 : decode cX0_loadOnce 102 = .ok (.goto (-62), 3) := by decide +kernel
theorem dX0_loadOnce_105 : decode cX0_loadOnce 105 = .ok (.return_, 1) := by decide +kernel
theorem dX0_loadBridge_0 : decode cX0_loadBridge 0 = .ok (.aload_n 0, 1) := by decide +kernel
theorem dX0_loadBridge_1 : decode cX0_loadBridge 1 = .ok (.iload_n 2, 1) := by decide +kernel
theorem dX0_loadBridge_2 : decode cX0_loadBridge 2 = .ok (.bipush 10, 2) := by decide +kernel
theorem dX0_loadBridge_4 : decode cX0_loadBridge 4 = .ok (.invokestatic 62, 3) := by decide +kernel
theorem dX0_loadBridge_7 : decode cX0_loadBridge 7 = .ok (.putfield 38, 3) := by decide +kernel
theorem dX0_loadBridge_10 : decode cX0_loadBridge 10 = .ok (.aload_n 0, 1) := by decide +kernel
theorem dX0_loadBridge_11 : decode cX0_loadBridge 11 = .ok (.aload_n 1, 1) := by decide +kernel
theorem dX0_loadBridge_12 : decode cX0_loadBridge 12 = .ok (.getfield 68, 3) := by decide +kernel
theorem dX0_loadBridge_15 : decode cX0_loadBridge 15 = .ok (.putfield 71, 3) := by decide +kernel
theorem dX0_loadBridge_18 : decode cX0_loadBridge 18 = .ok (.aload_n 1, 1) := by decide +kernel
theorem dX0_loadBridge_19 : decode cX0_loadBridge 19 = .ok (.getfield 72, 3) := by decide +kernel
theorem dX0_loadBridge_22 : decode cX0_loadBridge 22 = .ok (.iconst 0, 1) := by decide +kernel
theorem dX0_loadBridge_23 : decode cX0_loadBridge 23 = .ok (.aload_n 0, 1) := by decide +kernel
theorem dX0_loadBridge_24 : decode cX0_loadBridge 24 = .ok (.getfield 17, 3) := by decide +kernel
theorem dX0_loadBridge_27 : decode cX0_loadBridge 27 = .ok (.iconst 0, 1) := by decide +kernel
theorem dX0_loadBridge_28 : decode cX0_loadBridge 28 = .ok (.bipush 6, 2) := by decide +kernel
theorem dX0_loadBridge_30 : decode cX0_loadBridge 30 = .ok (.invokestatic 73, 3) := by decide +kernel
theorem dX0_loadBridge_33 : decode cX0_loadBridge 33 = .ok (.return_, 1) := by decide +kernel
theorem dX0_loadWalker_0 : decode cX0_loadWalker 0 = .ok (.aload_n 0, 1) := by decide +kernel
theorem dX0_loadWalker_1 : decode cX0_loadWalker 1 = .ok (.getfield 11, 3) := by decide +kernel
theorem dX0_loadWalker_4 : decode cX0_loadWalker 4 = .ok (.iload_n 2, 1) := by decide +kernel
theorem dX0_loadWalker_5 : decode cX0_loadWalker 5 = .ok (.aaload, 1) := by decide +kernel
theorem dX0_loadWalker_6 : decode cX0_loadWalker 6 = .ok (.aload_n 1, 1) := by decide +kernel
theorem dX0_loadWalker_7 : decode cX0_loadWalker 7 = .ok (.iload_n 3, 1) := by decide +kernel
theorem dX0_loadWalker_8 : decode cX0_loadWalker 8 = .ok (.invokevirtual 79, 3) := by decide +kernel
theorem dX0_loadWalker_11 : decode cX0_loadWalker 11 = .ok (.putfield 83, 3) := by decide +kernel
theorem dX0_loadWalker_14 : decode cX0_loadWalker 14 = .ok (.aload_n 0, 1) := by decide +kernel
theorem dX0_loadWalker_15 : decode cX0_loadWalker 15 = .ok (.getfield 11, 3) := by decide +kernel
theorem dX0_loadWalker_18 : decode cX0_loadWalker 18 = .ok (.iload_n 2, 1) := by decide +kernel
theorem dX0_loadWalker_19 : decode cX0_loadWalker 19 = .ok (.aaload, 1) := by decide +kernel
theorem dX0_loadWalker_20 : decode cX0_loadWalker 20 = .ok (.aload_n 1, 1) := by decide +kernel
theorem dX0_loadWalker_21 : decode cX0_loadWalker 21 = .ok (.iload_n 3, 1) := by decide +kernel
theorem dX0_loadWalker_22 : decode cX0_loadWalker 22 = .ok (.invokevirtual 86, 3) := by decide +kernel
theorem dX0_loadWalker_25 : decode cX0_loadWalker 25 = .ok (.putfield 90, 3) := by decide +kernel
theorem dX0_loadWalker_28 : decode cX0_loadWalker 28 = .ok (.aload_n 0, 1) := by decide +kernel
theorem dX0_loadWalker_29 : decode cX0_loadWalker 29 = .ok (.getfield 11, 3) := by decide +kernel
theorem dX0_loadWalker_32 : decode cX0_loadWalker 32 = .ok (.iload_n 2, 1) := by decide +kernel
theorem dX0_loadWalker_33 : decode cX0_loadWalker 33 = .ok (.aaload, 1) := by decide +kernel
theorem dX0_loadWalker_34 : decode cX0_loadWalker 34 = .ok (.iload_n 2, 1) := by decide +kernel
theorem dX0_loadWalker_35 : decode cX0_loadWalker 35 = .ok (.putfield 94, 3) := by decide +kernel
theorem dX0_loadWalker_38 : decode cX0_loadWalker 38 = .ok (.return_, 1) := by decide +kernel
theorem dX0_run_0 : decode cX0_run 0 = .ok (.aload_n 0, 1) := by decide +kernel
theorem dX0_run_1 : decode cX0_run 1 = .ok (.invokevirtual 97, 3) := by decide +kernel
theorem dX0_run_4 : decode cX0_run 4 = .ok (.iconst 0, 1) := by decide +kernel
theorem dX0_run_5 : decode cX0_run 5 = .ok (.istore_n 2, 1) := by decide +kernel
theorem dX0_run_6 : decode cX0_run 6 = .ok (.iload_n 2, 1) := by decide +kernel
theorem dX0_run_7 : decode cX0_run 7 = .ok (.iload_n 1, 1) := by decide +kernel
theorem dX0_run_8 : decode cX0_run 8 = .ok (.if_icmp .gt 78, 3) := by decide +kernel
theorem dX0_run_11 : decode cX0_run 11 = .ok (.aload_n 0, 1) := by decide +kernel
theorem dX0_run_12 : decode cX0_run 12 = .ok (.iload_n 2, 1) := by decide +kernel
theorem dX0_run_13 : decode cX0_run 13 = .ok (.invokevirtual 100, 3) := by decide +kernel
theorem dX0_run_16 : decode cX0_run 16 = .ok (.aload_n 0, 1) := by decide +kernel
theorem dX0_run_17 : decode cX0_run 17 = .ok (.invokevirtual 104, 3) := by decide +kernel
theorem dX0_run_20 : decode cX0_run 20 = .ok (.aload_n 0, 1) := by decide +kernel
theorem dX0_run_21 : decode cX0_run 21 = .ok (.iload_n 2, 1) := by decide +kernel
theorem dX0_run_22 : decode cX0_run 22 = .ok (.invokevirtual 107, 3) := by decide +kernel
theorem dX0_run_25 : decode cX0_run 25 = .ok (.aload_n 0, 1) := by decide +kernel
theorem dX0_run_26 : decode cX0_run 26 = .ok (.iload_n 2, 1) := by decide +kernel
theorem dX0_run_27 : decode cX0_run 27 = .ok (.invokevirtual 110, 3) := by decide +kernel
theorem dX0_run_30 : decode cX0_run 30 = .ok (.aload_n 0, 1) := by decide +kernel
theorem dX0_run_31 : decode cX0_run 31 = .ok (.iload_n 2, 1) := by decide +kernel
theorem dX0_run_32 : decode cX0_run 32 = .ok (.invokevirtual 113, 3) := by decide +kernel
theorem dX0_run_35 : decode cX0_run 35 = .ok (.aload_n 0, 1) := by decide +kernel
theorem dX0_run_36 : decode cX0_run 36 = .ok (.iload_n 2, 1) := by decide +kernel
theorem dX0_run_37 : decode cX0_run 37 = .ok (.invokevirtual 116, 3) := by decide +kernel
theorem dX0_run_40 : decode cX0_run 40 = .ok (.iload_n 1, 1) := by decide +kernel
theorem dX0_run_41 : decode cX0_run 41 = .ok (.iload_n 2, 1) := by decide +kernel
theorem dX0_run_42 : decode cX0_run 42 = .ok (.isub, 1) := by decide +kernel
theorem dX0_run_43 : decode cX0_run 43 = .ok (.invokestatic 62, 3) := by decide +kernel
theorem dX0_run_46 : decode cX0_run 46 = .ok (.istore_n 3, 1) := by decide +kernel
theorem dX0_run_47 : decode cX0_run 47 = .ok (.iconst 0, 1) := by decide +kernel
theorem dX0_run_48 : decode cX0_run 48 = .ok (.istore 4, 2) := by decide +kernel
theorem dX0_run_50 : decode cX0_run 50 = .ok (.iload 4, 2) := by decide +kernel
theorem dX0_run_52 : decode cX0_run 52 = .ok (.aload_n 0, 1) := by decide +kernel
theorem dX0_run_53 : decode cX0_run 53 = .ok (.getfield 38, 3) := by decide +kernel
theorem dX0_run_56 : decode cX0_run 56 = .ok (.if_icmp .ge 20, 3) := by decide +kernel
theorem dX0_run_59 : decode cX0_run 59 = .ok (.aload_n 0, 1) := by decide +kernel
theorem dX0_run_60 : decode cX0_run 60 = .ok (.getfield 11, 3) := by decide +kernel
theorem dX0_run_63 : decode cX0_run 63 = .ok (.iload 4, 2) := by decide +kernel
theorem dX0_run_65 : decode cX0_run 65 = .ok (.aaload, 1) := by decide +kernel
theorem dX0_run_66 : decode cX0_run 66 = .ok (.iload_n 3, 1) := by decide +kernel
theorem dX0_run_67 : decode cX0_run 67 = .ok (.invokevirtual 119, 3) := by decide +kernel
theorem dX0_run_70 : decode cX0_run 70 = .ok (.iinc 4 1, 3) := by decide +kernel
theorem dX0_run_73 : decode cX0_run 73 = .ok (.goto (-23), 3) := by decide +kernel
theorem dX0_run_76 : decode cX0_run 76 = .ok (.iload_n 2, 1) := by decide +kernel
theorem dX0_run_77 : decode cX0_run 77 = .ok (.iload_n 3, 1) := by decide +kernel
theorem dX0_run_78 : decode cX0_run 78 = .ok (.iadd, 1) := by decide +kernel
theorem dX0_run_79 : decode cX0_run 79 = .ok (.istore_n 2, 1) := by decide +kernel
theorem dX0_run_80 : decode cX0_run 80 = .ok (.iinc 2 1, 3) := by decide +kernel
theorem dX0_run_83 : decode cX0_run 83 = .ok (.goto (-77), 3) := by decide +kernel
theorem dX0_run_86 : decode cX0_run 86 = .ok (.return_, 1) := by decide +kernel
theorem dX0_begin_0 : decode cX0_begin 0 = .ok (.aload_n 0, 1) := by decide +kernel
theorem dX0_begin_1 : decode cX0_begin 1 = .ok (.aload_n 0, 1) := by decide +kernel
theorem dX0_begin_2 : decode cX0_begin 2 = .ok (.getfield 71, 3) := by decide +kernel
theorem dX0_begin_5 : decode cX0_begin 5 = .ok (.putfield 122, 3) := by decide +kernel
theorem dX0_begin_8 : decode cX0_begin 8 = .ok (.aload_n 0, 1) := by decide +kernel
theorem dX0_begin_9 : decode cX0_begin 9 = .ok (.aload_n 0, 1) := by decide +kernel
theorem dX0_begin_10 : decode cX0_begin 10 = .ok (.getfield 17, 3) := by decide +kernel
theorem dX0_begin_13 : decode cX0_begin 13 = .ok (.iconst 4, 1) := by decide +kernel
theorem dX0_begin_14 : decode cX0_begin 14 = .ok (.iaload, 1) := by decide +kernel
theorem dX0_begin_15 : decode cX0_begin 15 = .ok (.putfield 125, 3) := by decide +kernel
theorem dX0_begin_18 : decode cX0_begin 18 = .ok (.aload_n 0, 1) := by decide +kernel
theorem dX0_begin_19 : decode cX0_begin 19 = .ok (.iconst 0, 1) := by decide +kernel
theorem dX0_begin_20 : decode cX0_begin 20 = .ok (.putfield 128, 3) := by decide +kernel
theorem dX0_begin_23 : decode cX0_begin 23 = .ok (.aload_n 0, 1) := by decide +kernel
theorem dX0_begin_24 : decode cX0_begin 24 = .ok (.getfield 21, 3) := by decide +kernel
theorem dX0_begin_27 : decode cX0_begin 27 = .ok (.iconst 0, 1) := by decide +kernel
theorem dX0_begin_28 : decode cX0_begin 28 = .ok (.sipush (-1000), 3) := by decide +kernel
theorem dX0_begin_31 : decode cX0_begin 31 = .ok (.iastore, 1) := by decide +kernel
theorem dX0_begin_32 : decode cX0_begin 32 = .ok (.aload_n 0, 1) := by decide +kernel
theorem dX0_begin_33 : decode cX0_begin 33 = .ok (.getfield 21, 3) := by decide +kernel
theorem dX0_begin_36 : decode cX0_begin 36 = .ok (.iconst 1, 1) := by decide +kernel
theorem dX0_begin_37 : decode cX0_begin 37 = .ok (.sipush (-1000), 3) := by decide +kernel
theorem dX0_begin_40 : decode cX0_begin 40 = .ok (.iastore, 1) := by decide +kernel
theorem dX0_begin_41 : decode cX0_begin 41 = .ok (.iconst 0, 1) := by decide +kernel
theorem dX0_begin_42 : decode cX0_begin 42 = .ok (.istore_n 1, 1) := by decide +kernel
theorem dX0_begin_43 : decode cX0_begin 43 = .ok (.iload_n 1, 1) := by decide +kernel
theorem dX0_begin_44 : decode cX0_begin 44 = .ok (.aload_n 0, 1) := by decide +kernel
theorem dX0_begin_45 : decode cX0_begin 45 = .ok (.getfield 38, 3) := by decide +kernel
theorem dX0_begin_48 : decode cX0_begin 48 = .ok (.if_icmp .ge 18, 3) := by decide +kernel
theorem dX0_begin_51 : decode cX0_begin 51 = .ok (.aload_n 0, 1) := by decide +kernel
theorem dX0_begin_52 : decode cX0_begin 52 = .ok (.getfield 11, 3) := by decide +kernel
theorem dX0_begin_55 : decode cX0_begin 55 = .ok (.iload_n 1, 1) := by decide +kernel
theorem dX0_begin_56 : decode cX0_begin 56 = .ok (.aaload, 1) := by decide +kernel
theorem dX0_begin_57 : decode cX0_begin 57 = .ok (.invokevirtual 131, 3) := by decide +kernel
theorem dX0_begin_60 : decode cX0_begin 60 = .ok (.iinc 1 1, 3) := by decide +kernel
theorem dX0_begin_63 : decode cX0_begin 63 = .ok (.goto (-20), 3) := by decide +kernel
theorem dX0_begin_66 : decode cX0_begin 66 = .ok (.return_, 1) := by decide +kernel
theorem dX0_quietAfter_0 : decode cX0_quietAfter 0 = .ok (.iload_n 1, 1) := by decide +kernel
theorem dX0_quietAfter_1 : decode cX0_quietAfter 1 = .ok (.sipush 240, 3) := by decide +kernel
theorem dX0_quietAfter_4 : decode cX0_quietAfter 4 = .ok (.idiv, 1) := by decide +kernel
theorem dX0_quietAfter_5 : decode cX0_quietAfter 5 = .ok (.iconst 1, 1) := by decide +kernel
theorem dX0_quietAfter_6 : decode cX0_quietAfter 6 = .ok (.iadd, 1) := by decide +kernel
theorem dX0_quietAfter_7 : decode cX0_quietAfter 7 = .ok (.sipush 240, 3) := by decide +kernel
theorem dX0_quietAfter_10 : decode cX0_quietAfter 10 = .ok (.imul, 1) := by decide +kernel
theorem dX0_quietAfter_11 : decode cX0_quietAfter 11 = .ok (.istore_n 2, 1) := by decide +kernel
theorem dX0_quietAfter_12 : decode cX0_quietAfter 12 = .ok (.iconst 0, 1) := by decide +kernel
theorem dX0_quietAfter_13 : decode cX0_quietAfter 13 = .ok (.istore_n 3, 1) := by decide +kernel
theorem dX0_quietAfter_14 : decode cX0_quietAfter 14 = .ok (.iload_n 3, 1) := by decide +kernel
theorem dX0_quietAfter_15 : decode cX0_quietAfter 15 = .ok (.aload_n 0, 1) := by decide +kernel
theorem dX0_quietAfter_16 : decode cX0_quietAfter 16 = .ok (.getfield 38, 3) := by decide +kernel
theorem dX0_quietAfter_19 : decode cX0_quietAfter 19 = .ok (.if_icmp .ge 28, 3) := by decide +kernel
theorem dX0_quietAfter_22 : decode cX0_quietAfter 22 = .ok (.iload_n 2, 1) := by decide +kernel
theorem dX0_quietAfter_23 : decode cX0_quietAfter 23 = .ok (.aload_n 0, 1) := by decide +kernel
theorem dX0_quietAfter_24 : decode cX0_quietAfter 24 = .ok (.getfield 11, 3) := by decide +kernel
theorem dX0_quietAfter_27 : decode cX0_quietAfter 27 = .ok (.iload_n 3, 1) := by decide +kernel
theorem dX0_quietAfter_28 : decode cX0_quietAfter 28 = .ok (.aaload, 1) := by decide +kernel
theorem dX0_quietAfter_29 : decode cX0_quietAfter 29 = .ok (.iload_n 1, 1) := by decide +kernel
theorem dX0_quietAfter_30 : decode cX0_quietAfter 30 = .ok (.aload_n 0, 1) := by decide +kernel
theorem dX0_quietAfter_31 : decode cX0_quietAfter 31 = .ok (.getfield 122, 3) := by decide +kernel
theorem dX0_quietAfter_34 : decode cX0_quietAfter 34 = .ok (.invokevirtual 132, 3) := by decide +kernel
theorem dX0_quietAfter_37 : decode cX0_quietAfter 37 = .ok (.invokestatic 62, 3) := by decide +kernel
theorem dX0_quietAfter_40 : decode cX0_quietAfter 40 = .ok (.istore_n 2, 1) := by decide +kernel
theorem dX0_quietAfter_41 : decode cX0_quietAfter 41 = .ok (.iinc 3 1, 3) := by decide +kernel
theorem dX0_quietAfter_44 : decode cX0_quietAfter 44 = .ok (.goto (-30), 3) := by decide +kernel
theorem dX0_quietAfter_47 : decode cX0_quietAfter 47 = .ok (.iconst 0, 1) := by decide +kernel
theorem dX0_quietAfter_48 : decode cX0_quietAfter 48 = .ok (.iload_n 2, 1) := by decide +kernel
theorem dX0_quietAfter_49 : decode cX0_quietAfter 49 = .ok (.iload_n 1, 1) := by decide +kernel
theorem dX0_quietAfter_50 : decode cX0_quietAfter 50 = .ok (.isub, 1) := by decide +kernel
theorem dX0_quietAfter_51 : decode cX0_quietAfter 51 = .ok (.iconst 1, 1) := by decide +kernel
theorem dX0_quietAfter_52 : decode cX0_quietAfter 52 = .ok (.isub, 1) := by decide +kernel
theorem dX0_quietAfter_53 : decode cX0_quietAfter 53 = .ok (.invokestatic 135, 3) := by decide +kernel
theorem dX0_quietAfter_56 : decode cX0_quietAfter 56 = .ok (.ireturn, 1) := by decide +kernel
theorem dX0_haveNight_0 : decode cX0_haveNight 0 = .ok (.iload_n 1, 1) := by decide +kernel
theorem dX0_haveNight_1 : decode cX0_haveNight 1 = .ok (.ifCond .le 30, 3) := by decide +kernel
theorem dX0_haveNight_4 : decode cX0_haveNight 4 = .ok (.iload_n 1, 1) := by decide +kernel
theorem dX0_haveNight_5 : decode cX0_haveNight 5 = .ok (.sipush 240, 3) := by decide +kernel
theorem dX0_haveNight_8 : decode cX0_haveNight 8 = .ok (.irem, 1) := by decide +kernel
theorem dX0_haveNight_9 : decode cX0_haveNight 9 = .ok (.ifCond .ne 22, 3) := by decide +kernel
theorem dX0_haveNight_12 : decode cX0_haveNight 12 = .ok (.aload_n 0, 1) := by decide +kernel
theorem dX0_haveNight_13 : decode cX0_haveNight 13 = .ok (.iconst 1, 1) := by decide +kernel
theorem dX0_haveNight_14 : decode cX0_haveNight 14 = .ok (.aload_n 0, 1) := by decide +kernel
theorem dX0_haveNight_15 : decode cX0_haveNight 15 = .ok (.getfield 122, 3) := by decide +kernel
theorem dX0_haveNight_18 : decode cX0_haveNight 18 = .ok (.aload_n 0, 1) := by decide +kernel
theorem dX0_haveNight_19 : decode cX0_haveNight 19 = .ok (.getfield 17, 3) := by decide +kernel
theorem dX0_haveNight_22 : decode cX0_haveNight 22 = .ok (.iconst 3, 1) := by decide +kernel
theorem dX0_haveNight_23 : decode cX0_haveNight 23 = .ok (.iaload, 1) := by decide +kernel
theorem dX0_haveNight_24 : decode cX0_haveNight 24 = .ok (.isub, 1) := by decide +kernel
theorem dX0_haveNight_25 : decode cX0_haveNight 25 = .ok (.invokestatic 135, 3) := by decide +kernel
theorem dX0_haveNight_28 : decode cX0_haveNight 28 = .ok (.putfield 122, 3) := by decide +kernel
theorem dX0_haveNight_31 : decode cX0_haveNight 31 = .ok (.return_, 1) := by decide +kernel
theorem dX0_walk_0 : decode cX0_walk 0 = .ok (.iconst 0, 1) := by decide +kernel
theorem dX0_walk_1 : decode cX0_walk 1 = .ok (.istore_n 1, 1) := by decide +kernel
theorem dX0_walk_2 : decode cX0_walk 2 = .ok (.iload_n 1, 1) := by decide +kernel
theorem dX0_walk_3 : decode cX0_walk 3 = .ok (.aload_n 0, 1) := by decide +kernel
theorem dX0_walk_4 : decode cX0_walk 4 = .ok (.getfield 38, 3) := by decide +kernel
theorem dX0_walk_7 : decode cX0_walk 7 = .ok (.if_icmp .ge 49, 3) := by decide +kernel
theorem dX0_walk_10 : decode cX0_walk 10 = .ok (.aload_n 0, 1) := by decide +kernel
theorem dX0_walk_11 : decode cX0_walk 11 = .ok (.getfield 11, 3) := by decide +kernel
theorem dX0_walk_14 : decode cX0_walk 14 = .ok (.iload_n 1, 1) := by decide +kernel
theorem dX0_walk_15 : decode cX0_walk 15 = .ok (.aaload, 1) := by decide +kernel
theorem dX0_walk_16 : decode cX0_walk 16 = .ok (.astore_n 2, 1) := by decide +kernel
theorem dX0_walk_17 : decode cX0_walk 17 = .ok (.aload_n 2, 1) := by decide +kernel
theorem dX0_walk_18 : decode cX0_walk 18 = .ok (.getfield 138, 3) := by decide +kernel
theorem dX0_walk_21 : decode cX0_walk 21 = .ok (.iconst 1, 1) := by decide +kernel
theorem dX0_walk_22 : decode cX0_walk 22 = .ok (.if_icmp .ne 28, 3) := by decide +kernel
theorem dX0_walk_25 : decode cX0_walk 25 = .ok (.aload_n 2, 1) := by decide +kernel
theorem dX0_walk_26 : decode cX0_walk 26 = .ok (.iconst 1, 1) := by decide +kernel
theorem dX0_walk_27 : decode cX0_walk 27 = .ok (.invokevirtual 119, 3) := by decide +kernel
theorem dX0_walk_30 : decode cX0_walk 30 = .ok (.aload_n 2, 1) := by decide +kernel
theorem dX0_walk_31 : decode cX0_walk 31 = .ok (.aload_n 2, 1) := by decide +kernel
theorem dX0_walk_32 : decode cX0_walk 32 = .ok (.getfield 141, 3) := by decide +kernel
theorem dX0_walk_35 : decode cX0_walk 35 = .ok (.aload_n 0, 1) := by decide +kernel
theorem dX0_walk_36 : decode cX0_walk 36 = .ok (.getfield 122, 3) := by decide +kernel
theorem dX0_walk_39 : decode cX0_walk 39 = .ok (.if_icmp .lt 7, 3) := by decide +kernel
theorem dX0_walk_42 : decode cX0_walk 42 = .ok (.iconst 2, 1) := by decide +kernel
theorem dX0_walk_43 : decode cX0_walk 43 = .ok (.goto 4, 3) := by decide +kernel
theorem dX0_walk_46 : decode cX0_walk 46 = .ok (.iconst 1, 1) := by decide +kernel
theorem dX0_walk_47 : decode cX0_walk 47 = .ok (.putfield 138, 3) := by decide +kernel
theorem dX0_walk_50 : decode cX0_walk 50 = .ok (.iinc 1 1, 3) := by decide +kernel
theorem dX0_walk_53 : decode cX0_walk 53 = .ok (.goto (-51), 3) := by decide +kernel
theorem dX0_walk_56 : decode cX0_walk 56 = .ok (.return_, 1) := by decide +kernel
theorem dX0_stepOff_0 : decode cX0_stepOff 0 = .ok (.aload_n 0, 1) := by decide +kernel
theorem dX0_stepOff_1 : decode cX0_stepOff 1 = .ok (.iconst 0, 1) := by decide +kernel
theorem dX0_stepOff_2 : decode cX0_stepOff 2 = .ok (.iload_n 1, 1) := by decide +kernel
theorem dX0_stepOff_3 : decode cX0_stepOff 3 = .ok (.invokevirtual 144, 3) := by decide +kernel
theorem dX0_stepOff_6 : decode cX0_stepOff 6 = .ok (.aload_n 0, 1) := by decide +kernel
theorem dX0_stepOff_7 : decode cX0_stepOff 7 = .ok (.iconst 1, 1) := by decide +kernel
theorem dX0_stepOff_8 : decode cX0_stepOff 8 = .ok (.iload_n 1, 1) := by decide +kernel
theorem dX0_stepOff_9 : decode cX0_stepOff 9 = .ok (.invokevirtual 144, 3) := by decide +kernel
theorem dX0_stepOff_12 : decode cX0_stepOff 12 = .ok (.iadd, 1) := by decide +kernel
theorem dX0_stepOff_13 : decode cX0_stepOff 13 = .ok (.istore_n 2, 1) := by decide +kernel
theorem dX0_stepOff_14 : decode cX0_stepOff 14 = .ok (.aload_n 0, 1) := by decide +kernel
theorem dX0_stepOff_15 : decode cX0_stepOff 15 = .ok (.dup, 1) := by decide +kernel
theorem dX0_stepOff_16 : decode cX0_stepOff 16 = .ok (.getfield 128, 3) := by decide +kernel
theorem dX0_stepOff_19 : decode cX0_stepOff 19 = .ok (.iload_n 2, 1) := by decide +kernel
theorem dX0_stepOff_20 : decode cX0_stepOff 20 = .ok (.iadd, 1) := by decide +kernel
theorem dX0_stepOff_21 : decode cX0_stepOff 21 = .ok (.putfield 128, 3) := by decide +kernel
theorem dX0_stepOff_24 : decode cX0_stepOff 24 = .ok (.aload_n 0, 1) := by decide +kernel
theorem dX0_stepOff_25 : decode cX0_stepOff 25 = .ok (.sipush 400, 3) := by decide +kernel
theorem dX0_stepOff_28 : decode cX0_stepOff 28 = .ok (.aload_n 0, 1) := by decide +kernel
theorem dX0_stepOff_29 : decode cX0_stepOff 29 = .ok (.getfield 122, 3) := by decide +kernel
theorem dX0_stepOff_32 : decode cX0_stepOff 32 = .ok (.aload_n 0, 1) := by decide +kernel
theorem dX0_stepOff_33 : decode cX0_stepOff 33 = .ok (.getfield 17, 3) := by decide +kernel
theorem dX0_stepOff_36 : decode cX0_stepOff 36 = .ok (.iconst 0, 1) := by decide +kernel
theorem dX0_stepOff_37 : decode cX0_stepOff 37 = .ok (.iaload, 1) := by decide +kernel
theorem dX0_stepOff_38 : decode cX0_stepOff 38 = .ok (.iload_n 2, 1) := by decide +kernel
theorem dX0_stepOff_39 : decode cX0_stepOff 39 = .ok (.imul, 1) := by decide +kernel
theorem dX0_stepOff_40 : decode cX0_stepOff 40 = .ok (.iadd, 1) := by decide +kernel
theorem dX0_stepOff_41 : decode cX0_stepOff 41 = .ok (.invokestatic 62, 3) := by decide +kernel
theorem dX0_stepOff_44 : decode cX0_stepOff 44 = .ok (.putfield 122, 3) := by decide +kernel
theorem dX0_stepOff_47 : decode cX0_stepOff 47 = .ok (.return_, 1) := by decide +kernel
theorem dX0_stepOffFrom_0 : decode cX0_stepOffFrom 0 = .ok (.iconst 0, 1) := by decide +kernel
theorem dX0_stepOffFrom_1 : decode cX0_stepOffFrom 1 = .ok (.istore_n 3, 1) := by decide +kernel
theorem dX0_stepOffFrom_2 : decode cX0_stepOffFrom 2 = .ok (.iconst 0, 1) := by decide +kernel
theorem dX0_stepOffFrom_3 : decode cX0_stepOffFrom 3 = .ok (.istore 4, 2) := by decide +kernel
theorem dX0_stepOffFrom_5 : decode cX0_stepOffFrom 5 = .ok (.iconst 0, 1) := by decide +kernel
theorem dX0_stepOffFrom_6 : decode cX0_stepOffFrom 6 = .ok (.istore 5, 2) := by decide +kernel
theorem dX0_stepOffFrom_8 : decode cX0_stepOffFrom 8 = .ok (.iload 5, 2) := by decide +kernel
theorem dX0_stepOffFrom_10 : decode cX0_stepOffFrom 10 = .ok (.aload_n 0, 1) := by decide +kernel
theorem dX0_stepOffFrom_11 : decode cX0_stepOffFrom 11 = .ok (.getfield 38, 3) := by decide +kernel
theorem dX0_stepOffFrom_14 : decode cX0_stepOffFrom 14 = .ok (.if_icmp .ge 92, 3) := by decide +kernel
theorem dX0_stepOffFrom_17 : decode cX0_stepOffFrom 17 = .ok (.aload_n 0, 1) := by decide +kernel
theorem dX0_stepOffFrom_18 : decode cX0_stepOffFrom 18 = .ok (.getfield 11, 3) := by decide +kernel
theorem dX0_stepOffFrom_21 : decode cX0_stepOffFrom 21 = .ok (.iload 5, 2) := by decide +kernel
theorem dX0_stepOffFrom_23 : decode cX0_stepOffFrom 23 = .ok (.aaload, 1) := by decide +kernel
theorem dX0_stepOffFrom_24 : decode cX0_stepOffFrom 24 = .ok (.astore 6, 2) := by decide +kernel
theorem dX0_stepOffFrom_26 : decode cX0_stepOffFrom 26 = .ok (.aload 6, 2) := by decide +kernel
theorem dX0_stepOffFrom_28 : decode cX0_stepOffFrom 28 = .ok (.getfield 138, 3) := by decide +kernel
theorem dX0_stepOffFrom_31 : decode cX0_stepOffFrom 31 = .ok (.iconst 2, 1) := by decide +kernel
theorem dX0_stepOffFrom_32 : decode cX0_stepOffFrom 32 = .ok (.if_icmp .ne 68, 3) := by decide +kernel
theorem dX0_stepOffFrom_35 : decode cX0_stepOffFrom 35 = .ok (.aload 6, 2) := by decide +kernel
theorem dX0_stepOffFrom_37 : decode cX0_stepOffFrom 37 = .ok (.getfield 147, 3) := by decide +kernel
theorem dX0_stepOffFrom_40 : decode cX0_stepOffFrom 40 = .ok (.iload_n 1, 1) := by decide +kernel
theorem dX0_stepOffFrom_41 : decode cX0_stepOffFrom 41 = .ok (.if_icmp .eq 6, 3) := by decide +kernel
theorem dX0_stepOffFrom_44 : decode cX0_stepOffFrom 44 = .ok (.goto 56, 3) := by decide +kernel
theorem dX0_stepOffFrom_47 : decode cX0_stepOffFrom 47 = .ok (.aload_n 0, 1) := by decide +kernel
theorem dX0_stepOffFrom_48 : decode cX0_stepOffFrom 48 = .ok (.aload 6, 2) := by decide +kernel
theorem dX0_stepOffFrom_50 : decode cX0_stepOffFrom 50 = .ok (.invokevirtual 150, 3) := by decide +kernel
theorem dX0_stepOffFrom_53 : decode cX0_stepOffFrom 53 = .ok (.ifCond .eq 17, 3) := by decide +kernel
theorem dX0_stepOffFrom_56 : decode cX0_stepOffFrom 56 = .ok (.aload 6, 2) := by decide +kernel
theorem dX0_stepOffFrom_58 : decode cX0_stepOffFrom 58 = .ok (.dup, 1) := by decide +kernel
theorem dX0_stepOffFrom_59 : decode cX0_stepOffFrom 59 = .ok (.getfield 154, 3) := by decide +kernel
theorem dX0_stepOffFrom_62 : decode cX0_stepOffFrom 62 = .ok (.iconst 1, 1) := by decide +kernel
theorem dX0_stepOffFrom_63 : decode cX0_stepOffFrom 63 = .ok (.iadd, 1) := by decide +kernel
theorem dX0_stepOffFrom_64 : decode cX0_stepOffFrom 64 = .ok (.putfield 154, 3) := by decide +kernel
theorem dX0_stepOffFrom_67 : decode cX0_stepOffFrom 67 = .ok (.goto 33, 3) := by decide +kernel
theorem dX0_stepOffFrom_70 : decode cX0_stepOffFrom 70 = .ok (.aload 6, 2) := by decide +kernel
theorem dX0_stepOffFrom_72 : decode cX0_stepOffFrom 72 = .ok (.iload_n 2, 1) := by decide +kernel
theorem dX0_stepOffFrom_73 : decode cX0_stepOffFrom 73 = .ok (.invokevirtual 157, 3) := by decide +kernel
theorem dX0_stepOffFrom_76 : decode cX0_stepOffFrom 76 = .ok (.aload 6, 2) := by decide +kernel
theorem dX0_stepOffFrom_78 : decode cX0_stepOffFrom 78 = .ok (.getfield 90, 3) := by decide +kernel
theorem dX0_stepOffFrom_81 : decode cX0_stepOffFrom 81 = .ok (.ifCond .eq 9, 3) := by decide +kernel
theorem dX0_stepOffFrom_84 : decode cX0_stepOffFrom 84 = .ok (.iinc 4 1, 3) := by decide +kernel
theorem dX0_stepOffFrom_87 : decode cX0_stepOffFrom 87 = .ok (.goto 13, 3) := by decide +kernel
theorem dX0_stepOffFrom_90 : decode cX0_stepOffFrom 90 = .ok (.iload_n 3, 1) := by decide +kernel
theorem dX0_stepOffFrom_91 : decode cX0_stepOffFrom 91 = .ok (.iconst 1, 1) := by decide +kernel
theorem dX0_stepOffFrom_92 : decode cX0_stepOffFrom 92 = .ok (.aload 6, 2) := by decide +kernel
theorem dX0_stepOffFrom_94 : decode cX0_stepOffFrom 94 = .ok (.getfield 94, 3) := by decide +kernel
theorem dX0_stepOffFrom_97 : decode cX0_stepOffFrom 97 = .ok (.ishl, 1) := by decide +kernel
theorem dX0_stepOffFrom_98 : decode cX0_stepOffFrom 98 = .ok (.ior, 1) := by decide +kernel
theorem dX0_stepOffFrom_99 : decode cX0_stepOffFrom 99 = .ok (.istore_n 3, 1) := by decide +kernel
theorem dX0_stepOffFrom_100 : decode cX0_stepOffFrom 100 = .ok (.iinc 5 1, 3) := by decide +kernel
theorem dX0_stepOffFrom_103 : decode cX0_stepOffFrom 103 = .ok (.goto (-95), 3) := by decide +kernel
theorem dX0_stepOffFrom_106 : decode cX0_stepOffFrom 106 = .ok (.iload 4, 2) := by decide +kernel
theorem dX0_stepOffFrom_108 : decode cX0_stepOffFrom 108 = .ok (.aload_n 0, 1) := by decide +kernel
theorem dX0_stepOffFrom_109 : decode cX0_stepOffFrom 109 = .ok (.iload_n 3, 1) := by decide +kernel
theorem dX0_stepOffFrom_110 : decode cX0_stepOffFrom 110 = .ok (.invokestatic 160, 3) := by decide +kernel
theorem dX0_stepOffFrom_113 : decode cX0_stepOffFrom 113 = .ok (.iload_n 1, 1) := by decide +kernel
theorem dX0_stepOffFrom_114 : decode cX0_stepOffFrom 114 = .ok (.iload_n 2, 1) := by decide +kernel
theorem dX0_stepOffFrom_115 : decode cX0_stepOffFrom 115 = .ok (.invokevirtual 165, 3) := by decide +kernel
theorem dX0_stepOffFrom_118 : decode cX0_stepOffFrom 118 = .ok (.iadd, 1) := by decide +kernel
theorem dX0_stepOffFrom_119 : decode cX0_stepOffFrom 119 = .ok (.ireturn, 1) := by decide +kernel
theorem dX0_isHeldBack_0 : decode cX0_isHeldBack 0 = .ok (.aload_n 1, 1) := by decide +kernel
theorem dX0_isHeldBack_1 : decode cX0_isHeldBack 1 = .ok (.getfield 59, 3) := by decide +kernel
theorem dX0_isHeldBack_4 : decode cX0_isHeldBack 4 = .ok (.ifCond .ne 5, 3) := by decide +kernel
theorem dX0_isHeldBack_7 : decode cX0_isHeldBack 7 = .ok (.iconst 0, 1) := by decide +kernel
theorem dX0_isHeldBack_8 : decode cX0_isHeldBack 8 = .ok (.ireturn, 1) := by decide +kernel
theorem dX0_isHeldBack_9 : decode cX0_isHeldBack 9 = .ok (.iconst 0, 1) := by decide +kernel
theorem dX0_isHeldBack_10 : decode cX0_isHeldBack 10 = .ok (.istore_n 2, 1) := by decide +kernel
theorem dX0_isHeldBack_11 : decode cX0_isHeldBack 11 = .ok (.iload_n 2, 1) := by decide +kernel
theorem dX0_isHeldBack_12 : decode cX0_isHeldBack 12 = .ok (.aload_n 0, 1) := by decide +kernel
theorem dX0_isHeldBack_13 : decode cX0_isHeldBack 13 = .ok (.getfield 38, 3) := by decide +kernel
theorem dX0_isHeldBack_16 : decode cX0_isHeldBack 16 = .ok (.if_icmp .ge 49, 3) := by decide +kernel
theorem dX0_isHeldBack_19 : decode cX0_isHeldBack 19 = .ok (.aload_n 0, 1) := by decide +kernel
theorem dX0_isHeldBack_20 : decode cX0_isHeldBack 20 = .ok (.getfield 11, 3) := by decide +kernel
theorem dX0_isHeldBack_23 : decode cX0_isHeldBack 23 = .ok (.iload_n 2, 1) := by decide +kernel
theorem dX0_isHeldBack_24 : decode cX0_isHeldBack 24 = .ok (.aaload, 1) := by decide +kernel
theorem dX0_isHeldBack_25 : decode cX0_isHeldBack 25 = .ok (.astore_n 3, 1) := by decide +kernel
theorem dX0_isHeldBack_26 : decode cX0_isHeldBack 26 = .ok (.aload_n 1, 1) := by decide +kernel
theorem dX0_isHeldBack_27 : decode cX0_isHeldBack 27 = .ok (.getfield 59, 3) := by decide +kernel
theorem dX0_isHeldBack_30 : decode cX0_isHeldBack 30 = .ok (.iload_n 2, 1) := by decide +kernel
theorem dX0_isHeldBack_31 : decode cX0_isHeldBack 31 = .ok (.ishr, 1) := by decide +kernel
theorem dX0_isHeldBack_32 : decode cX0_isHeldBack 32 = .ok (.iconst 1, 1) := by decide +kernel
theorem dX0_isHeldBack_33 : decode cX0_isHeldBack 33 = .ok (.iand, 1) := by decide +kernel
theorem dX0_isHeldBack_34 : decode cX0_isHeldBack 34 = .ok (.iconst 1, 1) := by decide +kernel
theorem dX0_isHeldBack_35 : decode cX0_isHeldBack 35 = .ok (.if_icmp .ne 24, 3) := by decide +kernel
theorem dX0_isHeldBack_38 : decode cX0_isHeldBack 38 = .ok (.aload_n 3, 1) := by decide +kernel
theorem dX0_isHeldBack_39 : decode cX0_isHeldBack 39 = .ok (.getfield 138, 3) := by decide +kernel
theorem dX0_isHeldBack_42 : decode cX0_isHeldBack 42 = .ok (.iconst 1, 1) := by decide +kernel
theorem dX0_isHeldBack_43 : decode cX0_isHeldBack 43 = .ok (.if_icmp .ne 16, 3) := by decide +kernel
theorem dX0_isHeldBack_46 : decode cX0_isHeldBack 46 = .ok (.aload_n 3, 1) := by decide +kernel
theorem dX0_isHeldBack_47 : decode cX0_isHeldBack 47 = .ok (.getfield 147, 3) := by decide +kernel
theorem dX0_isHeldBack_50 : decode cX0_isHeldBack 50 = .ok (.aload_n 1, 1) := by decide +kernel
theorem dX0_isHeldBack_51 : decode cX0_isHeldBack 51 = .ok (.getfield 147, 3) := by decide +kernel
theorem dX0_isHeldBack_54 : decode cX0_isHeldBack 54 = .ok (.if_icmp .ne 5, 3) := by decide +kernel
theorem dX0_isHeldBack_57 : decode cX0_isHeldBack 57 = .ok (.iconst 1, 1) := by decide +kernel
theorem dX0_isHeldBack_58 : decode cX0_isHeldBack 58 = .ok (.ireturn, 1) := by decide +kernel
theorem dX0_isHeldBack_59 : decode cX0_isHeldBack 59 = .ok (.iinc 2 1, 3) := by decide +kernel
theorem dX0_isHeldBack_62 : decode cX0_isHeldBack 62 = .ok (.goto (-51), 3) := by decide +kernel
theorem dX0_isHeldBack_65 : decode cX0_isHeldBack 65 = .ok (.iconst 0, 1) := by decide +kernel
theorem dX0_isHeldBack_66 : decode cX0_isHeldBack 66 = .ok (.ireturn, 1) := by decide +kernel
theorem dX0_countOf_0 : decode cX0_countOf 0 = .ok (.iload_n 1, 1) := by decide +kernel
theorem dX0_countOf_1 : decode cX0_countOf 1 = .ok (.ifCond .eq 13, 3) := by decide +kernel
theorem dX0_countOf_4 : decode cX0_countOf 4 = .ok (.aload_n 0, 1) := by decide +kernel
theorem dX0_countOf_5 : decode cX0_countOf 5 = .ok (.getfield 17, 3) := by decide +kernel
theorem dX0_countOf_8 : decode cX0_countOf 8 = .ok (.iconst 1, 1) := by decide +kernel
theorem dX0_countOf_9 : decode cX0_countOf 9 = .ok (.iaload, 1) := by decide +kernel
theorem dX0_countOf_10 : decode cX0_countOf 10 = .ok (.iconst 1, 1) := by decide +kernel
theorem dX0_countOf_11 : decode cX0_countOf 11 = .ok (.if_icmp .ne 5, 3) := by decide +kernel
theorem dX0_countOf_14 : decode cX0_countOf 14 = .ok (.iload_n 1, 1) := by decide +kernel
theorem dX0_countOf_15 : decode cX0_countOf 15 = .ok (.ireturn, 1) := by decide +kernel
theorem dX0_countOf_16 : decode cX0_countOf 16 = .ok (.aload_n 0, 1) := by decide +kernel
theorem dX0_countOf_17 : decode cX0_countOf 17 = .ok (.getfield 17, 3) := by decide +kernel
theorem dX0_countOf_20 : decode cX0_countOf 20 = .ok (.iconst 1, 1) := by decide +kernel
theorem dX0_countOf_21 : decode cX0_countOf 21 = .ok (.iaload, 1) := by decide +kernel
theorem dX0_countOf_22 : decode cX0_countOf 22 = .ok (.iconst 2, 1) := by decide +kernel
theorem dX0_countOf_23 : decode cX0_countOf 23 = .ok (.if_icmp .ne 22, 3) := by decide +kernel
theorem dX0_countOf_26 : decode cX0_countOf 26 = .ok (.aload_n 0, 1) := by decide +kernel
theorem dX0_countOf_27 : decode cX0_countOf 27 = .ok (.getfield 21, 3) := by decide +kernel
theorem dX0_countOf_30 : decode cX0_countOf 30 = .ok (.iload_n 2, 1) := by decide +kernel
theorem dX0_countOf_31 : decode cX0_countOf 31 = .ok (.iaload, 1) := by decide +kernel
theorem dX0_countOf_32 : decode cX0_countOf 32 = .ok (.iload_n 3, 1) := by decide +kernel
theorem dX0_countOf_33 : decode cX0_countOf 33 = .ok (.aload_n 0, 1) := by decide +kernel
theorem dX0_countOf_34 : decode cX0_countOf 34 = .ok (.getfield 17, 3) := by decide +kernel
theorem dX0_countOf_37 : decode cX0_countOf 37 = .ok (.iconst 2, 1) := by decide +kernel
theorem dX0_countOf_38 : decode cX0_countOf 38 = .ok (.iaload, 1) := by decide +kernel
theorem dX0_countOf_39 : decode cX0_countOf 39 = .ok (.isub, 1) := by decide +kernel
theorem dX0_countOf_40 : decode cX0_countOf 40 = .ok (.if_icmp .lt 5, 3) := by decide +kernel
theorem dX0_countOf_43 : decode cX0_countOf 43 = .ok (.iconst 0, 1) := by decide +kernel
theorem dX0_countOf_44 : decode cX0_countOf 44 = .ok (.ireturn, 1) := by decide +kernel
theorem dX0_countOf_45 : decode cX0_countOf 45 = .ok (.aload_n 0, 1) := by decide +kernel
theorem dX0_countOf_46 : decode cX0_countOf 46 = .ok (.getfield 21, 3) := by decide +kernel
theorem dX0_countOf_49 : decode cX0_countOf 49 = .ok (.iload_n 2, 1) := by decide +kernel
theorem dX0_countOf_50 : decode cX0_countOf 50 = .ok (.iload_n 3, 1) := by decide +kernel
theorem dX0_countOf_51 : decode cX0_countOf 51 = .ok (.iastore, 1) := by decide +kernel
theorem dX0_countOf_52 : decode cX0_countOf 52 = .ok (.iconst 1, 1) := by decide +kernel
theorem dX0_countOf_53 : decode cX0_countOf 53 = .ok (.ireturn, 1) := by decide +kernel
theorem dX0_comeByFord_0 : decode cX0_comeByFord 0 = .ok (.iconst 0, 1) := by decide +kernel
theorem dX0_comeByFord_1 : decode cX0_comeByFord 1 = .ok (.istore_n 2, 1) := by decide +kernel
theorem dX0_comeByFord_2 : decode cX0_comeByFord 2 = .ok (.iload_n 2, 1) := by decide +kernel
theorem dX0_comeByFord_3 : decode cX0_comeByFord 3 = .ok (.aload_n 0, 1) := by decide +kernel
theorem dX0_comeByFord_4 : decode cX0_comeByFord 4 = .ok (.getfield 38, 3) := by decide +kernel
theorem dX0_comeByFord_7 : decode cX0_comeByFord 7 = .ok (.if_icmp .ge 47, 3) := by decide +kernel
theorem dX0_comeByFord_10 : decode cX0_comeByFord 10 = .ok (.aload_n 0, 1) := by decide +kernel
theorem dX0_comeByFord_11 : decode cX0_comeByFord 11 = .ok (.getfield 11, 3) := by decide +kernel
theorem dX0_comeByFord_14 : decode cX0_comeByFord 14 = .ok (.iload_n 2, 1) := by decide +kernel
theorem dX0_comeByFord_15 : decode cX0_comeByFord 15 = .ok (.aaload, 1) := by decide +kernel
theorem dX0_comeByFord_16 : decode cX0_comeByFord 16 = .ok (.astore_n 3, 1) := by decide +kernel
theorem dX0_comeByFord_17 : decode cX0_comeByFord 17 = .ok (.aload_n 3, 1) := by decide +kernel
theorem dX0_comeByFord_18 : decode cX0_comeByFord 18 = .ok (.getfield 138, 3) := by decide +kernel
theorem dX0_comeByFord_21 : decode cX0_comeByFord 21 = .ok (.iconst 3, 1) := by decide +kernel
theorem dX0_comeByFord_22 : decode cX0_comeByFord 22 = .ok (.if_icmp .ne 26, 3) := by decide +kernel
theorem dX0_comeByFord_25 : decode cX0_comeByFord 25 = .ok (.aload_n 3, 1) := by decide +kernel
theorem dX0_comeByFord_26 : decode cX0_comeByFord 26 = .ok (.getfield 169, 3) := by decide +kernel
theorem dX0_comeByFord_29 : decode cX0_comeByFord 29 = .ok (.iload_n 1, 1) := by decide +kernel
theorem dX0_comeByFord_30 : decode cX0_comeByFord 30 = .ok (.if_icmp .ne 18, 3) := by decide +kernel
theorem dX0_comeByFord_33 : decode cX0_comeByFord 33 = .ok (.aload_n 3, 1) := by decide +kernel
theorem dX0_comeByFord_34 : decode cX0_comeByFord 34 = .ok (.dup, 1) := by decide +kernel
theorem dX0_comeByFord_35 : decode cX0_comeByFord 35 = .ok (.getfield 172, 3) := by decide +kernel
theorem dX0_comeByFord_38 : decode cX0_comeByFord 38 = .ok (.iconst 1, 1) := by decide +kernel
theorem dX0_comeByFord_39 : decode cX0_comeByFord 39 = .ok (.iadd, 1) := by decide +kernel
theorem dX0_comeByFord_40 : decode cX0_comeByFord 40 = .ok (.putfield 172, 3) := by decide +kernel
theorem dX0_comeByFord_43 : decode cX0_comeByFord 43 = .ok (.aload_n 3, 1) := by decide +kernel
theorem dX0_comeByFord_44 : decode cX0_comeByFord 44 = .ok (.iload_n 1, 1) := by decide +kernel
theorem dX0_comeByFord_45 : decode cX0_comeByFord 45 = .ok (.invokevirtual 157, 3) := by decide +kernel
theorem dX0_comeByFord_48 : decode cX0_comeByFord 48 = .ok (.iinc 2 1, 3) := by decide +kernel
theorem dX0_comeByFord_51 : decode cX0_comeByFord 51 = .ok (.goto (-49), 3) := by decide +kernel
theorem dX0_comeByFord_54 : decode cX0_comeByFord 54 = .ok (.return_, 1) := by decide +kernel
theorem dX0_start_0 : decode cX0_start 0 = .ok (.iconst 0, 1) := by decide +kernel
theorem dX0_start_1 : decode cX0_start 1 = .ok (.istore_n 2, 1) := by decide +kernel
theorem dX0_start_2 : decode cX0_start 2 = .ok (.iload_n 2, 1) := by decide +kernel
theorem dX0_start_3 : decode cX0_start 3 = .ok (.aload_n 0, 1) := by decide +kernel
theorem dX0_start_4 : decode cX0_start 4 = .ok (.getfield 38, 3) := by decide +kernel
theorem dX0_start_7 : decode cX0_start 7 = .ok (.if_icmp .ge 87, 3) := by decide +kernel
theorem dX0_start_10 : decode cX0_start 10 = .ok (.aload_n 0, 1) := by decide +kernel
theorem dX0_start_11 : decode cX0_start 11 = .ok (.getfield 11, 3) := by decide +kernel
theorem dX0_start_14 : decode cX0_start 14 = .ok (.iload_n 2, 1) := by decide +kernel
theorem dX0_start_15 : decode cX0_start 15 = .ok (.aaload, 1) := by decide +kernel
theorem dX0_start_16 : decode cX0_start 16 = .ok (.astore_n 3, 1) := by decide +kernel
theorem dX0_start_17 : decode cX0_start 17 = .ok (.aload_n 3, 1) := by decide +kernel
theorem dX0_start_18 : decode cX0_start 18 = .ok (.getfield 138, 3) := by decide +kernel
theorem dX0_start_21 : decode cX0_start 21 = .ok (.ifCond .ne 67, 3) := by decide +kernel
theorem dX0_start_24 : decode cX0_start 24 = .ok (.aload_n 3, 1) := by decide +kernel
theorem dX0_start_25 : decode cX0_start 25 = .ok (.getfield 169, 3) := by decide +kernel
theorem dX0_start_28 : decode cX0_start 28 = .ok (.iload_n 1, 1) := by decide +kernel
theorem dX0_start_29 : decode cX0_start 29 = .ok (.if_icmp .eq 6, 3) := by decide +kernel
theorem dX0_start_32 : decode cX0_start 32 = .ok (.goto 56, 3) := by decide +kernel
theorem dX0_start_35 : decode cX0_start 35 = .ok (.aload_n 0, 1) := by decide +kernel
theorem dX0_start_36 : decode cX0_start 36 = .ok (.getfield 17, 3) := by decide +kernel
theorem dX0_start_39 : decode cX0_start 39 = .ok (.iconst 5, 1) := by decide +kernel
theorem dX0_start_40 : decode cX0_start 40 = .ok (.iaload, 1) := by decide +kernel
theorem dX0_start_41 : decode cX0_start 41 = .ok (.ifCond .le 38, 3) := by decide +kernel
theorem dX0_start_44 : decode cX0_start 44 = .ok (.aload_n 0, 1) := by decide +kernel
theorem dX0_start_45 : decode cX0_start 45 = .ok (.getfield 122, 3) := by decide +kernel
theorem dX0_start_48 : decode cX0_start 48 = .ok (.aload_n 3, 1) := by decide +kernel
theorem dX0_start_49 : decode cX0_start 49 = .ok (.getfield 83, 3) := by decide +kernel
theorem dX0_start_52 : decode cX0_start 52 = .ok (.invokestatic 175, 3) := by decide +kernel
theorem dX0_start_55 : decode cX0_start 55 = .ok (.aload_n 0, 1) := by decide +kernel
theorem dX0_start_56 : decode cX0_start 56 = .ok (.getfield 17, 3) := by decide +kernel
theorem dX0_start_59 : decode cX0_start 59 = .ok (.iconst 5, 1) := by decide +kernel
theorem dX0_start_60 : decode cX0_start 60 = .ok (.iaload, 1) := by decide +kernel
theorem dX0_start_61 : decode cX0_start 61 = .ok (.if_icmp .le 18, 3) := by decide +kernel
theorem dX0_start_64 : decode cX0_start 64 = .ok (.aload_n 3, 1) := by decide +kernel
theorem dX0_start_65 : decode cX0_start 65 = .ok (.iload_n 1, 1) := by decide +kernel
theorem dX0_start_66 : decode cX0_start 66 = .ok (.aload_n 0, 1) := by decide +kernel
theorem dX0_start_67 : decode cX0_start 67 = .ok (.getfield 17, 3) := by decide +kernel
theorem dX0_start_70 : decode cX0_start 70 = .ok (.iconst 5, 1) := by decide +kernel
theorem dX0_start_71 : decode cX0_start 71 = .ok (.iaload, 1) := by decide +kernel
theorem dX0_start_72 : decode cX0_start 72 = .ok (.iadd, 1) := by decide +kernel
theorem dX0_start_73 : decode cX0_start 73 = .ok (.invokevirtual 178, 3) := by decide +kernel
theorem dX0_start_76 : decode cX0_start 76 = .ok (.goto 12, 3) := by decide +kernel
theorem dX0_start_79 : decode cX0_start 79 = .ok (.aload_n 3, 1) := by decide +kernel
theorem dX0_start_80 : decode cX0_start 80 = .ok (.aload_n 0, 1) := by decide +kernel
theorem dX0_start_81 : decode cX0_start 81 = .ok (.iload_n 2, 1) := by decide +kernel
theorem dX0_start_82 : decode cX0_start 82 = .ok (.invokevirtual 181, 3) := by decide +kernel
theorem dX0_start_85 : decode cX0_start 85 = .ok (.invokevirtual 184, 3) := by decide +kernel
theorem dX0_start_88 : decode cX0_start 88 = .ok (.iinc 2 1, 3) := by decide +kernel
theorem dX0_start_91 : decode cX0_start 91 = .ok (.goto (-89), 3) := by decide +kernel
theorem dX0_start_94 : decode cX0_start 94 = .ok (.return_, 1) := by decide +kernel
theorem dX0_takeRope_0 : decode cX0_takeRope 0 = .ok (.aload_n 0, 1) := by decide +kernel
theorem dX0_takeRope_1 : decode cX0_takeRope 1 = .ok (.getfield 35, 3) := by decide +kernel
theorem dX0_takeRope_4 : decode cX0_takeRope 4 = .ok (.iconst (-1), 1) := by decide +kernel
theorem dX0_takeRope_5 : decode cX0_takeRope 5 = .ok (.if_icmp .eq 21, 3) := by decide +kernel
theorem dX0_takeRope_8 : decode cX0_takeRope 8 = .ok (.aload_n 0, 1) := by decide +kernel
theorem dX0_takeRope_9 : decode cX0_takeRope 9 = .ok (.getfield 35, 3) := by decide +kernel
theorem dX0_takeRope_12 : decode cX0_takeRope 12 = .ok (.iload_n 1, 1) := by decide +kernel
theorem dX0_takeRope_13 : decode cX0_takeRope 13 = .ok (.ishr, 1) := by decide +kernel
theorem dX0_takeRope_14 : decode cX0_takeRope 14 = .ok (.iconst 1, 1) := by decide +kernel
theorem dX0_takeRope_15 : decode cX0_takeRope 15 = .ok (.iand, 1) := by decide +kernel
theorem dX0_takeRope_16 : decode cX0_takeRope 16 = .ok (.iconst 1, 1) := by decide +kernel
theorem dX0_takeRope_17 : decode cX0_takeRope 17 = .ok (.if_icmp .ne 7, 3) := by decide +kernel
theorem dX0_takeRope_20 : decode cX0_takeRope 20 = .ok (.iconst 1, 1) := by decide +kernel
theorem dX0_takeRope_21 : decode cX0_takeRope 21 = .ok (.goto 4, 3) := by decide +kernel
theorem dX0_takeRope_24 : decode cX0_takeRope 24 = .ok (.iconst 0, 1) := by decide +kernel
theorem dX0_takeRope_25 : decode cX0_takeRope 25 = .ok (.ireturn, 1) := by decide +kernel
theorem dX0_takeRope_26 : decode cX0_takeRope 26 = .ok (.aload_n 0, 1) := by decide +kernel
theorem dX0_takeRope_27 : decode cX0_takeRope 27 = .ok (.getfield 125, 3) := by decide +kernel
theorem dX0_takeRope_30 : decode cX0_takeRope 30 = .ok (.ifCond .ne 5, 3) := by decide +kernel
theorem dX0_takeRope_33 : decode cX0_takeRope 33 = .ok (.iconst 0, 1) := by decide +kernel
theorem dX0_takeRope_34 : decode cX0_takeRope 34 = .ok (.ireturn, 1) := by decide +kernel
theorem dX0_takeRope_35 : decode cX0_takeRope 35 = .ok (.aload_n 0, 1) := by decide +kernel
theorem dX0_takeRope_36 : decode cX0_takeRope 36 = .ok (.dup, 1) := by decide +kernel
theorem dX0_takeRope_37 : decode cX0_takeRope 37 = .ok (.getfield 125, 3) := by decide +kernel
theorem dX0_takeRope_40 : decode cX0_takeRope 40 = .ok (.iconst 1, 1) := by decide +kernel
theorem dX0_takeRope_41 : decode cX0_takeRope 41 = .ok (.isub, 1) := by decide +kernel
theorem dX0_takeRope_42 : decode cX0_takeRope 42 = .ok (.putfield 125, 3) := by decide +kernel
theorem dX0_takeRope_45 : decode cX0_takeRope 45 = .ok (.iconst 1, 1) := by decide +kernel
theorem dX0_takeRope_46 : decode cX0_takeRope 46 = .ok (.ireturn, 1) := by decide +kernel
theorem dX0_onBridgeFrom_0 : decode cX0_onBridgeFrom 0 = .ok (.iconst 0, 1) := by decide +kernel
theorem dX0_onBridgeFrom_1 : decode cX0_onBridgeFrom 1 = .ok (.istore_n 2, 1) := by decide +kernel
theorem dX0_onBridgeFrom_2 : decode cX0_onBridgeFrom 2 = .ok (.iconst 0, 1) := by decide +kernel
theorem dX0_onBridgeFrom_3 : decode cX0_onBridgeFrom 3 = .ok (.istore_n 3, 1) := by decide +kernel
theorem dX0_onBridgeFrom_4 : decode cX0_onBridgeFrom 4 = .ok (.iload_n 3, 1) := by decide +kernel
theorem dX0_onBridgeFrom_5 : decode cX0_onBridgeFrom 5 = .ok (.aload_n 0, 1) := by decide +kernel
theorem dX0_onBridgeFrom_6 : decode cX0_onBridgeFrom 6 = .ok (.getfield 38, 3) := by decide +kernel
theorem dX0_onBridgeFrom_9 : decode cX0_onBridgeFrom 9 = .ok (.if_icmp .ge 40, 3) := by decide +kernel
theorem dX0_onBridgeFrom_12 : decode cX0_onBridgeFrom 12 = .ok (.aload_n 0, 1) := by decide +kernel
theorem dX0_onBridgeFrom_13 : decode cX0_onBridgeFrom 13 = .ok (.getfield 11, 3) := by decide +kernel
theorem dX0_onBridgeFrom_16 : decode cX0_onBridgeFrom 16 = .ok (.iload_n 3, 1) := by decide +kernel
theorem dX0_onBridgeFrom_17 : decode cX0_onBridgeFrom 17 = .ok (.aaload, 1) := by decide +kernel
theorem dX0_onBridgeFrom_18 : decode cX0_onBridgeFrom 18 = .ok (.invokevirtual 188, 3) := by decide +kernel
theorem dX0_onBridgeFrom_21 : decode cX0_onBridgeFrom 21 = .ok (.ifCond .eq 22, 3) := by decide +kernel
theorem dX0_onBridgeFrom_24 : decode cX0_onBridgeFrom 24 = .ok (.aload_n 0, 1) := by decide +kernel
theorem dX0_onBridgeFrom_25 : decode cX0_onBridgeFrom 25 = .ok (.getfield 11, 3) := by decide +kernel
theorem dX0_onBridgeFrom_28 : decode cX0_onBridgeFrom 28 = .ok (.iload_n 3, 1) := by decide +kernel
theorem dX0_onBridgeFrom_29 : decode cX0_onBridgeFrom 29 = .ok (.aaload, 1) := by decide +kernel
theorem dX0_onBridgeFrom_30 : decode cX0_onBridgeFrom 30 = .ok (.getfield 147, 3) := by decide +kernel
theorem dX0_onBridgeFrom_33 : decode cX0_onBridgeFrom 33 = .ok (.iload_n 1, 1) := by decide +kernel
theorem dX0_onBridgeFrom_34 : decode cX0_onBridgeFrom 34 = .ok (.if_icmp .ne 9, 3) := by decide +kernel
theorem dX0_onBridgeFrom_37 : decode cX0_onBridgeFrom 37 = .ok (.iload_n 2, 1) := by decide +kernel
theorem dX0_onBridgeFrom_38 : decode cX0_onBridgeFrom 38 = .ok (.iconst 1, 1) := by decide +kernel
theorem dX0_onBridgeFrom_39 : decode cX0_onBridgeFrom 39 = .ok (.iload_n 3, 1) := by decide +kernel
theorem dX0_onBridgeFrom_40 : decode cX0_onBridgeFrom 40 = .ok (.ishl, 1) := by decide +kernel
theorem dX0_onBridgeFrom_41 : decode cX0_onBridgeFrom 41 = .ok (.ior, 1) := by decide +kernel
theorem dX0_onBridgeFrom_42 : decode cX0_onBridgeFrom 42 = .ok (.istore_n 2, 1) := by decide +kernel
theorem dX0_onBridgeFrom_43 : decode cX0_onBridgeFrom 43 = .ok (.iinc 3 1, 3) := by decide +kernel
theorem dX0_onBridgeFrom_46 : decode cX0_onBridgeFrom 46 = .ok (.goto (-42), 3) := by decide +kernel
theorem dX0_onBridgeFrom_49 : decode cX0_onBridgeFrom 49 = .ok (.iload_n 2, 1) := by decide +kernel
theorem dX0_onBridgeFrom_50 : decode cX0_onBridgeFrom 50 = .ok (.ireturn, 1) := by decide +kernel
theorem dX0_whoIs_0 : decode cX0_whoIs 0 = .ok (.iconst 0, 1) := by decide +kernel
theorem dX0_whoIs_1 : decode cX0_whoIs 1 = .ok (.istore_n 2, 1) := by decide +kernel
theorem dX0_whoIs_2 : decode cX0_whoIs 2 = .ok (.iconst 0, 1) := by decide +kernel
theorem dX0_whoIs_3 : decode cX0_whoIs 3 = .ok (.istore_n 3, 1) := by decide +kernel
theorem dX0_whoIs_4 : decode cX0_whoIs 4 = .ok (.iload_n 3, 1) := by decide +kernel
theorem dX0_whoIs_5 : decode cX0_whoIs 5 = .ok (.aload_n 0, 1) := by decide +kernel
theorem dX0_whoIs_6 : decode cX0_whoIs 6 = .ok (.getfield 38, 3) := by decide +kernel
theorem dX0_whoIs_9 : decode cX0_whoIs 9 = .ok (.if_icmp .ge 28, 3) := by decide +kernel
theorem dX0_whoIs_12 : decode cX0_whoIs 12 = .ok (.aload_n 0, 1) := by decide +kernel
theorem dX0_whoIs_13 : decode cX0_whoIs 13 = .ok (.getfield 11, 3) := by decide +kernel
theorem dX0_whoIs_16 : decode cX0_whoIs 16 = .ok (.iload_n 3, 1) := by decide +kernel
theorem dX0_whoIs_17 : decode cX0_whoIs 17 = .ok (.aaload, 1) := by decide +kernel
theorem dX0_whoIs_18 : decode cX0_whoIs 18 = .ok (.getfield 138, 3) := by decide +kernel
theorem dX0_whoIs_21 : decode cX0_whoIs 21 = .ok (.iload_n 1, 1) := by decide +kernel
theorem dX0_whoIs_22 : decode cX0_whoIs 22 = .ok (.if_icmp .ne 9, 3) := by decide +kernel
theorem dX0_whoIs_25 : decode cX0_whoIs 25 = .ok (.iload_n 2, 1) := by decide +kernel
theorem dX0_whoIs_26 : decode cX0_whoIs 26 = .ok (.iconst 1, 1) := by decide +kernel
theorem dX0_whoIs_27 : decode cX0_whoIs 27 = .ok (.iload_n 3, 1) := by decide +kernel
theorem dX0_whoIs_28 : decode cX0_whoIs 28 = .ok (.ishl, 1) := by decide +kernel
theorem dX0_whoIs_29 : decode cX0_whoIs 29 = .ok (.ior, 1) := by decide +kernel
theorem dX0_whoIs_30 : decode cX0_whoIs 30 = .ok (.istore_n 2, 1) := by decide +kernel
theorem dX0_whoIs_31 : decode cX0_whoIs 31 = .ok (.iinc 3 1, 3) := by decide +kernel
theorem dX0_whoIs_34 : decode cX0_whoIs 34 = .ok (.goto (-30), 3) := by decide +kernel
theorem dX0_whoIs_37 : decode cX0_whoIs 37 = .ok (.iload_n 2, 1) := by decide +kernel
theorem dX0_whoIs_38 : decode cX0_whoIs 38 = .ok (.ireturn, 1) := by decide +kernel
theorem dX0_sumOfOver_0 : decode cX0_sumOfOver 0 = .ok (.iconst 0, 1) := by decide +kernel
theorem dX0_sumOfOver_1 : decode cX0_sumOfOver 1 = .ok (.istore_n 1, 1) := by decide +kernel
theorem dX0_sumOfOver_2 : decode cX0_sumOfOver 2 = .ok (.iconst 0, 1) := by decide +kernel
theorem dX0_sumOfOver_3 : decode cX0_sumOfOver 3 = .ok (.istore_n 2, 1) := by decide +kernel
theorem dX0_sumOfOver_4 : decode cX0_sumOfOver 4 = .ok (.iload_n 2, 1) := by decide +kernel
theorem dX0_sumOfOver_5 : decode cX0_sumOfOver 5 = .ok (.aload_n 0, 1) := by decide +kernel
theorem dX0_sumOfOver_6 : decode cX0_sumOfOver 6 = .ok (.getfield 38, 3) := by decide +kernel
theorem dX0_sumOfOver_9 : decode cX0_sumOfOver 9 = .ok (.if_icmp .ge 21, 3) := by decide +kernel
theorem dX0_sumOfOver_12 : decode cX0_sumOfOver 12 = .ok (.iload_n 1, 1) := by decide +kernel
theorem dX0_sumOfOver_13 : decode cX0_sumOfOver 13 = .ok (.aload_n 0, 1) := by decide +kernel
theorem dX0_sumOfOver_14 : decode cX0_sumOfOver 14 = .ok (.getfield 11, 3) := by decide +kernel
theorem dX0_sumOfOver_17 : decode cX0_sumOfOver 17 = .ok (.iload_n 2, 1) := by decide +kernel
theorem dX0_sumOfOver_18 : decode cX0_sumOfOver 18 = .ok (.aaload, 1) := by decide +kernel
theorem dX0_sumOfOver_19 : decode cX0_sumOfOver 19 = .ok (.getfield 192, 3) := by decide +kernel
theorem dX0_sumOfOver_22 : decode cX0_sumOfOver 22 = .ok (.iadd, 1) := by decide +kernel
theorem dX0_sumOfOver_23 : decode cX0_sumOfOver 23 = .ok (.istore_n 1, 1) := by decide +kernel
theorem dX0_sumOfOver_24 : decode cX0_sumOfOver 24 = .ok (.iinc 2 1, 3) := by decide +kernel
theorem dX0_sumOfOver_27 : decode cX0_sumOfOver 27 = .ok (.goto (-23), 3) := by decide +kernel
theorem dX0_sumOfOver_30 : decode cX0_sumOfOver 30 = .ok (.iload_n 1, 1) := by decide +kernel
theorem dX0_sumOfOver_31 : decode cX0_sumOfOver 31 = .ok (.ireturn, 1) := by decide +kernel
theorem dX0_lastOver_0 : decode cX0_lastOver 0 = .ok (.iconst 0, 1) := by decide +kernel
theorem dX0_lastOver_1 : decode cX0_lastOver 1 = .ok (.istore_n 1, 1) := by decide +kernel
theorem dX0_lastOver_2 : decode cX0_lastOver 2 = .ok (.iconst 0, 1) := by decide +kernel
theorem dX0_lastOver_3 : decode cX0_lastOver 3 = .ok (.istore_n 2, 1) := by decide +kernel
theorem dX0_lastOver_4 : decode cX0_lastOver 4 = .ok (.iload_n 2, 1) := by decide +kernel
theorem dX0_lastOver_5 : decode cX0_lastOver 5 = .ok (.aload_n 0, 1) := by decide +kernel
theorem dX0_lastOver_6 : decode cX0_lastOver 6 = .ok (.getfield 38, 3) := by decide +kernel
theorem dX0_lastOver_9 : decode cX0_lastOver 9 = .ok (.if_icmp .ge 23, 3) := by decide +kernel
theorem dX0_lastOver_12 : decode cX0_lastOver 12 = .ok (.iload_n 1, 1) := by decide +kernel
theorem dX0_lastOver_13 : decode cX0_lastOver 13 = .ok (.aload_n 0, 1) := by decide +kernel
theorem dX0_lastOver_14 : decode cX0_lastOver 14 = .ok (.getfield 11, 3) := by decide +kernel
theorem dX0_lastOver_17 : decode cX0_lastOver 17 = .ok (.iload_n 2, 1) := by decide +kernel
theorem dX0_lastOver_18 : decode cX0_lastOver 18 = .ok (.aaload, 1) := by decide +kernel
theorem dX0_lastOver_19 : decode cX0_lastOver 19 = .ok (.getfield 192, 3) := by decide +kernel
theorem dX0_lastOver_22 : decode cX0_lastOver 22 = .ok (.invokestatic 135, 3) := by decide +kernel
theorem dX0_lastOver_25 : decode cX0_lastOver 25 = .ok (.istore_n 1, 1) := by decide +kernel
theorem dX0_lastOver_26 : decode cX0_lastOver 26 = .ok (.iinc 2 1, 3) := by decide +kernel
theorem dX0_lastOver_29 : decode cX0_lastOver 29 = .ok (.goto (-25), 3) := by decide +kernel
theorem dX0_lastOver_32 : decode cX0_lastOver 32 = .ok (.iload_n 1, 1) := by decide +kernel
theorem dX0_lastOver_33 : decode cX0_lastOver 33 = .ok (.ireturn, 1) := by decide +kernel
theorem dX0_sumOfFords_0 : decode cX0_sumOfFords 0 = .ok (.iconst 0, 1) := by decide +kernel
theorem dX0_sumOfFords_1 : decode cX0_sumOfFords 1 = .ok (.istore_n 1, 1) := by decide +kernel
theorem dX0_sumOfFords_2 : decode cX0_sumOfFords 2 = .ok (.iconst 0, 1) := by decide +kernel
theorem dX0_sumOfFords_3 : decode cX0_sumOfFords 3 = .ok (.istore_n 2, 1) := by decide +kernel
theorem dX0_sumOfFords_4 : decode cX0_sumOfFords 4 = .ok (.iload_n 2, 1) := by decide +kernel
theorem dX0_sumOfFords_5 : decode cX0_sumOfFords 5 = .ok (.aload_n 0, 1) := by decide +kernel
theorem dX0_sumOfFords_6 : decode cX0_sumOfFords 6 = .ok (.getfield 38, 3) := by decide +kernel
theorem dX0_sumOfFords_9 : decode cX0_sumOfFords 9 = .ok (.if_icmp .ge 21, 3) := by decide +kernel
theorem dX0_sumOfFords_12 : decode cX0_sumOfFords 12 = .ok (.iload_n 1, 1) := by decide +kernel
theorem dX0_sumOfFords_13 : decode cX0_sumOfFords 13 = .ok (.aload_n 0, 1) := by decide +kernel
theorem dX0_sumOfFords_14 : decode cX0_sumOfFords 14 = .ok (.getfield 11, 3) := by decide +kernel
theorem dX0_sumOfFords_17 : decode cX0_sumOfFords 17 = .ok (.iload_n 2, 1) := by decide +kernel
theorem dX0_sumOfFords_18 : decode cX0_sumOfFords 18 = .ok (.aaload, 1) := by decide +kernel
theorem dX0_sumOfFords_19 : decode cX0_sumOfFords 19 = .ok (.getfield 172, 3) := by decide +kernel
theorem dX0_sumOfFords_22 : decode cX0_sumOfFords 22 = .ok (.iadd, 1) := by decide +kernel
theorem dX0_sumOfFords_23 : decode cX0_sumOfFords 23 = .ok (.istore_n 1, 1) := by decide +kernel
theorem dX0_sumOfFords_24 : decode cX0_sumOfFords 24 = .ok (.iinc 2 1, 3) := by decide +kernel
theorem dX0_sumOfFords_27 : decode cX0_sumOfFords 27 = .ok (.goto (-23), 3) := by decide +kernel
theorem dX0_sumOfFords_30 : decode cX0_sumOfFords 30 = .ok (.iload_n 1, 1) := by decide +kernel
theorem dX0_sumOfFords_31 : decode cX0_sumOfFords 31 = .ok (.ireturn, 1) := by decide +kernel
theorem dX1_init_0 : decode cX1_init 0 = .ok (.aload_n 0, 1) := by decide +kernel
theorem dX1_init_1 : decode cX1_init 1 = .ok (.invokespecial 3, 3) := by decide +kernel
theorem dX1_init_4 : decode cX1_init 4 = .ok (.aload_n 0, 1) := by decide +kernel
theorem dX1_init_5 : decode cX1_init 5 = .ok (.bipush 6, 2) := by decide +kernel
theorem dX1_init_7 : decode cX1_init 7 = .ok (.newarray .int, 2) := by decide +kernel
theorem dX1_init_9 : decode cX1_init 9 = .ok (.putfield 9, 3) := by decide +kernel
theorem dX1_init_12 : decode cX1_init 12 = .ok (.aload_n 0, 1) := by decide +kernel
theorem dX1_init_13 : decode cX1_init 13 = .ok (.bipush 6, 2) := by decide +kernel
theorem dX1_init_15 : decode cX1_init 15 = .ok (.newarray .int, 2) := by decide +kernel
theorem dX1_init_17 : decode cX1_init 17 = .ok (.putfield 15, 3) := by decide +kernel
theorem dX1_init_20 : decode cX1_init 20 = .ok (.aload_n 0, 1) := by decide +kernel
theorem dX1_init_21 : decode cX1_init 21 = .ok (.bipush 6, 2) := by decide +kernel
theorem dX1_init_23 : decode cX1_init 23 = .ok (.newarray .int, 2) := by decide +kernel
theorem dX1_init_25 : decode cX1_init 25 = .ok (.putfield 18, 3) := by decide +kernel
theorem dX1_init_28 : decode cX1_init 28 = .ok (.return_, 1) := by decide +kernel
theorem dX1_choose_0 : decode cX1_choose 0 = .ok (.iload_n 1, 1) := by decide +kernel
theorem dX1_choose_1 : decode cX1_choose 1 = .ok (.ifCond .le 19, 3) := by decide +kernel
theorem dX1_choose_4 : decode cX1_choose 4 = .ok (.iload_n 1, 1) := by decide +kernel
theorem dX1_choose_5 : decode cX1_choose 5 = .ok (.iconst 1, 1) := by decide +kernel
theorem dX1_choose_6 : decode cX1_choose 6 = .ok (.iload_n 2, 1) := by decide +kernel
theorem dX1_choose_7 : decode cX1_choose 7 = .ok (.ishl, 1) := by decide +kernel
theorem dX1_choose_8 : decode cX1_choose 8 = .ok (.if_icmp .ge 12, 3) := by decide +kernel
theorem dX1_choose_11 : decode cX1_choose 11 = .ok (.iload_n 1, 1) := by decide +kernel
theorem dX1_choose_12 : decode cX1_choose 12 = .ok (.invokestatic 21, 3) := by decide +kernel
theorem dX1_choose_15 : decode cX1_choose 15 = .ok (.bipush 6, 2) := by decide +kernel
theorem dX1_choose_17 : decode cX1_choose 17 = .ok (.if_icmp .le 5, 3) := by decide +kernel
theorem dX1_choose_20 : decode cX1_choose 20 = .ok (.iconst 0, 1) := by decide +kernel
theorem dX1_choose_21 : decode cX1_choose 21 = .ok (.ireturn, 1) := by decide +kernel
theorem dX1_choose_22 : decode cX1_choose 22 = .ok (.aload_n 0, 1) := by decide +kernel
theorem dX1_choose_23 : decode cX1_choose 23 = .ok (.iconst 0, 1) := by decide +kernel
theorem dX1_choose_24 : decode cX1_choose 24 = .ok (.putfield 27, 3) := by decide +kernel
theorem dX1_choose_27 : decode cX1_choose 27 = .ok (.iconst 0, 1) := by decide +kernel
theorem dX1_choose_28 : decode cX1_choose 28 = .ok (.istore_n 3, 1) := by decide +kernel
theorem dX1_choose_29 : decode cX1_choose 29 = .ok (.iload_n 3, 1) := by decide +kernel
theorem dX1_choose_30 : decode cX1_choose 30 = .ok (.iload_n 2, 1) := by decide +kernel
theorem dX1_choose_31 : decode cX1_choose 31 = .ok (.if_icmp .ge 47, 3) := by decide +kernel
theorem dX1_choose_34 : decode cX1_choose 34 = .ok (.aload_n 0, 1) := by decide +kernel
theorem dX1_choose_35 : decode cX1_choose 35 = .ok (.getfield 27, 3) := by decide +kernel
theorem dX1_choose_38 : decode cX1_choose 38 = .ok (.bipush 6, 2) := by decide +kernel
theorem dX1_choose_40 : decode cX1_choose 40 = .ok (.if_icmp .ge 38, 3) := by decide +kernel
theorem dX1_choose_43 : decode cX1_choose 43 = .ok (.iload_n 1, 1) := by decide +kernel
theorem dX1_choose_44 : decode cX1_choose 44 = .ok (.iload_n 3, 1) := by decide +kernel
theorem dX1_choose_45 : decode cX1_choose 45 = .ok (.ishr, 1) := by decide +kernel
theorem dX1_choose_46 : decode cX1_choose 46 = .ok (.iconst 1, 1) := by decide +kernel
theorem dX1_choose_47 : decode cX1_choose 47 = .ok (.iand, 1) := by decide +kernel
theorem dX1_choose_48 : decode cX1_choose 48 = .ok (.iconst 1, 1) := by decide +kernel
theorem dX1_choose_49 : decode cX1_choose 49 = .ok (.if_icmp .ne 23, 3) := by decide +kernel
theorem dX1_choose_52 : decode cX1_choose 52 = .ok (.aload_n 0, 1) := by decide +kernel
theorem dX1_choose_53 : decode cX1_choose 53 = .ok (.getfield 15, 3) := by decide +kernel
theorem dX1_choose_56 : decode cX1_choose 56 = .ok (.aload_n 0, 1) := by decide +kernel
theorem dX1_choose_57 : decode cX1_choose 57 = .ok (.getfield 27, 3) := by decide +kernel
theorem dX1_choose_60 : decode cX1_choose 60 = .ok (.iload_n 3, 1) := by decide +kernel
theorem dX1_choose_61 : decode cX1_choose 61 = .ok (.iastore, 1) := by decide +kernel
theorem dX1_choose_62 : decode cX1_choose 62 = .ok (.aload_n 0, 1) := by decide +kernel
theorem dX1_choose_63 : decode cX1_choose 63 = .ok (.dup, 1) := by decide +kernel
theorem dX1_choose_64 : decode cX1_choose 64 = .ok (.getfield 27, 3) := by decide +kernel
theorem dX1_choose_67 : decode cX1_choose 67 = .ok (.iconst 1, 1) := by decide +kernel
theorem dX1_choose_68 : decode cX1_choose 68 = .ok (.iadd, 1) := by decide +kernel
theorem dX1_choose_69 : decode cX1_choose 69 = .ok (.putfield 27, 3) := by decide +kernel
theorem dX1_choose_72 : decode cX1_choose 72 = .ok (.iinc 3 1, 3) := by decide +kernel
theorem dX1_choose_75 : decode cX1_choose 75 = .ok (.goto (-46), 3) := by decide +kernel
theorem dX1_choose_78 : decode cX1_choose 78 = .ok (.iconst 1, 1) := by decide +kernel
theorem dX1_choose_79 : decode cX1_choose 79 = .ok (.ireturn, 1) := by decide +kernel
theorem dX1_findCompanies_0 : decode cX1_findCompanies 0 = .ok (.aload_n 0, 1) := by decide +kernel
theorem dX1_findCompanies_1 : decode cX1_findCompanies 1 = .ok (.aload_n 1, 1) := by decide +kernel
theorem dX1_findCompanies_2 : decode cX1_findCompanies 2 = .ok (.aload_n 2, 1) := by decide +kernel
theorem dX1_findCompanies_3 : decode cX1_findCompanies 3 = .ok (.invokevirtual 31, 3) := by decide +kernel
theorem dX1_findCompanies_6 : decode cX1_findCompanies 6 = .ok (.iconst 0, 1) := by decide +kernel
theorem dX1_findCompanies_7 : decode cX1_findCompanies 7 = .ok (.istore_n 3, 1) := by decide +kernel
theorem dX1_findCompanies_8 : decode cX1_findCompanies 8 = .ok (.iload_n 3, 1) := by decide +kernel
theorem dX1_findCompanies_9 : decode cX1_findCompanies 9 = .ok (.aload_n 0, 1) := by decide +kernel
theorem dX1_findCompanies_10 : decode cX1_findCompanies 10 = .ok (.getfield 27, 3) := by decide +kernel
theorem dX1_findCompanies_13 : decode cX1_findCompanies 13 = .ok (.if_icmp .ge 16, 3) := by decide +kernel
theorem dX1_findCompanies_16 : decode cX1_findCompanies 16 = .ok (.aload_n 0, 1) := by decide +kernel
theorem dX1_findCompanies_17 : decode cX1_findCompanies 17 = .ok (.getfield 18, 3) := by decide +kernel
theorem dX1_findCompanies_20 : decode cX1_findCompanies 20 = .ok (.iload_n 3, 1) := by decide +kernel
theorem dX1_findCompanies_21 : decode cX1_findCompanies 21 = .ok (.iconst 0, 1) := by decide +kernel
theorem dX1_findCompanies_22 : decode cX1_findCompanies 22 = .ok (.iastore, 1) := by decide +kernel
theorem dX1_findCompanies_23 : decode cX1_findCompanies 23 = .ok (.iinc 3 1, 3) := by decide +kernel
theorem dX1_findCompanies_26 : decode cX1_findCompanies 26 = .ok (.goto (-18), 3) := by decide +kernel
theorem dX1_findCompanies_29 : decode cX1_findCompanies 29 = .ok (.iconst 0, 1) := by decide +kernel
theorem dX1_findCompanies_30 : decode cX1_findCompanies 30 = .ok (.istore_n 3, 1) := by decide +kernel
theorem dX1_findCompanies_31 : decode cX1_findCompanies 31 = .ok (.iload_n 3, 1) := by decide +kernel
theorem dX1_findCompanies_32 : decode cX1_findCompanies 32 = .ok (.sipush 1000, 3) := by decide +kernel
theorem dX1_findCompanies_35 : decode cX1_findCompanies 35 = .ok (.if_icmp .ge 73, 3) := by decide +kernel
theorem dX1_findCompanies_38 : decode cX1_findCompanies 38 = .ok (.iconst 0, 1) := by decide +kernel
theorem dX1_findCompanies_39 : decode cX1_findCompanies 39 = .ok (.istore 4, 2) := by decide +kernel
theorem dX1_findCompanies_41 : decode cX1_findCompanies 41 = .ok (.iload 4, 2) := by decide +kernel
theorem dX1_findCompanies_43 : decode cX1_findCompanies 43 = .ok (.aload_n 0, 1) := by decide +kernel
theorem dX1_findCompanies_44 : decode cX1_findCompanies 44 = .ok (.getfield 27, 3) := by decide +kernel
theorem dX1_findCompanies_47 : decode cX1_findCompanies 47 = .ok (.if_icmp .ge 42, 3) := by decide +kernel
theorem dX1_findCompanies_50 : decode cX1_findCompanies 50 = .ok (.aload_n 1, 1) := by decide +kernel
theorem dX1_findCompanies_51 : decode cX1_findCompanies 51 = .ok (.getfield 35, 3) := by decide +kernel
theorem dX1_findCompanies_54 : decode cX1_findCompanies 54 = .ok (.iload 4, 2) := by decide +kernel
theorem dX1_findCompanies_56 : decode cX1_findCompanies 56 = .ok (.aaload, 1) := by decide +kernel
theorem dX1_findCompanies_57 : decode cX1_findCompanies 57 = .ok (.aload_n 0, 1) := by decide +kernel
theorem dX1_findCompanies_58 : decode cX1_findCompanies 58 = .ok (.getfield 18, 3) := by decide +kernel
theorem dX1_findCompanies_61 : decode cX1_findCompanies 61 = .ok (.iload 4, 2) := by decide +kernel
theorem dX1_findCompanies_63 : decode cX1_findCompanies 63 = .ok (.iaload, 1) := by decide +kernel
theorem dX1_findCompanies_64 : decode cX1_findCompanies 64 = .ok (.putfield 41, 3) := by decide +kernel
theorem dX1_findCompanies_67 : decode cX1_findCompanies 67 = .ok (.aload_n 1, 1) := by decide +kernel
theorem dX1_findCompanies_68 : decode cX1_findCompanies 68 = .ok (.getfield 35, 3) := by decide +kernel
theorem dX1_findCompanies_71 : decode cX1_findCompanies 71 = .ok (.iload 4, 2) := by decide +kernel
theorem dX1_findCompanies_73 : decode cX1_findCompanies 73 = .ok (.aaload, 1) := by decide +kernel
theorem dX1_findCompanies_74 : decode cX1_findCompanies 74 = .ok (.aload_n 0, 1) := by decide +kernel
theorem dX1_findCompanies_75 : decode cX1_findCompanies 75 = .ok (.iload 4, 2) := by decide +kernel
theorem dX1_findCompanies_77 : decode cX1_findCompanies 77 = .ok (.invokevirtual 46, 3) := by decide +kernel
theorem dX1_findCompanies_80 : decode cX1_findCompanies 80 = .ok (.putfield 49, 3) := by decide +kernel
theorem dX1_findCompanies_83 : decode cX1_findCompanies 83 = .ok (.iinc 4 1, 3) := by decide +kernel
theorem dX1_findCompanies_86 : decode cX1_findCompanies 86 = .ok (.goto (-45), 3) := by decide +kernel
theorem dX1_findCompanies_89 : decode cX1_findCompanies 89 = .ok (.aload_n 0, 1) := by decide +kernel
theorem dX1_findCompanies_90 : decode cX1_findCompanies 90 = .ok (.aload_n 1, 1) := by decide +kernel
theorem dX1_findCompanies_91 : decode cX1_findCompanies 91 = .ok (.invokevirtual 52, 3) := by decide +kernel
theorem dX1_findCompanies_94 : decode cX1_findCompanies 94 = .ok (.aload_n 0, 1) := by decide +kernel
theorem dX1_findCompanies_95 : decode cX1_findCompanies 95 = .ok (.invokevirtual 56, 3) := by decide +kernel
theorem dX1_findCompanies_98 : decode cX1_findCompanies 98 = .ok (.ifCond .ne 4, 3) := by decide +kernel
theorem dX1_findCompanies_101 : decode cX1_findCompanies 101 = .ok (.return_, 1) := by decide +kernel
theorem dX1_findCompanies_102 : decode cX1_findCompanies 102 = .ok (.iinc 3 1, 3) := by decide +kernel
theorem dX1_findCompanies_105 : decode cX1_findCompanies 105 = .ok (.goto (-74), 3) := by decide +kernel
theorem dX1_findCompanies_108 : decode cX1_findCompanies 108 = .ok (.return_, 1) := by decide +kernel
theorem dX1_findRow_0 : decode cX1_findRow 0 = .ok (.aload_n 0, 1) := by decide +kernel
theorem dX1_findRow_1 : decode cX1_findRow 1 = .ok (.aload_n 1, 1) := by decide +kernel
theorem dX1_findRow_2 : decode cX1_findRow 2 = .ok (.aload_n 2, 1) := by decide +kernel
theorem dX1_findRow_3 : decode cX1_findRow 3 = .ok (.invokevirtual 31, 3) := by decide +kernel
theorem dX1_findRow_6 : decode cX1_findRow 6 = .ok (.iconst 0, 1) := by decide +kernel
theorem dX1_findRow_7 : decode cX1_findRow 7 = .ok (.istore 4, 2) := by decide +kernel
theorem dX1_findRow_9 : decode cX1_findRow 9 = .ok (.iload 4, 2) := by decide +kernel
theorem dX1_findRow_11 : decode cX1_findRow 11 = .ok (.aload_n 0, 1) := by decide +kernel
theorem dX1_findRow_12 : decode cX1_findRow 12 = .ok (.getfield 27, 3) := by decide +kernel
theorem dX1_findRow_15 : decode cX1_findRow 15 = .ok (.if_icmp .ge 18, 3) := by decide +kernel
theorem dX1_findRow_18 : decode cX1_findRow 18 = .ok (.aload_n 0, 1) := by decide +kernel
theorem dX1_findRow_19 : decode cX1_findRow 19 = .ok (.getfield 18, 3) := by decide +kernel
theorem dX1_findRow_22 : decode cX1_findRow 22 = .ok (.iload 4, 2) := by decide +kernel
theorem dX1_findRow_24 : decode cX1_findRow 24 = .ok (.iload 4, 2) := by decide +kernel
theorem dX1_findRow_26 : decode cX1_findRow 26 = .ok (.iastore, 1) := by decide +kernel
theorem dX1_findRow_27 : decode cX1_findRow 27 = .ok (.iinc 4 1, 3) := by decide +kernel
theorem dX1_findRow_30 : decode cX1_findRow 30 = .ok (.goto (-21), 3) := by decide +kernel
theorem dX1_findRow_33 : decode cX1_findRow 33 = .ok (.iconst 0, 1) := by decide +kernel
theorem dX1_findRow_34 : decode cX1_findRow 34 = .ok (.istore 4, 2) := by decide +kernel
theorem dX1_findRow_36 : decode cX1_findRow 36 = .ok (.iload 4, 2) := by decide +kernel
theorem dX1_findRow_38 : decode cX1_findRow 38 = .ok (.sipush 1000, 3) := by decide +kernel
theorem dX1_findRow_41 : decode cX1_findRow 41 = .ok (.if_icmp .ge 59, 3) := by decide +kernel
theorem dX1_findRow_44 : decode cX1_findRow 44 = .ok (.iconst 0, 1) := by decide +kernel
theorem dX1_findRow_45 : decode cX1_findRow 45 = .ok (.istore 5, 2) := by decide +kernel
theorem dX1_findRow_47 : decode cX1_findRow 47 = .ok (.iload 5, 2) := by decide +kernel
theorem dX1_findRow_49 : decode cX1_findRow 49 = .ok (.aload_n 0, 1) := by decide +kernel
theorem dX1_findRow_50 : decode cX1_findRow 50 = .ok (.getfield 27, 3) := by decide +kernel
theorem dX1_findRow_53 : decode cX1_findRow 53 = .ok (.if_icmp .ge 28, 3) := by decide +kernel
theorem dX1_findRow_56 : decode cX1_findRow 56 = .ok (.aload_n 1, 1) := by decide +kernel
theorem dX1_findRow_57 : decode cX1_findRow 57 = .ok (.getfield 35, 3) := by decide +kernel
theorem dX1_findRow_60 : decode cX1_findRow 60 = .ok (.aload_n 0, 1) := by decide +kernel
theorem dX1_findRow_61 : decode cX1_findRow 61 = .ok (.getfield 18, 3) := by decide +kernel
theorem dX1_findRow_64 : decode cX1_findRow 64 = .ok (.iload 5, 2) := by decide +kernel
theorem dX1_findRow_66 : decode cX1_findRow 66 = .ok (.iaload, 1) := by decide +kernel
theorem dX1_findRow_67 : decode cX1_findRow 67 = .ok (.aaload, 1) := by decide +kernel
theorem dX1_findRow_68 : decode cX1_findRow 68 = .ok (.iload 5, 2) := by decide +kernel
theorem dX1_findRow_70 : decode cX1_findRow 70 = .ok (.iload_n 3, 1) := by decide +kernel
theorem dX1_findRow_71 : decode cX1_findRow 71 = .ok (.imul, 1) := by decide +kernel
theorem dX1_findRow_72 : decode cX1_findRow 72 = .ok (.putfield 60, 3) := by decide +kernel
theorem dX1_findRow_75 : decode cX1_findRow 75 = .ok (.iinc 5 1, 3) := by decide +kernel
theorem dX1_findRow_78 : decode cX1_findRow 78 = .ok (.goto (-31), 3) := by decide +kernel
theorem dX1_findRow_81 : decode cX1_findRow 81 = .ok (.aload_n 0, 1) := by decide +kernel
theorem dX1_findRow_82 : decode cX1_findRow 82 = .ok (.aload_n 1, 1) := by decide +kernel
theorem dX1_findRow_83 : decode cX1_findRow 83 = .ok (.invokevirtual 52, 3) := by decide +kernel
theorem dX1_findRow_86 : decode cX1_findRow 86 = .ok (.aload_n 0, 1) := by decide +kernel
theorem dX1_findRow_87 : decode cX1_findRow 87 = .ok (.invokevirtual 63, 3) := by decide +kernel
theorem dX1_findRow_90 : decode cX1_findRow 90 = .ok (.ifCond .ne 4, 3) := by decide +kernel
theorem dX1_findRow_93 : decode cX1_findRow 93 = .ok (.return_, 1) := by decide +kernel
theorem dX1_findRow_94 : decode cX1_findRow 94 = .ok (.iinc 4 1, 3) := by decide +kernel
theorem dX1_findRow_97 : decode cX1_findRow 97 = .ok (.goto (-61), 3) := by decide +kernel
theorem dX1_findRow_100 : decode cX1_findRow 100 = .ok (.return_, 1) := by decide +kernel
theorem dX1_found_0 : decode cX1_found 0 = .ok (.iload_n 1, 1) := by decide +kernel
theorem dX1_found_1 : decode cX1_found 1 = .ok (.iconst (-1), 1) := by decide +kernel
theorem dX1_found_2 : decode cX1_found 2 = .ok (.if_icmp .ne 10, 3) := by decide +kernel
theorem dX1_found_5 : decode cX1_found 5 = .ok (.aload_n 0, 1) := by decide +kernel
theorem dX1_found_6 : decode cX1_found 6 = .ok (.getfield 66, 3) := by decide +kernel
theorem dX1_found_9 : decode cX1_found 9 = .ok (.goto 7, 3) := by decide +kernel
theorem dX1_found_12 : decode cX1_found 12 = .ok (.aload_n 0, 1) := by decide +kernel
theorem dX1_found_13 : decode cX1_found 13 = .ok (.getfield 69, 3) := by decide +kernel
theorem dX1_found_16 : decode cX1_found 16 = .ok (.ireturn, 1) := by decide +kernel
theorem dX1_bestPerson_0 : decode cX1_bestPerson 0 = .ok (.aload_n 0, 1) := by decide +kernel
theorem dX1_bestPerson_1 : decode cX1_bestPerson 1 = .ok (.getfield 15, 3) := by decide +kernel
theorem dX1_bestPerson_4 : decode cX1_bestPerson 4 = .ok (.aload_n 0, 1) := by decide +kernel
theorem dX1_bestPerson_5 : decode cX1_bestPerson 5 = .ok (.getfield 9, 3) := by decide +kernel
theorem dX1_bestPerson_8 : decode cX1_bestPerson 8 = .ok (.iload_n 1, 1) := by decide +kernel
theorem dX1_bestPerson_9 : decode cX1_bestPerson 9 = .ok (.iaload, 1) := by decide +kernel
theorem dX1_bestPerson_10 : decode cX1_bestPerson 10 = .ok (.iaload, 1) := by decide +kernel
theorem dX1_bestPerson_11 : decode cX1_bestPerson 11 = .ok (.ireturn, 1) := by decide +kernel
theorem dX1_begin_0 : decode cX1_begin 0 = .ok (.aload_n 1, 1) := by decide +kernel
theorem dX1_begin_1 : decode cX1_begin 1 = .ok (.aload_n 2, 1) := by decide +kernel
theorem dX1_begin_2 : decode cX1_begin 2 = .ok (.aload_n 0, 1) := by decide +kernel
theorem dX1_begin_3 : decode cX1_begin 3 = .ok (.getfield 15, 3) := by decide +kernel
theorem dX1_begin_6 : decode cX1_begin 6 = .ok (.aload_n 0, 1) := by decide +kernel
theorem dX1_begin_7 : decode cX1_begin 7 = .ok (.getfield 27, 3) := by decide +kernel
theorem dX1_begin_10 : decode cX1_begin 10 = .ok (.invokevirtual 72, 3) := by decide +kernel
theorem dX1_begin_13 : decode cX1_begin 13 = .ok (.aload_n 0, 1) := by decide +kernel
theorem dX1_begin_14 : decode cX1_begin 14 = .ok (.ldc 76, 2) := by decide +kernel
theorem dX1_begin_16 : decode cX1_begin 16 = .ok (.putfield 66, 3) := by decide +kernel
theorem dX1_begin_19 : decode cX1_begin 19 = .ok (.aload_n 0, 1) := by decide +kernel
theorem dX1_begin_20 : decode cX1_begin 20 = .ok (.ldc 76, 2) := by decide +kernel
theorem dX1_begin_22 : decode cX1_begin 22 = .ok (.putfield 69, 3) := by decide +kernel
theorem dX1_begin_25 : decode cX1_begin 25 = .ok (.return_, 1) := by decide +kernel
theorem dX1_keepIfBetter_0 : decode cX1_keepIfBetter 0 = .ok (.aload_n 1, 1) := by decide +kernel
theorem dX1_keepIfBetter_1 : decode cX1_keepIfBetter 1 = .ok (.sipush 999, 3) := by decide +kernel
theorem dX1_keepIfBetter_4 : decode cX1_keepIfBetter 4 = .ok (.invokevirtual 77, 3) := by decide +kernel
theorem dX1_keepIfBetter_7 : decode cX1_keepIfBetter 7 = .ok (.aload_n 1, 1) := by decide +kernel
theorem dX1_keepIfBetter_8 : decode cX1_keepIfBetter 8 = .ok (.invokevirtual 81, 3) := by decide +kernel
theorem dX1_keepIfBetter_11 : decode cX1_keepIfBetter 11 = .ok (.istore_n 2, 1) := by decide +kernel
theorem dX1_keepIfBetter_12 : decode cX1_keepIfBetter 12 = .ok (.aload_n 1, 1) := by decide +kernel
theorem dX1_keepIfBetter_13 : decode cX1_keepIfBetter 13 = .ok (.invokevirtual 85, 3) := by decide +kernel
theorem dX1_keepIfBetter_16 : decode cX1_keepIfBetter 16 = .ok (.istore_n 3, 1) := by decide +kernel
theorem dX1_keepIfBetter_17 : decode cX1_keepIfBetter 17 = .ok (.iload_n 2, 1) := by decide +kernel
theorem dX1_keepIfBetter_18 : decode cX1_keepIfBetter 18 = .ok (.aload_n 0, 1) := by decide +kernel
theorem dX1_keepIfBetter_19 : decode cX1_keepIfBetter 19 = .ok (.getfield 66, 3) := by decide +kernel
theorem dX1_keepIfBetter_22 : decode cX1_keepIfBetter 22 = .ok (.if_icmp .lt 19, 3) := by decide +kernel
theorem dX1_keepIfBetter_25 : decode cX1_keepIfBetter 25 = .ok (.iload_n 2, 1) := by decide +kernel
theorem dX1_keepIfBetter_26 : decode cX1_keepIfBetter 26 = .ok (.aload_n 0, 1) := by decide +kernel
theorem dX1_keepIfBetter_27 : decode cX1_keepIfBetter 27 = .ok (.getfield 66, 3) := by decide +kernel
theorem dX1_keepIfBetter_30 : decode cX1_keepIfBetter 30 = .ok (.if_icmp .ne 38, 3) := by decide +kernel
theorem dX1_keepIfBetter_33 : decode cX1_keepIfBetter 33 = .ok (.iload_n 3, 1) := by decide +kernel
theorem dX1_keepIfBetter_34 : decode cX1_keepIfBetter 34 = .ok (.aload_n 0, 1) := by decide +kernel
theorem dX1_keepIfBetter_35 : decode cX1_keepIfBetter 35 = .ok (.getfield 69, 3) := by decide +kernel
theorem dX1_keepIfBetter_38 : decode cX1_keepIfBetter 38 = .ok (.if_icmp .ge 30, 3) := by decide +kernel
theorem dX1_keepIfBetter_41 : decode cX1_keepIfBetter 41 = .ok (.aload_n 0, 1) := by decide +kernel
theorem dX1_keepIfBetter_42 : decode cX1_keepIfBetter 42 = .ok (.iload_n 2, 1) := by decide +kernel
theorem dX1_keepIfBetter_43 : decode cX1_keepIfBetter 43 = .ok (.putfield 66, 3) := by decide +kernel
theorem dX1_keepIfBetter_46 : decode cX1_keepIfBetter 46 = .ok (.aload_n 0, 1) := by decide +kernel
theorem dX1_keepIfBetter_47 : decode cX1_keepIfBetter 47 = .ok (.iload_n 3, 1) := by decide +kernel
theorem dX1_keepIfBetter_48 : decode cX1_keepIfBetter 48 = .ok (.putfield 69, 3) := by decide +kernel
theorem dX1_keepIfBetter_51 : decode cX1_keepIfBetter 51 = .ok (.aload_n 0, 1) := by decide +kernel
theorem dX1_keepIfBetter_52 : decode cX1_keepIfBetter 52 = .ok (.getfield 18, 3) := by decide +kernel
theorem dX1_keepIfBetter_55 : decode cX1_keepIfBetter 55 = .ok (.iconst 0, 1) := by decide +kernel
theorem dX1_keepIfBetter_56 : decode cX1_keepIfBetter 56 = .ok (.aload_n 0, 1) := by decide +kernel
theorem dX1_keepIfBetter_57 : decode cX1_keepIfBetter 57 = .ok (.getfield 9, 3) := by decide +kernel
theorem dX1_keepIfBetter_60 : decode cX1_keepIfBetter 60 = .ok (.iconst 0, 1) := by decide +kernel
theorem dX1_keepIfBetter_61 : decode cX1_keepIfBetter 61 = .ok (.aload_n 0, 1) := by decide +kernel
theorem dX1_keepIfBetter_62 : decode cX1_keepIfBetter 62 = .ok (.getfield 27, 3) := by decide +kernel
theorem dX1_keepIfBetter_65 : decode cX1_keepIfBetter 65 = .ok (.invokestatic 88, 3) := by decide +kernel
theorem dX1_keepIfBetter_68 : decode cX1_keepIfBetter 68 = .ok (.return_, 1) := by decide +kernel
theorem dX1_companyOf_0 : decode cX1_companyOf 0 = .ok (.iconst 0, 1) := by decide +kernel
theorem dX1_companyOf_1 : decode cX1_companyOf 1 = .ok (.istore_n 2, 1) := by decide +kernel
theorem dX1_companyOf_2 : decode cX1_companyOf 2 = .ok (.iconst 0, 1) := by decide +kernel
theorem dX1_companyOf_3 : decode cX1_companyOf 3 = .ok (.istore_n 3, 1) := by decide +kernel
theorem dX1_companyOf_4 : decode cX1_companyOf 4 = .ok (.iload_n 3, 1) := by decide +kernel
theorem dX1_companyOf_5 : decode cX1_companyOf 5 = .ok (.aload_n 0, 1) := by decide +kernel
theorem dX1_companyOf_6 : decode cX1_companyOf 6 = .ok (.getfield 27, 3) := by decide +kernel
theorem dX1_companyOf_9 : decode cX1_companyOf 9 = .ok (.if_icmp .ge 30, 3) := by decide +kernel
theorem dX1_companyOf_12 : decode cX1_companyOf 12 = .ok (.aload_n 0, 1) := by decide +kernel
theorem dX1_companyOf_13 : decode cX1_companyOf 13 = .ok (.getfield 18, 3) := by decide +kernel
theorem dX1_companyOf_16 : decode cX1_companyOf 16 = .ok (.iload_n 3, 1) := by decide +kernel
theorem dX1_companyOf_17 : decode cX1_companyOf 17 = .ok (.iaload, 1) := by decide +kernel
theorem dX1_companyOf_18 : decode cX1_companyOf 18 = .ok (.aload_n 0, 1) := by decide +kernel
theorem dX1_companyOf_19 : decode cX1_companyOf 19 = .ok (.getfield 18, 3) := by decide +kernel
theorem dX1_companyOf_22 : decode cX1_companyOf 22 = .ok (.iload_n 1, 1) := by decide +kernel
theorem dX1_companyOf_23 : decode cX1_companyOf 23 = .ok (.iaload, 1) := by decide +kernel
theorem dX1_companyOf_24 : decode cX1_companyOf 24 = .ok (.if_icmp .ne 9, 3) := by decide +kernel
theorem dX1_companyOf_27 : decode cX1_companyOf 27 = .ok (.iload_n 2, 1) := by decide +kernel
theorem dX1_companyOf_28 : decode cX1_companyOf 28 = .ok (.iconst 1, 1) := by decide +kernel
theorem dX1_companyOf_29 : decode cX1_companyOf 29 = .ok (.iload_n 3, 1) := by decide +kernel
theorem dX1_companyOf_30 : decode cX1_companyOf 30 = .ok (.ishl, 1) := by decide +kernel
theorem dX1_companyOf_31 : decode cX1_companyOf 31 = .ok (.ior, 1) := by decide +kernel
theorem dX1_companyOf_32 : decode cX1_companyOf 32 = .ok (.istore_n 2, 1) := by decide +kernel
theorem dX1_companyOf_33 : decode cX1_companyOf 33 = .ok (.iinc 3 1, 3) := by decide +kernel
theorem dX1_companyOf_36 : decode cX1_companyOf 36 = .ok (.goto (-32), 3) := by decide +kernel
theorem dX1_companyOf_39 : decode cX1_companyOf 39 = .ok (.iload_n 2, 1) := by decide +kernel
theorem dX1_companyOf_40 : decode cX1_companyOf 40 = .ok (.ireturn, 1) := by decide +kernel
theorem dX1_makeNextCompanies_0 : decode cX1_makeNextCompanies 0 = .ok (.aload_n 0, 1) := by decide +kernel
theorem dX1_makeNextCompanies_1 : decode cX1_makeNextCompanies 1 = .ok (.getfield 27, 3) := by decide +kernel
theorem dX1_makeNextCompanies_4 : decode cX1_makeNextCompanies 4 = .ok (.iconst 1, 1) := by decide +kernel
theorem dX1_makeNextCompanies_5 : decode cX1_makeNextCompanies 5 = .ok (.isub, 1) := by decide +kernel
theorem dX1_makeNextCompanies_6 : decode cX1_makeNextCompanies 6 = .ok (.istore_n 1, 1) := by decide +kernel
theorem dX1_makeNextCompanies_7 : decode cX1_makeNextCompanies 7 = .ok (.iload_n 1, 1) := by decide +kernel
theorem dX1_makeNextCompanies_8 : decode cX1_makeNextCompanies 8 = .ok (.ifCond .le 60, 3) := by decide +kernel
theorem dX1_makeNextCompanies_11 : decode cX1_makeNextCompanies 11 = .ok (.aload_n 0, 1) := by decide +kernel
theorem dX1_makeNextCompanies_12 : decode cX1_makeNextCompanies 12 = .ok (.getfield 18, 3) := by decide +kernel
theorem dX1_makeNextCompanies_15 : decode cX1_makeNextCompanies 15 = .ok (.iload_n 1, 1) := by decide +kernel
theorem dX1_makeNextCompanies_16 : decode cX1_makeNextCompanies 16 = .ok (.iaload, 1) := by decide +kernel
theorem dX1_makeNextCompanies_17 : decode cX1_makeNextCompanies 17 = .ok (.aload_n 0, 1) := by decide +kernel
theorem dX1_makeNextCompanies_18 : decode cX1_makeNextCompanies 18 = .ok (.iload_n 1, 1) := by decide +kernel
theorem dX1_makeNextCompanies_19 : decode cX1_makeNextCompanies 19 = .ok (.invokevirtual 94, 3) := by decide +kernel
theorem dX1_makeNextCompanies_22 : decode cX1_makeNextCompanies 22 = .ok (.if_icmp .gt 40, 3) := by decide +kernel
theorem dX1_makeNextCompanies_25 : decode cX1_makeNextCompanies 25 = .ok (.aload_n 0, 1) := by decide +kernel
theorem dX1_makeNextCompanies_26 : decode cX1_makeNextCompanies 26 = .ok (.getfield 18, 3) := by decide +kernel
theorem dX1_makeNextCompanies_29 : decode cX1_makeNextCompanies 29 = .ok (.iload_n 1, 1) := by decide +kernel
theorem dX1_makeNextCompanies_30 : decode cX1_makeNextCompanies 30 = .ok (.dup2, 1) := by decide +kernel
theorem dX1_makeNextCompanies_31 : decode cX1_makeNextCompanies 31 = .ok (.iaload, 1) := by decide +kernel
theorem dX1_makeNextCompanies_32 : decode cX1_makeNextCompanies 32 = .ok (.iconst 1, 1) := by decide +kernel
theorem dX1_makeNextCompanies_33 : decode cX1_makeNextCompanies 33 = .ok (.iadd, 1) := by decide +kernel
theorem dX1_makeNextCompanies_34 : decode cX1_makeNextCompanies 34 = .ok (.iastore, 1) := by decide +kernel
theorem dX1_makeNextCompanies_35 : decode cX1_makeNextCompanies 35 = .ok (.iload_n 1, 1) := by decide +kernel
theorem dX1_makeNextCompanies_36 : decode cX1_makeNextCompanies 36 = .ok (.iconst 1, 1) := by decide +kernel
theorem dX1_makeNextCompanies_37 : decode cX1_makeNextCompanies 37 = .ok (.iadd, 1) := by decide +kernel
theorem dX1_makeNextCompanies_38 : decode cX1_makeNextCompanies 38 = .ok (.istore_n 2, 1) := by decide +kernel
theorem dX1_makeNextCompanies_39 : decode cX1_makeNextCompanies 39 = .ok (.iload_n 2, 1) := by decide +kernel
theorem dX1_makeNextCompanies_40 : decode cX1_makeNextCompanies 40 = .ok (.aload_n 0, 1) := by decide +kernel
theorem dX1_makeNextCompanies_41 : decode cX1_makeNextCompanies 41 = .ok (.getfield 27, 3) := by decide +kernel
theorem dX1_makeNextCompanies_44 : decode cX1_makeNextCompanies 44 = .ok (.if_icmp .ge 16, 3) := by decide +kernel
theorem dX1_makeNextCompanies_47 : decode cX1_makeNextCompanies 47 = .ok (.aload_n 0, 1) := by decide +kernel
theorem dX1_makeNextCompanies_48 : decode cX1_makeNextCompanies 48 = .ok (.getfield 18, 3) := by decide +kernel
theorem dX1_makeNextCompanies_51 : decode cX1_makeNextCompanies 51 = .ok (.iload_n 2, 1) := by decide +kernel
theorem dX1_makeNextCompanies_52 : decode cX1_makeNextCompanies 52 = .ok (.iconst 0, 1) := by decide +kernel
theorem dX1_makeNextCompanies_53 : decode cX1_makeNextCompanies 53 = .ok (.iastore, 1) := by decide +kernel
theorem dX1_makeNextCompanies_54 : decode cX1_makeNextCompanies 54 = .ok (.iinc 2 1, 3) := by decide +kernel
theorem dX1_makeNextCompanies_57 : decode cX1_makeNextCompanies 57 = .ok (.goto (-18), 3) := by decide +kernel
theorem dX1_makeNextCompanies_60 : decode cX1_makeNextCompanies 60 = .ok (.iconst 1, 1) := by decide +kernel
theorem dX1_makeNextCompanies_61 : decode cX1_makeNextCompanies 61 = .ok (.ireturn, 1) := by decide +kernel
theorem dX1_makeNextCompanies_62 : decode cX1_makeNextCompanies 62 = .ok (.iinc 1 (-1), 3) := by decide +kernel
theorem dX1_makeNextCompanies_65 : decode cX1_makeNextCompanies 65 = .ok (.goto (-58), 3) := by decide +kernel
theorem dX1_makeNextCompanies_68 : decode cX1_makeNextCompanies 68 = .ok (.iconst 0, 1) := by decide +kernel
theorem dX1_makeNextCompanies_69 : decode cX1_makeNextCompanies 69 = .ok (.ireturn, 1) := by decide +kernel
theorem dX1_mostAhead_0 : decode cX1_mostAhead 0 = .ok (.iconst 0, 1) := by decide +kernel
theorem dX1_mostAhead_1 : decode cX1_mostAhead 1 = .ok (.istore_n 2, 1) := by decide +kernel
theorem dX1_mostAhead_2 : decode cX1_mostAhead 2 = .ok (.iconst 0, 1) := by decide +kernel
theorem dX1_mostAhead_3 : decode cX1_mostAhead 3 = .ok (.istore_n 3, 1) := by decide +kernel
theorem dX1_mostAhead_4 : decode cX1_mostAhead 4 = .ok (.iload_n 3, 1) := by decide +kernel
theorem dX1_mostAhead_5 : decode cX1_mostAhead 5 = .ok (.iload_n 1, 1) := by decide +kernel
theorem dX1_mostAhead_6 : decode cX1_mostAhead 6 = .ok (.if_icmp .ge 20, 3) := by decide +kernel
theorem dX1_mostAhead_9 : decode cX1_mostAhead 9 = .ok (.iload_n 2, 1) := by decide +kernel
theorem dX1_mostAhead_10 : decode cX1_mostAhead 10 = .ok (.aload_n 0, 1) := by decide +kernel
theorem dX1_mostAhead_11 : decode cX1_mostAhead 11 = .ok (.getfield 18, 3) := by decide +kernel
theorem dX1_mostAhead_14 : decode cX1_mostAhead 14 = .ok (.iload_n 3, 1) := by decide +kernel
theorem dX1_mostAhead_15 : decode cX1_mostAhead 15 = .ok (.iaload, 1) := by decide +kernel
theorem dX1_mostAhead_16 : decode cX1_mostAhead 16 = .ok (.invokestatic 97, 3) := by decide +kernel
theorem dX1_mostAhead_19 : decode cX1_mostAhead 19 = .ok (.istore_n 2, 1) := by decide +kernel
theorem dX1_mostAhead_20 : decode cX1_mostAhead 20 = .ok (.iinc 3 1, 3) := by decide +kernel
theorem dX1_mostAhead_23 : decode cX1_mostAhead 23 = .ok (.goto (-19), 3) := by decide +kernel
theorem dX1_mostAhead_26 : decode cX1_mostAhead 26 = .ok (.iload_n 2, 1) := by decide +kernel
theorem dX1_mostAhead_27 : decode cX1_mostAhead 27 = .ok (.ireturn, 1) := by decide +kernel
theorem dX1_makeNextRow_0 : decode cX1_makeNextRow 0 = .ok (.aload_n 0, 1) := by decide +kernel
theorem dX1_makeNextRow_1 : decode cX1_makeNextRow 1 = .ok (.getfield 27, 3) := by decide +kernel
theorem dX1_makeNextRow_4 : decode cX1_makeNextRow 4 = .ok (.iconst 2, 1) := by decide +kernel
theorem dX1_makeNextRow_5 : decode cX1_makeNextRow 5 = .ok (.isub, 1) := by decide +kernel
theorem dX1_makeNextRow_6 : decode cX1_makeNextRow 6 = .ok (.istore_n 1, 1) := by decide +kernel
theorem dX1_makeNextRow_7 : decode cX1_makeNextRow 7 = .ok (.iload_n 1, 1) := by decide +kernel
theorem dX1_makeNextRow_8 : decode cX1_makeNextRow 8 = .ok (.ifCond .lt 26, 3) := by decide +kernel
theorem dX1_makeNextRow_11 : decode cX1_makeNextRow 11 = .ok (.aload_n 0, 1) := by decide +kernel
theorem dX1_makeNextRow_12 : decode cX1_makeNextRow 12 = .ok (.getfield 18, 3) := by decide +kernel
theorem dX1_makeNextRow_15 : decode cX1_makeNextRow 15 = .ok (.iload_n 1, 1) := by decide +kernel
theorem dX1_makeNextRow_16 : decode cX1_makeNextRow 16 = .ok (.iaload, 1) := by decide +kernel
theorem dX1_makeNextRow_17 : decode cX1_makeNextRow 17 = .ok (.aload_n 0, 1) := by decide +kernel
theorem dX1_makeNextRow_18 : decode cX1_makeNextRow 18 = .ok (.getfield 18, 3) := by decide +kernel
theorem dX1_makeNextRow_21 : decode cX1_makeNextRow 21 = .ok (.iload_n 1, 1) := by decide +kernel
theorem dX1_makeNextRow_22 : decode cX1_makeNextRow 22 = .ok (.iconst 1, 1) := by decide +kernel
theorem dX1_makeNextRow_23 : decode cX1_makeNextRow 23 = .ok (.iadd, 1) := by decide +kernel
theorem dX1_makeNextRow_24 : decode cX1_makeNextRow 24 = .ok (.iaload, 1) := by decide +kernel
theorem dX1_makeNextRow_25 : decode cX1_makeNextRow 25 = .ok (.if_icmp .le 9, 3) := by decide +kernel
theorem dX1_makeNextRow_28 : decode cX1_makeNextRow 28 = .ok (.iinc 1 (-1), 3) := by decide +kernel
theorem dX1_makeNextRow_31 : decode cX1_makeNextRow 31 = .ok (.goto (-24), 3) := by decide +kernel
theorem dX1_makeNextRow_34 : decode cX1_makeNextRow 34 = .ok (.iload_n 1, 1) := by decide +kernel
theorem dX1_makeNextRow_35 : decode cX1_makeNextRow 35 = .ok (.ifCond .ge 5, 3) := by decide +kernel
theorem dX1_makeNextRow_38 : decode cX1_makeNextRow 38 = .ok (.iconst 0, 1) := by decide +kernel
theorem dX1_makeNextRow_39 : decode cX1_makeNextRow 39 = .ok (.ireturn, 1) := by decide +kernel
theorem dX1_makeNextRow_40 : decode cX1_makeNextRow 40 = .ok (.aload_n 0, 1) := by decide +kernel
theorem dX1_makeNextRow_41 : decode cX1_makeNextRow 41 = .ok (.getfield 27, 3) := by decide +kernel
theorem dX1_makeNextRow_44 : decode cX1_makeNextRow 44 = .ok (.iconst 1, 1) := by decide +kernel
theorem dX1_makeNextRow_45 : decode cX1_makeNextRow 45 = .ok (.isub, 1) := by decide +kernel
theorem dX1_makeNextRow_46 : decode cX1_makeNextRow 46 = .ok (.istore_n 2, 1) := by decide +kernel
theorem dX1_makeNextRow_47 : decode cX1_makeNextRow 47 = .ok (.iload_n 2, 1) := by decide +kernel
theorem dX1_makeNextRow_48 : decode cX1_makeNextRow 48 = .ok (.iload_n 1, 1) := by decide +kernel
theorem dX1_makeNextRow_49 : decode cX1_makeNextRow 49 = .ok (.if_icmp .le 24, 3) := by decide +kernel
theorem dX1_makeNextRow_52 : decode cX1_makeNextRow 52 = .ok (.aload_n 0, 1) := by decide +kernel
theorem dX1_makeNextRow_53 : decode cX1_makeNextRow 53 = .ok (.getfield 18, 3) := by decide +kernel
theorem dX1_makeNextRow_56 : decode cX1_makeNextRow 56 = .ok (.iload_n 2, 1) := by decide +kernel
theorem dX1_makeNextRow_57 : decode cX1_makeNextRow 57 = .ok (.iaload, 1) := by decide +kernel
theorem dX1_makeNextRow_58 : decode cX1_makeNextRow 58 = .ok (.aload_n 0, 1) := by decide +kernel
theorem dX1_makeNextRow_59 : decode cX1_makeNextRow 59 = .ok (.getfield 18, 3) := by decide +kernel
theorem dX1_makeNextRow_62 : decode cX1_makeNextRow 62 = .ok (.iload_n 1, 1) := by decide +kernel
theorem dX1_makeNextRow_63 : decode cX1_makeNextRow 63 = .ok (.iaload, 1) := by decide +kernel
theorem dX1_makeNextRow_64 : decode cX1_makeNextRow 64 = .ok (.if_icmp .ge 9, 3) := by decide +kernel
theorem dX1_makeNextRow_67 : decode cX1_makeNextRow 67 = .ok (.iinc 2 (-1), 3) := by decide +kernel
theorem dX1_makeNextRow_70 : decode cX1_makeNextRow 70 = .ok (.goto (-23), 3) := by decide +kernel
theorem dX1_makeNextRow_73 : decode cX1_makeNextRow 73 = .ok (.aload_n 0, 1) := by decide +kernel
theorem dX1_makeNextRow_74 : decode cX1_makeNextRow 74 = .ok (.iload_n 1, 1) := by decide +kernel
theorem dX1_makeNextRow_75 : decode cX1_makeNextRow 75 = .ok (.iload_n 2, 1) := by decide +kernel
theorem dX1_makeNextRow_76 : decode cX1_makeNextRow 76 = .ok (.invokevirtual 103, 3) := by decide +kernel
theorem dX1_makeNextRow_79 : decode cX1_makeNextRow 79 = .ok (.aload_n 0, 1) := by decide +kernel
theorem dX1_makeNextRow_80 : decode cX1_makeNextRow 80 = .ok (.getfield 27, 3) := by decide +kernel
theorem dX1_makeNextRow_83 : decode cX1_makeNextRow 83 = .ok (.iconst 1, 1) := by decide +kernel
theorem dX1_makeNextRow_84 : decode cX1_makeNextRow 84 = .ok (.isub, 1) := by decide +kernel
theorem dX1_makeNextRow_85 : decode cX1_makeNextRow 85 = .ok (.istore_n 3, 1) := by decide +kernel
theorem dX1_makeNextRow_86 : decode cX1_makeNextRow 86 = .ok (.iload_n 1, 1) := by decide +kernel
theorem dX1_makeNextRow_87 : decode cX1_makeNextRow 87 = .ok (.iconst 1, 1) := by decide +kernel
theorem dX1_makeNextRow_88 : decode cX1_makeNextRow 88 = .ok (.iadd, 1) := by decide +kernel
theorem dX1_makeNextRow_89 : decode cX1_makeNextRow 89 = .ok (.istore 4, 2) := by decide +kernel
theorem dX1_makeNextRow_91 : decode cX1_makeNextRow 91 = .ok (.iload 4, 2) := by decide +kernel
theorem dX1_makeNextRow_93 : decode cX1_makeNextRow 93 = .ok (.iload_n 3, 1) := by decide +kernel
theorem dX1_makeNextRow_94 : decode cX1_makeNextRow 94 = .ok (.if_icmp .ge 19, 3) := by decide +kernel
theorem dX1_makeNextRow_97 : decode cX1_makeNextRow 97 = .ok (.aload_n 0, 1) := by decide +kernel
theorem dX1_makeNextRow_98 : decode cX1_makeNextRow 98 = .ok (.iload 4, 2) := by decide +kernel
theorem dX1_makeNextRow_100 : decode cX1_makeNextRow 100 = .ok (.iload_n 3, 1) := by decide +kernel
theorem dX1_makeNextRow_101 : decode cX1_makeNextRow 101 = .ok (.invokevirtual 103, 3) := by decide +kernel
theorem dX1_makeNextRow_104 : decode cX1_makeNextRow 104 = .ok (.iinc 3 (-1), 3) := by decide +kernel
theorem dX1_makeNextRow_107 : decode cX1_makeNextRow 107 = .ok (.iinc 4 1, 3) := by decide +kernel
theorem dX1_makeNextRow_110 : decode cX1_makeNextRow 110 = .ok (.goto (-19), 3) := by decide +kernel
theorem dX1_makeNextRow_113 : decode cX1_makeNextRow 113 = .ok (.iconst 1, 1) := by decide +kernel
theorem dX1_makeNextRow_114 : decode cX1_makeNextRow 114 = .ok (.ireturn, 1) := by decide +kernel
theorem dX1_swap_0 : decode cX1_swap 0 = .ok (.aload_n 0, 1) := by decide +kernel
theorem dX1_swap_1 : decode cX1_swap 1 = .ok (.getfield 18, 3) := by decide +kernel
theorem dX1_swap_4 : decode cX1_swap 4 = .ok (.iload_n 1, 1) := by decide +kernel
theorem dX1_swap_5 : decode cX1_swap 5 = .ok (.iaload, 1) := by decide +kernel
theorem dX1_swap_6 : decode cX1_swap 6 = .ok (.istore_n 3, 1) := by decide +kernel
theorem dX1_swap_7 : decode cX1_swap 7 = .ok (.aload_n 0, 1) := by decide +kernel
theorem dX1_swap_8 : decode cX1_swap 8 = .ok (.getfield 18, 3) := by decide +kernel
theorem dX1_swap_11 : decode cX1_swap 11 = .ok (.iload_n 1, 1) := by decide +kernel
theorem dX1_swap_12 : decode cX1_swap 12 = .ok (.aload_n 0, 1) := by decide +kernel
theorem dX1_swap_13 : decode cX1_swap 13 = .ok (.getfield 18, 3) := by decide +kernel
theorem dX1_swap_16 : decode cX1_swap 16 = .ok (.iload_n 2, 1) := by decide +kernel
theorem dX1_swap_17 : decode cX1_swap 17 = .ok (.iaload, 1) := by decide +kernel
theorem dX1_swap_18 : decode cX1_swap 18 = .ok (.iastore, 1) := by decide +kernel
theorem dX1_swap_19 : decode cX1_swap 19 = .ok (.aload_n 0, 1) := by decide +kernel
theorem dX1_swap_20 : decode cX1_swap 20 = .ok (.getfield 18, 3) := by decide +kernel
theorem dX1_swap_23 : decode cX1_swap 23 = .ok (.iload_n 2, 1) := by decide +kernel
theorem dX1_swap_24 : decode cX1_swap 24 = .ok (.iload_n 3, 1) := by decide +kernel
theorem dX1_swap_25 : decode cX1_swap 25 = .ok (.iastore, 1) := by decide +kernel
theorem dX1_swap_26 : decode cX1_swap 26 = .ok (.return_, 1) := by decide +kernel
theorem dX2_init_0 : decode cX2_init 0 = .ok (.aload_n 0, 1) := by decide +kernel
theorem dX2_init_1 : decode cX2_init 1 = .ok (.invokespecial 3, 3) := by decide +kernel
theorem dX2_init_4 : decode cX2_init 4 = .ok (.aload_n 0, 1) := by decide +kernel
theorem dX2_init_5 : decode cX2_init 5 = .ok (.iconst (-1), 1) := by decide +kernel
theorem dX2_init_6 : decode cX2_init 6 = .ok (.putfield 9, 3) := by decide +kernel
theorem dX2_init_9 : decode cX2_init 9 = .ok (.aload_n 0, 1) := by decide +kernel
theorem dX2_init_10 : decode cX2_init 10 = .ok (.bipush 24, 2) := by decide +kernel
theorem dX2_init_12 : decode cX2_init 12 = .ok (.newarray .int, 2) := by decide +kernel
theorem dX2_init_14 : decode cX2_init 14 = .ok (.putfield 15, 3) := by decide +kernel
theorem dX2_init_17 : decode cX2_init 17 = .ok (.return_, 1) := by decide +kernel
theorem dX2_begin_0 : decode cX2_begin 0 = .ok (.aload_n 0, 1) := by decide +kernel
theorem dX2_begin_1 : decode cX2_begin 1 = .ok (.iload_n 1, 1) := by decide +kernel
theorem dX2_begin_2 : decode cX2_begin 2 = .ok (.putfield 9, 3) := by decide +kernel
theorem dX2_begin_5 : decode cX2_begin 5 = .ok (.aload_n 0, 1) := by decide +kernel
theorem dX2_begin_6 : decode cX2_begin 6 = .ok (.iload_n 2, 1) := by decide +kernel
theorem dX2_begin_7 : decode cX2_begin 7 = .ok (.putfield 19, 3) := by decide +kernel
theorem dX2_begin_10 : decode cX2_begin 10 = .ok (.iconst 0, 1) := by decide +kernel
theorem dX2_begin_11 : decode cX2_begin 11 = .ok (.istore_n 3, 1) := by decide +kernel
theorem dX2_begin_12 : decode cX2_begin 12 = .ok (.iload_n 3, 1) := by decide +kernel
theorem dX2_begin_13 : decode cX2_begin 13 = .ok (.bipush 24, 2) := by decide +kernel
theorem dX2_begin_15 : decode cX2_begin 15 = .ok (.if_icmp .ge 16, 3) := by decide +kernel
theorem dX2_begin_18 : decode cX2_begin 18 = .ok (.aload_n 0, 1) := by decide +kernel
theorem dX2_begin_19 : decode cX2_begin 19 = .ok (.getfield 15, 3) := by decide +kernel
theorem dX2_begin_22 : decode cX2_begin 22 = .ok (.iload_n 3, 1) := by decide +kernel
theorem dX2_begin_23 : decode cX2_begin 23 = .ok (.iconst 0, 1) := by decide +kernel
theorem dX2_begin_24 : decode cX2_begin 24 = .ok (.iastore, 1) := by decide +kernel
theorem dX2_begin_25 : decode cX2_begin 25 = .ok (.iinc 3 1, 3) := by decide +kernel
theorem dX2_begin_28 : decode cX2_begin 28 = .ok (.goto (-16), 3) := by decide +kernel
theorem dX2_begin_31 : decode cX2_begin 31 = .ok (.return_, 1) := by decide +kernel
theorem dX2_put_0 : decode cX2_put 0 = .ok (.iload_n 1, 1) := by decide +kernel
theorem dX2_put_1 : decode cX2_put 1 = .ok (.aload_n 0, 1) := by decide +kernel
theorem dX2_put_2 : decode cX2_put 2 = .ok (.getfield 19, 3) := by decide +kernel
theorem dX2_put_5 : decode cX2_put 5 = .ok (.invokestatic 22, 3) := by decide +kernel
theorem dX2_put_8 : decode cX2_put 8 = .ok (.ifCond .ne 4, 3) := by decide +kernel
theorem dX2_put_11 : decode cX2_put 11 = .ok (.return_, 1) := by decide +kernel
theorem dX2_put_12 : decode cX2_put 12 = .ok (.aload_n 0, 1) := by decide +kernel
theorem dX2_put_13 : decode cX2_put 13 = .ok (.getfield 9, 3) := by decide +kernel
theorem dX2_put_16 : decode cX2_put 16 = .ok (.lookupswitch 50 #[(0, 28), (1, 39)], 28) := by decide +kernel
theorem dX2_put_44 : decode cX2_put 44 = .ok (.aload_n 0, 1) := by decide +kernel
theorem dX2_put_45 : decode cX2_put 45 = .ok (.getfield 15, 3) := by decide +kernel
theorem dX2_put_48 : decode cX2_put 48 = .ok (.iload_n 1, 1) := by decide +kernel
theorem dX2_put_49 : decode cX2_put 49 = .ok (.iload_n 2, 1) := by decide +kernel
theorem dX2_put_50 : decode cX2_put 50 = .ok (.i2b, 1) := by decide +kernel
theorem dX2_put_51 : decode cX2_put 51 = .ok (.iastore, 1) := by decide +kernel
theorem dX2_put_52 : decode cX2_put 52 = .ok (.goto 21, 3) := by decide +kernel
theorem dX2_put_55 : decode cX2_put 55 = .ok (.aload_n 0, 1) := by decide +kernel
theorem dX2_put_56 : decode cX2_put 56 = .ok (.getfield 15, 3) := by decide +kernel
theorem dX2_put_59 : decode cX2_put 59 = .ok (.iload_n 1, 1) := by decide +kernel
theorem dX2_put_60 : decode cX2_put 60 = .ok (.iload_n 2, 1) := by decide +kernel
theorem dX2_put_61 : decode cX2_put 61 = .ok (.i2s, 1) := by decide +kernel
theorem dX2_put_62 : decode cX2_put 62 = .ok (.iastore, 1) := by decide +kernel
theorem dX2_put_63 : decode cX2_put 63 = .ok (.goto 10, 3) := by decide +kernel
theorem dX2_put_66 : decode cX2_put 66 = .ok (.aload_n 0, 1) := by decide +kernel
theorem dX2_put_67 : decode cX2_put 67 = .ok (.getfield 15, 3) := by decide +kernel
theorem dX2_put_70 : decode cX2_put 70 = .ok (.iload_n 1, 1) := by decide +kernel
theorem dX2_put_71 : decode cX2_put 71 = .ok (.iload_n 2, 1) := by decide +kernel
theorem dX2_put_72 : decode cX2_put 72 = .ok (.iastore, 1) := by decide +kernel
theorem dX2_put_73 : decode cX2_put 73 = .ok (.return_, 1) := by decide +kernel
theorem dX3_init_0 : decode cX3_init 0 = .ok (.aload_n 0, 1) := by decide +kernel
theorem dX3_init_1 : decode cX3_init 1 = .ok (.invokespecial 3, 3) := by decide +kernel
theorem dX3_init_4 : decode cX3_init 4 = .ok (.aload_n 0, 1) := by decide +kernel
theorem dX3_init_5 : decode cX3_init 5 = .ok (.bipush 20, 2) := by decide +kernel
theorem dX3_init_7 : decode cX3_init 7 = .ok (.putfield 9, 3) := by decide +kernel
theorem dX3_init_10 : decode cX3_init 10 = .ok (.aload_n 0, 1) := by decide +kernel
theorem dX3_init_11 : decode cX3_init 11 = .ok (.bipush 6, 2) := by decide +kernel
theorem dX3_init_13 : decode cX3_init 13 = .ok (.newarray .int, 2) := by decide +kernel
theorem dX3_init_15 : decode cX3_init 15 = .ok (.putfield 15, 3) := by decide +kernel
theorem dX3_init_18 : decode cX3_init 18 = .ok (.aload_n 0, 1) := by decide +kernel
theorem dX3_init_19 : decode cX3_init 19 = .ok (.bipush 10, 2) := by decide +kernel
theorem dX3_init_21 : decode cX3_init 21 = .ok (.bipush 7, 2) := by decide +kernel
theorem dX3_init_23 : decode cX3_init 23 = .ok (.multianewarray 19 2, 4) := by decide +kernel
theorem dX3_init_27 : decode cX3_init 27 = .ok (.putfield 21, 3) := by decide +kernel
theorem dX3_init_30 : decode cX3_init 30 = .ok (.getstatic 24, 3) := by decide +kernel
theorem dX3_init_33 : decode cX3_init 33 = .ok (.iconst 0, 1) := by decide +kernel
theorem dX3_init_34 : decode cX3_init 34 = .ok (.aload_n 0, 1) := by decide +kernel
theorem dX3_init_35 : decode cX3_init 35 = .ok (.getfield 15, 3) := by decide +kernel
theorem dX3_init_38 : decode cX3_init 38 = .ok (.iconst 0, 1) := by decide +kernel
theorem dX3_init_39 : decode cX3_init 39 = .ok (.bipush 6, 2) := by decide +kernel
theorem dX3_init_41 : decode cX3_init 41 = .ok (.invokestatic 27, 3) := by decide +kernel
theorem dX3_init_44 : decode cX3_init 44 = .ok (.return_, 1) := by decide +kernel
theorem dX3_has_0 : decode cX3_has 0 = .ok (.iload_n 1, 1) := by decide +kernel
theorem dX3_has_1 : decode cX3_has 1 = .ok (.aload_n 0, 1) := by decide +kernel
theorem dX3_has_2 : decode cX3_has 2 = .ok (.getfield 33, 3) := by decide +kernel
theorem dX3_has_5 : decode cX3_has 5 = .ok (.invokestatic 36, 3) := by decide +kernel
theorem dX3_has_8 : decode cX3_has 8 = .ok (.ireturn, 1) := by decide +kernel
theorem dX3_hasRoom_0 : decode cX3_hasRoom 0 = .ok (.aload_n 0, 1) := by decide +kernel
theorem dX3_hasRoom_1 : decode cX3_hasRoom 1 = .ok (.getfield 33, 3) := by decide +kernel
theorem dX3_hasRoom_4 : decode cX3_hasRoom 4 = .ok (.iload_n 1, 1) := by decide +kernel
theorem dX3_hasRoom_5 : decode cX3_hasRoom 5 = .ok (.iadd, 1) := by decide +kernel
theorem dX3_hasRoom_6 : decode cX3_hasRoom 6 = .ok (.bipush 10, 2) := by decide +kernel
theorem dX3_hasRoom_8 : decode cX3_hasRoom 8 = .ok (.if_icmp .gt 7, 3) := by decide +kernel
theorem dX3_hasRoom_11 : decode cX3_hasRoom 11 = .ok (.iconst 1, 1) := by decide +kernel
theorem dX3_hasRoom_12 : decode cX3_hasRoom 12 = .ok (.goto 4, 3) := by decide +kernel
theorem dX3_hasRoom_15 : decode cX3_hasRoom 15 = .ok (.iconst 0, 1) := by decide +kernel
theorem dX3_hasRoom_16 : decode cX3_hasRoom 16 = .ok (.ireturn, 1) := by decide +kernel
theorem dX3_mayCome_0 : decode cX3_mayCome 0 = .ok (.iload_n 2, 1) := by decide +kernel
theorem dX3_mayCome_1 : decode cX3_mayCome 1 = .ok (.ifCond .lt 11, 3) := by decide +kernel
theorem dX3_mayCome_4 : decode cX3_mayCome 4 = .ok (.iload_n 2, 1) := by decide +kernel
theorem dX3_mayCome_5 : decode cX3_mayCome 5 = .ok (.aload_n 1, 1) := by decide +kernel
theorem dX3_mayCome_6 : decode cX3_mayCome 6 = .ok (.arraylength, 1) := by decide +kernel
theorem dX3_mayCome_7 : decode cX3_mayCome 7 = .ok (.iconst 5, 1) := by decide +kernel
theorem dX3_mayCome_8 : decode cX3_mayCome 8 = .ok (.isub, 1) := by decide +kernel
theorem dX3_mayCome_9 : decode cX3_mayCome 9 = .ok (.if_icmp .le 5, 3) := by decide +kernel
theorem dX3_mayCome_12 : decode cX3_mayCome 12 = .ok (.iconst 0, 1) := by decide +kernel
theorem dX3_mayCome_13 : decode cX3_mayCome 13 = .ok (.ireturn, 1) := by decide +kernel
theorem dX3_mayCome_14 : decode cX3_mayCome 14 = .ok (.iconst 0, 1) := by decide +kernel
theorem dX3_mayCome_15 : decode cX3_mayCome 15 = .ok (.istore_n 3, 1) := by decide +kernel
theorem dX3_mayCome_16 : decode cX3_mayCome 16 = .ok (.iload_n 3, 1) := by decide +kernel
theorem dX3_mayCome_17 : decode cX3_mayCome 17 = .ok (.iconst 5, 1) := by decide +kernel
theorem dX3_mayCome_18 : decode cX3_mayCome 18 = .ok (.if_icmp .ge 38, 3) := by decide +kernel
theorem dX3_mayCome_21 : decode cX3_mayCome 21 = .ok (.aload_n 1, 1) := by decide +kernel
theorem dX3_mayCome_22 : decode cX3_mayCome 22 = .ok (.iload_n 2, 1) := by decide +kernel
theorem dX3_mayCome_23 : decode cX3_mayCome 23 = .ok (.iload_n 3, 1) := by decide +kernel
theorem dX3_mayCome_24 : decode cX3_mayCome 24 = .ok (.iadd, 1) := by decide +kernel
theorem dX3_mayCome_25 : decode cX3_mayCome 25 = .ok (.iaload, 1) := by decide +kernel
theorem dX3_mayCome_26 : decode cX3_mayCome 26 = .ok (.istore 4, 2) := by decide +kernel
theorem dX3_mayCome_28 : decode cX3_mayCome 28 = .ok (.iload 4, 2) := by decide +kernel
theorem dX3_mayCome_30 : decode cX3_mayCome 30 = .ok (.getstatic 40, 3) := by decide +kernel
theorem dX3_mayCome_33 : decode cX3_mayCome 33 = .ok (.iload_n 3, 1) := by decide +kernel
theorem dX3_mayCome_34 : decode cX3_mayCome 34 = .ok (.iaload, 1) := by decide +kernel
theorem dX3_mayCome_35 : decode cX3_mayCome 35 = .ok (.if_icmp .lt 13, 3) := by decide +kernel
theorem dX3_mayCome_38 : decode cX3_mayCome 38 = .ok (.iload 4, 2) := by decide +kernel
theorem dX3_mayCome_40 : decode cX3_mayCome 40 = .ok (.getstatic 43, 3) := by decide +kernel
theorem dX3_mayCome_43 : decode cX3_mayCome 43 = .ok (.iload_n 3, 1) := by decide +kernel
theorem dX3_mayCome_44 : decode cX3_mayCome 44 = .ok (.iaload, 1) := by decide +kernel
theorem dX3_mayCome_45 : decode cX3_mayCome 45 = .ok (.if_icmp .le 5, 3) := by decide +kernel
theorem dX3_mayCome_48 : decode cX3_mayCome 48 = .ok (.iconst 0, 1) := by decide +kernel
theorem dX3_mayCome_49 : decode cX3_mayCome 49 = .ok (.ireturn, 1) := by decide +kernel
theorem dX3_mayCome_50 : decode cX3_mayCome 50 = .ok (.iinc 3 1, 3) := by decide +kernel
theorem dX3_mayCome_53 : decode cX3_mayCome 53 = .ok (.goto (-37), 3) := by decide +kernel
theorem dX3_mayCome_56 : decode cX3_mayCome 56 = .ok (.iconst 1, 1) := by decide +kernel
theorem dX3_mayCome_57 : decode cX3_mayCome 57 = .ok (.ireturn, 1) := by decide +kernel
theorem dX3_enlist_0 : decode cX3_enlist 0 = .ok (.aload_n 0, 1) := by decide +kernel
theorem dX3_enlist_1 : decode cX3_enlist 1 = .ok (.iconst 1, 1) := by decide +kernel
theorem dX3_enlist_2 : decode cX3_enlist 2 = .ok (.invokevirtual 46, 3) := by decide +kernel
theorem dX3_enlist_5 : decode cX3_enlist 5 = .ok (.ifCond .eq 12, 3) := by decide +kernel
theorem dX3_enlist_8 : decode cX3_enlist 8 = .ok (.aload_n 0, 1) := by decide +kernel
theorem dX3_enlist_9 : decode cX3_enlist 9 = .ok (.aload_n 1, 1) := by decide +kernel
theorem dX3_enlist_10 : decode cX3_enlist 10 = .ok (.iload_n 2, 1) := by decide +kernel
theorem dX3_enlist_11 : decode cX3_enlist 11 = .ok (.invokevirtual 50, 3) := by decide +kernel
theorem dX3_enlist_14 : decode cX3_enlist 14 = .ok (.ifCond .ne 4, 3) := by decide +kernel
theorem dX3_enlist_17 : decode cX3_enlist 17 = .ok (.return_, 1) := by decide +kernel
theorem dX3_enlist_18 : decode cX3_enlist 18 = .ok (.aload_n 1, 1) := by decide +kernel
theorem dX3_enlist_19 : decode cX3_enlist 19 = .ok (.iload_n 2, 1) := by decide +kernel
theorem dX3_enlist_20 : decode cX3_enlist 20 = .ok (.aload_n 0, 1) := by decide +kernel
theorem dX3_enlist_21 : decode cX3_enlist 21 = .ok (.getfield 21, 3) := by decide +kernel
theorem dX3_enlist_24 : decode cX3_enlist 24 = .ok (.aload_n 0, 1) := by decide +kernel
theorem dX3_enlist_25 : decode cX3_enlist 25 = .ok (.getfield 33, 3) := by decide +kernel
theorem dX3_enlist_28 : decode cX3_enlist 28 = .ok (.aaload, 1) := by decide +kernel
theorem dX3_enlist_29 : decode cX3_enlist 29 = .ok (.iconst 0, 1) := by decide +kernel
theorem dX3_enlist_30 : decode cX3_enlist 30 = .ok (.iconst 5, 1) := by decide +kernel
theorem dX3_enlist_31 : decode cX3_enlist 31 = .ok (.invokestatic 27, 3) := by decide +kernel
theorem dX3_enlist_34 : decode cX3_enlist 34 = .ok (.aload_n 0, 1) := by decide +kernel
theorem dX3_enlist_35 : decode cX3_enlist 35 = .ok (.getfield 21, 3) := by decide +kernel
theorem dX3_enlist_38 : decode cX3_enlist 38 = .ok (.aload_n 0, 1) := by decide +kernel
theorem dX3_enlist_39 : decode cX3_enlist 39 = .ok (.getfield 33, 3) := by decide +kernel
theorem dX3_enlist_42 : decode cX3_enlist 42 = .ok (.aaload, 1) := by decide +kernel
theorem dX3_enlist_43 : decode cX3_enlist 43 = .ok (.iconst 5, 1) := by decide +kernel
theorem dX3_enlist_44 : decode cX3_enlist 44 = .ok (.iconst 0, 1) := by decide +kernel
theorem dX3_enlist_45 : decode cX3_enlist 45 = .ok (.iastore, 1) := by decide +kernel
theorem dX3_enlist_46 : decode cX3_enlist 46 = .ok (.aload_n 0, 1) := by decide +kernel
theorem dX3_enlist_47 : decode cX3_enlist 47 = .ok (.getfield 21, 3) := by decide +kernel
theorem dX3_enlist_50 : decode cX3_enlist 50 = .ok (.aload_n 0, 1) := by decide +kernel
theorem dX3_enlist_51 : decode cX3_enlist 51 = .ok (.getfield 33, 3) := by decide +kernel
theorem dX3_enlist_54 : decode cX3_enlist 54 = .ok (.aaload, 1) := by decide +kernel
theorem dX3_enlist_55 : decode cX3_enlist 55 = .ok (.bipush 6, 2) := by decide +kernel
theorem dX3_enlist_57 : decode cX3_enlist 57 = .ok (.iconst (-1), 1) := by decide +kernel
theorem dX3_enlist_58 : decode cX3_enlist 58 = .ok (.iastore, 1) := by decide +kernel
theorem dX3_enlist_59 : decode cX3_enlist 59 = .ok (.aload_n 0, 1) := by decide +kernel
theorem dX3_enlist_60 : decode cX3_enlist 60 = .ok (.dup, 1) := by decide +kernel
theorem dX3_enlist_61 : decode cX3_enlist 61 = .ok (.getfield 33, 3) := by decide +kernel
theorem dX3_enlist_64 : decode cX3_enlist 64 = .ok (.iconst 1, 1) := by decide +kernel
theorem dX3_enlist_65 : decode cX3_enlist 65 = .ok (.iadd, 1) := by decide +kernel
theorem dX3_enlist_66 : decode cX3_enlist 66 = .ok (.putfield 33, 3) := by decide +kernel
theorem dX3_enlist_69 : decode cX3_enlist 69 = .ok (.return_, 1) := by decide +kernel
theorem dX3_isSpiting_0 : decode cX3_isSpiting 0 = .ok (.aload_n 0, 1) := by decide +kernel
theorem dX3_isSpiting_1 : decode cX3_isSpiting 1 = .ok (.getfield 21, 3) := by decide +kernel
theorem dX3_isSpiting_4 : decode cX3_isSpiting 4 = .ok (.iload_n 1, 1) := by decide +kernel
theorem dX3_isSpiting_5 : decode cX3_isSpiting 5 = .ok (.aaload, 1) := by decide +kernel
theorem dX3_isSpiting_6 : decode cX3_isSpiting 6 = .ok (.iconst 2, 1) := by decide +kernel
theorem dX3_isSpiting_7 : decode cX3_isSpiting 7 = .ok (.iaload, 1) := by decide +kernel
theorem dX3_isSpiting_8 : decode cX3_isSpiting 8 = .ok (.iconst 3, 1) := by decide +kernel
theorem dX3_isSpiting_9 : decode cX3_isSpiting 9 = .ok (.if_icmp .ne 7, 3) := by decide +kernel
theorem dX3_isSpiting_12 : decode cX3_isSpiting 12 = .ok (.iconst 1, 1) := by decide +kernel
theorem dX3_isSpiting_13 : decode cX3_isSpiting 13 = .ok (.goto 4, 3) := by decide +kernel
theorem dX3_isSpiting_16 : decode cX3_isSpiting 16 = .ok (.iconst 0, 1) := by decide +kernel
theorem dX3_isSpiting_17 : decode cX3_isSpiting 17 = .ok (.ireturn, 1) := by decide +kernel
theorem dX3_paceOf_0 : decode cX3_paceOf 0 = .ok (.aload_n 0, 1) := by decide +kernel
theorem dX3_paceOf_1 : decode cX3_paceOf 1 = .ok (.getfield 21, 3) := by decide +kernel
theorem dX3_paceOf_4 : decode cX3_paceOf 4 = .ok (.iload_n 1, 1) := by decide +kernel
theorem dX3_paceOf_5 : decode cX3_paceOf 5 = .ok (.aaload, 1) := by decide +kernel
theorem dX3_paceOf_6 : decode cX3_paceOf 6 = .ok (.iconst 3, 1) := by decide +kernel
theorem dX3_paceOf_7 : decode cX3_paceOf 7 = .ok (.iaload, 1) := by decide +kernel
theorem dX3_paceOf_8 : decode cX3_paceOf 8 = .ok (.istore_n 2, 1) := by decide +kernel
theorem dX3_paceOf_9 : decode cX3_paceOf 9 = .ok (.aload_n 0, 1) := by decide +kernel
theorem dX3_paceOf_10 : decode cX3_paceOf 10 = .ok (.getfield 21, 3) := by decide +kernel
theorem dX3_paceOf_13 : decode cX3_paceOf 13 = .ok (.iload_n 1, 1) := by decide +kernel
theorem dX3_paceOf_14 : decode cX3_paceOf 14 = .ok (.aaload, 1) := by decide +kernel
theorem dX3_paceOf_15 : decode cX3_paceOf 15 = .ok (.iconst 2, 1) := by decide +kernel
theorem dX3_paceOf_16 : decode cX3_paceOf 16 = .ok (.iaload, 1) := by decide +kernel
theorem dX3_paceOf_17 : decode cX3_paceOf 17 = .ok (.tableswitch 36 1 3 #[27, 31, 27], 27) := by decide +kernel
theorem dX3_paceOf_44 : decode cX3_paceOf 44 = .ok (.iload_n 2, 1) := by decide +kernel
theorem dX3_paceOf_45 : decode cX3_paceOf 45 = .ok (.iconst 2, 1) := by decide +kernel
theorem dX3_paceOf_46 : decode cX3_paceOf 46 = .ok (.imul, 1) := by decide +kernel
theorem dX3_paceOf_47 : decode cX3_paceOf 47 = .ok (.ireturn, 1) := by decide +kernel
theorem dX3_paceOf_48 : decode cX3_paceOf 48 = .ok (.iload_n 2, 1) := by decide +kernel
theorem dX3_paceOf_49 : decode cX3_paceOf 49 = .ok (.invokestatic 54, 3) := by decide +kernel
theorem dX3_paceOf_52 : decode cX3_paceOf 52 = .ok (.ireturn, 1) := by decide +kernel
theorem dX3_paceOf_53 : decode cX3_paceOf 53 = .ok (.iload_n 2, 1) := by decide +kernel
theorem dX3_paceOf_54 : decode cX3_paceOf 54 = .ok (.ireturn, 1) := by decide +kernel
theorem dX3_become_0 : decode cX3_become 0 = .ok (.aload_n 0, 1) := by decide +kernel
theorem dX3_become_1 : decode cX3_become 1 = .ok (.aload_n 1, 1) := by decide +kernel
theorem dX3_become_2 : decode cX3_become 2 = .ok (.getfield 9, 3) := by decide +kernel
theorem dX3_become_5 : decode cX3_become 5 = .ok (.putfield 9, 3) := by decide +kernel
theorem dX3_become_8 : decode cX3_become 8 = .ok (.aload_n 0, 1) := by decide +kernel
theorem dX3_become_9 : decode cX3_become 9 = .ok (.aload_n 1, 1) := by decide +kernel
theorem dX3_become_10 : decode cX3_become 10 = .ok (.getfield 33, 3) := by decide +kernel
theorem dX3_become_13 : decode cX3_become 13 = .ok (.putfield 33, 3) := by decide +kernel
theorem dX3_become_16 : decode cX3_become 16 = .ok (.aload_n 1, 1) := by decide +kernel
theorem dX3_become_17 : decode cX3_become 17 = .ok (.getfield 15, 3) := by decide +kernel
theorem dX3_become_20 : decode cX3_become 20 = .ok (.iconst 0, 1) := by decide +kernel
theorem dX3_become_21 : decode cX3_become 21 = .ok (.aload_n 0, 1) := by decide +kernel
theorem dX3_become_22 : decode cX3_become 22 = .ok (.getfield 15, 3) := by decide +kernel
theorem dX3_become_25 : decode cX3_become 25 = .ok (.iconst 0, 1) := by decide +kernel
theorem dX3_become_26 : decode cX3_become 26 = .ok (.bipush 6, 2) := by decide +kernel
theorem dX3_become_28 : decode cX3_become 28 = .ok (.invokestatic 27, 3) := by decide +kernel
theorem dX3_become_31 : decode cX3_become 31 = .ok (.iconst 0, 1) := by decide +kernel
theorem dX3_become_32 : decode cX3_become 32 = .ok (.istore_n 2, 1) := by decide +kernel
theorem dX3_become_33 : decode cX3_become 33 = .ok (.iload_n 2, 1) := by decide +kernel
theorem dX3_become_34 : decode cX3_become 34 = .ok (.bipush 10, 2) := by decide +kernel
theorem dX3_become_36 : decode cX3_become 36 = .ok (.if_icmp .ge 28, 3) := by decide +kernel
theorem dX3_become_39 : decode cX3_become 39 = .ok (.aload_n 1, 1) := by decide +kernel
theorem dX3_become_40 : decode cX3_become 40 = .ok (.getfield 21, 3) := by decide +kernel
theorem dX3_become_43 : decode cX3_become 43 = .ok (.iload_n 2, 1) := by decide +kernel
theorem dX3_become_44 : decode cX3_become 44 = .ok (.aaload, 1) := by decide +kernel
theorem dX3_become_45 : decode cX3_become 45 = .ok (.iconst 0, 1) := by decide +kernel
theorem dX3_become_46 : decode cX3_become 46 = .ok (.aload_n 0, 1) := by decide +kernel
theorem dX3_become_47 : decode cX3_become 47 = .ok (.getfield 21, 3) := by decide +kernel
theorem dX3_become_50 : decode cX3_become 50 = .ok (.iload_n 2, 1) := by decide +kernel
theorem dX3_become_51 : decode cX3_become 51 = .ok (.aaload, 1) := by decide +kernel
theorem dX3_become_52 : decode cX3_become 52 = .ok (.iconst 0, 1) := by decide +kernel
theorem dX3_become_53 : decode cX3_become 53 = .ok (.bipush 7, 2) := by decide +kernel
theorem dX3_become_55 : decode cX3_become 55 = .ok (.invokestatic 27, 3) := by decide +kernel
theorem dX3_become_58 : decode cX3_become 58 = .ok (.iinc 2 1, 3) := by decide +kernel
theorem dX3_become_61 : decode cX3_become 61 = .ok (.goto (-28), 3) := by decide +kernel
theorem dX3_become_64 : decode cX3_become 64 = .ok (.return_, 1) := by decide +kernel
