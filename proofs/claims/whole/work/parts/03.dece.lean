theorem dX7_goTo_19 : decode cX7_goTo 19 = .ok (.aload_n 0, 1) := by decide +kernel
theorem dX7_goTo_20 : decode cX7_goTo 20 = .ok (.iconst 1, 1) := by decide +kernel
theorem dX7_goTo_21 : decode cX7_goTo 21 = .ok (.aload_n 0, 1) := by decide +kernel
theorem dX7_goTo_22 : decode cX7_goTo 22 = .ok (.getfield 191, 3) := by decide +kernel
theorem dX7_goTo_25 : decode cX7_goTo 25 = .ok (.aload_n 0, 1) := by decide +kernel
theorem dX7_goTo_26 : decode cX7_goTo 26 = .ok (.getfield 13, 3) := by decide +kernel
theorem dX7_goTo_29 : decode cX7_goTo 29 = .ok (.iconst 3, 1) := by decide +kernel
theorem dX7_goTo_30 : decode cX7_goTo 30 = .ok (.iaload, 1) := by decide +kernel
theorem dX7_goTo_31 : decode cX7_goTo 31 = .ok (.isub, 1) := by decide +kernel
theorem dX7_goTo_32 : decode cX7_goTo 32 = .ok (.invokestatic 132, 3) := by decide +kernel
theorem dX7_goTo_35 : decode cX7_goTo 35 = .ok (.putfield 191, 3) := by decide +kernel
theorem dX7_goTo_38 : decode cX7_goTo 38 = .ok (.aload_n 0, 1) := by decide +kernel
theorem dX7_goTo_39 : decode cX7_goTo 39 = .ok (.invokevirtual 228, 3) := by decide +kernel
theorem dX7_goTo_42 : decode cX7_goTo 42 = .ok (.aload_n 0, 1) := by decide +kernel
theorem dX7_goTo_43 : decode cX7_goTo 43 = .ok (.iload_n 2, 1) := by decide +kernel
theorem dX7_goTo_44 : decode cX7_goTo 44 = .ok (.invokevirtual 231, 3) := by decide +kernel
theorem dX7_goTo_47 : decode cX7_goTo 47 = .ok (.aload_n 0, 1) := by decide +kernel
theorem dX7_goTo_48 : decode cX7_goTo 48 = .ok (.iload_n 2, 1) := by decide +kernel
theorem dX7_goTo_49 : decode cX7_goTo 49 = .ok (.invokevirtual 234, 3) := by decide +kernel
theorem dX7_goTo_52 : decode cX7_goTo 52 = .ok (.iinc 2 1, 3) := by decide +kernel
theorem dX7_goTo_55 : decode cX7_goTo 55 = .ok (.goto (-53), 3) := by decide +kernel
theorem dX7_goTo_58 : decode cX7_goTo 58 = .ok (.return_, 1) := by decide +kernel
theorem dX7_goAll_0 : decode cX7_goAll 0 = .ok (.aload_n 0, 1) := by decide +kernel
theorem dX7_goAll_1 : decode cX7_goAll 1 = .ok (.invokevirtual 237, 3) := by decide +kernel
theorem dX7_goAll_4 : decode cX7_goAll 4 = .ok (.aload_n 0, 1) := by decide +kernel
theorem dX7_goAll_5 : decode cX7_goAll 5 = .ok (.sipush 999, 3) := by decide +kernel
theorem dX7_goAll_8 : decode cX7_goAll 8 = .ok (.invokevirtual 240, 3) := by decide +kernel
theorem dX7_goAll_11 : decode cX7_goAll 11 = .ok (.return_, 1) := by decide +kernel
theorem dX7_wetOf_0 : decode cX7_wetOf 0 = .ok (.aload_n 0, 1) := by decide +kernel
theorem dX7_wetOf_1 : decode cX7_wetOf 1 = .ok (.getfield 47, 3) := by decide +kernel
theorem dX7_wetOf_4 : decode cX7_wetOf 4 = .ok (.iload_n 1, 1) := by decide +kernel
theorem dX7_wetOf_5 : decode cX7_wetOf 5 = .ok (.iaload, 1) := by decide +kernel
theorem dX7_wetOf_6 : decode cX7_wetOf 6 = .ok (.aload_n 0, 1) := by decide +kernel
theorem dX7_wetOf_7 : decode cX7_wetOf 7 = .ok (.getfield 26, 3) := by decide +kernel
theorem dX7_wetOf_10 : decode cX7_wetOf 10 = .ok (.iload_n 1, 1) := by decide +kernel
theorem dX7_wetOf_11 : decode cX7_wetOf 11 = .ok (.iaload, 1) := by decide +kernel
theorem dX7_wetOf_12 : decode cX7_wetOf 12 = .ok (.iconst 3, 1) := by decide +kernel
theorem dX7_wetOf_13 : decode cX7_wetOf 13 = .ok (.if_icmp .ne 7, 3) := by decide +kernel
theorem dX7_wetOf_16 : decode cX7_wetOf 16 = .ok (.iconst 1, 1) := by decide +kernel
theorem dX7_wetOf_17 : decode cX7_wetOf 17 = .ok (.goto 4, 3) := by decide +kernel
theorem dX7_wetOf_20 : decode cX7_wetOf 20 = .ok (.iconst 0, 1) := by decide +kernel
theorem dX7_wetOf_21 : decode cX7_wetOf 21 = .ok (.isub, 1) := by decide +kernel
theorem dX7_wetOf_22 : decode cX7_wetOf 22 = .ok (.ireturn, 1) := by decide +kernel
theorem dX7_sumOver_0 : decode cX7_sumOver 0 = .ok (.iconst 0, 1) := by decide +kernel
theorem dX7_sumOver_1 : decode cX7_sumOver 1 = .ok (.istore_n 1, 1) := by decide +kernel
theorem dX7_sumOver_2 : decode cX7_sumOver 2 = .ok (.iconst 0, 1) := by decide +kernel
theorem dX7_sumOver_3 : decode cX7_sumOver 3 = .ok (.istore_n 2, 1) := by decide +kernel
theorem dX7_sumOver_4 : decode cX7_sumOver 4 = .ok (.iload_n 2, 1) := by decide +kernel
theorem dX7_sumOver_5 : decode cX7_sumOver 5 = .ok (.aload_n 0, 1) := by decide +kernel
theorem dX7_sumOver_6 : decode cX7_sumOver 6 = .ok (.getfield 98, 3) := by decide +kernel
theorem dX7_sumOver_9 : decode cX7_sumOver 9 = .ok (.if_icmp .ge 33, 3) := by decide +kernel
theorem dX7_sumOver_12 : decode cX7_sumOver 12 = .ok (.iload_n 1, 1) := by decide +kernel
theorem dX7_sumOver_13 : decode cX7_sumOver 13 = .ok (.aload_n 0, 1) := by decide +kernel
theorem dX7_sumOver_14 : decode cX7_sumOver 14 = .ok (.getfield 56, 3) := by decide +kernel
theorem dX7_sumOver_17 : decode cX7_sumOver 17 = .ok (.iload_n 2, 1) := by decide +kernel
theorem dX7_sumOver_18 : decode cX7_sumOver 18 = .ok (.iaload, 1) := by decide +kernel
theorem dX7_sumOver_19 : decode cX7_sumOver 19 = .ok (.ifCond .ge 9, 3) := by decide +kernel
theorem dX7_sumOver_22 : decode cX7_sumOver 22 = .ok (.sipush 1000, 3) := by decide +kernel
theorem dX7_sumOver_25 : decode cX7_sumOver 25 = .ok (.goto 9, 3) := by decide +kernel
theorem dX7_sumOver_28 : decode cX7_sumOver 28 = .ok (.aload_n 0, 1) := by decide +kernel
theorem dX7_sumOver_29 : decode cX7_sumOver 29 = .ok (.getfield 56, 3) := by decide +kernel
theorem dX7_sumOver_32 : decode cX7_sumOver 32 = .ok (.iload_n 2, 1) := by decide +kernel
theorem dX7_sumOver_33 : decode cX7_sumOver 33 = .ok (.iaload, 1) := by decide +kernel
theorem dX7_sumOver_34 : decode cX7_sumOver 34 = .ok (.iadd, 1) := by decide +kernel
theorem dX7_sumOver_35 : decode cX7_sumOver 35 = .ok (.istore_n 1, 1) := by decide +kernel
theorem dX7_sumOver_36 : decode cX7_sumOver 36 = .ok (.iinc 2 1, 3) := by decide +kernel
theorem dX7_sumOver_39 : decode cX7_sumOver 39 = .ok (.goto (-35), 3) := by decide +kernel
theorem dX7_sumOver_42 : decode cX7_sumOver 42 = .ok (.iload_n 1, 1) := by decide +kernel
theorem dX7_sumOver_43 : decode cX7_sumOver 43 = .ok (.ireturn, 1) := by decide +kernel
theorem dX7_lastOver_0 : decode cX7_lastOver 0 = .ok (.iconst 0, 1) := by decide +kernel
theorem dX7_lastOver_1 : decode cX7_lastOver 1 = .ok (.istore_n 1, 1) := by decide +kernel
theorem dX7_lastOver_2 : decode cX7_lastOver 2 = .ok (.iconst 0, 1) := by decide +kernel
theorem dX7_lastOver_3 : decode cX7_lastOver 3 = .ok (.istore_n 2, 1) := by decide +kernel
theorem dX7_lastOver_4 : decode cX7_lastOver 4 = .ok (.iload_n 2, 1) := by decide +kernel
theorem dX7_lastOver_5 : decode cX7_lastOver 5 = .ok (.aload_n 0, 1) := by decide +kernel
theorem dX7_lastOver_6 : decode cX7_lastOver 6 = .ok (.getfield 98, 3) := by decide +kernel
theorem dX7_lastOver_9 : decode cX7_lastOver 9 = .ok (.if_icmp .ge 35, 3) := by decide +kernel
theorem dX7_lastOver_12 : decode cX7_lastOver 12 = .ok (.iload_n 1, 1) := by decide +kernel
theorem dX7_lastOver_13 : decode cX7_lastOver 13 = .ok (.aload_n 0, 1) := by decide +kernel
theorem dX7_lastOver_14 : decode cX7_lastOver 14 = .ok (.getfield 56, 3) := by decide +kernel
theorem dX7_lastOver_17 : decode cX7_lastOver 17 = .ok (.iload_n 2, 1) := by decide +kernel
theorem dX7_lastOver_18 : decode cX7_lastOver 18 = .ok (.iaload, 1) := by decide +kernel
theorem dX7_lastOver_19 : decode cX7_lastOver 19 = .ok (.ifCond .ge 9, 3) := by decide +kernel
theorem dX7_lastOver_22 : decode cX7_lastOver 22 = .ok (.sipush 1000, 3) := by decide +kernel
theorem dX7_lastOver_25 : decode cX7_lastOver 25 = .ok (.goto 9, 3) := by decide +kernel
theorem dX7_lastOver_28 : decode cX7_lastOver 28 = .ok (.aload_n 0, 1) := by decide +kernel
theorem dX7_lastOver_29 : decode cX7_lastOver 29 = .ok (.getfield 56, 3) := by decide +kernel
theorem dX7_lastOver_32 : decode cX7_lastOver 32 = .ok (.iload_n 2, 1) := by decide +kernel
theorem dX7_lastOver_33 : decode cX7_lastOver 33 = .ok (.iaload, 1) := by decide +kernel
theorem dX7_lastOver_34 : decode cX7_lastOver 34 = .ok (.invokestatic 132, 3) := by decide +kernel
theorem dX7_lastOver_37 : decode cX7_lastOver 37 = .ok (.istore_n 1, 1) := by decide +kernel
theorem dX7_lastOver_38 : decode cX7_lastOver 38 = .ok (.iinc 2 1, 3) := by decide +kernel
theorem dX7_lastOver_41 : decode cX7_lastOver 41 = .ok (.goto (-37), 3) := by decide +kernel
theorem dX7_lastOver_44 : decode cX7_lastOver 44 = .ok (.iload_n 1, 1) := by decide +kernel
theorem dX7_lastOver_45 : decode cX7_lastOver 45 = .ok (.ireturn, 1) := by decide +kernel
theorem dX7_fate_0 : decode cX7_fate 0 = .ok (.aload_n 0, 1) := by decide +kernel
theorem dX7_fate_1 : decode cX7_fate 1 = .ok (.iload_n 1, 1) := by decide +kernel
theorem dX7_fate_2 : decode cX7_fate 2 = .ok (.invokevirtual 136, 3) := by decide +kernel
theorem dX7_fate_5 : decode cX7_fate 5 = .ok (.ifCond .eq 15, 3) := by decide +kernel
theorem dX7_fate_8 : decode cX7_fate 8 = .ok (.iload_n 2, 1) := by decide +kernel
theorem dX7_fate_9 : decode cX7_fate 9 = .ok (.i2l, 1) := by decide +kernel
theorem dX7_fate_10 : decode cX7_fate 10 = .ok (.lconst 0, 1) := by decide +kernel
theorem dX7_fate_11 : decode cX7_fate 11 = .ok (.ldc2_w 243, 3) := by decide +kernel
theorem dX7_fate_14 : decode cX7_fate 14 = .ok (.invokestatic 101, 3) := by decide +kernel
theorem dX7_fate_17 : decode cX7_fate 17 = .ok (.ifCond .ne 5, 3) := by decide +kernel
theorem dX7_fate_20 : decode cX7_fate 20 = .ok (.iconst (-1), 1) := by decide +kernel
theorem dX7_fate_21 : decode cX7_fate 21 = .ok (.ireturn, 1) := by decide +kernel
theorem dX7_fate_22 : decode cX7_fate 22 = .ok (.aload_n 0, 1) := by decide +kernel
theorem dX7_fate_23 : decode cX7_fate 23 = .ok (.invokevirtual 245, 3) := by decide +kernel
theorem dX7_fate_26 : decode cX7_fate 26 = .ok (.iload_n 2, 1) := by decide +kernel
theorem dX7_fate_27 : decode cX7_fate 27 = .ok (.ifCond .ne 12, 3) := by decide +kernel
theorem dX7_fate_30 : decode cX7_fate 30 = .ok (.aload_n 0, 1) := by decide +kernel
theorem dX7_fate_31 : decode cX7_fate 31 = .ok (.getfield 56, 3) := by decide +kernel
theorem dX7_fate_34 : decode cX7_fate 34 = .ok (.iload_n 1, 1) := by decide +kernel
theorem dX7_fate_35 : decode cX7_fate 35 = .ok (.iaload, 1) := by decide +kernel
theorem dX7_fate_36 : decode cX7_fate 36 = .ok (.goto 50, 3) := by decide +kernel
theorem dX7_fate_39 : decode cX7_fate 39 = .ok (.iload_n 2, 1) := by decide +kernel
theorem dX7_fate_40 : decode cX7_fate 40 = .ok (.iconst 1, 1) := by decide +kernel
theorem dX7_fate_41 : decode cX7_fate 41 = .ok (.if_icmp .ne 12, 3) := by decide +kernel
theorem dX7_fate_44 : decode cX7_fate 44 = .ok (.aload_n 0, 1) := by decide +kernel
theorem dX7_fate_45 : decode cX7_fate 45 = .ok (.getfield 38, 3) := by decide +kernel
theorem dX7_fate_48 : decode cX7_fate 48 = .ok (.iload_n 1, 1) := by decide +kernel
theorem dX7_fate_49 : decode cX7_fate 49 = .ok (.iaload, 1) := by decide +kernel
theorem dX7_fate_50 : decode cX7_fate 50 = .ok (.goto 36, 3) := by decide +kernel
theorem dX7_fate_53 : decode cX7_fate 53 = .ok (.iload_n 2, 1) := by decide +kernel
theorem dX7_fate_54 : decode cX7_fate 54 = .ok (.iconst 2, 1) := by decide +kernel
theorem dX7_fate_55 : decode cX7_fate 55 = .ok (.if_icmp .ne 11, 3) := by decide +kernel
theorem dX7_fate_58 : decode cX7_fate 58 = .ok (.aload_n 0, 1) := by decide +kernel
theorem dX7_fate_59 : decode cX7_fate 59 = .ok (.iload_n 1, 1) := by decide +kernel
theorem dX7_fate_60 : decode cX7_fate 60 = .ok (.invokevirtual 248, 3) := by decide +kernel
theorem dX7_fate_63 : decode cX7_fate 63 = .ok (.goto 23, 3) := by decide +kernel
theorem dX7_fate_66 : decode cX7_fate 66 = .ok (.iload_n 2, 1) := by decide +kernel
theorem dX7_fate_67 : decode cX7_fate 67 = .ok (.iconst 3, 1) := by decide +kernel
theorem dX7_fate_68 : decode cX7_fate 68 = .ok (.if_icmp .ne 12, 3) := by decide +kernel
theorem dX7_fate_71 : decode cX7_fate 71 = .ok (.aload_n 0, 1) := by decide +kernel
theorem dX7_fate_72 : decode cX7_fate 72 = .ok (.getfield 50, 3) := by decide +kernel
theorem dX7_fate_75 : decode cX7_fate 75 = .ok (.iload_n 1, 1) := by decide +kernel
theorem dX7_fate_76 : decode cX7_fate 76 = .ok (.iaload, 1) := by decide +kernel
theorem dX7_fate_77 : decode cX7_fate 77 = .ok (.goto 9, 3) := by decide +kernel
theorem dX7_fate_80 : decode cX7_fate 80 = .ok (.aload_n 0, 1) := by decide +kernel
theorem dX7_fate_81 : decode cX7_fate 81 = .ok (.getfield 53, 3) := by decide +kernel
theorem dX7_fate_84 : decode cX7_fate 84 = .ok (.iload_n 1, 1) := by decide +kernel
theorem dX7_fate_85 : decode cX7_fate 85 = .ok (.iaload, 1) := by decide +kernel
theorem dX7_fate_86 : decode cX7_fate 86 = .ok (.ireturn, 1) := by decide +kernel
theorem dX7_at_0 : decode cX7_at 0 = .ok (.iload_n 1, 1) := by decide +kernel
theorem dX7_at_1 : decode cX7_at 1 = .ok (.i2l, 1) := by decide +kernel
theorem dX7_at_2 : decode cX7_at 2 = .ok (.lconst 0, 1) := by decide +kernel
theorem dX7_at_3 : decode cX7_at 3 = .ok (.ldc2_w 251, 3) := by decide +kernel
theorem dX7_at_6 : decode cX7_at 6 = .ok (.invokestatic 101, 3) := by decide +kernel
theorem dX7_at_9 : decode cX7_at 9 = .ok (.ifCond .eq 15, 3) := by decide +kernel
theorem dX7_at_12 : decode cX7_at 12 = .ok (.iload_n 2, 1) := by decide +kernel
theorem dX7_at_13 : decode cX7_at 13 = .ok (.i2l, 1) := by decide +kernel
theorem dX7_at_14 : decode cX7_at 14 = .ok (.lconst 0, 1) := by decide +kernel
theorem dX7_at_15 : decode cX7_at 15 = .ok (.ldc2_w 107, 3) := by decide +kernel
theorem dX7_at_18 : decode cX7_at 18 = .ok (.invokestatic 101, 3) := by decide +kernel
theorem dX7_at_21 : decode cX7_at 21 = .ok (.ifCond .ne 5, 3) := by decide +kernel
theorem dX7_at_24 : decode cX7_at 24 = .ok (.iconst (-1), 1) := by decide +kernel
theorem dX7_at_25 : decode cX7_at 25 = .ok (.ireturn, 1) := by decide +kernel
theorem dX7_at_26 : decode cX7_at 26 = .ok (.aload_n 0, 1) := by decide +kernel
theorem dX7_at_27 : decode cX7_at 27 = .ok (.invokevirtual 237, 3) := by decide +kernel
theorem dX7_at_30 : decode cX7_at 30 = .ok (.aload_n 0, 1) := by decide +kernel
theorem dX7_at_31 : decode cX7_at 31 = .ok (.iload_n 1, 1) := by decide +kernel
theorem dX7_at_32 : decode cX7_at 32 = .ok (.invokevirtual 240, 3) := by decide +kernel
theorem dX7_at_35 : decode cX7_at 35 = .ok (.iload_n 2, 1) := by decide +kernel
theorem dX7_at_36 : decode cX7_at 36 = .ok (.ifCond .eq 8, 3) := by decide +kernel
theorem dX7_at_39 : decode cX7_at 39 = .ok (.iload_n 2, 1) := by decide +kernel
theorem dX7_at_40 : decode cX7_at 40 = .ok (.iconst 4, 1) := by decide +kernel
theorem dX7_at_41 : decode cX7_at 41 = .ok (.if_icmp .ne 19, 3) := by decide +kernel
theorem dX7_at_44 : decode cX7_at 44 = .ok (.iload_n 2, 1) := by decide +kernel
theorem dX7_at_45 : decode cX7_at 45 = .ok (.ifCond .ne 10, 3) := by decide +kernel
theorem dX7_at_48 : decode cX7_at 48 = .ok (.aload_n 0, 1) := by decide +kernel
theorem dX7_at_49 : decode cX7_at 49 = .ok (.getfield 191, 3) := by decide +kernel
theorem dX7_at_52 : decode cX7_at 52 = .ok (.goto 7, 3) := by decide +kernel
theorem dX7_at_55 : decode cX7_at 55 = .ok (.aload_n 0, 1) := by decide +kernel
theorem dX7_at_56 : decode cX7_at 56 = .ok (.getfield 194, 3) := by decide +kernel
theorem dX7_at_59 : decode cX7_at 59 = .ok (.ireturn, 1) := by decide +kernel
theorem dX7_at_60 : decode cX7_at 60 = .ok (.iconst 0, 1) := by decide +kernel
theorem dX7_at_61 : decode cX7_at 61 = .ok (.istore_n 3, 1) := by decide +kernel
theorem dX7_at_62 : decode cX7_at 62 = .ok (.iconst 0, 1) := by decide +kernel
theorem dX7_at_63 : decode cX7_at 63 = .ok (.istore 4, 2) := by decide +kernel
theorem dX7_at_65 : decode cX7_at 65 = .ok (.iload 4, 2) := by decide +kernel
theorem dX7_at_67 : decode cX7_at 67 = .ok (.aload_n 0, 1) := by decide +kernel
theorem dX7_at_68 : decode cX7_at 68 = .ok (.getfield 98, 3) := by decide +kernel
theorem dX7_at_71 : decode cX7_at 71 = .ok (.if_icmp .ge 147, 3) := by decide +kernel
theorem dX7_at_74 : decode cX7_at 74 = .ok (.aload_n 0, 1) := by decide +kernel
theorem dX7_at_75 : decode cX7_at 75 = .ok (.getfield 26, 3) := by decide +kernel
theorem dX7_at_78 : decode cX7_at 78 = .ok (.iload 4, 2) := by decide +kernel
theorem dX7_at_80 : decode cX7_at 80 = .ok (.iaload, 1) := by decide +kernel
theorem dX7_at_81 : decode cX7_at 81 = .ok (.iconst 2, 1) := by decide +kernel
theorem dX7_at_82 : decode cX7_at 82 = .ok (.if_icmp .ne 7, 3) := by decide +kernel
theorem dX7_at_85 : decode cX7_at 85 = .ok (.iconst 1, 1) := by decide +kernel
theorem dX7_at_86 : decode cX7_at 86 = .ok (.goto 4, 3) := by decide +kernel
theorem dX7_at_89 : decode cX7_at 89 = .ok (.iconst 0, 1) := by decide +kernel
theorem dX7_at_90 : decode cX7_at 90 = .ok (.istore 5, 2) := by decide +kernel
theorem dX7_at_92 : decode cX7_at 92 = .ok (.iload_n 2, 1) := by decide +kernel
theorem dX7_at_93 : decode cX7_at 93 = .ok (.iconst 1, 1) := by decide +kernel
theorem dX7_at_94 : decode cX7_at 94 = .ok (.if_icmp .ne 26, 3) := by decide +kernel
theorem dX7_at_97 : decode cX7_at 97 = .ok (.iload 5, 2) := by decide +kernel
theorem dX7_at_99 : decode cX7_at 99 = .ok (.ifCond .eq 17, 3) := by decide +kernel
theorem dX7_at_102 : decode cX7_at 102 = .ok (.aload_n 0, 1) := by decide +kernel
theorem dX7_at_103 : decode cX7_at 103 = .ok (.getfield 29, 3) := by decide +kernel
theorem dX7_at_106 : decode cX7_at 106 = .ok (.iload 4, 2) := by decide +kernel
theorem dX7_at_108 : decode cX7_at 108 = .ok (.iaload, 1) := by decide +kernel
theorem dX7_at_109 : decode cX7_at 109 = .ok (.ifCond .ne 7, 3) := by decide +kernel
theorem dX7_at_112 : decode cX7_at 112 = .ok (.iconst 1, 1) := by decide +kernel
theorem dX7_at_113 : decode cX7_at 113 = .ok (.goto 81, 3) := by decide +kernel
theorem dX7_at_116 : decode cX7_at 116 = .ok (.iconst 0, 1) := by decide +kernel
theorem dX7_at_117 : decode cX7_at 117 = .ok (.goto 77, 3) := by decide +kernel
theorem dX7_at_120 : decode cX7_at 120 = .ok (.iload_n 2, 1) := by decide +kernel
theorem dX7_at_121 : decode cX7_at 121 = .ok (.iconst 2, 1) := by decide +kernel
theorem dX7_at_122 : decode cX7_at 122 = .ok (.if_icmp .ne 27, 3) := by decide +kernel
theorem dX7_at_125 : decode cX7_at 125 = .ok (.iload 5, 2) := by decide +kernel
theorem dX7_at_127 : decode cX7_at 127 = .ok (.ifCond .eq 18, 3) := by decide +kernel
theorem dX7_at_130 : decode cX7_at 130 = .ok (.aload_n 0, 1) := by decide +kernel
theorem dX7_at_131 : decode cX7_at 131 = .ok (.getfield 29, 3) := by decide +kernel
theorem dX7_at_134 : decode cX7_at 134 = .ok (.iload 4, 2) := by decide +kernel
theorem dX7_at_136 : decode cX7_at 136 = .ok (.iaload, 1) := by decide +kernel
theorem dX7_at_137 : decode cX7_at 137 = .ok (.iconst 1, 1) := by decide +kernel
theorem dX7_at_138 : decode cX7_at 138 = .ok (.if_icmp .ne 7, 3) := by decide +kernel
theorem dX7_at_141 : decode cX7_at 141 = .ok (.iconst 1, 1) := by decide +kernel
theorem dX7_at_142 : decode cX7_at 142 = .ok (.goto 52, 3) := by decide +kernel
theorem dX7_at_145 : decode cX7_at 145 = .ok (.iconst 0, 1) := by decide +kernel
theorem dX7_at_146 : decode cX7_at 146 = .ok (.goto 48, 3) := by decide +kernel
theorem dX7_at_149 : decode cX7_at 149 = .ok (.iload_n 2, 1) := by decide +kernel
theorem dX7_at_150 : decode cX7_at 150 = .ok (.iconst 3, 1) := by decide +kernel
theorem dX7_at_151 : decode cX7_at 151 = .ok (.if_icmp .ne 27, 3) := by decide +kernel
theorem dX7_at_154 : decode cX7_at 154 = .ok (.iload 5, 2) := by decide +kernel
theorem dX7_at_156 : decode cX7_at 156 = .ok (.ifCond .eq 18, 3) := by decide +kernel
theorem dX7_at_159 : decode cX7_at 159 = .ok (.aload_n 0, 1) := by decide +kernel
theorem dX7_at_160 : decode cX7_at 160 = .ok (.getfield 35, 3) := by decide +kernel
theorem dX7_at_163 : decode cX7_at 163 = .ok (.iload 4, 2) := by decide +kernel
theorem dX7_at_165 : decode cX7_at 165 = .ok (.iaload, 1) := by decide +kernel
theorem dX7_at_166 : decode cX7_at 166 = .ok (.iconst 1, 1) := by decide +kernel
theorem dX7_at_167 : decode cX7_at 167 = .ok (.if_icmp .ne 7, 3) := by decide +kernel
theorem dX7_at_170 : decode cX7_at 170 = .ok (.iconst 1, 1) := by decide +kernel
theorem dX7_at_171 : decode cX7_at 171 = .ok (.goto 23, 3) := by decide +kernel
theorem dX7_at_174 : decode cX7_at 174 = .ok (.iconst 0, 1) := by decide +kernel
theorem dX7_at_175 : decode cX7_at 175 = .ok (.goto 19, 3) := by decide +kernel
theorem dX7_at_178 : decode cX7_at 178 = .ok (.aload_n 0, 1) := by decide +kernel
theorem dX7_at_179 : decode cX7_at 179 = .ok (.getfield 26, 3) := by decide +kernel
theorem dX7_at_182 : decode cX7_at 182 = .ok (.iload 4, 2) := by decide +kernel
theorem dX7_at_184 : decode cX7_at 184 = .ok (.iaload, 1) := by decide +kernel
theorem dX7_at_185 : decode cX7_at 185 = .ok (.iconst 4, 1) := by decide +kernel
theorem dX7_at_186 : decode cX7_at 186 = .ok (.if_icmp .ne 7, 3) := by decide +kernel
theorem dX7_at_189 : decode cX7_at 189 = .ok (.iconst 1, 1) := by decide +kernel
theorem dX7_at_190 : decode cX7_at 190 = .ok (.goto 4, 3) := by decide +kernel
theorem dX7_at_193 : decode cX7_at 193 = .ok (.iconst 0, 1) := by decide +kernel
theorem dX7_at_194 : decode cX7_at 194 = .ok (.istore 6, 2) := by decide +kernel
theorem dX7_at_196 : decode cX7_at 196 = .ok (.iload_n 3, 1) := by decide +kernel
theorem dX7_at_197 : decode cX7_at 197 = .ok (.iload 6, 2) := by decide +kernel
theorem dX7_at_199 : decode cX7_at 199 = .ok (.ifCond .eq 10, 3) := by decide +kernel
theorem dX7_at_202 : decode cX7_at 202 = .ok (.iconst 1, 1) := by decide +kernel
theorem dX7_at_203 : decode cX7_at 203 = .ok (.iload 4, 2) := by decide +kernel
theorem dX7_at_205 : decode cX7_at 205 = .ok (.ishl, 1) := by decide +kernel
theorem dX7_at_206 : decode cX7_at 206 = .ok (.goto 4, 3) := by decide +kernel
theorem dX7_at_209 : decode cX7_at 209 = .ok (.iconst 0, 1) := by decide +kernel
theorem dX7_at_210 : decode cX7_at 210 = .ok (.ior, 1) := by decide +kernel
theorem dX7_at_211 : decode cX7_at 211 = .ok (.istore_n 3, 1) := by decide +kernel
theorem dX7_at_212 : decode cX7_at 212 = .ok (.iinc 4 1, 3) := by decide +kernel
theorem dX7_at_215 : decode cX7_at 215 = .ok (.goto (-150), 3) := by decide +kernel
theorem dX7_at_218 : decode cX7_at 218 = .ok (.iload_n 3, 1) := by decide +kernel
theorem dX7_at_219 : decode cX7_at 219 = .ok (.ireturn, 1) := by decide +kernel
theorem dX7_gone_0 : decode cX7_gone 0 = .ok (.aload_n 0, 1) := by decide +kernel
theorem dX7_gone_1 : decode cX7_gone 1 = .ok (.iload_n 1, 1) := by decide +kernel
theorem dX7_gone_2 : decode cX7_gone 2 = .ok (.invokevirtual 136, 3) := by decide +kernel
theorem dX7_gone_5 : decode cX7_gone 5 = .ok (.ifCond .eq 15, 3) := by decide +kernel
theorem dX7_gone_8 : decode cX7_gone 8 = .ok (.iload_n 2, 1) := by decide +kernel
theorem dX7_gone_9 : decode cX7_gone 9 = .ok (.i2l, 1) := by decide +kernel
theorem dX7_gone_10 : decode cX7_gone 10 = .ok (.lconst 0, 1) := by decide +kernel
theorem dX7_gone_11 : decode cX7_gone 11 = .ok (.ldc2_w 251, 3) := by decide +kernel
theorem dX7_gone_14 : decode cX7_gone 14 = .ok (.invokestatic 101, 3) := by decide +kernel
theorem dX7_gone_17 : decode cX7_gone 17 = .ok (.ifCond .ne 5, 3) := by decide +kernel
theorem dX7_gone_20 : decode cX7_gone 20 = .ok (.iconst (-1), 1) := by decide +kernel
theorem dX7_gone_21 : decode cX7_gone 21 = .ok (.ireturn, 1) := by decide +kernel
theorem dX7_gone_22 : decode cX7_gone 22 = .ok (.aload_n 0, 1) := by decide +kernel
theorem dX7_gone_23 : decode cX7_gone 23 = .ok (.invokevirtual 237, 3) := by decide +kernel
theorem dX7_gone_26 : decode cX7_gone 26 = .ok (.aload_n 0, 1) := by decide +kernel
theorem dX7_gone_27 : decode cX7_gone 27 = .ok (.iload_n 2, 1) := by decide +kernel
theorem dX7_gone_28 : decode cX7_gone 28 = .ok (.invokevirtual 240, 3) := by decide +kernel
theorem dX7_gone_31 : decode cX7_gone 31 = .ok (.aload_n 0, 1) := by decide +kernel
theorem dX7_gone_32 : decode cX7_gone 32 = .ok (.getfield 26, 3) := by decide +kernel
theorem dX7_gone_35 : decode cX7_gone 35 = .ok (.iload_n 1, 1) := by decide +kernel
theorem dX7_gone_36 : decode cX7_gone 36 = .ok (.iaload, 1) := by decide +kernel
theorem dX7_gone_37 : decode cX7_gone 37 = .ok (.iconst 2, 1) := by decide +kernel
theorem dX7_gone_38 : decode cX7_gone 38 = .ok (.if_icmp .ne 12, 3) := by decide +kernel
theorem dX7_gone_41 : decode cX7_gone 41 = .ok (.aload_n 0, 1) := by decide +kernel
theorem dX7_gone_42 : decode cX7_gone 42 = .ok (.getfield 32, 3) := by decide +kernel
theorem dX7_gone_45 : decode cX7_gone 45 = .ok (.iload_n 1, 1) := by decide +kernel
theorem dX7_gone_46 : decode cX7_gone 46 = .ok (.iaload, 1) := by decide +kernel
theorem dX7_gone_47 : decode cX7_gone 47 = .ok (.goto 5, 3) := by decide +kernel
theorem dX7_gone_50 : decode cX7_gone 50 = .ok (.bipush (-4), 2) := by decide +kernel
theorem dX7_gone_52 : decode cX7_gone 52 = .ok (.ireturn, 1) := by decide +kernel
theorem dX7_all_0 : decode cX7_all 0 = .ok (.iload_n 1, 1) := by decide +kernel
theorem dX7_all_1 : decode cX7_all 1 = .ok (.i2l, 1) := by decide +kernel
theorem dX7_all_2 : decode cX7_all 2 = .ok (.lconst 0, 1) := by decide +kernel
theorem dX7_all_3 : decode cX7_all 3 = .ok (.ldc2_w 243, 3) := by decide +kernel
theorem dX7_all_6 : decode cX7_all 6 = .ok (.invokestatic 101, 3) := by decide +kernel
theorem dX7_all_9 : decode cX7_all 9 = .ok (.ifCond .ne 5, 3) := by decide +kernel
theorem dX7_all_12 : decode cX7_all 12 = .ok (.iconst (-1), 1) := by decide +kernel
theorem dX7_all_13 : decode cX7_all 13 = .ok (.ireturn, 1) := by decide +kernel
theorem dX7_all_14 : decode cX7_all 14 = .ok (.aload_n 0, 1) := by decide +kernel
theorem dX7_all_15 : decode cX7_all 15 = .ok (.invokevirtual 245, 3) := by decide +kernel
theorem dX7_all_18 : decode cX7_all 18 = .ok (.iconst 0, 1) := by decide +kernel
theorem dX7_all_19 : decode cX7_all 19 = .ok (.istore_n 2, 1) := by decide +kernel
theorem dX7_all_20 : decode cX7_all 20 = .ok (.iconst 0, 1) := by decide +kernel
theorem dX7_all_21 : decode cX7_all 21 = .ok (.istore_n 3, 1) := by decide +kernel
theorem dX7_all_22 : decode cX7_all 22 = .ok (.iload_n 3, 1) := by decide +kernel
theorem dX7_all_23 : decode cX7_all 23 = .ok (.aload_n 0, 1) := by decide +kernel
theorem dX7_all_24 : decode cX7_all 24 = .ok (.getfield 98, 3) := by decide +kernel
theorem dX7_all_27 : decode cX7_all 27 = .ok (.if_icmp .ge 17, 3) := by decide +kernel
theorem dX7_all_30 : decode cX7_all 30 = .ok (.iload_n 2, 1) := by decide +kernel
theorem dX7_all_31 : decode cX7_all 31 = .ok (.aload_n 0, 1) := by decide +kernel
theorem dX7_all_32 : decode cX7_all 32 = .ok (.iload_n 3, 1) := by decide +kernel
theorem dX7_all_33 : decode cX7_all 33 = .ok (.invokevirtual 248, 3) := by decide +kernel
theorem dX7_all_36 : decode cX7_all 36 = .ok (.iadd, 1) := by decide +kernel
theorem dX7_all_37 : decode cX7_all 37 = .ok (.istore_n 2, 1) := by decide +kernel
theorem dX7_all_38 : decode cX7_all 38 = .ok (.iinc 3 1, 3) := by decide +kernel
theorem dX7_all_41 : decode cX7_all 41 = .ok (.goto (-19), 3) := by decide +kernel
theorem dX7_all_44 : decode cX7_all 44 = .ok (.iload_n 1, 1) := by decide +kernel
theorem dX7_all_45 : decode cX7_all 45 = .ok (.ifCond .ne 10, 3) := by decide +kernel
theorem dX7_all_48 : decode cX7_all 48 = .ok (.aload_n 0, 1) := by decide +kernel
theorem dX7_all_49 : decode cX7_all 49 = .ok (.getfield 191, 3) := by decide +kernel
theorem dX7_all_52 : decode cX7_all 52 = .ok (.goto 40, 3) := by decide +kernel
theorem dX7_all_55 : decode cX7_all 55 = .ok (.iload_n 1, 1) := by decide +kernel
theorem dX7_all_56 : decode cX7_all 56 = .ok (.iconst 1, 1) := by decide +kernel
theorem dX7_all_57 : decode cX7_all 57 = .ok (.if_icmp .ne 10, 3) := by decide +kernel
theorem dX7_all_60 : decode cX7_all 60 = .ok (.aload_n 0, 1) := by decide +kernel
theorem dX7_all_61 : decode cX7_all 61 = .ok (.invokevirtual 253, 3) := by decide +kernel
theorem dX7_all_64 : decode cX7_all 64 = .ok (.goto 28, 3) := by decide +kernel
theorem dX7_all_67 : decode cX7_all 67 = .ok (.iload_n 1, 1) := by decide +kernel
theorem dX7_all_68 : decode cX7_all 68 = .ok (.iconst 2, 1) := by decide +kernel
theorem dX7_all_69 : decode cX7_all 69 = .ok (.if_icmp .ne 10, 3) := by decide +kernel
theorem dX7_all_72 : decode cX7_all 72 = .ok (.aload_n 0, 1) := by decide +kernel
theorem dX7_all_73 : decode cX7_all 73 = .ok (.invokevirtual 256, 3) := by decide +kernel
theorem dX7_all_76 : decode cX7_all 76 = .ok (.goto 16, 3) := by decide +kernel
theorem dX7_all_79 : decode cX7_all 79 = .ok (.iload_n 1, 1) := by decide +kernel
theorem dX7_all_80 : decode cX7_all 80 = .ok (.iconst 3, 1) := by decide +kernel
theorem dX7_all_81 : decode cX7_all 81 = .ok (.if_icmp .ne 10, 3) := by decide +kernel
theorem dX7_all_84 : decode cX7_all 84 = .ok (.aload_n 0, 1) := by decide +kernel
theorem dX7_all_85 : decode cX7_all 85 = .ok (.getfield 197, 3) := by decide +kernel
theorem dX7_all_88 : decode cX7_all 88 = .ok (.goto 4, 3) := by decide +kernel
theorem dX7_all_91 : decode cX7_all 91 = .ok (.iload_n 2, 1) := by decide +kernel
theorem dX7_all_92 : decode cX7_all 92 = .ok (.ireturn, 1) := by decide +kernel
theorem dX7_takeSome_0 : decode cX7_takeSome 0 = .ok (.aload_n 0, 1) := by decide +kernel
theorem dX7_takeSome_1 : decode cX7_takeSome 1 = .ok (.iconst 0, 1) := by decide +kernel
theorem dX7_takeSome_2 : decode cX7_takeSome 2 = .ok (.putfield 259, 3) := by decide +kernel
theorem dX7_takeSome_5 : decode cX7_takeSome 5 = .ok (.iconst 0, 1) := by decide +kernel
theorem dX7_takeSome_6 : decode cX7_takeSome 6 = .ok (.istore_n 2, 1) := by decide +kernel
theorem dX7_takeSome_7 : decode cX7_takeSome 7 = .ok (.iload_n 2, 1) := by decide +kernel
theorem dX7_takeSome_8 : decode cX7_takeSome 8 = .ok (.aload_n 0, 1) := by decide +kernel
theorem dX7_takeSome_9 : decode cX7_takeSome 9 = .ok (.getfield 98, 3) := by decide +kernel
theorem dX7_takeSome_12 : decode cX7_takeSome 12 = .ok (.if_icmp .ge 46, 3) := by decide +kernel
theorem dX7_takeSome_15 : decode cX7_takeSome 15 = .ok (.iload_n 1, 1) := by decide +kernel
theorem dX7_takeSome_16 : decode cX7_takeSome 16 = .ok (.iload_n 2, 1) := by decide +kernel
theorem dX7_takeSome_17 : decode cX7_takeSome 17 = .ok (.invokestatic 221, 3) := by decide +kernel
theorem dX7_takeSome_20 : decode cX7_takeSome 20 = .ok (.ifCond .eq 32, 3) := by decide +kernel
theorem dX7_takeSome_23 : decode cX7_takeSome 23 = .ok (.aload_n 0, 1) := by decide +kernel
theorem dX7_takeSome_24 : decode cX7_takeSome 24 = .ok (.getfield 259, 3) := by decide +kernel
theorem dX7_takeSome_27 : decode cX7_takeSome 27 = .ok (.bipush 6, 2) := by decide +kernel
theorem dX7_takeSome_29 : decode cX7_takeSome 29 = .ok (.if_icmp .ge 23, 3) := by decide +kernel
theorem dX7_takeSome_32 : decode cX7_takeSome 32 = .ok (.aload_n 0, 1) := by decide +kernel
theorem dX7_takeSome_33 : decode cX7_takeSome 33 = .ok (.getfield 71, 3) := by decide +kernel
theorem dX7_takeSome_36 : decode cX7_takeSome 36 = .ok (.aload_n 0, 1) := by decide +kernel
theorem dX7_takeSome_37 : decode cX7_takeSome 37 = .ok (.getfield 259, 3) := by decide +kernel
theorem dX7_takeSome_40 : decode cX7_takeSome 40 = .ok (.iload_n 2, 1) := by decide +kernel
theorem dX7_takeSome_41 : decode cX7_takeSome 41 = .ok (.iastore, 1) := by decide +kernel
theorem dX7_takeSome_42 : decode cX7_takeSome 42 = .ok (.aload_n 0, 1) := by decide +kernel
theorem dX7_takeSome_43 : decode cX7_takeSome 43 = .ok (.dup, 1) := by decide +kernel
theorem dX7_takeSome_44 : decode cX7_takeSome 44 = .ok (.getfield 259, 3) := by decide +kernel
theorem dX7_takeSome_47 : decode cX7_takeSome 47 = .ok (.iconst 1, 1) := by decide +kernel
theorem dX7_takeSome_48 : decode cX7_takeSome 48 = .ok (.iadd, 1) := by decide +kernel
theorem dX7_takeSome_49 : decode cX7_takeSome 49 = .ok (.putfield 259, 3) := by decide +kernel
theorem dX7_takeSome_52 : decode cX7_takeSome 52 = .ok (.iinc 2 1, 3) := by decide +kernel
theorem dX7_takeSome_55 : decode cX7_takeSome 55 = .ok (.goto (-48), 3) := by decide +kernel
theorem dX7_takeSome_58 : decode cX7_takeSome 58 = .ok (.iload_n 1, 1) := by decide +kernel
theorem dX7_takeSome_59 : decode cX7_takeSome 59 = .ok (.i2l, 1) := by decide +kernel
theorem dX7_takeSome_60 : decode cX7_takeSome 60 = .ok (.lconst 1, 1) := by decide +kernel
theorem dX7_takeSome_61 : decode cX7_takeSome 61 = .ok (.iconst 1, 1) := by decide +kernel
theorem dX7_takeSome_62 : decode cX7_takeSome 62 = .ok (.aload_n 0, 1) := by decide +kernel
theorem dX7_takeSome_63 : decode cX7_takeSome 63 = .ok (.getfield 98, 3) := by decide +kernel
theorem dX7_takeSome_66 : decode cX7_takeSome 66 = .ok (.ishl, 1) := by decide +kernel
theorem dX7_takeSome_67 : decode cX7_takeSome 67 = .ok (.iconst 1, 1) := by decide +kernel
theorem dX7_takeSome_68 : decode cX7_takeSome 68 = .ok (.isub, 1) := by decide +kernel
theorem dX7_takeSome_69 : decode cX7_takeSome 69 = .ok (.i2l, 1) := by decide +kernel
theorem dX7_takeSome_70 : decode cX7_takeSome 70 = .ok (.invokestatic 101, 3) := by decide +kernel
theorem dX7_takeSome_73 : decode cX7_takeSome 73 = .ok (.ifCond .eq 16, 3) := by decide +kernel
theorem dX7_takeSome_76 : decode cX7_takeSome 76 = .ok (.iload_n 1, 1) := by decide +kernel
theorem dX7_takeSome_77 : decode cX7_takeSome 77 = .ok (.invokestatic 262, 3) := by decide +kernel
theorem dX7_takeSome_80 : decode cX7_takeSome 80 = .ok (.bipush 6, 2) := by decide +kernel
theorem dX7_takeSome_82 : decode cX7_takeSome 82 = .ok (.if_icmp .gt 7, 3) := by decide +kernel
theorem dX7_takeSome_85 : decode cX7_takeSome 85 = .ok (.iconst 1, 1) := by decide +kernel
theorem dX7_takeSome_86 : decode cX7_takeSome 86 = .ok (.goto 4, 3) := by decide +kernel
theorem dX7_takeSome_89 : decode cX7_takeSome 89 = .ok (.iconst 0, 1) := by decide +kernel
theorem dX7_takeSome_90 : decode cX7_takeSome 90 = .ok (.ireturn, 1) := by decide +kernel
theorem dX7_onesOf_0 : decode cX7_onesOf 0 = .ok (.iconst 0, 1) := by decide +kernel
theorem dX7_onesOf_1 : decode cX7_onesOf 1 = .ok (.istore_n 1, 1) := by decide +kernel
theorem dX7_onesOf_2 : decode cX7_onesOf 2 = .ok (.iload_n 0, 1) := by decide +kernel
theorem dX7_onesOf_3 : decode cX7_onesOf 3 = .ok (.istore_n 2, 1) := by decide +kernel
theorem dX7_onesOf_4 : decode cX7_onesOf 4 = .ok (.iload_n 2, 1) := by decide +kernel
theorem dX7_onesOf_5 : decode cX7_onesOf 5 = .ok (.ifCond .le 16, 3) := by decide +kernel
theorem dX7_onesOf_8 : decode cX7_onesOf 8 = .ok (.iload_n 1, 1) := by decide +kernel
theorem dX7_onesOf_9 : decode cX7_onesOf 9 = .ok (.iload_n 2, 1) := by decide +kernel
theorem dX7_onesOf_10 : decode cX7_onesOf 10 = .ok (.iconst 1, 1) := by decide +kernel
theorem dX7_onesOf_11 : decode cX7_onesOf 11 = .ok (.iand, 1) := by decide +kernel
theorem dX7_onesOf_12 : decode cX7_onesOf 12 = .ok (.iadd, 1) := by decide +kernel
theorem dX7_onesOf_13 : decode cX7_onesOf 13 = .ok (.istore_n 1, 1) := by decide +kernel
theorem dX7_onesOf_14 : decode cX7_onesOf 14 = .ok (.iload_n 2, 1) := by decide +kernel
theorem dX7_onesOf_15 : decode cX7_onesOf 15 = .ok (.iconst 1, 1) := by decide +kernel
theorem dX7_onesOf_16 : decode cX7_onesOf 16 = .ok (.ishr, 1) := by decide +kernel
theorem dX7_onesOf_17 : decode cX7_onesOf 17 = .ok (.istore_n 2, 1) := by decide +kernel
theorem dX7_onesOf_18 : decode cX7_onesOf 18 = .ok (.goto (-14), 3) := by decide +kernel
theorem dX7_onesOf_21 : decode cX7_onesOf 21 = .ok (.iload_n 1, 1) := by decide +kernel
theorem dX7_onesOf_22 : decode cX7_onesOf 22 = .ok (.ireturn, 1) := by decide +kernel
theorem dX7_judge_0 : decode cX7_judge 0 = .ok (.iconst 0, 1) := by decide +kernel
theorem dX7_judge_1 : decode cX7_judge 1 = .ok (.istore_n 1, 1) := by decide +kernel
theorem dX7_judge_2 : decode cX7_judge 2 = .ok (.iconst 0, 1) := by decide +kernel
theorem dX7_judge_3 : decode cX7_judge 3 = .ok (.istore_n 2, 1) := by decide +kernel
theorem dX7_judge_4 : decode cX7_judge 4 = .ok (.iconst 0, 1) := by decide +kernel
theorem dX7_judge_5 : decode cX7_judge 5 = .ok (.istore_n 3, 1) := by decide +kernel
theorem dX7_judge_6 : decode cX7_judge 6 = .ok (.iload_n 3, 1) := by decide +kernel
theorem dX7_judge_7 : decode cX7_judge 7 = .ok (.aload_n 0, 1) := by decide +kernel
theorem dX7_judge_8 : decode cX7_judge 8 = .ok (.getfield 259, 3) := by decide +kernel
theorem dX7_judge_11 : decode cX7_judge 11 = .ok (.if_icmp .ge 29, 3) := by decide +kernel
theorem dX7_judge_14 : decode cX7_judge 14 = .ok (.iload_n 1, 1) := by decide +kernel
theorem dX7_judge_15 : decode cX7_judge 15 = .ok (.aload_n 0, 1) := by decide +kernel
theorem dX7_judge_16 : decode cX7_judge 16 = .ok (.getfield 80, 3) := by decide +kernel
theorem dX7_judge_19 : decode cX7_judge 19 = .ok (.iload_n 3, 1) := by decide +kernel
theorem dX7_judge_20 : decode cX7_judge 20 = .ok (.iaload, 1) := by decide +kernel
theorem dX7_judge_21 : decode cX7_judge 21 = .ok (.invokestatic 132, 3) := by decide +kernel
theorem dX7_judge_24 : decode cX7_judge 24 = .ok (.istore_n 1, 1) := by decide +kernel
theorem dX7_judge_25 : decode cX7_judge 25 = .ok (.iload_n 2, 1) := by decide +kernel
theorem dX7_judge_26 : decode cX7_judge 26 = .ok (.aload_n 0, 1) := by decide +kernel
theorem dX7_judge_27 : decode cX7_judge 27 = .ok (.getfield 80, 3) := by decide +kernel
theorem dX7_judge_30 : decode cX7_judge 30 = .ok (.iload_n 3, 1) := by decide +kernel
theorem dX7_judge_31 : decode cX7_judge 31 = .ok (.iaload, 1) := by decide +kernel
theorem dX7_judge_32 : decode cX7_judge 32 = .ok (.iadd, 1) := by decide +kernel
theorem dX7_judge_33 : decode cX7_judge 33 = .ok (.istore_n 2, 1) := by decide +kernel
theorem dX7_judge_34 : decode cX7_judge 34 = .ok (.iinc 3 1, 3) := by decide +kernel
theorem dX7_judge_37 : decode cX7_judge 37 = .ok (.goto (-31), 3) := by decide +kernel
theorem dX7_judge_40 : decode cX7_judge 40 = .ok (.aload_n 0, 1) := by decide +kernel
theorem dX7_judge_41 : decode cX7_judge 41 = .ok (.getfield 265, 3) := by decide +kernel
theorem dX7_judge_44 : decode cX7_judge 44 = .ok (.ifCond .lt 27, 3) := by decide +kernel
theorem dX7_judge_47 : decode cX7_judge 47 = .ok (.iload_n 1, 1) := by decide +kernel
theorem dX7_judge_48 : decode cX7_judge 48 = .ok (.aload_n 0, 1) := by decide +kernel
theorem dX7_judge_49 : decode cX7_judge 49 = .ok (.getfield 265, 3) := by decide +kernel
theorem dX7_judge_52 : decode cX7_judge 52 = .ok (.if_icmp .lt 19, 3) := by decide +kernel
theorem dX7_judge_55 : decode cX7_judge 55 = .ok (.iload_n 1, 1) := by decide +kernel
theorem dX7_judge_56 : decode cX7_judge 56 = .ok (.aload_n 0, 1) := by decide +kernel
theorem dX7_judge_57 : decode cX7_judge 57 = .ok (.getfield 265, 3) := by decide +kernel
theorem dX7_judge_60 : decode cX7_judge 60 = .ok (.if_icmp .ne 47, 3) := by decide +kernel
theorem dX7_judge_63 : decode cX7_judge 63 = .ok (.iload_n 2, 1) := by decide +kernel
theorem dX7_judge_64 : decode cX7_judge 64 = .ok (.aload_n 0, 1) := by decide +kernel
theorem dX7_judge_65 : decode cX7_judge 65 = .ok (.getfield 268, 3) := by decide +kernel
theorem dX7_judge_68 : decode cX7_judge 68 = .ok (.if_icmp .ge 39, 3) := by decide +kernel
theorem dX7_judge_71 : decode cX7_judge 71 = .ok (.aload_n 0, 1) := by decide +kernel
theorem dX7_judge_72 : decode cX7_judge 72 = .ok (.iload_n 1, 1) := by decide +kernel
theorem dX7_judge_73 : decode cX7_judge 73 = .ok (.putfield 265, 3) := by decide +kernel
theorem dX7_judge_76 : decode cX7_judge 76 = .ok (.aload_n 0, 1) := by decide +kernel
theorem dX7_judge_77 : decode cX7_judge 77 = .ok (.iload_n 2, 1) := by decide +kernel
theorem dX7_judge_78 : decode cX7_judge 78 = .ok (.putfield 268, 3) := by decide +kernel
theorem dX7_judge_81 : decode cX7_judge 81 = .ok (.iconst 0, 1) := by decide +kernel
theorem dX7_judge_82 : decode cX7_judge 82 = .ok (.istore_n 3, 1) := by decide +kernel
theorem dX7_judge_83 : decode cX7_judge 83 = .ok (.iload_n 3, 1) := by decide +kernel
theorem dX7_judge_84 : decode cX7_judge 84 = .ok (.bipush 6, 2) := by decide +kernel
theorem dX7_judge_86 : decode cX7_judge 86 = .ok (.if_icmp .ge 21, 3) := by decide +kernel
theorem dX7_judge_89 : decode cX7_judge 89 = .ok (.aload_n 0, 1) := by decide +kernel
theorem dX7_judge_90 : decode cX7_judge 90 = .ok (.getfield 77, 3) := by decide +kernel
theorem dX7_judge_93 : decode cX7_judge 93 = .ok (.iload_n 3, 1) := by decide +kernel
theorem dX7_judge_94 : decode cX7_judge 94 = .ok (.aload_n 0, 1) := by decide +kernel
theorem dX7_judge_95 : decode cX7_judge 95 = .ok (.getfield 74, 3) := by decide +kernel
theorem dX7_judge_98 : decode cX7_judge 98 = .ok (.iload_n 3, 1) := by decide +kernel
theorem dX7_judge_99 : decode cX7_judge 99 = .ok (.iaload, 1) := by decide +kernel
theorem dX7_judge_100 : decode cX7_judge 100 = .ok (.iastore, 1) := by decide +kernel
theorem dX7_judge_101 : decode cX7_judge 101 = .ok (.iinc 3 1, 3) := by decide +kernel
theorem dX7_judge_104 : decode cX7_judge 104 = .ok (.goto (-21), 3) := by decide +kernel
theorem dX7_judge_107 : decode cX7_judge 107 = .ok (.return_, 1) := by decide +kernel
theorem dX7_beginSome_0 : decode cX7_beginSome 0 = .ok (.aload_n 0, 1) := by decide +kernel
theorem dX7_beginSome_1 : decode cX7_beginSome 1 = .ok (.aload_n 0, 1) := by decide +kernel
theorem dX7_beginSome_2 : decode cX7_beginSome 2 = .ok (.getfield 16, 3) := by decide +kernel
theorem dX7_beginSome_5 : decode cX7_beginSome 5 = .ok (.putfield 191, 3) := by decide +kernel
theorem dX7_beginSome_8 : decode cX7_beginSome 8 = .ok (.aload_n 0, 1) := by decide +kernel
theorem dX7_beginSome_9 : decode cX7_beginSome 9 = .ok (.aload_n 0, 1) := by decide +kernel
theorem dX7_beginSome_10 : decode cX7_beginSome 10 = .ok (.getfield 13, 3) := by decide +kernel
theorem dX7_beginSome_13 : decode cX7_beginSome 13 = .ok (.iconst 1, 1) := by decide +kernel
theorem dX7_beginSome_14 : decode cX7_beginSome 14 = .ok (.iaload, 1) := by decide +kernel
theorem dX7_beginSome_15 : decode cX7_beginSome 15 = .ok (.putfield 200, 3) := by decide +kernel
theorem dX7_beginSome_18 : decode cX7_beginSome 18 = .ok (.aload_n 0, 1) := by decide +kernel
theorem dX7_beginSome_19 : decode cX7_beginSome 19 = .ok (.getfield 65, 3) := by decide +kernel
theorem dX7_beginSome_22 : decode cX7_beginSome 22 = .ok (.iconst 0, 1) := by decide +kernel
theorem dX7_beginSome_23 : decode cX7_beginSome 23 = .ok (.sipush (-1000), 3) := by decide +kernel
theorem dX7_beginSome_26 : decode cX7_beginSome 26 = .ok (.iastore, 1) := by decide +kernel
theorem dX7_beginSome_27 : decode cX7_beginSome 27 = .ok (.iconst 0, 1) := by decide +kernel
theorem dX7_beginSome_28 : decode cX7_beginSome 28 = .ok (.istore_n 1, 1) := by decide +kernel
theorem dX7_beginSome_29 : decode cX7_beginSome 29 = .ok (.iload_n 1, 1) := by decide +kernel
theorem dX7_beginSome_30 : decode cX7_beginSome 30 = .ok (.aload_n 0, 1) := by decide +kernel
theorem dX7_beginSome_31 : decode cX7_beginSome 31 = .ok (.getfield 259, 3) := by decide +kernel
theorem dX7_beginSome_34 : decode cX7_beginSome 34 = .ok (.if_icmp .ge 30, 3) := by decide +kernel
theorem dX7_beginSome_37 : decode cX7_beginSome 37 = .ok (.aload_n 0, 1) := by decide +kernel
theorem dX7_beginSome_38 : decode cX7_beginSome 38 = .ok (.getfield 32, 3) := by decide +kernel
theorem dX7_beginSome_41 : decode cX7_beginSome 41 = .ok (.iload_n 1, 1) := by decide +kernel
theorem dX7_beginSome_42 : decode cX7_beginSome 42 = .ok (.iconst 0, 1) := by decide +kernel
theorem dX7_beginSome_43 : decode cX7_beginSome 43 = .ok (.iastore, 1) := by decide +kernel
theorem dX7_beginSome_44 : decode cX7_beginSome 44 = .ok (.aload_n 0, 1) := by decide +kernel
theorem dX7_beginSome_45 : decode cX7_beginSome 45 = .ok (.getfield 35, 3) := by decide +kernel
theorem dX7_beginSome_48 : decode cX7_beginSome 48 = .ok (.iload_n 1, 1) := by decide +kernel
theorem dX7_beginSome_49 : decode cX7_beginSome 49 = .ok (.iconst 0, 1) := by decide +kernel
theorem dX7_beginSome_50 : decode cX7_beginSome 50 = .ok (.iastore, 1) := by decide +kernel
theorem dX7_beginSome_51 : decode cX7_beginSome 51 = .ok (.aload_n 0, 1) := by decide +kernel
theorem dX7_beginSome_52 : decode cX7_beginSome 52 = .ok (.getfield 80, 3) := by decide +kernel
theorem dX7_beginSome_55 : decode cX7_beginSome 55 = .ok (.iload_n 1, 1) := by decide +kernel
theorem dX7_beginSome_56 : decode cX7_beginSome 56 = .ok (.iconst (-1), 1) := by decide +kernel
theorem dX7_beginSome_57 : decode cX7_beginSome 57 = .ok (.iastore, 1) := by decide +kernel
theorem dX7_beginSome_58 : decode cX7_beginSome 58 = .ok (.iinc 1 1, 3) := by decide +kernel
theorem dX7_beginSome_61 : decode cX7_beginSome 61 = .ok (.goto (-32), 3) := by decide +kernel
theorem dX7_beginSome_64 : decode cX7_beginSome 64 = .ok (.return_, 1) := by decide +kernel
theorem dX7_goSome_0 : decode cX7_goSome 0 = .ok (.aload_n 0, 1) := by decide +kernel
theorem dX7_goSome_1 : decode cX7_goSome 1 = .ok (.getfield 35, 3) := by decide +kernel
theorem dX7_goSome_4 : decode cX7_goSome 4 = .ok (.iload_n 1, 1) := by decide +kernel
theorem dX7_goSome_5 : decode cX7_goSome 5 = .ok (.iaload, 1) := by decide +kernel
theorem dX7_goSome_6 : decode cX7_goSome 6 = .ok (.ifCond .ne 46, 3) := by decide +kernel
theorem dX7_goSome_9 : decode cX7_goSome 9 = .ok (.aload_n 0, 1) := by decide +kernel
theorem dX7_goSome_10 : decode cX7_goSome 10 = .ok (.getfield 32, 3) := by decide +kernel
theorem dX7_goSome_13 : decode cX7_goSome 13 = .ok (.iload_n 1, 1) := by decide +kernel
theorem dX7_goSome_14 : decode cX7_goSome 14 = .ok (.dup2, 1) := by decide +kernel
theorem dX7_goSome_15 : decode cX7_goSome 15 = .ok (.iaload, 1) := by decide +kernel
theorem dX7_goSome_16 : decode cX7_goSome 16 = .ok (.aload_n 0, 1) := by decide +kernel
theorem dX7_goSome_17 : decode cX7_goSome 17 = .ok (.aload_n 0, 1) := by decide +kernel
theorem dX7_goSome_18 : decode cX7_goSome 18 = .ok (.getfield 71, 3) := by decide +kernel
theorem dX7_goSome_21 : decode cX7_goSome 21 = .ok (.iload_n 1, 1) := by decide +kernel
theorem dX7_goSome_22 : decode cX7_goSome 22 = .ok (.iaload, 1) := by decide +kernel
theorem dX7_goSome_23 : decode cX7_goSome 23 = .ok (.invokevirtual 140, 3) := by decide +kernel
theorem dX7_goSome_26 : decode cX7_goSome 26 = .ok (.iadd, 1) := by decide +kernel
theorem dX7_goSome_27 : decode cX7_goSome 27 = .ok (.iastore, 1) := by decide +kernel
theorem dX7_goSome_28 : decode cX7_goSome 28 = .ok (.aload_n 0, 1) := by decide +kernel
theorem dX7_goSome_29 : decode cX7_goSome 29 = .ok (.getfield 35, 3) := by decide +kernel
theorem dX7_goSome_32 : decode cX7_goSome 32 = .ok (.iload_n 1, 1) := by decide +kernel
theorem dX7_goSome_33 : decode cX7_goSome 33 = .ok (.aload_n 0, 1) := by decide +kernel
theorem dX7_goSome_34 : decode cX7_goSome 34 = .ok (.getfield 32, 3) := by decide +kernel
theorem dX7_goSome_37 : decode cX7_goSome 37 = .ok (.iload_n 1, 1) := by decide +kernel
theorem dX7_goSome_38 : decode cX7_goSome 38 = .ok (.iaload, 1) := by decide +kernel
theorem dX7_goSome_39 : decode cX7_goSome 39 = .ok (.aload_n 0, 1) := by decide +kernel
theorem dX7_goSome_40 : decode cX7_goSome 40 = .ok (.getfield 191, 3) := by decide +kernel
theorem dX7_goSome_43 : decode cX7_goSome 43 = .ok (.if_icmp .lt 7, 3) := by decide +kernel
theorem dX7_goSome_46 : decode cX7_goSome 46 = .ok (.iconst 1, 1) := by decide +kernel
theorem dX7_goSome_47 : decode cX7_goSome 47 = .ok (.goto 4, 3) := by decide +kernel
theorem dX7_goSome_50 : decode cX7_goSome 50 = .ok (.iconst 0, 1) := by decide +kernel
theorem dX7_goSome_51 : decode cX7_goSome 51 = .ok (.iastore, 1) := by decide +kernel
theorem dX7_goSome_52 : decode cX7_goSome 52 = .ok (.return_, 1) := by decide +kernel
theorem dX7_isSpiting_0 : decode cX7_isSpiting 0 = .ok (.aload_n 0, 1) := by decide +kernel
theorem dX7_isSpiting_1 : decode cX7_isSpiting 1 = .ok (.getfield 7, 3) := by decide +kernel
theorem dX7_isSpiting_4 : decode cX7_isSpiting 4 = .ok (.bipush 7, 2) := by decide +kernel
theorem dX7_isSpiting_6 : decode cX7_isSpiting 6 = .ok (.aload_n 0, 1) := by decide +kernel
theorem dX7_isSpiting_7 : decode cX7_isSpiting 7 = .ok (.getfield 71, 3) := by decide +kernel
theorem dX7_isSpiting_10 : decode cX7_isSpiting 10 = .ok (.iload_n 1, 1) := by decide +kernel
theorem dX7_isSpiting_11 : decode cX7_isSpiting 11 = .ok (.iaload, 1) := by decide +kernel
theorem dX7_isSpiting_12 : decode cX7_isSpiting 12 = .ok (.imul, 1) := by decide +kernel
theorem dX7_isSpiting_13 : decode cX7_isSpiting 13 = .ok (.iconst 2, 1) := by decide +kernel
theorem dX7_isSpiting_14 : decode cX7_isSpiting 14 = .ok (.iadd, 1) := by decide +kernel
theorem dX7_isSpiting_15 : decode cX7_isSpiting 15 = .ok (.iaload, 1) := by decide +kernel
theorem dX7_isSpiting_16 : decode cX7_isSpiting 16 = .ok (.iconst 3, 1) := by decide +kernel
theorem dX7_isSpiting_17 : decode cX7_isSpiting 17 = .ok (.if_icmp .ne 7, 3) := by decide +kernel
theorem dX7_isSpiting_20 : decode cX7_isSpiting 20 = .ok (.iconst 1, 1) := by decide +kernel
theorem dX7_isSpiting_21 : decode cX7_isSpiting 21 = .ok (.goto 4, 3) := by decide +kernel
theorem dX7_isSpiting_24 : decode cX7_isSpiting 24 = .ok (.iconst 0, 1) := by decide +kernel
theorem dX7_isSpiting_25 : decode cX7_isSpiting 25 = .ok (.ireturn, 1) := by decide +kernel
theorem dX7_goCompanies_0 : decode cX7_goCompanies 0 = .ok (.aload_n 0, 1) := by decide +kernel
theorem dX7_goCompanies_1 : decode cX7_goCompanies 1 = .ok (.invokevirtual 271, 3) := by decide +kernel
theorem dX7_goCompanies_4 : decode cX7_goCompanies 4 = .ok (.aload_n 0, 1) := by decide +kernel
theorem dX7_goCompanies_5 : decode cX7_goCompanies 5 = .ok (.getfield 259, 3) := by decide +kernel
theorem dX7_goCompanies_8 : decode cX7_goCompanies 8 = .ok (.istore_n 1, 1) := by decide +kernel
theorem dX7_goCompanies_9 : decode cX7_goCompanies 9 = .ok (.iconst 1, 1) := by decide +kernel
theorem dX7_goCompanies_10 : decode cX7_goCompanies 10 = .ok (.istore_n 2, 1) := by decide +kernel
theorem dX7_goCompanies_11 : decode cX7_goCompanies 11 = .ok (.iload_n 1, 1) := by decide +kernel
theorem dX7_goCompanies_12 : decode cX7_goCompanies 12 = .ok (.ifCond .le 284, 3) := by decide +kernel
theorem dX7_goCompanies_15 : decode cX7_goCompanies 15 = .ok (.iconst 0, 1) := by decide +kernel
theorem dX7_goCompanies_16 : decode cX7_goCompanies 16 = .ok (.istore_n 3, 1) := by decide +kernel
theorem dX7_goCompanies_17 : decode cX7_goCompanies 17 = .ok (.iload_n 3, 1) := by decide +kernel
theorem dX7_goCompanies_18 : decode cX7_goCompanies 18 = .ok (.aload_n 0, 1) := by decide +kernel
theorem dX7_goCompanies_19 : decode cX7_goCompanies 19 = .ok (.getfield 259, 3) := by decide +kernel
theorem dX7_goCompanies_22 : decode cX7_goCompanies 22 = .ok (.if_icmp .ge 14, 3) := by decide +kernel
theorem dX7_goCompanies_25 : decode cX7_goCompanies 25 = .ok (.aload_n 0, 1) := by decide +kernel
theorem dX7_goCompanies_26 : decode cX7_goCompanies 26 = .ok (.iload_n 3, 1) := by decide +kernel
theorem dX7_goCompanies_27 : decode cX7_goCompanies 27 = .ok (.invokevirtual 274, 3) := by decide +kernel
theorem dX7_goCompanies_30 : decode cX7_goCompanies 30 = .ok (.iinc 3 1, 3) := by decide +kernel
theorem dX7_goCompanies_33 : decode cX7_goCompanies 33 = .ok (.goto (-16), 3) := by decide +kernel
theorem dX7_goCompanies_36 : decode cX7_goCompanies 36 = .ok (.iconst 0, 1) := by decide +kernel
theorem dX7_goCompanies_37 : decode cX7_goCompanies 37 = .ok (.istore_n 3, 1) := by decide +kernel
theorem dX7_goCompanies_38 : decode cX7_goCompanies 38 = .ok (.iconst 0, 1) := by decide +kernel
theorem dX7_goCompanies_39 : decode cX7_goCompanies 39 = .ok (.istore 4, 2) := by decide +kernel
theorem dX7_goCompanies_41 : decode cX7_goCompanies 41 = .ok (.iconst 0, 1) := by decide +kernel
theorem dX7_goCompanies_42 : decode cX7_goCompanies 42 = .ok (.istore 5, 2) := by decide +kernel
theorem dX7_goCompanies_44 : decode cX7_goCompanies 44 = .ok (.iload 5, 2) := by decide +kernel
theorem dX7_goCompanies_46 : decode cX7_goCompanies 46 = .ok (.aload_n 0, 1) := by decide +kernel
theorem dX7_goCompanies_47 : decode cX7_goCompanies 47 = .ok (.getfield 259, 3) := by decide +kernel
theorem dX7_goCompanies_50 : decode cX7_goCompanies 50 = .ok (.if_icmp .ge 209, 3) := by decide +kernel
theorem dX7_goCompanies_53 : decode cX7_goCompanies 53 = .ok (.iconst 0, 1) := by decide +kernel
theorem dX7_goCompanies_54 : decode cX7_goCompanies 54 = .ok (.istore 6, 2) := by decide +kernel
theorem dX7_goCompanies_56 : decode cX7_goCompanies 56 = .ok (.iconst 1, 1) := by decide +kernel
theorem dX7_goCompanies_57 : decode cX7_goCompanies 57 = .ok (.istore 7, 2) := by decide +kernel
theorem dX7_goCompanies_59 : decode cX7_goCompanies 59 = .ok (.iconst 0, 1) := by decide +kernel
theorem dX7_goCompanies_60 : decode cX7_goCompanies 60 = .ok (.istore 8, 2) := by decide +kernel
theorem dX7_goCompanies_62 : decode cX7_goCompanies 62 = .ok (.iload 8, 2) := by decide +kernel
theorem dX7_goCompanies_64 : decode cX7_goCompanies 64 = .ok (.aload_n 0, 1) := by decide +kernel
theorem dX7_goCompanies_65 : decode cX7_goCompanies 65 = .ok (.getfield 259, 3) := by decide +kernel
theorem dX7_goCompanies_68 : decode cX7_goCompanies 68 = .ok (.if_icmp .ge 78, 3) := by decide +kernel
theorem dX7_goCompanies_71 : decode cX7_goCompanies 71 = .ok (.iload 6, 2) := by decide +kernel
theorem dX7_goCompanies_73 : decode cX7_goCompanies 73 = .ok (.ifCond .ne 25, 3) := by decide +kernel
theorem dX7_goCompanies_76 : decode cX7_goCompanies 76 = .ok (.aload_n 0, 1) := by decide +kernel
theorem dX7_goCompanies_77 : decode cX7_goCompanies 77 = .ok (.getfield 74, 3) := by decide +kernel
theorem dX7_goCompanies_80 : decode cX7_goCompanies 80 = .ok (.iload 8, 2) := by decide +kernel
theorem dX7_goCompanies_82 : decode cX7_goCompanies 82 = .ok (.iaload, 1) := by decide +kernel
theorem dX7_goCompanies_83 : decode cX7_goCompanies 83 = .ok (.iload 5, 2) := by decide +kernel
theorem dX7_goCompanies_85 : decode cX7_goCompanies 85 = .ok (.if_icmp .ne 17, 3) := by decide +kernel
theorem dX7_goCompanies_88 : decode cX7_goCompanies 88 = .ok (.aload_n 0, 1) := by decide +kernel
theorem dX7_goCompanies_89 : decode cX7_goCompanies 89 = .ok (.getfield 80, 3) := by decide +kernel
theorem dX7_goCompanies_92 : decode cX7_goCompanies 92 = .ok (.iload 8, 2) := by decide +kernel
theorem dX7_goCompanies_94 : decode cX7_goCompanies 94 = .ok (.iaload, 1) := by decide +kernel
theorem dX7_goCompanies_95 : decode cX7_goCompanies 95 = .ok (.ifCond .ge 7, 3) := by decide +kernel
theorem dX7_goCompanies_98 : decode cX7_goCompanies 98 = .ok (.iconst 1, 1) := by decide +kernel
theorem dX7_goCompanies_99 : decode cX7_goCompanies 99 = .ok (.goto 4, 3) := by decide +kernel
theorem dX7_goCompanies_102 : decode cX7_goCompanies 102 = .ok (.iconst 0, 1) := by decide +kernel
theorem dX7_goCompanies_103 : decode cX7_goCompanies 103 = .ok (.istore 6, 2) := by decide +kernel
theorem dX7_goCompanies_105 : decode cX7_goCompanies 105 = .ok (.iload 7, 2) := by decide +kernel
theorem dX7_goCompanies_107 : decode cX7_goCompanies 107 = .ok (.ifCond .eq 30, 3) := by decide +kernel
theorem dX7_goCompanies_110 : decode cX7_goCompanies 110 = .ok (.aload_n 0, 1) := by decide +kernel
theorem dX7_goCompanies_111 : decode cX7_goCompanies 111 = .ok (.getfield 74, 3) := by decide +kernel
theorem dX7_goCompanies_114 : decode cX7_goCompanies 114 = .ok (.iload 8, 2) := by decide +kernel
theorem dX7_goCompanies_116 : decode cX7_goCompanies 116 = .ok (.iaload, 1) := by decide +kernel
theorem dX7_goCompanies_117 : decode cX7_goCompanies 117 = .ok (.iload 5, 2) := by decide +kernel
theorem dX7_goCompanies_119 : decode cX7_goCompanies 119 = .ok (.if_icmp .ne 14, 3) := by decide +kernel
theorem dX7_goCompanies_122 : decode cX7_goCompanies 122 = .ok (.aload_n 0, 1) := by decide +kernel
theorem dX7_goCompanies_123 : decode cX7_goCompanies 123 = .ok (.getfield 35, 3) := by decide +kernel
theorem dX7_goCompanies_126 : decode cX7_goCompanies 126 = .ok (.iload 8, 2) := by decide +kernel
theorem dX7_goCompanies_128 : decode cX7_goCompanies 128 = .ok (.iaload, 1) := by decide +kernel
theorem dX7_goCompanies_129 : decode cX7_goCompanies 129 = .ok (.iconst 1, 1) := by decide +kernel
theorem dX7_goCompanies_130 : decode cX7_goCompanies 130 = .ok (.if_icmp .ne 7, 3) := by decide +kernel
theorem dX7_goCompanies_133 : decode cX7_goCompanies 133 = .ok (.iconst 1, 1) := by decide +kernel
theorem dX7_goCompanies_134 : decode cX7_goCompanies 134 = .ok (.goto 4, 3) := by decide +kernel
theorem dX7_goCompanies_137 : decode cX7_goCompanies 137 = .ok (.iconst 0, 1) := by decide +kernel
theorem dX7_goCompanies_138 : decode cX7_goCompanies 138 = .ok (.istore 7, 2) := by decide +kernel
theorem dX7_goCompanies_140 : decode cX7_goCompanies 140 = .ok (.iinc 8 1, 3) := by decide +kernel
theorem dX7_goCompanies_143 : decode cX7_goCompanies 143 = .ok (.goto (-81), 3) := by decide +kernel
theorem dX7_goCompanies_146 : decode cX7_goCompanies 146 = .ok (.iconst 0, 1) := by decide +kernel
theorem dX7_goCompanies_147 : decode cX7_goCompanies 147 = .ok (.istore 8, 2) := by decide +kernel
theorem dX7_goCompanies_149 : decode cX7_goCompanies 149 = .ok (.iconst 0, 1) := by decide +kernel
theorem dX7_goCompanies_150 : decode cX7_goCompanies 150 = .ok (.istore 9, 2) := by decide +kernel
theorem dX7_goCompanies_152 : decode cX7_goCompanies 152 = .ok (.iload 9, 2) := by decide +kernel
theorem dX7_goCompanies_154 : decode cX7_goCompanies 154 = .ok (.aload_n 0, 1) := by decide +kernel
theorem dX7_goCompanies_155 : decode cX7_goCompanies 155 = .ok (.getfield 259, 3) := by decide +kernel
theorem dX7_goCompanies_158 : decode cX7_goCompanies 158 = .ok (.if_icmp .ge 82, 3) := by decide +kernel
theorem dX7_goCompanies_161 : decode cX7_goCompanies 161 = .ok (.iload 6, 2) := by decide +kernel
theorem dX7_goCompanies_163 : decode cX7_goCompanies 163 = .ok (.ifCond .eq 77, 3) := by decide +kernel
theorem dX7_goCompanies_166 : decode cX7_goCompanies 166 = .ok (.iload 7, 2) := by decide +kernel
theorem dX7_goCompanies_168 : decode cX7_goCompanies 168 = .ok (.ifCond .eq 72, 3) := by decide +kernel
theorem dX7_goCompanies_171 : decode cX7_goCompanies 171 = .ok (.aload_n 0, 1) := by decide +kernel
theorem dX7_goCompanies_172 : decode cX7_goCompanies 172 = .ok (.getfield 74, 3) := by decide +kernel
theorem dX7_goCompanies_175 : decode cX7_goCompanies 175 = .ok (.iload 9, 2) := by decide +kernel
theorem dX7_goCompanies_177 : decode cX7_goCompanies 177 = .ok (.iaload, 1) := by decide +kernel
theorem dX7_goCompanies_178 : decode cX7_goCompanies 178 = .ok (.iload 5, 2) := by decide +kernel
theorem dX7_goCompanies_180 : decode cX7_goCompanies 180 = .ok (.if_icmp .ne 54, 3) := by decide +kernel
theorem dX7_goCompanies_183 : decode cX7_goCompanies 183 = .ok (.aload_n 0, 1) := by decide +kernel
theorem dX7_goCompanies_184 : decode cX7_goCompanies 184 = .ok (.getfield 80, 3) := by decide +kernel
theorem dX7_goCompanies_187 : decode cX7_goCompanies 187 = .ok (.iload 9, 2) := by decide +kernel
theorem dX7_goCompanies_189 : decode cX7_goCompanies 189 = .ok (.iload_n 2, 1) := by decide +kernel
theorem dX7_goCompanies_190 : decode cX7_goCompanies 190 = .ok (.iastore, 1) := by decide +kernel
theorem dX7_goCompanies_191 : decode cX7_goCompanies 191 = .ok (.iinc 1 (-1), 3) := by decide +kernel
theorem dX7_goCompanies_194 : decode cX7_goCompanies 194 = .ok (.iload 8, 2) := by decide +kernel
theorem dX7_goCompanies_196 : decode cX7_goCompanies 196 = .ok (.ifCond .ne 12, 3) := by decide +kernel
theorem dX7_goCompanies_199 : decode cX7_goCompanies 199 = .ok (.aload_n 0, 1) := by decide +kernel
theorem dX7_goCompanies_200 : decode cX7_goCompanies 200 = .ok (.iload 9, 2) := by decide +kernel
theorem dX7_goCompanies_202 : decode cX7_goCompanies 202 = .ok (.invokevirtual 277, 3) := by decide +kernel
theorem dX7_goCompanies_205 : decode cX7_goCompanies 205 = .ok (.ifCond .ne 7, 3) := by decide +kernel
theorem dX7_goCompanies_208 : decode cX7_goCompanies 208 = .ok (.iconst 1, 1) := by decide +kernel
theorem dX7_goCompanies_209 : decode cX7_goCompanies 209 = .ok (.goto 4, 3) := by decide +kernel
theorem dX7_goCompanies_212 : decode cX7_goCompanies 212 = .ok (.iconst 0, 1) := by decide +kernel
theorem dX7_goCompanies_213 : decode cX7_goCompanies 213 = .ok (.istore 8, 2) := by decide +kernel
theorem dX7_goCompanies_215 : decode cX7_goCompanies 215 = .ok (.iload 4, 2) := by decide +kernel
theorem dX7_goCompanies_217 : decode cX7_goCompanies 217 = .ok (.aload_n 0, 1) := by decide +kernel
theorem dX7_goCompanies_218 : decode cX7_goCompanies 218 = .ok (.iload 9, 2) := by decide +kernel
theorem dX7_goCompanies_220 : decode cX7_goCompanies 220 = .ok (.invokevirtual 277, 3) := by decide +kernel
theorem dX7_goCompanies_223 : decode cX7_goCompanies 223 = .ok (.ifCond .eq 7, 3) := by decide +kernel
theorem dX7_goCompanies_226 : decode cX7_goCompanies 226 = .ok (.iconst 1, 1) := by decide +kernel
theorem dX7_goCompanies_227 : decode cX7_goCompanies 227 = .ok (.goto 4, 3) := by decide +kernel
theorem dX7_goCompanies_230 : decode cX7_goCompanies 230 = .ok (.iconst 0, 1) := by decide +kernel
theorem dX7_goCompanies_231 : decode cX7_goCompanies 231 = .ok (.iadd, 1) := by decide +kernel
theorem dX7_goCompanies_232 : decode cX7_goCompanies 232 = .ok (.istore 4, 2) := by decide +kernel
theorem dX7_goCompanies_234 : decode cX7_goCompanies 234 = .ok (.iinc 9 1, 3) := by decide +kernel
theorem dX7_goCompanies_237 : decode cX7_goCompanies 237 = .ok (.goto (-85), 3) := by decide +kernel
theorem dX7_goCompanies_240 : decode cX7_goCompanies 240 = .ok (.iload_n 3, 1) := by decide +kernel
theorem dX7_goCompanies_241 : decode cX7_goCompanies 241 = .ok (.iload 8, 2) := by decide +kernel
theorem dX7_goCompanies_243 : decode cX7_goCompanies 243 = .ok (.ifCond .eq 7, 3) := by decide +kernel
theorem dX7_goCompanies_246 : decode cX7_goCompanies 246 = .ok (.iconst 1, 1) := by decide +kernel
theorem dX7_goCompanies_247 : decode cX7_goCompanies 247 = .ok (.goto 4, 3) := by decide +kernel
theorem dX7_goCompanies_250 : decode cX7_goCompanies 250 = .ok (.iconst 0, 1) := by decide +kernel
theorem dX7_goCompanies_251 : decode cX7_goCompanies 251 = .ok (.iadd, 1) := by decide +kernel
theorem dX7_goCompanies_252 : decode cX7_goCompanies 252 = .ok (.istore_n 3, 1) := by decide +kernel
theorem dX7_goCompanies_253 : decode cX7_goCompanies 253 = .ok (.iinc 5 1, 3) := by decide +kernel
theorem dX7_goCompanies_256 : decode cX7_goCompanies 256 = .ok (.goto (-212), 3) := by decide +kernel
theorem dX7_goCompanies_259 : decode cX7_goCompanies 259 = .ok (.aload_n 0, 1) := by decide +kernel
theorem dX7_goCompanies_260 : decode cX7_goCompanies 260 = .ok (.sipush 400, 3) := by decide +kernel
theorem dX7_goCompanies_263 : decode cX7_goCompanies 263 = .ok (.aload_n 0, 1) := by decide +kernel
theorem dX7_goCompanies_264 : decode cX7_goCompanies 264 = .ok (.getfield 191, 3) := by decide +kernel
theorem dX7_goCompanies_267 : decode cX7_goCompanies 267 = .ok (.aload_n 0, 1) := by decide +kernel
theorem dX7_goCompanies_268 : decode cX7_goCompanies 268 = .ok (.getfield 13, 3) := by decide +kernel
theorem dX7_goCompanies_271 : decode cX7_goCompanies 271 = .ok (.iconst 0, 1) := by decide +kernel
theorem dX7_goCompanies_272 : decode cX7_goCompanies 272 = .ok (.iaload, 1) := by decide +kernel
theorem dX7_goCompanies_273 : decode cX7_goCompanies 273 = .ok (.aload_n 0, 1) := by decide +kernel
theorem dX7_goCompanies_274 : decode cX7_goCompanies 274 = .ok (.iconst 0, 1) := by decide +kernel
theorem dX7_goCompanies_275 : decode cX7_goCompanies 275 = .ok (.iload_n 2, 1) := by decide +kernel
theorem dX7_goCompanies_276 : decode cX7_goCompanies 276 = .ok (.iload_n 3, 1) := by decide +kernel
theorem dX7_goCompanies_277 : decode cX7_goCompanies 277 = .ok (.iload 4, 2) := by decide +kernel
theorem dX7_goCompanies_279 : decode cX7_goCompanies 279 = .ok (.invokevirtual 209, 3) := by decide +kernel
theorem dX7_goCompanies_282 : decode cX7_goCompanies 282 = .ok (.imul, 1) := by decide +kernel
theorem dX7_goCompanies_283 : decode cX7_goCompanies 283 = .ok (.iadd, 1) := by decide +kernel
theorem dX7_goCompanies_284 : decode cX7_goCompanies 284 = .ok (.invokestatic 203, 3) := by decide +kernel
theorem dX7_goCompanies_287 : decode cX7_goCompanies 287 = .ok (.putfield 191, 3) := by decide +kernel
theorem dX7_goCompanies_290 : decode cX7_goCompanies 290 = .ok (.iinc 2 1, 3) := by decide +kernel
theorem dX7_goCompanies_293 : decode cX7_goCompanies 293 = .ok (.goto (-282), 3) := by decide +kernel
theorem dX7_goCompanies_296 : decode cX7_goCompanies 296 = .ok (.return_, 1) := by decide +kernel
theorem dX7_nextRow_0 : decode cX7_nextRow 0 = .ok (.aload_n 0, 1) := by decide +kernel
theorem dX7_nextRow_1 : decode cX7_nextRow 1 = .ok (.getfield 259, 3) := by decide +kernel
theorem dX7_nextRow_4 : decode cX7_nextRow 4 = .ok (.iconst 1, 1) := by decide +kernel
theorem dX7_nextRow_5 : decode cX7_nextRow 5 = .ok (.isub, 1) := by decide +kernel
theorem dX7_nextRow_6 : decode cX7_nextRow 6 = .ok (.istore_n 1, 1) := by decide +kernel
theorem dX7_nextRow_7 : decode cX7_nextRow 7 = .ok (.iload_n 1, 1) := by decide +kernel
theorem dX7_nextRow_8 : decode cX7_nextRow 8 = .ok (.ifCond .le 80, 3) := by decide +kernel
theorem dX7_nextRow_11 : decode cX7_nextRow 11 = .ok (.iconst 0, 1) := by decide +kernel
theorem dX7_nextRow_12 : decode cX7_nextRow 12 = .ok (.istore_n 2, 1) := by decide +kernel
theorem dX7_nextRow_13 : decode cX7_nextRow 13 = .ok (.iconst 0, 1) := by decide +kernel
theorem dX7_nextRow_14 : decode cX7_nextRow 14 = .ok (.istore_n 3, 1) := by decide +kernel
theorem dX7_nextRow_15 : decode cX7_nextRow 15 = .ok (.iload_n 3, 1) := by decide +kernel
theorem dX7_nextRow_16 : decode cX7_nextRow 16 = .ok (.iload_n 1, 1) := by decide +kernel
theorem dX7_nextRow_17 : decode cX7_nextRow 17 = .ok (.if_icmp .ge 20, 3) := by decide +kernel
theorem dX7_nextRow_20 : decode cX7_nextRow 20 = .ok (.iload_n 2, 1) := by decide +kernel
theorem dX7_nextRow_21 : decode cX7_nextRow 21 = .ok (.aload_n 0, 1) := by decide +kernel
theorem dX7_nextRow_22 : decode cX7_nextRow 22 = .ok (.getfield 74, 3) := by decide +kernel
theorem dX7_nextRow_25 : decode cX7_nextRow 25 = .ok (.iload_n 3, 1) := by decide +kernel
theorem dX7_nextRow_26 : decode cX7_nextRow 26 = .ok (.iaload, 1) := by decide +kernel
theorem dX7_nextRow_27 : decode cX7_nextRow 27 = .ok (.invokestatic 132, 3) := by decide +kernel
theorem dX7_nextRow_30 : decode cX7_nextRow 30 = .ok (.istore_n 2, 1) := by decide +kernel
theorem dX7_nextRow_31 : decode cX7_nextRow 31 = .ok (.iinc 3 1, 3) := by decide +kernel
theorem dX7_nextRow_34 : decode cX7_nextRow 34 = .ok (.goto (-19), 3) := by decide +kernel
theorem dX7_nextRow_37 : decode cX7_nextRow 37 = .ok (.aload_n 0, 1) := by decide +kernel
theorem dX7_nextRow_38 : decode cX7_nextRow 38 = .ok (.getfield 74, 3) := by decide +kernel
theorem dX7_nextRow_41 : decode cX7_nextRow 41 = .ok (.iload_n 1, 1) := by decide +kernel
theorem dX7_nextRow_42 : decode cX7_nextRow 42 = .ok (.iaload, 1) := by decide +kernel
theorem dX7_nextRow_43 : decode cX7_nextRow 43 = .ok (.iload_n 2, 1) := by decide +kernel
theorem dX7_nextRow_44 : decode cX7_nextRow 44 = .ok (.if_icmp .gt 38, 3) := by decide +kernel
theorem dX7_nextRow_47 : decode cX7_nextRow 47 = .ok (.aload_n 0, 1) := by decide +kernel
theorem dX7_nextRow_48 : decode cX7_nextRow 48 = .ok (.getfield 74, 3) := by decide +kernel
theorem dX7_nextRow_51 : decode cX7_nextRow 51 = .ok (.iload_n 1, 1) := by decide +kernel
theorem dX7_nextRow_52 : decode cX7_nextRow 52 = .ok (.dup2, 1) := by decide +kernel
theorem dX7_nextRow_53 : decode cX7_nextRow 53 = .ok (.iaload, 1) := by decide +kernel
theorem dX7_nextRow_54 : decode cX7_nextRow 54 = .ok (.iconst 1, 1) := by decide +kernel
theorem dX7_nextRow_55 : decode cX7_nextRow 55 = .ok (.iadd, 1) := by decide +kernel
theorem dX7_nextRow_56 : decode cX7_nextRow 56 = .ok (.iastore, 1) := by decide +kernel
theorem dX7_nextRow_57 : decode cX7_nextRow 57 = .ok (.iload_n 1, 1) := by decide +kernel
theorem dX7_nextRow_58 : decode cX7_nextRow 58 = .ok (.iconst 1, 1) := by decide +kernel
theorem dX7_nextRow_59 : decode cX7_nextRow 59 = .ok (.iadd, 1) := by decide +kernel
theorem dX7_nextRow_60 : decode cX7_nextRow 60 = .ok (.istore_n 3, 1) := by decide +kernel
theorem dX7_nextRow_61 : decode cX7_nextRow 61 = .ok (.iload_n 3, 1) := by decide +kernel
theorem dX7_nextRow_62 : decode cX7_nextRow 62 = .ok (.bipush 6, 2) := by decide +kernel
theorem dX7_nextRow_64 : decode cX7_nextRow 64 = .ok (.if_icmp .ge 16, 3) := by decide +kernel
theorem dX7_nextRow_67 : decode cX7_nextRow 67 = .ok (.aload_n 0, 1) := by decide +kernel
theorem dX7_nextRow_68 : decode cX7_nextRow 68 = .ok (.getfield 74, 3) := by decide +kernel
theorem dX7_nextRow_71 : decode cX7_nextRow 71 = .ok (.iload_n 3, 1) := by decide +kernel
theorem dX7_nextRow_72 : decode cX7_nextRow 72 = .ok (.iconst 0, 1) := by decide +kernel
theorem dX7_nextRow_73 : decode cX7_nextRow 73 = .ok (.iastore, 1) := by decide +kernel
theorem dX7_nextRow_74 : decode cX7_nextRow 74 = .ok (.iinc 3 1, 3) := by decide +kernel
theorem dX7_nextRow_77 : decode cX7_nextRow 77 = .ok (.goto (-16), 3) := by decide +kernel
theorem dX7_nextRow_80 : decode cX7_nextRow 80 = .ok (.iconst 1, 1) := by decide +kernel
theorem dX7_nextRow_81 : decode cX7_nextRow 81 = .ok (.ireturn, 1) := by decide +kernel
theorem dX7_nextRow_82 : decode cX7_nextRow 82 = .ok (.iinc 1 (-1), 3) := by decide +kernel
theorem dX7_nextRow_85 : decode cX7_nextRow 85 = .ok (.goto (-78), 3) := by decide +kernel
theorem dX7_nextRow_88 : decode cX7_nextRow 88 = .ok (.iconst 0, 1) := by decide +kernel
theorem dX7_nextRow_89 : decode cX7_nextRow 89 = .ok (.ireturn, 1) := by decide +kernel
theorem dX7_soonest_0 : decode cX7_soonest 0 = .ok (.aload_n 0, 1) := by decide +kernel
theorem dX7_soonest_1 : decode cX7_soonest 1 = .ok (.iload_n 1, 1) := by decide +kernel
theorem dX7_soonest_2 : decode cX7_soonest 2 = .ok (.invokevirtual 280, 3) := by decide +kernel
theorem dX7_soonest_5 : decode cX7_soonest 5 = .ok (.ifCond .eq 21, 3) := by decide +kernel
theorem dX7_soonest_8 : decode cX7_soonest 8 = .ok (.iload_n 2, 1) := by decide +kernel
theorem dX7_soonest_9 : decode cX7_soonest 9 = .ok (.i2l, 1) := by decide +kernel
theorem dX7_soonest_10 : decode cX7_soonest 10 = .ok (.ldc2_w 283, 3) := by decide +kernel
theorem dX7_soonest_13 : decode cX7_soonest 13 = .ok (.aload_n 0, 1) := by decide +kernel
theorem dX7_soonest_14 : decode cX7_soonest 14 = .ok (.getfield 259, 3) := by decide +kernel
theorem dX7_soonest_17 : decode cX7_soonest 17 = .ok (.iconst 1, 1) := by decide +kernel
theorem dX7_soonest_18 : decode cX7_soonest 18 = .ok (.isub, 1) := by decide +kernel
theorem dX7_soonest_19 : decode cX7_soonest 19 = .ok (.i2l, 1) := by decide +kernel
theorem dX7_soonest_20 : decode cX7_soonest 20 = .ok (.invokestatic 101, 3) := by decide +kernel
theorem dX7_soonest_23 : decode cX7_soonest 23 = .ok (.ifCond .ne 5, 3) := by decide +kernel
theorem dX7_soonest_26 : decode cX7_soonest 26 = .ok (.iconst (-1), 1) := by decide +kernel
theorem dX7_soonest_27 : decode cX7_soonest 27 = .ok (.ireturn, 1) := by decide +kernel
theorem dX7_soonest_28 : decode cX7_soonest 28 = .ok (.iconst 0, 1) := by decide +kernel
theorem dX7_soonest_29 : decode cX7_soonest 29 = .ok (.istore_n 3, 1) := by decide +kernel
theorem dX7_soonest_30 : decode cX7_soonest 30 = .ok (.iload_n 3, 1) := by decide +kernel
theorem dX7_soonest_31 : decode cX7_soonest 31 = .ok (.bipush 6, 2) := by decide +kernel
theorem dX7_soonest_33 : decode cX7_soonest 33 = .ok (.if_icmp .ge 16, 3) := by decide +kernel
theorem dX7_soonest_36 : decode cX7_soonest 36 = .ok (.aload_n 0, 1) := by decide +kernel
theorem dX7_soonest_37 : decode cX7_soonest 37 = .ok (.getfield 74, 3) := by decide +kernel
theorem dX7_soonest_40 : decode cX7_soonest 40 = .ok (.iload_n 3, 1) := by decide +kernel
theorem dX7_soonest_41 : decode cX7_soonest 41 = .ok (.iconst 0, 1) := by decide +kernel
theorem dX7_soonest_42 : decode cX7_soonest 42 = .ok (.iastore, 1) := by decide +kernel
theorem dX7_soonest_43 : decode cX7_soonest 43 = .ok (.iinc 3 1, 3) := by decide +kernel
theorem dX7_soonest_46 : decode cX7_soonest 46 = .ok (.goto (-16), 3) := by decide +kernel
theorem dX7_soonest_49 : decode cX7_soonest 49 = .ok (.aload_n 0, 1) := by decide +kernel
theorem dX7_soonest_50 : decode cX7_soonest 50 = .ok (.iconst (-1), 1) := by decide +kernel
theorem dX7_soonest_51 : decode cX7_soonest 51 = .ok (.putfield 265, 3) := by decide +kernel
theorem dX7_soonest_54 : decode cX7_soonest 54 = .ok (.iconst 1, 1) := by decide +kernel
theorem dX7_soonest_55 : decode cX7_soonest 55 = .ok (.istore_n 3, 1) := by decide +kernel
theorem dX7_soonest_56 : decode cX7_soonest 56 = .ok (.iload_n 3, 1) := by decide +kernel
theorem dX7_soonest_57 : decode cX7_soonest 57 = .ok (.ifCond .eq 19, 3) := by decide +kernel
theorem dX7_soonest_60 : decode cX7_soonest 60 = .ok (.aload_n 0, 1) := by decide +kernel
theorem dX7_soonest_61 : decode cX7_soonest 61 = .ok (.invokevirtual 285, 3) := by decide +kernel
theorem dX7_soonest_64 : decode cX7_soonest 64 = .ok (.aload_n 0, 1) := by decide +kernel
theorem dX7_soonest_65 : decode cX7_soonest 65 = .ok (.invokevirtual 288, 3) := by decide +kernel
theorem dX7_soonest_68 : decode cX7_soonest 68 = .ok (.aload_n 0, 1) := by decide +kernel
theorem dX7_soonest_69 : decode cX7_soonest 69 = .ok (.invokevirtual 291, 3) := by decide +kernel
theorem dX7_soonest_72 : decode cX7_soonest 72 = .ok (.istore_n 3, 1) := by decide +kernel
theorem dX7_soonest_73 : decode cX7_soonest 73 = .ok (.goto (-17), 3) := by decide +kernel
theorem dX7_soonest_76 : decode cX7_soonest 76 = .ok (.iload_n 2, 1) := by decide +kernel
theorem dX7_soonest_77 : decode cX7_soonest 77 = .ok (.iconst (-1), 1) := by decide +kernel
theorem dX7_soonest_78 : decode cX7_soonest 78 = .ok (.if_icmp .ne 10, 3) := by decide +kernel
theorem dX7_soonest_81 : decode cX7_soonest 81 = .ok (.aload_n 0, 1) := by decide +kernel
theorem dX7_soonest_82 : decode cX7_soonest 82 = .ok (.getfield 265, 3) := by decide +kernel
theorem dX7_soonest_85 : decode cX7_soonest 85 = .ok (.goto 22, 3) := by decide +kernel
theorem dX7_soonest_88 : decode cX7_soonest 88 = .ok (.iload_n 2, 1) := by decide +kernel
theorem dX7_soonest_89 : decode cX7_soonest 89 = .ok (.bipush (-2), 2) := by decide +kernel
theorem dX7_soonest_91 : decode cX7_soonest 91 = .ok (.if_icmp .ne 10, 3) := by decide +kernel
theorem dX7_soonest_94 : decode cX7_soonest 94 = .ok (.aload_n 0, 1) := by decide +kernel
theorem dX7_soonest_95 : decode cX7_soonest 95 = .ok (.getfield 268, 3) := by decide +kernel
theorem dX7_soonest_98 : decode cX7_soonest 98 = .ok (.goto 9, 3) := by decide +kernel
theorem dX7_soonest_101 : decode cX7_soonest 101 = .ok (.aload_n 0, 1) := by decide +kernel
theorem dX7_soonest_102 : decode cX7_soonest 102 = .ok (.getfield 77, 3) := by decide +kernel
theorem dX7_soonest_105 : decode cX7_soonest 105 = .ok (.iload_n 2, 1) := by decide +kernel
theorem dX7_soonest_106 : decode cX7_soonest 106 = .ok (.iaload, 1) := by decide +kernel
theorem dX7_soonest_107 : decode cX7_soonest 107 = .ok (.ireturn, 1) := by decide +kernel
theorem dX7_goOrder_0 : decode cX7_goOrder 0 = .ok (.aload_n 0, 1) := by decide +kernel
theorem dX7_goOrder_1 : decode cX7_goOrder 1 = .ok (.invokevirtual 271, 3) := by decide +kernel
theorem dX7_goOrder_4 : decode cX7_goOrder 4 = .ok (.aload_n 0, 1) := by decide +kernel
theorem dX7_goOrder_5 : decode cX7_goOrder 5 = .ok (.getfield 259, 3) := by decide +kernel
theorem dX7_goOrder_8 : decode cX7_goOrder 8 = .ok (.istore_n 2, 1) := by decide +kernel
theorem dX7_goOrder_9 : decode cX7_goOrder 9 = .ok (.iconst 0, 1) := by decide +kernel
theorem dX7_goOrder_10 : decode cX7_goOrder 10 = .ok (.istore_n 3, 1) := by decide +kernel
theorem dX7_goOrder_11 : decode cX7_goOrder 11 = .ok (.iload_n 2, 1) := by decide +kernel
theorem dX7_goOrder_12 : decode cX7_goOrder 12 = .ok (.ifCond .le 158, 3) := by decide +kernel
theorem dX7_goOrder_15 : decode cX7_goOrder 15 = .ok (.iconst 0, 1) := by decide +kernel
theorem dX7_goOrder_16 : decode cX7_goOrder 16 = .ok (.istore 4, 2) := by decide +kernel
theorem dX7_goOrder_18 : decode cX7_goOrder 18 = .ok (.iconst 0, 1) := by decide +kernel
theorem dX7_goOrder_19 : decode cX7_goOrder 19 = .ok (.istore 5, 2) := by decide +kernel
theorem dX7_goOrder_21 : decode cX7_goOrder 21 = .ok (.iconst 0, 1) := by decide +kernel
theorem dX7_goOrder_22 : decode cX7_goOrder 22 = .ok (.istore 6, 2) := by decide +kernel
theorem dX7_goOrder_24 : decode cX7_goOrder 24 = .ok (.iload 6, 2) := by decide +kernel
theorem dX7_goOrder_26 : decode cX7_goOrder 26 = .ok (.aload_n 0, 1) := by decide +kernel
theorem dX7_goOrder_27 : decode cX7_goOrder 27 = .ok (.getfield 259, 3) := by decide +kernel
theorem dX7_goOrder_30 : decode cX7_goOrder 30 = .ok (.if_icmp .ge 102, 3) := by decide +kernel
theorem dX7_goOrder_33 : decode cX7_goOrder 33 = .ok (.aload_n 0, 1) := by decide +kernel
theorem dX7_goOrder_34 : decode cX7_goOrder 34 = .ok (.getfield 74, 3) := by decide +kernel
theorem dX7_goOrder_37 : decode cX7_goOrder 37 = .ok (.iload 6, 2) := by decide +kernel
theorem dX7_goOrder_39 : decode cX7_goOrder 39 = .ok (.iaload, 1) := by decide +kernel
theorem dX7_goOrder_40 : decode cX7_goOrder 40 = .ok (.istore 7, 2) := by decide +kernel
theorem dX7_goOrder_42 : decode cX7_goOrder 42 = .ok (.aload_n 0, 1) := by decide +kernel
theorem dX7_goOrder_43 : decode cX7_goOrder 43 = .ok (.getfield 80, 3) := by decide +kernel
theorem dX7_goOrder_46 : decode cX7_goOrder 46 = .ok (.iload 7, 2) := by decide +kernel
theorem dX7_goOrder_48 : decode cX7_goOrder 48 = .ok (.iaload, 1) := by decide +kernel
theorem dX7_goOrder_49 : decode cX7_goOrder 49 = .ok (.ifCond .ge 77, 3) := by decide +kernel
theorem dX7_goOrder_52 : decode cX7_goOrder 52 = .ok (.iload_n 3, 1) := by decide +kernel
theorem dX7_goOrder_53 : decode cX7_goOrder 53 = .ok (.iload 6, 2) := by decide +kernel
theorem dX7_goOrder_55 : decode cX7_goOrder 55 = .ok (.iload_n 1, 1) := by decide +kernel
theorem dX7_goOrder_56 : decode cX7_goOrder 56 = .ok (.imul, 1) := by decide +kernel
theorem dX7_goOrder_57 : decode cX7_goOrder 57 = .ok (.if_icmp .le 69, 3) := by decide +kernel
theorem dX7_goOrder_60 : decode cX7_goOrder 60 = .ok (.aload_n 0, 1) := by decide +kernel
theorem dX7_goOrder_61 : decode cX7_goOrder 61 = .ok (.iload 7, 2) := by decide +kernel
theorem dX7_goOrder_63 : decode cX7_goOrder 63 = .ok (.invokevirtual 274, 3) := by decide +kernel
theorem dX7_goOrder_66 : decode cX7_goOrder 66 = .ok (.aload_n 0, 1) := by decide +kernel
theorem dX7_goOrder_67 : decode cX7_goOrder 67 = .ok (.getfield 35, 3) := by decide +kernel
theorem dX7_goOrder_70 : decode cX7_goOrder 70 = .ok (.iload 7, 2) := by decide +kernel
theorem dX7_goOrder_72 : decode cX7_goOrder 72 = .ok (.iaload, 1) := by decide +kernel
theorem dX7_goOrder_73 : decode cX7_goOrder 73 = .ok (.iconst 1, 1) := by decide +kernel
theorem dX7_goOrder_74 : decode cX7_goOrder 74 = .ok (.if_icmp .ne 52, 3) := by decide +kernel
theorem dX7_goOrder_77 : decode cX7_goOrder 77 = .ok (.aload_n 0, 1) := by decide +kernel
theorem dX7_goOrder_78 : decode cX7_goOrder 78 = .ok (.getfield 80, 3) := by decide +kernel
theorem dX7_goOrder_81 : decode cX7_goOrder 81 = .ok (.iload 7, 2) := by decide +kernel
theorem dX7_goOrder_83 : decode cX7_goOrder 83 = .ok (.iload_n 3, 1) := by decide +kernel
theorem dX7_goOrder_84 : decode cX7_goOrder 84 = .ok (.iastore, 1) := by decide +kernel
theorem dX7_goOrder_85 : decode cX7_goOrder 85 = .ok (.iinc 2 (-1), 3) := by decide +kernel
theorem dX7_goOrder_88 : decode cX7_goOrder 88 = .ok (.iload 4, 2) := by decide +kernel
theorem dX7_goOrder_90 : decode cX7_goOrder 90 = .ok (.aload_n 0, 1) := by decide +kernel
theorem dX7_goOrder_91 : decode cX7_goOrder 91 = .ok (.iload 7, 2) := by decide +kernel
theorem dX7_goOrder_93 : decode cX7_goOrder 93 = .ok (.invokevirtual 277, 3) := by decide +kernel
theorem dX7_goOrder_96 : decode cX7_goOrder 96 = .ok (.ifCond .eq 7, 3) := by decide +kernel
theorem dX7_goOrder_99 : decode cX7_goOrder 99 = .ok (.iconst 0, 1) := by decide +kernel
theorem dX7_goOrder_100 : decode cX7_goOrder 100 = .ok (.goto 4, 3) := by decide +kernel
theorem dX7_goOrder_103 : decode cX7_goOrder 103 = .ok (.iconst 1, 1) := by decide +kernel
theorem dX7_goOrder_104 : decode cX7_goOrder 104 = .ok (.iadd, 1) := by decide +kernel
theorem dX7_goOrder_105 : decode cX7_goOrder 105 = .ok (.istore 4, 2) := by decide +kernel
theorem dX7_goOrder_107 : decode cX7_goOrder 107 = .ok (.iload 5, 2) := by decide +kernel
theorem dX7_goOrder_109 : decode cX7_goOrder 109 = .ok (.aload_n 0, 1) := by decide +kernel
theorem dX7_goOrder_110 : decode cX7_goOrder 110 = .ok (.iload 7, 2) := by decide +kernel
theorem dX7_goOrder_112 : decode cX7_goOrder 112 = .ok (.invokevirtual 277, 3) := by decide +kernel
theorem dX7_goOrder_115 : decode cX7_goOrder 115 = .ok (.ifCond .eq 7, 3) := by decide +kernel
theorem dX7_goOrder_118 : decode cX7_goOrder 118 = .ok (.iconst 1, 1) := by decide +kernel
theorem dX7_goOrder_119 : decode cX7_goOrder 119 = .ok (.goto 4, 3) := by decide +kernel
theorem dX7_goOrder_122 : decode cX7_goOrder 122 = .ok (.iconst 0, 1) := by decide +kernel
theorem dX7_goOrder_123 : decode cX7_goOrder 123 = .ok (.iadd, 1) := by decide +kernel
theorem dX7_goOrder_124 : decode cX7_goOrder 124 = .ok (.istore 5, 2) := by decide +kernel
theorem dX7_goOrder_126 : decode cX7_goOrder 126 = .ok (.iinc 6 1, 3) := by decide +kernel
theorem dX7_goOrder_129 : decode cX7_goOrder 129 = .ok (.goto (-105), 3) := by decide +kernel
theorem dX7_goOrder_132 : decode cX7_goOrder 132 = .ok (.aload_n 0, 1) := by decide +kernel
theorem dX7_goOrder_133 : decode cX7_goOrder 133 = .ok (.sipush 400, 3) := by decide +kernel
theorem dX7_goOrder_136 : decode cX7_goOrder 136 = .ok (.aload_n 0, 1) := by decide +kernel
theorem dX7_goOrder_137 : decode cX7_goOrder 137 = .ok (.getfield 191, 3) := by decide +kernel
theorem dX7_goOrder_140 : decode cX7_goOrder 140 = .ok (.aload_n 0, 1) := by decide +kernel
theorem dX7_goOrder_141 : decode cX7_goOrder 141 = .ok (.getfield 13, 3) := by decide +kernel
theorem dX7_goOrder_144 : decode cX7_goOrder 144 = .ok (.iconst 0, 1) := by decide +kernel
theorem dX7_goOrder_145 : decode cX7_goOrder 145 = .ok (.iaload, 1) := by decide +kernel
theorem dX7_goOrder_146 : decode cX7_goOrder 146 = .ok (.aload_n 0, 1) := by decide +kernel
theorem dX7_goOrder_147 : decode cX7_goOrder 147 = .ok (.iconst 0, 1) := by decide +kernel
theorem dX7_goOrder_148 : decode cX7_goOrder 148 = .ok (.iload_n 3, 1) := by decide +kernel
theorem dX7_goOrder_149 : decode cX7_goOrder 149 = .ok (.iload 4, 2) := by decide +kernel
theorem dX7_goOrder_151 : decode cX7_goOrder 151 = .ok (.iload 5, 2) := by decide +kernel
theorem dX7_goOrder_153 : decode cX7_goOrder 153 = .ok (.invokevirtual 209, 3) := by decide +kernel
theorem dX7_goOrder_156 : decode cX7_goOrder 156 = .ok (.imul, 1) := by decide +kernel
theorem dX7_goOrder_157 : decode cX7_goOrder 157 = .ok (.iadd, 1) := by decide +kernel
theorem dX7_goOrder_158 : decode cX7_goOrder 158 = .ok (.invokestatic 203, 3) := by decide +kernel
theorem dX7_goOrder_161 : decode cX7_goOrder 161 = .ok (.putfield 191, 3) := by decide +kernel
theorem dX7_goOrder_164 : decode cX7_goOrder 164 = .ok (.iinc 3 1, 3) := by decide +kernel
theorem dX7_goOrder_167 : decode cX7_goOrder 167 = .ok (.goto (-156), 3) := by decide +kernel
theorem dX7_goOrder_170 : decode cX7_goOrder 170 = .ok (.return_, 1) := by decide +kernel
theorem dX7_nextOrder_0 : decode cX7_nextOrder 0 = .ok (.aload_n 0, 1) := by decide +kernel
theorem dX7_nextOrder_1 : decode cX7_nextOrder 1 = .ok (.getfield 259, 3) := by decide +kernel
theorem dX7_nextOrder_4 : decode cX7_nextOrder 4 = .ok (.iconst 2, 1) := by decide +kernel
theorem dX7_nextOrder_5 : decode cX7_nextOrder 5 = .ok (.isub, 1) := by decide +kernel
theorem dX7_nextOrder_6 : decode cX7_nextOrder 6 = .ok (.istore_n 1, 1) := by decide +kernel
theorem dX7_nextOrder_7 : decode cX7_nextOrder 7 = .ok (.iload_n 1, 1) := by decide +kernel
theorem dX7_nextOrder_8 : decode cX7_nextOrder 8 = .ok (.ifCond .lt 26, 3) := by decide +kernel
theorem dX7_nextOrder_11 : decode cX7_nextOrder 11 = .ok (.aload_n 0, 1) := by decide +kernel
theorem dX7_nextOrder_12 : decode cX7_nextOrder 12 = .ok (.getfield 74, 3) := by decide +kernel
theorem dX7_nextOrder_15 : decode cX7_nextOrder 15 = .ok (.iload_n 1, 1) := by decide +kernel
theorem dX7_nextOrder_16 : decode cX7_nextOrder 16 = .ok (.iaload, 1) := by decide +kernel
theorem dX7_nextOrder_17 : decode cX7_nextOrder 17 = .ok (.aload_n 0, 1) := by decide +kernel
theorem dX7_nextOrder_18 : decode cX7_nextOrder 18 = .ok (.getfield 74, 3) := by decide +kernel
theorem dX7_nextOrder_21 : decode cX7_nextOrder 21 = .ok (.iload_n 1, 1) := by decide +kernel
theorem dX7_nextOrder_22 : decode cX7_nextOrder 22 = .ok (.iconst 1, 1) := by decide +kernel
theorem dX7_nextOrder_23 : decode cX7_nextOrder 23 = .ok (.iadd, 1) := by decide +kernel
theorem dX7_nextOrder_24 : decode cX7_nextOrder 24 = .ok (.iaload, 1) := by decide +kernel
theorem dX7_nextOrder_25 : decode cX7_nextOrder 25 = .ok (.if_icmp .le 9, 3) := by decide +kernel
theorem dX7_nextOrder_28 : decode cX7_nextOrder 28 = .ok (.iinc 1 (-1), 3) := by decide +kernel
theorem dX7_nextOrder_31 : decode cX7_nextOrder 31 = .ok (.goto (-24), 3) := by decide +kernel
theorem dX7_nextOrder_34 : decode cX7_nextOrder 34 = .ok (.iload_n 1, 1) := by decide +kernel
theorem dX7_nextOrder_35 : decode cX7_nextOrder 35 = .ok (.ifCond .ge 5, 3) := by decide +kernel
theorem dX7_nextOrder_38 : decode cX7_nextOrder 38 = .ok (.iconst 0, 1) := by decide +kernel
theorem dX7_nextOrder_39 : decode cX7_nextOrder 39 = .ok (.ireturn, 1) := by decide +kernel
theorem dX7_nextOrder_40 : decode cX7_nextOrder 40 = .ok (.aload_n 0, 1) := by decide +kernel
theorem dX7_nextOrder_41 : decode cX7_nextOrder 41 = .ok (.getfield 259, 3) := by decide +kernel
theorem dX7_nextOrder_44 : decode cX7_nextOrder 44 = .ok (.iconst 1, 1) := by decide +kernel
theorem dX7_nextOrder_45 : decode cX7_nextOrder 45 = .ok (.isub, 1) := by decide +kernel
theorem dX7_nextOrder_46 : decode cX7_nextOrder 46 = .ok (.istore_n 2, 1) := by decide +kernel
theorem dX7_nextOrder_47 : decode cX7_nextOrder 47 = .ok (.aload_n 0, 1) := by decide +kernel
theorem dX7_nextOrder_48 : decode cX7_nextOrder 48 = .ok (.getfield 74, 3) := by decide +kernel
theorem dX7_nextOrder_51 : decode cX7_nextOrder 51 = .ok (.iload_n 2, 1) := by decide +kernel
theorem dX7_nextOrder_52 : decode cX7_nextOrder 52 = .ok (.iaload, 1) := by decide +kernel
theorem dX7_nextOrder_53 : decode cX7_nextOrder 53 = .ok (.aload_n 0, 1) := by decide +kernel
theorem dX7_nextOrder_54 : decode cX7_nextOrder 54 = .ok (.getfield 74, 3) := by decide +kernel
theorem dX7_nextOrder_57 : decode cX7_nextOrder 57 = .ok (.iload_n 1, 1) := by decide +kernel
theorem dX7_nextOrder_58 : decode cX7_nextOrder 58 = .ok (.iaload, 1) := by decide +kernel
theorem dX7_nextOrder_59 : decode cX7_nextOrder 59 = .ok (.if_icmp .ge 9, 3) := by decide +kernel
theorem dX7_nextOrder_62 : decode cX7_nextOrder 62 = .ok (.iinc 2 (-1), 3) := by decide +kernel
theorem dX7_nextOrder_65 : decode cX7_nextOrder 65 = .ok (.goto (-18), 3) := by decide +kernel
theorem dX7_nextOrder_68 : decode cX7_nextOrder 68 = .ok (.aload_n 0, 1) := by decide +kernel
theorem dX7_nextOrder_69 : decode cX7_nextOrder 69 = .ok (.getfield 74, 3) := by decide +kernel
theorem dX7_nextOrder_72 : decode cX7_nextOrder 72 = .ok (.iload_n 1, 1) := by decide +kernel
theorem dX7_nextOrder_73 : decode cX7_nextOrder 73 = .ok (.iaload, 1) := by decide +kernel
theorem dX7_nextOrder_74 : decode cX7_nextOrder 74 = .ok (.istore_n 3, 1) := by decide +kernel
theorem dX7_nextOrder_75 : decode cX7_nextOrder 75 = .ok (.aload_n 0, 1) := by decide +kernel
theorem dX7_nextOrder_76 : decode cX7_nextOrder 76 = .ok (.getfield 74, 3) := by decide +kernel
theorem dX7_nextOrder_79 : decode cX7_nextOrder 79 = .ok (.iload_n 1, 1) := by decide +kernel
theorem dX7_nextOrder_80 : decode cX7_nextOrder 80 = .ok (.aload_n 0, 1) := by decide +kernel
theorem dX7_nextOrder_81 : decode cX7_nextOrder 81 = .ok (.getfield 74, 3) := by decide +kernel
theorem dX7_nextOrder_84 : decode cX7_nextOrder 84 = .ok (.iload_n 2, 1) := by decide +kernel
theorem dX7_nextOrder_85 : decode cX7_nextOrder 85 = .ok (.iaload, 1) := by decide +kernel
theorem dX7_nextOrder_86 : decode cX7_nextOrder 86 = .ok (.iastore, 1) := by decide +kernel
theorem dX7_nextOrder_87 : decode cX7_nextOrder 87 = .ok (.aload_n 0, 1) := by decide +kernel
theorem dX7_nextOrder_88 : decode cX7_nextOrder 88 = .ok (.getfield 74, 3) := by decide +kernel
theorem dX7_nextOrder_91 : decode cX7_nextOrder 91 = .ok (.iload_n 2, 1) := by decide +kernel
theorem dX7_nextOrder_92 : decode cX7_nextOrder 92 = .ok (.iload_n 3, 1) := by decide +kernel
theorem dX7_nextOrder_93 : decode cX7_nextOrder 93 = .ok (.iastore, 1) := by decide +kernel
theorem dX7_nextOrder_94 : decode cX7_nextOrder 94 = .ok (.iload_n 1, 1) := by decide +kernel
theorem dX7_nextOrder_95 : decode cX7_nextOrder 95 = .ok (.iconst 1, 1) := by decide +kernel
theorem dX7_nextOrder_96 : decode cX7_nextOrder 96 = .ok (.iadd, 1) := by decide +kernel
theorem dX7_nextOrder_97 : decode cX7_nextOrder 97 = .ok (.istore 4, 2) := by decide +kernel
theorem dX7_nextOrder_99 : decode cX7_nextOrder 99 = .ok (.aload_n 0, 1) := by decide +kernel
theorem dX7_nextOrder_100 : decode cX7_nextOrder 100 = .ok (.getfield 259, 3) := by decide +kernel
theorem dX7_nextOrder_103 : decode cX7_nextOrder 103 = .ok (.iconst 1, 1) := by decide +kernel
theorem dX7_nextOrder_104 : decode cX7_nextOrder 104 = .ok (.isub, 1) := by decide +kernel
theorem dX7_nextOrder_105 : decode cX7_nextOrder 105 = .ok (.istore 5, 2) := by decide +kernel
theorem dX7_nextOrder_107 : decode cX7_nextOrder 107 = .ok (.iload 4, 2) := by decide +kernel
theorem dX7_nextOrder_109 : decode cX7_nextOrder 109 = .ok (.iload 5, 2) := by decide +kernel
theorem dX7_nextOrder_111 : decode cX7_nextOrder 111 = .ok (.if_icmp .ge 42, 3) := by decide +kernel
theorem dX7_nextOrder_114 : decode cX7_nextOrder 114 = .ok (.aload_n 0, 1) := by decide +kernel
theorem dX7_nextOrder_115 : decode cX7_nextOrder 115 = .ok (.getfield 74, 3) := by decide +kernel
theorem dX7_nextOrder_118 : decode cX7_nextOrder 118 = .ok (.iload 4, 2) := by decide +kernel
theorem dX7_nextOrder_120 : decode cX7_nextOrder 120 = .ok (.iaload, 1) := by decide +kernel
theorem dX7_nextOrder_121 : decode cX7_nextOrder 121 = .ok (.istore_n 3, 1) := by decide +kernel
theorem dX7_nextOrder_122 : decode cX7_nextOrder 122 = .ok (.aload_n 0, 1) := by decide +kernel
theorem dX7_nextOrder_123 : decode cX7_nextOrder 123 = .ok (.getfield 74, 3) := by decide +kernel
theorem dX7_nextOrder_126 : decode cX7_nextOrder 126 = .ok (.iload 4, 2) := by decide +kernel
theorem dX7_nextOrder_128 : decode cX7_nextOrder 128 = .ok (.aload_n 0, 1) := by decide +kernel
theorem dX7_nextOrder_129 : decode cX7_nextOrder 129 = .ok (.getfield 74, 3) := by decide +kernel
theorem dX7_nextOrder_132 : decode cX7_nextOrder 132 = .ok (.iload 5, 2) := by decide +kernel
theorem dX7_nextOrder_134 : decode cX7_nextOrder 134 = .ok (.iaload, 1) := by decide +kernel
theorem dX7_nextOrder_135 : decode cX7_nextOrder 135 = .ok (.iastore, 1) := by decide +kernel
theorem dX7_nextOrder_136 : decode cX7_nextOrder 136 = .ok (.aload_n 0, 1) := by decide +kernel
theorem dX7_nextOrder_137 : decode cX7_nextOrder 137 = .ok (.getfield 74, 3) := by decide +kernel
theorem dX7_nextOrder_140 : decode cX7_nextOrder 140 = .ok (.iload 5, 2) := by decide +kernel
theorem dX7_nextOrder_142 : decode cX7_nextOrder 142 = .ok (.iload_n 3, 1) := by decide +kernel
theorem dX7_nextOrder_143 : decode cX7_nextOrder 143 = .ok (.iastore, 1) := by decide +kernel
theorem dX7_nextOrder_144 : decode cX7_nextOrder 144 = .ok (.iinc 4 1, 3) := by decide +kernel
theorem dX7_nextOrder_147 : decode cX7_nextOrder 147 = .ok (.iinc 5 (-1), 3) := by decide +kernel
theorem dX7_nextOrder_150 : decode cX7_nextOrder 150 = .ok (.goto (-43), 3) := by decide +kernel
theorem dX7_nextOrder_153 : decode cX7_nextOrder 153 = .ok (.iconst 1, 1) := by decide +kernel
theorem dX7_nextOrder_154 : decode cX7_nextOrder 154 = .ok (.ireturn, 1) := by decide +kernel
theorem dX7_order_0 : decode cX7_order 0 = .ok (.aload_n 0, 1) := by decide +kernel
theorem dX7_order_1 : decode cX7_order 1 = .ok (.iload_n 1, 1) := by decide +kernel
theorem dX7_order_2 : decode cX7_order 2 = .ok (.invokevirtual 280, 3) := by decide +kernel
theorem dX7_order_5 : decode cX7_order 5 = .ok (.ifCond .eq 33, 3) := by decide +kernel
theorem dX7_order_8 : decode cX7_order 8 = .ok (.iload_n 2, 1) := by decide +kernel
theorem dX7_order_9 : decode cX7_order 9 = .ok (.i2l, 1) := by decide +kernel
theorem dX7_order_10 : decode cX7_order 10 = .ok (.lconst 0, 1) := by decide +kernel
theorem dX7_order_11 : decode cX7_order 11 = .ok (.ldc2_w 143, 3) := by decide +kernel
theorem dX7_order_14 : decode cX7_order 14 = .ok (.invokestatic 101, 3) := by decide +kernel
theorem dX7_order_17 : decode cX7_order 17 = .ok (.ifCond .eq 21, 3) := by decide +kernel
theorem dX7_order_20 : decode cX7_order 20 = .ok (.iload_n 3, 1) := by decide +kernel
theorem dX7_order_21 : decode cX7_order 21 = .ok (.i2l, 1) := by decide +kernel
theorem dX7_order_22 : decode cX7_order 22 = .ok (.ldc2_w 283, 3) := by decide +kernel
theorem dX7_order_25 : decode cX7_order 25 = .ok (.aload_n 0, 1) := by decide +kernel
theorem dX7_order_26 : decode cX7_order 26 = .ok (.getfield 259, 3) := by decide +kernel
theorem dX7_order_29 : decode cX7_order 29 = .ok (.iconst 1, 1) := by decide +kernel
theorem dX7_order_30 : decode cX7_order 30 = .ok (.isub, 1) := by decide +kernel
theorem dX7_order_31 : decode cX7_order 31 = .ok (.i2l, 1) := by decide +kernel
theorem dX7_order_32 : decode cX7_order 32 = .ok (.invokestatic 101, 3) := by decide +kernel
theorem dX7_order_35 : decode cX7_order 35 = .ok (.ifCond .ne 5, 3) := by decide +kernel
theorem dX7_order_38 : decode cX7_order 38 = .ok (.iconst (-1), 1) := by decide +kernel
theorem dX7_order_39 : decode cX7_order 39 = .ok (.ireturn, 1) := by decide +kernel
theorem dX7_order_40 : decode cX7_order 40 = .ok (.iconst 0, 1) := by decide +kernel
theorem dX7_order_41 : decode cX7_order 41 = .ok (.istore 4, 2) := by decide +kernel
theorem dX7_order_43 : decode cX7_order 43 = .ok (.iload 4, 2) := by decide +kernel
theorem dX7_order_45 : decode cX7_order 45 = .ok (.bipush 6, 2) := by decide +kernel
theorem dX7_order_47 : decode cX7_order 47 = .ok (.if_icmp .ge 18, 3) := by decide +kernel
theorem dX7_order_50 : decode cX7_order 50 = .ok (.aload_n 0, 1) := by decide +kernel
theorem dX7_order_51 : decode cX7_order 51 = .ok (.getfield 74, 3) := by decide +kernel
theorem dX7_order_54 : decode cX7_order 54 = .ok (.iload 4, 2) := by decide +kernel
theorem dX7_order_56 : decode cX7_order 56 = .ok (.iload 4, 2) := by decide +kernel
theorem dX7_order_58 : decode cX7_order 58 = .ok (.iastore, 1) := by decide +kernel
theorem dX7_order_59 : decode cX7_order 59 = .ok (.iinc 4 1, 3) := by decide +kernel
theorem dX7_order_62 : decode cX7_order 62 = .ok (.goto (-19), 3) := by decide +kernel
theorem dX7_order_65 : decode cX7_order 65 = .ok (.aload_n 0, 1) := by decide +kernel
theorem dX7_order_66 : decode cX7_order 66 = .ok (.iconst (-1), 1) := by decide +kernel
theorem dX7_order_67 : decode cX7_order 67 = .ok (.putfield 265, 3) := by decide +kernel
theorem dX7_order_70 : decode cX7_order 70 = .ok (.iconst 1, 1) := by decide +kernel
theorem dX7_order_71 : decode cX7_order 71 = .ok (.istore 4, 2) := by decide +kernel
theorem dX7_order_73 : decode cX7_order 73 = .ok (.iload 4, 2) := by decide +kernel
theorem dX7_order_75 : decode cX7_order 75 = .ok (.ifCond .eq 21, 3) := by decide +kernel
theorem dX7_order_78 : decode cX7_order 78 = .ok (.aload_n 0, 1) := by decide +kernel
theorem dX7_order_79 : decode cX7_order 79 = .ok (.iload_n 2, 1) := by decide +kernel
theorem dX7_order_80 : decode cX7_order 80 = .ok (.invokevirtual 294, 3) := by decide +kernel
theorem dX7_order_83 : decode cX7_order 83 = .ok (.aload_n 0, 1) := by decide +kernel
theorem dX7_order_84 : decode cX7_order 84 = .ok (.invokevirtual 288, 3) := by decide +kernel
theorem dX7_order_87 : decode cX7_order 87 = .ok (.aload_n 0, 1) := by decide +kernel
theorem dX7_order_88 : decode cX7_order 88 = .ok (.invokevirtual 297, 3) := by decide +kernel
theorem dX7_order_91 : decode cX7_order 91 = .ok (.istore 4, 2) := by decide +kernel
theorem dX7_order_93 : decode cX7_order 93 = .ok (.goto (-20), 3) := by decide +kernel
theorem dX7_order_96 : decode cX7_order 96 = .ok (.iload_n 3, 1) := by decide +kernel
theorem dX7_order_97 : decode cX7_order 97 = .ok (.iconst (-1), 1) := by decide +kernel
theorem dX7_order_98 : decode cX7_order 98 = .ok (.if_icmp .ne 10, 3) := by decide +kernel
theorem dX7_order_101 : decode cX7_order 101 = .ok (.aload_n 0, 1) := by decide +kernel
theorem dX7_order_102 : decode cX7_order 102 = .ok (.getfield 265, 3) := by decide +kernel
theorem dX7_order_105 : decode cX7_order 105 = .ok (.goto 27, 3) := by decide +kernel
theorem dX7_order_108 : decode cX7_order 108 = .ok (.iload_n 3, 1) := by decide +kernel
theorem dX7_order_109 : decode cX7_order 109 = .ok (.bipush (-2), 2) := by decide +kernel
theorem dX7_order_111 : decode cX7_order 111 = .ok (.if_icmp .ne 10, 3) := by decide +kernel
theorem dX7_order_114 : decode cX7_order 114 = .ok (.aload_n 0, 1) := by decide +kernel
theorem dX7_order_115 : decode cX7_order 115 = .ok (.getfield 268, 3) := by decide +kernel
theorem dX7_order_118 : decode cX7_order 118 = .ok (.goto 14, 3) := by decide +kernel
theorem dX7_order_121 : decode cX7_order 121 = .ok (.aload_n 0, 1) := by decide +kernel
theorem dX7_order_122 : decode cX7_order 122 = .ok (.getfield 71, 3) := by decide +kernel
theorem dX7_order_125 : decode cX7_order 125 = .ok (.aload_n 0, 1) := by decide +kernel
theorem dX7_order_126 : decode cX7_order 126 = .ok (.getfield 77, 3) := by decide +kernel
theorem dX7_order_129 : decode cX7_order 129 = .ok (.iload_n 3, 1) := by decide +kernel
theorem dX7_order_130 : decode cX7_order 130 = .ok (.iaload, 1) := by decide +kernel
theorem dX7_order_131 : decode cX7_order 131 = .ok (.iaload, 1) := by decide +kernel
theorem dX7_order_132 : decode cX7_order 132 = .ok (.ireturn, 1) := by decide +kernel
theorem dX7_sumIf_0 : decode cX7_sumIf 0 = .ok (.aload_n 0, 1) := by decide +kernel
theorem dX7_sumIf_1 : decode cX7_sumIf 1 = .ok (.invokevirtual 237, 3) := by decide +kernel
theorem dX7_sumIf_4 : decode cX7_sumIf 4 = .ok (.aload_n 0, 1) := by decide +kernel
theorem dX7_sumIf_5 : decode cX7_sumIf 5 = .ok (.getfield 59, 3) := by decide +kernel
theorem dX7_sumIf_8 : decode cX7_sumIf 8 = .ok (.iload_n 1, 1) := by decide +kernel
theorem dX7_sumIf_9 : decode cX7_sumIf 9 = .ok (.iload_n 2, 1) := by decide +kernel
theorem dX7_sumIf_10 : decode cX7_sumIf 10 = .ok (.iastore, 1) := by decide +kernel
theorem dX7_sumIf_11 : decode cX7_sumIf 11 = .ok (.aload_n 0, 1) := by decide +kernel
theorem dX7_sumIf_12 : decode cX7_sumIf 12 = .ok (.sipush 999, 3) := by decide +kernel
theorem dX7_sumIf_15 : decode cX7_sumIf 15 = .ok (.invokevirtual 240, 3) := by decide +kernel
theorem dX7_sumIf_18 : decode cX7_sumIf 18 = .ok (.aload_n 0, 1) := by decide +kernel
theorem dX7_sumIf_19 : decode cX7_sumIf 19 = .ok (.invokevirtual 253, 3) := by decide +kernel
theorem dX7_sumIf_22 : decode cX7_sumIf 22 = .ok (.ireturn, 1) := by decide +kernel
theorem dX7_worth_0 : decode cX7_worth 0 = .ok (.aload_n 0, 1) := by decide +kernel
theorem dX7_worth_1 : decode cX7_worth 1 = .ok (.iload_n 1, 1) := by decide +kernel
theorem dX7_worth_2 : decode cX7_worth 2 = .ok (.invokevirtual 136, 3) := by decide +kernel
theorem dX7_worth_5 : decode cX7_worth 5 = .ok (.ifCond .eq 16, 3) := by decide +kernel
theorem dX7_worth_8 : decode cX7_worth 8 = .ok (.aload_n 0, 1) := by decide +kernel
theorem dX7_worth_9 : decode cX7_worth 9 = .ok (.iload_n 2, 1) := by decide +kernel
theorem dX7_worth_10 : decode cX7_worth 10 = .ok (.invokevirtual 136, 3) := by decide +kernel
theorem dX7_worth_13 : decode cX7_worth 13 = .ok (.ifCond .eq 8, 3) := by decide +kernel
theorem dX7_worth_16 : decode cX7_worth 16 = .ok (.iload_n 1, 1) := by decide +kernel
theorem dX7_worth_17 : decode cX7_worth 17 = .ok (.iload_n 2, 1) := by decide +kernel
theorem dX7_worth_18 : decode cX7_worth 18 = .ok (.if_icmp .ne 7, 3) := by decide +kernel
theorem dX7_worth_21 : decode cX7_worth 21 = .ok (.ldc_w 300, 3) := by decide +kernel
theorem dX7_worth_24 : decode cX7_worth 24 = .ok (.ireturn, 1) := by decide +kernel
theorem dX7_worth_25 : decode cX7_worth 25 = .ok (.aload_n 0, 1) := by decide +kernel
theorem dX7_worth_26 : decode cX7_worth 26 = .ok (.invokevirtual 245, 3) := by decide +kernel
theorem dX7_worth_29 : decode cX7_worth 29 = .ok (.aload_n 0, 1) := by decide +kernel
theorem dX7_worth_30 : decode cX7_worth 30 = .ok (.invokevirtual 253, 3) := by decide +kernel
theorem dX7_worth_33 : decode cX7_worth 33 = .ok (.istore_n 3, 1) := by decide +kernel
theorem dX7_worth_34 : decode cX7_worth 34 = .ok (.iload_n 3, 1) := by decide +kernel
theorem dX7_worth_35 : decode cX7_worth 35 = .ok (.aload_n 0, 1) := by decide +kernel
theorem dX7_worth_36 : decode cX7_worth 36 = .ok (.iload_n 1, 1) := by decide +kernel
theorem dX7_worth_37 : decode cX7_worth 37 = .ok (.iload_n 2, 1) := by decide +kernel
theorem dX7_worth_38 : decode cX7_worth 38 = .ok (.invokevirtual 301, 3) := by decide +kernel
theorem dX7_worth_41 : decode cX7_worth 41 = .ok (.isub, 1) := by decide +kernel
theorem dX7_worth_42 : decode cX7_worth 42 = .ok (.ireturn, 1) := by decide +kernel
theorem dX7_waits_0 : decode cX7_waits 0 = .ok (.iload_n 1, 1) := by decide +kernel
theorem dX7_waits_1 : decode cX7_waits 1 = .ok (.i2l, 1) := by decide +kernel
theorem dX7_waits_2 : decode cX7_waits 2 = .ok (.lconst 0, 1) := by decide +kernel
theorem dX7_waits_3 : decode cX7_waits 3 = .ok (.lconst 1, 1) := by decide +kernel
theorem dX7_waits_4 : decode cX7_waits 4 = .ok (.invokestatic 101, 3) := by decide +kernel
theorem dX7_waits_7 : decode cX7_waits 7 = .ok (.ifCond .ne 5, 3) := by decide +kernel
theorem dX7_waits_10 : decode cX7_waits 10 = .ok (.iconst (-1), 1) := by decide +kernel
theorem dX7_waits_11 : decode cX7_waits 11 = .ok (.ireturn, 1) := by decide +kernel
theorem dX7_waits_12 : decode cX7_waits 12 = .ok (.aload_n 0, 1) := by decide +kernel
theorem dX7_waits_13 : decode cX7_waits 13 = .ok (.getfield 98, 3) := by decide +kernel
theorem dX7_waits_16 : decode cX7_waits 16 = .ok (.iconst 2, 1) := by decide +kernel
theorem dX7_waits_17 : decode cX7_waits 17 = .ok (.if_icmp .ge 6, 3) := by decide +kernel
theorem dX7_waits_20 : decode cX7_waits 20 = .ok (.bipush (-2), 2) := by decide +kernel
theorem dX7_waits_22 : decode cX7_waits 22 = .ok (.ireturn, 1) := by decide +kernel
theorem dX7_waits_23 : decode cX7_waits 23 = .ok (.iconst (-1), 1) := by decide +kernel
theorem dX7_waits_24 : decode cX7_waits 24 = .ok (.istore_n 2, 1) := by decide +kernel
theorem dX7_waits_25 : decode cX7_waits 25 = .ok (.iconst 0, 1) := by decide +kernel
theorem dX7_waits_26 : decode cX7_waits 26 = .ok (.istore_n 3, 1) := by decide +kernel
theorem dX7_waits_27 : decode cX7_waits 27 = .ok (.iconst 0, 1) := by decide +kernel
theorem dX7_waits_28 : decode cX7_waits 28 = .ok (.istore 4, 2) := by decide +kernel
theorem dX7_waits_30 : decode cX7_waits 30 = .ok (.iload 4, 2) := by decide +kernel
theorem dX7_waits_32 : decode cX7_waits 32 = .ok (.aload_n 0, 1) := by decide +kernel
theorem dX7_waits_33 : decode cX7_waits 33 = .ok (.getfield 98, 3) := by decide +kernel
theorem dX7_waits_36 : decode cX7_waits 36 = .ok (.aload_n 0, 1) := by decide +kernel
theorem dX7_waits_37 : decode cX7_waits 37 = .ok (.getfield 98, 3) := by decide +kernel
theorem dX7_waits_40 : decode cX7_waits 40 = .ok (.imul, 1) := by decide +kernel
theorem dX7_waits_41 : decode cX7_waits 41 = .ok (.if_icmp .ge 62, 3) := by decide +kernel
theorem dX7_waits_44 : decode cX7_waits 44 = .ok (.iload 4, 2) := by decide +kernel
theorem dX7_waits_46 : decode cX7_waits 46 = .ok (.aload_n 0, 1) := by decide +kernel
theorem dX7_waits_47 : decode cX7_waits 47 = .ok (.getfield 98, 3) := by decide +kernel
theorem dX7_waits_50 : decode cX7_waits 50 = .ok (.idiv, 1) := by decide +kernel
theorem dX7_waits_51 : decode cX7_waits 51 = .ok (.iload 4, 2) := by decide +kernel
theorem dX7_waits_53 : decode cX7_waits 53 = .ok (.aload_n 0, 1) := by decide +kernel
theorem dX7_waits_54 : decode cX7_waits 54 = .ok (.getfield 98, 3) := by decide +kernel
theorem dX7_waits_57 : decode cX7_waits 57 = .ok (.irem, 1) := by decide +kernel
theorem dX7_waits_58 : decode cX7_waits 58 = .ok (.if_icmp .eq 39, 3) := by decide +kernel
theorem dX7_waits_61 : decode cX7_waits 61 = .ok (.aload_n 0, 1) := by decide +kernel
theorem dX7_waits_62 : decode cX7_waits 62 = .ok (.iload 4, 2) := by decide +kernel
theorem dX7_waits_64 : decode cX7_waits 64 = .ok (.aload_n 0, 1) := by decide +kernel
theorem dX7_waits_65 : decode cX7_waits 65 = .ok (.getfield 98, 3) := by decide +kernel
theorem dX7_waits_68 : decode cX7_waits 68 = .ok (.idiv, 1) := by decide +kernel
theorem dX7_waits_69 : decode cX7_waits 69 = .ok (.iload 4, 2) := by decide +kernel
theorem dX7_waits_71 : decode cX7_waits 71 = .ok (.aload_n 0, 1) := by decide +kernel
theorem dX7_waits_72 : decode cX7_waits 72 = .ok (.getfield 98, 3) := by decide +kernel
theorem dX7_waits_75 : decode cX7_waits 75 = .ok (.irem, 1) := by decide +kernel
theorem dX7_waits_76 : decode cX7_waits 76 = .ok (.invokevirtual 301, 3) := by decide +kernel
theorem dX7_waits_79 : decode cX7_waits 79 = .ok (.istore 5, 2) := by decide +kernel
theorem dX7_waits_81 : decode cX7_waits 81 = .ok (.iload_n 2, 1) := by decide +kernel
theorem dX7_waits_82 : decode cX7_waits 82 = .ok (.ifCond .lt 9, 3) := by decide +kernel
theorem dX7_waits_85 : decode cX7_waits 85 = .ok (.iload 5, 2) := by decide +kernel
theorem dX7_waits_87 : decode cX7_waits 87 = .ok (.iload_n 3, 1) := by decide +kernel
theorem dX7_waits_88 : decode cX7_waits 88 = .ok (.if_icmp .ge 9, 3) := by decide +kernel
theorem dX7_waits_91 : decode cX7_waits 91 = .ok (.iload 4, 2) := by decide +kernel
theorem dX7_waits_93 : decode cX7_waits 93 = .ok (.istore_n 2, 1) := by decide +kernel
theorem dX7_waits_94 : decode cX7_waits 94 = .ok (.iload 5, 2) := by decide +kernel
theorem dX7_waits_96 : decode cX7_waits 96 = .ok (.istore_n 3, 1) := by decide +kernel
theorem dX7_waits_97 : decode cX7_waits 97 = .ok (.iinc 4 1, 3) := by decide +kernel
theorem dX7_waits_100 : decode cX7_waits 100 = .ok (.goto (-70), 3) := by decide +kernel
theorem dX7_waits_103 : decode cX7_waits 103 = .ok (.iload_n 1, 1) := by decide +kernel
theorem dX7_waits_104 : decode cX7_waits 104 = .ok (.ifCond .ne 12, 3) := by decide +kernel
theorem dX7_waits_107 : decode cX7_waits 107 = .ok (.iload_n 2, 1) := by decide +kernel
theorem dX7_waits_108 : decode cX7_waits 108 = .ok (.aload_n 0, 1) := by decide +kernel
theorem dX7_waits_109 : decode cX7_waits 109 = .ok (.getfield 98, 3) := by decide +kernel
theorem dX7_waits_112 : decode cX7_waits 112 = .ok (.idiv, 1) := by decide +kernel
theorem dX7_waits_113 : decode cX7_waits 113 = .ok (.goto 9, 3) := by decide +kernel
theorem dX7_waits_116 : decode cX7_waits 116 = .ok (.iload_n 2, 1) := by decide +kernel
theorem dX7_waits_117 : decode cX7_waits 117 = .ok (.aload_n 0, 1) := by decide +kernel
theorem dX7_waits_118 : decode cX7_waits 118 = .ok (.getfield 98, 3) := by decide +kernel
theorem dX7_waits_121 : decode cX7_waits 121 = .ok (.irem, 1) := by decide +kernel
theorem dX7_waits_122 : decode cX7_waits 122 = .ok (.ireturn, 1) := by decide +kernel
theorem dX7_handed_0 : decode cX7_handed 0 = .ok (.aload_n 0, 1) := by decide +kernel
theorem dX7_handed_1 : decode cX7_handed 1 = .ok (.iload_n 1, 1) := by decide +kernel
theorem dX7_handed_2 : decode cX7_handed 2 = .ok (.invokevirtual 136, 3) := by decide +kernel
theorem dX7_handed_5 : decode cX7_handed 5 = .ok (.ifCond .eq 36, 3) := by decide +kernel
theorem dX7_handed_8 : decode cX7_handed 8 = .ok (.aload_n 0, 1) := by decide +kernel
theorem dX7_handed_9 : decode cX7_handed 9 = .ok (.iload_n 2, 1) := by decide +kernel
theorem dX7_handed_10 : decode cX7_handed 10 = .ok (.invokevirtual 136, 3) := by decide +kernel
theorem dX7_handed_13 : decode cX7_handed 13 = .ok (.ifCond .eq 28, 3) := by decide +kernel
theorem dX7_handed_16 : decode cX7_handed 16 = .ok (.aload_n 0, 1) := by decide +kernel
theorem dX7_handed_17 : decode cX7_handed 17 = .ok (.getfield 7, 3) := by decide +kernel
theorem dX7_handed_20 : decode cX7_handed 20 = .ok (.bipush 7, 2) := by decide +kernel
theorem dX7_handed_22 : decode cX7_handed 22 = .ok (.iload_n 1, 1) := by decide +kernel
theorem dX7_handed_23 : decode cX7_handed 23 = .ok (.imul, 1) := by decide +kernel
theorem dX7_handed_24 : decode cX7_handed 24 = .ok (.iconst 1, 1) := by decide +kernel
theorem dX7_handed_25 : decode cX7_handed 25 = .ok (.iadd, 1) := by decide +kernel
theorem dX7_handed_26 : decode cX7_handed 26 = .ok (.iaload, 1) := by decide +kernel
theorem dX7_handed_27 : decode cX7_handed 27 = .ok (.aload_n 0, 1) := by decide +kernel
theorem dX7_handed_28 : decode cX7_handed 28 = .ok (.getfield 7, 3) := by decide +kernel
theorem dX7_handed_31 : decode cX7_handed 31 = .ok (.bipush 7, 2) := by decide +kernel
theorem dX7_handed_33 : decode cX7_handed 33 = .ok (.iload_n 2, 1) := by decide +kernel
theorem dX7_handed_34 : decode cX7_handed 34 = .ok (.imul, 1) := by decide +kernel
theorem dX7_handed_35 : decode cX7_handed 35 = .ok (.iconst 1, 1) := by decide +kernel
theorem dX7_handed_36 : decode cX7_handed 36 = .ok (.iadd, 1) := by decide +kernel
theorem dX7_handed_37 : decode cX7_handed 37 = .ok (.iaload, 1) := by decide +kernel
theorem dX7_handed_38 : decode cX7_handed 38 = .ok (.if_icmp .ne 5, 3) := by decide +kernel
theorem dX7_handed_41 : decode cX7_handed 41 = .ok (.iconst (-1), 1) := by decide +kernel
theorem dX7_handed_42 : decode cX7_handed 42 = .ok (.ireturn, 1) := by decide +kernel
theorem dX7_handed_43 : decode cX7_handed 43 = .ok (.aload_n 0, 1) := by decide +kernel
theorem dX7_handed_44 : decode cX7_handed 44 = .ok (.iload_n 1, 1) := by decide +kernel
theorem dX7_handed_45 : decode cX7_handed 45 = .ok (.invokevirtual 140, 3) := by decide +kernel
theorem dX7_handed_48 : decode cX7_handed 48 = .ok (.aload_n 0, 1) := by decide +kernel
theorem dX7_handed_49 : decode cX7_handed 49 = .ok (.iload_n 2, 1) := by decide +kernel
theorem dX7_handed_50 : decode cX7_handed 50 = .ok (.invokevirtual 140, 3) := by decide +kernel
theorem dX7_handed_53 : decode cX7_handed 53 = .ok (.iadd, 1) := by decide +kernel
theorem dX7_handed_54 : decode cX7_handed 54 = .ok (.istore_n 3, 1) := by decide +kernel
theorem dX7_handed_55 : decode cX7_handed 55 = .ok (.iconst 2, 1) := by decide +kernel
theorem dX7_handed_56 : decode cX7_handed 56 = .ok (.aload_n 0, 1) := by decide +kernel
theorem dX7_handed_57 : decode cX7_handed 57 = .ok (.getfield 16, 3) := by decide +kernel
theorem dX7_handed_60 : decode cX7_handed 60 = .ok (.iload_n 3, 1) := by decide +kernel
theorem dX7_handed_61 : decode cX7_handed 61 = .ok (.iadd, 1) := by decide +kernel
theorem dX7_handed_62 : decode cX7_handed 62 = .ok (.iconst 1, 1) := by decide +kernel
theorem dX7_handed_63 : decode cX7_handed 63 = .ok (.isub, 1) := by decide +kernel
theorem dX7_handed_64 : decode cX7_handed 64 = .ok (.iload_n 3, 1) := by decide +kernel
theorem dX7_handed_65 : decode cX7_handed 65 = .ok (.idiv, 1) := by decide +kernel
theorem dX7_handed_66 : decode cX7_handed 66 = .ok (.imul, 1) := by decide +kernel
theorem dX7_handed_67 : decode cX7_handed 67 = .ok (.ireturn, 1) := by decide +kernel
theorem dX7_ford_0 : decode cX7_ford 0 = .ok (.aload_n 0, 1) := by decide +kernel
theorem dX7_ford_1 : decode cX7_ford 1 = .ok (.iload_n 1, 1) := by decide +kernel
theorem dX7_ford_2 : decode cX7_ford 2 = .ok (.invokevirtual 136, 3) := by decide +kernel
theorem dX7_ford_5 : decode cX7_ford 5 = .ok (.ifCond .ne 7, 3) := by decide +kernel
theorem dX7_ford_8 : decode cX7_ford 8 = .ok (.iconst (-1), 1) := by decide +kernel
theorem dX7_ford_9 : decode cX7_ford 9 = .ok (.goto 31, 3) := by decide +kernel
theorem dX7_ford_12 : decode cX7_ford 12 = .ok (.aload_n 0, 1) := by decide +kernel
theorem dX7_ford_13 : decode cX7_ford 13 = .ok (.getfield 13, 3) := by decide +kernel
theorem dX7_ford_16 : decode cX7_ford 16 = .ok (.iconst 5, 1) := by decide +kernel
theorem dX7_ford_17 : decode cX7_ford 17 = .ok (.iaload, 1) := by decide +kernel
theorem dX7_ford_18 : decode cX7_ford 18 = .ok (.ifCond .ne 8, 3) := by decide +kernel
theorem dX7_ford_21 : decode cX7_ford 21 = .ok (.bipush (-2), 2) := by decide +kernel
theorem dX7_ford_23 : decode cX7_ford 23 = .ok (.goto 17, 3) := by decide +kernel
theorem dX7_ford_26 : decode cX7_ford 26 = .ok (.aload_n 0, 1) := by decide +kernel
theorem dX7_ford_27 : decode cX7_ford 27 = .ok (.getfield 13, 3) := by decide +kernel
theorem dX7_ford_30 : decode cX7_ford 30 = .ok (.iconst 5, 1) := by decide +kernel
theorem dX7_ford_31 : decode cX7_ford 31 = .ok (.iaload, 1) := by decide +kernel
theorem dX7_ford_32 : decode cX7_ford 32 = .ok (.aload_n 0, 1) := by decide +kernel
theorem dX7_ford_33 : decode cX7_ford 33 = .ok (.iload_n 1, 1) := by decide +kernel
theorem dX7_ford_34 : decode cX7_ford 34 = .ok (.invokevirtual 140, 3) := by decide +kernel
theorem dX7_ford_37 : decode cX7_ford 37 = .ok (.imul, 1) := by decide +kernel
theorem dX7_ford_38 : decode cX7_ford 38 = .ok (.iconst 1, 1) := by decide +kernel
theorem dX7_ford_39 : decode cX7_ford 39 = .ok (.iadd, 1) := by decide +kernel
theorem dX7_ford_40 : decode cX7_ford 40 = .ok (.ireturn, 1) := by decide +kernel
theorem dX7_shared_0 : decode cX7_shared 0 = .ok (.iload_n 1, 1) := by decide +kernel
theorem dX7_shared_1 : decode cX7_shared 1 = .ok (.i2l, 1) := by decide +kernel
theorem dX7_shared_2 : decode cX7_shared 2 = .ok (.lconst 0, 1) := by decide +kernel
theorem dX7_shared_3 : decode cX7_shared 3 = .ok (.ldc2_w 304, 3) := by decide +kernel
theorem dX7_shared_6 : decode cX7_shared 6 = .ok (.invokestatic 101, 3) := by decide +kernel
theorem dX7_shared_9 : decode cX7_shared 9 = .ok (.ifCond .eq 13, 3) := by decide +kernel
theorem dX7_shared_12 : decode cX7_shared 12 = .ok (.iload_n 2, 1) := by decide +kernel
theorem dX7_shared_13 : decode cX7_shared 13 = .ok (.i2l, 1) := by decide +kernel
theorem dX7_shared_14 : decode cX7_shared 14 = .ok (.lconst 0, 1) := by decide +kernel
theorem dX7_shared_15 : decode cX7_shared 15 = .ok (.lconst 1, 1) := by decide +kernel
theorem dX7_shared_16 : decode cX7_shared 16 = .ok (.invokestatic 101, 3) := by decide +kernel
theorem dX7_shared_19 : decode cX7_shared 19 = .ok (.ifCond .ne 5, 3) := by decide +kernel
theorem dX7_shared_22 : decode cX7_shared 22 = .ok (.iconst (-1), 1) := by decide +kernel
theorem dX7_shared_23 : decode cX7_shared 23 = .ok (.ireturn, 1) := by decide +kernel
theorem dX7_shared_24 : decode cX7_shared 24 = .ok (.iconst (-1), 1) := by decide +kernel
theorem dX7_shared_25 : decode cX7_shared 25 = .ok (.istore_n 3, 1) := by decide +kernel
theorem dX7_shared_26 : decode cX7_shared 26 = .ok (.iconst 0, 1) := by decide +kernel
theorem dX7_shared_27 : decode cX7_shared 27 = .ok (.istore 4, 2) := by decide +kernel
theorem dX7_shared_29 : decode cX7_shared 29 = .ok (.iconst 0, 1) := by decide +kernel
theorem dX7_shared_30 : decode cX7_shared 30 = .ok (.istore 5, 2) := by decide +kernel
theorem dX7_shared_32 : decode cX7_shared 32 = .ok (.iload 5, 2) := by decide +kernel
theorem dX7_shared_34 : decode cX7_shared 34 = .ok (.iconst 1, 1) := by decide +kernel
theorem dX7_shared_35 : decode cX7_shared 35 = .ok (.aload_n 0, 1) := by decide +kernel
theorem dX7_shared_36 : decode cX7_shared 36 = .ok (.getfield 98, 3) := by decide +kernel
theorem dX7_shared_39 : decode cX7_shared 39 = .ok (.ishl, 1) := by decide +kernel
theorem dX7_shared_40 : decode cX7_shared 40 = .ok (.if_icmp .ge 78, 3) := by decide +kernel
theorem dX7_shared_43 : decode cX7_shared 43 = .ok (.iload 5, 2) := by decide +kernel
theorem dX7_shared_45 : decode cX7_shared 45 = .ok (.invokestatic 262, 3) := by decide +kernel
theorem dX7_shared_48 : decode cX7_shared 48 = .ok (.iload_n 1, 1) := by decide +kernel
theorem dX7_shared_49 : decode cX7_shared 49 = .ok (.if_icmp .gt 63, 3) := by decide +kernel
theorem dX7_shared_52 : decode cX7_shared 52 = .ok (.aload_n 0, 1) := by decide +kernel
theorem dX7_shared_53 : decode cX7_shared 53 = .ok (.invokevirtual 237, 3) := by decide +kernel
theorem dX7_shared_56 : decode cX7_shared 56 = .ok (.aload_n 0, 1) := by decide +kernel
theorem dX7_shared_57 : decode cX7_shared 57 = .ok (.iload 5, 2) := by decide +kernel
theorem dX7_shared_59 : decode cX7_shared 59 = .ok (.putfield 68, 3) := by decide +kernel
theorem dX7_shared_62 : decode cX7_shared 62 = .ok (.aload_n 0, 1) := by decide +kernel
theorem dX7_shared_63 : decode cX7_shared 63 = .ok (.sipush 999, 3) := by decide +kernel
theorem dX7_shared_66 : decode cX7_shared 66 = .ok (.invokevirtual 240, 3) := by decide +kernel
theorem dX7_shared_69 : decode cX7_shared 69 = .ok (.aload_n 0, 1) := by decide +kernel
theorem dX7_shared_70 : decode cX7_shared 70 = .ok (.invokevirtual 253, 3) := by decide +kernel
theorem dX7_shared_73 : decode cX7_shared 73 = .ok (.istore 6, 2) := by decide +kernel
theorem dX7_shared_75 : decode cX7_shared 75 = .ok (.iload_n 3, 1) := by decide +kernel
theorem dX7_shared_76 : decode cX7_shared 76 = .ok (.ifCond .lt 29, 3) := by decide +kernel
theorem dX7_shared_79 : decode cX7_shared 79 = .ok (.iload 6, 2) := by decide +kernel
theorem dX7_shared_81 : decode cX7_shared 81 = .ok (.iload 4, 2) := by decide +kernel
theorem dX7_shared_83 : decode cX7_shared 83 = .ok (.if_icmp .lt 22, 3) := by decide +kernel
theorem dX7_shared_86 : decode cX7_shared 86 = .ok (.iload 6, 2) := by decide +kernel
theorem dX7_shared_88 : decode cX7_shared 88 = .ok (.iload 4, 2) := by decide +kernel
theorem dX7_shared_90 : decode cX7_shared 90 = .ok (.if_icmp .ne 22, 3) := by decide +kernel
theorem dX7_shared_93 : decode cX7_shared 93 = .ok (.iload 5, 2) := by decide +kernel
theorem dX7_shared_95 : decode cX7_shared 95 = .ok (.invokestatic 262, 3) := by decide +kernel
theorem dX7_shared_98 : decode cX7_shared 98 = .ok (.iload_n 3, 1) := by decide +kernel
theorem dX7_shared_99 : decode cX7_shared 99 = .ok (.invokestatic 262, 3) := by decide +kernel
theorem dX7_shared_102 : decode cX7_shared 102 = .ok (.if_icmp .ge 10, 3) := by decide +kernel
theorem dX7_shared_105 : decode cX7_shared 105 = .ok (.iload 5, 2) := by decide +kernel
theorem dX7_shared_107 : decode cX7_shared 107 = .ok (.istore_n 3, 1) := by decide +kernel
theorem dX7_shared_108 : decode cX7_shared 108 = .ok (.iload 6, 2) := by decide +kernel
theorem dX7_shared_110 : decode cX7_shared 110 = .ok (.istore 4, 2) := by decide +kernel
theorem dX7_shared_112 : decode cX7_shared 112 = .ok (.iinc 5 1, 3) := by decide +kernel
theorem dX7_shared_115 : decode cX7_shared 115 = .ok (.goto (-83), 3) := by decide +kernel
theorem dX7_shared_118 : decode cX7_shared 118 = .ok (.iload_n 2, 1) := by decide +kernel
theorem dX7_shared_119 : decode cX7_shared 119 = .ok (.ifCond .ne 7, 3) := by decide +kernel
theorem dX7_shared_122 : decode cX7_shared 122 = .ok (.iload_n 3, 1) := by decide +kernel
theorem dX7_shared_123 : decode cX7_shared 123 = .ok (.goto 5, 3) := by decide +kernel
theorem dX7_shared_126 : decode cX7_shared 126 = .ok (.iload 4, 2) := by decide +kernel
theorem dX7_shared_128 : decode cX7_shared 128 = .ok (.ireturn, 1) := by decide +kernel
theorem dX7_late_0 : decode cX7_late 0 = .ok (.iload_n 1, 1) := by decide +kernel
theorem dX7_late_1 : decode cX7_late 1 = .ok (.i2l, 1) := by decide +kernel
theorem dX7_late_2 : decode cX7_late 2 = .ok (.lconst 1, 1) := by decide +kernel
theorem dX7_late_3 : decode cX7_late 3 = .ok (.ldc2_w 306, 3) := by decide +kernel
theorem dX7_late_6 : decode cX7_late 6 = .ok (.invokestatic 101, 3) := by decide +kernel
theorem dX7_late_9 : decode cX7_late 9 = .ok (.ifCond .eq 38, 3) := by decide +kernel
theorem dX7_late_12 : decode cX7_late 12 = .ok (.iload_n 2, 1) := by decide +kernel
theorem dX7_late_13 : decode cX7_late 13 = .ok (.i2l, 1) := by decide +kernel
theorem dX7_late_14 : decode cX7_late 14 = .ok (.lconst 1, 1) := by decide +kernel
theorem dX7_late_15 : decode cX7_late 15 = .ok (.ldc2_w 105, 3) := by decide +kernel
theorem dX7_late_18 : decode cX7_late 18 = .ok (.invokestatic 101, 3) := by decide +kernel
theorem dX7_late_21 : decode cX7_late 21 = .ok (.ifCond .eq 26, 3) := by decide +kernel
theorem dX7_late_24 : decode cX7_late 24 = .ok (.iload_n 3, 1) := by decide +kernel
theorem dX7_late_25 : decode cX7_late 25 = .ok (.i2l, 1) := by decide +kernel
theorem dX7_late_26 : decode cX7_late 26 = .ok (.lconst 1, 1) := by decide +kernel
theorem dX7_late_27 : decode cX7_late 27 = .ok (.ldc2_w 105, 3) := by decide +kernel
theorem dX7_late_30 : decode cX7_late 30 = .ok (.invokestatic 101, 3) := by decide +kernel
theorem dX7_late_33 : decode cX7_late 33 = .ok (.ifCond .eq 14, 3) := by decide +kernel
theorem dX7_late_36 : decode cX7_late 36 = .ok (.iload 4, 2) := by decide +kernel
theorem dX7_late_38 : decode cX7_late 38 = .ok (.i2l, 1) := by decide +kernel
theorem dX7_late_39 : decode cX7_late 39 = .ok (.lconst 0, 1) := by decide +kernel
theorem dX7_late_40 : decode cX7_late 40 = .ok (.lconst 1, 1) := by decide +kernel
theorem dX7_late_41 : decode cX7_late 41 = .ok (.invokestatic 101, 3) := by decide +kernel
theorem dX7_late_44 : decode cX7_late 44 = .ok (.ifCond .ne 5, 3) := by decide +kernel
theorem dX7_late_47 : decode cX7_late 47 = .ok (.iconst (-1), 1) := by decide +kernel
theorem dX7_late_48 : decode cX7_late 48 = .ok (.ireturn, 1) := by decide +kernel
theorem dX7_late_49 : decode cX7_late 49 = .ok (.aload_n 0, 1) := by decide +kernel
theorem dX7_late_50 : decode cX7_late 50 = .ok (.getfield 13, 3) := by decide +kernel
theorem dX7_late_53 : decode cX7_late 53 = .ok (.iconst 0, 1) := by decide +kernel
theorem dX7_late_54 : decode cX7_late 54 = .ok (.iaload, 1) := by decide +kernel
theorem dX7_late_55 : decode cX7_late 55 = .ok (.istore 5, 2) := by decide +kernel
theorem dX7_late_57 : decode cX7_late 57 = .ok (.iload 5, 2) := by decide +kernel
theorem dX7_late_59 : decode cX7_late 59 = .ok (.ifCond .ne 6, 3) := by decide +kernel
theorem dX7_late_62 : decode cX7_late 62 = .ok (.bipush (-2), 2) := by decide +kernel
theorem dX7_late_64 : decode cX7_late 64 = .ok (.ireturn, 1) := by decide +kernel
theorem dX7_late_65 : decode cX7_late 65 = .ok (.iload_n 1, 1) := by decide +kernel
theorem dX7_late_66 : decode cX7_late 66 = .ok (.iload_n 3, 1) := by decide +kernel
theorem dX7_late_67 : decode cX7_late 67 = .ok (.iconst 1, 1) := by decide +kernel
theorem dX7_late_68 : decode cX7_late 68 = .ok (.isub, 1) := by decide +kernel
theorem dX7_late_69 : decode cX7_late 69 = .ok (.imul, 1) := by decide +kernel
theorem dX7_late_70 : decode cX7_late 70 = .ok (.iload_n 2, 1) := by decide +kernel
theorem dX7_late_71 : decode cX7_late 71 = .ok (.isub, 1) := by decide +kernel
theorem dX7_late_72 : decode cX7_late 72 = .ok (.istore 6, 2) := by decide +kernel
theorem dX7_late_74 : decode cX7_late 74 = .ok (.iload 6, 2) := by decide +kernel
theorem dX7_late_76 : decode cX7_late 76 = .ok (.ifCond .ge 7, 3) := by decide +kernel
theorem dX7_late_79 : decode cX7_late 79 = .ok (.iconst 0, 1) := by decide +kernel
theorem dX7_late_80 : decode cX7_late 80 = .ok (.goto 10, 3) := by decide +kernel
theorem dX7_late_83 : decode cX7_late 83 = .ok (.iload 6, 2) := by decide +kernel
theorem dX7_late_85 : decode cX7_late 85 = .ok (.iload 5, 2) := by decide +kernel
theorem dX7_late_87 : decode cX7_late 87 = .ok (.idiv, 1) := by decide +kernel
theorem dX7_late_88 : decode cX7_late 88 = .ok (.iconst 1, 1) := by decide +kernel
theorem dX7_late_89 : decode cX7_late 89 = .ok (.iadd, 1) := by decide +kernel
theorem dX7_late_90 : decode cX7_late 90 = .ok (.istore 7, 2) := by decide +kernel
theorem dX7_late_92 : decode cX7_late 92 = .ok (.iload_n 1, 1) := by decide +kernel
theorem dX7_late_93 : decode cX7_late 93 = .ok (.iload_n 3, 1) := by decide +kernel
theorem dX7_late_94 : decode cX7_late 94 = .ok (.imul, 1) := by decide +kernel
theorem dX7_late_95 : decode cX7_late 95 = .ok (.iload_n 2, 1) := by decide +kernel
theorem dX7_late_96 : decode cX7_late 96 = .ok (.isub, 1) := by decide +kernel
theorem dX7_late_97 : decode cX7_late 97 = .ok (.istore 8, 2) := by decide +kernel
theorem dX7_late_99 : decode cX7_late 99 = .ok (.iload 8, 2) := by decide +kernel
theorem dX7_late_101 : decode cX7_late 101 = .ok (.ifCond .lt 13, 3) := by decide +kernel
theorem dX7_late_104 : decode cX7_late 104 = .ok (.iload 8, 2) := by decide +kernel
theorem dX7_late_106 : decode cX7_late 106 = .ok (.iload 5, 2) := by decide +kernel
theorem dX7_late_108 : decode cX7_late 108 = .ok (.idiv, 1) := by decide +kernel
theorem dX7_late_109 : decode cX7_late 109 = .ok (.iload 7, 2) := by decide +kernel
theorem dX7_late_111 : decode cX7_late 111 = .ok (.if_icmp .ge 6, 3) := by decide +kernel
theorem dX7_late_114 : decode cX7_late 114 = .ok (.bipush (-4), 2) := by decide +kernel
theorem dX7_late_116 : decode cX7_late 116 = .ok (.ireturn, 1) := by decide +kernel
theorem dX7_late_117 : decode cX7_late 117 = .ok (.iload 4, 2) := by decide +kernel
theorem dX7_late_119 : decode cX7_late 119 = .ok (.ifCond .ne 8, 3) := by decide +kernel
theorem dX7_late_122 : decode cX7_late 122 = .ok (.iload 7, 2) := by decide +kernel
theorem dX7_late_124 : decode cX7_late 124 = .ok (.goto 8, 3) := by decide +kernel
theorem dX7_late_127 : decode cX7_late 127 = .ok (.iload 8, 2) := by decide +kernel
theorem dX7_late_129 : decode cX7_late 129 = .ok (.iload 5, 2) := by decide +kernel
theorem dX7_late_131 : decode cX7_late 131 = .ok (.idiv, 1) := by decide +kernel
theorem dX7_late_132 : decode cX7_late 132 = .ok (.ireturn, 1) := by decide +kernel
theorem dX7_other_0 : decode cX7_other 0 = .ok (.iload_n 1, 1) := by decide +kernel
theorem dX7_other_1 : decode cX7_other 1 = .ok (.i2l, 1) := by decide +kernel
theorem dX7_other_2 : decode cX7_other 2 = .ok (.lconst 0, 1) := by decide +kernel
theorem dX7_other_3 : decode cX7_other 3 = .ok (.ldc2_w 308, 3) := by decide +kernel
theorem dX7_other_6 : decode cX7_other 6 = .ok (.invokestatic 101, 3) := by decide +kernel
theorem dX7_other_9 : decode cX7_other 9 = .ok (.ifCond .eq 13, 3) := by decide +kernel
theorem dX7_other_12 : decode cX7_other 12 = .ok (.iload_n 2, 1) := by decide +kernel
theorem dX7_other_13 : decode cX7_other 13 = .ok (.i2l, 1) := by decide +kernel
theorem dX7_other_14 : decode cX7_other 14 = .ok (.lconst 0, 1) := by decide +kernel
theorem dX7_other_15 : decode cX7_other 15 = .ok (.lconst 1, 1) := by decide +kernel
theorem dX7_other_16 : decode cX7_other 16 = .ok (.invokestatic 101, 3) := by decide +kernel
theorem dX7_other_19 : decode cX7_other 19 = .ok (.ifCond .ne 5, 3) := by decide +kernel
theorem dX7_other_22 : decode cX7_other 22 = .ok (.iconst (-1), 1) := by decide +kernel
theorem dX7_other_23 : decode cX7_other 23 = .ok (.ireturn, 1) := by decide +kernel
theorem dX7_other_24 : decode cX7_other 24 = .ok (.aload_n 0, 1) := by decide +kernel
theorem dX7_other_25 : decode cX7_other 25 = .ok (.invokevirtual 237, 3) := by decide +kernel
theorem dX7_other_28 : decode cX7_other 28 = .ok (.aload_n 0, 1) := by decide +kernel
theorem dX7_other_29 : decode cX7_other 29 = .ok (.iload_n 1, 1) := by decide +kernel
theorem dX7_other_30 : decode cX7_other 30 = .ok (.putfield 200, 3) := by decide +kernel
theorem dX7_other_33 : decode cX7_other 33 = .ok (.aload_n 0, 1) := by decide +kernel
theorem dX7_other_34 : decode cX7_other 34 = .ok (.sipush 999, 3) := by decide +kernel
theorem dX7_other_37 : decode cX7_other 37 = .ok (.invokevirtual 240, 3) := by decide +kernel
theorem dX7_other_40 : decode cX7_other 40 = .ok (.iload_n 2, 1) := by decide +kernel
theorem dX7_other_41 : decode cX7_other 41 = .ok (.ifCond .ne 10, 3) := by decide +kernel
theorem dX7_other_44 : decode cX7_other 44 = .ok (.aload_n 0, 1) := by decide +kernel
theorem dX7_other_45 : decode cX7_other 45 = .ok (.getfield 191, 3) := by decide +kernel
theorem dX7_other_48 : decode cX7_other 48 = .ok (.goto 7, 3) := by decide +kernel
theorem dX7_other_51 : decode cX7_other 51 = .ok (.aload_n 0, 1) := by decide +kernel
theorem dX7_other_52 : decode cX7_other 52 = .ok (.invokevirtual 253, 3) := by decide +kernel
theorem dX7_other_55 : decode cX7_other 55 = .ok (.ireturn, 1) := by decide +kernel
theorem dX7_image_0 : decode cX7_image 0 = .ok (.iconst 0, 1) := by decide +kernel
theorem dX7_image_1 : decode cX7_image 1 = .ok (.istore_n 1, 1) := by decide +kernel
theorem dX7_image_2 : decode cX7_image 2 = .ok (.iload_n 1, 1) := by decide +kernel
theorem dX7_image_3 : decode cX7_image 3 = .ok (.bipush 70, 2) := by decide +kernel
theorem dX7_image_5 : decode cX7_image 5 = .ok (.if_icmp .ge 21, 3) := by decide +kernel
theorem dX7_image_8 : decode cX7_image 8 = .ok (.aload_n 0, 1) := by decide +kernel
theorem dX7_image_9 : decode cX7_image 9 = .ok (.getfield 83, 3) := by decide +kernel
theorem dX7_image_12 : decode cX7_image 12 = .ok (.iload_n 1, 1) := by decide +kernel
theorem dX7_image_13 : decode cX7_image 13 = .ok (.aload_n 0, 1) := by decide +kernel
theorem dX7_image_14 : decode cX7_image 14 = .ok (.getfield 7, 3) := by decide +kernel
theorem dX7_image_17 : decode cX7_image 17 = .ok (.iload_n 1, 1) := by decide +kernel
theorem dX7_image_18 : decode cX7_image 18 = .ok (.iaload, 1) := by decide +kernel
theorem dX7_image_19 : decode cX7_image 19 = .ok (.iastore, 1) := by decide +kernel
theorem dX7_image_20 : decode cX7_image 20 = .ok (.iinc 1 1, 3) := by decide +kernel
theorem dX7_image_23 : decode cX7_image 23 = .ok (.goto (-21), 3) := by decide +kernel
theorem dX7_image_26 : decode cX7_image 26 = .ok (.iconst 0, 1) := by decide +kernel
theorem dX7_image_27 : decode cX7_image 27 = .ok (.istore_n 1, 1) := by decide +kernel
theorem dX7_image_28 : decode cX7_image 28 = .ok (.iload_n 1, 1) := by decide +kernel
theorem dX7_image_29 : decode cX7_image 29 = .ok (.bipush 6, 2) := by decide +kernel
theorem dX7_image_31 : decode cX7_image 31 = .ok (.if_icmp .ge 21, 3) := by decide +kernel
theorem dX7_image_34 : decode cX7_image 34 = .ok (.aload_n 0, 1) := by decide +kernel
theorem dX7_image_35 : decode cX7_image 35 = .ok (.getfield 86, 3) := by decide +kernel
theorem dX7_image_38 : decode cX7_image 38 = .ok (.iload_n 1, 1) := by decide +kernel
theorem dX7_image_39 : decode cX7_image 39 = .ok (.aload_n 0, 1) := by decide +kernel
theorem dX7_image_40 : decode cX7_image 40 = .ok (.getfield 13, 3) := by decide +kernel
theorem dX7_image_43 : decode cX7_image 43 = .ok (.iload_n 1, 1) := by decide +kernel
theorem dX7_image_44 : decode cX7_image 44 = .ok (.iaload, 1) := by decide +kernel
theorem dX7_image_45 : decode cX7_image 45 = .ok (.iastore, 1) := by decide +kernel
theorem dX7_image_46 : decode cX7_image 46 = .ok (.iinc 1 1, 3) := by decide +kernel
theorem dX7_image_49 : decode cX7_image 49 = .ok (.goto (-21), 3) := by decide +kernel
theorem dX7_image_52 : decode cX7_image 52 = .ok (.aload_n 0, 1) := by decide +kernel
theorem dX7_image_53 : decode cX7_image 53 = .ok (.aload_n 0, 1) := by decide +kernel
theorem dX7_image_54 : decode cX7_image 54 = .ok (.getfield 98, 3) := by decide +kernel
theorem dX7_image_57 : decode cX7_image 57 = .ok (.putfield 310, 3) := by decide +kernel
theorem dX7_image_60 : decode cX7_image 60 = .ok (.aload_n 0, 1) := by decide +kernel
theorem dX7_image_61 : decode cX7_image 61 = .ok (.aload_n 0, 1) := by decide +kernel
theorem dX7_image_62 : decode cX7_image 62 = .ok (.getfield 16, 3) := by decide +kernel
theorem dX7_image_65 : decode cX7_image 65 = .ok (.putfield 313, 3) := by decide +kernel
theorem dX7_image_68 : decode cX7_image 68 = .ok (.aload_n 0, 1) := by decide +kernel
theorem dX7_image_69 : decode cX7_image 69 = .ok (.iconst 1, 1) := by decide +kernel
theorem dX7_image_70 : decode cX7_image 70 = .ok (.putfield 316, 3) := by decide +kernel
theorem dX7_image_73 : decode cX7_image 73 = .ok (.iconst 1, 1) := by decide +kernel
theorem dX7_image_74 : decode cX7_image 74 = .ok (.ireturn, 1) := by decide +kernel
theorem dX7_restore_0 : decode cX7_restore 0 = .ok (.aload_n 0, 1) := by decide +kernel
theorem dX7_restore_1 : decode cX7_restore 1 = .ok (.getfield 316, 3) := by decide +kernel
theorem dX7_restore_4 : decode cX7_restore 4 = .ok (.ifCond .ne 6, 3) := by decide +kernel
theorem dX7_restore_7 : decode cX7_restore 7 = .ok (.bipush (-4), 2) := by decide +kernel
theorem dX7_restore_9 : decode cX7_restore 9 = .ok (.ireturn, 1) := by decide +kernel
theorem dX7_restore_10 : decode cX7_restore 10 = .ok (.iconst 0, 1) := by decide +kernel
theorem dX7_restore_11 : decode cX7_restore 11 = .ok (.istore_n 1, 1) := by decide +kernel
theorem dX7_restore_12 : decode cX7_restore 12 = .ok (.iload_n 1, 1) := by decide +kernel
theorem dX7_restore_13 : decode cX7_restore 13 = .ok (.bipush 70, 2) := by decide +kernel
theorem dX7_restore_15 : decode cX7_restore 15 = .ok (.if_icmp .ge 21, 3) := by decide +kernel
theorem dX7_restore_18 : decode cX7_restore 18 = .ok (.aload_n 0, 1) := by decide +kernel
theorem dX7_restore_19 : decode cX7_restore 19 = .ok (.getfield 7, 3) := by decide +kernel
theorem dX7_restore_22 : decode cX7_restore 22 = .ok (.iload_n 1, 1) := by decide +kernel
theorem dX7_restore_23 : decode cX7_restore 23 = .ok (.aload_n 0, 1) := by decide +kernel
theorem dX7_restore_24 : decode cX7_restore 24 = .ok (.getfield 83, 3) := by decide +kernel
theorem dX7_restore_27 : decode cX7_restore 27 = .ok (.iload_n 1, 1) := by decide +kernel
theorem dX7_restore_28 : decode cX7_restore 28 = .ok (.iaload, 1) := by decide +kernel
theorem dX7_restore_29 : decode cX7_restore 29 = .ok (.iastore, 1) := by decide +kernel
theorem dX7_restore_30 : decode cX7_restore 30 = .ok (.iinc 1 1, 3) := by decide +kernel
theorem dX7_restore_33 : decode cX7_restore 33 = .ok (.goto (-21), 3) := by decide +kernel
theorem dX7_restore_36 : decode cX7_restore 36 = .ok (.iconst 0, 1) := by decide +kernel
theorem dX7_restore_37 : decode cX7_restore 37 = .ok (.istore_n 1, 1) := by decide +kernel
theorem dX7_restore_38 : decode cX7_restore 38 = .ok (.iload_n 1, 1) := by decide +kernel
theorem dX7_restore_39 : decode cX7_restore 39 = .ok (.bipush 6, 2) := by decide +kernel
theorem dX7_restore_41 : decode cX7_restore 41 = .ok (.if_icmp .ge 21, 3) := by decide +kernel
theorem dX7_restore_44 : decode cX7_restore 44 = .ok (.aload_n 0, 1) := by decide +kernel
theorem dX7_restore_45 : decode cX7_restore 45 = .ok (.getfield 13, 3) := by decide +kernel
theorem dX7_restore_48 : decode cX7_restore 48 = .ok (.iload_n 1, 1) := by decide +kernel
theorem dX7_restore_49 : decode cX7_restore 49 = .ok (.aload_n 0, 1) := by decide +kernel
theorem dX7_restore_50 : decode cX7_restore 50 = .ok (.getfield 86, 3) := by decide +kernel
theorem dX7_restore_53 : decode cX7_restore 53 = .ok (.iload_n 1, 1) := by decide +kernel
theorem dX7_restore_54 : decode cX7_restore 54 = .ok (.iaload, 1) := by decide +kernel
theorem dX7_restore_55 : decode cX7_restore 55 = .ok (.iastore, 1) := by decide +kernel
theorem dX7_restore_56 : decode cX7_restore 56 = .ok (.iinc 1 1, 3) := by decide +kernel
theorem dX7_restore_59 : decode cX7_restore 59 = .ok (.goto (-21), 3) := by decide +kernel
theorem dX7_restore_62 : decode cX7_restore 62 = .ok (.aload_n 0, 1) := by decide +kernel
theorem dX7_restore_63 : decode cX7_restore 63 = .ok (.aload_n 0, 1) := by decide +kernel
theorem dX7_restore_64 : decode cX7_restore 64 = .ok (.getfield 310, 3) := by decide +kernel
theorem dX7_restore_67 : decode cX7_restore 67 = .ok (.putfield 98, 3) := by decide +kernel
theorem dX7_restore_70 : decode cX7_restore 70 = .ok (.aload_n 0, 1) := by decide +kernel
theorem dX7_restore_71 : decode cX7_restore 71 = .ok (.aload_n 0, 1) := by decide +kernel
theorem dX7_restore_72 : decode cX7_restore 72 = .ok (.getfield 313, 3) := by decide +kernel
theorem dX7_restore_75 : decode cX7_restore 75 = .ok (.putfield 16, 3) := by decide +kernel
theorem dX7_restore_78 : decode cX7_restore 78 = .ok (.iconst 1, 1) := by decide +kernel
theorem dX7_restore_79 : decode cX7_restore 79 = .ok (.ireturn, 1) := by decide +kernel
theorem dX7_isSheet_0 : decode cX7_isSheet 0 = .ok (.iload_n 0, 1) := by decide +kernel
theorem dX7_isSheet_1 : decode cX7_isSheet 1 = .ok (.i2l, 1) := by decide +kernel
theorem dX7_isSheet_2 : decode cX7_isSheet 2 = .ok (.lconst 0, 1) := by decide +kernel
theorem dX7_isSheet_3 : decode cX7_isSheet 3 = .ok (.ldc2_w 118, 3) := by decide +kernel
theorem dX7_isSheet_6 : decode cX7_isSheet 6 = .ok (.invokestatic 101, 3) := by decide +kernel
theorem dX7_isSheet_9 : decode cX7_isSheet 9 = .ok (.ifCond .eq 19, 3) := by decide +kernel
theorem dX7_isSheet_12 : decode cX7_isSheet 12 = .ok (.iload_n 1, 1) := by decide +kernel
theorem dX7_isSheet_13 : decode cX7_isSheet 13 = .ok (.i2l, 1) := by decide +kernel
theorem dX7_isSheet_14 : decode cX7_isSheet 14 = .ok (.lconst 0, 1) := by decide +kernel
theorem dX7_isSheet_15 : decode cX7_isSheet 15 = .ok (.ldc2_w 308, 3) := by decide +kernel
theorem dX7_isSheet_18 : decode cX7_isSheet 18 = .ok (.invokestatic 101, 3) := by decide +kernel
theorem dX7_isSheet_21 : decode cX7_isSheet 21 = .ok (.ifCond .eq 7, 3) := by decide +kernel
theorem dX7_isSheet_24 : decode cX7_isSheet 24 = .ok (.iconst 1, 1) := by decide +kernel
theorem dX7_isSheet_25 : decode cX7_isSheet 25 = .ok (.goto 4, 3) := by decide +kernel
theorem dX7_isSheet_28 : decode cX7_isSheet 28 = .ok (.iconst 0, 1) := by decide +kernel
theorem dX7_isSheet_29 : decode cX7_isSheet 29 = .ok (.ireturn, 1) := by decide +kernel
theorem dX7_asLane_0 : decode cX7_asLane 0 = .ok (.iload_n 0, 1) := by decide +kernel
theorem dX7_asLane_1 : decode cX7_asLane 1 = .ok (.ifCond .ne 13, 3) := by decide +kernel
theorem dX7_asLane_4 : decode cX7_asLane 4 = .ok (.iload_n 1, 1) := by decide +kernel
theorem dX7_asLane_5 : decode cX7_asLane 5 = .ok (.bipush 24, 2) := by decide +kernel
theorem dX7_asLane_7 : decode cX7_asLane 7 = .ok (.ishl, 1) := by decide +kernel
theorem dX7_asLane_8 : decode cX7_asLane 8 = .ok (.bipush 24, 2) := by decide +kernel
theorem dX7_asLane_10 : decode cX7_asLane 10 = .ok (.ishr, 1) := by decide +kernel
theorem dX7_asLane_11 : decode cX7_asLane 11 = .ok (.goto 19, 3) := by decide +kernel
theorem dX7_asLane_14 : decode cX7_asLane 14 = .ok (.iload_n 0, 1) := by decide +kernel
theorem dX7_asLane_15 : decode cX7_asLane 15 = .ok (.iconst 1, 1) := by decide +kernel
theorem dX7_asLane_16 : decode cX7_asLane 16 = .ok (.if_icmp .ne 13, 3) := by decide +kernel
theorem dX7_asLane_19 : decode cX7_asLane 19 = .ok (.iload_n 1, 1) := by decide +kernel
theorem dX7_asLane_20 : decode cX7_asLane 20 = .ok (.bipush 16, 2) := by decide +kernel
theorem dX7_asLane_22 : decode cX7_asLane 22 = .ok (.ishl, 1) := by decide +kernel
theorem dX7_asLane_23 : decode cX7_asLane 23 = .ok (.bipush 16, 2) := by decide +kernel
theorem dX7_asLane_25 : decode cX7_asLane 25 = .ok (.ishr, 1) := by decide +kernel
theorem dX7_asLane_26 : decode cX7_asLane 26 = .ok (.goto 4, 3) := by decide +kernel
theorem dX7_asLane_29 : decode cX7_asLane 29 = .ok (.iload_n 1, 1) := by decide +kernel
theorem dX7_asLane_30 : decode cX7_asLane 30 = .ok (.ireturn, 1) := by decide +kernel
theorem dX7_sheet_0 : decode cX7_sheet 0 = .ok (.iload_n 1, 1) := by decide +kernel
theorem dX7_sheet_1 : decode cX7_sheet 1 = .ok (.iload_n 2, 1) := by decide +kernel
theorem dX7_sheet_2 : decode cX7_sheet 2 = .ok (.invokestatic 320, 3) := by decide +kernel
theorem dX7_sheet_5 : decode cX7_sheet 5 = .ok (.ifCond .eq 9, 3) := by decide +kernel
theorem dX7_sheet_8 : decode cX7_sheet 8 = .ok (.iload_n 3, 1) := by decide +kernel
theorem dX7_sheet_9 : decode cX7_sheet 9 = .ok (.bipush 24, 2) := by decide +kernel
theorem dX7_sheet_11 : decode cX7_sheet 11 = .ok (.if_icmp .le 5, 3) := by decide +kernel
theorem dX7_sheet_14 : decode cX7_sheet 14 = .ok (.iconst (-1), 1) := by decide +kernel
theorem dX7_sheet_15 : decode cX7_sheet 15 = .ok (.ireturn, 1) := by decide +kernel
theorem dX7_sheet_16 : decode cX7_sheet 16 = .ok (.iload_n 3, 1) := by decide +kernel
theorem dX7_sheet_17 : decode cX7_sheet 17 = .ok (.ifCond .ge 6, 3) := by decide +kernel
theorem dX7_sheet_20 : decode cX7_sheet 20 = .ok (.bipush (-14), 2) := by decide +kernel
theorem dX7_sheet_22 : decode cX7_sheet 22 = .ok (.ireturn, 1) := by decide +kernel
theorem dX7_sheet_23 : decode cX7_sheet 23 = .ok (.aload_n 0, 1) := by decide +kernel
theorem dX7_sheet_24 : decode cX7_sheet 24 = .ok (.getfield 89, 3) := by decide +kernel
theorem dX7_sheet_27 : decode cX7_sheet 27 = .ok (.iload_n 1, 1) := by decide +kernel
theorem dX7_sheet_28 : decode cX7_sheet 28 = .ok (.iload_n 2, 1) := by decide +kernel
theorem dX7_sheet_29 : decode cX7_sheet 29 = .ok (.iastore, 1) := by decide +kernel
theorem dX7_sheet_30 : decode cX7_sheet 30 = .ok (.aload_n 0, 1) := by decide +kernel
theorem dX7_sheet_31 : decode cX7_sheet 31 = .ok (.getfield 92, 3) := by decide +kernel
theorem dX7_sheet_34 : decode cX7_sheet 34 = .ok (.iload_n 1, 1) := by decide +kernel
theorem dX7_sheet_35 : decode cX7_sheet 35 = .ok (.iload_n 3, 1) := by decide +kernel
theorem dX7_sheet_36 : decode cX7_sheet 36 = .ok (.iastore, 1) := by decide +kernel
theorem dX7_sheet_37 : decode cX7_sheet 37 = .ok (.iconst 0, 1) := by decide +kernel
theorem dX7_sheet_38 : decode cX7_sheet 38 = .ok (.istore 4, 2) := by decide +kernel
theorem dX7_sheet_40 : decode cX7_sheet 40 = .ok (.iload 4, 2) := by decide +kernel
theorem dX7_sheet_42 : decode cX7_sheet 42 = .ok (.bipush 24, 2) := by decide +kernel
theorem dX7_sheet_44 : decode cX7_sheet 44 = .ok (.if_icmp .ge 22, 3) := by decide +kernel
theorem dX7_sheet_47 : decode cX7_sheet 47 = .ok (.aload_n 0, 1) := by decide +kernel
theorem dX7_sheet_48 : decode cX7_sheet 48 = .ok (.getfield 95, 3) := by decide +kernel
theorem dX7_sheet_51 : decode cX7_sheet 51 = .ok (.bipush 24, 2) := by decide +kernel
theorem dX7_sheet_53 : decode cX7_sheet 53 = .ok (.iload_n 1, 1) := by decide +kernel
theorem dX7_sheet_54 : decode cX7_sheet 54 = .ok (.imul, 1) := by decide +kernel
theorem dX7_sheet_55 : decode cX7_sheet 55 = .ok (.iload 4, 2) := by decide +kernel
theorem dX7_sheet_57 : decode cX7_sheet 57 = .ok (.iadd, 1) := by decide +kernel
theorem dX7_sheet_58 : decode cX7_sheet 58 = .ok (.iconst 0, 1) := by decide +kernel
theorem dX7_sheet_59 : decode cX7_sheet 59 = .ok (.iastore, 1) := by decide +kernel
theorem dX7_sheet_60 : decode cX7_sheet 60 = .ok (.iinc 4 1, 3) := by decide +kernel
theorem dX7_sheet_63 : decode cX7_sheet 63 = .ok (.goto (-23), 3) := by decide +kernel
theorem dX7_sheet_66 : decode cX7_sheet 66 = .ok (.iload_n 3, 1) := by decide +kernel
theorem dX7_sheet_67 : decode cX7_sheet 67 = .ok (.ireturn, 1) := by decide +kernel
theorem dX7_drop_0 : decode cX7_drop 0 = .ok (.iload_n 1, 1) := by decide +kernel
theorem dX7_drop_1 : decode cX7_drop 1 = .ok (.i2l, 1) := by decide +kernel
theorem dX7_drop_2 : decode cX7_drop 2 = .ok (.lconst 0, 1) := by decide +kernel
theorem dX7_drop_3 : decode cX7_drop 3 = .ok (.ldc2_w 118, 3) := by decide +kernel
theorem dX7_drop_6 : decode cX7_drop 6 = .ok (.invokestatic 101, 3) := by decide +kernel
theorem dX7_drop_9 : decode cX7_drop 9 = .ok (.ifCond .ne 5, 3) := by decide +kernel
theorem dX7_drop_12 : decode cX7_drop 12 = .ok (.iconst (-1), 1) := by decide +kernel
theorem dX7_drop_13 : decode cX7_drop 13 = .ok (.ireturn, 1) := by decide +kernel
theorem dX7_drop_14 : decode cX7_drop 14 = .ok (.aload_n 0, 1) := by decide +kernel
theorem dX7_drop_15 : decode cX7_drop 15 = .ok (.getfield 89, 3) := by decide +kernel
theorem dX7_drop_18 : decode cX7_drop 18 = .ok (.iload_n 1, 1) := by decide +kernel
theorem dX7_drop_19 : decode cX7_drop 19 = .ok (.iaload, 1) := by decide +kernel
theorem dX7_drop_20 : decode cX7_drop 20 = .ok (.ifCond .ge 6, 3) := by decide +kernel
theorem dX7_drop_23 : decode cX7_drop 23 = .ok (.bipush (-11), 2) := by decide +kernel
theorem dX7_drop_25 : decode cX7_drop 25 = .ok (.ireturn, 1) := by decide +kernel
theorem dX7_drop_26 : decode cX7_drop 26 = .ok (.aload_n 0, 1) := by decide +kernel
theorem dX7_drop_27 : decode cX7_drop 27 = .ok (.getfield 89, 3) := by decide +kernel
theorem dX7_drop_30 : decode cX7_drop 30 = .ok (.iload_n 1, 1) := by decide +kernel
theorem dX7_drop_31 : decode cX7_drop 31 = .ok (.iconst (-1), 1) := by decide +kernel
theorem dX7_drop_32 : decode cX7_drop 32 = .ok (.iastore, 1) := by decide +kernel
theorem dX7_drop_33 : decode cX7_drop 33 = .ok (.aload_n 0, 1) := by decide +kernel
theorem dX7_drop_34 : decode cX7_drop 34 = .ok (.getfield 92, 3) := by decide +kernel
theorem dX7_drop_37 : decode cX7_drop 37 = .ok (.iload_n 1, 1) := by decide +kernel
theorem dX7_drop_38 : decode cX7_drop 38 = .ok (.iaload, 1) := by decide +kernel
theorem dX7_drop_39 : decode cX7_drop 39 = .ok (.ireturn, 1) := by decide +kernel
theorem dX7_lacksRow_0 : decode cX7_lacksRow 0 = .ok (.aload_n 0, 1) := by decide +kernel
theorem dX7_lacksRow_1 : decode cX7_lacksRow 1 = .ok (.getfield 89, 3) := by decide +kernel
theorem dX7_lacksRow_4 : decode cX7_lacksRow 4 = .ok (.iload_n 1, 1) := by decide +kernel
theorem dX7_lacksRow_5 : decode cX7_lacksRow 5 = .ok (.iaload, 1) := by decide +kernel
theorem dX7_lacksRow_6 : decode cX7_lacksRow 6 = .ok (.iload_n 2, 1) := by decide +kernel
theorem dX7_lacksRow_7 : decode cX7_lacksRow 7 = .ok (.if_icmp .eq 20, 3) := by decide +kernel
theorem dX7_lacksRow_10 : decode cX7_lacksRow 10 = .ok (.aload_n 0, 1) := by decide +kernel
theorem dX7_lacksRow_11 : decode cX7_lacksRow 11 = .ok (.getfield 89, 3) := by decide +kernel
theorem dX7_lacksRow_14 : decode cX7_lacksRow 14 = .ok (.iload_n 1, 1) := by decide +kernel
theorem dX7_lacksRow_15 : decode cX7_lacksRow 15 = .ok (.iaload, 1) := by decide +kernel
theorem dX7_lacksRow_16 : decode cX7_lacksRow 16 = .ok (.ifCond .ge 8, 3) := by decide +kernel
theorem dX7_lacksRow_19 : decode cX7_lacksRow 19 = .ok (.bipush (-11), 2) := by decide +kernel
theorem dX7_lacksRow_21 : decode cX7_lacksRow 21 = .ok (.goto 5, 3) := by decide +kernel
theorem dX7_lacksRow_24 : decode cX7_lacksRow 24 = .ok (.bipush (-12), 2) := by decide +kernel
theorem dX7_lacksRow_26 : decode cX7_lacksRow 26 = .ok (.ireturn, 1) := by decide +kernel
theorem dX7_lacksRow_27 : decode cX7_lacksRow 27 = .ok (.iload_n 3, 1) := by decide +kernel
theorem dX7_lacksRow_28 : decode cX7_lacksRow 28 = .ok (.i2l, 1) := by decide +kernel
theorem dX7_lacksRow_29 : decode cX7_lacksRow 29 = .ok (.lconst 0, 1) := by decide +kernel
theorem dX7_lacksRow_30 : decode cX7_lacksRow 30 = .ok (.aload_n 0, 1) := by decide +kernel
theorem dX7_lacksRow_31 : decode cX7_lacksRow 31 = .ok (.getfield 92, 3) := by decide +kernel
theorem dX7_lacksRow_34 : decode cX7_lacksRow 34 = .ok (.iload_n 1, 1) := by decide +kernel
theorem dX7_lacksRow_35 : decode cX7_lacksRow 35 = .ok (.iaload, 1) := by decide +kernel
theorem dX7_lacksRow_36 : decode cX7_lacksRow 36 = .ok (.iload 4, 2) := by decide +kernel
theorem dX7_lacksRow_38 : decode cX7_lacksRow 38 = .ok (.isub, 1) := by decide +kernel
theorem dX7_lacksRow_39 : decode cX7_lacksRow 39 = .ok (.i2l, 1) := by decide +kernel
theorem dX7_lacksRow_40 : decode cX7_lacksRow 40 = .ok (.invokestatic 101, 3) := by decide +kernel
theorem dX7_lacksRow_43 : decode cX7_lacksRow 43 = .ok (.ifCond .eq 7, 3) := by decide +kernel
theorem dX7_lacksRow_46 : decode cX7_lacksRow 46 = .ok (.iconst 0, 1) := by decide +kernel
theorem dX7_lacksRow_47 : decode cX7_lacksRow 47 = .ok (.goto 5, 3) := by decide +kernel
theorem dX7_lacksRow_50 : decode cX7_lacksRow 50 = .ok (.bipush (-13), 2) := by decide +kernel
theorem dX7_lacksRow_52 : decode cX7_lacksRow 52 = .ok (.ireturn, 1) := by decide +kernel
theorem dX7_item_0 : decode cX7_item 0 = .ok (.iload_n 1, 1) := by decide +kernel
theorem dX7_item_1 : decode cX7_item 1 = .ok (.iload_n 2, 1) := by decide +kernel
theorem dX7_item_2 : decode cX7_item 2 = .ok (.invokestatic 320, 3) := by decide +kernel
theorem dX7_item_5 : decode cX7_item 5 = .ok (.ifCond .ne 5, 3) := by decide +kernel
theorem dX7_item_8 : decode cX7_item 8 = .ok (.iconst (-1), 1) := by decide +kernel
theorem dX7_item_9 : decode cX7_item 9 = .ok (.ireturn, 1) := by decide +kernel
theorem dX7_item_10 : decode cX7_item 10 = .ok (.aload_n 0, 1) := by decide +kernel
theorem dX7_item_11 : decode cX7_item 11 = .ok (.iload_n 1, 1) := by decide +kernel
theorem dX7_item_12 : decode cX7_item 12 = .ok (.iload_n 2, 1) := by decide +kernel
theorem dX7_item_13 : decode cX7_item 13 = .ok (.iload_n 3, 1) := by decide +kernel
theorem dX7_item_14 : decode cX7_item 14 = .ok (.iconst 1, 1) := by decide +kernel
theorem dX7_item_15 : decode cX7_item 15 = .ok (.invokevirtual 323, 3) := by decide +kernel
theorem dX7_item_18 : decode cX7_item 18 = .ok (.istore 5, 2) := by decide +kernel
theorem dX7_item_20 : decode cX7_item 20 = .ok (.iload 5, 2) := by decide +kernel
theorem dX7_item_22 : decode cX7_item 22 = .ok (.ifCond .ge 6, 3) := by decide +kernel
theorem dX7_item_25 : decode cX7_item 25 = .ok (.iload 5, 2) := by decide +kernel
theorem dX7_item_27 : decode cX7_item 27 = .ok (.ireturn, 1) := by decide +kernel
theorem dX7_item_28 : decode cX7_item 28 = .ok (.aload_n 0, 1) := by decide +kernel
theorem dX7_item_29 : decode cX7_item 29 = .ok (.getfield 95, 3) := by decide +kernel
theorem dX7_item_32 : decode cX7_item 32 = .ok (.bipush 24, 2) := by decide +kernel
theorem dX7_item_34 : decode cX7_item 34 = .ok (.iload_n 1, 1) := by decide +kernel
theorem dX7_item_35 : decode cX7_item 35 = .ok (.imul, 1) := by decide +kernel
theorem dX7_item_36 : decode cX7_item 36 = .ok (.iload_n 3, 1) := by decide +kernel
theorem dX7_item_37 : decode cX7_item 37 = .ok (.iadd, 1) := by decide +kernel
theorem dX7_item_38 : decode cX7_item 38 = .ok (.iload_n 2, 1) := by decide +kernel
theorem dX7_item_39 : decode cX7_item 39 = .ok (.iload 4, 2) := by decide +kernel
theorem dX7_item_41 : decode cX7_item 41 = .ok (.invokestatic 326, 3) := by decide +kernel
theorem dX7_item_44 : decode cX7_item 44 = .ok (.iastore, 1) := by decide +kernel
theorem dX7_item_45 : decode cX7_item 45 = .ok (.iconst 1, 1) := by decide +kernel
theorem dX7_item_46 : decode cX7_item 46 = .ok (.ireturn, 1) := by decide +kernel
theorem dX7_crowd_0 : decode cX7_crowd 0 = .ok (.iload_n 1, 1) := by decide +kernel
theorem dX7_crowd_1 : decode cX7_crowd 1 = .ok (.iload_n 2, 1) := by decide +kernel
theorem dX7_crowd_2 : decode cX7_crowd 2 = .ok (.invokestatic 320, 3) := by decide +kernel
theorem dX7_crowd_5 : decode cX7_crowd 5 = .ok (.ifCond .eq 16, 3) := by decide +kernel
theorem dX7_crowd_8 : decode cX7_crowd 8 = .ok (.iload 4, 2) := by decide +kernel
theorem dX7_crowd_10 : decode cX7_crowd 10 = .ok (.i2l, 1) := by decide +kernel
theorem dX7_crowd_11 : decode cX7_crowd 11 = .ok (.lconst 1, 1) := by decide +kernel
theorem dX7_crowd_12 : decode cX7_crowd 12 = .ok (.ldc2_w 243, 3) := by decide +kernel
theorem dX7_crowd_15 : decode cX7_crowd 15 = .ok (.invokestatic 101, 3) := by decide +kernel
theorem dX7_crowd_18 : decode cX7_crowd 18 = .ok (.ifCond .ne 5, 3) := by decide +kernel
theorem dX7_crowd_21 : decode cX7_crowd 21 = .ok (.iconst (-1), 1) := by decide +kernel
theorem dX7_crowd_22 : decode cX7_crowd 22 = .ok (.ireturn, 1) := by decide +kernel
theorem dX7_crowd_23 : decode cX7_crowd 23 = .ok (.aload_n 0, 1) := by decide +kernel
theorem dX7_crowd_24 : decode cX7_crowd 24 = .ok (.iload_n 1, 1) := by decide +kernel
theorem dX7_crowd_25 : decode cX7_crowd 25 = .ok (.iload_n 2, 1) := by decide +kernel
theorem dX7_crowd_26 : decode cX7_crowd 26 = .ok (.iload_n 3, 1) := by decide +kernel
theorem dX7_crowd_27 : decode cX7_crowd 27 = .ok (.iconst 5, 1) := by decide +kernel
theorem dX7_crowd_28 : decode cX7_crowd 28 = .ok (.iload 4, 2) := by decide +kernel
theorem dX7_crowd_30 : decode cX7_crowd 30 = .ok (.imul, 1) := by decide +kernel
theorem dX7_crowd_31 : decode cX7_crowd 31 = .ok (.invokevirtual 323, 3) := by decide +kernel
theorem dX7_crowd_34 : decode cX7_crowd 34 = .ok (.istore 5, 2) := by decide +kernel
theorem dX7_crowd_36 : decode cX7_crowd 36 = .ok (.iload 5, 2) := by decide +kernel
theorem dX7_crowd_38 : decode cX7_crowd 38 = .ok (.ifCond .ge 6, 3) := by decide +kernel
theorem dX7_crowd_41 : decode cX7_crowd 41 = .ok (.iload 5, 2) := by decide +kernel
theorem dX7_crowd_43 : decode cX7_crowd 43 = .ok (.ireturn, 1) := by decide +kernel
theorem dX7_crowd_44 : decode cX7_crowd 44 = .ok (.iconst 0, 1) := by decide +kernel
theorem dX7_crowd_45 : decode cX7_crowd 45 = .ok (.istore 6, 2) := by decide +kernel
theorem dX7_crowd_47 : decode cX7_crowd 47 = .ok (.iload 6, 2) := by decide +kernel
theorem dX7_crowd_49 : decode cX7_crowd 49 = .ok (.iload 4, 2) := by decide +kernel
theorem dX7_crowd_51 : decode cX7_crowd 51 = .ok (.if_icmp .ge 116, 3) := by decide +kernel
theorem dX7_crowd_54 : decode cX7_crowd 54 = .ok (.bipush 24, 2) := by decide +kernel
theorem dX7_crowd_56 : decode cX7_crowd 56 = .ok (.iload_n 1, 1) := by decide +kernel
theorem dX7_crowd_57 : decode cX7_crowd 57 = .ok (.imul, 1) := by decide +kernel
theorem dX7_crowd_58 : decode cX7_crowd 58 = .ok (.iload_n 3, 1) := by decide +kernel
theorem dX7_crowd_59 : decode cX7_crowd 59 = .ok (.iadd, 1) := by decide +kernel
theorem dX7_crowd_60 : decode cX7_crowd 60 = .ok (.iconst 5, 1) := by decide +kernel
theorem dX7_crowd_61 : decode cX7_crowd 61 = .ok (.iload 6, 2) := by decide +kernel
theorem dX7_crowd_63 : decode cX7_crowd 63 = .ok (.imul, 1) := by decide +kernel
theorem dX7_crowd_64 : decode cX7_crowd 64 = .ok (.iadd, 1) := by decide +kernel
theorem dX7_crowd_65 : decode cX7_crowd 65 = .ok (.istore 7, 2) := by decide +kernel
theorem dX7_crowd_67 : decode cX7_crowd 67 = .ok (.aload_n 0, 1) := by decide +kernel
theorem dX7_crowd_68 : decode cX7_crowd 68 = .ok (.getfield 95, 3) := by decide +kernel
theorem dX7_crowd_71 : decode cX7_crowd 71 = .ok (.iload 7, 2) := by decide +kernel
theorem dX7_crowd_73 : decode cX7_crowd 73 = .ok (.iaload, 1) := by decide +kernel
theorem dX7_crowd_74 : decode cX7_crowd 74 = .ok (.i2l, 1) := by decide +kernel
theorem dX7_crowd_75 : decode cX7_crowd 75 = .ok (.aload_n 0, 1) := by decide +kernel
theorem dX7_crowd_76 : decode cX7_crowd 76 = .ok (.getfield 95, 3) := by decide +kernel
theorem dX7_crowd_79 : decode cX7_crowd 79 = .ok (.iload 7, 2) := by decide +kernel
theorem dX7_crowd_81 : decode cX7_crowd 81 = .ok (.iconst 1, 1) := by decide +kernel
theorem dX7_crowd_82 : decode cX7_crowd 82 = .ok (.iadd, 1) := by decide +kernel
theorem dX7_crowd_83 : decode cX7_crowd 83 = .ok (.iaload, 1) := by decide +kernel
theorem dX7_crowd_84 : decode cX7_crowd 84 = .ok (.i2l, 1) := by decide +kernel
theorem dX7_crowd_85 : decode cX7_crowd 85 = .ok (.aload_n 0, 1) := by decide +kernel
theorem dX7_crowd_86 : decode cX7_crowd 86 = .ok (.getfield 95, 3) := by decide +kernel
theorem dX7_crowd_89 : decode cX7_crowd 89 = .ok (.iload 7, 2) := by decide +kernel
theorem dX7_crowd_91 : decode cX7_crowd 91 = .ok (.iconst 2, 1) := by decide +kernel
theorem dX7_crowd_92 : decode cX7_crowd 92 = .ok (.iadd, 1) := by decide +kernel
theorem dX7_crowd_93 : decode cX7_crowd 93 = .ok (.iaload, 1) := by decide +kernel
theorem dX7_crowd_94 : decode cX7_crowd 94 = .ok (.i2l, 1) := by decide +kernel
theorem dX7_crowd_95 : decode cX7_crowd 95 = .ok (.aload_n 0, 1) := by decide +kernel
theorem dX7_crowd_96 : decode cX7_crowd 96 = .ok (.getfield 95, 3) := by decide +kernel
theorem dX7_crowd_99 : decode cX7_crowd 99 = .ok (.iload 7, 2) := by decide +kernel
theorem dX7_crowd_101 : decode cX7_crowd 101 = .ok (.iconst 3, 1) := by decide +kernel
theorem dX7_crowd_102 : decode cX7_crowd 102 = .ok (.iadd, 1) := by decide +kernel
theorem dX7_crowd_103 : decode cX7_crowd 103 = .ok (.iaload, 1) := by decide +kernel
theorem dX7_crowd_104 : decode cX7_crowd 104 = .ok (.i2l, 1) := by decide +kernel
theorem dX7_crowd_105 : decode cX7_crowd 105 = .ok (.aload_n 0, 1) := by decide +kernel
theorem dX7_crowd_106 : decode cX7_crowd 106 = .ok (.getfield 95, 3) := by decide +kernel
theorem dX7_crowd_109 : decode cX7_crowd 109 = .ok (.iload 7, 2) := by decide +kernel
theorem dX7_crowd_111 : decode cX7_crowd 111 = .ok (.iconst 4, 1) := by decide +kernel
theorem dX7_crowd_112 : decode cX7_crowd 112 = .ok (.iadd, 1) := by decide +kernel
theorem dX7_crowd_113 : decode cX7_crowd 113 = .ok (.iaload, 1) := by decide +kernel
theorem dX7_crowd_114 : decode cX7_crowd 114 = .ok (.i2l, 1) := by decide +kernel
theorem dX7_crowd_115 : decode cX7_crowd 115 = .ok (.invokestatic 124, 3) := by decide +kernel
theorem dX7_crowd_118 : decode cX7_crowd 118 = .ok (.ifCond .ne 6, 3) := by decide +kernel
theorem dX7_crowd_121 : decode cX7_crowd 121 = .ok (.bipush (-2), 2) := by decide +kernel
theorem dX7_crowd_123 : decode cX7_crowd 123 = .ok (.ireturn, 1) := by decide +kernel
theorem dX7_crowd_124 : decode cX7_crowd 124 = .ok (.iconst 0, 1) := by decide +kernel
theorem dX7_crowd_125 : decode cX7_crowd 125 = .ok (.istore 8, 2) := by decide +kernel
theorem dX7_crowd_127 : decode cX7_crowd 127 = .ok (.iload 8, 2) := by decide +kernel
theorem dX7_crowd_129 : decode cX7_crowd 129 = .ok (.iconst 5, 1) := by decide +kernel
theorem dX7_crowd_130 : decode cX7_crowd 130 = .ok (.if_icmp .ge 31, 3) := by decide +kernel
theorem dX7_crowd_133 : decode cX7_crowd 133 = .ok (.aload_n 0, 1) := by decide +kernel
theorem dX7_crowd_134 : decode cX7_crowd 134 = .ok (.getfield 23, 3) := by decide +kernel
theorem dX7_crowd_137 : decode cX7_crowd 137 = .ok (.iconst 5, 1) := by decide +kernel
theorem dX7_crowd_138 : decode cX7_crowd 138 = .ok (.iload 6, 2) := by decide +kernel
theorem dX7_crowd_140 : decode cX7_crowd 140 = .ok (.imul, 1) := by decide +kernel
theorem dX7_crowd_141 : decode cX7_crowd 141 = .ok (.iload 8, 2) := by decide +kernel
theorem dX7_crowd_143 : decode cX7_crowd 143 = .ok (.iadd, 1) := by decide +kernel
theorem dX7_crowd_144 : decode cX7_crowd 144 = .ok (.aload_n 0, 1) := by decide +kernel
theorem dX7_crowd_145 : decode cX7_crowd 145 = .ok (.getfield 95, 3) := by decide +kernel
theorem dX7_crowd_148 : decode cX7_crowd 148 = .ok (.iload 7, 2) := by decide +kernel
theorem dX7_crowd_150 : decode cX7_crowd 150 = .ok (.iload 8, 2) := by decide +kernel
theorem dX7_crowd_152 : decode cX7_crowd 152 = .ok (.iadd, 1) := by decide +kernel
theorem dX7_crowd_153 : decode cX7_crowd 153 = .ok (.iaload, 1) := by decide +kernel
theorem dX7_crowd_154 : decode cX7_crowd 154 = .ok (.iastore, 1) := by decide +kernel
theorem dX7_crowd_155 : decode cX7_crowd 155 = .ok (.iinc 8 1, 3) := by decide +kernel
theorem dX7_crowd_158 : decode cX7_crowd 158 = .ok (.goto (-31), 3) := by decide +kernel
theorem dX7_crowd_161 : decode cX7_crowd 161 = .ok (.iinc 6 1, 3) := by decide +kernel
theorem dX7_crowd_164 : decode cX7_crowd 164 = .ok (.goto (-117), 3) := by decide +kernel
theorem dX7_crowd_167 : decode cX7_crowd 167 = .ok (.aload_n 0, 1) := by decide +kernel
theorem dX7_crowd_168 : decode cX7_crowd 168 = .ok (.getfield 98, 3) := by decide +kernel
theorem dX7_crowd_171 : decode cX7_crowd 171 = .ok (.iload 4, 2) := by decide +kernel
theorem dX7_crowd_173 : decode cX7_crowd 173 = .ok (.iadd, 1) := by decide +kernel
theorem dX7_crowd_174 : decode cX7_crowd 174 = .ok (.bipush 10, 2) := by decide +kernel
theorem dX7_crowd_176 : decode cX7_crowd 176 = .ok (.if_icmp .le 6, 3) := by decide +kernel
theorem dX7_crowd_179 : decode cX7_crowd 179 = .ok (.bipush (-3), 2) := by decide +kernel
theorem dX7_crowd_181 : decode cX7_crowd 181 = .ok (.ireturn, 1) := by decide +kernel
theorem dX7_crowd_182 : decode cX7_crowd 182 = .ok (.aload_n 0, 1) := by decide +kernel
theorem dX7_crowd_183 : decode cX7_crowd 183 = .ok (.iload 4, 2) := by decide +kernel
theorem dX7_crowd_185 : decode cX7_crowd 185 = .ok (.putfield 169, 3) := by decide +kernel
theorem dX7_crowd_188 : decode cX7_crowd 188 = .ok (.aload_n 0, 1) := by decide +kernel
theorem dX7_crowd_189 : decode cX7_crowd 189 = .ok (.invokevirtual 188, 3) := by decide +kernel
theorem dX7_crowd_192 : decode cX7_crowd 192 = .ok (.iload 4, 2) := by decide +kernel
theorem dX7_crowd_194 : decode cX7_crowd 194 = .ok (.ireturn, 1) := by decide +kernel
theorem dX7_film_0 : decode cX7_film 0 = .ok (.iload_n 1, 1) := by decide +kernel
theorem dX7_film_1 : decode cX7_film 1 = .ok (.iload_n 2, 1) := by decide +kernel
theorem dX7_film_2 : decode cX7_film 2 = .ok (.invokestatic 320, 3) := by decide +kernel
theorem dX7_film_5 : decode cX7_film 5 = .ok (.ifCond .ne 5, 3) := by decide +kernel
theorem dX7_film_8 : decode cX7_film 8 = .ok (.iconst (-1), 1) := by decide +kernel
theorem dX7_film_9 : decode cX7_film 9 = .ok (.ireturn, 1) := by decide +kernel
theorem dX7_film_10 : decode cX7_film 10 = .ok (.aload_n 0, 1) := by decide +kernel
theorem dX7_film_11 : decode cX7_film 11 = .ok (.iload_n 1, 1) := by decide +kernel
theorem dX7_film_12 : decode cX7_film 12 = .ok (.iload_n 2, 1) := by decide +kernel
theorem dX7_film_13 : decode cX7_film 13 = .ok (.iload_n 3, 1) := by decide +kernel
theorem dX7_film_14 : decode cX7_film 14 = .ok (.aload_n 0, 1) := by decide +kernel
theorem dX7_film_15 : decode cX7_film 15 = .ok (.getfield 98, 3) := by decide +kernel
theorem dX7_film_18 : decode cX7_film 18 = .ok (.invokevirtual 323, 3) := by decide +kernel
theorem dX7_film_21 : decode cX7_film 21 = .ok (.istore 4, 2) := by decide +kernel
theorem dX7_film_23 : decode cX7_film 23 = .ok (.iload 4, 2) := by decide +kernel
theorem dX7_film_25 : decode cX7_film 25 = .ok (.ifCond .ge 6, 3) := by decide +kernel
theorem dX7_film_28 : decode cX7_film 28 = .ok (.iload 4, 2) := by decide +kernel
theorem dX7_film_30 : decode cX7_film 30 = .ok (.ireturn, 1) := by decide +kernel
theorem dX7_film_31 : decode cX7_film 31 = .ok (.aload_n 0, 1) := by decide +kernel
theorem dX7_film_32 : decode cX7_film 32 = .ok (.invokevirtual 245, 3) := by decide +kernel
theorem dX7_film_35 : decode cX7_film 35 = .ok (.iconst 0, 1) := by decide +kernel
theorem dX7_film_36 : decode cX7_film 36 = .ok (.istore 5, 2) := by decide +kernel
theorem dX7_film_38 : decode cX7_film 38 = .ok (.iload 5, 2) := by decide +kernel
theorem dX7_film_40 : decode cX7_film 40 = .ok (.aload_n 0, 1) := by decide +kernel
theorem dX7_film_41 : decode cX7_film 41 = .ok (.getfield 98, 3) := by decide +kernel
theorem dX7_film_44 : decode cX7_film 44 = .ok (.if_icmp .ge 50, 3) := by decide +kernel
theorem dX7_film_47 : decode cX7_film 47 = .ok (.aload_n 0, 1) := by decide +kernel
theorem dX7_film_48 : decode cX7_film 48 = .ok (.getfield 95, 3) := by decide +kernel
theorem dX7_film_51 : decode cX7_film 51 = .ok (.bipush 24, 2) := by decide +kernel
theorem dX7_film_53 : decode cX7_film 53 = .ok (.iload_n 1, 1) := by decide +kernel
theorem dX7_film_54 : decode cX7_film 54 = .ok (.imul, 1) := by decide +kernel
theorem dX7_film_55 : decode cX7_film 55 = .ok (.iload_n 3, 1) := by decide +kernel
theorem dX7_film_56 : decode cX7_film 56 = .ok (.iadd, 1) := by decide +kernel
theorem dX7_film_57 : decode cX7_film 57 = .ok (.iload 5, 2) := by decide +kernel
theorem dX7_film_59 : decode cX7_film 59 = .ok (.iadd, 1) := by decide +kernel
theorem dX7_film_60 : decode cX7_film 60 = .ok (.iload_n 2, 1) := by decide +kernel
theorem dX7_film_61 : decode cX7_film 61 = .ok (.aload_n 0, 1) := by decide +kernel
theorem dX7_film_62 : decode cX7_film 62 = .ok (.getfield 56, 3) := by decide +kernel
theorem dX7_film_65 : decode cX7_film 65 = .ok (.iload 5, 2) := by decide +kernel
theorem dX7_film_67 : decode cX7_film 67 = .ok (.iaload, 1) := by decide +kernel
theorem dX7_film_68 : decode cX7_film 68 = .ok (.ifCond .ge 9, 3) := by decide +kernel
theorem dX7_film_71 : decode cX7_film 71 = .ok (.sipush 1000, 3) := by decide +kernel
theorem dX7_film_74 : decode cX7_film 74 = .ok (.goto 10, 3) := by decide +kernel
theorem dX7_film_77 : decode cX7_film 77 = .ok (.aload_n 0, 1) := by decide +kernel
theorem dX7_film_78 : decode cX7_film 78 = .ok (.getfield 56, 3) := by decide +kernel
theorem dX7_film_81 : decode cX7_film 81 = .ok (.iload 5, 2) := by decide +kernel
theorem dX7_film_83 : decode cX7_film 83 = .ok (.iaload, 1) := by decide +kernel
theorem dX7_film_84 : decode cX7_film 84 = .ok (.invokestatic 326, 3) := by decide +kernel
theorem dX7_film_87 : decode cX7_film 87 = .ok (.iastore, 1) := by decide +kernel
theorem dX7_film_88 : decode cX7_film 88 = .ok (.iinc 5 1, 3) := by decide +kernel
theorem dX7_film_91 : decode cX7_film 91 = .ok (.goto (-53), 3) := by decide +kernel
theorem dX7_film_94 : decode cX7_film 94 = .ok (.aload_n 0, 1) := by decide +kernel
theorem dX7_film_95 : decode cX7_film 95 = .ok (.getfield 98, 3) := by decide +kernel
theorem dX7_film_98 : decode cX7_film 98 = .ok (.ireturn, 1) := by decide +kernel
