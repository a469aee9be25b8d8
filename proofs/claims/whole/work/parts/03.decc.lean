theorem dX4_init_0 : decode cX4_init 0 = .ok (.aload_n 0, 1) := by decide +kernel
theorem dX4_init_1 : decode cX4_init 1 = .ok (.invokespecial 3, 3) := by decide +kernel
theorem dX4_init_4 : decode cX4_init 4 = .ok (.aload_n 0, 1) := by decide +kernel
theorem dX4_init_5 : decode cX4_init 5 = .ok (.bipush 80, 2) := by decide +kernel
theorem dX4_init_7 : decode cX4_init 7 = .ok (.newarray .int, 2) := by decide +kernel
theorem dX4_init_9 : decode cX4_init 9 = .ok (.putfield 9, 3) := by decide +kernel
theorem dX4_init_12 : decode cX4_init 12 = .ok (.return_, 1) := by decide +kernel
theorem dX4_put_0 : decode cX4_put 0 = .ok (.aload_n 0, 1) := by decide +kernel
theorem dX4_put_1 : decode cX4_put 1 = .ok (.getfield 15, 3) := by decide +kernel
theorem dX4_put_4 : decode cX4_put 4 = .ok (.bipush 80, 2) := by decide +kernel
theorem dX4_put_6 : decode cX4_put 6 = .ok (.if_icmp .ge 23, 3) := by decide +kernel
theorem dX4_put_9 : decode cX4_put 9 = .ok (.aload_n 0, 1) := by decide +kernel
theorem dX4_put_10 : decode cX4_put 10 = .ok (.getfield 9, 3) := by decide +kernel
theorem dX4_put_13 : decode cX4_put 13 = .ok (.aload_n 0, 1) := by decide +kernel
theorem dX4_put_14 : decode cX4_put 14 = .ok (.getfield 15, 3) := by decide +kernel
theorem dX4_put_17 : decode cX4_put 17 = .ok (.iload_n 1, 1) := by decide +kernel
theorem dX4_put_18 : decode cX4_put 18 = .ok (.iastore, 1) := by decide +kernel
theorem dX4_put_19 : decode cX4_put 19 = .ok (.aload_n 0, 1) := by decide +kernel
theorem dX4_put_20 : decode cX4_put 20 = .ok (.dup, 1) := by decide +kernel
theorem dX4_put_21 : decode cX4_put 21 = .ok (.getfield 15, 3) := by decide +kernel
theorem dX4_put_24 : decode cX4_put 24 = .ok (.iconst 1, 1) := by decide +kernel
theorem dX4_put_25 : decode cX4_put 25 = .ok (.iadd, 1) := by decide +kernel
theorem dX4_put_26 : decode cX4_put 26 = .ok (.putfield 15, 3) := by decide +kernel
theorem dX4_put_29 : decode cX4_put 29 = .ok (.return_, 1) := by decide +kernel
theorem dX4_readLaws_0 : decode cX4_readLaws 0 = .ok (.aload_n 0, 1) := by decide +kernel
theorem dX4_readLaws_1 : decode cX4_readLaws 1 = .ok (.iconst 0, 1) := by decide +kernel
theorem dX4_readLaws_2 : decode cX4_readLaws 2 = .ok (.putfield 19, 3) := by decide +kernel
theorem dX4_readLaws_5 : decode cX4_readLaws 5 = .ok (.iconst 0, 1) := by decide +kernel
theorem dX4_readLaws_6 : decode cX4_readLaws 6 = .ok (.istore_n 2, 1) := by decide +kernel
theorem dX4_readLaws_7 : decode cX4_readLaws 7 = .ok (.iconst 0, 1) := by decide +kernel
theorem dX4_readLaws_8 : decode cX4_readLaws 8 = .ok (.istore_n 3, 1) := by decide +kernel
theorem dX4_readLaws_9 : decode cX4_readLaws 9 = .ok (.iload_n 3, 1) := by decide +kernel
theorem dX4_readLaws_10 : decode cX4_readLaws 10 = .ok (.bipush 6, 2) := by decide +kernel
theorem dX4_readLaws_12 : decode cX4_readLaws 12 = .ok (.if_icmp .ge 67, 3) := by decide +kernel
theorem dX4_readLaws_15 : decode cX4_readLaws 15 = .ok (.aload_n 1, 1) := by decide +kernel
theorem dX4_readLaws_16 : decode cX4_readLaws 16 = .ok (.iload_n 3, 1) := by decide +kernel
theorem dX4_readLaws_17 : decode cX4_readLaws 17 = .ok (.iconst (-1), 1) := by decide +kernel
theorem dX4_readLaws_18 : decode cX4_readLaws 18 = .ok (.iastore, 1) := by decide +kernel
theorem dX4_readLaws_19 : decode cX4_readLaws 19 = .ok (.aload_n 0, 1) := by decide +kernel
theorem dX4_readLaws_20 : decode cX4_readLaws 20 = .ok (.invokevirtual 22, 3) := by decide +kernel
theorem dX4_readLaws_23 : decode cX4_readLaws 23 = .ok (.ldc 26, 2) := by decide +kernel
theorem dX4_readLaws_25 : decode cX4_readLaws 25 = .ok (.iload_n 3, 1) := by decide +kernel
theorem dX4_readLaws_26 : decode cX4_readLaws 26 = .ok (.invokevirtual 28, 3) := by decide +kernel
theorem dX4_readLaws_29 : decode cX4_readLaws 29 = .ok (.if_icmp .ne 44, 3) := by decide +kernel
theorem dX4_readLaws_32 : decode cX4_readLaws 32 = .ok (.aload_n 0, 1) := by decide +kernel
theorem dX4_readLaws_33 : decode cX4_readLaws 33 = .ok (.dup, 1) := by decide +kernel
theorem dX4_readLaws_34 : decode cX4_readLaws 34 = .ok (.getfield 19, 3) := by decide +kernel
theorem dX4_readLaws_37 : decode cX4_readLaws 37 = .ok (.iconst 1, 1) := by decide +kernel
theorem dX4_readLaws_38 : decode cX4_readLaws 38 = .ok (.iadd, 1) := by decide +kernel
theorem dX4_readLaws_39 : decode cX4_readLaws 39 = .ok (.putfield 19, 3) := by decide +kernel
theorem dX4_readLaws_42 : decode cX4_readLaws 42 = .ok (.aload_n 1, 1) := by decide +kernel
theorem dX4_readLaws_43 : decode cX4_readLaws 43 = .ok (.iload_n 3, 1) := by decide +kernel
theorem dX4_readLaws_44 : decode cX4_readLaws 44 = .ok (.aload_n 0, 1) := by decide +kernel
theorem dX4_readLaws_45 : decode cX4_readLaws 45 = .ok (.getstatic 34, 3) := by decide +kernel
theorem dX4_readLaws_48 : decode cX4_readLaws 48 = .ok (.iload_n 3, 1) := by decide +kernel
theorem dX4_readLaws_49 : decode cX4_readLaws 49 = .ok (.iaload, 1) := by decide +kernel
theorem dX4_readLaws_50 : decode cX4_readLaws 50 = .ok (.getstatic 37, 3) := by decide +kernel
theorem dX4_readLaws_53 : decode cX4_readLaws 53 = .ok (.iload_n 3, 1) := by decide +kernel
theorem dX4_readLaws_54 : decode cX4_readLaws 54 = .ok (.iaload, 1) := by decide +kernel
theorem dX4_readLaws_55 : decode cX4_readLaws 55 = .ok (.invokevirtual 40, 3) := by decide +kernel
theorem dX4_readLaws_58 : decode cX4_readLaws 58 = .ok (.iastore, 1) := by decide +kernel
theorem dX4_readLaws_59 : decode cX4_readLaws 59 = .ok (.aload_n 1, 1) := by decide +kernel
theorem dX4_readLaws_60 : decode cX4_readLaws 60 = .ok (.iload_n 3, 1) := by decide +kernel
theorem dX4_readLaws_61 : decode cX4_readLaws 61 = .ok (.iaload, 1) := by decide +kernel
theorem dX4_readLaws_62 : decode cX4_readLaws 62 = .ok (.ifCond .ge 8, 3) := by decide +kernel
theorem dX4_readLaws_65 : decode cX4_readLaws 65 = .ok (.aload_n 0, 1) := by decide +kernel
theorem dX4_readLaws_66 : decode cX4_readLaws 66 = .ok (.invokevirtual 44, 3) := by decide +kernel
theorem dX4_readLaws_69 : decode cX4_readLaws 69 = .ok (.ireturn, 1) := by decide +kernel
theorem dX4_readLaws_70 : decode cX4_readLaws 70 = .ok (.iinc 2 1, 3) := by decide +kernel
theorem dX4_readLaws_73 : decode cX4_readLaws 73 = .ok (.iinc 3 1, 3) := by decide +kernel
theorem dX4_readLaws_76 : decode cX4_readLaws 76 = .ok (.goto (-67), 3) := by decide +kernel
theorem dX4_readLaws_79 : decode cX4_readLaws 79 = .ok (.iload_n 2, 1) := by decide +kernel
theorem dX4_readLaws_80 : decode cX4_readLaws 80 = .ok (.ifCond .eq 11, 3) := by decide +kernel
theorem dX4_readLaws_83 : decode cX4_readLaws 83 = .ok (.aload_n 0, 1) := by decide +kernel
theorem dX4_readLaws_84 : decode cX4_readLaws 84 = .ok (.invokevirtual 22, 3) := by decide +kernel
theorem dX4_readLaws_87 : decode cX4_readLaws 87 = .ok (.iconst (-1), 1) := by decide +kernel
theorem dX4_readLaws_88 : decode cX4_readLaws 88 = .ok (.if_icmp .eq 10, 3) := by decide +kernel
theorem dX4_readLaws_91 : decode cX4_readLaws 91 = .ok (.aload_n 0, 1) := by decide +kernel
theorem dX4_readLaws_92 : decode cX4_readLaws 92 = .ok (.invokevirtual 44, 3) := by decide +kernel
theorem dX4_readLaws_95 : decode cX4_readLaws 95 = .ok (.goto 4, 3) := by decide +kernel
theorem dX4_readLaws_98 : decode cX4_readLaws 98 = .ok (.iload_n 2, 1) := by decide +kernel
theorem dX4_readLaws_99 : decode cX4_readLaws 99 = .ok (.ireturn, 1) := by decide +kernel
theorem dX4_readPeople_0 : decode cX4_readPeople 0 = .ok (.aload_n 0, 1) := by decide +kernel
theorem dX4_readPeople_1 : decode cX4_readPeople 1 = .ok (.iconst 0, 1) := by decide +kernel
theorem dX4_readPeople_2 : decode cX4_readPeople 2 = .ok (.putfield 19, 3) := by decide +kernel
theorem dX4_readPeople_5 : decode cX4_readPeople 5 = .ok (.iconst 1, 1) := by decide +kernel
theorem dX4_readPeople_6 : decode cX4_readPeople 6 = .ok (.istore_n 2, 1) := by decide +kernel
theorem dX4_readPeople_7 : decode cX4_readPeople 7 = .ok (.iload_n 2, 1) := by decide +kernel
theorem dX4_readPeople_8 : decode cX4_readPeople 8 = .ok (.bipush 6, 2) := by decide +kernel
theorem dX4_readPeople_10 : decode cX4_readPeople 10 = .ok (.if_icmp .gt 66, 3) := by decide +kernel
theorem dX4_readPeople_13 : decode cX4_readPeople 13 = .ok (.aload_n 0, 1) := by decide +kernel
theorem dX4_readPeople_14 : decode cX4_readPeople 14 = .ok (.aload_n 1, 1) := by decide +kernel
theorem dX4_readPeople_15 : decode cX4_readPeople 15 = .ok (.iload_n 2, 1) := by decide +kernel
theorem dX4_readPeople_16 : decode cX4_readPeople 16 = .ok (.iconst 1, 1) := by decide +kernel
theorem dX4_readPeople_17 : decode cX4_readPeople 17 = .ok (.isub, 1) := by decide +kernel
theorem dX4_readPeople_18 : decode cX4_readPeople 18 = .ok (.iconst 5, 1) := by decide +kernel
theorem dX4_readPeople_19 : decode cX4_readPeople 19 = .ok (.imul, 1) := by decide +kernel
theorem dX4_readPeople_20 : decode cX4_readPeople 20 = .ok (.invokevirtual 47, 3) := by decide +kernel
theorem dX4_readPeople_23 : decode cX4_readPeople 23 = .ok (.ifCond .ne 8, 3) := by decide +kernel
theorem dX4_readPeople_26 : decode cX4_readPeople 26 = .ok (.aload_n 0, 1) := by decide +kernel
theorem dX4_readPeople_27 : decode cX4_readPeople 27 = .ok (.invokevirtual 44, 3) := by decide +kernel
theorem dX4_readPeople_30 : decode cX4_readPeople 30 = .ok (.ireturn, 1) := by decide +kernel
theorem dX4_readPeople_31 : decode cX4_readPeople 31 = .ok (.aload_n 0, 1) := by decide +kernel
theorem dX4_readPeople_32 : decode cX4_readPeople 32 = .ok (.invokevirtual 22, 3) := by decide +kernel
theorem dX4_readPeople_35 : decode cX4_readPeople 35 = .ok (.istore_n 3, 1) := by decide +kernel
theorem dX4_readPeople_36 : decode cX4_readPeople 36 = .ok (.iload_n 3, 1) := by decide +kernel
theorem dX4_readPeople_37 : decode cX4_readPeople 37 = .ok (.iconst (-1), 1) := by decide +kernel
theorem dX4_readPeople_38 : decode cX4_readPeople 38 = .ok (.if_icmp .ne 5, 3) := by decide +kernel
theorem dX4_readPeople_41 : decode cX4_readPeople 41 = .ok (.iload_n 2, 1) := by decide +kernel
theorem dX4_readPeople_42 : decode cX4_readPeople 42 = .ok (.ireturn, 1) := by decide +kernel
theorem dX4_readPeople_43 : decode cX4_readPeople 43 = .ok (.iload_n 3, 1) := by decide +kernel
theorem dX4_readPeople_44 : decode cX4_readPeople 44 = .ok (.bipush 59, 2) := by decide +kernel
theorem dX4_readPeople_46 : decode cX4_readPeople 46 = .ok (.if_icmp .ne 9, 3) := by decide +kernel
theorem dX4_readPeople_49 : decode cX4_readPeople 49 = .ok (.iload_n 2, 1) := by decide +kernel
theorem dX4_readPeople_50 : decode cX4_readPeople 50 = .ok (.bipush 6, 2) := by decide +kernel
theorem dX4_readPeople_52 : decode cX4_readPeople 52 = .ok (.if_icmp .ne 8, 3) := by decide +kernel
theorem dX4_readPeople_55 : decode cX4_readPeople 55 = .ok (.aload_n 0, 1) := by decide +kernel
theorem dX4_readPeople_56 : decode cX4_readPeople 56 = .ok (.invokevirtual 44, 3) := by decide +kernel
theorem dX4_readPeople_59 : decode cX4_readPeople 59 = .ok (.ireturn, 1) := by decide +kernel
theorem dX4_readPeople_60 : decode cX4_readPeople 60 = .ok (.aload_n 0, 1) := by decide +kernel
theorem dX4_readPeople_61 : decode cX4_readPeople 61 = .ok (.dup, 1) := by decide +kernel
theorem dX4_readPeople_62 : decode cX4_readPeople 62 = .ok (.getfield 19, 3) := by decide +kernel
theorem dX4_readPeople_65 : decode cX4_readPeople 65 = .ok (.iconst 1, 1) := by decide +kernel
theorem dX4_readPeople_66 : decode cX4_readPeople 66 = .ok (.iadd, 1) := by decide +kernel
theorem dX4_readPeople_67 : decode cX4_readPeople 67 = .ok (.putfield 19, 3) := by decide +kernel
theorem dX4_readPeople_70 : decode cX4_readPeople 70 = .ok (.iinc 2 1, 3) := by decide +kernel
theorem dX4_readPeople_73 : decode cX4_readPeople 73 = .ok (.goto (-66), 3) := by decide +kernel
theorem dX4_readPeople_76 : decode cX4_readPeople 76 = .ok (.aload_n 0, 1) := by decide +kernel
theorem dX4_readPeople_77 : decode cX4_readPeople 77 = .ok (.invokevirtual 44, 3) := by decide +kernel
theorem dX4_readPeople_80 : decode cX4_readPeople 80 = .ok (.ireturn, 1) := by decide +kernel
theorem dX4_readPerson_0 : decode cX4_readPerson 0 = .ok (.iload_n 2, 1) := by decide +kernel
theorem dX4_readPerson_1 : decode cX4_readPerson 1 = .ok (.ifCond .lt 11, 3) := by decide +kernel
theorem dX4_readPerson_4 : decode cX4_readPerson 4 = .ok (.iload_n 2, 1) := by decide +kernel
theorem dX4_readPerson_5 : decode cX4_readPerson 5 = .ok (.aload_n 1, 1) := by decide +kernel
theorem dX4_readPerson_6 : decode cX4_readPerson 6 = .ok (.arraylength, 1) := by decide +kernel
theorem dX4_readPerson_7 : decode cX4_readPerson 7 = .ok (.iconst 5, 1) := by decide +kernel
theorem dX4_readPerson_8 : decode cX4_readPerson 8 = .ok (.isub, 1) := by decide +kernel
theorem dX4_readPerson_9 : decode cX4_readPerson 9 = .ok (.if_icmp .le 5, 3) := by decide +kernel
theorem dX4_readPerson_12 : decode cX4_readPerson 12 = .ok (.iconst 0, 1) := by decide +kernel
theorem dX4_readPerson_13 : decode cX4_readPerson 13 = .ok (.ireturn, 1) := by decide +kernel
theorem dX4_readPerson_14 : decode cX4_readPerson 14 = .ok (.aload_n 1, 1) := by decide +kernel
theorem dX4_readPerson_15 : decode cX4_readPerson 15 = .ok (.iload_n 2, 1) := by decide +kernel
theorem dX4_readPerson_16 : decode cX4_readPerson 16 = .ok (.iconst 0, 1) := by decide +kernel
theorem dX4_readPerson_17 : decode cX4_readPerson 17 = .ok (.iadd, 1) := by decide +kernel
theorem dX4_readPerson_18 : decode cX4_readPerson 18 = .ok (.aload_n 0, 1) := by decide +kernel
theorem dX4_readPerson_19 : decode cX4_readPerson 19 = .ok (.getstatic 51, 3) := by decide +kernel
theorem dX4_readPerson_22 : decode cX4_readPerson 22 = .ok (.iconst 0, 1) := by decide +kernel
theorem dX4_readPerson_23 : decode cX4_readPerson 23 = .ok (.iaload, 1) := by decide +kernel
theorem dX4_readPerson_24 : decode cX4_readPerson 24 = .ok (.getstatic 54, 3) := by decide +kernel
theorem dX4_readPerson_27 : decode cX4_readPerson 27 = .ok (.iconst 0, 1) := by decide +kernel
theorem dX4_readPerson_28 : decode cX4_readPerson 28 = .ok (.iaload, 1) := by decide +kernel
theorem dX4_readPerson_29 : decode cX4_readPerson 29 = .ok (.invokevirtual 40, 3) := by decide +kernel
theorem dX4_readPerson_32 : decode cX4_readPerson 32 = .ok (.iastore, 1) := by decide +kernel
theorem dX4_readPerson_33 : decode cX4_readPerson 33 = .ok (.aload_n 1, 1) := by decide +kernel
theorem dX4_readPerson_34 : decode cX4_readPerson 34 = .ok (.iload_n 2, 1) := by decide +kernel
theorem dX4_readPerson_35 : decode cX4_readPerson 35 = .ok (.iconst 0, 1) := by decide +kernel
theorem dX4_readPerson_36 : decode cX4_readPerson 36 = .ok (.iadd, 1) := by decide +kernel
theorem dX4_readPerson_37 : decode cX4_readPerson 37 = .ok (.iaload, 1) := by decide +kernel
theorem dX4_readPerson_38 : decode cX4_readPerson 38 = .ok (.ifCond .ge 5, 3) := by decide +kernel
theorem dX4_readPerson_41 : decode cX4_readPerson 41 = .ok (.iconst 0, 1) := by decide +kernel
theorem dX4_readPerson_42 : decode cX4_readPerson 42 = .ok (.ireturn, 1) := by decide +kernel
theorem dX4_readPerson_43 : decode cX4_readPerson 43 = .ok (.aload_n 1, 1) := by decide +kernel
theorem dX4_readPerson_44 : decode cX4_readPerson 44 = .ok (.iload_n 2, 1) := by decide +kernel
theorem dX4_readPerson_45 : decode cX4_readPerson 45 = .ok (.iconst 1, 1) := by decide +kernel
theorem dX4_readPerson_46 : decode cX4_readPerson 46 = .ok (.iadd, 1) := by decide +kernel
theorem dX4_readPerson_47 : decode cX4_readPerson 47 = .ok (.aload_n 0, 1) := by decide +kernel
theorem dX4_readPerson_48 : decode cX4_readPerson 48 = .ok (.ldc 57, 2) := by decide +kernel
theorem dX4_readPerson_50 : decode cX4_readPerson 50 = .ok (.invokevirtual 59, 3) := by decide +kernel
theorem dX4_readPerson_53 : decode cX4_readPerson 53 = .ok (.iastore, 1) := by decide +kernel
theorem dX4_readPerson_54 : decode cX4_readPerson 54 = .ok (.aload_n 1, 1) := by decide +kernel
theorem dX4_readPerson_55 : decode cX4_readPerson 55 = .ok (.iload_n 2, 1) := by decide +kernel
theorem dX4_readPerson_56 : decode cX4_readPerson 56 = .ok (.iconst 1, 1) := by decide +kernel
theorem dX4_readPerson_57 : decode cX4_readPerson 57 = .ok (.iadd, 1) := by decide +kernel
theorem dX4_readPerson_58 : decode cX4_readPerson 58 = .ok (.iaload, 1) := by decide +kernel
theorem dX4_readPerson_59 : decode cX4_readPerson 59 = .ok (.ifCond .ge 5, 3) := by decide +kernel
theorem dX4_readPerson_62 : decode cX4_readPerson 62 = .ok (.iconst 0, 1) := by decide +kernel
theorem dX4_readPerson_63 : decode cX4_readPerson 63 = .ok (.ireturn, 1) := by decide +kernel
theorem dX4_readPerson_64 : decode cX4_readPerson 64 = .ok (.aload_n 1, 1) := by decide +kernel
theorem dX4_readPerson_65 : decode cX4_readPerson 65 = .ok (.iload_n 2, 1) := by decide +kernel
theorem dX4_readPerson_66 : decode cX4_readPerson 66 = .ok (.iconst 2, 1) := by decide +kernel
theorem dX4_readPerson_67 : decode cX4_readPerson 67 = .ok (.iadd, 1) := by decide +kernel
theorem dX4_readPerson_68 : decode cX4_readPerson 68 = .ok (.aload_n 0, 1) := by decide +kernel
theorem dX4_readPerson_69 : decode cX4_readPerson 69 = .ok (.ldc 63, 2) := by decide +kernel
theorem dX4_readPerson_71 : decode cX4_readPerson 71 = .ok (.invokevirtual 59, 3) := by decide +kernel
theorem dX4_readPerson_74 : decode cX4_readPerson 74 = .ok (.iastore, 1) := by decide +kernel
theorem dX4_readPerson_75 : decode cX4_readPerson 75 = .ok (.aload_n 1, 1) := by decide +kernel
theorem dX4_readPerson_76 : decode cX4_readPerson 76 = .ok (.iload_n 2, 1) := by decide +kernel
theorem dX4_readPerson_77 : decode cX4_readPerson 77 = .ok (.iconst 2, 1) := by decide +kernel
theorem dX4_readPerson_78 : decode cX4_readPerson 78 = .ok (.iadd, 1) := by decide +kernel
theorem dX4_readPerson_79 : decode cX4_readPerson 79 = .ok (.iaload, 1) := by decide +kernel
theorem dX4_readPerson_80 : decode cX4_readPerson 80 = .ok (.ifCond .ge 5, 3) := by decide +kernel
theorem dX4_readPerson_83 : decode cX4_readPerson 83 = .ok (.iconst 0, 1) := by decide +kernel
theorem dX4_readPerson_84 : decode cX4_readPerson 84 = .ok (.ireturn, 1) := by decide +kernel
theorem dX4_readPerson_85 : decode cX4_readPerson 85 = .ok (.aload_n 1, 1) := by decide +kernel
theorem dX4_readPerson_86 : decode cX4_readPerson 86 = .ok (.iload_n 2, 1) := by decide +kernel
theorem dX4_readPerson_87 : decode cX4_readPerson 87 = .ok (.iconst 3, 1) := by decide +kernel
theorem dX4_readPerson_88 : decode cX4_readPerson 88 = .ok (.iadd, 1) := by decide +kernel
theorem dX4_readPerson_89 : decode cX4_readPerson 89 = .ok (.aload_n 0, 1) := by decide +kernel
theorem dX4_readPerson_90 : decode cX4_readPerson 90 = .ok (.getstatic 51, 3) := by decide +kernel
theorem dX4_readPerson_93 : decode cX4_readPerson 93 = .ok (.iconst 3, 1) := by decide +kernel
theorem dX4_readPerson_94 : decode cX4_readPerson 94 = .ok (.iaload, 1) := by decide +kernel
theorem dX4_readPerson_95 : decode cX4_readPerson 95 = .ok (.getstatic 54, 3) := by decide +kernel
theorem dX4_readPerson_98 : decode cX4_readPerson 98 = .ok (.iconst 3, 1) := by decide +kernel
theorem dX4_readPerson_99 : decode cX4_readPerson 99 = .ok (.iaload, 1) := by decide +kernel
theorem dX4_readPerson_100 : decode cX4_readPerson 100 = .ok (.invokevirtual 40, 3) := by decide +kernel
theorem dX4_readPerson_103 : decode cX4_readPerson 103 = .ok (.iastore, 1) := by decide +kernel
theorem dX4_readPerson_104 : decode cX4_readPerson 104 = .ok (.aload_n 1, 1) := by decide +kernel
theorem dX4_readPerson_105 : decode cX4_readPerson 105 = .ok (.iload_n 2, 1) := by decide +kernel
theorem dX4_readPerson_106 : decode cX4_readPerson 106 = .ok (.iconst 3, 1) := by decide +kernel
theorem dX4_readPerson_107 : decode cX4_readPerson 107 = .ok (.iadd, 1) := by decide +kernel
theorem dX4_readPerson_108 : decode cX4_readPerson 108 = .ok (.iaload, 1) := by decide +kernel
theorem dX4_readPerson_109 : decode cX4_readPerson 109 = .ok (.ifCond .ge 5, 3) := by decide +kernel
theorem dX4_readPerson_112 : decode cX4_readPerson 112 = .ok (.iconst 0, 1) := by decide +kernel
theorem dX4_readPerson_113 : decode cX4_readPerson 113 = .ok (.ireturn, 1) := by decide +kernel
theorem dX4_readPerson_114 : decode cX4_readPerson 114 = .ok (.aload_n 1, 1) := by decide +kernel
theorem dX4_readPerson_115 : decode cX4_readPerson 115 = .ok (.iload_n 2, 1) := by decide +kernel
theorem dX4_readPerson_116 : decode cX4_readPerson 116 = .ok (.iconst 4, 1) := by decide +kernel
theorem dX4_readPerson_117 : decode cX4_readPerson 117 = .ok (.iadd, 1) := by decide +kernel
theorem dX4_readPerson_118 : decode cX4_readPerson 118 = .ok (.aload_n 0, 1) := by decide +kernel
theorem dX4_readPerson_119 : decode cX4_readPerson 119 = .ok (.invokevirtual 65, 3) := by decide +kernel
theorem dX4_readPerson_122 : decode cX4_readPerson 122 = .ok (.iastore, 1) := by decide +kernel
theorem dX4_readPerson_123 : decode cX4_readPerson 123 = .ok (.aload_n 1, 1) := by decide +kernel
theorem dX4_readPerson_124 : decode cX4_readPerson 124 = .ok (.iload_n 2, 1) := by decide +kernel
theorem dX4_readPerson_125 : decode cX4_readPerson 125 = .ok (.iconst 4, 1) := by decide +kernel
theorem dX4_readPerson_126 : decode cX4_readPerson 126 = .ok (.iadd, 1) := by decide +kernel
theorem dX4_readPerson_127 : decode cX4_readPerson 127 = .ok (.iaload, 1) := by decide +kernel
theorem dX4_readPerson_128 : decode cX4_readPerson 128 = .ok (.ifCond .le 7, 3) := by decide +kernel
theorem dX4_readPerson_131 : decode cX4_readPerson 131 = .ok (.iconst 1, 1) := by decide +kernel
theorem dX4_readPerson_132 : decode cX4_readPerson 132 = .ok (.goto 4, 3) := by decide +kernel
theorem dX4_readPerson_135 : decode cX4_readPerson 135 = .ok (.iconst 0, 1) := by decide +kernel
theorem dX4_readPerson_136 : decode cX4_readPerson 136 = .ok (.ireturn, 1) := by decide +kernel
theorem dX4_readTrips_0 : decode cX4_readTrips 0 = .ok (.aload_n 0, 1) := by decide +kernel
theorem dX4_readTrips_1 : decode cX4_readTrips 1 = .ok (.invokevirtual 22, 3) := by decide +kernel
theorem dX4_readTrips_4 : decode cX4_readTrips 4 = .ok (.bipush 116, 2) := by decide +kernel
theorem dX4_readTrips_6 : decode cX4_readTrips 6 = .ok (.if_icmp .eq 5, 3) := by decide +kernel
theorem dX4_readTrips_9 : decode cX4_readTrips 9 = .ok (.iconst 1, 1) := by decide +kernel
theorem dX4_readTrips_10 : decode cX4_readTrips 10 = .ok (.ireturn, 1) := by decide +kernel
theorem dX4_readTrips_11 : decode cX4_readTrips 11 = .ok (.aload_n 0, 1) := by decide +kernel
theorem dX4_readTrips_12 : decode cX4_readTrips 12 = .ok (.dup, 1) := by decide +kernel
theorem dX4_readTrips_13 : decode cX4_readTrips 13 = .ok (.getfield 19, 3) := by decide +kernel
theorem dX4_readTrips_16 : decode cX4_readTrips 16 = .ok (.iconst 1, 1) := by decide +kernel
theorem dX4_readTrips_17 : decode cX4_readTrips 17 = .ok (.iadd, 1) := by decide +kernel
theorem dX4_readTrips_18 : decode cX4_readTrips 18 = .ok (.putfield 19, 3) := by decide +kernel
theorem dX4_readTrips_21 : decode cX4_readTrips 21 = .ok (.aload_n 0, 1) := by decide +kernel
theorem dX4_readTrips_22 : decode cX4_readTrips 22 = .ok (.invokevirtual 22, 3) := by decide +kernel
theorem dX4_readTrips_25 : decode cX4_readTrips 25 = .ok (.bipush 48, 2) := by decide +kernel
theorem dX4_readTrips_27 : decode cX4_readTrips 27 = .ok (.isub, 1) := by decide +kernel
theorem dX4_readTrips_28 : decode cX4_readTrips 28 = .ok (.istore_n 1, 1) := by decide +kernel
theorem dX4_readTrips_29 : decode cX4_readTrips 29 = .ok (.iload_n 1, 1) := by decide +kernel
theorem dX4_readTrips_30 : decode cX4_readTrips 30 = .ok (.getstatic 51, 3) := by decide +kernel
theorem dX4_readTrips_33 : decode cX4_readTrips 33 = .ok (.iconst 4, 1) := by decide +kernel
theorem dX4_readTrips_34 : decode cX4_readTrips 34 = .ok (.iaload, 1) := by decide +kernel
theorem dX4_readTrips_35 : decode cX4_readTrips 35 = .ok (.if_icmp .lt 12, 3) := by decide +kernel
theorem dX4_readTrips_38 : decode cX4_readTrips 38 = .ok (.iload_n 1, 1) := by decide +kernel
theorem dX4_readTrips_39 : decode cX4_readTrips 39 = .ok (.getstatic 54, 3) := by decide +kernel
theorem dX4_readTrips_42 : decode cX4_readTrips 42 = .ok (.iconst 4, 1) := by decide +kernel
theorem dX4_readTrips_43 : decode cX4_readTrips 43 = .ok (.iaload, 1) := by decide +kernel
theorem dX4_readTrips_44 : decode cX4_readTrips 44 = .ok (.if_icmp .le 5, 3) := by decide +kernel
theorem dX4_readTrips_47 : decode cX4_readTrips 47 = .ok (.iconst (-1), 1) := by decide +kernel
theorem dX4_readTrips_48 : decode cX4_readTrips 48 = .ok (.ireturn, 1) := by decide +kernel
theorem dX4_readTrips_49 : decode cX4_readTrips 49 = .ok (.aload_n 0, 1) := by decide +kernel
theorem dX4_readTrips_50 : decode cX4_readTrips 50 = .ok (.dup, 1) := by decide +kernel
theorem dX4_readTrips_51 : decode cX4_readTrips 51 = .ok (.getfield 19, 3) := by decide +kernel
theorem dX4_readTrips_54 : decode cX4_readTrips 54 = .ok (.iconst 1, 1) := by decide +kernel
theorem dX4_readTrips_55 : decode cX4_readTrips 55 = .ok (.iadd, 1) := by decide +kernel
theorem dX4_readTrips_56 : decode cX4_readTrips 56 = .ok (.putfield 19, 3) := by decide +kernel
theorem dX4_readTrips_59 : decode cX4_readTrips 59 = .ok (.iload_n 1, 1) := by decide +kernel
theorem dX4_readTrips_60 : decode cX4_readTrips 60 = .ok (.ireturn, 1) := by decide +kernel
theorem dX4_readLetter_0 : decode cX4_readLetter 0 = .ok (.aload_n 0, 1) := by decide +kernel
theorem dX4_readLetter_1 : decode cX4_readLetter 1 = .ok (.invokevirtual 22, 3) := by decide +kernel
theorem dX4_readLetter_4 : decode cX4_readLetter 4 = .ok (.istore_n 2, 1) := by decide +kernel
theorem dX4_readLetter_5 : decode cX4_readLetter 5 = .ok (.iload_n 2, 1) := by decide +kernel
theorem dX4_readLetter_6 : decode cX4_readLetter 6 = .ok (.iconst (-1), 1) := by decide +kernel
theorem dX4_readLetter_7 : decode cX4_readLetter 7 = .ok (.if_icmp .ne 7, 3) := by decide +kernel
theorem dX4_readLetter_10 : decode cX4_readLetter 10 = .ok (.iconst (-1), 1) := by decide +kernel
theorem dX4_readLetter_11 : decode cX4_readLetter 11 = .ok (.goto 9, 3) := by decide +kernel
theorem dX4_readLetter_14 : decode cX4_readLetter 14 = .ok (.aload_n 1, 1) := by decide +kernel
theorem dX4_readLetter_15 : decode cX4_readLetter 15 = .ok (.iload_n 2, 1) := by decide +kernel
theorem dX4_readLetter_16 : decode cX4_readLetter 16 = .ok (.i2c, 1) := by decide +kernel
theorem dX4_readLetter_17 : decode cX4_readLetter 17 = .ok (.invokevirtual 68, 3) := by decide +kernel
theorem dX4_readLetter_20 : decode cX4_readLetter 20 = .ok (.istore_n 3, 1) := by decide +kernel
theorem dX4_readLetter_21 : decode cX4_readLetter 21 = .ok (.iload_n 3, 1) := by decide +kernel
theorem dX4_readLetter_22 : decode cX4_readLetter 22 = .ok (.ifCond .lt 13, 3) := by decide +kernel
theorem dX4_readLetter_25 : decode cX4_readLetter 25 = .ok (.aload_n 0, 1) := by decide +kernel
theorem dX4_readLetter_26 : decode cX4_readLetter 26 = .ok (.dup, 1) := by decide +kernel
theorem dX4_readLetter_27 : decode cX4_readLetter 27 = .ok (.getfield 19, 3) := by decide +kernel
theorem dX4_readLetter_30 : decode cX4_readLetter 30 = .ok (.iconst 1, 1) := by decide +kernel
theorem dX4_readLetter_31 : decode cX4_readLetter 31 = .ok (.iadd, 1) := by decide +kernel
theorem dX4_readLetter_32 : decode cX4_readLetter 32 = .ok (.putfield 19, 3) := by decide +kernel
theorem dX4_readLetter_35 : decode cX4_readLetter 35 = .ok (.iload_n 3, 1) := by decide +kernel
theorem dX4_readLetter_36 : decode cX4_readLetter 36 = .ok (.ireturn, 1) := by decide +kernel
theorem dX4_readNumber_0 : decode cX4_readNumber 0 = .ok (.aload_n 0, 1) := by decide +kernel
theorem dX4_readNumber_1 : decode cX4_readNumber 1 = .ok (.invokevirtual 22, 3) := by decide +kernel
theorem dX4_readNumber_4 : decode cX4_readNumber 4 = .ok (.pop, 1) := by decide +kernel
theorem dX4_readNumber_5 : decode cX4_readNumber 5 = .ok (.aload_n 0, 1) := by decide +kernel
theorem dX4_readNumber_6 : decode cX4_readNumber 6 = .ok (.getfield 19, 3) := by decide +kernel
theorem dX4_readNumber_9 : decode cX4_readNumber 9 = .ok (.istore_n 3, 1) := by decide +kernel
theorem dX4_readNumber_10 : decode cX4_readNumber 10 = .ok (.iconst 0, 1) := by decide +kernel
theorem dX4_readNumber_11 : decode cX4_readNumber 11 = .ok (.istore 4, 2) := by decide +kernel
theorem dX4_readNumber_13 : decode cX4_readNumber 13 = .ok (.aload_n 0, 1) := by decide +kernel
theorem dX4_readNumber_14 : decode cX4_readNumber 14 = .ok (.getfield 19, 3) := by decide +kernel
theorem dX4_readNumber_17 : decode cX4_readNumber 17 = .ok (.aload_n 0, 1) := by decide +kernel
theorem dX4_readNumber_18 : decode cX4_readNumber 18 = .ok (.getfield 15, 3) := by decide +kernel
theorem dX4_readNumber_21 : decode cX4_readNumber 21 = .ok (.if_icmp .ge 69, 3) := by decide +kernel
theorem dX4_readNumber_24 : decode cX4_readNumber 24 = .ok (.aload_n 0, 1) := by decide +kernel
theorem dX4_readNumber_25 : decode cX4_readNumber 25 = .ok (.getfield 9, 3) := by decide +kernel
theorem dX4_readNumber_28 : decode cX4_readNumber 28 = .ok (.aload_n 0, 1) := by decide +kernel
theorem dX4_readNumber_29 : decode cX4_readNumber 29 = .ok (.getfield 19, 3) := by decide +kernel
theorem dX4_readNumber_32 : decode cX4_readNumber 32 = .ok (.iaload, 1) := by decide +kernel
theorem dX4_readNumber_33 : decode cX4_readNumber 33 = .ok (.bipush 48, 2) := by decide +kernel
theorem dX4_readNumber_35 : decode cX4_readNumber 35 = .ok (.if_icmp .lt 55, 3) := by decide +kernel
theorem dX4_readNumber_38 : decode cX4_readNumber 38 = .ok (.aload_n 0, 1) := by decide +kernel
theorem dX4_readNumber_39 : decode cX4_readNumber 39 = .ok (.getfield 9, 3) := by decide +kernel
theorem dX4_readNumber_42 : decode cX4_readNumber 42 = .ok (.aload_n 0, 1) := by decide +kernel
theorem dX4_readNumber_43 : decode cX4_readNumber 43 = .ok (.getfield 19, 3) := by decide +kernel
theorem dX4_readNumber_46 : decode cX4_readNumber 46 = .ok (.iaload, 1) := by decide +kernel
theorem dX4_readNumber_47 : decode cX4_readNumber 47 = .ok (.bipush 57, 2) := by decide +kernel
theorem dX4_readNumber_49 : decode cX4_readNumber 49 = .ok (.if_icmp .gt 41, 3) := by decide +kernel
theorem dX4_readNumber_52 : decode cX4_readNumber 52 = .ok (.iload 4, 2) := by decide +kernel
theorem dX4_readNumber_54 : decode cX4_readNumber 54 = .ok (.bipush 10, 2) := by decide +kernel
theorem dX4_readNumber_56 : decode cX4_readNumber 56 = .ok (.imul, 1) := by decide +kernel
theorem dX4_readNumber_57 : decode cX4_readNumber 57 = .ok (.aload_n 0, 1) := by decide +kernel
theorem dX4_readNumber_58 : decode cX4_readNumber 58 = .ok (.getfield 9, 3) := by decide +kernel
theorem dX4_readNumber_61 : decode cX4_readNumber 61 = .ok (.aload_n 0, 1) := by decide +kernel
theorem dX4_readNumber_62 : decode cX4_readNumber 62 = .ok (.getfield 19, 3) := by decide +kernel
theorem dX4_readNumber_65 : decode cX4_readNumber 65 = .ok (.iaload, 1) := by decide +kernel
theorem dX4_readNumber_66 : decode cX4_readNumber 66 = .ok (.iadd, 1) := by decide +kernel
theorem dX4_readNumber_67 : decode cX4_readNumber 67 = .ok (.bipush 48, 2) := by decide +kernel
theorem dX4_readNumber_69 : decode cX4_readNumber 69 = .ok (.isub, 1) := by decide +kernel
theorem dX4_readNumber_70 : decode cX4_readNumber 70 = .ok (.ldc 72, 2) := by decide +kernel
theorem dX4_readNumber_72 : decode cX4_readNumber 72 = .ok (.invokestatic 73, 3) := by decide +kernel
theorem dX4_readNumber_75 : decode cX4_readNumber 75 = .ok (.istore 4, 2) := by decide +kernel
theorem dX4_readNumber_77 : decode cX4_readNumber 77 = .ok (.aload_n 0, 1) := by decide +kernel
theorem dX4_readNumber_78 : decode cX4_readNumber 78 = .ok (.dup, 1) := by decide +kernel
theorem dX4_readNumber_79 : decode cX4_readNumber 79 = .ok (.getfield 19, 3) := by decide +kernel
theorem dX4_readNumber_82 : decode cX4_readNumber 82 = .ok (.iconst 1, 1) := by decide +kernel
theorem dX4_readNumber_83 : decode cX4_readNumber 83 = .ok (.iadd, 1) := by decide +kernel
theorem dX4_readNumber_84 : decode cX4_readNumber 84 = .ok (.putfield 19, 3) := by decide +kernel
theorem dX4_readNumber_87 : decode cX4_readNumber 87 = .ok (.goto (-74), 3) := by decide +kernel
theorem dX4_readNumber_90 : decode cX4_readNumber 90 = .ok (.aload_n 0, 1) := by decide +kernel
theorem dX4_readNumber_91 : decode cX4_readNumber 91 = .ok (.getfield 19, 3) := by decide +kernel
theorem dX4_readNumber_94 : decode cX4_readNumber 94 = .ok (.iload_n 3, 1) := by decide +kernel
theorem dX4_readNumber_95 : decode cX4_readNumber 95 = .ok (.if_icmp .eq 15, 3) := by decide +kernel
theorem dX4_readNumber_98 : decode cX4_readNumber 98 = .ok (.iload 4, 2) := by decide +kernel
theorem dX4_readNumber_100 : decode cX4_readNumber 100 = .ok (.iload_n 1, 1) := by decide +kernel
theorem dX4_readNumber_101 : decode cX4_readNumber 101 = .ok (.if_icmp .lt 9, 3) := by decide +kernel
theorem dX4_readNumber_104 : decode cX4_readNumber 104 = .ok (.iload 4, 2) := by decide +kernel
theorem dX4_readNumber_106 : decode cX4_readNumber 106 = .ok (.iload_n 2, 1) := by decide +kernel
theorem dX4_readNumber_107 : decode cX4_readNumber 107 = .ok (.if_icmp .le 10, 3) := by decide +kernel
theorem dX4_readNumber_110 : decode cX4_readNumber 110 = .ok (.aload_n 0, 1) := by decide +kernel
theorem dX4_readNumber_111 : decode cX4_readNumber 111 = .ok (.iload_n 3, 1) := by decide +kernel
theorem dX4_readNumber_112 : decode cX4_readNumber 112 = .ok (.putfield 19, 3) := by decide +kernel
theorem dX4_readNumber_115 : decode cX4_readNumber 115 = .ok (.iconst (-1), 1) := by decide +kernel
theorem dX4_readNumber_116 : decode cX4_readNumber 116 = .ok (.ireturn, 1) := by decide +kernel
theorem dX4_readNumber_117 : decode cX4_readNumber 117 = .ok (.iload 4, 2) := by decide +kernel
theorem dX4_readNumber_119 : decode cX4_readNumber 119 = .ok (.ireturn, 1) := by decide +kernel
theorem dX4_peek_0 : decode cX4_peek 0 = .ok (.aload_n 0, 1) := by decide +kernel
theorem dX4_peek_1 : decode cX4_peek 1 = .ok (.getfield 19, 3) := by decide +kernel
theorem dX4_peek_4 : decode cX4_peek 4 = .ok (.aload_n 0, 1) := by decide +kernel
theorem dX4_peek_5 : decode cX4_peek 5 = .ok (.getfield 15, 3) := by decide +kernel
theorem dX4_peek_8 : decode cX4_peek 8 = .ok (.if_icmp .ge 30, 3) := by decide +kernel
theorem dX4_peek_11 : decode cX4_peek 11 = .ok (.aload_n 0, 1) := by decide +kernel
theorem dX4_peek_12 : decode cX4_peek 12 = .ok (.getfield 9, 3) := by decide +kernel
theorem dX4_peek_15 : decode cX4_peek 15 = .ok (.aload_n 0, 1) := by decide +kernel
theorem dX4_peek_16 : decode cX4_peek 16 = .ok (.getfield 19, 3) := by decide +kernel
theorem dX4_peek_19 : decode cX4_peek 19 = .ok (.iaload, 1) := by decide +kernel
theorem dX4_peek_20 : decode cX4_peek 20 = .ok (.bipush 32, 2) := by decide +kernel
theorem dX4_peek_22 : decode cX4_peek 22 = .ok (.if_icmp .ne 16, 3) := by decide +kernel
theorem dX4_peek_25 : decode cX4_peek 25 = .ok (.aload_n 0, 1) := by decide +kernel
theorem dX4_peek_26 : decode cX4_peek 26 = .ok (.dup, 1) := by decide +kernel
theorem dX4_peek_27 : decode cX4_peek 27 = .ok (.getfield 19, 3) := by decide +kernel
theorem dX4_peek_30 : decode cX4_peek 30 = .ok (.iconst 1, 1) := by decide +kernel
theorem dX4_peek_31 : decode cX4_peek 31 = .ok (.iadd, 1) := by decide +kernel
theorem dX4_peek_32 : decode cX4_peek 32 = .ok (.putfield 19, 3) := by decide +kernel
theorem dX4_peek_35 : decode cX4_peek 35 = .ok (.goto (-35), 3) := by decide +kernel
theorem dX4_peek_38 : decode cX4_peek 38 = .ok (.aload_n 0, 1) := by decide +kernel
theorem dX4_peek_39 : decode cX4_peek 39 = .ok (.getfield 19, 3) := by decide +kernel
theorem dX4_peek_42 : decode cX4_peek 42 = .ok (.aload_n 0, 1) := by decide +kernel
theorem dX4_peek_43 : decode cX4_peek 43 = .ok (.getfield 15, 3) := by decide +kernel
theorem dX4_peek_46 : decode cX4_peek 46 = .ok (.if_icmp .ge 15, 3) := by decide +kernel
theorem dX4_peek_49 : decode cX4_peek 49 = .ok (.aload_n 0, 1) := by decide +kernel
theorem dX4_peek_50 : decode cX4_peek 50 = .ok (.getfield 9, 3) := by decide +kernel
theorem dX4_peek_53 : decode cX4_peek 53 = .ok (.aload_n 0, 1) := by decide +kernel
theorem dX4_peek_54 : decode cX4_peek 54 = .ok (.getfield 19, 3) := by decide +kernel
theorem dX4_peek_57 : decode cX4_peek 57 = .ok (.iaload, 1) := by decide +kernel
theorem dX4_peek_58 : decode cX4_peek 58 = .ok (.goto 4, 3) := by decide +kernel
theorem dX4_peek_61 : decode cX4_peek 61 = .ok (.iconst (-1), 1) := by decide +kernel
theorem dX4_peek_62 : decode cX4_peek 62 = .ok (.ireturn, 1) := by decide +kernel
theorem dX4_fault_0 : decode cX4_fault 0 = .ok (.bipush (-20), 2) := by decide +kernel
theorem dX4_fault_2 : decode cX4_fault 2 = .ok (.aload_n 0, 1) := by decide +kernel
theorem dX4_fault_3 : decode cX4_fault 3 = .ok (.getfield 19, 3) := by decide +kernel
theorem dX4_fault_6 : decode cX4_fault 6 = .ok (.isub, 1) := by decide +kernel
theorem dX4_fault_7 : decode cX4_fault 7 = .ok (.ireturn, 1) := by decide +kernel
theorem dX5_init_0 : decode cX5_init 0 = .ok (.aload_n 0, 1) := by decide +kernel
theorem dX5_init_1 : decode cX5_init 1 = .ok (.invokespecial 3, 3) := by decide +kernel
theorem dX5_init_4 : decode cX5_init 4 = .ok (.return_, 1) := by decide +kernel
theorem dX5_begin_0 : decode cX5_begin 0 = .ok (.aload_n 0, 1) := by decide +kernel
theorem dX5_begin_1 : decode cX5_begin 1 = .ok (.iconst 0, 1) := by decide +kernel
theorem dX5_begin_2 : decode cX5_begin 2 = .ok (.putfield 9, 3) := by decide +kernel
theorem dX5_begin_5 : decode cX5_begin 5 = .ok (.aload_n 0, 1) := by decide +kernel
theorem dX5_begin_6 : decode cX5_begin 6 = .ok (.aload_n 0, 1) := by decide +kernel
theorem dX5_begin_7 : decode cX5_begin 7 = .ok (.getfield 15, 3) := by decide +kernel
theorem dX5_begin_10 : decode cX5_begin 10 = .ok (.putfield 18, 3) := by decide +kernel
theorem dX5_begin_13 : decode cX5_begin 13 = .ok (.aload_n 0, 1) := by decide +kernel
theorem dX5_begin_14 : decode cX5_begin 14 = .ok (.aload_n 0, 1) := by decide +kernel
theorem dX5_begin_15 : decode cX5_begin 15 = .ok (.getfield 21, 3) := by decide +kernel
theorem dX5_begin_18 : decode cX5_begin 18 = .ok (.putfield 24, 3) := by decide +kernel
theorem dX5_begin_21 : decode cX5_begin 21 = .ok (.aload_n 0, 1) := by decide +kernel
theorem dX5_begin_22 : decode cX5_begin 22 = .ok (.iconst 0, 1) := by decide +kernel
theorem dX5_begin_23 : decode cX5_begin 23 = .ok (.putfield 27, 3) := by decide +kernel
theorem dX5_begin_26 : decode cX5_begin 26 = .ok (.aload_n 0, 1) := by decide +kernel
theorem dX5_begin_27 : decode cX5_begin 27 = .ok (.iconst 0, 1) := by decide +kernel
theorem dX5_begin_28 : decode cX5_begin 28 = .ok (.putfield 30, 3) := by decide +kernel
theorem dX5_begin_31 : decode cX5_begin 31 = .ok (.aload_n 0, 1) := by decide +kernel
theorem dX5_begin_32 : decode cX5_begin 32 = .ok (.aload_n 0, 1) := by decide +kernel
theorem dX5_begin_33 : decode cX5_begin 33 = .ok (.getfield 33, 3) := by decide +kernel
theorem dX5_begin_36 : decode cX5_begin 36 = .ok (.putfield 36, 3) := by decide +kernel
theorem dX5_begin_39 : decode cX5_begin 39 = .ok (.aload_n 0, 1) := by decide +kernel
theorem dX5_begin_40 : decode cX5_begin 40 = .ok (.sipush 1000, 3) := by decide +kernel
theorem dX5_begin_43 : decode cX5_begin 43 = .ok (.putfield 39, 3) := by decide +kernel
theorem dX5_begin_46 : decode cX5_begin 46 = .ok (.aload_n 0, 1) := by decide +kernel
theorem dX5_begin_47 : decode cX5_begin 47 = .ok (.iconst 0, 1) := by decide +kernel
theorem dX5_begin_48 : decode cX5_begin 48 = .ok (.putfield 42, 3) := by decide +kernel
theorem dX5_begin_51 : decode cX5_begin 51 = .ok (.aload_n 0, 1) := by decide +kernel
theorem dX5_begin_52 : decode cX5_begin 52 = .ok (.iconst 0, 1) := by decide +kernel
theorem dX5_begin_53 : decode cX5_begin 53 = .ok (.putfield 45, 3) := by decide +kernel
theorem dX5_begin_56 : decode cX5_begin 56 = .ok (.aload_n 0, 1) := by decide +kernel
theorem dX5_begin_57 : decode cX5_begin 57 = .ok (.iconst 0, 1) := by decide +kernel
theorem dX5_begin_58 : decode cX5_begin 58 = .ok (.putfield 48, 3) := by decide +kernel
theorem dX5_begin_61 : decode cX5_begin 61 = .ok (.return_, 1) := by decide +kernel
theorem dX5_isOnBridge_0 : decode cX5_isOnBridge 0 = .ok (.aload_n 0, 1) := by decide +kernel
theorem dX5_isOnBridge_1 : decode cX5_isOnBridge 1 = .ok (.getfield 9, 3) := by decide +kernel
theorem dX5_isOnBridge_4 : decode cX5_isOnBridge 4 = .ok (.iconst 1, 1) := by decide +kernel
theorem dX5_isOnBridge_5 : decode cX5_isOnBridge 5 = .ok (.if_icmp .eq 11, 3) := by decide +kernel
theorem dX5_isOnBridge_8 : decode cX5_isOnBridge 8 = .ok (.aload_n 0, 1) := by decide +kernel
theorem dX5_isOnBridge_9 : decode cX5_isOnBridge 9 = .ok (.getfield 9, 3) := by decide +kernel
theorem dX5_isOnBridge_12 : decode cX5_isOnBridge 12 = .ok (.iconst 2, 1) := by decide +kernel
theorem dX5_isOnBridge_13 : decode cX5_isOnBridge 13 = .ok (.if_icmp .ne 7, 3) := by decide +kernel
theorem dX5_isOnBridge_16 : decode cX5_isOnBridge 16 = .ok (.iconst 1, 1) := by decide +kernel
theorem dX5_isOnBridge_17 : decode cX5_isOnBridge 17 = .ok (.goto 4, 3) := by decide +kernel
theorem dX5_isOnBridge_20 : decode cX5_isOnBridge 20 = .ok (.iconst 0, 1) := by decide +kernel
theorem dX5_isOnBridge_21 : decode cX5_isOnBridge 21 = .ok (.ireturn, 1) := by decide +kernel
theorem dX5_nextTurn_0 : decode cX5_nextTurn 0 = .ok (.aload_n 0, 1) := by decide +kernel
theorem dX5_nextTurn_1 : decode cX5_nextTurn 1 = .ok (.getfield 9, 3) := by decide +kernel
theorem dX5_nextTurn_4 : decode cX5_nextTurn 4 = .ok (.tableswitch 63 0 3 #[52, 32, 63, 52], 32) := by decide +kernel
theorem dX5_nextTurn_36 : decode cX5_nextTurn 36 = .ok (.iload_n 1, 1) := by decide +kernel
theorem dX5_nextTurn_37 : decode cX5_nextTurn 37 = .ok (.iconst 1, 1) := by decide +kernel
theorem dX5_nextTurn_38 : decode cX5_nextTurn 38 = .ok (.iload_n 2, 1) := by decide +kernel
theorem dX5_nextTurn_39 : decode cX5_nextTurn 39 = .ok (.aload_n 0, 1) := by decide +kernel
theorem dX5_nextTurn_40 : decode cX5_nextTurn 40 = .ok (.getfield 30, 3) := by decide +kernel
theorem dX5_nextTurn_43 : decode cX5_nextTurn 43 = .ok (.isub, 1) := by decide +kernel
theorem dX5_nextTurn_44 : decode cX5_nextTurn 44 = .ok (.aload_n 0, 1) := by decide +kernel
theorem dX5_nextTurn_45 : decode cX5_nextTurn 45 = .ok (.getfield 36, 3) := by decide +kernel
theorem dX5_nextTurn_48 : decode cX5_nextTurn 48 = .ok (.invokestatic 51, 3) := by decide +kernel
theorem dX5_nextTurn_51 : decode cX5_nextTurn 51 = .ok (.invokestatic 55, 3) := by decide +kernel
theorem dX5_nextTurn_54 : decode cX5_nextTurn 54 = .ok (.iadd, 1) := by decide +kernel
theorem dX5_nextTurn_55 : decode cX5_nextTurn 55 = .ok (.ireturn, 1) := by decide +kernel
theorem dX5_nextTurn_56 : decode cX5_nextTurn 56 = .ok (.iload_n 1, 1) := by decide +kernel
theorem dX5_nextTurn_57 : decode cX5_nextTurn 57 = .ok (.iconst 1, 1) := by decide +kernel
theorem dX5_nextTurn_58 : decode cX5_nextTurn 58 = .ok (.iadd, 1) := by decide +kernel
theorem dX5_nextTurn_59 : decode cX5_nextTurn 59 = .ok (.aload_n 0, 1) := by decide +kernel
theorem dX5_nextTurn_60 : decode cX5_nextTurn 60 = .ok (.getfield 24, 3) := by decide +kernel
theorem dX5_nextTurn_63 : decode cX5_nextTurn 63 = .ok (.invokestatic 55, 3) := by decide +kernel
theorem dX5_nextTurn_66 : decode cX5_nextTurn 66 = .ok (.ireturn, 1) := by decide +kernel
theorem dX5_nextTurn_67 : decode cX5_nextTurn 67 = .ok (.sipush 1000, 3) := by decide +kernel
theorem dX5_nextTurn_70 : decode cX5_nextTurn 70 = .ok (.ireturn, 1) := by decide +kernel
theorem dX5_pass_0 : decode cX5_pass 0 = .ok (.aload_n 0, 1) := by decide +kernel
theorem dX5_pass_1 : decode cX5_pass 1 = .ok (.getfield 9, 3) := by decide +kernel
theorem dX5_pass_4 : decode cX5_pass 4 = .ok (.iconst 1, 1) := by decide +kernel
theorem dX5_pass_5 : decode cX5_pass 5 = .ok (.if_icmp .ne 21, 3) := by decide +kernel
theorem dX5_pass_8 : decode cX5_pass 8 = .ok (.aload_n 0, 1) := by decide +kernel
theorem dX5_pass_9 : decode cX5_pass 9 = .ok (.dup, 1) := by decide +kernel
theorem dX5_pass_10 : decode cX5_pass 10 = .ok (.getfield 30, 3) := by decide +kernel
theorem dX5_pass_13 : decode cX5_pass 13 = .ok (.aload_n 0, 1) := by decide +kernel
theorem dX5_pass_14 : decode cX5_pass 14 = .ok (.getfield 36, 3) := by decide +kernel
theorem dX5_pass_17 : decode cX5_pass 17 = .ok (.iload_n 1, 1) := by decide +kernel
theorem dX5_pass_18 : decode cX5_pass 18 = .ok (.imul, 1) := by decide +kernel
theorem dX5_pass_19 : decode cX5_pass 19 = .ok (.iadd, 1) := by decide +kernel
theorem dX5_pass_20 : decode cX5_pass 20 = .ok (.putfield 30, 3) := by decide +kernel
theorem dX5_pass_23 : decode cX5_pass 23 = .ok (.goto 21, 3) := by decide +kernel
theorem dX5_pass_26 : decode cX5_pass 26 = .ok (.aload_n 0, 1) := by decide +kernel
theorem dX5_pass_27 : decode cX5_pass 27 = .ok (.getfield 9, 3) := by decide +kernel
theorem dX5_pass_30 : decode cX5_pass 30 = .ok (.iconst 2, 1) := by decide +kernel
theorem dX5_pass_31 : decode cX5_pass 31 = .ok (.if_icmp .ne 13, 3) := by decide +kernel
theorem dX5_pass_34 : decode cX5_pass 34 = .ok (.aload_n 0, 1) := by decide +kernel
theorem dX5_pass_35 : decode cX5_pass 35 = .ok (.dup, 1) := by decide +kernel
theorem dX5_pass_36 : decode cX5_pass 36 = .ok (.getfield 45, 3) := by decide +kernel
theorem dX5_pass_39 : decode cX5_pass 39 = .ok (.iload_n 1, 1) := by decide +kernel
theorem dX5_pass_40 : decode cX5_pass 40 = .ok (.iadd, 1) := by decide +kernel
theorem dX5_pass_41 : decode cX5_pass 41 = .ok (.putfield 45, 3) := by decide +kernel
theorem dX5_pass_44 : decode cX5_pass 44 = .ok (.return_, 1) := by decide +kernel
theorem dX5_comeOver_0 : decode cX5_comeOver 0 = .ok (.aload_n 0, 1) := by decide +kernel
theorem dX5_comeOver_1 : decode cX5_comeOver 1 = .ok (.dup, 1) := by decide +kernel
theorem dX5_comeOver_2 : decode cX5_comeOver 2 = .ok (.getfield 27, 3) := by decide +kernel
theorem dX5_comeOver_5 : decode cX5_comeOver 5 = .ok (.iconst 1, 1) := by decide +kernel
theorem dX5_comeOver_6 : decode cX5_comeOver 6 = .ok (.iadd, 1) := by decide +kernel
theorem dX5_comeOver_7 : decode cX5_comeOver 7 = .ok (.putfield 27, 3) := by decide +kernel
theorem dX5_comeOver_10 : decode cX5_comeOver 10 = .ok (.aload_n 0, 1) := by decide +kernel
theorem dX5_comeOver_11 : decode cX5_comeOver 11 = .ok (.iconst 1, 1) := by decide +kernel
theorem dX5_comeOver_12 : decode cX5_comeOver 12 = .ok (.aload_n 0, 1) := by decide +kernel
theorem dX5_comeOver_13 : decode cX5_comeOver 13 = .ok (.getfield 18, 3) := by decide +kernel
theorem dX5_comeOver_16 : decode cX5_comeOver 16 = .ok (.isub, 1) := by decide +kernel
theorem dX5_comeOver_17 : decode cX5_comeOver 17 = .ok (.putfield 18, 3) := by decide +kernel
theorem dX5_comeOver_20 : decode cX5_comeOver 20 = .ok (.aload_n 0, 1) := by decide +kernel
theorem dX5_comeOver_21 : decode cX5_comeOver 21 = .ok (.getfield 27, 3) := by decide +kernel
theorem dX5_comeOver_24 : decode cX5_comeOver 24 = .ok (.aload_n 0, 1) := by decide +kernel
theorem dX5_comeOver_25 : decode cX5_comeOver 25 = .ok (.getfield 60, 3) := by decide +kernel
theorem dX5_comeOver_28 : decode cX5_comeOver 28 = .ok (.if_icmp .lt 16, 3) := by decide +kernel
theorem dX5_comeOver_31 : decode cX5_comeOver 31 = .ok (.aload_n 0, 1) := by decide +kernel
theorem dX5_comeOver_32 : decode cX5_comeOver 32 = .ok (.iconst 4, 1) := by decide +kernel
theorem dX5_comeOver_33 : decode cX5_comeOver 33 = .ok (.putfield 9, 3) := by decide +kernel
theorem dX5_comeOver_36 : decode cX5_comeOver 36 = .ok (.aload_n 0, 1) := by decide +kernel
theorem dX5_comeOver_37 : decode cX5_comeOver 37 = .ok (.iload_n 1, 1) := by decide +kernel
theorem dX5_comeOver_38 : decode cX5_comeOver 38 = .ok (.putfield 39, 3) := by decide +kernel
theorem dX5_comeOver_41 : decode cX5_comeOver 41 = .ok (.goto 18, 3) := by decide +kernel
theorem dX5_comeOver_44 : decode cX5_comeOver 44 = .ok (.aload_n 0, 1) := by decide +kernel
theorem dX5_comeOver_45 : decode cX5_comeOver 45 = .ok (.iconst 0, 1) := by decide +kernel
theorem dX5_comeOver_46 : decode cX5_comeOver 46 = .ok (.putfield 9, 3) := by decide +kernel
theorem dX5_comeOver_49 : decode cX5_comeOver 49 = .ok (.aload_n 0, 1) := by decide +kernel
theorem dX5_comeOver_50 : decode cX5_comeOver 50 = .ok (.iload_n 1, 1) := by decide +kernel
theorem dX5_comeOver_51 : decode cX5_comeOver 51 = .ok (.aload_n 0, 1) := by decide +kernel
theorem dX5_comeOver_52 : decode cX5_comeOver 52 = .ok (.getfield 63, 3) := by decide +kernel
theorem dX5_comeOver_55 : decode cX5_comeOver 55 = .ok (.iadd, 1) := by decide +kernel
theorem dX5_comeOver_56 : decode cX5_comeOver 56 = .ok (.putfield 24, 3) := by decide +kernel
theorem dX5_comeOver_59 : decode cX5_comeOver 59 = .ok (.return_, 1) := by decide +kernel
theorem dX5_startByFord_0 : decode cX5_startByFord 0 = .ok (.aload_n 0, 1) := by decide +kernel
theorem dX5_startByFord_1 : decode cX5_startByFord 1 = .ok (.iconst 3, 1) := by decide +kernel
theorem dX5_startByFord_2 : decode cX5_startByFord 2 = .ok (.putfield 9, 3) := by decide +kernel
theorem dX5_startByFord_5 : decode cX5_startByFord 5 = .ok (.aload_n 0, 1) := by decide +kernel
theorem dX5_startByFord_6 : decode cX5_startByFord 6 = .ok (.iload_n 1, 1) := by decide +kernel
theorem dX5_startByFord_7 : decode cX5_startByFord 7 = .ok (.putfield 24, 3) := by decide +kernel
theorem dX5_startByFord_10 : decode cX5_startByFord 10 = .ok (.return_, 1) := by decide +kernel
theorem dX5_stepOn_0 : decode cX5_stepOn 0 = .ok (.aload_n 0, 1) := by decide +kernel
theorem dX5_stepOn_1 : decode cX5_stepOn 1 = .ok (.iconst 1, 1) := by decide +kernel
theorem dX5_stepOn_2 : decode cX5_stepOn 2 = .ok (.putfield 9, 3) := by decide +kernel
theorem dX5_stepOn_5 : decode cX5_stepOn 5 = .ok (.aload_n 0, 1) := by decide +kernel
theorem dX5_stepOn_6 : decode cX5_stepOn 6 = .ok (.iconst 0, 1) := by decide +kernel
theorem dX5_stepOn_7 : decode cX5_stepOn 7 = .ok (.putfield 30, 3) := by decide +kernel
theorem dX5_stepOn_10 : decode cX5_stepOn 10 = .ok (.aload_n 0, 1) := by decide +kernel
theorem dX5_stepOn_11 : decode cX5_stepOn 11 = .ok (.iload_n 1, 1) := by decide +kernel
theorem dX5_stepOn_12 : decode cX5_stepOn 12 = .ok (.ifCond .eq 10, 3) := by decide +kernel
theorem dX5_stepOn_15 : decode cX5_stepOn 15 = .ok (.aload_n 0, 1) := by decide +kernel
theorem dX5_stepOn_16 : decode cX5_stepOn 16 = .ok (.getfield 33, 3) := by decide +kernel
theorem dX5_stepOn_19 : decode cX5_stepOn 19 = .ok (.goto 10, 3) := by decide +kernel
theorem dX5_stepOn_22 : decode cX5_stepOn 22 = .ok (.aload_n 0, 1) := by decide +kernel
theorem dX5_stepOn_23 : decode cX5_stepOn 23 = .ok (.getfield 33, 3) := by decide +kernel
theorem dX5_stepOn_26 : decode cX5_stepOn 26 = .ok (.invokestatic 66, 3) := by decide +kernel
theorem dX5_stepOn_29 : decode cX5_stepOn 29 = .ok (.putfield 36, 3) := by decide +kernel
theorem dX5_stepOn_32 : decode cX5_stepOn 32 = .ok (.aload_n 0, 1) := by decide +kernel
theorem dX5_stepOn_33 : decode cX5_stepOn 33 = .ok (.dup, 1) := by decide +kernel
theorem dX5_stepOn_34 : decode cX5_stepOn 34 = .ok (.getfield 48, 3) := by decide +kernel
theorem dX5_stepOn_37 : decode cX5_stepOn 37 = .ok (.iload_n 1, 1) := by decide +kernel
theorem dX5_stepOn_38 : decode cX5_stepOn 38 = .ok (.ifCond .eq 7, 3) := by decide +kernel
theorem dX5_stepOn_41 : decode cX5_stepOn 41 = .ok (.iconst 0, 1) := by decide +kernel
theorem dX5_stepOn_42 : decode cX5_stepOn 42 = .ok (.goto 4, 3) := by decide +kernel
theorem dX5_stepOn_45 : decode cX5_stepOn 45 = .ok (.iconst 1, 1) := by decide +kernel
theorem dX5_stepOn_46 : decode cX5_stepOn 46 = .ok (.iadd, 1) := by decide +kernel
theorem dX5_stepOn_47 : decode cX5_stepOn 47 = .ok (.putfield 48, 3) := by decide +kernel
theorem dX5_stepOn_50 : decode cX5_stepOn 50 = .ok (.return_, 1) := by decide +kernel
theorem dX6_init_0 : decode cX6_init 0 = .ok (.aload_n 0, 1) := by decide +kernel
theorem dX6_init_1 : decode cX6_init 1 = .ok (.invokespecial 1, 3) := by decide +kernel
theorem dX6_init_4 : decode cX6_init 4 = .ok (.aload_n 0, 1) := by decide +kernel
theorem dX6_init_5 : decode cX6_init 5 = .ok (.new 7, 3) := by decide +kernel
theorem dX6_init_8 : decode cX6_init 8 = .ok (.dup, 1) := by decide +kernel
theorem dX6_init_9 : decode cX6_init 9 = .ok (.invokespecial 9, 3) := by decide +kernel
theorem dX6_init_12 : decode cX6_init 12 = .ok (.putfield 10, 3) := by decide +kernel
theorem dX6_init_15 : decode cX6_init 15 = .ok (.aload_n 0, 1) := by decide +kernel
theorem dX6_init_16 : decode cX6_init 16 = .ok (.new 7, 3) := by decide +kernel
theorem dX6_init_19 : decode cX6_init 19 = .ok (.dup, 1) := by decide +kernel
theorem dX6_init_20 : decode cX6_init 20 = .ok (.invokespecial 9, 3) := by decide +kernel
theorem dX6_init_23 : decode cX6_init 23 = .ok (.putfield 16, 3) := by decide +kernel
theorem dX6_init_26 : decode cX6_init 26 = .ok (.aload_n 0, 1) := by decide +kernel
theorem dX6_init_27 : decode cX6_init 27 = .ok (.new 19, 3) := by decide +kernel
theorem dX6_init_30 : decode cX6_init 30 = .ok (.dup, 1) := by decide +kernel
theorem dX6_init_31 : decode cX6_init 31 = .ok (.invokespecial 21, 3) := by decide +kernel
theorem dX6_init_34 : decode cX6_init 34 = .ok (.putfield 22, 3) := by decide +kernel
theorem dX6_init_37 : decode cX6_init 37 = .ok (.aload_n 0, 1) := by decide +kernel
theorem dX6_init_38 : decode cX6_init 38 = .ok (.bipush 30, 2) := by decide +kernel
theorem dX6_init_40 : decode cX6_init 40 = .ok (.newarray .int, 2) := by decide +kernel
theorem dX6_init_42 : decode cX6_init 42 = .ok (.putfield 26, 3) := by decide +kernel
theorem dX6_init_45 : decode cX6_init 45 = .ok (.aload_n 0, 1) := by decide +kernel
theorem dX6_init_46 : decode cX6_init 46 = .ok (.new 30, 3) := by decide +kernel
theorem dX6_init_49 : decode cX6_init 49 = .ok (.dup, 1) := by decide +kernel
theorem dX6_init_50 : decode cX6_init 50 = .ok (.invokespecial 32, 3) := by decide +kernel
theorem dX6_init_53 : decode cX6_init 53 = .ok (.putfield 33, 3) := by decide +kernel
theorem dX6_init_56 : decode cX6_init 56 = .ok (.aload_n 0, 1) := by decide +kernel
theorem dX6_init_57 : decode cX6_init 57 = .ok (.new 37, 3) := by decide +kernel
theorem dX6_init_60 : decode cX6_init 60 = .ok (.dup, 1) := by decide +kernel
theorem dX6_init_61 : decode cX6_init 61 = .ok (.invokespecial 39, 3) := by decide +kernel
theorem dX6_init_64 : decode cX6_init 64 = .ok (.putfield 40, 3) := by decide +kernel
theorem dX6_init_67 : decode cX6_init 67 = .ok (.aload_n 0, 1) := by decide +kernel
theorem dX6_init_68 : decode cX6_init 68 = .ok (.iconst 4, 1) := by decide +kernel
theorem dX6_init_69 : decode cX6_init 69 = .ok (.anewarray 44, 3) := by decide +kernel
theorem dX6_init_72 : decode cX6_init 72 = .ok (.putfield 46, 3) := by decide +kernel
theorem dX6_init_75 : decode cX6_init 75 = .ok (.iconst 0, 1) := by decide +kernel
theorem dX6_init_76 : decode cX6_init 76 = .ok (.istore_n 1, 1) := by decide +kernel
theorem dX6_init_77 : decode cX6_init 77 = .ok (.iload_n 1, 1) := by decide +kernel
theorem dX6_init_78 : decode cX6_init 78 = .ok (.iconst 4, 1) := by decide +kernel
theorem dX6_init_79 : decode cX6_init 79 = .ok (.if_icmp .ge 22, 3) := by decide +kernel
theorem dX6_init_82 : decode cX6_init 82 = .ok (.aload_n 0, 1) := by decide +kernel
theorem dX6_init_83 : decode cX6_init 83 = .ok (.getfield 46, 3) := by decide +kernel
theorem dX6_init_86 : decode cX6_init 86 = .ok (.iload_n 1, 1) := by decide +kernel
theorem dX6_init_87 : decode cX6_init 87 = .ok (.new 44, 3) := by decide +kernel
theorem dX6_init_90 : decode cX6_init 90 = .ok (.dup, 1) := by decide +kernel
theorem dX6_init_91 : decode cX6_init 91 = .ok (.invokespecial 50, 3) := by decide +kernel
theorem dX6_init_94 : decode cX6_init 94 = .ok (.aastore, 1) := by decide +kernel
theorem dX6_init_95 : decode cX6_init 95 = .ok (.iinc 1 1, 3) := by decide +kernel
theorem dX6_init_98 : decode cX6_init 98 = .ok (.goto (-21), 3) := by decide +kernel
theorem dX6_init_101 : decode cX6_init 101 = .ok (.return_, 1) := by decide +kernel
theorem dX6_planks_0 : decode cX6_planks 0 = .ok (.iload_n 1, 1) := by decide +kernel
theorem dX6_planks_1 : decode cX6_planks 1 = .ok (.iconst 1, 1) := by decide +kernel
theorem dX6_planks_2 : decode cX6_planks 2 = .ok (.if_icmp .lt 10, 3) := by decide +kernel
theorem dX6_planks_5 : decode cX6_planks 5 = .ok (.iload_n 1, 1) := by decide +kernel
theorem dX6_planks_6 : decode cX6_planks 6 = .ok (.sipush 400, 3) := by decide +kernel
theorem dX6_planks_9 : decode cX6_planks 9 = .ok (.if_icmp .le 5, 3) := by decide +kernel
theorem dX6_planks_12 : decode cX6_planks 12 = .ok (.iconst (-1), 1) := by decide +kernel
theorem dX6_planks_13 : decode cX6_planks 13 = .ok (.ireturn, 1) := by decide +kernel
theorem dX6_planks_14 : decode cX6_planks 14 = .ok (.aload_n 0, 1) := by decide +kernel
theorem dX6_planks_15 : decode cX6_planks 15 = .ok (.getfield 10, 3) := by decide +kernel
theorem dX6_planks_18 : decode cX6_planks 18 = .ok (.getfield 51, 3) := by decide +kernel
theorem dX6_planks_21 : decode cX6_planks 21 = .ok (.istore_n 2, 1) := by decide +kernel
theorem dX6_planks_22 : decode cX6_planks 22 = .ok (.aload_n 0, 1) := by decide +kernel
theorem dX6_planks_23 : decode cX6_planks 23 = .ok (.getfield 10, 3) := by decide +kernel
theorem dX6_planks_26 : decode cX6_planks 26 = .ok (.iload_n 1, 1) := by decide +kernel
theorem dX6_planks_27 : decode cX6_planks 27 = .ok (.putfield 51, 3) := by decide +kernel
theorem dX6_planks_30 : decode cX6_planks 30 = .ok (.iload_n 2, 1) := by decide +kernel
theorem dX6_planks_31 : decode cX6_planks 31 = .ok (.ireturn, 1) := by decide +kernel
theorem dX6_rule_0 : decode cX6_rule 0 = .ok (.iload_n 1, 1) := by decide +kernel
theorem dX6_rule_1 : decode cX6_rule 1 = .ok (.bipush 6, 2) := by decide +kernel
theorem dX6_rule_3 : decode cX6_rule 3 = .ok (.invokestatic 55, 3) := by decide +kernel
theorem dX6_rule_6 : decode cX6_rule 6 = .ok (.ifCond .eq 21, 3) := by decide +kernel
theorem dX6_rule_9 : decode cX6_rule 9 = .ok (.iload_n 2, 1) := by decide +kernel
theorem dX6_rule_10 : decode cX6_rule 10 = .ok (.getstatic 59, 3) := by decide +kernel
theorem dX6_rule_13 : decode cX6_rule 13 = .ok (.iload_n 1, 1) := by decide +kernel
theorem dX6_rule_14 : decode cX6_rule 14 = .ok (.iaload, 1) := by decide +kernel
theorem dX6_rule_15 : decode cX6_rule 15 = .ok (.if_icmp .lt 12, 3) := by decide +kernel
theorem dX6_rule_18 : decode cX6_rule 18 = .ok (.iload_n 2, 1) := by decide +kernel
theorem dX6_rule_19 : decode cX6_rule 19 = .ok (.getstatic 62, 3) := by decide +kernel
theorem dX6_rule_22 : decode cX6_rule 22 = .ok (.iload_n 1, 1) := by decide +kernel
theorem dX6_rule_23 : decode cX6_rule 23 = .ok (.iaload, 1) := by decide +kernel
theorem dX6_rule_24 : decode cX6_rule 24 = .ok (.if_icmp .le 5, 3) := by decide +kernel
theorem dX6_rule_27 : decode cX6_rule 27 = .ok (.iconst (-1), 1) := by decide +kernel
theorem dX6_rule_28 : decode cX6_rule 28 = .ok (.ireturn, 1) := by decide +kernel
theorem dX6_rule_29 : decode cX6_rule 29 = .ok (.aload_n 0, 1) := by decide +kernel
theorem dX6_rule_30 : decode cX6_rule 30 = .ok (.getfield 10, 3) := by decide +kernel
theorem dX6_rule_33 : decode cX6_rule 33 = .ok (.getfield 65, 3) := by decide +kernel
theorem dX6_rule_36 : decode cX6_rule 36 = .ok (.iload_n 1, 1) := by decide +kernel
theorem dX6_rule_37 : decode cX6_rule 37 = .ok (.iaload, 1) := by decide +kernel
theorem dX6_rule_38 : decode cX6_rule 38 = .ok (.istore_n 3, 1) := by decide +kernel
theorem dX6_rule_39 : decode cX6_rule 39 = .ok (.aload_n 0, 1) := by decide +kernel
theorem dX6_rule_40 : decode cX6_rule 40 = .ok (.getfield 10, 3) := by decide +kernel
theorem dX6_rule_43 : decode cX6_rule 43 = .ok (.getfield 65, 3) := by decide +kernel
theorem dX6_rule_46 : decode cX6_rule 46 = .ok (.iload_n 1, 1) := by decide +kernel
theorem dX6_rule_47 : decode cX6_rule 47 = .ok (.iload_n 2, 1) := by decide +kernel
theorem dX6_rule_48 : decode cX6_rule 48 = .ok (.iastore, 1) := by decide +kernel
theorem dX6_rule_49 : decode cX6_rule 49 = .ok (.iload_n 3, 1) := by decide +kernel
theorem dX6_rule_50 : decode cX6_rule 50 = .ok (.ireturn, 1) := by decide +kernel
theorem dX6_person_0 : decode cX6_person 0 = .ok (.aload_n 0, 1) := by decide +kernel
theorem dX6_person_1 : decode cX6_person 1 = .ok (.getfield 26, 3) := by decide +kernel
theorem dX6_person_4 : decode cX6_person 4 = .ok (.iconst 0, 1) := by decide +kernel
theorem dX6_person_5 : decode cX6_person 5 = .ok (.iload_n 1, 1) := by decide +kernel
theorem dX6_person_6 : decode cX6_person 6 = .ok (.iastore, 1) := by decide +kernel
theorem dX6_person_7 : decode cX6_person 7 = .ok (.aload_n 0, 1) := by decide +kernel
theorem dX6_person_8 : decode cX6_person 8 = .ok (.getfield 26, 3) := by decide +kernel
theorem dX6_person_11 : decode cX6_person 11 = .ok (.iconst 1, 1) := by decide +kernel
theorem dX6_person_12 : decode cX6_person 12 = .ok (.iload_n 2, 1) := by decide +kernel
theorem dX6_person_13 : decode cX6_person 13 = .ok (.iastore, 1) := by decide +kernel
theorem dX6_person_14 : decode cX6_person 14 = .ok (.aload_n 0, 1) := by decide +kernel
theorem dX6_person_15 : decode cX6_person 15 = .ok (.getfield 26, 3) := by decide +kernel
theorem dX6_person_18 : decode cX6_person 18 = .ok (.iconst 2, 1) := by decide +kernel
theorem dX6_person_19 : decode cX6_person 19 = .ok (.iload_n 3, 1) := by decide +kernel
theorem dX6_person_20 : decode cX6_person 20 = .ok (.iastore, 1) := by decide +kernel
theorem dX6_person_21 : decode cX6_person 21 = .ok (.aload_n 0, 1) := by decide +kernel
theorem dX6_person_22 : decode cX6_person 22 = .ok (.getfield 26, 3) := by decide +kernel
theorem dX6_person_25 : decode cX6_person 25 = .ok (.iconst 3, 1) := by decide +kernel
theorem dX6_person_26 : decode cX6_person 26 = .ok (.iload 4, 2) := by decide +kernel
theorem dX6_person_28 : decode cX6_person 28 = .ok (.iastore, 1) := by decide +kernel
theorem dX6_person_29 : decode cX6_person 29 = .ok (.aload_n 0, 1) := by decide +kernel
theorem dX6_person_30 : decode cX6_person 30 = .ok (.getfield 26, 3) := by decide +kernel
theorem dX6_person_33 : decode cX6_person 33 = .ok (.iconst 4, 1) := by decide +kernel
theorem dX6_person_34 : decode cX6_person 34 = .ok (.iload 5, 2) := by decide +kernel
theorem dX6_person_36 : decode cX6_person 36 = .ok (.iastore, 1) := by decide +kernel
theorem dX6_person_37 : decode cX6_person 37 = .ok (.aload_n 0, 1) := by decide +kernel
theorem dX6_person_38 : decode cX6_person 38 = .ok (.getfield 10, 3) := by decide +kernel
theorem dX6_person_41 : decode cX6_person 41 = .ok (.aload_n 0, 1) := by decide +kernel
theorem dX6_person_42 : decode cX6_person 42 = .ok (.getfield 26, 3) := by decide +kernel
theorem dX6_person_45 : decode cX6_person 45 = .ok (.iconst 0, 1) := by decide +kernel
theorem dX6_person_46 : decode cX6_person 46 = .ok (.invokevirtual 68, 3) := by decide +kernel
theorem dX6_person_49 : decode cX6_person 49 = .ok (.ifCond .ne 5, 3) := by decide +kernel
theorem dX6_person_52 : decode cX6_person 52 = .ok (.iconst (-1), 1) := by decide +kernel
theorem dX6_person_53 : decode cX6_person 53 = .ok (.ireturn, 1) := by decide +kernel
theorem dX6_person_54 : decode cX6_person 54 = .ok (.aload_n 0, 1) := by decide +kernel
theorem dX6_person_55 : decode cX6_person 55 = .ok (.getfield 10, 3) := by decide +kernel
theorem dX6_person_58 : decode cX6_person 58 = .ok (.iconst 1, 1) := by decide +kernel
theorem dX6_person_59 : decode cX6_person 59 = .ok (.invokevirtual 72, 3) := by decide +kernel
theorem dX6_person_62 : decode cX6_person 62 = .ok (.ifCond .ne 6, 3) := by decide +kernel
theorem dX6_person_65 : decode cX6_person 65 = .ok (.bipush (-3), 2) := by decide +kernel
theorem dX6_person_67 : decode cX6_person 67 = .ok (.ireturn, 1) := by decide +kernel
theorem dX6_person_68 : decode cX6_person 68 = .ok (.aload_n 0, 1) := by decide +kernel
theorem dX6_person_69 : decode cX6_person 69 = .ok (.getfield 10, 3) := by decide +kernel
theorem dX6_person_72 : decode cX6_person 72 = .ok (.aload_n 0, 1) := by decide +kernel
theorem dX6_person_73 : decode cX6_person 73 = .ok (.getfield 26, 3) := by decide +kernel
theorem dX6_person_76 : decode cX6_person 76 = .ok (.iconst 0, 1) := by decide +kernel
theorem dX6_person_77 : decode cX6_person 77 = .ok (.invokevirtual 76, 3) := by decide +kernel
theorem dX6_person_80 : decode cX6_person 80 = .ok (.aload_n 0, 1) := by decide +kernel
theorem dX6_person_81 : decode cX6_person 81 = .ok (.getfield 10, 3) := by decide +kernel
theorem dX6_person_84 : decode cX6_person 84 = .ok (.getfield 80, 3) := by decide +kernel
theorem dX6_person_87 : decode cX6_person 87 = .ok (.iconst 1, 1) := by decide +kernel
theorem dX6_person_88 : decode cX6_person 88 = .ok (.isub, 1) := by decide +kernel
theorem dX6_person_89 : decode cX6_person 89 = .ok (.ireturn, 1) := by decide +kernel
theorem dX6_told_0 : decode cX6_told 0 = .ok (.aload_n 0, 1) := by decide +kernel
theorem dX6_told_1 : decode cX6_told 1 = .ok (.getfield 10, 3) := by decide +kernel
theorem dX6_told_4 : decode cX6_told 4 = .ok (.iload_n 1, 1) := by decide +kernel
theorem dX6_told_5 : decode cX6_told 5 = .ok (.invokevirtual 83, 3) := by decide +kernel
theorem dX6_told_8 : decode cX6_told 8 = .ok (.ifCond .eq 12, 3) := by decide +kernel
theorem dX6_told_11 : decode cX6_told 11 = .ok (.iload_n 2, 1) := by decide +kernel
theorem dX6_told_12 : decode cX6_told 12 = .ok (.bipush 7, 2) := by decide +kernel
theorem dX6_told_14 : decode cX6_told 14 = .ok (.invokestatic 55, 3) := by decide +kernel
theorem dX6_told_17 : decode cX6_told 17 = .ok (.ifCond .ne 5, 3) := by decide +kernel
theorem dX6_told_20 : decode cX6_told 20 = .ok (.iconst (-1), 1) := by decide +kernel
theorem dX6_told_21 : decode cX6_told 21 = .ok (.ireturn, 1) := by decide +kernel
theorem dX6_told_22 : decode cX6_told 22 = .ok (.iload_n 2, 1) := by decide +kernel
theorem dX6_told_23 : decode cX6_told 23 = .ok (.iconst 3, 1) := by decide +kernel
theorem dX6_told_24 : decode cX6_told 24 = .ok (.if_icmp .ne 12, 3) := by decide +kernel
theorem dX6_told_27 : decode cX6_told 27 = .ok (.aload_n 0, 1) := by decide +kernel
theorem dX6_told_28 : decode cX6_told 28 = .ok (.getfield 10, 3) := by decide +kernel
theorem dX6_told_31 : decode cX6_told 31 = .ok (.iload_n 1, 1) := by decide +kernel
theorem dX6_told_32 : decode cX6_told 32 = .ok (.invokevirtual 86, 3) := by decide +kernel
theorem dX6_told_35 : decode cX6_told 35 = .ok (.ireturn, 1) := by decide +kernel
theorem dX6_told_36 : decode cX6_told 36 = .ok (.aload_n 0, 1) := by decide +kernel
theorem dX6_told_37 : decode cX6_told 37 = .ok (.getfield 10, 3) := by decide +kernel
theorem dX6_told_40 : decode cX6_told 40 = .ok (.getfield 90, 3) := by decide +kernel
theorem dX6_told_43 : decode cX6_told 43 = .ok (.iload_n 1, 1) := by decide +kernel
theorem dX6_told_44 : decode cX6_told 44 = .ok (.aaload, 1) := by decide +kernel
theorem dX6_told_45 : decode cX6_told 45 = .ok (.iload_n 2, 1) := by decide +kernel
theorem dX6_told_46 : decode cX6_told 46 = .ok (.iaload, 1) := by decide +kernel
theorem dX6_told_47 : decode cX6_told 47 = .ok (.istore_n 3, 1) := by decide +kernel
theorem dX6_told_48 : decode cX6_told 48 = .ok (.iload_n 2, 1) := by decide +kernel
theorem dX6_told_49 : decode cX6_told 49 = .ok (.bipush 6, 2) := by decide +kernel
theorem dX6_told_51 : decode cX6_told 51 = .ok (.if_icmp .ne 13, 3) := by decide +kernel
theorem dX6_told_54 : decode cX6_told 54 = .ok (.iload_n 3, 1) := by decide +kernel
theorem dX6_told_55 : decode cX6_told 55 = .ok (.iconst (-1), 1) := by decide +kernel
theorem dX6_told_56 : decode cX6_told 56 = .ok (.if_icmp .ne 8, 3) := by decide +kernel
theorem dX6_told_59 : decode cX6_told 59 = .ok (.bipush (-4), 2) := by decide +kernel
theorem dX6_told_61 : decode cX6_told 61 = .ok (.goto 4, 3) := by decide +kernel
theorem dX6_told_64 : decode cX6_told 64 = .ok (.iload_n 3, 1) := by decide +kernel
theorem dX6_told_65 : decode cX6_told 65 = .ok (.ireturn, 1) := by decide +kernel
theorem dX6_stay_0 : decode cX6_stay 0 = .ok (.aload_n 0, 1) := by decide +kernel
theorem dX6_stay_1 : decode cX6_stay 1 = .ok (.getfield 10, 3) := by decide +kernel
theorem dX6_stay_4 : decode cX6_stay 4 = .ok (.iload_n 1, 1) := by decide +kernel
theorem dX6_stay_5 : decode cX6_stay 5 = .ok (.invokevirtual 83, 3) := by decide +kernel
theorem dX6_stay_8 : decode cX6_stay 8 = .ok (.ifCond .eq 21, 3) := by decide +kernel
theorem dX6_stay_11 : decode cX6_stay 11 = .ok (.iload_n 2, 1) := by decide +kernel
theorem dX6_stay_12 : decode cX6_stay 12 = .ok (.getstatic 94, 3) := by decide +kernel
theorem dX6_stay_15 : decode cX6_stay 15 = .ok (.iconst 5, 1) := by decide +kernel
theorem dX6_stay_16 : decode cX6_stay 16 = .ok (.iaload, 1) := by decide +kernel
theorem dX6_stay_17 : decode cX6_stay 17 = .ok (.if_icmp .lt 12, 3) := by decide +kernel
theorem dX6_stay_20 : decode cX6_stay 20 = .ok (.iload_n 2, 1) := by decide +kernel
theorem dX6_stay_21 : decode cX6_stay 21 = .ok (.getstatic 97, 3) := by decide +kernel
theorem dX6_stay_24 : decode cX6_stay 24 = .ok (.iconst 5, 1) := by decide +kernel
theorem dX6_stay_25 : decode cX6_stay 25 = .ok (.iaload, 1) := by decide +kernel
theorem dX6_stay_26 : decode cX6_stay 26 = .ok (.if_icmp .le 5, 3) := by decide +kernel
theorem dX6_stay_29 : decode cX6_stay 29 = .ok (.iconst (-1), 1) := by decide +kernel
theorem dX6_stay_30 : decode cX6_stay 30 = .ok (.ireturn, 1) := by decide +kernel
theorem dX6_stay_31 : decode cX6_stay 31 = .ok (.aload_n 0, 1) := by decide +kernel
theorem dX6_stay_32 : decode cX6_stay 32 = .ok (.getfield 10, 3) := by decide +kernel
theorem dX6_stay_35 : decode cX6_stay 35 = .ok (.getfield 90, 3) := by decide +kernel
theorem dX6_stay_38 : decode cX6_stay 38 = .ok (.iload_n 1, 1) := by decide +kernel
theorem dX6_stay_39 : decode cX6_stay 39 = .ok (.aaload, 1) := by decide +kernel
theorem dX6_stay_40 : decode cX6_stay 40 = .ok (.iconst 5, 1) := by decide +kernel
theorem dX6_stay_41 : decode cX6_stay 41 = .ok (.iaload, 1) := by decide +kernel
theorem dX6_stay_42 : decode cX6_stay 42 = .ok (.istore_n 3, 1) := by decide +kernel
theorem dX6_stay_43 : decode cX6_stay 43 = .ok (.aload_n 0, 1) := by decide +kernel
theorem dX6_stay_44 : decode cX6_stay 44 = .ok (.getfield 10, 3) := by decide +kernel
theorem dX6_stay_47 : decode cX6_stay 47 = .ok (.getfield 90, 3) := by decide +kernel
theorem dX6_stay_50 : decode cX6_stay 50 = .ok (.iload_n 1, 1) := by decide +kernel
theorem dX6_stay_51 : decode cX6_stay 51 = .ok (.aaload, 1) := by decide +kernel
theorem dX6_stay_52 : decode cX6_stay 52 = .ok (.iconst 5, 1) := by decide +kernel
theorem dX6_stay_53 : decode cX6_stay 53 = .ok (.iload_n 2, 1) := by decide +kernel
theorem dX6_stay_54 : decode cX6_stay 54 = .ok (.iastore, 1) := by decide +kernel
theorem dX6_stay_55 : decode cX6_stay 55 = .ok (.iload_n 3, 1) := by decide +kernel
theorem dX6_stay_56 : decode cX6_stay 56 = .ok (.ireturn, 1) := by decide +kernel
theorem dX6_hold_0 : decode cX6_hold 0 = .ok (.aload_n 0, 1) := by decide +kernel
theorem dX6_hold_1 : decode cX6_hold 1 = .ok (.getfield 10, 3) := by decide +kernel
theorem dX6_hold_4 : decode cX6_hold 4 = .ok (.iload_n 1, 1) := by decide +kernel
theorem dX6_hold_5 : decode cX6_hold 5 = .ok (.invokevirtual 83, 3) := by decide +kernel
theorem dX6_hold_8 : decode cX6_hold 8 = .ok (.ifCond .eq 24, 3) := by decide +kernel
theorem dX6_hold_11 : decode cX6_hold 11 = .ok (.iload_n 2, 1) := by decide +kernel
theorem dX6_hold_12 : decode cX6_hold 12 = .ok (.iload_n 1, 1) := by decide +kernel
theorem dX6_hold_13 : decode cX6_hold 13 = .ok (.if_icmp .eq 19, 3) := by decide +kernel
theorem dX6_hold_16 : decode cX6_hold 16 = .ok (.iload_n 2, 1) := by decide +kernel
theorem dX6_hold_17 : decode cX6_hold 17 = .ok (.iconst (-1), 1) := by decide +kernel
theorem dX6_hold_18 : decode cX6_hold 18 = .ok (.if_icmp .eq 16, 3) := by decide +kernel
theorem dX6_hold_21 : decode cX6_hold 21 = .ok (.aload_n 0, 1) := by decide +kernel
theorem dX6_hold_22 : decode cX6_hold 22 = .ok (.getfield 10, 3) := by decide +kernel
theorem dX6_hold_25 : decode cX6_hold 25 = .ok (.iload_n 2, 1) := by decide +kernel
theorem dX6_hold_26 : decode cX6_hold 26 = .ok (.invokevirtual 83, 3) := by decide +kernel
theorem dX6_hold_29 : decode cX6_hold 29 = .ok (.ifCond .ne 5, 3) := by decide +kernel
theorem dX6_hold_32 : decode cX6_hold 32 = .ok (.iconst (-1), 1) := by decide +kernel
theorem dX6_hold_33 : decode cX6_hold 33 = .ok (.ireturn, 1) := by decide +kernel
theorem dX6_hold_34 : decode cX6_hold 34 = .ok (.aload_n 0, 1) := by decide +kernel
theorem dX6_hold_35 : decode cX6_hold 35 = .ok (.getfield 10, 3) := by decide +kernel
theorem dX6_hold_38 : decode cX6_hold 38 = .ok (.getfield 90, 3) := by decide +kernel
theorem dX6_hold_41 : decode cX6_hold 41 = .ok (.iload_n 1, 1) := by decide +kernel
theorem dX6_hold_42 : decode cX6_hold 42 = .ok (.aaload, 1) := by decide +kernel
theorem dX6_hold_43 : decode cX6_hold 43 = .ok (.bipush 6, 2) := by decide +kernel
theorem dX6_hold_45 : decode cX6_hold 45 = .ok (.iaload, 1) := by decide +kernel
theorem dX6_hold_46 : decode cX6_hold 46 = .ok (.istore_n 3, 1) := by decide +kernel
theorem dX6_hold_47 : decode cX6_hold 47 = .ok (.aload_n 0, 1) := by decide +kernel
theorem dX6_hold_48 : decode cX6_hold 48 = .ok (.getfield 10, 3) := by decide +kernel
theorem dX6_hold_51 : decode cX6_hold 51 = .ok (.getfield 90, 3) := by decide +kernel
theorem dX6_hold_54 : decode cX6_hold 54 = .ok (.iload_n 1, 1) := by decide +kernel
theorem dX6_hold_55 : decode cX6_hold 55 = .ok (.aaload, 1) := by decide +kernel
theorem dX6_hold_56 : decode cX6_hold 56 = .ok (.bipush 6, 2) := by decide +kernel
theorem dX6_hold_58 : decode cX6_hold 58 = .ok (.iload_n 2, 1) := by decide +kernel
theorem dX6_hold_59 : decode cX6_hold 59 = .ok (.iastore, 1) := by decide +kernel
theorem dX6_hold_60 : decode cX6_hold 60 = .ok (.iconst 1, 1) := by decide +kernel
theorem dX6_hold_61 : decode cX6_hold 61 = .ok (.iload_n 3, 1) := by decide +kernel
theorem dX6_hold_62 : decode cX6_hold 62 = .ok (.iadd, 1) := by decide +kernel
theorem dX6_hold_63 : decode cX6_hold 63 = .ok (.ireturn, 1) := by decide +kernel
theorem dX6_clear_0 : decode cX6_clear 0 = .ok (.aload_n 0, 1) := by decide +kernel
theorem dX6_clear_1 : decode cX6_clear 1 = .ok (.getfield 10, 3) := by decide +kernel
theorem dX6_clear_4 : decode cX6_clear 4 = .ok (.getfield 80, 3) := by decide +kernel
theorem dX6_clear_7 : decode cX6_clear 7 = .ok (.istore_n 1, 1) := by decide +kernel
theorem dX6_clear_8 : decode cX6_clear 8 = .ok (.aload_n 0, 1) := by decide +kernel
theorem dX6_clear_9 : decode cX6_clear 9 = .ok (.getfield 10, 3) := by decide +kernel
theorem dX6_clear_12 : decode cX6_clear 12 = .ok (.iconst 0, 1) := by decide +kernel
theorem dX6_clear_13 : decode cX6_clear 13 = .ok (.putfield 80, 3) := by decide +kernel
theorem dX6_clear_16 : decode cX6_clear 16 = .ok (.iload_n 1, 1) := by decide +kernel
theorem dX6_clear_17 : decode cX6_clear 17 = .ok (.ireturn, 1) := by decide +kernel
theorem dX6_type_0 : decode cX6_type 0 = .ok (.iload_n 3, 1) := by decide +kernel
theorem dX6_type_1 : decode cX6_type 1 = .ok (.iconst 1, 1) := by decide +kernel
theorem dX6_type_2 : decode cX6_type 2 = .ok (.if_icmp .lt 9, 3) := by decide +kernel
theorem dX6_type_5 : decode cX6_type 5 = .ok (.iload_n 3, 1) := by decide +kernel
theorem dX6_type_6 : decode cX6_type 6 = .ok (.bipush 8, 2) := by decide +kernel
theorem dX6_type_8 : decode cX6_type 8 = .ok (.if_icmp .le 5, 3) := by decide +kernel
theorem dX6_type_11 : decode cX6_type 11 = .ok (.iconst (-1), 1) := by decide +kernel
theorem dX6_type_12 : decode cX6_type 12 = .ok (.ireturn, 1) := by decide +kernel
theorem dX6_type_13 : decode cX6_type 13 = .ok (.iconst 0, 1) := by decide +kernel
theorem dX6_type_14 : decode cX6_type 14 = .ok (.istore 4, 2) := by decide +kernel
theorem dX6_type_16 : decode cX6_type 16 = .ok (.iload 4, 2) := by decide +kernel
theorem dX6_type_18 : decode cX6_type 18 = .ok (.iload_n 3, 1) := by decide +kernel
theorem dX6_type_19 : decode cX6_type 19 = .ok (.if_icmp .ge 33, 3) := by decide +kernel
theorem dX6_type_22 : decode cX6_type 22 = .ok (.lload_n 1, 1) := by decide +kernel
theorem dX6_type_23 : decode cX6_type 23 = .ok (.iload 4, 2) := by decide +kernel
theorem dX6_type_25 : decode cX6_type 25 = .ok (.invokestatic 100, 3) := by decide +kernel
theorem dX6_type_28 : decode cX6_type 28 = .ok (.istore 5, 2) := by decide +kernel
theorem dX6_type_30 : decode cX6_type 30 = .ok (.iload 5, 2) := by decide +kernel
theorem dX6_type_32 : decode cX6_type 32 = .ok (.bipush 32, 2) := by decide +kernel
theorem dX6_type_34 : decode cX6_type 34 = .ok (.if_icmp .lt 10, 3) := by decide +kernel
theorem dX6_type_37 : decode cX6_type 37 = .ok (.iload 5, 2) := by decide +kernel
theorem dX6_type_39 : decode cX6_type 39 = .ok (.bipush 126, 2) := by decide +kernel
theorem dX6_type_41 : decode cX6_type 41 = .ok (.if_icmp .le 5, 3) := by decide +kernel
theorem dX6_type_44 : decode cX6_type 44 = .ok (.iconst (-1), 1) := by decide +kernel
theorem dX6_type_45 : decode cX6_type 45 = .ok (.ireturn, 1) := by decide +kernel
theorem dX6_type_46 : decode cX6_type 46 = .ok (.iinc 4 1, 3) := by decide +kernel
theorem dX6_type_49 : decode cX6_type 49 = .ok (.goto (-33), 3) := by decide +kernel
theorem dX6_type_52 : decode cX6_type 52 = .ok (.aload_n 0, 1) := by decide +kernel
theorem dX6_type_53 : decode cX6_type 53 = .ok (.getfield 22, 3) := by decide +kernel
theorem dX6_type_56 : decode cX6_type 56 = .ok (.getfield 104, 3) := by decide +kernel
theorem dX6_type_59 : decode cX6_type 59 = .ok (.iload_n 3, 1) := by decide +kernel
theorem dX6_type_60 : decode cX6_type 60 = .ok (.iadd, 1) := by decide +kernel
theorem dX6_type_61 : decode cX6_type 61 = .ok (.bipush 80, 2) := by decide +kernel
theorem dX6_type_63 : decode cX6_type 63 = .ok (.if_icmp .le 6, 3) := by decide +kernel
theorem dX6_type_66 : decode cX6_type 66 = .ok (.bipush (-3), 2) := by decide +kernel
theorem dX6_type_68 : decode cX6_type 68 = .ok (.ireturn, 1) := by decide +kernel
theorem dX6_type_69 : decode cX6_type 69 = .ok (.iload_n 3, 1) := by decide +kernel
theorem dX6_type_70 : decode cX6_type 70 = .ok (.iconst 1, 1) := by decide +kernel
theorem dX6_type_71 : decode cX6_type 71 = .ok (.isub, 1) := by decide +kernel
theorem dX6_type_72 : decode cX6_type 72 = .ok (.istore 4, 2) := by decide +kernel
theorem dX6_type_74 : decode cX6_type 74 = .ok (.iload 4, 2) := by decide +kernel
theorem dX6_type_76 : decode cX6_type 76 = .ok (.ifCond .lt 22, 3) := by decide +kernel
theorem dX6_type_79 : decode cX6_type 79 = .ok (.aload_n 0, 1) := by decide +kernel
theorem dX6_type_80 : decode cX6_type 80 = .ok (.getfield 22, 3) := by decide +kernel
theorem dX6_type_83 : decode cX6_type 83 = .ok (.lload_n 1, 1) := by decide +kernel
theorem dX6_type_84 : decode cX6_type 84 = .ok (.iload 4, 2) := by decide +kernel
theorem dX6_type_86 : decode cX6_type 86 = .ok (.invokestatic 100, 3) := by decide +kernel
theorem dX6_type_89 : decode cX6_type 89 = .ok (.invokevirtual 105, 3) := by decide +kernel
theorem dX6_type_92 : decode cX6_type 92 = .ok (.iinc 4 (-1), 3) := by decide +kernel
theorem dX6_type_95 : decode cX6_type 95 = .ok (.goto (-21), 3) := by decide +kernel
theorem dX6_type_98 : decode cX6_type 98 = .ok (.aload_n 0, 1) := by decide +kernel
theorem dX6_type_99 : decode cX6_type 99 = .ok (.getfield 22, 3) := by decide +kernel
theorem dX6_type_102 : decode cX6_type 102 = .ok (.getfield 104, 3) := by decide +kernel
theorem dX6_type_105 : decode cX6_type 105 = .ok (.ireturn, 1) := by decide +kernel
theorem dX6_laws_0 : decode cX6_laws 0 = .ok (.aload_n 0, 1) := by decide +kernel
theorem dX6_laws_1 : decode cX6_laws 1 = .ok (.getfield 22, 3) := by decide +kernel
theorem dX6_laws_4 : decode cX6_laws 4 = .ok (.aload_n 0, 1) := by decide +kernel
theorem dX6_laws_5 : decode cX6_laws 5 = .ok (.getfield 26, 3) := by decide +kernel
theorem dX6_laws_8 : decode cX6_laws 8 = .ok (.invokevirtual 109, 3) := by decide +kernel
theorem dX6_laws_11 : decode cX6_laws 11 = .ok (.istore_n 1, 1) := by decide +kernel
theorem dX6_laws_12 : decode cX6_laws 12 = .ok (.aload_n 0, 1) := by decide +kernel
theorem dX6_laws_13 : decode cX6_laws 13 = .ok (.getfield 22, 3) := by decide +kernel
theorem dX6_laws_16 : decode cX6_laws 16 = .ok (.iconst 0, 1) := by decide +kernel
theorem dX6_laws_17 : decode cX6_laws 17 = .ok (.putfield 104, 3) := by decide +kernel
theorem dX6_laws_20 : decode cX6_laws 20 = .ok (.iload_n 1, 1) := by decide +kernel
theorem dX6_laws_21 : decode cX6_laws 21 = .ok (.ifCond .ge 5, 3) := by decide +kernel
theorem dX6_laws_24 : decode cX6_laws 24 = .ok (.iload_n 1, 1) := by decide +kernel
theorem dX6_laws_25 : decode cX6_laws 25 = .ok (.ireturn, 1) := by decide +kernel
theorem dX6_laws_26 : decode cX6_laws 26 = .ok (.iconst 0, 1) := by decide +kernel
theorem dX6_laws_27 : decode cX6_laws 27 = .ok (.istore_n 2, 1) := by decide +kernel
theorem dX6_laws_28 : decode cX6_laws 28 = .ok (.iload_n 2, 1) := by decide +kernel
theorem dX6_laws_29 : decode cX6_laws 29 = .ok (.bipush 6, 2) := by decide +kernel
theorem dX6_laws_31 : decode cX6_laws 31 = .ok (.if_icmp .ge 33, 3) := by decide +kernel
theorem dX6_laws_34 : decode cX6_laws 34 = .ok (.aload_n 0, 1) := by decide +kernel
theorem dX6_laws_35 : decode cX6_laws 35 = .ok (.getfield 26, 3) := by decide +kernel
theorem dX6_laws_38 : decode cX6_laws 38 = .ok (.iload_n 2, 1) := by decide +kernel
theorem dX6_laws_39 : decode cX6_laws 39 = .ok (.iaload, 1) := by decide +kernel
theorem dX6_laws_40 : decode cX6_laws 40 = .ok (.ifCond .lt 18, 3) := by decide +kernel
theorem dX6_laws_43 : decode cX6_laws 43 = .ok (.aload_n 0, 1) := by decide +kernel
theorem dX6_laws_44 : decode cX6_laws 44 = .ok (.getfield 10, 3) := by decide +kernel
theorem dX6_laws_47 : decode cX6_laws 47 = .ok (.getfield 65, 3) := by decide +kernel
theorem dX6_laws_50 : decode cX6_laws 50 = .ok (.iload_n 2, 1) := by decide +kernel
theorem dX6_laws_51 : decode cX6_laws 51 = .ok (.aload_n 0, 1) := by decide +kernel
theorem dX6_laws_52 : decode cX6_laws 52 = .ok (.getfield 26, 3) := by decide +kernel
theorem dX6_laws_55 : decode cX6_laws 55 = .ok (.iload_n 2, 1) := by decide +kernel
theorem dX6_laws_56 : decode cX6_laws 56 = .ok (.iaload, 1) := by decide +kernel
theorem dX6_laws_57 : decode cX6_laws 57 = .ok (.iastore, 1) := by decide +kernel
theorem dX6_laws_58 : decode cX6_laws 58 = .ok (.iinc 2 1, 3) := by decide +kernel
theorem dX6_laws_61 : decode cX6_laws 61 = .ok (.goto (-33), 3) := by decide +kernel
theorem dX6_laws_64 : decode cX6_laws 64 = .ok (.iload_n 1, 1) := by decide +kernel
theorem dX6_laws_65 : decode cX6_laws 65 = .ok (.ireturn, 1) := by decide +kernel
theorem dX6_people_0 : decode cX6_people 0 = .ok (.aload_n 0, 1) := by decide +kernel
theorem dX6_people_1 : decode cX6_people 1 = .ok (.getfield 22, 3) := by decide +kernel
theorem dX6_people_4 : decode cX6_people 4 = .ok (.aload_n 0, 1) := by decide +kernel
theorem dX6_people_5 : decode cX6_people 5 = .ok (.getfield 26, 3) := by decide +kernel
theorem dX6_people_8 : decode cX6_people 8 = .ok (.invokevirtual 113, 3) := by decide +kernel
theorem dX6_people_11 : decode cX6_people 11 = .ok (.istore_n 1, 1) := by decide +kernel
theorem dX6_people_12 : decode cX6_people 12 = .ok (.aload_n 0, 1) := by decide +kernel
theorem dX6_people_13 : decode cX6_people 13 = .ok (.getfield 22, 3) := by decide +kernel
theorem dX6_people_16 : decode cX6_people 16 = .ok (.iconst 0, 1) := by decide +kernel
theorem dX6_people_17 : decode cX6_people 17 = .ok (.putfield 104, 3) := by decide +kernel
theorem dX6_people_20 : decode cX6_people 20 = .ok (.iload_n 1, 1) := by decide +kernel
theorem dX6_people_21 : decode cX6_people 21 = .ok (.ifCond .ge 5, 3) := by decide +kernel
theorem dX6_people_24 : decode cX6_people 24 = .ok (.iload_n 1, 1) := by decide +kernel
theorem dX6_people_25 : decode cX6_people 25 = .ok (.ireturn, 1) := by decide +kernel
theorem dX6_people_26 : decode cX6_people 26 = .ok (.aload_n 0, 1) := by decide +kernel
theorem dX6_people_27 : decode cX6_people 27 = .ok (.aload_n 0, 1) := by decide +kernel
theorem dX6_people_28 : decode cX6_people 28 = .ok (.getfield 26, 3) := by decide +kernel
theorem dX6_people_31 : decode cX6_people 31 = .ok (.iconst 0, 1) := by decide +kernel
theorem dX6_people_32 : decode cX6_people 32 = .ok (.iload_n 1, 1) := by decide +kernel
theorem dX6_people_33 : decode cX6_people 33 = .ok (.invokevirtual 116, 3) := by decide +kernel
theorem dX6_people_36 : decode cX6_people 36 = .ok (.ireturn, 1) := by decide +kernel
theorem dX6_count_0 : decode cX6_count 0 = .ok (.iload_n 1, 1) := by decide +kernel
theorem dX6_count_1 : decode cX6_count 1 = .ok (.ifCond .lt 8, 3) := by decide +kernel
theorem dX6_count_4 : decode cX6_count 4 = .ok (.iload_n 1, 1) := by decide +kernel
theorem dX6_count_5 : decode cX6_count 5 = .ok (.iconst 2, 1) := by decide +kernel
theorem dX6_count_6 : decode cX6_count 6 = .ok (.if_icmp .le 5, 3) := by decide +kernel
theorem dX6_count_9 : decode cX6_count 9 = .ok (.iconst (-1), 1) := by decide +kernel
theorem dX6_count_10 : decode cX6_count 10 = .ok (.ireturn, 1) := by decide +kernel
theorem dX6_count_11 : decode cX6_count 11 = .ok (.iload_n 1, 1) := by decide +kernel
theorem dX6_count_12 : decode cX6_count 12 = .ok (.ifCond .ne 11, 3) := by decide +kernel
theorem dX6_count_15 : decode cX6_count 15 = .ok (.aload_n 0, 1) := by decide +kernel
theorem dX6_count_16 : decode cX6_count 16 = .ok (.getfield 10, 3) := by decide +kernel
theorem dX6_count_19 : decode cX6_count 19 = .ok (.getfield 80, 3) := by decide +kernel
theorem dX6_count_22 : decode cX6_count 22 = .ok (.ireturn, 1) := by decide +kernel
theorem dX6_count_23 : decode cX6_count 23 = .ok (.iconst 0, 1) := by decide +kernel
theorem dX6_count_24 : decode cX6_count 24 = .ok (.istore_n 2, 1) := by decide +kernel
theorem dX6_count_25 : decode cX6_count 25 = .ok (.iconst 0, 1) := by decide +kernel
theorem dX6_count_26 : decode cX6_count 26 = .ok (.istore_n 3, 1) := by decide +kernel
theorem dX6_count_27 : decode cX6_count 27 = .ok (.iconst 0, 1) := by decide +kernel
theorem dX6_count_28 : decode cX6_count 28 = .ok (.istore 4, 2) := by decide +kernel
theorem dX6_count_30 : decode cX6_count 30 = .ok (.iload 4, 2) := by decide +kernel
theorem dX6_count_32 : decode cX6_count 32 = .ok (.aload_n 0, 1) := by decide +kernel
theorem dX6_count_33 : decode cX6_count 33 = .ok (.getfield 10, 3) := by decide +kernel
theorem dX6_count_36 : decode cX6_count 36 = .ok (.getfield 80, 3) := by decide +kernel
theorem dX6_count_39 : decode cX6_count 39 = .ok (.if_icmp .ge 47, 3) := by decide +kernel
theorem dX6_count_42 : decode cX6_count 42 = .ok (.iload_n 2, 1) := by decide +kernel
theorem dX6_count_43 : decode cX6_count 43 = .ok (.aload_n 0, 1) := by decide +kernel
theorem dX6_count_44 : decode cX6_count 44 = .ok (.getfield 10, 3) := by decide +kernel
theorem dX6_count_47 : decode cX6_count 47 = .ok (.getfield 90, 3) := by decide +kernel
theorem dX6_count_50 : decode cX6_count 50 = .ok (.iload 4, 2) := by decide +kernel
theorem dX6_count_52 : decode cX6_count 52 = .ok (.aaload, 1) := by decide +kernel
theorem dX6_count_53 : decode cX6_count 53 = .ok (.iconst 4, 1) := by decide +kernel
theorem dX6_count_54 : decode cX6_count 54 = .ok (.iaload, 1) := by decide +kernel
theorem dX6_count_55 : decode cX6_count 55 = .ok (.iadd, 1) := by decide +kernel
theorem dX6_count_56 : decode cX6_count 56 = .ok (.istore_n 2, 1) := by decide +kernel
theorem dX6_count_57 : decode cX6_count 57 = .ok (.iload_n 3, 1) := by decide +kernel
theorem dX6_count_58 : decode cX6_count 58 = .ok (.aload_n 0, 1) := by decide +kernel
theorem dX6_count_59 : decode cX6_count 59 = .ok (.getfield 10, 3) := by decide +kernel
theorem dX6_count_62 : decode cX6_count 62 = .ok (.getfield 90, 3) := by decide +kernel
theorem dX6_count_65 : decode cX6_count 65 = .ok (.iload 4, 2) := by decide +kernel
theorem dX6_count_67 : decode cX6_count 67 = .ok (.aaload, 1) := by decide +kernel
theorem dX6_count_68 : decode cX6_count 68 = .ok (.iconst 1, 1) := by decide +kernel
theorem dX6_count_69 : decode cX6_count 69 = .ok (.iaload, 1) := by decide +kernel
theorem dX6_count_70 : decode cX6_count 70 = .ok (.ifCond .ne 7, 3) := by decide +kernel
theorem dX6_count_73 : decode cX6_count 73 = .ok (.iconst 1, 1) := by decide +kernel
theorem dX6_count_74 : decode cX6_count 74 = .ok (.goto 4, 3) := by decide +kernel
theorem dX6_count_77 : decode cX6_count 77 = .ok (.iconst 0, 1) := by decide +kernel
theorem dX6_count_78 : decode cX6_count 78 = .ok (.iadd, 1) := by decide +kernel
theorem dX6_count_79 : decode cX6_count 79 = .ok (.istore_n 3, 1) := by decide +kernel
theorem dX6_count_80 : decode cX6_count 80 = .ok (.iinc 4 1, 3) := by decide +kernel
theorem dX6_count_83 : decode cX6_count 83 = .ok (.goto (-53), 3) := by decide +kernel
theorem dX6_count_86 : decode cX6_count 86 = .ok (.iload_n 1, 1) := by decide +kernel
theorem dX6_count_87 : decode cX6_count 87 = .ok (.iconst 1, 1) := by decide +kernel
theorem dX6_count_88 : decode cX6_count 88 = .ok (.if_icmp .ne 7, 3) := by decide +kernel
theorem dX6_count_91 : decode cX6_count 91 = .ok (.iload_n 2, 1) := by decide +kernel
theorem dX6_count_92 : decode cX6_count 92 = .ok (.goto 4, 3) := by decide +kernel
theorem dX6_count_95 : decode cX6_count 95 = .ok (.iload_n 3, 1) := by decide +kernel
theorem dX6_count_96 : decode cX6_count 96 = .ok (.ireturn, 1) := by decide +kernel
theorem dX6_fate_0 : decode cX6_fate 0 = .ok (.aload_n 0, 1) := by decide +kernel
theorem dX6_fate_1 : decode cX6_fate 1 = .ok (.getfield 10, 3) := by decide +kernel
theorem dX6_fate_4 : decode cX6_fate 4 = .ok (.iload_n 1, 1) := by decide +kernel
theorem dX6_fate_5 : decode cX6_fate 5 = .ok (.invokevirtual 83, 3) := by decide +kernel
theorem dX6_fate_8 : decode cX6_fate 8 = .ok (.ifCond .eq 12, 3) := by decide +kernel
theorem dX6_fate_11 : decode cX6_fate 11 = .ok (.iload_n 2, 1) := by decide +kernel
theorem dX6_fate_12 : decode cX6_fate 12 = .ok (.ifCond .lt 8, 3) := by decide +kernel
theorem dX6_fate_15 : decode cX6_fate 15 = .ok (.iload_n 2, 1) := by decide +kernel
theorem dX6_fate_16 : decode cX6_fate 16 = .ok (.iconst 4, 1) := by decide +kernel
theorem dX6_fate_17 : decode cX6_fate 17 = .ok (.if_icmp .le 5, 3) := by decide +kernel
theorem dX6_fate_20 : decode cX6_fate 20 = .ok (.iconst (-1), 1) := by decide +kernel
theorem dX6_fate_21 : decode cX6_fate 21 = .ok (.ireturn, 1) := by decide +kernel
theorem dX6_fate_22 : decode cX6_fate 22 = .ok (.aload_n 0, 1) := by decide +kernel
theorem dX6_fate_23 : decode cX6_fate 23 = .ok (.getfield 33, 3) := by decide +kernel
theorem dX6_fate_26 : decode cX6_fate 26 = .ok (.aload_n 0, 1) := by decide +kernel
theorem dX6_fate_27 : decode cX6_fate 27 = .ok (.getfield 10, 3) := by decide +kernel
theorem dX6_fate_30 : decode cX6_fate 30 = .ok (.invokevirtual 120, 3) := by decide +kernel
theorem dX6_fate_33 : decode cX6_fate 33 = .ok (.aload_n 0, 1) := by decide +kernel
theorem dX6_fate_34 : decode cX6_fate 34 = .ok (.getfield 33, 3) := by decide +kernel
theorem dX6_fate_37 : decode cX6_fate 37 = .ok (.sipush 999, 3) := by decide +kernel
theorem dX6_fate_40 : decode cX6_fate 40 = .ok (.invokevirtual 124, 3) := by decide +kernel
theorem dX6_fate_43 : decode cX6_fate 43 = .ok (.aload_n 0, 1) := by decide +kernel
theorem dX6_fate_44 : decode cX6_fate 44 = .ok (.getfield 33, 3) := by decide +kernel
theorem dX6_fate_47 : decode cX6_fate 47 = .ok (.getfield 127, 3) := by decide +kernel
theorem dX6_fate_50 : decode cX6_fate 50 = .ok (.iload_n 1, 1) := by decide +kernel
theorem dX6_fate_51 : decode cX6_fate 51 = .ok (.aaload, 1) := by decide +kernel
theorem dX6_fate_52 : decode cX6_fate 52 = .ok (.astore_n 3, 1) := by decide +kernel
theorem dX6_fate_53 : decode cX6_fate 53 = .ok (.iload_n 2, 1) := by decide +kernel
theorem dX6_fate_54 : decode cX6_fate 54 = .ok (.tableswitch 63 0 3 #[30, 48, 53, 58], 30) := by decide +kernel
theorem dX6_fate_84 : decode cX6_fate 84 = .ok (.aload_n 3, 1) := by decide +kernel
theorem dX6_fate_85 : decode cX6_fate 85 = .ok (.getfield 131, 3) := by decide +kernel
theorem dX6_fate_88 : decode cX6_fate 88 = .ok (.iconst 4, 1) := by decide +kernel
theorem dX6_fate_89 : decode cX6_fate 89 = .ok (.if_icmp .ne 10, 3) := by decide +kernel
theorem dX6_fate_92 : decode cX6_fate 92 = .ok (.aload_n 3, 1) := by decide +kernel
theorem dX6_fate_93 : decode cX6_fate 93 = .ok (.getfield 136, 3) := by decide +kernel
theorem dX6_fate_96 : decode cX6_fate 96 = .ok (.goto 5, 3) := by decide +kernel
theorem dX6_fate_99 : decode cX6_fate 99 = .ok (.bipush (-4), 2) := by decide +kernel
theorem dX6_fate_101 : decode cX6_fate 101 = .ok (.ireturn, 1) := by decide +kernel
theorem dX6_fate_102 : decode cX6_fate 102 = .ok (.aload_n 3, 1) := by decide +kernel
theorem dX6_fate_103 : decode cX6_fate 103 = .ok (.getfield 139, 3) := by decide +kernel
theorem dX6_fate_106 : decode cX6_fate 106 = .ok (.ireturn, 1) := by decide +kernel
theorem dX6_fate_107 : decode cX6_fate 107 = .ok (.aload_n 3, 1) := by decide +kernel
theorem dX6_fate_108 : decode cX6_fate 108 = .ok (.getfield 142, 3) := by decide +kernel
theorem dX6_fate_111 : decode cX6_fate 111 = .ok (.ireturn, 1) := by decide +kernel
theorem dX6_fate_112 : decode cX6_fate 112 = .ok (.aload_n 3, 1) := by decide +kernel
theorem dX6_fate_113 : decode cX6_fate 113 = .ok (.getfield 145, 3) := by decide +kernel
theorem dX6_fate_116 : decode cX6_fate 116 = .ok (.ireturn, 1) := by decide +kernel
theorem dX6_fate_117 : decode cX6_fate 117 = .ok (.aload_n 3, 1) := by decide +kernel
theorem dX6_fate_118 : decode cX6_fate 118 = .ok (.getfield 148, 3) := by decide +kernel
theorem dX6_fate_121 : decode cX6_fate 121 = .ok (.ireturn, 1) := by decide +kernel
theorem dX6_at_0 : decode cX6_at 0 = .ok (.iload_n 1, 1) := by decide +kernel
theorem dX6_at_1 : decode cX6_at 1 = .ok (.ifCond .lt 19, 3) := by decide +kernel
theorem dX6_at_4 : decode cX6_at 4 = .ok (.iload_n 1, 1) := by decide +kernel
theorem dX6_at_5 : decode cX6_at 5 = .ok (.sipush 999, 3) := by decide +kernel
theorem dX6_at_8 : decode cX6_at 8 = .ok (.if_icmp .gt 12, 3) := by decide +kernel
theorem dX6_at_11 : decode cX6_at 11 = .ok (.iload_n 2, 1) := by decide +kernel
theorem dX6_at_12 : decode cX6_at 12 = .ok (.ifCond .lt 8, 3) := by decide +kernel
theorem dX6_at_15 : decode cX6_at 15 = .ok (.iload_n 2, 1) := by decide +kernel
theorem dX6_at_16 : decode cX6_at 16 = .ok (.iconst 5, 1) := by decide +kernel
theorem dX6_at_17 : decode cX6_at 17 = .ok (.if_icmp .le 5, 3) := by decide +kernel
theorem dX6_at_20 : decode cX6_at 20 = .ok (.iconst (-1), 1) := by decide +kernel
theorem dX6_at_21 : decode cX6_at 21 = .ok (.ireturn, 1) := by decide +kernel
theorem dX6_at_22 : decode cX6_at 22 = .ok (.aload_n 0, 1) := by decide +kernel
theorem dX6_at_23 : decode cX6_at 23 = .ok (.getfield 33, 3) := by decide +kernel
theorem dX6_at_26 : decode cX6_at 26 = .ok (.aload_n 0, 1) := by decide +kernel
theorem dX6_at_27 : decode cX6_at 27 = .ok (.getfield 10, 3) := by decide +kernel
theorem dX6_at_30 : decode cX6_at 30 = .ok (.invokevirtual 120, 3) := by decide +kernel
theorem dX6_at_33 : decode cX6_at 33 = .ok (.aload_n 0, 1) := by decide +kernel
theorem dX6_at_34 : decode cX6_at 34 = .ok (.getfield 33, 3) := by decide +kernel
theorem dX6_at_37 : decode cX6_at 37 = .ok (.iload_n 1, 1) := by decide +kernel
theorem dX6_at_38 : decode cX6_at 38 = .ok (.invokevirtual 124, 3) := by decide +kernel
theorem dX6_at_41 : decode cX6_at 41 = .ok (.iload_n 2, 1) := by decide +kernel
theorem dX6_at_42 : decode cX6_at 42 = .ok (.tableswitch 77 0 4 #[34, 42, 51, 60, 69], 34) := by decide +kernel
theorem dX6_at_76 : decode cX6_at 76 = .ok (.aload_n 0, 1) := by decide +kernel
theorem dX6_at_77 : decode cX6_at 77 = .ok (.getfield 33, 3) := by decide +kernel
theorem dX6_at_80 : decode cX6_at 80 = .ok (.getfield 151, 3) := by decide +kernel
theorem dX6_at_83 : decode cX6_at 83 = .ok (.ireturn, 1) := by decide +kernel
theorem dX6_at_84 : decode cX6_at 84 = .ok (.aload_n 0, 1) := by decide +kernel
theorem dX6_at_85 : decode cX6_at 85 = .ok (.getfield 33, 3) := by decide +kernel
theorem dX6_at_88 : decode cX6_at 88 = .ok (.iconst 0, 1) := by decide +kernel
theorem dX6_at_89 : decode cX6_at 89 = .ok (.invokevirtual 154, 3) := by decide +kernel
theorem dX6_at_92 : decode cX6_at 92 = .ok (.ireturn, 1) := by decide +kernel
theorem dX6_at_93 : decode cX6_at 93 = .ok (.aload_n 0, 1) := by decide +kernel
theorem dX6_at_94 : decode cX6_at 94 = .ok (.getfield 33, 3) := by decide +kernel
theorem dX6_at_97 : decode cX6_at 97 = .ok (.iconst 1, 1) := by decide +kernel
theorem dX6_at_98 : decode cX6_at 98 = .ok (.invokevirtual 154, 3) := by decide +kernel
theorem dX6_at_101 : decode cX6_at 101 = .ok (.ireturn, 1) := by decide +kernel
theorem dX6_at_102 : decode cX6_at 102 = .ok (.aload_n 0, 1) := by decide +kernel
theorem dX6_at_103 : decode cX6_at 103 = .ok (.getfield 33, 3) := by decide +kernel
theorem dX6_at_106 : decode cX6_at 106 = .ok (.iconst 2, 1) := by decide +kernel
theorem dX6_at_107 : decode cX6_at 107 = .ok (.invokevirtual 157, 3) := by decide +kernel
theorem dX6_at_110 : decode cX6_at 110 = .ok (.ireturn, 1) := by decide +kernel
theorem dX6_at_111 : decode cX6_at 111 = .ok (.aload_n 0, 1) := by decide +kernel
theorem dX6_at_112 : decode cX6_at 112 = .ok (.getfield 33, 3) := by decide +kernel
theorem dX6_at_115 : decode cX6_at 115 = .ok (.getfield 160, 3) := by decide +kernel
theorem dX6_at_118 : decode cX6_at 118 = .ok (.ireturn, 1) := by decide +kernel
theorem dX6_at_119 : decode cX6_at 119 = .ok (.aload_n 0, 1) := by decide +kernel
theorem dX6_at_120 : decode cX6_at 120 = .ok (.getfield 33, 3) := by decide +kernel
theorem dX6_at_123 : decode cX6_at 123 = .ok (.iconst 4, 1) := by decide +kernel
theorem dX6_at_124 : decode cX6_at 124 = .ok (.invokevirtual 157, 3) := by decide +kernel
theorem dX6_at_127 : decode cX6_at 127 = .ok (.ireturn, 1) := by decide +kernel
theorem dX6_gone_0 : decode cX6_gone 0 = .ok (.aload_n 0, 1) := by decide +kernel
theorem dX6_gone_1 : decode cX6_gone 1 = .ok (.getfield 10, 3) := by decide +kernel
theorem dX6_gone_4 : decode cX6_gone 4 = .ok (.iload_n 1, 1) := by decide +kernel
theorem dX6_gone_5 : decode cX6_gone 5 = .ok (.invokevirtual 83, 3) := by decide +kernel
theorem dX6_gone_8 : decode cX6_gone 8 = .ok (.ifCond .eq 14, 3) := by decide +kernel
theorem dX6_gone_11 : decode cX6_gone 11 = .ok (.iload_n 2, 1) := by decide +kernel
theorem dX6_gone_12 : decode cX6_gone 12 = .ok (.ifCond .lt 10, 3) := by decide +kernel
theorem dX6_gone_15 : decode cX6_gone 15 = .ok (.iload_n 2, 1) := by decide +kernel
theorem dX6_gone_16 : decode cX6_gone 16 = .ok (.sipush 999, 3) := by decide +kernel
theorem dX6_gone_19 : decode cX6_gone 19 = .ok (.if_icmp .le 5, 3) := by decide +kernel
theorem dX6_gone_22 : decode cX6_gone 22 = .ok (.iconst (-1), 1) := by decide +kernel
theorem dX6_gone_23 : decode cX6_gone 23 = .ok (.ireturn, 1) := by decide +kernel
theorem dX6_gone_24 : decode cX6_gone 24 = .ok (.aload_n 0, 1) := by decide +kernel
theorem dX6_gone_25 : decode cX6_gone 25 = .ok (.getfield 33, 3) := by decide +kernel
theorem dX6_gone_28 : decode cX6_gone 28 = .ok (.aload_n 0, 1) := by decide +kernel
theorem dX6_gone_29 : decode cX6_gone 29 = .ok (.getfield 10, 3) := by decide +kernel
theorem dX6_gone_32 : decode cX6_gone 32 = .ok (.invokevirtual 120, 3) := by decide +kernel
theorem dX6_gone_35 : decode cX6_gone 35 = .ok (.aload_n 0, 1) := by decide +kernel
theorem dX6_gone_36 : decode cX6_gone 36 = .ok (.getfield 33, 3) := by decide +kernel
theorem dX6_gone_39 : decode cX6_gone 39 = .ok (.iload_n 2, 1) := by decide +kernel
theorem dX6_gone_40 : decode cX6_gone 40 = .ok (.invokevirtual 124, 3) := by decide +kernel
theorem dX6_gone_43 : decode cX6_gone 43 = .ok (.aload_n 0, 1) := by decide +kernel
theorem dX6_gone_44 : decode cX6_gone 44 = .ok (.getfield 33, 3) := by decide +kernel
theorem dX6_gone_47 : decode cX6_gone 47 = .ok (.getfield 127, 3) := by decide +kernel
theorem dX6_gone_50 : decode cX6_gone 50 = .ok (.iload_n 1, 1) := by decide +kernel
theorem dX6_gone_51 : decode cX6_gone 51 = .ok (.aaload, 1) := by decide +kernel
theorem dX6_gone_52 : decode cX6_gone 52 = .ok (.astore_n 3, 1) := by decide +kernel
theorem dX6_gone_53 : decode cX6_gone 53 = .ok (.aload_n 3, 1) := by decide +kernel
theorem dX6_gone_54 : decode cX6_gone 54 = .ok (.invokevirtual 163, 3) := by decide +kernel
theorem dX6_gone_57 : decode cX6_gone 57 = .ok (.ifCond .eq 10, 3) := by decide +kernel
theorem dX6_gone_60 : decode cX6_gone 60 = .ok (.aload_n 3, 1) := by decide +kernel
theorem dX6_gone_61 : decode cX6_gone 61 = .ok (.getfield 167, 3) := by decide +kernel
theorem dX6_gone_64 : decode cX6_gone 64 = .ok (.goto 5, 3) := by decide +kernel
theorem dX6_gone_67 : decode cX6_gone 67 = .ok (.bipush (-4), 2) := by decide +kernel
theorem dX6_gone_69 : decode cX6_gone 69 = .ok (.ireturn, 1) := by decide +kernel
theorem dX6_all_0 : decode cX6_all 0 = .ok (.iload_n 1, 1) := by decide +kernel
theorem dX6_all_1 : decode cX6_all 1 = .ok (.ifCond .lt 8, 3) := by decide +kernel
theorem dX6_all_4 : decode cX6_all 4 = .ok (.iload_n 1, 1) := by decide +kernel
theorem dX6_all_5 : decode cX6_all 5 = .ok (.iconst 4, 1) := by decide +kernel
theorem dX6_all_6 : decode cX6_all 6 = .ok (.if_icmp .le 5, 3) := by decide +kernel
theorem dX6_all_9 : decode cX6_all 9 = .ok (.iconst (-1), 1) := by decide +kernel
theorem dX6_all_10 : decode cX6_all 10 = .ok (.ireturn, 1) := by decide +kernel
theorem dX6_all_11 : decode cX6_all 11 = .ok (.aload_n 0, 1) := by decide +kernel
theorem dX6_all_12 : decode cX6_all 12 = .ok (.getfield 33, 3) := by decide +kernel
theorem dX6_all_15 : decode cX6_all 15 = .ok (.aload_n 0, 1) := by decide +kernel
theorem dX6_all_16 : decode cX6_all 16 = .ok (.getfield 10, 3) := by decide +kernel
theorem dX6_all_19 : decode cX6_all 19 = .ok (.invokevirtual 120, 3) := by decide +kernel
theorem dX6_all_22 : decode cX6_all 22 = .ok (.aload_n 0, 1) := by decide +kernel
theorem dX6_all_23 : decode cX6_all 23 = .ok (.getfield 33, 3) := by decide +kernel
theorem dX6_all_26 : decode cX6_all 26 = .ok (.sipush 999, 3) := by decide +kernel
theorem dX6_all_29 : decode cX6_all 29 = .ok (.invokevirtual 124, 3) := by decide +kernel
theorem dX6_all_32 : decode cX6_all 32 = .ok (.iload_n 1, 1) := by decide +kernel
theorem dX6_all_33 : decode cX6_all 33 = .ok (.tableswitch 63 0 3 #[31, 39, 47, 55], 31) := by decide +kernel
theorem dX6_all_64 : decode cX6_all 64 = .ok (.aload_n 0, 1) := by decide +kernel
theorem dX6_all_65 : decode cX6_all 65 = .ok (.getfield 33, 3) := by decide +kernel
theorem dX6_all_68 : decode cX6_all 68 = .ok (.getfield 151, 3) := by decide +kernel
theorem dX6_all_71 : decode cX6_all 71 = .ok (.ireturn, 1) := by decide +kernel
theorem dX6_all_72 : decode cX6_all 72 = .ok (.aload_n 0, 1) := by decide +kernel
theorem dX6_all_73 : decode cX6_all 73 = .ok (.getfield 33, 3) := by decide +kernel
theorem dX6_all_76 : decode cX6_all 76 = .ok (.invokevirtual 170, 3) := by decide +kernel
theorem dX6_all_79 : decode cX6_all 79 = .ok (.ireturn, 1) := by decide +kernel
theorem dX6_all_80 : decode cX6_all 80 = .ok (.aload_n 0, 1) := by decide +kernel
theorem dX6_all_81 : decode cX6_all 81 = .ok (.getfield 33, 3) := by decide +kernel
theorem dX6_all_84 : decode cX6_all 84 = .ok (.invokevirtual 174, 3) := by decide +kernel
theorem dX6_all_87 : decode cX6_all 87 = .ok (.ireturn, 1) := by decide +kernel
theorem dX6_all_88 : decode cX6_all 88 = .ok (.aload_n 0, 1) := by decide +kernel
theorem dX6_all_89 : decode cX6_all 89 = .ok (.getfield 33, 3) := by decide +kernel
theorem dX6_all_92 : decode cX6_all 92 = .ok (.getfield 177, 3) := by decide +kernel
theorem dX6_all_95 : decode cX6_all 95 = .ok (.ireturn, 1) := by decide +kernel
theorem dX6_all_96 : decode cX6_all 96 = .ok (.aload_n 0, 1) := by decide +kernel
theorem dX6_all_97 : decode cX6_all 97 = .ok (.getfield 33, 3) := by decide +kernel
theorem dX6_all_100 : decode cX6_all 100 = .ok (.invokevirtual 180, 3) := by decide +kernel
theorem dX6_all_103 : decode cX6_all 103 = .ok (.ireturn, 1) := by decide +kernel
theorem dX6_soonest_0 : decode cX6_soonest 0 = .ok (.aload_n 0, 1) := by decide +kernel
theorem dX6_soonest_1 : decode cX6_soonest 1 = .ok (.getfield 40, 3) := by decide +kernel
theorem dX6_soonest_4 : decode cX6_soonest 4 = .ok (.iload_n 1, 1) := by decide +kernel
theorem dX6_soonest_5 : decode cX6_soonest 5 = .ok (.aload_n 0, 1) := by decide +kernel
theorem dX6_soonest_6 : decode cX6_soonest 6 = .ok (.getfield 10, 3) := by decide +kernel
theorem dX6_soonest_9 : decode cX6_soonest 9 = .ok (.getfield 80, 3) := by decide +kernel
theorem dX6_soonest_12 : decode cX6_soonest 12 = .ok (.invokevirtual 183, 3) := by decide +kernel
theorem dX6_soonest_15 : decode cX6_soonest 15 = .ok (.ifCond .eq 20, 3) := by decide +kernel
theorem dX6_soonest_18 : decode cX6_soonest 18 = .ok (.iload_n 2, 1) := by decide +kernel
theorem dX6_soonest_19 : decode cX6_soonest 19 = .ok (.bipush (-2), 2) := by decide +kernel
theorem dX6_soonest_21 : decode cX6_soonest 21 = .ok (.if_icmp .lt 14, 3) := by decide +kernel
theorem dX6_soonest_24 : decode cX6_soonest 24 = .ok (.iload_n 2, 1) := by decide +kernel
theorem dX6_soonest_25 : decode cX6_soonest 25 = .ok (.aload_n 0, 1) := by decide +kernel
theorem dX6_soonest_26 : decode cX6_soonest 26 = .ok (.getfield 40, 3) := by decide +kernel
theorem dX6_soonest_29 : decode cX6_soonest 29 = .ok (.getfield 186, 3) := by decide +kernel
theorem dX6_soonest_32 : decode cX6_soonest 32 = .ok (.if_icmp .lt 5, 3) := by decide +kernel
theorem dX6_soonest_35 : decode cX6_soonest 35 = .ok (.iconst (-1), 1) := by decide +kernel
theorem dX6_soonest_36 : decode cX6_soonest 36 = .ok (.ireturn, 1) := by decide +kernel
theorem dX6_soonest_37 : decode cX6_soonest 37 = .ok (.aload_n 0, 1) := by decide +kernel
theorem dX6_soonest_38 : decode cX6_soonest 38 = .ok (.getfield 40, 3) := by decide +kernel
theorem dX6_soonest_41 : decode cX6_soonest 41 = .ok (.aload_n 0, 1) := by decide +kernel
theorem dX6_soonest_42 : decode cX6_soonest 42 = .ok (.getfield 33, 3) := by decide +kernel
theorem dX6_soonest_45 : decode cX6_soonest 45 = .ok (.aload_n 0, 1) := by decide +kernel
theorem dX6_soonest_46 : decode cX6_soonest 46 = .ok (.getfield 10, 3) := by decide +kernel
theorem dX6_soonest_49 : decode cX6_soonest 49 = .ok (.invokevirtual 187, 3) := by decide +kernel
theorem dX6_soonest_52 : decode cX6_soonest 52 = .ok (.iload_n 2, 1) := by decide +kernel
theorem dX6_soonest_53 : decode cX6_soonest 53 = .ok (.ifCond .ge 14, 3) := by decide +kernel
theorem dX6_soonest_56 : decode cX6_soonest 56 = .ok (.aload_n 0, 1) := by decide +kernel
theorem dX6_soonest_57 : decode cX6_soonest 57 = .ok (.getfield 40, 3) := by decide +kernel
theorem dX6_soonest_60 : decode cX6_soonest 60 = .ok (.iload_n 2, 1) := by decide +kernel
theorem dX6_soonest_61 : decode cX6_soonest 61 = .ok (.invokevirtual 191, 3) := by decide +kernel
theorem dX6_soonest_64 : decode cX6_soonest 64 = .ok (.goto 12, 3) := by decide +kernel
theorem dX6_soonest_67 : decode cX6_soonest 67 = .ok (.aload_n 0, 1) := by decide +kernel
theorem dX6_soonest_68 : decode cX6_soonest 68 = .ok (.getfield 40, 3) := by decide +kernel
theorem dX6_soonest_71 : decode cX6_soonest 71 = .ok (.getfield 194, 3) := by decide +kernel
theorem dX6_soonest_74 : decode cX6_soonest 74 = .ok (.iload_n 2, 1) := by decide +kernel
theorem dX6_soonest_75 : decode cX6_soonest 75 = .ok (.iaload, 1) := by decide +kernel
theorem dX6_soonest_76 : decode cX6_soonest 76 = .ok (.ireturn, 1) := by decide +kernel
theorem dX6_order_0 : decode cX6_order 0 = .ok (.aload_n 0, 1) := by decide +kernel
theorem dX6_order_1 : decode cX6_order 1 = .ok (.getfield 40, 3) := by decide +kernel
theorem dX6_order_4 : decode cX6_order 4 = .ok (.iload_n 1, 1) := by decide +kernel
theorem dX6_order_5 : decode cX6_order 5 = .ok (.aload_n 0, 1) := by decide +kernel
theorem dX6_order_6 : decode cX6_order 6 = .ok (.getfield 10, 3) := by decide +kernel
theorem dX6_order_9 : decode cX6_order 9 = .ok (.getfield 80, 3) := by decide +kernel
theorem dX6_order_12 : decode cX6_order 12 = .ok (.invokevirtual 183, 3) := by decide +kernel
theorem dX6_order_15 : decode cX6_order 15 = .ok (.ifCond .eq 30, 3) := by decide +kernel
theorem dX6_order_18 : decode cX6_order 18 = .ok (.iload_n 2, 1) := by decide +kernel
theorem dX6_order_19 : decode cX6_order 19 = .ok (.ifCond .lt 26, 3) := by decide +kernel
theorem dX6_order_22 : decode cX6_order 22 = .ok (.iload_n 2, 1) := by decide +kernel
theorem dX6_order_23 : decode cX6_order 23 = .ok (.bipush 60, 2) := by decide +kernel
theorem dX6_order_25 : decode cX6_order 25 = .ok (.if_icmp .gt 20, 3) := by decide +kernel
theorem dX6_order_28 : decode cX6_order 28 = .ok (.iload_n 3, 1) := by decide +kernel
theorem dX6_order_29 : decode cX6_order 29 = .ok (.bipush (-2), 2) := by decide +kernel
theorem dX6_order_31 : decode cX6_order 31 = .ok (.if_icmp .lt 14, 3) := by decide +kernel
theorem dX6_order_34 : decode cX6_order 34 = .ok (.iload_n 3, 1) := by decide +kernel
theorem dX6_order_35 : decode cX6_order 35 = .ok (.aload_n 0, 1) := by decide +kernel
theorem dX6_order_36 : decode cX6_order 36 = .ok (.getfield 40, 3) := by decide +kernel
theorem dX6_order_39 : decode cX6_order 39 = .ok (.getfield 186, 3) := by decide +kernel
theorem dX6_order_42 : decode cX6_order 42 = .ok (.if_icmp .lt 5, 3) := by decide +kernel
theorem dX6_order_45 : decode cX6_order 45 = .ok (.iconst (-1), 1) := by decide +kernel
theorem dX6_order_46 : decode cX6_order 46 = .ok (.ireturn, 1) := by decide +kernel
theorem dX6_order_47 : decode cX6_order 47 = .ok (.aload_n 0, 1) := by decide +kernel
theorem dX6_order_48 : decode cX6_order 48 = .ok (.getfield 40, 3) := by decide +kernel
theorem dX6_order_51 : decode cX6_order 51 = .ok (.aload_n 0, 1) := by decide +kernel
theorem dX6_order_52 : decode cX6_order 52 = .ok (.getfield 33, 3) := by decide +kernel
theorem dX6_order_55 : decode cX6_order 55 = .ok (.aload_n 0, 1) := by decide +kernel
theorem dX6_order_56 : decode cX6_order 56 = .ok (.getfield 10, 3) := by decide +kernel
theorem dX6_order_59 : decode cX6_order 59 = .ok (.iload_n 2, 1) := by decide +kernel
theorem dX6_order_60 : decode cX6_order 60 = .ok (.invokevirtual 197, 3) := by decide +kernel
theorem dX6_order_63 : decode cX6_order 63 = .ok (.iload_n 3, 1) := by decide +kernel
theorem dX6_order_64 : decode cX6_order 64 = .ok (.ifCond .ge 14, 3) := by decide +kernel
theorem dX6_order_67 : decode cX6_order 67 = .ok (.aload_n 0, 1) := by decide +kernel
theorem dX6_order_68 : decode cX6_order 68 = .ok (.getfield 40, 3) := by decide +kernel
theorem dX6_order_71 : decode cX6_order 71 = .ok (.iload_n 3, 1) := by decide +kernel
theorem dX6_order_72 : decode cX6_order 72 = .ok (.invokevirtual 191, 3) := by decide +kernel
theorem dX6_order_75 : decode cX6_order 75 = .ok (.goto 11, 3) := by decide +kernel
theorem dX6_order_78 : decode cX6_order 78 = .ok (.aload_n 0, 1) := by decide +kernel
theorem dX6_order_79 : decode cX6_order 79 = .ok (.getfield 40, 3) := by decide +kernel
theorem dX6_order_82 : decode cX6_order 82 = .ok (.iload_n 3, 1) := by decide +kernel
theorem dX6_order_83 : decode cX6_order 83 = .ok (.invokevirtual 201, 3) := by decide +kernel
theorem dX6_order_86 : decode cX6_order 86 = .ok (.ireturn, 1) := by decide +kernel
theorem dX6_worth_0 : decode cX6_worth 0 = .ok (.aload_n 0, 1) := by decide +kernel
theorem dX6_worth_1 : decode cX6_worth 1 = .ok (.getfield 10, 3) := by decide +kernel
theorem dX6_worth_4 : decode cX6_worth 4 = .ok (.iload_n 1, 1) := by decide +kernel
theorem dX6_worth_5 : decode cX6_worth 5 = .ok (.invokevirtual 83, 3) := by decide +kernel
theorem dX6_worth_8 : decode cX6_worth 8 = .ok (.ifCond .eq 19, 3) := by decide +kernel
theorem dX6_worth_11 : decode cX6_worth 11 = .ok (.aload_n 0, 1) := by decide +kernel
theorem dX6_worth_12 : decode cX6_worth 12 = .ok (.getfield 10, 3) := by decide +kernel
theorem dX6_worth_15 : decode cX6_worth 15 = .ok (.iload_n 2, 1) := by decide +kernel
theorem dX6_worth_16 : decode cX6_worth 16 = .ok (.invokevirtual 83, 3) := by decide +kernel
theorem dX6_worth_19 : decode cX6_worth 19 = .ok (.ifCond .eq 8, 3) := by decide +kernel
theorem dX6_worth_22 : decode cX6_worth 22 = .ok (.iload_n 1, 1) := by decide +kernel
theorem dX6_worth_23 : decode cX6_worth 23 = .ok (.iload_n 2, 1) := by decide +kernel
theorem dX6_worth_24 : decode cX6_worth 24 = .ok (.if_icmp .ne 6, 3) := by decide +kernel
theorem dX6_worth_27 : decode cX6_worth 27 = .ok (.ldc 204, 2) := by decide +kernel
theorem dX6_worth_29 : decode cX6_worth 29 = .ok (.ireturn, 1) := by decide +kernel
theorem dX6_worth_30 : decode cX6_worth 30 = .ok (.aload_n 0, 1) := by decide +kernel
theorem dX6_worth_31 : decode cX6_worth 31 = .ok (.getfield 33, 3) := by decide +kernel
theorem dX6_worth_34 : decode cX6_worth 34 = .ok (.aload_n 0, 1) := by decide +kernel
theorem dX6_worth_35 : decode cX6_worth 35 = .ok (.getfield 10, 3) := by decide +kernel
theorem dX6_worth_38 : decode cX6_worth 38 = .ok (.invokevirtual 120, 3) := by decide +kernel
theorem dX6_worth_41 : decode cX6_worth 41 = .ok (.aload_n 0, 1) := by decide +kernel
theorem dX6_worth_42 : decode cX6_worth 42 = .ok (.getfield 33, 3) := by decide +kernel
theorem dX6_worth_45 : decode cX6_worth 45 = .ok (.sipush 999, 3) := by decide +kernel
theorem dX6_worth_48 : decode cX6_worth 48 = .ok (.invokevirtual 124, 3) := by decide +kernel
theorem dX6_worth_51 : decode cX6_worth 51 = .ok (.aload_n 0, 1) := by decide +kernel
theorem dX6_worth_52 : decode cX6_worth 52 = .ok (.getfield 33, 3) := by decide +kernel
theorem dX6_worth_55 : decode cX6_worth 55 = .ok (.invokevirtual 170, 3) := by decide +kernel
theorem dX6_worth_58 : decode cX6_worth 58 = .ok (.istore_n 3, 1) := by decide +kernel
theorem dX6_worth_59 : decode cX6_worth 59 = .ok (.iload_n 3, 1) := by decide +kernel
theorem dX6_worth_60 : decode cX6_worth 60 = .ok (.aload_n 0, 1) := by decide +kernel
theorem dX6_worth_61 : decode cX6_worth 61 = .ok (.iload_n 1, 1) := by decide +kernel
theorem dX6_worth_62 : decode cX6_worth 62 = .ok (.iload_n 2, 1) := by decide +kernel
theorem dX6_worth_63 : decode cX6_worth 63 = .ok (.invokevirtual 205, 3) := by decide +kernel
theorem dX6_worth_66 : decode cX6_worth 66 = .ok (.isub, 1) := by decide +kernel
theorem dX6_worth_67 : decode cX6_worth 67 = .ok (.ireturn, 1) := by decide +kernel
theorem dX6_waits_0 : decode cX6_waits 0 = .ok (.iload_n 1, 1) := by decide +kernel
theorem dX6_waits_1 : decode cX6_waits 1 = .ok (.ifCond .lt 8, 3) := by decide +kernel
theorem dX6_waits_4 : decode cX6_waits 4 = .ok (.iload_n 1, 1) := by decide +kernel
theorem dX6_waits_5 : decode cX6_waits 5 = .ok (.iconst 1, 1) := by decide +kernel
theorem dX6_waits_6 : decode cX6_waits 6 = .ok (.if_icmp .le 5, 3) := by decide +kernel
theorem dX6_waits_9 : decode cX6_waits 9 = .ok (.iconst (-1), 1) := by decide +kernel
theorem dX6_waits_10 : decode cX6_waits 10 = .ok (.ireturn, 1) := by decide +kernel
theorem dX6_waits_11 : decode cX6_waits 11 = .ok (.aload_n 0, 1) := by decide +kernel
theorem dX6_waits_12 : decode cX6_waits 12 = .ok (.getfield 10, 3) := by decide +kernel
theorem dX6_waits_15 : decode cX6_waits 15 = .ok (.getfield 80, 3) := by decide +kernel
theorem dX6_waits_18 : decode cX6_waits 18 = .ok (.iconst 2, 1) := by decide +kernel
theorem dX6_waits_19 : decode cX6_waits 19 = .ok (.if_icmp .ge 6, 3) := by decide +kernel
theorem dX6_waits_22 : decode cX6_waits 22 = .ok (.bipush (-2), 2) := by decide +kernel
theorem dX6_waits_24 : decode cX6_waits 24 = .ok (.ireturn, 1) := by decide +kernel
theorem dX6_waits_25 : decode cX6_waits 25 = .ok (.ldc 209, 2) := by decide +kernel
theorem dX6_waits_27 : decode cX6_waits 27 = .ok (.istore_n 2, 1) := by decide +kernel
theorem dX6_waits_28 : decode cX6_waits 28 = .ok (.iconst 0, 1) := by decide +kernel
theorem dX6_waits_29 : decode cX6_waits 29 = .ok (.istore_n 3, 1) := by decide +kernel
theorem dX6_waits_30 : decode cX6_waits 30 = .ok (.iconst 0, 1) := by decide +kernel
theorem dX6_waits_31 : decode cX6_waits 31 = .ok (.istore 4, 2) := by decide +kernel
theorem dX6_waits_33 : decode cX6_waits 33 = .ok (.iload 4, 2) := by decide +kernel
theorem dX6_waits_35 : decode cX6_waits 35 = .ok (.aload_n 0, 1) := by decide +kernel
theorem dX6_waits_36 : decode cX6_waits 36 = .ok (.getfield 10, 3) := by decide +kernel
theorem dX6_waits_39 : decode cX6_waits 39 = .ok (.getfield 80, 3) := by decide +kernel
theorem dX6_waits_42 : decode cX6_waits 42 = .ok (.if_icmp .ge 73, 3) := by decide +kernel
theorem dX6_waits_45 : decode cX6_waits 45 = .ok (.iconst 0, 1) := by decide +kernel
theorem dX6_waits_46 : decode cX6_waits 46 = .ok (.istore 5, 2) := by decide +kernel
theorem dX6_waits_48 : decode cX6_waits 48 = .ok (.iload 5, 2) := by decide +kernel
theorem dX6_waits_50 : decode cX6_waits 50 = .ok (.aload_n 0, 1) := by decide +kernel
theorem dX6_waits_51 : decode cX6_waits 51 = .ok (.getfield 10, 3) := by decide +kernel
theorem dX6_waits_54 : decode cX6_waits 54 = .ok (.getfield 80, 3) := by decide +kernel
theorem dX6_waits_57 : decode cX6_waits 57 = .ok (.if_icmp .ge 52, 3) := by decide +kernel
theorem dX6_waits_60 : decode cX6_waits 60 = .ok (.iload 4, 2) := by decide +kernel
theorem dX6_waits_62 : decode cX6_waits 62 = .ok (.iload 5, 2) := by decide +kernel
theorem dX6_waits_64 : decode cX6_waits 64 = .ok (.if_icmp .ne 8, 3) := by decide +kernel
theorem dX6_waits_67 : decode cX6_waits 67 = .ok (.ldc 209, 2) := by decide +kernel
theorem dX6_waits_69 : decode cX6_waits 69 = .ok (.goto 11, 3) := by decide +kernel
theorem dX6_waits_72 : decode cX6_waits 72 = .ok (.aload_n 0, 1) := by decide +kernel
theorem dX6_waits_73 : decode cX6_waits 73 = .ok (.iload 4, 2) := by decide +kernel
theorem dX6_waits_75 : decode cX6_waits 75 = .ok (.iload 5, 2) := by decide +kernel
theorem dX6_waits_77 : decode cX6_waits 77 = .ok (.invokevirtual 205, 3) := by decide +kernel
theorem dX6_waits_80 : decode cX6_waits 80 = .ok (.istore 6, 2) := by decide +kernel
theorem dX6_waits_82 : decode cX6_waits 82 = .ok (.iload 6, 2) := by decide +kernel
theorem dX6_waits_84 : decode cX6_waits 84 = .ok (.iload_n 2, 1) := by decide +kernel
theorem dX6_waits_85 : decode cX6_waits 85 = .ok (.if_icmp .ge 18, 3) := by decide +kernel
theorem dX6_waits_88 : decode cX6_waits 88 = .ok (.iload 6, 2) := by decide +kernel
theorem dX6_waits_90 : decode cX6_waits 90 = .ok (.istore_n 2, 1) := by decide +kernel
theorem dX6_waits_91 : decode cX6_waits 91 = .ok (.iload_n 1, 1) := by decide +kernel
theorem dX6_waits_92 : decode cX6_waits 92 = .ok (.ifCond .ne 8, 3) := by decide +kernel
theorem dX6_waits_95 : decode cX6_waits 95 = .ok (.iload 4, 2) := by decide +kernel
theorem dX6_waits_97 : decode cX6_waits 97 = .ok (.goto 5, 3) := by decide +kernel
theorem dX6_waits_100 : decode cX6_waits 100 = .ok (.iload 5, 2) := by decide +kernel
theorem dX6_waits_102 : decode cX6_waits 102 = .ok (.istore_n 3, 1) := by decide +kernel
theorem dX6_waits_103 : decode cX6_waits 103 = .ok (.iinc 5 1, 3) := by decide +kernel
theorem dX6_waits_106 : decode cX6_waits 106 = .ok (.goto (-58), 3) := by decide +kernel
theorem dX6_waits_109 : decode cX6_waits 109 = .ok (.iinc 4 1, 3) := by decide +kernel
theorem dX6_waits_112 : decode cX6_waits 112 = .ok (.goto (-79), 3) := by decide +kernel
theorem dX6_waits_115 : decode cX6_waits 115 = .ok (.iload_n 3, 1) := by decide +kernel
theorem dX6_waits_116 : decode cX6_waits 116 = .ok (.ireturn, 1) := by decide +kernel
theorem dX6_handed_0 : decode cX6_handed 0 = .ok (.aload_n 0, 1) := by decide +kernel
theorem dX6_handed_1 : decode cX6_handed 1 = .ok (.getfield 10, 3) := by decide +kernel
theorem dX6_handed_4 : decode cX6_handed 4 = .ok (.iload_n 1, 1) := by decide +kernel
theorem dX6_handed_5 : decode cX6_handed 5 = .ok (.invokevirtual 83, 3) := by decide +kernel
theorem dX6_handed_8 : decode cX6_handed 8 = .ok (.ifCond .eq 39, 3) := by decide +kernel
theorem dX6_handed_11 : decode cX6_handed 11 = .ok (.aload_n 0, 1) := by decide +kernel
theorem dX6_handed_12 : decode cX6_handed 12 = .ok (.getfield 10, 3) := by decide +kernel
theorem dX6_handed_15 : decode cX6_handed 15 = .ok (.iload_n 2, 1) := by decide +kernel
theorem dX6_handed_16 : decode cX6_handed 16 = .ok (.invokevirtual 83, 3) := by decide +kernel
theorem dX6_handed_19 : decode cX6_handed 19 = .ok (.ifCond .eq 28, 3) := by decide +kernel
theorem dX6_handed_22 : decode cX6_handed 22 = .ok (.aload_n 0, 1) := by decide +kernel
theorem dX6_handed_23 : decode cX6_handed 23 = .ok (.getfield 10, 3) := by decide +kernel
theorem dX6_handed_26 : decode cX6_handed 26 = .ok (.getfield 90, 3) := by decide +kernel
theorem dX6_handed_29 : decode cX6_handed 29 = .ok (.iload_n 1, 1) := by decide +kernel
theorem dX6_handed_30 : decode cX6_handed 30 = .ok (.aaload, 1) := by decide +kernel
theorem dX6_handed_31 : decode cX6_handed 31 = .ok (.iconst 1, 1) := by decide +kernel
theorem dX6_handed_32 : decode cX6_handed 32 = .ok (.iaload, 1) := by decide +kernel
theorem dX6_handed_33 : decode cX6_handed 33 = .ok (.aload_n 0, 1) := by decide +kernel
theorem dX6_handed_34 : decode cX6_handed 34 = .ok (.getfield 10, 3) := by decide +kernel
theorem dX6_handed_37 : decode cX6_handed 37 = .ok (.getfield 90, 3) := by decide +kernel
theorem dX6_handed_40 : decode cX6_handed 40 = .ok (.iload_n 2, 1) := by decide +kernel
theorem dX6_handed_41 : decode cX6_handed 41 = .ok (.aaload, 1) := by decide +kernel
theorem dX6_handed_42 : decode cX6_handed 42 = .ok (.iconst 1, 1) := by decide +kernel
theorem dX6_handed_43 : decode cX6_handed 43 = .ok (.iaload, 1) := by decide +kernel
theorem dX6_handed_44 : decode cX6_handed 44 = .ok (.if_icmp .ne 5, 3) := by decide +kernel
theorem dX6_handed_47 : decode cX6_handed 47 = .ok (.iconst (-1), 1) := by decide +kernel
theorem dX6_handed_48 : decode cX6_handed 48 = .ok (.ireturn, 1) := by decide +kernel
theorem dX6_handed_49 : decode cX6_handed 49 = .ok (.iconst 2, 1) := by decide +kernel
theorem dX6_handed_50 : decode cX6_handed 50 = .ok (.aload_n 0, 1) := by decide +kernel
theorem dX6_handed_51 : decode cX6_handed 51 = .ok (.getfield 10, 3) := by decide +kernel
theorem dX6_handed_54 : decode cX6_handed 54 = .ok (.getfield 51, 3) := by decide +kernel
theorem dX6_handed_57 : decode cX6_handed 57 = .ok (.aload_n 0, 1) := by decide +kernel
theorem dX6_handed_58 : decode cX6_handed 58 = .ok (.getfield 10, 3) := by decide +kernel
theorem dX6_handed_61 : decode cX6_handed 61 = .ok (.iload_n 1, 1) := by decide +kernel
theorem dX6_handed_62 : decode cX6_handed 62 = .ok (.invokevirtual 86, 3) := by decide +kernel
theorem dX6_handed_65 : decode cX6_handed 65 = .ok (.aload_n 0, 1) := by decide +kernel
theorem dX6_handed_66 : decode cX6_handed 66 = .ok (.getfield 10, 3) := by decide +kernel
theorem dX6_handed_69 : decode cX6_handed 69 = .ok (.iload_n 2, 1) := by decide +kernel
theorem dX6_handed_70 : decode cX6_handed 70 = .ok (.invokevirtual 86, 3) := by decide +kernel
theorem dX6_handed_73 : decode cX6_handed 73 = .ok (.iadd, 1) := by decide +kernel
theorem dX6_handed_74 : decode cX6_handed 74 = .ok (.invokestatic 210, 3) := by decide +kernel
theorem dX6_handed_77 : decode cX6_handed 77 = .ok (.imul, 1) := by decide +kernel
theorem dX6_handed_78 : decode cX6_handed 78 = .ok (.ireturn, 1) := by decide +kernel
theorem dX6_ford_0 : decode cX6_ford 0 = .ok (.aload_n 0, 1) := by decide +kernel
theorem dX6_ford_1 : decode cX6_ford 1 = .ok (.getfield 10, 3) := by decide +kernel
theorem dX6_ford_4 : decode cX6_ford 4 = .ok (.iload_n 1, 1) := by decide +kernel
theorem dX6_ford_5 : decode cX6_ford 5 = .ok (.invokevirtual 83, 3) := by decide +kernel
theorem dX6_ford_8 : decode cX6_ford 8 = .ok (.ifCond .ne 5, 3) := by decide +kernel
theorem dX6_ford_11 : decode cX6_ford 11 = .ok (.iconst (-1), 1) := by decide +kernel
theorem dX6_ford_12 : decode cX6_ford 12 = .ok (.ireturn, 1) := by decide +kernel
theorem dX6_ford_13 : decode cX6_ford 13 = .ok (.aload_n 0, 1) := by decide +kernel
theorem dX6_ford_14 : decode cX6_ford 14 = .ok (.getfield 10, 3) := by decide +kernel
theorem dX6_ford_17 : decode cX6_ford 17 = .ok (.getfield 65, 3) := by decide +kernel
theorem dX6_ford_20 : decode cX6_ford 20 = .ok (.iconst 5, 1) := by decide +kernel
theorem dX6_ford_21 : decode cX6_ford 21 = .ok (.iaload, 1) := by decide +kernel
theorem dX6_ford_22 : decode cX6_ford 22 = .ok (.istore_n 2, 1) := by decide +kernel
theorem dX6_ford_23 : decode cX6_ford 23 = .ok (.iload_n 2, 1) := by decide +kernel
theorem dX6_ford_24 : decode cX6_ford 24 = .ok (.ifCond .ne 8, 3) := by decide +kernel
theorem dX6_ford_27 : decode cX6_ford 27 = .ok (.bipush (-2), 2) := by decide +kernel
theorem dX6_ford_29 : decode cX6_ford 29 = .ok (.goto 15, 3) := by decide +kernel
theorem dX6_ford_32 : decode cX6_ford 32 = .ok (.aload_n 0, 1) := by decide +kernel
theorem dX6_ford_33 : decode cX6_ford 33 = .ok (.getfield 10, 3) := by decide +kernel
theorem dX6_ford_36 : decode cX6_ford 36 = .ok (.iload_n 1, 1) := by decide +kernel
theorem dX6_ford_37 : decode cX6_ford 37 = .ok (.invokevirtual 86, 3) := by decide +kernel
theorem dX6_ford_40 : decode cX6_ford 40 = .ok (.iload_n 2, 1) := by decide +kernel
theorem dX6_ford_41 : decode cX6_ford 41 = .ok (.imul, 1) := by decide +kernel
theorem dX6_ford_42 : decode cX6_ford 42 = .ok (.iconst 1, 1) := by decide +kernel
theorem dX6_ford_43 : decode cX6_ford 43 = .ok (.iadd, 1) := by decide +kernel
theorem dX6_ford_44 : decode cX6_ford 44 = .ok (.ireturn, 1) := by decide +kernel
theorem dX6_shared_0 : decode cX6_shared 0 = .ok (.iload_n 1, 1) := by decide +kernel
theorem dX6_shared_1 : decode cX6_shared 1 = .ok (.ifCond .lt 18, 3) := by decide +kernel
theorem dX6_shared_4 : decode cX6_shared 4 = .ok (.iload_n 1, 1) := by decide +kernel
theorem dX6_shared_5 : decode cX6_shared 5 = .ok (.bipush 10, 2) := by decide +kernel
theorem dX6_shared_7 : decode cX6_shared 7 = .ok (.if_icmp .gt 12, 3) := by decide +kernel
theorem dX6_shared_10 : decode cX6_shared 10 = .ok (.iload_n 2, 1) := by decide +kernel
theorem dX6_shared_11 : decode cX6_shared 11 = .ok (.ifCond .lt 8, 3) := by decide +kernel
theorem dX6_shared_14 : decode cX6_shared 14 = .ok (.iload_n 2, 1) := by decide +kernel
theorem dX6_shared_15 : decode cX6_shared 15 = .ok (.iconst 1, 1) := by decide +kernel
theorem dX6_shared_16 : decode cX6_shared 16 = .ok (.if_icmp .le 5, 3) := by decide +kernel
theorem dX6_shared_19 : decode cX6_shared 19 = .ok (.iconst (-1), 1) := by decide +kernel
theorem dX6_shared_20 : decode cX6_shared 20 = .ok (.ireturn, 1) := by decide +kernel
theorem dX6_shared_21 : decode cX6_shared 21 = .ok (.iconst 0, 1) := by decide +kernel
theorem dX6_shared_22 : decode cX6_shared 22 = .ok (.istore_n 3, 1) := by decide +kernel
theorem dX6_shared_23 : decode cX6_shared 23 = .ok (.ldc 209, 2) := by decide +kernel
theorem dX6_shared_25 : decode cX6_shared 25 = .ok (.istore 4, 2) := by decide +kernel
theorem dX6_shared_27 : decode cX6_shared 27 = .ok (.aload_n 0, 1) := by decide +kernel
theorem dX6_shared_28 : decode cX6_shared 28 = .ok (.getfield 33, 3) := by decide +kernel
theorem dX6_shared_31 : decode cX6_shared 31 = .ok (.aload_n 0, 1) := by decide +kernel
theorem dX6_shared_32 : decode cX6_shared 32 = .ok (.getfield 10, 3) := by decide +kernel
theorem dX6_shared_35 : decode cX6_shared 35 = .ok (.invokevirtual 120, 3) := by decide +kernel
theorem dX6_shared_38 : decode cX6_shared 38 = .ok (.iconst 0, 1) := by decide +kernel
theorem dX6_shared_39 : decode cX6_shared 39 = .ok (.istore 5, 2) := by decide +kernel
theorem dX6_shared_41 : decode cX6_shared 41 = .ok (.iload 5, 2) := by decide +kernel
theorem dX6_shared_43 : decode cX6_shared 43 = .ok (.iconst 1, 1) := by decide +kernel
theorem dX6_shared_44 : decode cX6_shared 44 = .ok (.aload_n 0, 1) := by decide +kernel
theorem dX6_shared_45 : decode cX6_shared 45 = .ok (.getfield 10, 3) := by decide +kernel
theorem dX6_shared_48 : decode cX6_shared 48 = .ok (.getfield 80, 3) := by decide +kernel
theorem dX6_shared_51 : decode cX6_shared 51 = .ok (.ishl, 1) := by decide +kernel
theorem dX6_shared_52 : decode cX6_shared 52 = .ok (.if_icmp .ge 82, 3) := by decide +kernel
theorem dX6_shared_55 : decode cX6_shared 55 = .ok (.iload 5, 2) := by decide +kernel
theorem dX6_shared_57 : decode cX6_shared 57 = .ok (.invokestatic 213, 3) := by decide +kernel
theorem dX6_shared_60 : decode cX6_shared 60 = .ok (.iload_n 1, 1) := by decide +kernel
theorem dX6_shared_61 : decode cX6_shared 61 = .ok (.if_icmp .le 6, 3) := by decide +kernel
theorem dX6_shared_64 : decode cX6_shared 64 = .ok (.goto 64, 3) := by decide +kernel
theorem dX6_shared_67 : decode cX6_shared 67 = .ok (.aload_n 0, 1) := by decide +kernel
theorem dX6_shared_68 : decode cX6_shared 68 = .ok (.getfield 33, 3) := by decide +kernel
theorem dX6_shared_71 : decode cX6_shared 71 = .ok (.iload 5, 2) := by decide +kernel
theorem dX6_shared_73 : decode cX6_shared 73 = .ok (.putfield 218, 3) := by decide +kernel
theorem dX6_shared_76 : decode cX6_shared 76 = .ok (.aload_n 0, 1) := by decide +kernel
theorem dX6_shared_77 : decode cX6_shared 77 = .ok (.getfield 33, 3) := by decide +kernel
theorem dX6_shared_80 : decode cX6_shared 80 = .ok (.sipush 999, 3) := by decide +kernel
theorem dX6_shared_83 : decode cX6_shared 83 = .ok (.invokevirtual 124, 3) := by decide +kernel
theorem dX6_shared_86 : decode cX6_shared 86 = .ok (.aload_n 0, 1) := by decide +kernel
theorem dX6_shared_87 : decode cX6_shared 87 = .ok (.getfield 33, 3) := by decide +kernel
theorem dX6_shared_90 : decode cX6_shared 90 = .ok (.invokevirtual 170, 3) := by decide +kernel
theorem dX6_shared_93 : decode cX6_shared 93 = .ok (.istore 6, 2) := by decide +kernel
theorem dX6_shared_95 : decode cX6_shared 95 = .ok (.iload 6, 2) := by decide +kernel
theorem dX6_shared_97 : decode cX6_shared 97 = .ok (.iload 4, 2) := by decide +kernel
theorem dX6_shared_99 : decode cX6_shared 99 = .ok (.if_icmp .lt 22, 3) := by decide +kernel
theorem dX6_shared_102 : decode cX6_shared 102 = .ok (.iload 6, 2) := by decide +kernel
theorem dX6_shared_104 : decode cX6_shared 104 = .ok (.iload 4, 2) := by decide +kernel
theorem dX6_shared_106 : decode cX6_shared 106 = .ok (.if_icmp .ne 22, 3) := by decide +kernel
theorem dX6_shared_109 : decode cX6_shared 109 = .ok (.iload 5, 2) := by decide +kernel
theorem dX6_shared_111 : decode cX6_shared 111 = .ok (.invokestatic 213, 3) := by decide +kernel
theorem dX6_shared_114 : decode cX6_shared 114 = .ok (.iload_n 3, 1) := by decide +kernel
theorem dX6_shared_115 : decode cX6_shared 115 = .ok (.invokestatic 213, 3) := by decide +kernel
theorem dX6_shared_118 : decode cX6_shared 118 = .ok (.if_icmp .ge 10, 3) := by decide +kernel
theorem dX6_shared_121 : decode cX6_shared 121 = .ok (.iload 6, 2) := by decide +kernel
theorem dX6_shared_123 : decode cX6_shared 123 = .ok (.istore 4, 2) := by decide +kernel
theorem dX6_shared_125 : decode cX6_shared 125 = .ok (.iload 5, 2) := by decide +kernel
theorem dX6_shared_127 : decode cX6_shared 127 = .ok (.istore_n 3, 1) := by decide +kernel
theorem dX6_shared_128 : decode cX6_shared 128 = .ok (.iinc 5 1, 3) := by decide +kernel
theorem dX6_shared_131 : decode cX6_shared 131 = .ok (.goto (-90), 3) := by decide +kernel
theorem dX6_shared_134 : decode cX6_shared 134 = .ok (.iload_n 2, 1) := by decide +kernel
theorem dX6_shared_135 : decode cX6_shared 135 = .ok (.ifCond .ne 7, 3) := by decide +kernel
theorem dX6_shared_138 : decode cX6_shared 138 = .ok (.iload_n 3, 1) := by decide +kernel
theorem dX6_shared_139 : decode cX6_shared 139 = .ok (.goto 5, 3) := by decide +kernel
theorem dX6_shared_142 : decode cX6_shared 142 = .ok (.iload 4, 2) := by decide +kernel
theorem dX6_shared_144 : decode cX6_shared 144 = .ok (.ireturn, 1) := by decide +kernel
theorem dX6_late_0 : decode cX6_late 0 = .ok (.iload_n 1, 1) := by decide +kernel
theorem dX6_late_1 : decode cX6_late 1 = .ok (.iconst 1, 1) := by decide +kernel
theorem dX6_late_2 : decode cX6_late 2 = .ok (.if_icmp .lt 21, 3) := by decide +kernel
theorem dX6_late_5 : decode cX6_late 5 = .ok (.iload_n 1, 1) := by decide +kernel
theorem dX6_late_6 : decode cX6_late 6 = .ok (.bipush 40, 2) := by decide +kernel
theorem dX6_late_8 : decode cX6_late 8 = .ok (.if_icmp .gt 15, 3) := by decide +kernel
theorem dX6_late_11 : decode cX6_late 11 = .ok (.iload_n 2, 1) := by decide +kernel
theorem dX6_late_12 : decode cX6_late 12 = .ok (.iconst 1, 1) := by decide +kernel
theorem dX6_late_13 : decode cX6_late 13 = .ok (.if_icmp .lt 10, 3) := by decide +kernel
theorem dX6_late_16 : decode cX6_late 16 = .ok (.iload_n 2, 1) := by decide +kernel
theorem dX6_late_17 : decode cX6_late 17 = .ok (.sipush 400, 3) := by decide +kernel
theorem dX6_late_20 : decode cX6_late 20 = .ok (.if_icmp .le 5, 3) := by decide +kernel
theorem dX6_late_23 : decode cX6_late 23 = .ok (.iconst (-1), 1) := by decide +kernel
theorem dX6_late_24 : decode cX6_late 24 = .ok (.ireturn, 1) := by decide +kernel
theorem dX6_late_25 : decode cX6_late 25 = .ok (.iload_n 3, 1) := by decide +kernel
theorem dX6_late_26 : decode cX6_late 26 = .ok (.iconst 1, 1) := by decide +kernel
theorem dX6_late_27 : decode cX6_late 27 = .ok (.if_icmp .lt 21, 3) := by decide +kernel
theorem dX6_late_30 : decode cX6_late 30 = .ok (.iload_n 3, 1) := by decide +kernel
theorem dX6_late_31 : decode cX6_late 31 = .ok (.sipush 400, 3) := by decide +kernel
theorem dX6_late_34 : decode cX6_late 34 = .ok (.if_icmp .gt 14, 3) := by decide +kernel
theorem dX6_late_37 : decode cX6_late 37 = .ok (.iload 4, 2) := by decide +kernel
theorem dX6_late_39 : decode cX6_late 39 = .ok (.ifCond .lt 9, 3) := by decide +kernel
theorem dX6_late_42 : decode cX6_late 42 = .ok (.iload 4, 2) := by decide +kernel
theorem dX6_late_44 : decode cX6_late 44 = .ok (.iconst 1, 1) := by decide +kernel
theorem dX6_late_45 : decode cX6_late 45 = .ok (.if_icmp .le 5, 3) := by decide +kernel
theorem dX6_late_48 : decode cX6_late 48 = .ok (.iconst (-1), 1) := by decide +kernel
theorem dX6_late_49 : decode cX6_late 49 = .ok (.ireturn, 1) := by decide +kernel
theorem dX6_late_50 : decode cX6_late 50 = .ok (.aload_n 0, 1) := by decide +kernel
theorem dX6_late_51 : decode cX6_late 51 = .ok (.getfield 10, 3) := by decide +kernel
theorem dX6_late_54 : decode cX6_late 54 = .ok (.getfield 65, 3) := by decide +kernel
theorem dX6_late_57 : decode cX6_late 57 = .ok (.iconst 0, 1) := by decide +kernel
theorem dX6_late_58 : decode cX6_late 58 = .ok (.iaload, 1) := by decide +kernel
theorem dX6_late_59 : decode cX6_late 59 = .ok (.istore 5, 2) := by decide +kernel
theorem dX6_late_61 : decode cX6_late 61 = .ok (.iload 5, 2) := by decide +kernel
theorem dX6_late_63 : decode cX6_late 63 = .ok (.ifCond .ne 6, 3) := by decide +kernel
theorem dX6_late_66 : decode cX6_late 66 = .ok (.bipush (-2), 2) := by decide +kernel
theorem dX6_late_68 : decode cX6_late 68 = .ok (.ireturn, 1) := by decide +kernel
theorem dX6_late_69 : decode cX6_late 69 = .ok (.iload_n 1, 1) := by decide +kernel
theorem dX6_late_70 : decode cX6_late 70 = .ok (.iload_n 3, 1) := by decide +kernel
theorem dX6_late_71 : decode cX6_late 71 = .ok (.imul, 1) := by decide +kernel
theorem dX6_late_72 : decode cX6_late 72 = .ok (.iload_n 2, 1) := by decide +kernel
theorem dX6_late_73 : decode cX6_late 73 = .ok (.isub, 1) := by decide +kernel
theorem dX6_late_74 : decode cX6_late 74 = .ok (.istore 6, 2) := by decide +kernel
theorem dX6_late_76 : decode cX6_late 76 = .ok (.iload 6, 2) := by decide +kernel
theorem dX6_late_78 : decode cX6_late 78 = .ok (.ifCond .ge 6, 3) := by decide +kernel
theorem dX6_late_81 : decode cX6_late 81 = .ok (.bipush (-4), 2) := by decide +kernel
theorem dX6_late_83 : decode cX6_late 83 = .ok (.ireturn, 1) := by decide +kernel
theorem dX6_late_84 : decode cX6_late 84 = .ok (.iconst 0, 1) := by decide +kernel
theorem dX6_late_85 : decode cX6_late 85 = .ok (.iload_n 1, 1) := by decide +kernel
theorem dX6_late_86 : decode cX6_late 86 = .ok (.iload_n 3, 1) := by decide +kernel
theorem dX6_late_87 : decode cX6_late 87 = .ok (.iconst 1, 1) := by decide +kernel
theorem dX6_late_88 : decode cX6_late 88 = .ok (.isub, 1) := by decide +kernel
theorem dX6_late_89 : decode cX6_late 89 = .ok (.imul, 1) := by decide +kernel
theorem dX6_late_90 : decode cX6_late 90 = .ok (.iconst 1, 1) := by decide +kernel
theorem dX6_late_91 : decode cX6_late 91 = .ok (.iadd, 1) := by decide +kernel
theorem dX6_late_92 : decode cX6_late 92 = .ok (.iload_n 2, 1) := by decide +kernel
theorem dX6_late_93 : decode cX6_late 93 = .ok (.isub, 1) := by decide +kernel
theorem dX6_late_94 : decode cX6_late 94 = .ok (.invokestatic 221, 3) := by decide +kernel
theorem dX6_late_97 : decode cX6_late 97 = .ok (.iload 5, 2) := by decide +kernel
theorem dX6_late_99 : decode cX6_late 99 = .ok (.invokestatic 210, 3) := by decide +kernel
theorem dX6_late_102 : decode cX6_late 102 = .ok (.istore 7, 2) := by decide +kernel
theorem dX6_late_104 : decode cX6_late 104 = .ok (.iload 6, 2) := by decide +kernel
theorem dX6_late_106 : decode cX6_late 106 = .ok (.iload 5, 2) := by decide +kernel
theorem dX6_late_108 : decode cX6_late 108 = .ok (.idiv, 1) := by decide +kernel
theorem dX6_late_109 : decode cX6_late 109 = .ok (.istore 8, 2) := by decide +kernel
theorem dX6_late_111 : decode cX6_late 111 = .ok (.iload 7, 2) := by decide +kernel
theorem dX6_late_113 : decode cX6_late 113 = .ok (.iload 8, 2) := by decide +kernel
theorem dX6_late_115 : decode cX6_late 115 = .ok (.if_icmp .le 6, 3) := by decide +kernel
theorem dX6_late_118 : decode cX6_late 118 = .ok (.bipush (-4), 2) := by decide +kernel
theorem dX6_late_120 : decode cX6_late 120 = .ok (.ireturn, 1) := by decide +kernel
theorem dX6_late_121 : decode cX6_late 121 = .ok (.iload 4, 2) := by decide +kernel
theorem dX6_late_123 : decode cX6_late 123 = .ok (.ifCond .ne 8, 3) := by decide +kernel
theorem dX6_late_126 : decode cX6_late 126 = .ok (.iload 7, 2) := by decide +kernel
theorem dX6_late_128 : decode cX6_late 128 = .ok (.goto 5, 3) := by decide +kernel
theorem dX6_late_131 : decode cX6_late 131 = .ok (.iload 8, 2) := by decide +kernel
theorem dX6_late_133 : decode cX6_late 133 = .ok (.ireturn, 1) := by decide +kernel
theorem dX6_other_0 : decode cX6_other 0 = .ok (.iload_n 1, 1) := by decide +kernel
theorem dX6_other_1 : decode cX6_other 1 = .ok (.ifCond .lt 17, 3) := by decide +kernel
theorem dX6_other_4 : decode cX6_other 4 = .ok (.iload_n 1, 1) := by decide +kernel
theorem dX6_other_5 : decode cX6_other 5 = .ok (.iconst 2, 1) := by decide +kernel
theorem dX6_other_6 : decode cX6_other 6 = .ok (.if_icmp .gt 12, 3) := by decide +kernel
theorem dX6_other_9 : decode cX6_other 9 = .ok (.iload_n 2, 1) := by decide +kernel
theorem dX6_other_10 : decode cX6_other 10 = .ok (.ifCond .lt 8, 3) := by decide +kernel
theorem dX6_other_13 : decode cX6_other 13 = .ok (.iload_n 2, 1) := by decide +kernel
theorem dX6_other_14 : decode cX6_other 14 = .ok (.iconst 1, 1) := by decide +kernel
theorem dX6_other_15 : decode cX6_other 15 = .ok (.if_icmp .le 5, 3) := by decide +kernel
theorem dX6_other_18 : decode cX6_other 18 = .ok (.iconst (-1), 1) := by decide +kernel
theorem dX6_other_19 : decode cX6_other 19 = .ok (.ireturn, 1) := by decide +kernel
theorem dX6_other_20 : decode cX6_other 20 = .ok (.aload_n 0, 1) := by decide +kernel
theorem dX6_other_21 : decode cX6_other 21 = .ok (.getfield 33, 3) := by decide +kernel
theorem dX6_other_24 : decode cX6_other 24 = .ok (.aload_n 0, 1) := by decide +kernel
theorem dX6_other_25 : decode cX6_other 25 = .ok (.getfield 10, 3) := by decide +kernel
theorem dX6_other_28 : decode cX6_other 28 = .ok (.invokevirtual 120, 3) := by decide +kernel
theorem dX6_other_31 : decode cX6_other 31 = .ok (.aload_n 0, 1) := by decide +kernel
theorem dX6_other_32 : decode cX6_other 32 = .ok (.getfield 33, 3) := by decide +kernel
theorem dX6_other_35 : decode cX6_other 35 = .ok (.getfield 226, 3) := by decide +kernel
theorem dX6_other_38 : decode cX6_other 38 = .ok (.iconst 1, 1) := by decide +kernel
theorem dX6_other_39 : decode cX6_other 39 = .ok (.iload_n 1, 1) := by decide +kernel
theorem dX6_other_40 : decode cX6_other 40 = .ok (.iastore, 1) := by decide +kernel
theorem dX6_other_41 : decode cX6_other 41 = .ok (.aload_n 0, 1) := by decide +kernel
theorem dX6_other_42 : decode cX6_other 42 = .ok (.getfield 33, 3) := by decide +kernel
theorem dX6_other_45 : decode cX6_other 45 = .ok (.sipush 999, 3) := by decide +kernel
theorem dX6_other_48 : decode cX6_other 48 = .ok (.invokevirtual 124, 3) := by decide +kernel
theorem dX6_other_51 : decode cX6_other 51 = .ok (.iload_n 2, 1) := by decide +kernel
theorem dX6_other_52 : decode cX6_other 52 = .ok (.ifCond .ne 13, 3) := by decide +kernel
theorem dX6_other_55 : decode cX6_other 55 = .ok (.aload_n 0, 1) := by decide +kernel
theorem dX6_other_56 : decode cX6_other 56 = .ok (.getfield 33, 3) := by decide +kernel
theorem dX6_other_59 : decode cX6_other 59 = .ok (.getfield 151, 3) := by decide +kernel
theorem dX6_other_62 : decode cX6_other 62 = .ok (.goto 10, 3) := by decide +kernel
theorem dX6_other_65 : decode cX6_other 65 = .ok (.aload_n 0, 1) := by decide +kernel
theorem dX6_other_66 : decode cX6_other 66 = .ok (.getfield 33, 3) := by decide +kernel
theorem dX6_other_69 : decode cX6_other 69 = .ok (.invokevirtual 170, 3) := by decide +kernel
theorem dX6_other_72 : decode cX6_other 72 = .ok (.ireturn, 1) := by decide +kernel
theorem dX6_image_0 : decode cX6_image 0 = .ok (.aload_n 0, 1) := by decide +kernel
theorem dX6_image_1 : decode cX6_image 1 = .ok (.getfield 16, 3) := by decide +kernel
theorem dX6_image_4 : decode cX6_image 4 = .ok (.aload_n 0, 1) := by decide +kernel
theorem dX6_image_5 : decode cX6_image 5 = .ok (.getfield 10, 3) := by decide +kernel
theorem dX6_image_8 : decode cX6_image 8 = .ok (.invokevirtual 227, 3) := by decide +kernel
theorem dX6_image_11 : decode cX6_image 11 = .ok (.aload_n 0, 1) := by decide +kernel
theorem dX6_image_12 : decode cX6_image 12 = .ok (.iconst 1, 1) := by decide +kernel
theorem dX6_image_13 : decode cX6_image 13 = .ok (.putfield 230, 3) := by decide +kernel
theorem dX6_image_16 : decode cX6_image 16 = .ok (.iconst 1, 1) := by decide +kernel
theorem dX6_image_17 : decode cX6_image 17 = .ok (.ireturn, 1) := by decide +kernel
theorem dX6_restore_0 : decode cX6_restore 0 = .ok (.aload_n 0, 1) := by decide +kernel
theorem dX6_restore_1 : decode cX6_restore 1 = .ok (.getfield 230, 3) := by decide +kernel
theorem dX6_restore_4 : decode cX6_restore 4 = .ok (.ifCond .ne 6, 3) := by decide +kernel
theorem dX6_restore_7 : decode cX6_restore 7 = .ok (.bipush (-4), 2) := by decide +kernel
theorem dX6_restore_9 : decode cX6_restore 9 = .ok (.ireturn, 1) := by decide +kernel
theorem dX6_restore_10 : decode cX6_restore 10 = .ok (.aload_n 0, 1) := by decide +kernel
theorem dX6_restore_11 : decode cX6_restore 11 = .ok (.getfield 10, 3) := by decide +kernel
theorem dX6_restore_14 : decode cX6_restore 14 = .ok (.aload_n 0, 1) := by decide +kernel
theorem dX6_restore_15 : decode cX6_restore 15 = .ok (.getfield 16, 3) := by decide +kernel
theorem dX6_restore_18 : decode cX6_restore 18 = .ok (.invokevirtual 227, 3) := by decide +kernel
theorem dX6_restore_21 : decode cX6_restore 21 = .ok (.iconst 1, 1) := by decide +kernel
theorem dX6_restore_22 : decode cX6_restore 22 = .ok (.ireturn, 1) := by decide +kernel
theorem dX6_crowd_0 : decode cX6_crowd 0 = .ok (.iload 4, 2) := by decide +kernel
theorem dX6_crowd_2 : decode cX6_crowd 2 = .ok (.iconst 1, 1) := by decide +kernel
theorem dX6_crowd_3 : decode cX6_crowd 3 = .ok (.if_icmp .lt 9, 3) := by decide +kernel
theorem dX6_crowd_6 : decode cX6_crowd 6 = .ok (.iload 4, 2) := by decide +kernel
theorem dX6_crowd_8 : decode cX6_crowd 8 = .ok (.iconst 4, 1) := by decide +kernel
theorem dX6_crowd_9 : decode cX6_crowd 9 = .ok (.if_icmp .le 5, 3) := by decide +kernel
theorem dX6_crowd_12 : decode cX6_crowd 12 = .ok (.iconst (-1), 1) := by decide +kernel
theorem dX6_crowd_13 : decode cX6_crowd 13 = .ok (.ireturn, 1) := by decide +kernel
theorem dX6_crowd_14 : decode cX6_crowd 14 = .ok (.aload_n 0, 1) := by decide +kernel
theorem dX6_crowd_15 : decode cX6_crowd 15 = .ok (.iload_n 1, 1) := by decide +kernel
theorem dX6_crowd_16 : decode cX6_crowd 16 = .ok (.iload_n 2, 1) := by decide +kernel
theorem dX6_crowd_17 : decode cX6_crowd 17 = .ok (.iload_n 3, 1) := by decide +kernel
theorem dX6_crowd_18 : decode cX6_crowd 18 = .ok (.iload 4, 2) := by decide +kernel
theorem dX6_crowd_20 : decode cX6_crowd 20 = .ok (.iconst 5, 1) := by decide +kernel
theorem dX6_crowd_21 : decode cX6_crowd 21 = .ok (.imul, 1) := by decide +kernel
theorem dX6_crowd_22 : decode cX6_crowd 22 = .ok (.invokevirtual 234, 3) := by decide +kernel
theorem dX6_crowd_25 : decode cX6_crowd 25 = .ok (.istore 5, 2) := by decide +kernel
theorem dX6_crowd_27 : decode cX6_crowd 27 = .ok (.iload 5, 2) := by decide +kernel
theorem dX6_crowd_29 : decode cX6_crowd 29 = .ok (.ifCond .eq 6, 3) := by decide +kernel
theorem dX6_crowd_32 : decode cX6_crowd 32 = .ok (.iload 5, 2) := by decide +kernel
theorem dX6_crowd_34 : decode cX6_crowd 34 = .ok (.ireturn, 1) := by decide +kernel
theorem dX6_crowd_35 : decode cX6_crowd 35 = .ok (.aload_n 0, 1) := by decide +kernel
theorem dX6_crowd_36 : decode cX6_crowd 36 = .ok (.getfield 46, 3) := by decide +kernel
theorem dX6_crowd_39 : decode cX6_crowd 39 = .ok (.iload_n 1, 1) := by decide +kernel
theorem dX6_crowd_40 : decode cX6_crowd 40 = .ok (.aaload, 1) := by decide +kernel
theorem dX6_crowd_41 : decode cX6_crowd 41 = .ok (.getfield 238, 3) := by decide +kernel
theorem dX6_crowd_44 : decode cX6_crowd 44 = .ok (.astore 6, 2) := by decide +kernel
theorem dX6_crowd_46 : decode cX6_crowd 46 = .ok (.iconst 0, 1) := by decide +kernel
theorem dX6_crowd_47 : decode cX6_crowd 47 = .ok (.istore 7, 2) := by decide +kernel
theorem dX6_crowd_49 : decode cX6_crowd 49 = .ok (.iload 7, 2) := by decide +kernel
theorem dX6_crowd_51 : decode cX6_crowd 51 = .ok (.iload 4, 2) := by decide +kernel
theorem dX6_crowd_53 : decode cX6_crowd 53 = .ok (.if_icmp .ge 30, 3) := by decide +kernel
theorem dX6_crowd_56 : decode cX6_crowd 56 = .ok (.aload_n 0, 1) := by decide +kernel
theorem dX6_crowd_57 : decode cX6_crowd 57 = .ok (.getfield 10, 3) := by decide +kernel
theorem dX6_crowd_60 : decode cX6_crowd 60 = .ok (.aload 6, 2) := by decide +kernel
theorem dX6_crowd_62 : decode cX6_crowd 62 = .ok (.iload_n 3, 1) := by decide +kernel
theorem dX6_crowd_63 : decode cX6_crowd 63 = .ok (.iload 7, 2) := by decide +kernel
theorem dX6_crowd_65 : decode cX6_crowd 65 = .ok (.iconst 5, 1) := by decide +kernel
theorem dX6_crowd_66 : decode cX6_crowd 66 = .ok (.imul, 1) := by decide +kernel
theorem dX6_crowd_67 : decode cX6_crowd 67 = .ok (.iadd, 1) := by decide +kernel
theorem dX6_crowd_68 : decode cX6_crowd 68 = .ok (.invokevirtual 68, 3) := by decide +kernel
theorem dX6_crowd_71 : decode cX6_crowd 71 = .ok (.ifCond .ne 6, 3) := by decide +kernel
theorem dX6_crowd_74 : decode cX6_crowd 74 = .ok (.bipush (-2), 2) := by decide +kernel
theorem dX6_crowd_76 : decode cX6_crowd 76 = .ok (.ireturn, 1) := by decide +kernel
theorem dX6_crowd_77 : decode cX6_crowd 77 = .ok (.iinc 7 1, 3) := by decide +kernel
theorem dX6_crowd_80 : decode cX6_crowd 80 = .ok (.goto (-31), 3) := by decide +kernel
theorem dX6_crowd_83 : decode cX6_crowd 83 = .ok (.aload_n 0, 1) := by decide +kernel
theorem dX6_crowd_84 : decode cX6_crowd 84 = .ok (.aload 6, 2) := by decide +kernel
theorem dX6_crowd_86 : decode cX6_crowd 86 = .ok (.iload_n 3, 1) := by decide +kernel
theorem dX6_crowd_87 : decode cX6_crowd 87 = .ok (.iload 4, 2) := by decide +kernel
theorem dX6_crowd_89 : decode cX6_crowd 89 = .ok (.invokevirtual 116, 3) := by decide +kernel
theorem dX6_crowd_92 : decode cX6_crowd 92 = .ok (.ireturn, 1) := by decide +kernel
theorem dX6_sheet_0 : decode cX6_sheet 0 = .ok (.iload_n 1, 1) := by decide +kernel
theorem dX6_sheet_1 : decode cX6_sheet 1 = .ok (.iconst 4, 1) := by decide +kernel
theorem dX6_sheet_2 : decode cX6_sheet 2 = .ok (.invokestatic 55, 3) := by decide +kernel
theorem dX6_sheet_5 : decode cX6_sheet 5 = .ok (.ifCond .eq 18, 3) := by decide +kernel
theorem dX6_sheet_8 : decode cX6_sheet 8 = .ok (.iload_n 2, 1) := by decide +kernel
theorem dX6_sheet_9 : decode cX6_sheet 9 = .ok (.ifCond .lt 14, 3) := by decide +kernel
theorem dX6_sheet_12 : decode cX6_sheet 12 = .ok (.iload_n 2, 1) := by decide +kernel
theorem dX6_sheet_13 : decode cX6_sheet 13 = .ok (.iconst 2, 1) := by decide +kernel
theorem dX6_sheet_14 : decode cX6_sheet 14 = .ok (.if_icmp .gt 9, 3) := by decide +kernel
theorem dX6_sheet_17 : decode cX6_sheet 17 = .ok (.iload_n 3, 1) := by decide +kernel
theorem dX6_sheet_18 : decode cX6_sheet 18 = .ok (.bipush 24, 2) := by decide +kernel
theorem dX6_sheet_20 : decode cX6_sheet 20 = .ok (.if_icmp .le 5, 3) := by decide +kernel
theorem dX6_sheet_23 : decode cX6_sheet 23 = .ok (.iconst (-1), 1) := by decide +kernel
theorem dX6_sheet_24 : decode cX6_sheet 24 = .ok (.ireturn, 1) := by decide +kernel
theorem dX6_sheet_25 : decode cX6_sheet 25 = .ok (.iload_n 3, 1) := by decide +kernel
theorem dX6_sheet_26 : decode cX6_sheet 26 = .ok (.ifCond .ge 6, 3) := by decide +kernel
theorem dX6_sheet_29 : decode cX6_sheet 29 = .ok (.bipush (-14), 2) := by decide +kernel
theorem dX6_sheet_31 : decode cX6_sheet 31 = .ok (.ireturn, 1) := by decide +kernel
theorem dX6_sheet_32 : decode cX6_sheet 32 = .ok (.aload_n 0, 1) := by decide +kernel
theorem dX6_sheet_33 : decode cX6_sheet 33 = .ok (.getfield 46, 3) := by decide +kernel
theorem dX6_sheet_36 : decode cX6_sheet 36 = .ok (.iload_n 1, 1) := by decide +kernel
theorem dX6_sheet_37 : decode cX6_sheet 37 = .ok (.aaload, 1) := by decide +kernel
theorem dX6_sheet_38 : decode cX6_sheet 38 = .ok (.iload_n 2, 1) := by decide +kernel
theorem dX6_sheet_39 : decode cX6_sheet 39 = .ok (.iload_n 3, 1) := by decide +kernel
theorem dX6_sheet_40 : decode cX6_sheet 40 = .ok (.invokevirtual 241, 3) := by decide +kernel
theorem dX6_sheet_43 : decode cX6_sheet 43 = .ok (.iload_n 3, 1) := by decide +kernel
theorem dX6_sheet_44 : decode cX6_sheet 44 = .ok (.ireturn, 1) := by decide +kernel
theorem dX6_drop_0 : decode cX6_drop 0 = .ok (.iload_n 1, 1) := by decide +kernel
theorem dX6_drop_1 : decode cX6_drop 1 = .ok (.iconst 4, 1) := by decide +kernel
theorem dX6_drop_2 : decode cX6_drop 2 = .ok (.invokestatic 55, 3) := by decide +kernel
theorem dX6_drop_5 : decode cX6_drop 5 = .ok (.ifCond .ne 5, 3) := by decide +kernel
theorem dX6_drop_8 : decode cX6_drop 8 = .ok (.iconst (-1), 1) := by decide +kernel
theorem dX6_drop_9 : decode cX6_drop 9 = .ok (.ireturn, 1) := by decide +kernel
theorem dX6_drop_10 : decode cX6_drop 10 = .ok (.aload_n 0, 1) := by decide +kernel
theorem dX6_drop_11 : decode cX6_drop 11 = .ok (.getfield 46, 3) := by decide +kernel
theorem dX6_drop_14 : decode cX6_drop 14 = .ok (.iload_n 1, 1) := by decide +kernel
theorem dX6_drop_15 : decode cX6_drop 15 = .ok (.aaload, 1) := by decide +kernel
theorem dX6_drop_16 : decode cX6_drop 16 = .ok (.getfield 245, 3) := by decide +kernel
theorem dX6_drop_19 : decode cX6_drop 19 = .ok (.iconst (-1), 1) := by decide +kernel
theorem dX6_drop_20 : decode cX6_drop 20 = .ok (.if_icmp .ne 6, 3) := by decide +kernel
theorem dX6_drop_23 : decode cX6_drop 23 = .ok (.bipush (-11), 2) := by decide +kernel
theorem dX6_drop_25 : decode cX6_drop 25 = .ok (.ireturn, 1) := by decide +kernel
theorem dX6_drop_26 : decode cX6_drop 26 = .ok (.aload_n 0, 1) := by decide +kernel
theorem dX6_drop_27 : decode cX6_drop 27 = .ok (.getfield 46, 3) := by decide +kernel
theorem dX6_drop_30 : decode cX6_drop 30 = .ok (.iload_n 1, 1) := by decide +kernel
theorem dX6_drop_31 : decode cX6_drop 31 = .ok (.aaload, 1) := by decide +kernel
theorem dX6_drop_32 : decode cX6_drop 32 = .ok (.getfield 248, 3) := by decide +kernel
theorem dX6_drop_35 : decode cX6_drop 35 = .ok (.istore_n 2, 1) := by decide +kernel
theorem dX6_drop_36 : decode cX6_drop 36 = .ok (.aload_n 0, 1) := by decide +kernel
theorem dX6_drop_37 : decode cX6_drop 37 = .ok (.getfield 46, 3) := by decide +kernel
theorem dX6_drop_40 : decode cX6_drop 40 = .ok (.iload_n 1, 1) := by decide +kernel
theorem dX6_drop_41 : decode cX6_drop 41 = .ok (.aaload, 1) := by decide +kernel
theorem dX6_drop_42 : decode cX6_drop 42 = .ok (.iconst (-1), 1) := by decide +kernel
theorem dX6_drop_43 : decode cX6_drop 43 = .ok (.iconst 0, 1) := by decide +kernel
theorem dX6_drop_44 : decode cX6_drop 44 = .ok (.invokevirtual 241, 3) := by decide +kernel
theorem dX6_drop_47 : decode cX6_drop 47 = .ok (.iload_n 2, 1) := by decide +kernel
theorem dX6_drop_48 : decode cX6_drop 48 = .ok (.ireturn, 1) := by decide +kernel
theorem dX6_item_0 : decode cX6_item 0 = .ok (.aload_n 0, 1) := by decide +kernel
theorem dX6_item_1 : decode cX6_item 1 = .ok (.iload_n 1, 1) := by decide +kernel
theorem dX6_item_2 : decode cX6_item 2 = .ok (.iload_n 2, 1) := by decide +kernel
theorem dX6_item_3 : decode cX6_item 3 = .ok (.iload_n 3, 1) := by decide +kernel
theorem dX6_item_4 : decode cX6_item 4 = .ok (.iconst 1, 1) := by decide +kernel
theorem dX6_item_5 : decode cX6_item 5 = .ok (.invokevirtual 234, 3) := by decide +kernel
theorem dX6_item_8 : decode cX6_item 8 = .ok (.istore 5, 2) := by decide +kernel
theorem dX6_item_10 : decode cX6_item 10 = .ok (.iload 5, 2) := by decide +kernel
theorem dX6_item_12 : decode cX6_item 12 = .ok (.ifCond .eq 6, 3) := by decide +kernel
theorem dX6_item_15 : decode cX6_item 15 = .ok (.iload 5, 2) := by decide +kernel
theorem dX6_item_17 : decode cX6_item 17 = .ok (.ireturn, 1) := by decide +kernel
theorem dX6_item_18 : decode cX6_item 18 = .ok (.aload_n 0, 1) := by decide +kernel
theorem dX6_item_19 : decode cX6_item 19 = .ok (.getfield 46, 3) := by decide +kernel
theorem dX6_item_22 : decode cX6_item 22 = .ok (.iload_n 1, 1) := by decide +kernel
theorem dX6_item_23 : decode cX6_item 23 = .ok (.aaload, 1) := by decide +kernel
theorem dX6_item_24 : decode cX6_item 24 = .ok (.iload_n 3, 1) := by decide +kernel
theorem dX6_item_25 : decode cX6_item 25 = .ok (.iload 4, 2) := by decide +kernel
theorem dX6_item_27 : decode cX6_item 27 = .ok (.invokevirtual 249, 3) := by decide +kernel
theorem dX6_item_30 : decode cX6_item 30 = .ok (.iconst 1, 1) := by decide +kernel
theorem dX6_item_31 : decode cX6_item 31 = .ok (.ireturn, 1) := by decide +kernel
theorem dX6_film_0 : decode cX6_film 0 = .ok (.aload_n 0, 1) := by decide +kernel
theorem dX6_film_1 : decode cX6_film 1 = .ok (.iload_n 1, 1) := by decide +kernel
theorem dX6_film_2 : decode cX6_film 2 = .ok (.iload_n 2, 1) := by decide +kernel
theorem dX6_film_3 : decode cX6_film 3 = .ok (.iload_n 3, 1) := by decide +kernel
theorem dX6_film_4 : decode cX6_film 4 = .ok (.aload_n 0, 1) := by decide +kernel
theorem dX6_film_5 : decode cX6_film 5 = .ok (.getfield 10, 3) := by decide +kernel
theorem dX6_film_8 : decode cX6_film 8 = .ok (.getfield 80, 3) := by decide +kernel
theorem dX6_film_11 : decode cX6_film 11 = .ok (.invokevirtual 234, 3) := by decide +kernel
theorem dX6_film_14 : decode cX6_film 14 = .ok (.istore 4, 2) := by decide +kernel
theorem dX6_film_16 : decode cX6_film 16 = .ok (.iload 4, 2) := by decide +kernel
theorem dX6_film_18 : decode cX6_film 18 = .ok (.ifCond .eq 6, 3) := by decide +kernel
theorem dX6_film_21 : decode cX6_film 21 = .ok (.iload 4, 2) := by decide +kernel
theorem dX6_film_23 : decode cX6_film 23 = .ok (.ireturn, 1) := by decide +kernel
theorem dX6_film_24 : decode cX6_film 24 = .ok (.aload_n 0, 1) := by decide +kernel
theorem dX6_film_25 : decode cX6_film 25 = .ok (.getfield 33, 3) := by decide +kernel
theorem dX6_film_28 : decode cX6_film 28 = .ok (.aload_n 0, 1) := by decide +kernel
theorem dX6_film_29 : decode cX6_film 29 = .ok (.getfield 10, 3) := by decide +kernel
theorem dX6_film_32 : decode cX6_film 32 = .ok (.invokevirtual 120, 3) := by decide +kernel
theorem dX6_film_35 : decode cX6_film 35 = .ok (.aload_n 0, 1) := by decide +kernel
theorem dX6_film_36 : decode cX6_film 36 = .ok (.getfield 33, 3) := by decide +kernel
theorem dX6_film_39 : decode cX6_film 39 = .ok (.sipush 999, 3) := by decide +kernel
theorem dX6_film_42 : decode cX6_film 42 = .ok (.invokevirtual 124, 3) := by decide +kernel
theorem dX6_film_45 : decode cX6_film 45 = .ok (.iconst 0, 1) := by decide +kernel
theorem dX6_film_46 : decode cX6_film 46 = .ok (.istore 5, 2) := by decide +kernel
theorem dX6_film_48 : decode cX6_film 48 = .ok (.iload 5, 2) := by decide +kernel
theorem dX6_film_50 : decode cX6_film 50 = .ok (.aload_n 0, 1) := by decide +kernel
theorem dX6_film_51 : decode cX6_film 51 = .ok (.getfield 10, 3) := by decide +kernel
theorem dX6_film_54 : decode cX6_film 54 = .ok (.getfield 80, 3) := by decide +kernel
theorem dX6_film_57 : decode cX6_film 57 = .ok (.if_icmp .ge 35, 3) := by decide +kernel
theorem dX6_film_60 : decode cX6_film 60 = .ok (.aload_n 0, 1) := by decide +kernel
theorem dX6_film_61 : decode cX6_film 61 = .ok (.getfield 46, 3) := by decide +kernel
theorem dX6_film_64 : decode cX6_film 64 = .ok (.iload_n 1, 1) := by decide +kernel
theorem dX6_film_65 : decode cX6_film 65 = .ok (.aaload, 1) := by decide +kernel
theorem dX6_film_66 : decode cX6_film 66 = .ok (.iload_n 3, 1) := by decide +kernel
theorem dX6_film_67 : decode cX6_film 67 = .ok (.iload 5, 2) := by decide +kernel
theorem dX6_film_69 : decode cX6_film 69 = .ok (.iadd, 1) := by decide +kernel
theorem dX6_film_70 : decode cX6_film 70 = .ok (.aload_n 0, 1) := by decide +kernel
theorem dX6_film_71 : decode cX6_film 71 = .ok (.getfield 33, 3) := by decide +kernel
theorem dX6_film_74 : decode cX6_film 74 = .ok (.getfield 127, 3) := by decide +kernel
theorem dX6_film_77 : decode cX6_film 77 = .ok (.iload 5, 2) := by decide +kernel
theorem dX6_film_79 : decode cX6_film 79 = .ok (.aaload, 1) := by decide +kernel
theorem dX6_film_80 : decode cX6_film 80 = .ok (.getfield 136, 3) := by decide +kernel
theorem dX6_film_83 : decode cX6_film 83 = .ok (.invokevirtual 249, 3) := by decide +kernel
theorem dX6_film_86 : decode cX6_film 86 = .ok (.iinc 5 1, 3) := by decide +kernel
theorem dX6_film_89 : decode cX6_film 89 = .ok (.goto (-41), 3) := by decide +kernel
theorem dX6_film_92 : decode cX6_film 92 = .ok (.aload_n 0, 1) := by decide +kernel
theorem dX6_film_93 : decode cX6_film 93 = .ok (.getfield 10, 3) := by decide +kernel
theorem dX6_film_96 : decode cX6_film 96 = .ok (.getfield 80, 3) := by decide +kernel
theorem dX6_film_99 : decode cX6_film 99 = .ok (.ireturn, 1) := by decide +kernel
theorem dX6_isWithin_0 : decode cX6_isWithin 0 = .ok (.iload_n 0, 1) := by decide +kernel
theorem dX6_isWithin_1 : decode cX6_isWithin 1 = .ok (.ifCond .lt 12, 3) := by decide +kernel
theorem dX6_isWithin_4 : decode cX6_isWithin 4 = .ok (.iload_n 0, 1) := by decide +kernel
theorem dX6_isWithin_5 : decode cX6_isWithin 5 = .ok (.iload_n 1, 1) := by decide +kernel
theorem dX6_isWithin_6 : decode cX6_isWithin 6 = .ok (.if_icmp .ge 7, 3) := by decide +kernel
theorem dX6_isWithin_9 : decode cX6_isWithin 9 = .ok (.iconst 1, 1) := by decide +kernel
theorem dX6_isWithin_10 : decode cX6_isWithin 10 = .ok (.goto 4, 3) := by decide +kernel
theorem dX6_isWithin_13 : decode cX6_isWithin 13 = .ok (.iconst 0, 1) := by decide +kernel
theorem dX6_isWithin_14 : decode cX6_isWithin 14 = .ok (.ireturn, 1) := by decide +kernel
theorem dX6_lowByte_0 : decode cX6_lowByte 0 = .ok (.lload_n 0, 1) := by decide +kernel
theorem dX6_lowByte_1 : decode cX6_lowByte 1 = .ok (.bipush 8, 2) := by decide +kernel
theorem dX6_lowByte_3 : decode cX6_lowByte 3 = .ok (.iload_n 2, 1) := by decide +kernel
theorem dX6_lowByte_4 : decode cX6_lowByte 4 = .ok (.imul, 1) := by decide +kernel
theorem dX6_lowByte_5 : decode cX6_lowByte 5 = .ok (.lshr, 1) := by decide +kernel
theorem dX6_lowByte_6 : decode cX6_lowByte 6 = .ok (.l2i, 1) := by decide +kernel
theorem dX6_lowByte_7 : decode cX6_lowByte 7 = .ok (.sipush 255, 3) := by decide +kernel
theorem dX6_lowByte_10 : decode cX6_lowByte 10 = .ok (.iand, 1) := by decide +kernel
theorem dX6_lowByte_11 : decode cX6_lowByte 11 = .ok (.ireturn, 1) := by decide +kernel
theorem dX6_cutUp_0 : decode cX6_cutUp 0 = .ok (.iload_n 1, 1) := by decide +kernel
theorem dX6_cutUp_1 : decode cX6_cutUp 1 = .ok (.iconst 1, 1) := by decide +kernel
theorem dX6_cutUp_2 : decode cX6_cutUp 2 = .ok (.if_icmp .ge 7, 3) := by decide +kernel
theorem dX6_cutUp_5 : decode cX6_cutUp 5 = .ok (.iconst 0, 1) := by decide +kernel
theorem dX6_cutUp_6 : decode cX6_cutUp 6 = .ok (.goto 10, 3) := by decide +kernel
theorem dX6_cutUp_9 : decode cX6_cutUp 9 = .ok (.iload_n 0, 1) := by decide +kernel
theorem dX6_cutUp_10 : decode cX6_cutUp 10 = .ok (.iload_n 1, 1) := by decide +kernel
theorem dX6_cutUp_11 : decode cX6_cutUp 11 = .ok (.iadd, 1) := by decide +kernel
theorem dX6_cutUp_12 : decode cX6_cutUp 12 = .ok (.iconst 1, 1) := by decide +kernel
theorem dX6_cutUp_13 : decode cX6_cutUp 13 = .ok (.isub, 1) := by decide +kernel
theorem dX6_cutUp_14 : decode cX6_cutUp 14 = .ok (.iload_n 1, 1) := by decide +kernel
theorem dX6_cutUp_15 : decode cX6_cutUp 15 = .ok (.idiv, 1) := by decide +kernel
theorem dX6_cutUp_16 : decode cX6_cutUp 16 = .ok (.ireturn, 1) := by decide +kernel
theorem dX6_half_0 : decode cX6_half 0 = .ok (.iconst 1, 1) := by decide +kernel
theorem dX6_half_1 : decode cX6_half 1 = .ok (.iload_n 0, 1) := by decide +kernel
theorem dX6_half_2 : decode cX6_half 2 = .ok (.iconst 2, 1) := by decide +kernel
theorem dX6_half_3 : decode cX6_half 3 = .ok (.idiv, 1) := by decide +kernel
theorem dX6_half_4 : decode cX6_half 4 = .ok (.invokestatic 221, 3) := by decide +kernel
theorem dX6_half_7 : decode cX6_half 7 = .ok (.ireturn, 1) := by decide +kernel
theorem dX6_enlistAll_0 : decode cX6_enlistAll 0 = .ok (.aload_n 0, 1) := by decide +kernel
theorem dX6_enlistAll_1 : decode cX6_enlistAll 1 = .ok (.getfield 10, 3) := by decide +kernel
theorem dX6_enlistAll_4 : decode cX6_enlistAll 4 = .ok (.iload_n 3, 1) := by decide +kernel
theorem dX6_enlistAll_5 : decode cX6_enlistAll 5 = .ok (.invokevirtual 72, 3) := by decide +kernel
theorem dX6_enlistAll_8 : decode cX6_enlistAll 8 = .ok (.ifCond .ne 6, 3) := by decide +kernel
theorem dX6_enlistAll_11 : decode cX6_enlistAll 11 = .ok (.bipush (-3), 2) := by decide +kernel
theorem dX6_enlistAll_13 : decode cX6_enlistAll 13 = .ok (.ireturn, 1) := by decide +kernel
theorem dX6_enlistAll_14 : decode cX6_enlistAll 14 = .ok (.iconst 0, 1) := by decide +kernel
theorem dX6_enlistAll_15 : decode cX6_enlistAll 15 = .ok (.istore 4, 2) := by decide +kernel
theorem dX6_enlistAll_17 : decode cX6_enlistAll 17 = .ok (.iload 4, 2) := by decide +kernel
theorem dX6_enlistAll_19 : decode cX6_enlistAll 19 = .ok (.iload_n 3, 1) := by decide +kernel
theorem dX6_enlistAll_20 : decode cX6_enlistAll 20 = .ok (.if_icmp .ge 23, 3) := by decide +kernel
theorem dX6_enlistAll_23 : decode cX6_enlistAll 23 = .ok (.aload_n 0, 1) := by decide +kernel
theorem dX6_enlistAll_24 : decode cX6_enlistAll 24 = .ok (.getfield 10, 3) := by decide +kernel
theorem dX6_enlistAll_27 : decode cX6_enlistAll 27 = .ok (.aload_n 1, 1) := by decide +kernel
theorem dX6_enlistAll_28 : decode cX6_enlistAll 28 = .ok (.iload_n 2, 1) := by decide +kernel
theorem dX6_enlistAll_29 : decode cX6_enlistAll 29 = .ok (.iload 4, 2) := by decide +kernel
theorem dX6_enlistAll_31 : decode cX6_enlistAll 31 = .ok (.iconst 5, 1) := by decide +kernel
theorem dX6_enlistAll_32 : decode cX6_enlistAll 32 = .ok (.imul, 1) := by decide +kernel
theorem dX6_enlistAll_33 : decode cX6_enlistAll 33 = .ok (.iadd, 1) := by decide +kernel
theorem dX6_enlistAll_34 : decode cX6_enlistAll 34 = .ok (.invokevirtual 76, 3) := by decide +kernel
theorem dX6_enlistAll_37 : decode cX6_enlistAll 37 = .ok (.iinc 4 1, 3) := by decide +kernel
theorem dX6_enlistAll_40 : decode cX6_enlistAll 40 = .ok (.goto (-23), 3) := by decide +kernel
theorem dX6_enlistAll_43 : decode cX6_enlistAll 43 = .ok (.iload_n 3, 1) := by decide +kernel
theorem dX6_enlistAll_44 : decode cX6_enlistAll 44 = .ok (.ireturn, 1) := by decide +kernel
theorem dX6_sumIfHeld_0 : decode cX6_sumIfHeld 0 = .ok (.aload_n 0, 1) := by decide +kernel
theorem dX6_sumIfHeld_1 : decode cX6_sumIfHeld 1 = .ok (.getfield 33, 3) := by decide +kernel
theorem dX6_sumIfHeld_4 : decode cX6_sumIfHeld 4 = .ok (.aload_n 0, 1) := by decide +kernel
theorem dX6_sumIfHeld_5 : decode cX6_sumIfHeld 5 = .ok (.getfield 10, 3) := by decide +kernel
theorem dX6_sumIfHeld_8 : decode cX6_sumIfHeld 8 = .ok (.invokevirtual 120, 3) := by decide +kernel
theorem dX6_sumIfHeld_11 : decode cX6_sumIfHeld 11 = .ok (.aload_n 0, 1) := by decide +kernel
theorem dX6_sumIfHeld_12 : decode cX6_sumIfHeld 12 = .ok (.getfield 33, 3) := by decide +kernel
theorem dX6_sumIfHeld_15 : decode cX6_sumIfHeld 15 = .ok (.getfield 127, 3) := by decide +kernel
theorem dX6_sumIfHeld_18 : decode cX6_sumIfHeld 18 = .ok (.iload_n 1, 1) := by decide +kernel
theorem dX6_sumIfHeld_19 : decode cX6_sumIfHeld 19 = .ok (.aaload, 1) := by decide +kernel
theorem dX6_sumIfHeld_20 : decode cX6_sumIfHeld 20 = .ok (.iconst 1, 1) := by decide +kernel
theorem dX6_sumIfHeld_21 : decode cX6_sumIfHeld 21 = .ok (.iload_n 2, 1) := by decide +kernel
theorem dX6_sumIfHeld_22 : decode cX6_sumIfHeld 22 = .ok (.ishl, 1) := by decide +kernel
theorem dX6_sumIfHeld_23 : decode cX6_sumIfHeld 23 = .ok (.putfield 251, 3) := by decide +kernel
theorem dX6_sumIfHeld_26 : decode cX6_sumIfHeld 26 = .ok (.aload_n 0, 1) := by decide +kernel
theorem dX6_sumIfHeld_27 : decode cX6_sumIfHeld 27 = .ok (.getfield 33, 3) := by decide +kernel
theorem dX6_sumIfHeld_30 : decode cX6_sumIfHeld 30 = .ok (.sipush 999, 3) := by decide +kernel
theorem dX6_sumIfHeld_33 : decode cX6_sumIfHeld 33 = .ok (.invokevirtual 124, 3) := by decide +kernel
theorem dX6_sumIfHeld_36 : decode cX6_sumIfHeld 36 = .ok (.aload_n 0, 1) := by decide +kernel
theorem dX6_sumIfHeld_37 : decode cX6_sumIfHeld 37 = .ok (.getfield 33, 3) := by decide +kernel
theorem dX6_sumIfHeld_40 : decode cX6_sumIfHeld 40 = .ok (.invokevirtual 170, 3) := by decide +kernel
theorem dX6_sumIfHeld_43 : decode cX6_sumIfHeld 43 = .ok (.ireturn, 1) := by decide +kernel
theorem dX6_refusedRow_0 : decode cX6_refusedRow 0 = .ok (.iload_n 1, 1) := by decide +kernel
theorem dX6_refusedRow_1 : decode cX6_refusedRow 1 = .ok (.iconst 4, 1) := by decide +kernel
theorem dX6_refusedRow_2 : decode cX6_refusedRow 2 = .ok (.invokestatic 55, 3) := by decide +kernel
theorem dX6_refusedRow_5 : decode cX6_refusedRow 5 = .ok (.ifCond .eq 12, 3) := by decide +kernel
theorem dX6_refusedRow_8 : decode cX6_refusedRow 8 = .ok (.iload_n 2, 1) := by decide +kernel
theorem dX6_refusedRow_9 : decode cX6_refusedRow 9 = .ok (.ifCond .lt 8, 3) := by decide +kernel
theorem dX6_refusedRow_12 : decode cX6_refusedRow 12 = .ok (.iload_n 2, 1) := by decide +kernel
theorem dX6_refusedRow_13 : decode cX6_refusedRow 13 = .ok (.iconst 2, 1) := by decide +kernel
theorem dX6_refusedRow_14 : decode cX6_refusedRow 14 = .ok (.if_icmp .le 5, 3) := by decide +kernel
theorem dX6_refusedRow_17 : decode cX6_refusedRow 17 = .ok (.iconst (-1), 1) := by decide +kernel
theorem dX6_refusedRow_18 : decode cX6_refusedRow 18 = .ok (.ireturn, 1) := by decide +kernel
theorem dX6_refusedRow_19 : decode cX6_refusedRow 19 = .ok (.aload_n 0, 1) := by decide +kernel
theorem dX6_refusedRow_20 : decode cX6_refusedRow 20 = .ok (.getfield 46, 3) := by decide +kernel
theorem dX6_refusedRow_23 : decode cX6_refusedRow 23 = .ok (.iload_n 1, 1) := by decide +kernel
theorem dX6_refusedRow_24 : decode cX6_refusedRow 24 = .ok (.aaload, 1) := by decide +kernel
theorem dX6_refusedRow_25 : decode cX6_refusedRow 25 = .ok (.astore 5, 2) := by decide +kernel
theorem dX6_refusedRow_27 : decode cX6_refusedRow 27 = .ok (.aload 5, 2) := by decide +kernel
theorem dX6_refusedRow_29 : decode cX6_refusedRow 29 = .ok (.getfield 245, 3) := by decide +kernel
theorem dX6_refusedRow_32 : decode cX6_refusedRow 32 = .ok (.iconst (-1), 1) := by decide +kernel
theorem dX6_refusedRow_33 : decode cX6_refusedRow 33 = .ok (.if_icmp .ne 6, 3) := by decide +kernel
theorem dX6_refusedRow_36 : decode cX6_refusedRow 36 = .ok (.bipush (-11), 2) := by decide +kernel
theorem dX6_refusedRow_38 : decode cX6_refusedRow 38 = .ok (.ireturn, 1) := by decide +kernel
theorem dX6_refusedRow_39 : decode cX6_refusedRow 39 = .ok (.aload 5, 2) := by decide +kernel
theorem dX6_refusedRow_41 : decode cX6_refusedRow 41 = .ok (.getfield 245, 3) := by decide +kernel
theorem dX6_refusedRow_44 : decode cX6_refusedRow 44 = .ok (.iload_n 2, 1) := by decide +kernel
theorem dX6_refusedRow_45 : decode cX6_refusedRow 45 = .ok (.if_icmp .eq 6, 3) := by decide +kernel
theorem dX6_refusedRow_48 : decode cX6_refusedRow 48 = .ok (.bipush (-12), 2) := by decide +kernel
theorem dX6_refusedRow_50 : decode cX6_refusedRow 50 = .ok (.ireturn, 1) := by decide +kernel
theorem dX6_refusedRow_51 : decode cX6_refusedRow 51 = .ok (.iload_n 3, 1) := by decide +kernel
theorem dX6_refusedRow_52 : decode cX6_refusedRow 52 = .ok (.ifCond .lt 15, 3) := by decide +kernel
theorem dX6_refusedRow_55 : decode cX6_refusedRow 55 = .ok (.iload_n 3, 1) := by decide +kernel
theorem dX6_refusedRow_56 : decode cX6_refusedRow 56 = .ok (.aload 5, 2) := by decide +kernel
theorem dX6_refusedRow_58 : decode cX6_refusedRow 58 = .ok (.getfield 248, 3) := by decide +kernel
theorem dX6_refusedRow_61 : decode cX6_refusedRow 61 = .ok (.iload 4, 2) := by decide +kernel
theorem dX6_refusedRow_63 : decode cX6_refusedRow 63 = .ok (.isub, 1) := by decide +kernel
theorem dX6_refusedRow_64 : decode cX6_refusedRow 64 = .ok (.if_icmp .le 8, 3) := by decide +kernel
theorem dX6_refusedRow_67 : decode cX6_refusedRow 67 = .ok (.bipush (-13), 2) := by decide +kernel
theorem dX6_refusedRow_69 : decode cX6_refusedRow 69 = .ok (.goto 4, 3) := by decide +kernel
theorem dX6_refusedRow_72 : decode cX6_refusedRow 72 = .ok (.iconst 0, 1) := by decide +kernel
theorem dX6_refusedRow_73 : decode cX6_refusedRow 73 = .ok (.ireturn, 1) := by decide +kernel
theorem dJ6_bitCount_0f7a4_0 : decode cJ6_bitCount_0f7a4 0 = .ok (.iload_n 0, 1) := by decide +kernel
theorem dJ6_bitCount_0f7a4_1 : decode cJ6_bitCount_0f7a4 1 = .ok (.iload_n 0, 1) := by decide +kernel
theorem dJ6_bitCount_0f7a4_2 : decode cJ6_bitCount_0f7a4 2 = .ok (.iconst 1, 1) := by decide +kernel
theorem dJ6_bitCount_0f7a4_3 : decode cJ6_bitCount_0f7a4 3 = .ok (.iushr, 1) := by decide +kernel
theorem dJ6_bitCount_0f7a4_4 : decode cJ6_bitCount_0f7a4 4 = .ok (.ldc_w 265, 3) := by decide +kernel
theorem dJ6_bitCount_0f7a4_7 : decode cJ6_bitCount_0f7a4 7 = .ok (.iand, 1) := by decide +kernel
theorem dJ6_bitCount_0f7a4_8 : decode cJ6_bitCount_0f7a4 8 = .ok (.isub, 1) := by decide +kernel
theorem dJ6_bitCount_0f7a4_9 : decode cJ6_bitCount_0f7a4 9 = .ok (.istore_n 0, 1) := by decide +kernel
theorem dJ6_bitCount_0f7a4_10 : decode cJ6_bitCount_0f7a4 10 = .ok (.iload_n 0, 1) := by decide +kernel
theorem dJ6_bitCount_0f7a4_11 : decode cJ6_bitCount_0f7a4 11 = .ok (.ldc_w 266, 3) := by decide +kernel
theorem dJ6_bitCount_0f7a4_14 : decode cJ6_bitCount_0f7a4 14 = .ok (.iand, 1) := by decide +kernel
theorem dJ6_bitCount_0f7a4_15 : decode cJ6_bitCount_0f7a4 15 = .ok (.iload_n 0, 1) := by decide +kernel
theorem dJ6_bitCount_0f7a4_16 : decode cJ6_bitCount_0f7a4 16 = .ok (.iconst 2, 1) := by decide +kernel
theorem dJ6_bitCount_0f7a4_17 : decode cJ6_bitCount_0f7a4 17 = .ok (.iushr, 1) := by decide +kernel
theorem dJ6_bitCount_0f7a4_18 : decode cJ6_bitCount_0f7a4 18 = .ok (.ldc_w 266, 3) := by decide +kernel
theorem dJ6_bitCount_0f7a4_21 : decode cJ6_bitCount_0f7a4 21 = .ok (.iand, 1) := by decide +kernel
theorem dJ6_bitCount_0f7a4_22 : decode cJ6_bitCount_0f7a4 22 = .ok (.iadd, 1) := by decide +kernel
theorem dJ6_bitCount_0f7a4_23 : decode cJ6_bitCount_0f7a4 23 = .ok (.istore_n 0, 1) := by decide +kernel
theorem dJ6_bitCount_0f7a4_24 : decode cJ6_bitCount_0f7a4 24 = .ok (.iload_n 0, 1) := by decide +kernel
theorem dJ6_bitCount_0f7a4_25 : decode cJ6_bitCount_0f7a4 25 = .ok (.iload_n 0, 1) := by decide +kernel
theorem dJ6_bitCount_0f7a4_26 : decode cJ6_bitCount_0f7a4 26 = .ok (.iconst 4, 1) := by decide +kernel
theorem dJ6_bitCount_0f7a4_27 : decode cJ6_bitCount_0f7a4 27 = .ok (.iushr, 1) := by decide +kernel
theorem dJ6_bitCount_0f7a4_28 : decode cJ6_bitCount_0f7a4 28 = .ok (.iadd, 1) := by decide +kernel
theorem dJ6_bitCount_0f7a4_29 : decode cJ6_bitCount_0f7a4 29 = .ok (.ldc_w 267, 3) := by decide +kernel
theorem dJ6_bitCount_0f7a4_32 : decode cJ6_bitCount_0f7a4 32 = .ok (.iand, 1) := by decide +kernel
theorem dJ6_bitCount_0f7a4_33 : decode cJ6_bitCount_0f7a4 33 = .ok (.istore_n 0, 1) := by decide +kernel
theorem dJ6_bitCount_0f7a4_34 : decode cJ6_bitCount_0f7a4 34 = .ok (.iload_n 0, 1) := by decide +kernel
theorem dJ6_bitCount_0f7a4_35 : decode cJ6_bitCount_0f7a4 35 = .ok (.iload_n 0, 1) := by decide +kernel
theorem dJ6_bitCount_0f7a4_36 : decode cJ6_bitCount_0f7a4 36 = .ok (.bipush 8, 2) := by decide +kernel
theorem dJ6_bitCount_0f7a4_38 : decode cJ6_bitCount_0f7a4 38 = .ok (.iushr, 1) := by decide +kernel
theorem dJ6_bitCount_0f7a4_39 : decode cJ6_bitCount_0f7a4 39 = .ok (.iadd, 1) := by decide +kernel
theorem dJ6_bitCount_0f7a4_40 : decode cJ6_bitCount_0f7a4 40 = .ok (.istore_n 0, 1) := by decide +kernel
theorem dJ6_bitCount_0f7a4_41 : decode cJ6_bitCount_0f7a4 41 = .ok (.iload_n 0, 1) := by decide +kernel
theorem dJ6_bitCount_0f7a4_42 : decode cJ6_bitCount_0f7a4 42 = .ok (.iload_n 0, 1) := by decide +kernel
theorem dJ6_bitCount_0f7a4_43 : decode cJ6_bitCount_0f7a4 43 = .ok (.bipush 16, 2) := by decide +kernel
theorem dJ6_bitCount_0f7a4_45 : decode cJ6_bitCount_0f7a4 45 = .ok (.iushr, 1) := by decide +kernel
theorem dJ6_bitCount_0f7a4_46 : decode cJ6_bitCount_0f7a4 46 = .ok (.iadd, 1) := by decide +kernel
theorem dJ6_bitCount_0f7a4_47 : decode cJ6_bitCount_0f7a4 47 = .ok (.istore_n 0, 1) := by decide +kernel
theorem dJ6_bitCount_0f7a4_48 : decode cJ6_bitCount_0f7a4 48 = .ok (.iload_n 0, 1) := by decide +kernel
theorem dJ6_bitCount_0f7a4_49 : decode cJ6_bitCount_0f7a4 49 = .ok (.bipush 63, 2) := by decide +kernel
theorem dJ6_bitCount_0f7a4_51 : decode cJ6_bitCount_0f7a4 51 = .ok (.iand, 1) := by decide +kernel
theorem dJ6_bitCount_0f7a4_52 : decode cJ6_bitCount_0f7a4 52 = .ok (.ireturn, 1) := by decide +kernel
theorem dJ0_length_8abf5_0 : decode cJ0_length_8abf5 0 = .ok (.aload_n 0, 1) := by decide +kernel
theorem dJ0_length_8abf5_1 : decode cJ0_length_8abf5 1 = .ok (.getfield 9, 3) := by decide +kernel
theorem dJ0_length_8abf5_4 : decode cJ0_length_8abf5 4 = .ok (.arraylength, 1) := by decide +kernel
theorem dJ0_length_8abf5_5 : decode cJ0_length_8abf5 5 = .ok (.aload_n 0, 1) := by decide +kernel
theorem dJ0_length_8abf5_6 : decode cJ0_length_8abf5 6 = .ok (.invokevirtual 335, 3) := by decide +kernel
theorem dJ0_length_8abf5_9 : decode cJ0_length_8abf5 9 = .ok (.ishr, 1) := by decide +kernel
theorem dJ0_length_8abf5_10 : decode cJ0_length_8abf5 10 = .ok (.ireturn, 1) := by decide +kernel
theorem dJ0_charAt_5068e_0 : decode cJ0_charAt_5068e 0 = .ok (.aload_n 0, 1) := by decide +kernel
theorem dJ0_charAt_5068e_1 : decode cJ0_charAt_5068e 1 = .ok (.invokevirtual 492, 3) := by decide +kernel
theorem dJ0_charAt_5068e_4 : decode cJ0_charAt_5068e 4 = .ok (.ifCond .eq 12, 3) := by decide +kernel
theorem dJ0_charAt_5068e_7 : decode cJ0_charAt_5068e 7 = .ok (.aload_n 0, 1) := by decide +kernel
theorem dJ0_charAt_5068e_8 : decode cJ0_charAt_5068e 8 = .ok (.getfield 9, 3) := by decide +kernel
theorem dJ0_charAt_5068e_11 : decode cJ0_charAt_5068e 11 = .ok (.iload_n 1, 1) := by decide +kernel
theorem dJ0_charAt_5068e_12 : decode cJ0_charAt_5068e 12 = .ok (.invokestatic 495, 3) := by decide +kernel
theorem dJ0_charAt_5068e_15 : decode cJ0_charAt_5068e 15 = .ok (.ireturn, 1) := by decide +kernel
theorem dJ0_charAt_5068e_16 : decode cJ0_charAt_5068e 16 = .ok (.aload_n 0, 1) := by decide +kernel
theorem dJ0_charAt_5068e_17 : decode cJ0_charAt_5068e 17 = .ok (.getfield 9, 3) := by decide +kernel
theorem dJ0_charAt_5068e_20 : decode cJ0_charAt_5068e 20 = .ok (.iload_n 1, 1) := by decide +kernel
theorem dJ0_charAt_5068e_21 : decode cJ0_charAt_5068e 21 = .ok (.invokestatic 498, 3) := by decide +kernel
theorem dJ0_charAt_5068e_24 : decode cJ0_charAt_5068e 24 = .ok (.ireturn, 1) := by decide +kernel
theorem dJ0_indexOf_0f7a4_0 : decode cJ0_indexOf_0f7a4 0 = .ok (.aload_n 0, 1) := by decide +kernel
theorem dJ0_indexOf_0f7a4_1 : decode cJ0_indexOf_0f7a4 1 = .ok (.iload_n 1, 1) := by decide +kernel
theorem dJ0_indexOf_0f7a4_2 : decode cJ0_indexOf_0f7a4 2 = .ok (.iconst 0, 1) := by decide +kernel
theorem dJ0_indexOf_0f7a4_3 : decode cJ0_indexOf_0f7a4 3 = .ok (.invokevirtual 633, 3) := by decide +kernel
theorem dJ0_indexOf_0f7a4_6 : decode cJ0_indexOf_0f7a4 6 = .ok (.ireturn, 1) := by decide +kernel
theorem dJ0_indexOf_7cf53_0 : decode cJ0_indexOf_7cf53 0 = .ok (.aload_n 0, 1) := by decide +kernel
theorem dJ0_indexOf_7cf53_1 : decode cJ0_indexOf_7cf53 1 = .ok (.invokevirtual 492, 3) := by decide +kernel
theorem dJ0_indexOf_7cf53_4 : decode cJ0_indexOf_7cf53 4 = .ok (.ifCond .eq 19, 3) := by decide +kernel
theorem dJ0_indexOf_7cf53_7 : decode cJ0_indexOf_7cf53 7 = .ok (.aload_n 0, 1) := by decide +kernel
theorem dJ0_indexOf_7cf53_8 : decode cJ0_indexOf_7cf53 8 = .ok (.getfield 9, 3) := by decide +kernel
theorem dJ0_indexOf_7cf53_11 : decode cJ0_indexOf_7cf53 11 = .ok (.iload_n 1, 1) := by decide +kernel
theorem dJ0_indexOf_7cf53_12 : decode cJ0_indexOf_7cf53 12 = .ok (.iload_n 2, 1) := by decide +kernel
theorem dJ0_indexOf_7cf53_13 : decode cJ0_indexOf_7cf53 13 = .ok (.aload_n 0, 1) := by decide +kernel
theorem dJ0_indexOf_7cf53_14 : decode cJ0_indexOf_7cf53 14 = .ok (.invokevirtual 505, 3) := by decide +kernel
theorem dJ0_indexOf_7cf53_17 : decode cJ0_indexOf_7cf53 17 = .ok (.invokestatic 637, 3) := by decide +kernel
theorem dJ0_indexOf_7cf53_20 : decode cJ0_indexOf_7cf53 20 = .ok (.goto 16, 3) := by decide +kernel
theorem dJ0_indexOf_7cf53_23 : decode cJ0_indexOf_7cf53 23 = .ok (.aload_n 0, 1) := by decide +kernel
theorem dJ0_indexOf_7cf53_24 : decode cJ0_indexOf_7cf53 24 = .ok (.getfield 9, 3) := by decide +kernel
theorem dJ0_indexOf_7cf53_27 : decode cJ0_indexOf_7cf53 27 = .ok (.iload_n 1, 1) := by decide +kernel
theorem dJ0_indexOf_7cf53_28 : decode cJ0_indexOf_7cf53 28 = .ok (.iload_n 2, 1) := by decide +kernel
theorem dJ0_indexOf_7cf53_29 : decode cJ0_indexOf_7cf53 29 = .ok (.aload_n 0, 1) := by decide +kernel
theorem dJ0_indexOf_7cf53_30 : decode cJ0_indexOf_7cf53 30 = .ok (.invokevirtual 505, 3) := by decide +kernel
theorem dJ0_indexOf_7cf53_33 : decode cJ0_indexOf_7cf53 33 = .ok (.invokestatic 640, 3) := by decide +kernel
theorem dJ0_indexOf_7cf53_36 : decode cJ0_indexOf_7cf53 36 = .ok (.ireturn, 1) := by decide +kernel
theorem dJ0_coder_7d493_0 : decode cJ0_coder_7d493 0 = .ok (.getstatic 38, 3) := by decide +kernel
theorem dJ0_coder_7d493_3 : decode cJ0_coder_7d493 3 = .ok (.ifCond .eq 10, 3) := by decide +kernel
theorem dJ0_coder_7d493_6 : decode cJ0_coder_7d493 6 = .ok (.aload_n 0, 1) := by decide +kernel
theorem dJ0_coder_7d493_7 : decode cJ0_coder_7d493 7 = .ok (.getfield 15, 3) := by decide +kernel
theorem dJ0_coder_7d493_10 : decode cJ0_coder_7d493 10 = .ok (.goto 4, 3) := by decide +kernel
theorem dJ0_coder_7d493_13 : decode cJ0_coder_7d493 13 = .ok (.iconst 1, 1) := by decide +kernel
theorem dJ0_coder_7d493_14 : decode cJ0_coder_7d493 14 = .ok (.ireturn, 1) := by decide +kernel
theorem dJ0_isLatin1_aae02_0 : decode cJ0_isLatin1_aae02 0 = .ok (.getstatic 38, 3) := by decide +kernel
theorem dJ0_isLatin1_aae02_3 : decode cJ0_isLatin1_aae02 3 = .ok (.ifCond .eq 14, 3) := by decide +kernel
theorem dJ0_isLatin1_aae02_6 : decode cJ0_isLatin1_aae02 6 = .ok (.aload_n 0, 1) := by decide +kernel
theorem dJ0_isLatin1_aae02_7 : decode cJ0_isLatin1_aae02 7 = .ok (.getfield 15, 3) := by decide +kernel
theorem dJ0_isLatin1_aae02_10 : decode cJ0_isLatin1_aae02 10 = .ok (.ifCond .ne 7, 3) := by decide +kernel
theorem dJ0_isLatin1_aae02_13 : decode cJ0_isLatin1_aae02 13 = .ok (.iconst 1, 1) := by decide +kernel
theorem dJ0_isLatin1_aae02_14 : decode cJ0_isLatin1_aae02 14 = .ok (.goto 4, 3) := by decide +kernel
theorem dJ0_isLatin1_aae02_17 : decode cJ0_isLatin1_aae02 17 = .ok (.iconst 0, 1) := by decide +kernel
theorem dJ0_isLatin1_aae02_18 : decode cJ0_isLatin1_aae02 18 = .ok (.ireturn, 1) := by decide +kernel
theorem dJ0_checkIndex_df160_0 : decode cJ0_checkIndex_df160 0 = .ok (.iload_n 0, 1) := by decide +kernel
theorem dJ0_checkIndex_df160_1 : decode cJ0_checkIndex_df160 1 = .ok (.iload_n 1, 1) := by decide +kernel
theorem dJ0_checkIndex_df160_2 : decode cJ0_checkIndex_df160 2 = .ok (.getstatic 1053, 3) := by decide +kernel
theorem dJ0_checkIndex_df160_5 : decode cJ0_checkIndex_df160 5 = .ok (.invokestatic 1059, 3) := by decide +kernel
theorem dJ0_checkIndex_df160_8 : decode cJ0_checkIndex_df160 8 = .ok (.pop, 1) := by decide +kernel
theorem dJ0_checkIndex_df160_9 : decode cJ0_checkIndex_df160 9 = .ok (.return_, 1) := by decide +kernel
theorem dJ0_checkBoundsBeginEnd_23922_0 : decode cJ0_checkBoundsBeginEnd_23922 0 = .ok (.iload_n 0, 1) := by decide +kernel
theorem dJ0_checkBoundsBeginEnd_23922_1 : decode cJ0_checkBoundsBeginEnd_23922 1 = .ok (.iload_n 1, 1) := by decide +kernel
theorem dJ0_checkBoundsBeginEnd_23922_2 : decode cJ0_checkBoundsBeginEnd_23922 2 = .ok (.iload_n 2, 1) := by decide +kernel
theorem dJ0_checkBoundsBeginEnd_23922_3 : decode cJ0_checkBoundsBeginEnd_23922 3 = .ok (.getstatic 1053, 3) := by decide +kernel
theorem dJ0_checkBoundsBeginEnd_23922_6 : decode cJ0_checkBoundsBeginEnd_23922 6 = .ok (.invokestatic 1062, 3) := by decide +kernel
theorem dJ0_checkBoundsBeginEnd_23922_9 : decode cJ0_checkBoundsBeginEnd_23922 9 = .ok (.pop, 1) := by decide +kernel
theorem dJ0_checkBoundsBeginEnd_23922_10 : decode cJ0_checkBoundsBeginEnd_23922 10 = .ok (.return_, 1) := by decide +kernel
theorem dJ1_charAt_3b067_0 : decode cJ1_charAt_3b067 0 = .ok (.iload_n 1, 1) := by decide +kernel
theorem dJ1_charAt_3b067_1 : decode cJ1_charAt_3b067 1 = .ok (.aload_n 0, 1) := by decide +kernel
theorem dJ1_charAt_3b067_2 : decode cJ1_charAt_3b067 2 = .ok (.arraylength, 1) := by decide +kernel
theorem dJ1_charAt_3b067_3 : decode cJ1_charAt_3b067 3 = .ok (.invokestatic 9, 3) := by decide +kernel
theorem dJ1_charAt_3b067_6 : decode cJ1_charAt_3b067 6 = .ok (.aload_n 0, 1) := by decide +kernel
theorem dJ1_charAt_3b067_7 : decode cJ1_charAt_3b067 7 = .ok (.iload_n 1, 1) := by decide +kernel
theorem dJ1_charAt_3b067_8 : decode cJ1_charAt_3b067 8 = .ok (.baload, 1) := by decide +kernel
theorem dJ1_charAt_3b067_9 : decode cJ1_charAt_3b067 9 = .ok (.sipush 255, 3) := by decide +kernel
theorem dJ1_charAt_3b067_12 : decode cJ1_charAt_3b067 12 = .ok (.iand, 1) := by decide +kernel
theorem dJ1_charAt_3b067_13 : decode cJ1_charAt_3b067 13 = .ok (.i2c, 1) := by decide +kernel
theorem dJ1_charAt_3b067_14 : decode cJ1_charAt_3b067 14 = .ok (.ireturn, 1) := by decide +kernel
theorem dJ1_canEncode_9a6ad_0 : decode cJ1_canEncode_9a6ad 0 = .ok (.iload_n 0, 1) := by decide +kernel
theorem dJ1_canEncode_9a6ad_1 : decode cJ1_canEncode_9a6ad 1 = .ok (.ifCond .lt 14, 3) := by decide +kernel
theorem dJ1_canEncode_9a6ad_4 : decode cJ1_canEncode_9a6ad 4 = .ok (.iload_n 0, 1) := by decide +kernel
theorem dJ1_canEncode_9a6ad_5 : decode cJ1_canEncode_9a6ad 5 = .ok (.sipush 255, 3) := by decide +kernel
theorem dJ1_canEncode_9a6ad_8 : decode cJ1_canEncode_9a6ad 8 = .ok (.if_icmp .gt 7, 3) := by decide +kernel
theorem dJ1_canEncode_9a6ad_11 : decode cJ1_canEncode_9a6ad 11 = .ok (.iconst 1, 1) := by decide +kernel
theorem dJ1_canEncode_9a6ad_12 : decode cJ1_canEncode_9a6ad 12 = .ok (.goto 4, 3) := by decide +kernel
theorem dJ1_canEncode_9a6ad_15 : decode cJ1_canEncode_9a6ad 15 = .ok (.iconst 0, 1) := by decide +kernel
theorem dJ1_canEncode_9a6ad_16 : decode cJ1_canEncode_9a6ad 16 = .ok (.ireturn, 1) := by decide +kernel
theorem dJ1_indexOf_4cfef_0 : decode cJ1_indexOf_4cfef 0 = .ok (.iload_n 1, 1) := by decide +kernel
theorem dJ1_indexOf_4cfef_1 : decode cJ1_indexOf_4cfef 1 = .ok (.invokestatic 88, 3) := by decide +kernel
theorem dJ1_indexOf_4cfef_4 : decode cJ1_indexOf_4cfef 4 = .ok (.ifCond .ne 5, 3) := by decide +kernel
theorem dJ1_indexOf_4cfef_7 : decode cJ1_indexOf_4cfef 7 = .ok (.iconst (-1), 1) := by decide +kernel
theorem dJ1_indexOf_4cfef_8 : decode cJ1_indexOf_4cfef 8 = .ok (.ireturn, 1) := by decide +kernel
theorem dJ1_indexOf_4cfef_9 : decode cJ1_indexOf_4cfef 9 = .ok (.iload_n 2, 1) := by decide +kernel
theorem dJ1_indexOf_4cfef_10 : decode cJ1_indexOf_4cfef 10 = .ok (.iconst 0, 1) := by decide +kernel
theorem dJ1_indexOf_4cfef_11 : decode cJ1_indexOf_4cfef 11 = .ok (.invokestatic 92, 3) := by decide +kernel
theorem dJ1_indexOf_4cfef_14 : decode cJ1_indexOf_4cfef 14 = .ok (.istore_n 2, 1) := by decide +kernel
theorem dJ1_indexOf_4cfef_15 : decode cJ1_indexOf_4cfef 15 = .ok (.iload_n 3, 1) := by decide +kernel
theorem dJ1_indexOf_4cfef_16 : decode cJ1_indexOf_4cfef 16 = .ok (.aload_n 0, 1) := by decide +kernel
theorem dJ1_indexOf_4cfef_17 : decode cJ1_indexOf_4cfef 17 = .ok (.arraylength, 1) := by decide +kernel
theorem dJ1_indexOf_4cfef_18 : decode cJ1_indexOf_4cfef 18 = .ok (.invokestatic 38, 3) := by decide +kernel
theorem dJ1_indexOf_4cfef_21 : decode cJ1_indexOf_4cfef 21 = .ok (.istore_n 3, 1) := by decide +kernel
theorem dJ1_indexOf_4cfef_22 : decode cJ1_indexOf_4cfef 22 = .ok (.iload_n 2, 1) := by decide +kernel
theorem dJ1_indexOf_4cfef_23 : decode cJ1_indexOf_4cfef 23 = .ok (.iload_n 3, 1) := by decide +kernel
theorem dJ1_indexOf_4cfef_24 : decode cJ1_indexOf_4cfef 24 = .ok (.if_icmp .lt 5, 3) := by decide +kernel
theorem dJ1_indexOf_4cfef_27 : decode cJ1_indexOf_4cfef 27 = .ok (.iconst (-1), 1) := by decide +kernel
theorem dJ1_indexOf_4cfef_28 : decode cJ1_indexOf_4cfef 28 = .ok (.ireturn, 1) := by decide +kernel
theorem dJ1_indexOf_4cfef_29 : decode cJ1_indexOf_4cfef 29 = .ok (.aload_n 0, 1) := by decide +kernel
theorem dJ1_indexOf_4cfef_30 : decode cJ1_indexOf_4cfef 30 = .ok (.iload_n 1, 1) := by decide +kernel
theorem dJ1_indexOf_4cfef_31 : decode cJ1_indexOf_4cfef 31 = .ok (.iload_n 2, 1) := by decide +kernel
theorem dJ1_indexOf_4cfef_32 : decode cJ1_indexOf_4cfef 32 = .ok (.iload_n 3, 1) := by decide +kernel
theorem dJ1_indexOf_4cfef_33 : decode cJ1_indexOf_4cfef 33 = .ok (.invokestatic 95, 3) := by decide +kernel
theorem dJ1_indexOf_4cfef_36 : decode cJ1_indexOf_4cfef 36 = .ok (.ireturn, 1) := by decide +kernel
theorem dJ1_indexOfChar_4cfef_0 : decode cJ1_indexOfChar_4cfef 0 = .ok (.iload_n 1, 1) := by decide +kernel
theorem dJ1_indexOfChar_4cfef_1 : decode cJ1_indexOfChar_4cfef 1 = .ok (.i2b, 1) := by decide +kernel
theorem dJ1_indexOfChar_4cfef_2 : decode cJ1_indexOfChar_4cfef 2 = .ok (.istore 4, 2) := by decide +kernel
theorem dJ1_indexOfChar_4cfef_4 : decode cJ1_indexOfChar_4cfef 4 = .ok (.iload_n 2, 1) := by decide +kernel
theorem dJ1_indexOfChar_4cfef_5 : decode cJ1_indexOfChar_4cfef 5 = .ok (.istore 5, 2) := by decide +kernel
theorem dJ1_indexOfChar_4cfef_7 : decode cJ1_indexOfChar_4cfef 7 = .ok (.iload 5, 2) := by decide +kernel
theorem dJ1_indexOfChar_4cfef_9 : decode cJ1_indexOfChar_4cfef 9 = .ok (.iload_n 3, 1) := by decide +kernel
theorem dJ1_indexOfChar_4cfef_10 : decode cJ1_indexOfChar_4cfef 10 = .ok (.if_icmp .ge 21, 3) := by decide +kernel
theorem dJ1_indexOfChar_4cfef_13 : decode cJ1_indexOfChar_4cfef 13 = .ok (.aload_n 0, 1) := by decide +kernel
theorem dJ1_indexOfChar_4cfef_14 : decode cJ1_indexOfChar_4cfef 14 = .ok (.iload 5, 2) := by decide +kernel
theorem dJ1_indexOfChar_4cfef_16 : decode cJ1_indexOfChar_4cfef 16 = .ok (.baload, 1) := by decide +kernel
theorem dJ1_indexOfChar_4cfef_17 : decode cJ1_indexOfChar_4cfef 17 = .ok (.iload 4, 2) := by decide +kernel
theorem dJ1_indexOfChar_4cfef_19 : decode cJ1_indexOfChar_4cfef 19 = .ok (.if_icmp .ne 6, 3) := by decide +kernel
theorem dJ1_indexOfChar_4cfef_22 : decode cJ1_indexOfChar_4cfef 22 = .ok (.iload 5, 2) := by decide +kernel
theorem dJ1_indexOfChar_4cfef_24 : decode cJ1_indexOfChar_4cfef 24 = .ok (.ireturn, 1) := by decide +kernel
theorem dJ1_indexOfChar_4cfef_25 : decode cJ1_indexOfChar_4cfef 25 = .ok (.iinc 5 1, 3) := by decide +kernel
theorem dJ1_indexOfChar_4cfef_28 : decode cJ1_indexOfChar_4cfef 28 = .ok (.goto (-21), 3) := by decide +kernel
theorem dJ1_indexOfChar_4cfef_31 : decode cJ1_indexOfChar_4cfef 31 = .ok (.iconst (-1), 1) := by decide +kernel
theorem dJ1_indexOfChar_4cfef_32 : decode cJ1_indexOfChar_4cfef 32 = .ok (.ireturn, 1) := by decide +kernel
theorem dJ3_checkIndex_8e157_0 : decode cJ3_checkIndex_8e157 0 = .ok (.iload_n 0, 1) := by decide +kernel
theorem dJ3_checkIndex_8e157_1 : decode cJ3_checkIndex_8e157 1 = .ok (.ifCond .lt 8, 3) := by decide +kernel
theorem dJ3_checkIndex_8e157_4 : decode cJ3_checkIndex_8e157 4 = .ok (.iload_n 0, 1) := by decide +kernel
theorem dJ3_checkIndex_8e157_5 : decode cJ3_checkIndex_8e157 5 = .ok (.iload_n 1, 1) := by decide +kernel
theorem dJ3_checkIndex_8e157_6 : decode cJ3_checkIndex_8e157 6 = .ok (.if_icmp .lt 10, 3) := by decide +kernel
theorem dJ3_checkIndex_8e157_9 : decode cJ3_checkIndex_8e157 9 = .ok (.aload_n 2, 1) := by decide +kernel
theorem dJ3_checkIndex_8e157_10 : decode cJ3_checkIndex_8e157 10 = .ok (.iload_n 0, 1) := by decide +kernel
theorem dJ3_checkIndex_8e157_11 : decode cJ3_checkIndex_8e157 11 = .ok (.iload_n 1, 1) := by decide +kernel
theorem dJ3_checkIndex_8e157_12 : decode cJ3_checkIndex_8e157 12 = .ok (.invokestatic 95, 3) := by decide +kernel
theorem dJ3_checkIndex_8e157_15 : decode cJ3_checkIndex_8e157 15 = .ok (.athrow, 1) := by decide +kernel
theorem dJ3_checkIndex_8e157_16 : decode cJ3_checkIndex_8e157 16 = .ok (.iload_n 0, 1) := by decide +kernel
theorem dJ3_checkIndex_8e157_17 : decode cJ3_checkIndex_8e157 17 = .ok (.ireturn, 1) := by decide +kernel
theorem dJ3_checkFromToIndex_8c36e_0 : decode cJ3_checkFromToIndex_8c36e 0 = .ok (.iload_n 0, 1) := by decide +kernel
theorem dJ3_checkFromToIndex_8c36e_1 : decode cJ3_checkFromToIndex_8c36e 1 = .ok (.ifCond .lt 13, 3) := by decide +kernel
theorem dJ3_checkFromToIndex_8c36e_4 : decode cJ3_checkFromToIndex_8c36e 4 = .ok (.iload_n 0, 1) := by decide +kernel
theorem dJ3_checkFromToIndex_8c36e_5 : decode cJ3_checkFromToIndex_8c36e 5 = .ok (.iload_n 1, 1) := by decide +kernel
theorem dJ3_checkFromToIndex_8c36e_6 : decode cJ3_checkFromToIndex_8c36e 6 = .ok (.if_icmp .gt 8, 3) := by decide +kernel
theorem dJ3_checkFromToIndex_8c36e_9 : decode cJ3_checkFromToIndex_8c36e 9 = .ok (.iload_n 1, 1) := by decide +kernel
theorem dJ3_checkFromToIndex_8c36e_10 : decode cJ3_checkFromToIndex_8c36e 10 = .ok (.iload_n 2, 1) := by decide +kernel
theorem dJ3_checkFromToIndex_8c36e_11 : decode cJ3_checkFromToIndex_8c36e 11 = .ok (.if_icmp .le 11, 3) := by decide +kernel
theorem dJ3_checkFromToIndex_8c36e_14 : decode cJ3_checkFromToIndex_8c36e 14 = .ok (.aload_n 3, 1) := by decide +kernel
theorem dJ3_checkFromToIndex_8c36e_15 : decode cJ3_checkFromToIndex_8c36e 15 = .ok (.iload_n 0, 1) := by decide +kernel
theorem dJ3_checkFromToIndex_8c36e_16 : decode cJ3_checkFromToIndex_8c36e 16 = .ok (.iload_n 1, 1) := by decide +kernel
theorem dJ3_checkFromToIndex_8c36e_17 : decode cJ3_checkFromToIndex_8c36e 17 = .ok (.iload_n 2, 1) := by decide +kernel
theorem dJ3_checkFromToIndex_8c36e_18 : decode cJ3_checkFromToIndex_8c36e 18 = .ok (.invokestatic 99, 3) := by decide +kernel
theorem dJ3_checkFromToIndex_8c36e_21 : decode cJ3_checkFromToIndex_8c36e 21 = .ok (.athrow, 1) := by decide +kernel
theorem dJ3_checkFromToIndex_8c36e_22 : decode cJ3_checkFromToIndex_8c36e 22 = .ok (.iload_n 0, 1) := by decide +kernel
theorem dJ3_checkFromToIndex_8c36e_23 : decode cJ3_checkFromToIndex_8c36e 23 = .ok (.ireturn, 1) := by decide +kernel
