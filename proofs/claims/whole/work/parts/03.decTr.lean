theorem d_Tr_init_0 : decode b_Tr_init 0 = .ok (.aload_n 0, 1) := by decide +kernel
theorem d_Tr_init_1 : decode b_Tr_init 1 = .ok (.invokespecial 3, 3) := by decide +kernel
theorem d_Tr_init_4 : decode b_Tr_init 4 = .ok (.aload_n 0, 1) := by decide +kernel
theorem d_Tr_init_5 : decode b_Tr_init 5 = .ok (.aload_n 1, 1) := by decide +kernel
theorem d_Tr_init_6 : decode b_Tr_init 6 = .ok (.putfield 9, 3) := by decide +kernel
theorem d_Tr_init_9 : decode b_Tr_init 9 = .ok (.aload_n 0, 1) := by decide +kernel
theorem d_Tr_init_10 : decode b_Tr_init 10 = .ok (.new 15, 3) := by decide +kernel
theorem d_Tr_init_13 : decode b_Tr_init 13 = .ok (.dup, 1) := by decide +kernel
theorem d_Tr_init_14 : decode b_Tr_init 14 = .ok (.invokespecial 17, 3) := by decide +kernel
theorem d_Tr_init_17 : decode b_Tr_init 17 = .ok (.putfield 18, 3) := by decide +kernel
theorem d_Tr_init_20 : decode b_Tr_init 20 = .ok (.aload_n 0, 1) := by decide +kernel
theorem d_Tr_init_21 : decode b_Tr_init 21 = .ok (.new 22, 3) := by decide +kernel
theorem d_Tr_init_24 : decode b_Tr_init 24 = .ok (.dup, 1) := by decide +kernel
theorem d_Tr_init_25 : decode b_Tr_init 25 = .ok (.invokespecial 24, 3) := by decide +kernel
theorem d_Tr_init_28 : decode b_Tr_init 28 = .ok (.putfield 25, 3) := by decide +kernel
theorem d_Tr_init_31 : decode b_Tr_init 31 = .ok (.aload_n 0, 1) := by decide +kernel
theorem d_Tr_init_32 : decode b_Tr_init 32 = .ok (.bipush 16, 2) := by decide +kernel
theorem d_Tr_init_34 : decode b_Tr_init 34 = .ok (.newarray .int, 2) := by decide +kernel
theorem d_Tr_init_36 : decode b_Tr_init 36 = .ok (.putfield 29, 3) := by decide +kernel
theorem d_Tr_init_39 : decode b_Tr_init 39 = .ok (.aload_n 0, 1) := by decide +kernel
theorem d_Tr_init_40 : decode b_Tr_init 40 = .ok (.bipush 16, 2) := by decide +kernel
theorem d_Tr_init_42 : decode b_Tr_init 42 = .ok (.newarray .int, 2) := by decide +kernel
theorem d_Tr_init_44 : decode b_Tr_init 44 = .ok (.putfield 33, 3) := by decide +kernel
theorem d_Tr_init_47 : decode b_Tr_init 47 = .ok (.aload_n 0, 1) := by decide +kernel
theorem d_Tr_init_48 : decode b_Tr_init 48 = .ok (.bipush 16, 2) := by decide +kernel
theorem d_Tr_init_50 : decode b_Tr_init 50 = .ok (.newarray .int, 2) := by decide +kernel
theorem d_Tr_init_52 : decode b_Tr_init 52 = .ok (.putfield 36, 3) := by decide +kernel
theorem d_Tr_init_55 : decode b_Tr_init 55 = .ok (.return_, 1) := by decide +kernel
theorem d_Tr_copyFromNodes_0 : decode b_Tr_copyFromNodes 0 = .ok (.aload_n 0, 1) := by decide +kernel
theorem d_Tr_copyFromNodes_1 : decode b_Tr_copyFromNodes 1 = .ok (.aload_n 0, 1) := by decide +kernel
theorem d_Tr_copyFromNodes_2 : decode b_Tr_copyFromNodes 2 = .ok (.getfield 29, 3) := by decide +kernel
theorem d_Tr_copyFromNodes_5 : decode b_Tr_copyFromNodes 5 = .ok (.aload_n 0, 1) := by decide +kernel
theorem d_Tr_copyFromNodes_6 : decode b_Tr_copyFromNodes 6 = .ok (.getfield 9, 3) := by decide +kernel
theorem d_Tr_copyFromNodes_9 : decode b_Tr_copyFromNodes 9 = .ok (.getfield 68, 3) := by decide +kernel
theorem d_Tr_copyFromNodes_12 : decode b_Tr_copyFromNodes 12 = .ok (.invokestatic 73, 3) := by decide +kernel
theorem d_Tr_copyFromNodes_15 : decode b_Tr_copyFromNodes 15 = .ok (.putfield 29, 3) := by decide +kernel
theorem d_Tr_copyFromNodes_18 : decode b_Tr_copyFromNodes 18 = .ok (.aload_n 0, 1) := by decide +kernel
theorem d_Tr_copyFromNodes_19 : decode b_Tr_copyFromNodes 19 = .ok (.aload_n 0, 1) := by decide +kernel
theorem d_Tr_copyFromNodes_20 : decode b_Tr_copyFromNodes 20 = .ok (.getfield 33, 3) := by decide +kernel
theorem d_Tr_copyFromNodes_23 : decode b_Tr_copyFromNodes 23 = .ok (.aload_n 0, 1) := by decide +kernel
theorem d_Tr_copyFromNodes_24 : decode b_Tr_copyFromNodes 24 = .ok (.getfield 9, 3) := by decide +kernel
theorem d_Tr_copyFromNodes_27 : decode b_Tr_copyFromNodes 27 = .ok (.getfield 68, 3) := by decide +kernel
theorem d_Tr_copyFromNodes_30 : decode b_Tr_copyFromNodes 30 = .ok (.invokestatic 73, 3) := by decide +kernel
theorem d_Tr_copyFromNodes_33 : decode b_Tr_copyFromNodes 33 = .ok (.putfield 33, 3) := by decide +kernel
theorem d_Tr_copyFromNodes_36 : decode b_Tr_copyFromNodes 36 = .ok (.aload_n 0, 1) := by decide +kernel
theorem d_Tr_copyFromNodes_37 : decode b_Tr_copyFromNodes 37 = .ok (.aload_n 0, 1) := by decide +kernel
theorem d_Tr_copyFromNodes_38 : decode b_Tr_copyFromNodes 38 = .ok (.getfield 36, 3) := by decide +kernel
theorem d_Tr_copyFromNodes_41 : decode b_Tr_copyFromNodes 41 = .ok (.aload_n 0, 1) := by decide +kernel
theorem d_Tr_copyFromNodes_42 : decode b_Tr_copyFromNodes 42 = .ok (.getfield 9, 3) := by decide +kernel
theorem d_Tr_copyFromNodes_45 : decode b_Tr_copyFromNodes 45 = .ok (.getfield 68, 3) := by decide +kernel
theorem d_Tr_copyFromNodes_48 : decode b_Tr_copyFromNodes 48 = .ok (.invokestatic 73, 3) := by decide +kernel
theorem d_Tr_copyFromNodes_51 : decode b_Tr_copyFromNodes 51 = .ok (.putfield 36, 3) := by decide +kernel
theorem d_Tr_copyFromNodes_54 : decode b_Tr_copyFromNodes 54 = .ok (.aload_n 0, 1) := by decide +kernel
theorem d_Tr_copyFromNodes_55 : decode b_Tr_copyFromNodes 55 = .ok (.getfield 9, 3) := by decide +kernel
theorem d_Tr_copyFromNodes_58 : decode b_Tr_copyFromNodes 58 = .ok (.getfield 77, 3) := by decide +kernel
theorem d_Tr_copyFromNodes_61 : decode b_Tr_copyFromNodes 61 = .ok (.iconst 0, 1) := by decide +kernel
theorem d_Tr_copyFromNodes_62 : decode b_Tr_copyFromNodes 62 = .ok (.aload_n 0, 1) := by decide +kernel
theorem d_Tr_copyFromNodes_63 : decode b_Tr_copyFromNodes 63 = .ok (.getfield 29, 3) := by decide +kernel
theorem d_Tr_copyFromNodes_66 : decode b_Tr_copyFromNodes 66 = .ok (.iconst 0, 1) := by decide +kernel
theorem d_Tr_copyFromNodes_67 : decode b_Tr_copyFromNodes 67 = .ok (.aload_n 0, 1) := by decide +kernel
theorem d_Tr_copyFromNodes_68 : decode b_Tr_copyFromNodes 68 = .ok (.getfield 9, 3) := by decide +kernel
theorem d_Tr_copyFromNodes_71 : decode b_Tr_copyFromNodes 71 = .ok (.getfield 68, 3) := by decide +kernel
theorem d_Tr_copyFromNodes_74 : decode b_Tr_copyFromNodes 74 = .ok (.invokestatic 80, 3) := by decide +kernel
theorem d_Tr_copyFromNodes_77 : decode b_Tr_copyFromNodes 77 = .ok (.aload_n 0, 1) := by decide +kernel
theorem d_Tr_copyFromNodes_78 : decode b_Tr_copyFromNodes 78 = .ok (.getfield 9, 3) := by decide +kernel
theorem d_Tr_copyFromNodes_81 : decode b_Tr_copyFromNodes 81 = .ok (.getfield 86, 3) := by decide +kernel
theorem d_Tr_copyFromNodes_84 : decode b_Tr_copyFromNodes 84 = .ok (.iconst 0, 1) := by decide +kernel
theorem d_Tr_copyFromNodes_85 : decode b_Tr_copyFromNodes 85 = .ok (.aload_n 0, 1) := by decide +kernel
theorem d_Tr_copyFromNodes_86 : decode b_Tr_copyFromNodes 86 = .ok (.getfield 33, 3) := by decide +kernel
theorem d_Tr_copyFromNodes_89 : decode b_Tr_copyFromNodes 89 = .ok (.iconst 0, 1) := by decide +kernel
theorem d_Tr_copyFromNodes_90 : decode b_Tr_copyFromNodes 90 = .ok (.aload_n 0, 1) := by decide +kernel
theorem d_Tr_copyFromNodes_91 : decode b_Tr_copyFromNodes 91 = .ok (.getfield 9, 3) := by decide +kernel
theorem d_Tr_copyFromNodes_94 : decode b_Tr_copyFromNodes 94 = .ok (.getfield 68, 3) := by decide +kernel
theorem d_Tr_copyFromNodes_97 : decode b_Tr_copyFromNodes 97 = .ok (.invokestatic 80, 3) := by decide +kernel
theorem d_Tr_copyFromNodes_100 : decode b_Tr_copyFromNodes 100 = .ok (.aload_n 0, 1) := by decide +kernel
theorem d_Tr_copyFromNodes_101 : decode b_Tr_copyFromNodes 101 = .ok (.getfield 36, 3) := by decide +kernel
theorem d_Tr_copyFromNodes_104 : decode b_Tr_copyFromNodes 104 = .ok (.aload_n 0, 1) := by decide +kernel
theorem d_Tr_copyFromNodes_105 : decode b_Tr_copyFromNodes 105 = .ok (.getfield 9, 3) := by decide +kernel
theorem d_Tr_copyFromNodes_108 : decode b_Tr_copyFromNodes 108 = .ok (.getfield 68, 3) := by decide +kernel
theorem d_Tr_copyFromNodes_111 : decode b_Tr_copyFromNodes 111 = .ok (.invokestatic 87, 3) := by decide +kernel
theorem d_Tr_copyFromNodes_114 : decode b_Tr_copyFromNodes 114 = .ok (.aload_n 0, 1) := by decide +kernel
theorem d_Tr_copyFromNodes_115 : decode b_Tr_copyFromNodes 115 = .ok (.getfield 25, 3) := by decide +kernel
theorem d_Tr_copyFromNodes_118 : decode b_Tr_copyFromNodes 118 = .ok (.invokevirtual 91, 3) := by decide +kernel
theorem d_Tr_copyFromNodes_121 : decode b_Tr_copyFromNodes 121 = .ok (.return_, 1) := by decide +kernel
theorem d_Tr_pairParts_0 : decode b_Tr_pairParts 0 = .ok (.aload_n 0, 1) := by decide +kernel
theorem d_Tr_pairParts_1 : decode b_Tr_pairParts 1 = .ok (.getfield 9, 3) := by decide +kernel
theorem d_Tr_pairParts_4 : decode b_Tr_pairParts 4 = .ok (.getfield 94, 3) := by decide +kernel
theorem d_Tr_pairParts_7 : decode b_Tr_pairParts 7 = .ok (.iload_n 1, 1) := by decide +kernel
theorem d_Tr_pairParts_8 : decode b_Tr_pairParts 8 = .ok (.iaload, 1) := by decide +kernel
theorem d_Tr_pairParts_9 : decode b_Tr_pairParts 9 = .ok (.iconst 4, 1) := by decide +kernel
theorem d_Tr_pairParts_10 : decode b_Tr_pairParts 10 = .ok (.if_icmp .eq 15, 3) := by decide +kernel
theorem d_Tr_pairParts_13 : decode b_Tr_pairParts 13 = .ok (.aload_n 0, 1) := by decide +kernel
theorem d_Tr_pairParts_14 : decode b_Tr_pairParts 14 = .ok (.getfield 9, 3) := by decide +kernel
theorem d_Tr_pairParts_17 : decode b_Tr_pairParts 17 = .ok (.iload_n 1, 1) := by decide +kernel
theorem d_Tr_pairParts_18 : decode b_Tr_pairParts 18 = .ok (.iload_n 2, 1) := by decide +kernel
theorem d_Tr_pairParts_19 : decode b_Tr_pairParts 19 = .ok (.invokevirtual 109, 3) := by decide +kernel
theorem d_Tr_pairParts_22 : decode b_Tr_pairParts 22 = .ok (.ifCond .ne 5, 3) := by decide +kernel
theorem d_Tr_pairParts_25 : decode b_Tr_pairParts 25 = .ok (.iconst 0, 1) := by decide +kernel
theorem d_Tr_pairParts_26 : decode b_Tr_pairParts 26 = .ok (.ireturn, 1) := by decide +kernel
theorem d_Tr_pairParts_27 : decode b_Tr_pairParts 27 = .ok (.iconst 0, 1) := by decide +kernel
theorem d_Tr_pairParts_28 : decode b_Tr_pairParts 28 = .ok (.istore_n 3, 1) := by decide +kernel
theorem d_Tr_pairParts_29 : decode b_Tr_pairParts 29 = .ok (.iload_n 3, 1) := by decide +kernel
theorem d_Tr_pairParts_30 : decode b_Tr_pairParts 30 = .ok (.aload_n 0, 1) := by decide +kernel
theorem d_Tr_pairParts_31 : decode b_Tr_pairParts 31 = .ok (.getfield 9, 3) := by decide +kernel
theorem d_Tr_pairParts_34 : decode b_Tr_pairParts 34 = .ok (.getfield 112, 3) := by decide +kernel
theorem d_Tr_pairParts_37 : decode b_Tr_pairParts 37 = .ok (.iload_n 1, 1) := by decide +kernel
theorem d_Tr_pairParts_38 : decode b_Tr_pairParts 38 = .ok (.iaload, 1) := by decide +kernel
theorem d_Tr_pairParts_39 : decode b_Tr_pairParts 39 = .ok (.if_icmp .ge 60, 3) := by decide +kernel
theorem d_Tr_pairParts_42 : decode b_Tr_pairParts 42 = .ok (.aload_n 0, 1) := by decide +kernel
theorem d_Tr_pairParts_43 : decode b_Tr_pairParts 43 = .ok (.getfield 18, 3) := by decide +kernel
theorem d_Tr_pairParts_46 : decode b_Tr_pairParts 46 = .ok (.aload_n 0, 1) := by decide +kernel
theorem d_Tr_pairParts_47 : decode b_Tr_pairParts 47 = .ok (.getfield 9, 3) := by decide +kernel
theorem d_Tr_pairParts_50 : decode b_Tr_pairParts 50 = .ok (.getfield 115, 3) := by decide +kernel
theorem d_Tr_pairParts_53 : decode b_Tr_pairParts 53 = .ok (.getfield 119, 3) := by decide +kernel
theorem d_Tr_pairParts_56 : decode b_Tr_pairParts 56 = .ok (.aload_n 0, 1) := by decide +kernel
theorem d_Tr_pairParts_57 : decode b_Tr_pairParts 57 = .ok (.getfield 9, 3) := by decide +kernel
theorem d_Tr_pairParts_60 : decode b_Tr_pairParts 60 = .ok (.getfield 124, 3) := by decide +kernel
theorem d_Tr_pairParts_63 : decode b_Tr_pairParts 63 = .ok (.iload_n 1, 1) := by decide +kernel
theorem d_Tr_pairParts_64 : decode b_Tr_pairParts 64 = .ok (.iaload, 1) := by decide +kernel
theorem d_Tr_pairParts_65 : decode b_Tr_pairParts 65 = .ok (.iload_n 3, 1) := by decide +kernel
theorem d_Tr_pairParts_66 : decode b_Tr_pairParts 66 = .ok (.iadd, 1) := by decide +kernel
theorem d_Tr_pairParts_67 : decode b_Tr_pairParts 67 = .ok (.iaload, 1) := by decide +kernel
theorem d_Tr_pairParts_68 : decode b_Tr_pairParts 68 = .ok (.aload_n 0, 1) := by decide +kernel
theorem d_Tr_pairParts_69 : decode b_Tr_pairParts 69 = .ok (.getfield 9, 3) := by decide +kernel
theorem d_Tr_pairParts_72 : decode b_Tr_pairParts 72 = .ok (.getfield 115, 3) := by decide +kernel
theorem d_Tr_pairParts_75 : decode b_Tr_pairParts 75 = .ok (.getfield 119, 3) := by decide +kernel
theorem d_Tr_pairParts_78 : decode b_Tr_pairParts 78 = .ok (.aload_n 0, 1) := by decide +kernel
theorem d_Tr_pairParts_79 : decode b_Tr_pairParts 79 = .ok (.getfield 9, 3) := by decide +kernel
theorem d_Tr_pairParts_82 : decode b_Tr_pairParts 82 = .ok (.getfield 124, 3) := by decide +kernel
theorem d_Tr_pairParts_85 : decode b_Tr_pairParts 85 = .ok (.iload_n 2, 1) := by decide +kernel
theorem d_Tr_pairParts_86 : decode b_Tr_pairParts 86 = .ok (.iaload, 1) := by decide +kernel
theorem d_Tr_pairParts_87 : decode b_Tr_pairParts 87 = .ok (.iload_n 3, 1) := by decide +kernel
theorem d_Tr_pairParts_88 : decode b_Tr_pairParts 88 = .ok (.iadd, 1) := by decide +kernel
theorem d_Tr_pairParts_89 : decode b_Tr_pairParts 89 = .ok (.iaload, 1) := by decide +kernel
theorem d_Tr_pairParts_90 : decode b_Tr_pairParts 90 = .ok (.invokevirtual 127, 3) := by decide +kernel
theorem d_Tr_pairParts_93 : decode b_Tr_pairParts 93 = .ok (.iinc 3 1, 3) := by decide +kernel
theorem d_Tr_pairParts_96 : decode b_Tr_pairParts 96 = .ok (.goto (-67), 3) := by decide +kernel
theorem d_Tr_pairParts_99 : decode b_Tr_pairParts 99 = .ok (.iconst 1, 1) := by decide +kernel
theorem d_Tr_pairParts_100 : decode b_Tr_pairParts 100 = .ok (.ireturn, 1) := by decide +kernel
theorem d_Tr_join_0 : decode b_Tr_join 0 = .ok (.iload_n 1, 1) := by decide +kernel
theorem d_Tr_join_1 : decode b_Tr_join 1 = .ok (.iload_n 2, 1) := by decide +kernel
theorem d_Tr_join_2 : decode b_Tr_join 2 = .ok (.if_icmp .ne 5, 3) := by decide +kernel
theorem d_Tr_join_5 : decode b_Tr_join 5 = .ok (.iconst 1, 1) := by decide +kernel
theorem d_Tr_join_6 : decode b_Tr_join 6 = .ok (.ireturn, 1) := by decide +kernel
theorem d_Tr_join_7 : decode b_Tr_join 7 = .ok (.aload_n 0, 1) := by decide +kernel
theorem d_Tr_join_8 : decode b_Tr_join 8 = .ok (.getfield 33, 3) := by decide +kernel
theorem d_Tr_join_11 : decode b_Tr_join 11 = .ok (.iload_n 1, 1) := by decide +kernel
theorem d_Tr_join_12 : decode b_Tr_join 12 = .ok (.iaload, 1) := by decide +kernel
theorem d_Tr_join_13 : decode b_Tr_join 13 = .ok (.istore_n 3, 1) := by decide +kernel
theorem d_Tr_join_14 : decode b_Tr_join 14 = .ok (.aload_n 0, 1) := by decide +kernel
theorem d_Tr_join_15 : decode b_Tr_join 15 = .ok (.getfield 33, 3) := by decide +kernel
theorem d_Tr_join_18 : decode b_Tr_join 18 = .ok (.iload_n 2, 1) := by decide +kernel
theorem d_Tr_join_19 : decode b_Tr_join 19 = .ok (.iaload, 1) := by decide +kernel
theorem d_Tr_join_20 : decode b_Tr_join 20 = .ok (.istore 4, 2) := by decide +kernel
theorem d_Tr_join_22 : decode b_Tr_join 22 = .ok (.aload_n 0, 1) := by decide +kernel
theorem d_Tr_join_23 : decode b_Tr_join 23 = .ok (.getfield 9, 3) := by decide +kernel
theorem d_Tr_join_26 : decode b_Tr_join 26 = .ok (.getfield 94, 3) := by decide +kernel
theorem d_Tr_join_29 : decode b_Tr_join 29 = .ok (.iload_n 3, 1) := by decide +kernel
theorem d_Tr_join_30 : decode b_Tr_join 30 = .ok (.iaload, 1) := by decide +kernel
theorem d_Tr_join_31 : decode b_Tr_join 31 = .ok (.ifCond .ne 7, 3) := by decide +kernel
theorem d_Tr_join_34 : decode b_Tr_join 34 = .ok (.iconst 1, 1) := by decide +kernel
theorem d_Tr_join_35 : decode b_Tr_join 35 = .ok (.goto 4, 3) := by decide +kernel
theorem d_Tr_join_38 : decode b_Tr_join 38 = .ok (.iconst 0, 1) := by decide +kernel
theorem d_Tr_join_39 : decode b_Tr_join 39 = .ok (.istore 5, 2) := by decide +kernel
theorem d_Tr_join_41 : decode b_Tr_join 41 = .ok (.aload_n 0, 1) := by decide +kernel
theorem d_Tr_join_42 : decode b_Tr_join 42 = .ok (.getfield 9, 3) := by decide +kernel
theorem d_Tr_join_45 : decode b_Tr_join 45 = .ok (.getfield 94, 3) := by decide +kernel
theorem d_Tr_join_48 : decode b_Tr_join 48 = .ok (.iload 4, 2) := by decide +kernel
theorem d_Tr_join_50 : decode b_Tr_join 50 = .ok (.iaload, 1) := by decide +kernel
theorem d_Tr_join_51 : decode b_Tr_join 51 = .ok (.ifCond .ne 7, 3) := by decide +kernel
theorem d_Tr_join_54 : decode b_Tr_join 54 = .ok (.iconst 1, 1) := by decide +kernel
theorem d_Tr_join_55 : decode b_Tr_join 55 = .ok (.goto 4, 3) := by decide +kernel
theorem d_Tr_join_58 : decode b_Tr_join 58 = .ok (.iconst 0, 1) := by decide +kernel
theorem d_Tr_join_59 : decode b_Tr_join 59 = .ok (.istore 6, 2) := by decide +kernel
theorem d_Tr_join_61 : decode b_Tr_join 61 = .ok (.iload 5, 2) := by decide +kernel
theorem d_Tr_join_63 : decode b_Tr_join 63 = .ok (.ifCond .ne 20, 3) := by decide +kernel
theorem d_Tr_join_66 : decode b_Tr_join 66 = .ok (.iload 6, 2) := by decide +kernel
theorem d_Tr_join_68 : decode b_Tr_join 68 = .ok (.ifCond .ne 15, 3) := by decide +kernel
theorem d_Tr_join_71 : decode b_Tr_join 71 = .ok (.aload_n 0, 1) := by decide +kernel
theorem d_Tr_join_72 : decode b_Tr_join 72 = .ok (.iload_n 3, 1) := by decide +kernel
theorem d_Tr_join_73 : decode b_Tr_join 73 = .ok (.iload 4, 2) := by decide +kernel
theorem d_Tr_join_75 : decode b_Tr_join 75 = .ok (.invokevirtual 97, 3) := by decide +kernel
theorem d_Tr_join_78 : decode b_Tr_join 78 = .ok (.ifCond .ne 5, 3) := by decide +kernel
theorem d_Tr_join_81 : decode b_Tr_join 81 = .ok (.iconst 0, 1) := by decide +kernel
theorem d_Tr_join_82 : decode b_Tr_join 82 = .ok (.ireturn, 1) := by decide +kernel
theorem d_Tr_join_83 : decode b_Tr_join 83 = .ok (.aload_n 0, 1) := by decide +kernel
theorem d_Tr_join_84 : decode b_Tr_join 84 = .ok (.getfield 36, 3) := by decide +kernel
theorem d_Tr_join_87 : decode b_Tr_join 87 = .ok (.iload_n 1, 1) := by decide +kernel
theorem d_Tr_join_88 : decode b_Tr_join 88 = .ok (.dup2, 1) := by decide +kernel
theorem d_Tr_join_89 : decode b_Tr_join 89 = .ok (.iaload, 1) := by decide +kernel
theorem d_Tr_join_90 : decode b_Tr_join 90 = .ok (.iload 5, 2) := by decide +kernel
theorem d_Tr_join_92 : decode b_Tr_join 92 = .ok (.ifCond .eq 7, 3) := by decide +kernel
theorem d_Tr_join_95 : decode b_Tr_join 95 = .ok (.iconst 1, 1) := by decide +kernel
theorem d_Tr_join_96 : decode b_Tr_join 96 = .ok (.goto 4, 3) := by decide +kernel
theorem d_Tr_join_99 : decode b_Tr_join 99 = .ok (.iconst 0, 1) := by decide +kernel
theorem d_Tr_join_100 : decode b_Tr_join 100 = .ok (.ior, 1) := by decide +kernel
theorem d_Tr_join_101 : decode b_Tr_join 101 = .ok (.iastore, 1) := by decide +kernel
theorem d_Tr_join_102 : decode b_Tr_join 102 = .ok (.aload_n 0, 1) := by decide +kernel
theorem d_Tr_join_103 : decode b_Tr_join 103 = .ok (.getfield 36, 3) := by decide +kernel
theorem d_Tr_join_106 : decode b_Tr_join 106 = .ok (.iload_n 2, 1) := by decide +kernel
theorem d_Tr_join_107 : decode b_Tr_join 107 = .ok (.dup2, 1) := by decide +kernel
theorem d_Tr_join_108 : decode b_Tr_join 108 = .ok (.iaload, 1) := by decide +kernel
theorem d_Tr_join_109 : decode b_Tr_join 109 = .ok (.iload 6, 2) := by decide +kernel
theorem d_Tr_join_111 : decode b_Tr_join 111 = .ok (.ifCond .eq 7, 3) := by decide +kernel
theorem d_Tr_join_114 : decode b_Tr_join 114 = .ok (.iconst 1, 1) := by decide +kernel
theorem d_Tr_join_115 : decode b_Tr_join 115 = .ok (.goto 4, 3) := by decide +kernel
theorem d_Tr_join_118 : decode b_Tr_join 118 = .ok (.iconst 0, 1) := by decide +kernel
theorem d_Tr_join_119 : decode b_Tr_join 119 = .ok (.ior, 1) := by decide +kernel
theorem d_Tr_join_120 : decode b_Tr_join 120 = .ok (.iastore, 1) := by decide +kernel
theorem d_Tr_join_121 : decode b_Tr_join 121 = .ok (.aload_n 0, 1) := by decide +kernel
theorem d_Tr_join_122 : decode b_Tr_join 122 = .ok (.getfield 29, 3) := by decide +kernel
theorem d_Tr_join_125 : decode b_Tr_join 125 = .ok (.iload_n 1, 1) := by decide +kernel
theorem d_Tr_join_126 : decode b_Tr_join 126 = .ok (.iload_n 2, 1) := by decide +kernel
theorem d_Tr_join_127 : decode b_Tr_join 127 = .ok (.invokestatic 100, 3) := by decide +kernel
theorem d_Tr_join_130 : decode b_Tr_join 130 = .ok (.iload_n 1, 1) := by decide +kernel
theorem d_Tr_join_131 : decode b_Tr_join 131 = .ok (.iload_n 2, 1) := by decide +kernel
theorem d_Tr_join_132 : decode b_Tr_join 132 = .ok (.invokestatic 106, 3) := by decide +kernel
theorem d_Tr_join_135 : decode b_Tr_join 135 = .ok (.iastore, 1) := by decide +kernel
theorem d_Tr_join_136 : decode b_Tr_join 136 = .ok (.aload_n 0, 1) := by decide +kernel
theorem d_Tr_join_137 : decode b_Tr_join 137 = .ok (.getfield 33, 3) := by decide +kernel
theorem d_Tr_join_140 : decode b_Tr_join 140 = .ok (.iload_n 1, 1) := by decide +kernel
theorem d_Tr_join_141 : decode b_Tr_join 141 = .ok (.iload_n 2, 1) := by decide +kernel
theorem d_Tr_join_142 : decode b_Tr_join 142 = .ok (.invokestatic 106, 3) := by decide +kernel
theorem d_Tr_join_145 : decode b_Tr_join 145 = .ok (.iload 5, 2) := by decide +kernel
theorem d_Tr_join_147 : decode b_Tr_join 147 = .ok (.ifCond .eq 8, 3) := by decide +kernel
theorem d_Tr_join_150 : decode b_Tr_join 150 = .ok (.iload 4, 2) := by decide +kernel
theorem d_Tr_join_152 : decode b_Tr_join 152 = .ok (.goto 4, 3) := by decide +kernel
theorem d_Tr_join_155 : decode b_Tr_join 155 = .ok (.iload_n 3, 1) := by decide +kernel
theorem d_Tr_join_156 : decode b_Tr_join 156 = .ok (.iastore, 1) := by decide +kernel
theorem d_Tr_join_157 : decode b_Tr_join 157 = .ok (.iconst 1, 1) := by decide +kernel
theorem d_Tr_join_158 : decode b_Tr_join 158 = .ok (.ireturn, 1) := by decide +kernel
theorem d_Tr_collectBound_0 : decode b_Tr_collectBound 0 = .ok (.iconst 0, 1) := by decide +kernel
theorem d_Tr_collectBound_1 : decode b_Tr_collectBound 1 = .ok (.istore_n 1, 1) := by decide +kernel
theorem d_Tr_collectBound_2 : decode b_Tr_collectBound 2 = .ok (.iload_n 1, 1) := by decide +kernel
theorem d_Tr_collectBound_3 : decode b_Tr_collectBound 3 = .ok (.aload_n 0, 1) := by decide +kernel
theorem d_Tr_collectBound_4 : decode b_Tr_collectBound 4 = .ok (.getfield 9, 3) := by decide +kernel
theorem d_Tr_collectBound_7 : decode b_Tr_collectBound 7 = .ok (.getfield 68, 3) := by decide +kernel
theorem d_Tr_collectBound_10 : decode b_Tr_collectBound 10 = .ok (.if_icmp .ge 27, 3) := by decide +kernel
theorem d_Tr_collectBound_13 : decode b_Tr_collectBound 13 = .ok (.aload_n 0, 1) := by decide +kernel
theorem d_Tr_collectBound_14 : decode b_Tr_collectBound 14 = .ok (.getfield 36, 3) := by decide +kernel
theorem d_Tr_collectBound_17 : decode b_Tr_collectBound 17 = .ok (.iload_n 1, 1) := by decide +kernel
theorem d_Tr_collectBound_18 : decode b_Tr_collectBound 18 = .ok (.iaload, 1) := by decide +kernel
theorem d_Tr_collectBound_19 : decode b_Tr_collectBound 19 = .ok (.iconst 1, 1) := by decide +kernel
theorem d_Tr_collectBound_20 : decode b_Tr_collectBound 20 = .ok (.if_icmp .ne 11, 3) := by decide +kernel
theorem d_Tr_collectBound_23 : decode b_Tr_collectBound 23 = .ok (.aload_n 0, 1) := by decide +kernel
theorem d_Tr_collectBound_24 : decode b_Tr_collectBound 24 = .ok (.getfield 25, 3) := by decide +kernel
theorem d_Tr_collectBound_27 : decode b_Tr_collectBound 27 = .ok (.iload_n 1, 1) := by decide +kernel
theorem d_Tr_collectBound_28 : decode b_Tr_collectBound 28 = .ok (.invokevirtual 130, 3) := by decide +kernel
theorem d_Tr_collectBound_31 : decode b_Tr_collectBound 31 = .ok (.iinc 1 1, 3) := by decide +kernel
theorem d_Tr_collectBound_34 : decode b_Tr_collectBound 34 = .ok (.goto (-32), 3) := by decide +kernel
theorem d_Tr_collectBound_37 : decode b_Tr_collectBound 37 = .ok (.return_, 1) := by decide +kernel
theorem d_Tr_equate_0 : decode b_Tr_equate 0 = .ok (.aload_n 0, 1) := by decide +kernel
theorem d_Tr_equate_1 : decode b_Tr_equate 1 = .ok (.invokevirtual 39, 3) := by decide +kernel
theorem d_Tr_equate_4 : decode b_Tr_equate 4 = .ok (.aload_n 0, 1) := by decide +kernel
theorem d_Tr_equate_5 : decode b_Tr_equate 5 = .ok (.getfield 18, 3) := by decide +kernel
theorem d_Tr_equate_8 : decode b_Tr_equate 8 = .ok (.iload_n 1, 1) := by decide +kernel
theorem d_Tr_equate_9 : decode b_Tr_equate 9 = .ok (.iload_n 2, 1) := by decide +kernel
theorem d_Tr_equate_10 : decode b_Tr_equate 10 = .ok (.invokevirtual 42, 3) := by decide +kernel
theorem d_Tr_equate_13 : decode b_Tr_equate 13 = .ok (.iconst 0, 1) := by decide +kernel
theorem d_Tr_equate_14 : decode b_Tr_equate 14 = .ok (.istore_n 3, 1) := by decide +kernel
theorem d_Tr_equate_15 : decode b_Tr_equate 15 = .ok (.iload_n 3, 1) := by decide +kernel
theorem d_Tr_equate_16 : decode b_Tr_equate 16 = .ok (.ldc 46, 2) := by decide +kernel
theorem d_Tr_equate_18 : decode b_Tr_equate 18 = .ok (.if_icmp .ge 61, 3) := by decide +kernel
theorem d_Tr_equate_21 : decode b_Tr_equate 21 = .ok (.iload_n 3, 1) := by decide +kernel
theorem d_Tr_equate_22 : decode b_Tr_equate 22 = .ok (.aload_n 0, 1) := by decide +kernel
theorem d_Tr_equate_23 : decode b_Tr_equate 23 = .ok (.getfield 18, 3) := by decide +kernel
theorem d_Tr_equate_26 : decode b_Tr_equate 26 = .ok (.getfield 47, 3) := by decide +kernel
theorem d_Tr_equate_29 : decode b_Tr_equate 29 = .ok (.if_icmp .ge 50, 3) := by decide +kernel
theorem d_Tr_equate_32 : decode b_Tr_equate 32 = .ok (.aload_n 0, 1) := by decide +kernel
theorem d_Tr_equate_33 : decode b_Tr_equate 33 = .ok (.aload_n 0, 1) := by decide +kernel
theorem d_Tr_equate_34 : decode b_Tr_equate 34 = .ok (.getfield 29, 3) := by decide +kernel
theorem d_Tr_equate_37 : decode b_Tr_equate 37 = .ok (.aload_n 0, 1) := by decide +kernel
theorem d_Tr_equate_38 : decode b_Tr_equate 38 = .ok (.getfield 18, 3) := by decide +kernel
theorem d_Tr_equate_41 : decode b_Tr_equate 41 = .ok (.getfield 51, 3) := by decide +kernel
theorem d_Tr_equate_44 : decode b_Tr_equate 44 = .ok (.iload_n 3, 1) := by decide +kernel
theorem d_Tr_equate_45 : decode b_Tr_equate 45 = .ok (.iaload, 1) := by decide +kernel
theorem d_Tr_equate_46 : decode b_Tr_equate 46 = .ok (.invokestatic 54, 3) := by decide +kernel
theorem d_Tr_equate_49 : decode b_Tr_equate 49 = .ok (.aload_n 0, 1) := by decide +kernel
theorem d_Tr_equate_50 : decode b_Tr_equate 50 = .ok (.getfield 29, 3) := by decide +kernel
theorem d_Tr_equate_53 : decode b_Tr_equate 53 = .ok (.aload_n 0, 1) := by decide +kernel
theorem d_Tr_equate_54 : decode b_Tr_equate 54 = .ok (.getfield 18, 3) := by decide +kernel
theorem d_Tr_equate_57 : decode b_Tr_equate 57 = .ok (.getfield 58, 3) := by decide +kernel
theorem d_Tr_equate_60 : decode b_Tr_equate 60 = .ok (.iload_n 3, 1) := by decide +kernel
theorem d_Tr_equate_61 : decode b_Tr_equate 61 = .ok (.iaload, 1) := by decide +kernel
theorem d_Tr_equate_62 : decode b_Tr_equate 62 = .ok (.invokestatic 54, 3) := by decide +kernel
theorem d_Tr_equate_65 : decode b_Tr_equate 65 = .ok (.invokevirtual 61, 3) := by decide +kernel
theorem d_Tr_equate_68 : decode b_Tr_equate 68 = .ok (.ifCond .ne 5, 3) := by decide +kernel
theorem d_Tr_equate_71 : decode b_Tr_equate 71 = .ok (.iconst 0, 1) := by decide +kernel
theorem d_Tr_equate_72 : decode b_Tr_equate 72 = .ok (.ireturn, 1) := by decide +kernel
theorem d_Tr_equate_73 : decode b_Tr_equate 73 = .ok (.iinc 3 1, 3) := by decide +kernel
theorem d_Tr_equate_76 : decode b_Tr_equate 76 = .ok (.goto (-61), 3) := by decide +kernel
theorem d_Tr_equate_79 : decode b_Tr_equate 79 = .ok (.aload_n 0, 1) := by decide +kernel
theorem d_Tr_equate_80 : decode b_Tr_equate 80 = .ok (.invokevirtual 65, 3) := by decide +kernel
theorem d_Tr_equate_83 : decode b_Tr_equate 83 = .ok (.iconst 1, 1) := by decide +kernel
theorem d_Tr_equate_84 : decode b_Tr_equate 84 = .ok (.ireturn, 1) := by decide +kernel
theorem d_Tr_keep_0 : decode b_Tr_keep 0 = .ok (.iconst 0, 1) := by decide +kernel
theorem d_Tr_keep_1 : decode b_Tr_keep 1 = .ok (.istore_n 1, 1) := by decide +kernel
theorem d_Tr_keep_2 : decode b_Tr_keep 2 = .ok (.iload_n 1, 1) := by decide +kernel
theorem d_Tr_keep_3 : decode b_Tr_keep 3 = .ok (.aload_n 0, 1) := by decide +kernel
theorem d_Tr_keep_4 : decode b_Tr_keep 4 = .ok (.getfield 9, 3) := by decide +kernel
theorem d_Tr_keep_7 : decode b_Tr_keep 7 = .ok (.getfield 68, 3) := by decide +kernel
theorem d_Tr_keep_10 : decode b_Tr_keep 10 = .ok (.if_icmp .ge 66, 3) := by decide +kernel
theorem d_Tr_keep_13 : decode b_Tr_keep 13 = .ok (.aload_n 0, 1) := by decide +kernel
theorem d_Tr_keep_14 : decode b_Tr_keep 14 = .ok (.getfield 29, 3) := by decide +kernel
theorem d_Tr_keep_17 : decode b_Tr_keep 17 = .ok (.iload_n 1, 1) := by decide +kernel
theorem d_Tr_keep_18 : decode b_Tr_keep 18 = .ok (.invokestatic 54, 3) := by decide +kernel
theorem d_Tr_keep_21 : decode b_Tr_keep 21 = .ok (.istore_n 2, 1) := by decide +kernel
theorem d_Tr_keep_22 : decode b_Tr_keep 22 = .ok (.aload_n 0, 1) := by decide +kernel
theorem d_Tr_keep_23 : decode b_Tr_keep 23 = .ok (.getfield 9, 3) := by decide +kernel
theorem d_Tr_keep_26 : decode b_Tr_keep 26 = .ok (.getfield 77, 3) := by decide +kernel
theorem d_Tr_keep_29 : decode b_Tr_keep 29 = .ok (.iload_n 1, 1) := by decide +kernel
theorem d_Tr_keep_30 : decode b_Tr_keep 30 = .ok (.iload_n 2, 1) := by decide +kernel
theorem d_Tr_keep_31 : decode b_Tr_keep 31 = .ok (.iastore, 1) := by decide +kernel
theorem d_Tr_keep_32 : decode b_Tr_keep 32 = .ok (.aload_n 0, 1) := by decide +kernel
theorem d_Tr_keep_33 : decode b_Tr_keep 33 = .ok (.getfield 9, 3) := by decide +kernel
theorem d_Tr_keep_36 : decode b_Tr_keep 36 = .ok (.getfield 86, 3) := by decide +kernel
theorem d_Tr_keep_39 : decode b_Tr_keep 39 = .ok (.iload_n 1, 1) := by decide +kernel
theorem d_Tr_keep_40 : decode b_Tr_keep 40 = .ok (.aload_n 0, 1) := by decide +kernel
theorem d_Tr_keep_41 : decode b_Tr_keep 41 = .ok (.getfield 33, 3) := by decide +kernel
theorem d_Tr_keep_44 : decode b_Tr_keep 44 = .ok (.iload_n 1, 1) := by decide +kernel
theorem d_Tr_keep_45 : decode b_Tr_keep 45 = .ok (.iaload, 1) := by decide +kernel
theorem d_Tr_keep_46 : decode b_Tr_keep 46 = .ok (.iastore, 1) := by decide +kernel
theorem d_Tr_keep_47 : decode b_Tr_keep 47 = .ok (.aload_n 0, 1) := by decide +kernel
theorem d_Tr_keep_48 : decode b_Tr_keep 48 = .ok (.getfield 9, 3) := by decide +kernel
theorem d_Tr_keep_51 : decode b_Tr_keep 51 = .ok (.getfield 133, 3) := by decide +kernel
theorem d_Tr_keep_54 : decode b_Tr_keep 54 = .ok (.iload_n 1, 1) := by decide +kernel
theorem d_Tr_keep_55 : decode b_Tr_keep 55 = .ok (.iaload, 1) := by decide +kernel
theorem d_Tr_keep_56 : decode b_Tr_keep 56 = .ok (.iconst 1, 1) := by decide +kernel
theorem d_Tr_keep_57 : decode b_Tr_keep 57 = .ok (.if_icmp .ne 13, 3) := by decide +kernel
theorem d_Tr_keep_60 : decode b_Tr_keep 60 = .ok (.aload_n 0, 1) := by decide +kernel
theorem d_Tr_keep_61 : decode b_Tr_keep 61 = .ok (.getfield 9, 3) := by decide +kernel
theorem d_Tr_keep_64 : decode b_Tr_keep 64 = .ok (.getfield 133, 3) := by decide +kernel
theorem d_Tr_keep_67 : decode b_Tr_keep 67 = .ok (.iload_n 2, 1) := by decide +kernel
theorem d_Tr_keep_68 : decode b_Tr_keep 68 = .ok (.iconst 1, 1) := by decide +kernel
theorem d_Tr_keep_69 : decode b_Tr_keep 69 = .ok (.iastore, 1) := by decide +kernel
theorem d_Tr_keep_70 : decode b_Tr_keep 70 = .ok (.iinc 1 1, 3) := by decide +kernel
theorem d_Tr_keep_73 : decode b_Tr_keep 73 = .ok (.goto (-71), 3) := by decide +kernel
theorem d_Tr_keep_76 : decode b_Tr_keep 76 = .ok (.return_, 1) := by decide +kernel
