theorem d_Lk_init_0 : decode b_Lk_init 0 = .ok (.aload_n 0, 1) := by decide +kernel
theorem d_Lk_init_1 : decode b_Lk_init 1 = .ok (.invokespecial 3, 3) := by decide +kernel
theorem d_Lk_init_4 : decode b_Lk_init 4 = .ok (.aload_n 0, 1) := by decide +kernel
theorem d_Lk_init_5 : decode b_Lk_init 5 = .ok (.aload_n 1, 1) := by decide +kernel
theorem d_Lk_init_6 : decode b_Lk_init 6 = .ok (.putfield 9, 3) := by decide +kernel
theorem d_Lk_init_9 : decode b_Lk_init 9 = .ok (.aload_n 0, 1) := by decide +kernel
theorem d_Lk_init_10 : decode b_Lk_init 10 = .ok (.new 15, 3) := by decide +kernel
theorem d_Lk_init_13 : decode b_Lk_init 13 = .ok (.dup, 1) := by decide +kernel
theorem d_Lk_init_14 : decode b_Lk_init 14 = .ok (.invokespecial 17, 3) := by decide +kernel
theorem d_Lk_init_17 : decode b_Lk_init 17 = .ok (.putfield 18, 3) := by decide +kernel
theorem d_Lk_init_20 : decode b_Lk_init 20 = .ok (.aload_n 0, 1) := by decide +kernel
theorem d_Lk_init_21 : decode b_Lk_init 21 = .ok (.bipush 16, 2) := by decide +kernel
theorem d_Lk_init_23 : decode b_Lk_init 23 = .ok (.newarray .int, 2) := by decide +kernel
theorem d_Lk_init_25 : decode b_Lk_init 25 = .ok (.putfield 22, 3) := by decide +kernel
theorem d_Lk_init_28 : decode b_Lk_init 28 = .ok (.aload_n 0, 1) := by decide +kernel
theorem d_Lk_init_29 : decode b_Lk_init 29 = .ok (.bipush 16, 2) := by decide +kernel
theorem d_Lk_init_31 : decode b_Lk_init 31 = .ok (.newarray .int, 2) := by decide +kernel
theorem d_Lk_init_33 : decode b_Lk_init 33 = .ok (.putfield 26, 3) := by decide +kernel
theorem d_Lk_init_36 : decode b_Lk_init 36 = .ok (.return_, 1) := by decide +kernel
theorem d_Lk_standApart_0 : decode b_Lk_standApart 0 = .ok (.iconst 2, 1) := by decide +kernel
theorem d_Lk_standApart_1 : decode b_Lk_standApart 1 = .ok (.aload_n 0, 1) := by decide +kernel
theorem d_Lk_standApart_2 : decode b_Lk_standApart 2 = .ok (.getfield 9, 3) := by decide +kernel
theorem d_Lk_standApart_5 : decode b_Lk_standApart 5 = .ok (.getfield 60, 3) := by decide +kernel
theorem d_Lk_standApart_8 : decode b_Lk_standApart 8 = .ok (.imul, 1) := by decide +kernel
theorem d_Lk_standApart_9 : decode b_Lk_standApart 9 = .ok (.istore_n 1, 1) := by decide +kernel
theorem d_Lk_standApart_10 : decode b_Lk_standApart 10 = .ok (.aload_n 0, 1) := by decide +kernel
theorem d_Lk_standApart_11 : decode b_Lk_standApart 11 = .ok (.aload_n 0, 1) := by decide +kernel
theorem d_Lk_standApart_12 : decode b_Lk_standApart 12 = .ok (.getfield 22, 3) := by decide +kernel
theorem d_Lk_standApart_15 : decode b_Lk_standApart 15 = .ok (.iload_n 1, 1) := by decide +kernel
theorem d_Lk_standApart_16 : decode b_Lk_standApart 16 = .ok (.invokestatic 63, 3) := by decide +kernel
theorem d_Lk_standApart_19 : decode b_Lk_standApart 19 = .ok (.putfield 22, 3) := by decide +kernel
theorem d_Lk_standApart_22 : decode b_Lk_standApart 22 = .ok (.aload_n 0, 1) := by decide +kernel
theorem d_Lk_standApart_23 : decode b_Lk_standApart 23 = .ok (.aload_n 0, 1) := by decide +kernel
theorem d_Lk_standApart_24 : decode b_Lk_standApart 24 = .ok (.getfield 26, 3) := by decide +kernel
theorem d_Lk_standApart_27 : decode b_Lk_standApart 27 = .ok (.iload_n 1, 1) := by decide +kernel
theorem d_Lk_standApart_28 : decode b_Lk_standApart 28 = .ok (.invokestatic 63, 3) := by decide +kernel
theorem d_Lk_standApart_31 : decode b_Lk_standApart 31 = .ok (.putfield 26, 3) := by decide +kernel
theorem d_Lk_standApart_34 : decode b_Lk_standApart 34 = .ok (.iconst 0, 1) := by decide +kernel
theorem d_Lk_standApart_35 : decode b_Lk_standApart 35 = .ok (.istore_n 2, 1) := by decide +kernel
theorem d_Lk_standApart_36 : decode b_Lk_standApart 36 = .ok (.iload_n 2, 1) := by decide +kernel
theorem d_Lk_standApart_37 : decode b_Lk_standApart 37 = .ok (.iload_n 1, 1) := by decide +kernel
theorem d_Lk_standApart_38 : decode b_Lk_standApart 38 = .ok (.if_icmp .ge 23, 3) := by decide +kernel
theorem d_Lk_standApart_41 : decode b_Lk_standApart 41 = .ok (.aload_n 0, 1) := by decide +kernel
theorem d_Lk_standApart_42 : decode b_Lk_standApart 42 = .ok (.getfield 22, 3) := by decide +kernel
theorem d_Lk_standApart_45 : decode b_Lk_standApart 45 = .ok (.iload_n 2, 1) := by decide +kernel
theorem d_Lk_standApart_46 : decode b_Lk_standApart 46 = .ok (.iload_n 2, 1) := by decide +kernel
theorem d_Lk_standApart_47 : decode b_Lk_standApart 47 = .ok (.iastore, 1) := by decide +kernel
theorem d_Lk_standApart_48 : decode b_Lk_standApart 48 = .ok (.aload_n 0, 1) := by decide +kernel
theorem d_Lk_standApart_49 : decode b_Lk_standApart 49 = .ok (.getfield 26, 3) := by decide +kernel
theorem d_Lk_standApart_52 : decode b_Lk_standApart 52 = .ok (.iload_n 2, 1) := by decide +kernel
theorem d_Lk_standApart_53 : decode b_Lk_standApart 53 = .ok (.iconst 0, 1) := by decide +kernel
theorem d_Lk_standApart_54 : decode b_Lk_standApart 54 = .ok (.iastore, 1) := by decide +kernel
theorem d_Lk_standApart_55 : decode b_Lk_standApart 55 = .ok (.iinc 2 1, 3) := by decide +kernel
theorem d_Lk_standApart_58 : decode b_Lk_standApart 58 = .ok (.goto (-22), 3) := by decide +kernel
theorem d_Lk_standApart_61 : decode b_Lk_standApart 61 = .ok (.return_, 1) := by decide +kernel
theorem d_Lk_give_0 : decode b_Lk_give 0 = .ok (.iload_n 1, 1) := by decide +kernel
theorem d_Lk_give_1 : decode b_Lk_give 1 = .ok (.iconst 1, 1) := by decide +kernel
theorem d_Lk_give_2 : decode b_Lk_give 2 = .ok (.iand, 1) := by decide +kernel
theorem d_Lk_give_3 : decode b_Lk_give 3 = .ok (.iload_n 2, 1) := by decide +kernel
theorem d_Lk_give_4 : decode b_Lk_give 4 = .ok (.iconst 1, 1) := by decide +kernel
theorem d_Lk_give_5 : decode b_Lk_give 5 = .ok (.iand, 1) := by decide +kernel
theorem d_Lk_give_6 : decode b_Lk_give 6 = .ok (.if_icmp .ne 7, 3) := by decide +kernel
theorem d_Lk_give_9 : decode b_Lk_give 9 = .ok (.iconst 1, 1) := by decide +kernel
theorem d_Lk_give_10 : decode b_Lk_give 10 = .ok (.goto 4, 3) := by decide +kernel
theorem d_Lk_give_13 : decode b_Lk_give 13 = .ok (.iconst 0, 1) := by decide +kernel
theorem d_Lk_give_14 : decode b_Lk_give 14 = .ok (.istore_n 3, 1) := by decide +kernel
theorem d_Lk_give_15 : decode b_Lk_give 15 = .ok (.iload_n 3, 1) := by decide +kernel
theorem d_Lk_give_16 : decode b_Lk_give 16 = .ok (.ifCond .ne 46, 3) := by decide +kernel
theorem d_Lk_give_19 : decode b_Lk_give 19 = .ok (.aload_n 0, 1) := by decide +kernel
theorem d_Lk_give_20 : decode b_Lk_give 20 = .ok (.getfield 26, 3) := by decide +kernel
theorem d_Lk_give_23 : decode b_Lk_give 23 = .ok (.iload_n 1, 1) := by decide +kernel
theorem d_Lk_give_24 : decode b_Lk_give 24 = .ok (.iaload, 1) := by decide +kernel
theorem d_Lk_give_25 : decode b_Lk_give 25 = .ok (.iconst 1, 1) := by decide +kernel
theorem d_Lk_give_26 : decode b_Lk_give 26 = .ok (.if_icmp .eq 36, 3) := by decide +kernel
theorem d_Lk_give_29 : decode b_Lk_give 29 = .ok (.aload_n 0, 1) := by decide +kernel
theorem d_Lk_give_30 : decode b_Lk_give 30 = .ok (.getfield 26, 3) := by decide +kernel
theorem d_Lk_give_33 : decode b_Lk_give 33 = .ok (.iload_n 2, 1) := by decide +kernel
theorem d_Lk_give_34 : decode b_Lk_give 34 = .ok (.iaload, 1) := by decide +kernel
theorem d_Lk_give_35 : decode b_Lk_give 35 = .ok (.iconst 1, 1) := by decide +kernel
theorem d_Lk_give_36 : decode b_Lk_give 36 = .ok (.if_icmp .eq 26, 3) := by decide +kernel
theorem d_Lk_give_39 : decode b_Lk_give 39 = .ok (.aload_n 0, 1) := by decide +kernel
theorem d_Lk_give_40 : decode b_Lk_give 40 = .ok (.getfield 9, 3) := by decide +kernel
theorem d_Lk_give_43 : decode b_Lk_give 43 = .ok (.iload_n 1, 1) := by decide +kernel
theorem d_Lk_give_44 : decode b_Lk_give 44 = .ok (.iconst 1, 1) := by decide +kernel
theorem d_Lk_give_45 : decode b_Lk_give 45 = .ok (.ishr, 1) := by decide +kernel
theorem d_Lk_give_46 : decode b_Lk_give 46 = .ok (.invokevirtual 101, 3) := by decide +kernel
theorem d_Lk_give_49 : decode b_Lk_give 49 = .ok (.aload_n 0, 1) := by decide +kernel
theorem d_Lk_give_50 : decode b_Lk_give 50 = .ok (.getfield 9, 3) := by decide +kernel
theorem d_Lk_give_53 : decode b_Lk_give 53 = .ok (.iload_n 2, 1) := by decide +kernel
theorem d_Lk_give_54 : decode b_Lk_give 54 = .ok (.iconst 1, 1) := by decide +kernel
theorem d_Lk_give_55 : decode b_Lk_give 55 = .ok (.ishr, 1) := by decide +kernel
theorem d_Lk_give_56 : decode b_Lk_give 56 = .ok (.invokevirtual 101, 3) := by decide +kernel
theorem d_Lk_give_59 : decode b_Lk_give 59 = .ok (.if_icmp .eq 5, 3) := by decide +kernel
theorem d_Lk_give_62 : decode b_Lk_give 62 = .ok (.iconst 0, 1) := by decide +kernel
theorem d_Lk_give_63 : decode b_Lk_give 63 = .ok (.ireturn, 1) := by decide +kernel
theorem d_Lk_give_64 : decode b_Lk_give 64 = .ok (.aload_n 0, 1) := by decide +kernel
theorem d_Lk_give_65 : decode b_Lk_give 65 = .ok (.getfield 26, 3) := by decide +kernel
theorem d_Lk_give_68 : decode b_Lk_give 68 = .ok (.iload_n 1, 1) := by decide +kernel
theorem d_Lk_give_69 : decode b_Lk_give 69 = .ok (.iconst 1, 1) := by decide +kernel
theorem d_Lk_give_70 : decode b_Lk_give 70 = .ok (.iastore, 1) := by decide +kernel
theorem d_Lk_give_71 : decode b_Lk_give 71 = .ok (.aload_n 0, 1) := by decide +kernel
theorem d_Lk_give_72 : decode b_Lk_give 72 = .ok (.getfield 26, 3) := by decide +kernel
theorem d_Lk_give_75 : decode b_Lk_give 75 = .ok (.iload_n 2, 1) := by decide +kernel
theorem d_Lk_give_76 : decode b_Lk_give 76 = .ok (.iconst 1, 1) := by decide +kernel
theorem d_Lk_give_77 : decode b_Lk_give 77 = .ok (.iastore, 1) := by decide +kernel
theorem d_Lk_give_78 : decode b_Lk_give 78 = .ok (.iconst 1, 1) := by decide +kernel
theorem d_Lk_give_79 : decode b_Lk_give 79 = .ok (.ireturn, 1) := by decide +kernel
theorem d_Lk_join_0 : decode b_Lk_join 0 = .ok (.iload_n 1, 1) := by decide +kernel
theorem d_Lk_join_1 : decode b_Lk_join 1 = .ok (.iload_n 2, 1) := by decide +kernel
theorem d_Lk_join_2 : decode b_Lk_join 2 = .ok (.if_icmp .ne 5, 3) := by decide +kernel
theorem d_Lk_join_5 : decode b_Lk_join 5 = .ok (.iconst 1, 1) := by decide +kernel
theorem d_Lk_join_6 : decode b_Lk_join 6 = .ok (.ireturn, 1) := by decide +kernel
theorem d_Lk_join_7 : decode b_Lk_join 7 = .ok (.aload_n 0, 1) := by decide +kernel
theorem d_Lk_join_8 : decode b_Lk_join 8 = .ok (.getfield 9, 3) := by decide +kernel
theorem d_Lk_join_11 : decode b_Lk_join 11 = .ok (.getfield 67, 3) := by decide +kernel
theorem d_Lk_join_14 : decode b_Lk_join 14 = .ok (.iload_n 1, 1) := by decide +kernel
theorem d_Lk_join_15 : decode b_Lk_join 15 = .ok (.iconst 1, 1) := by decide +kernel
theorem d_Lk_join_16 : decode b_Lk_join 16 = .ok (.ishr, 1) := by decide +kernel
theorem d_Lk_join_17 : decode b_Lk_join 17 = .ok (.iaload, 1) := by decide +kernel
theorem d_Lk_join_18 : decode b_Lk_join 18 = .ok (.istore_n 3, 1) := by decide +kernel
theorem d_Lk_join_19 : decode b_Lk_join 19 = .ok (.aload_n 0, 1) := by decide +kernel
theorem d_Lk_join_20 : decode b_Lk_join 20 = .ok (.getfield 9, 3) := by decide +kernel
theorem d_Lk_join_23 : decode b_Lk_join 23 = .ok (.getfield 67, 3) := by decide +kernel
theorem d_Lk_join_26 : decode b_Lk_join 26 = .ok (.iload_n 2, 1) := by decide +kernel
theorem d_Lk_join_27 : decode b_Lk_join 27 = .ok (.iconst 1, 1) := by decide +kernel
theorem d_Lk_join_28 : decode b_Lk_join 28 = .ok (.ishr, 1) := by decide +kernel
theorem d_Lk_join_29 : decode b_Lk_join 29 = .ok (.iaload, 1) := by decide +kernel
theorem d_Lk_join_30 : decode b_Lk_join 30 = .ok (.istore 4, 2) := by decide +kernel
theorem d_Lk_join_32 : decode b_Lk_join 32 = .ok (.aload_n 0, 1) := by decide +kernel
theorem d_Lk_join_33 : decode b_Lk_join 33 = .ok (.getfield 9, 3) := by decide +kernel
theorem d_Lk_join_36 : decode b_Lk_join 36 = .ok (.iload_n 3, 1) := by decide +kernel
theorem d_Lk_join_37 : decode b_Lk_join 37 = .ok (.iload 4, 2) := by decide +kernel
theorem d_Lk_join_39 : decode b_Lk_join 39 = .ok (.invokevirtual 70, 3) := by decide +kernel
theorem d_Lk_join_42 : decode b_Lk_join 42 = .ok (.ifCond .ne 5, 3) := by decide +kernel
theorem d_Lk_join_45 : decode b_Lk_join 45 = .ok (.iconst 0, 1) := by decide +kernel
theorem d_Lk_join_46 : decode b_Lk_join 46 = .ok (.ireturn, 1) := by decide +kernel
theorem d_Lk_join_47 : decode b_Lk_join 47 = .ok (.aload_n 0, 1) := by decide +kernel
theorem d_Lk_join_48 : decode b_Lk_join 48 = .ok (.getfield 9, 3) := by decide +kernel
theorem d_Lk_join_51 : decode b_Lk_join 51 = .ok (.getfield 73, 3) := by decide +kernel
theorem d_Lk_join_54 : decode b_Lk_join 54 = .ok (.iload_n 3, 1) := by decide +kernel
theorem d_Lk_join_55 : decode b_Lk_join 55 = .ok (.iaload, 1) := by decide +kernel
theorem d_Lk_join_56 : decode b_Lk_join 56 = .ok (.istore 5, 2) := by decide +kernel
theorem d_Lk_join_58 : decode b_Lk_join 58 = .ok (.iload 5, 2) := by decide +kernel
theorem d_Lk_join_60 : decode b_Lk_join 60 = .ok (.ifCond .eq 9, 3) := by decide +kernel
theorem d_Lk_join_63 : decode b_Lk_join 63 = .ok (.iload 5, 2) := by decide +kernel
theorem d_Lk_join_65 : decode b_Lk_join 65 = .ok (.iconst 4, 1) := by decide +kernel
theorem d_Lk_join_66 : decode b_Lk_join 66 = .ok (.if_icmp .ne 14, 3) := by decide +kernel
theorem d_Lk_join_69 : decode b_Lk_join 69 = .ok (.aload_n 0, 1) := by decide +kernel
theorem d_Lk_join_70 : decode b_Lk_join 70 = .ok (.iload_n 1, 1) := by decide +kernel
theorem d_Lk_join_71 : decode b_Lk_join 71 = .ok (.iload_n 2, 1) := by decide +kernel
theorem d_Lk_join_72 : decode b_Lk_join 72 = .ok (.invokevirtual 76, 3) := by decide +kernel
theorem d_Lk_join_75 : decode b_Lk_join 75 = .ok (.ifCond .ne 5, 3) := by decide +kernel
theorem d_Lk_join_78 : decode b_Lk_join 78 = .ok (.iconst 0, 1) := by decide +kernel
theorem d_Lk_join_79 : decode b_Lk_join 79 = .ok (.ireturn, 1) := by decide +kernel
theorem d_Lk_join_80 : decode b_Lk_join 80 = .ok (.aload_n 0, 1) := by decide +kernel
theorem d_Lk_join_81 : decode b_Lk_join 81 = .ok (.getfield 22, 3) := by decide +kernel
theorem d_Lk_join_84 : decode b_Lk_join 84 = .ok (.iload_n 1, 1) := by decide +kernel
theorem d_Lk_join_85 : decode b_Lk_join 85 = .ok (.iload_n 2, 1) := by decide +kernel
theorem d_Lk_join_86 : decode b_Lk_join 86 = .ok (.invokestatic 79, 3) := by decide +kernel
theorem d_Lk_join_89 : decode b_Lk_join 89 = .ok (.iload_n 1, 1) := by decide +kernel
theorem d_Lk_join_90 : decode b_Lk_join 90 = .ok (.iload_n 2, 1) := by decide +kernel
theorem d_Lk_join_91 : decode b_Lk_join 91 = .ok (.invokestatic 85, 3) := by decide +kernel
theorem d_Lk_join_94 : decode b_Lk_join 94 = .ok (.iastore, 1) := by decide +kernel
theorem d_Lk_join_95 : decode b_Lk_join 95 = .ok (.iconst 0, 1) := by decide +kernel
theorem d_Lk_join_96 : decode b_Lk_join 96 = .ok (.istore 6, 2) := by decide +kernel
theorem d_Lk_join_98 : decode b_Lk_join 98 = .ok (.iload 6, 2) := by decide +kernel
theorem d_Lk_join_100 : decode b_Lk_join 100 = .ok (.aload_n 0, 1) := by decide +kernel
theorem d_Lk_join_101 : decode b_Lk_join 101 = .ok (.getfield 9, 3) := by decide +kernel
theorem d_Lk_join_104 : decode b_Lk_join 104 = .ok (.getfield 88, 3) := by decide +kernel
theorem d_Lk_join_107 : decode b_Lk_join 107 = .ok (.iload_n 3, 1) := by decide +kernel
theorem d_Lk_join_108 : decode b_Lk_join 108 = .ok (.iaload, 1) := by decide +kernel
theorem d_Lk_join_109 : decode b_Lk_join 109 = .ok (.if_icmp .ge 75, 3) := by decide +kernel
theorem d_Lk_join_112 : decode b_Lk_join 112 = .ok (.aload_n 0, 1) := by decide +kernel
theorem d_Lk_join_113 : decode b_Lk_join 113 = .ok (.getfield 9, 3) := by decide +kernel
theorem d_Lk_join_116 : decode b_Lk_join 116 = .ok (.aload_n 0, 1) := by decide +kernel
theorem d_Lk_join_117 : decode b_Lk_join 117 = .ok (.getfield 9, 3) := by decide +kernel
theorem d_Lk_join_120 : decode b_Lk_join 120 = .ok (.getfield 91, 3) := by decide +kernel
theorem d_Lk_join_123 : decode b_Lk_join 123 = .ok (.iload_n 3, 1) := by decide +kernel
theorem d_Lk_join_124 : decode b_Lk_join 124 = .ok (.iaload, 1) := by decide +kernel
theorem d_Lk_join_125 : decode b_Lk_join 125 = .ok (.iload 6, 2) := by decide +kernel
theorem d_Lk_join_127 : decode b_Lk_join 127 = .ok (.iadd, 1) := by decide +kernel
theorem d_Lk_join_128 : decode b_Lk_join 128 = .ok (.invokevirtual 94, 3) := by decide +kernel
theorem d_Lk_join_131 : decode b_Lk_join 131 = .ok (.istore 7, 2) := by decide +kernel
theorem d_Lk_join_133 : decode b_Lk_join 133 = .ok (.aload_n 0, 1) := by decide +kernel
theorem d_Lk_join_134 : decode b_Lk_join 134 = .ok (.getfield 9, 3) := by decide +kernel
theorem d_Lk_join_137 : decode b_Lk_join 137 = .ok (.aload_n 0, 1) := by decide +kernel
theorem d_Lk_join_138 : decode b_Lk_join 138 = .ok (.getfield 9, 3) := by decide +kernel
theorem d_Lk_join_141 : decode b_Lk_join 141 = .ok (.getfield 91, 3) := by decide +kernel
theorem d_Lk_join_144 : decode b_Lk_join 144 = .ok (.iload 4, 2) := by decide +kernel
theorem d_Lk_join_146 : decode b_Lk_join 146 = .ok (.iaload, 1) := by decide +kernel
theorem d_Lk_join_147 : decode b_Lk_join 147 = .ok (.iload 6, 2) := by decide +kernel
theorem d_Lk_join_149 : decode b_Lk_join 149 = .ok (.iadd, 1) := by decide +kernel
theorem d_Lk_join_150 : decode b_Lk_join 150 = .ok (.invokevirtual 94, 3) := by decide +kernel
theorem d_Lk_join_153 : decode b_Lk_join 153 = .ok (.istore 8, 2) := by decide +kernel
theorem d_Lk_join_155 : decode b_Lk_join 155 = .ok (.aload_n 0, 1) := by decide +kernel
theorem d_Lk_join_156 : decode b_Lk_join 156 = .ok (.getfield 18, 3) := by decide +kernel
theorem d_Lk_join_159 : decode b_Lk_join 159 = .ok (.iconst 2, 1) := by decide +kernel
theorem d_Lk_join_160 : decode b_Lk_join 160 = .ok (.iload 7, 2) := by decide +kernel
theorem d_Lk_join_162 : decode b_Lk_join 162 = .ok (.imul, 1) := by decide +kernel
theorem d_Lk_join_163 : decode b_Lk_join 163 = .ok (.iload_n 1, 1) := by decide +kernel
theorem d_Lk_join_164 : decode b_Lk_join 164 = .ok (.iconst 1, 1) := by decide +kernel
theorem d_Lk_join_165 : decode b_Lk_join 165 = .ok (.iand, 1) := by decide +kernel
theorem d_Lk_join_166 : decode b_Lk_join 166 = .ok (.iadd, 1) := by decide +kernel
theorem d_Lk_join_167 : decode b_Lk_join 167 = .ok (.iconst 2, 1) := by decide +kernel
theorem d_Lk_join_168 : decode b_Lk_join 168 = .ok (.iload 8, 2) := by decide +kernel
theorem d_Lk_join_170 : decode b_Lk_join 170 = .ok (.imul, 1) := by decide +kernel
theorem d_Lk_join_171 : decode b_Lk_join 171 = .ok (.iload_n 2, 1) := by decide +kernel
theorem d_Lk_join_172 : decode b_Lk_join 172 = .ok (.iconst 1, 1) := by decide +kernel
theorem d_Lk_join_173 : decode b_Lk_join 173 = .ok (.iand, 1) := by decide +kernel
theorem d_Lk_join_174 : decode b_Lk_join 174 = .ok (.iadd, 1) := by decide +kernel
theorem d_Lk_join_175 : decode b_Lk_join 175 = .ok (.invokevirtual 98, 3) := by decide +kernel
theorem d_Lk_join_178 : decode b_Lk_join 178 = .ok (.iinc 6 1, 3) := by decide +kernel
theorem d_Lk_join_181 : decode b_Lk_join 181 = .ok (.goto (-83), 3) := by decide +kernel
theorem d_Lk_join_184 : decode b_Lk_join 184 = .ok (.iconst 1, 1) := by decide +kernel
theorem d_Lk_join_185 : decode b_Lk_join 185 = .ok (.ireturn, 1) := by decide +kernel
theorem d_Lk_alike_0 : decode b_Lk_alike 0 = .ok (.aload_n 0, 1) := by decide +kernel
theorem d_Lk_alike_1 : decode b_Lk_alike 1 = .ok (.invokevirtual 29, 3) := by decide +kernel
theorem d_Lk_alike_4 : decode b_Lk_alike 4 = .ok (.aload_n 0, 1) := by decide +kernel
theorem d_Lk_alike_5 : decode b_Lk_alike 5 = .ok (.getfield 18, 3) := by decide +kernel
theorem d_Lk_alike_8 : decode b_Lk_alike 8 = .ok (.iconst 2, 1) := by decide +kernel
theorem d_Lk_alike_9 : decode b_Lk_alike 9 = .ok (.aload_n 0, 1) := by decide +kernel
theorem d_Lk_alike_10 : decode b_Lk_alike 10 = .ok (.getfield 9, 3) := by decide +kernel
theorem d_Lk_alike_13 : decode b_Lk_alike 13 = .ok (.getfield 32, 3) := by decide +kernel
theorem d_Lk_alike_16 : decode b_Lk_alike 16 = .ok (.iload_n 1, 1) := by decide +kernel
theorem d_Lk_alike_17 : decode b_Lk_alike 17 = .ok (.iaload, 1) := by decide +kernel
theorem d_Lk_alike_18 : decode b_Lk_alike 18 = .ok (.imul, 1) := by decide +kernel
theorem d_Lk_alike_19 : decode b_Lk_alike 19 = .ok (.iconst 2, 1) := by decide +kernel
theorem d_Lk_alike_20 : decode b_Lk_alike 20 = .ok (.aload_n 0, 1) := by decide +kernel
theorem d_Lk_alike_21 : decode b_Lk_alike 21 = .ok (.getfield 9, 3) := by decide +kernel
theorem d_Lk_alike_24 : decode b_Lk_alike 24 = .ok (.getfield 32, 3) := by decide +kernel
theorem d_Lk_alike_27 : decode b_Lk_alike 27 = .ok (.iload_n 2, 1) := by decide +kernel
theorem d_Lk_alike_28 : decode b_Lk_alike 28 = .ok (.iaload, 1) := by decide +kernel
theorem d_Lk_alike_29 : decode b_Lk_alike 29 = .ok (.imul, 1) := by decide +kernel
theorem d_Lk_alike_30 : decode b_Lk_alike 30 = .ok (.iconst 1, 1) := by decide +kernel
theorem d_Lk_alike_31 : decode b_Lk_alike 31 = .ok (.iadd, 1) := by decide +kernel
theorem d_Lk_alike_32 : decode b_Lk_alike 32 = .ok (.invokevirtual 37, 3) := by decide +kernel
theorem d_Lk_alike_35 : decode b_Lk_alike 35 = .ok (.iconst 0, 1) := by decide +kernel
theorem d_Lk_alike_36 : decode b_Lk_alike 36 = .ok (.istore_n 3, 1) := by decide +kernel
theorem d_Lk_alike_37 : decode b_Lk_alike 37 = .ok (.iload_n 3, 1) := by decide +kernel
theorem d_Lk_alike_38 : decode b_Lk_alike 38 = .ok (.ldc 41, 2) := by decide +kernel
theorem d_Lk_alike_40 : decode b_Lk_alike 40 = .ok (.if_icmp .ge 61, 3) := by decide +kernel
theorem d_Lk_alike_43 : decode b_Lk_alike 43 = .ok (.iload_n 3, 1) := by decide +kernel
theorem d_Lk_alike_44 : decode b_Lk_alike 44 = .ok (.aload_n 0, 1) := by decide +kernel
theorem d_Lk_alike_45 : decode b_Lk_alike 45 = .ok (.getfield 18, 3) := by decide +kernel
theorem d_Lk_alike_48 : decode b_Lk_alike 48 = .ok (.getfield 42, 3) := by decide +kernel
theorem d_Lk_alike_51 : decode b_Lk_alike 51 = .ok (.if_icmp .ge 50, 3) := by decide +kernel
theorem d_Lk_alike_54 : decode b_Lk_alike 54 = .ok (.aload_n 0, 1) := by decide +kernel
theorem d_Lk_alike_55 : decode b_Lk_alike 55 = .ok (.aload_n 0, 1) := by decide +kernel
theorem d_Lk_alike_56 : decode b_Lk_alike 56 = .ok (.getfield 22, 3) := by decide +kernel
theorem d_Lk_alike_59 : decode b_Lk_alike 59 = .ok (.aload_n 0, 1) := by decide +kernel
theorem d_Lk_alike_60 : decode b_Lk_alike 60 = .ok (.getfield 18, 3) := by decide +kernel
theorem d_Lk_alike_63 : decode b_Lk_alike 63 = .ok (.getfield 46, 3) := by decide +kernel
theorem d_Lk_alike_66 : decode b_Lk_alike 66 = .ok (.iload_n 3, 1) := by decide +kernel
theorem d_Lk_alike_67 : decode b_Lk_alike 67 = .ok (.iaload, 1) := by decide +kernel
theorem d_Lk_alike_68 : decode b_Lk_alike 68 = .ok (.invokestatic 49, 3) := by decide +kernel
theorem d_Lk_alike_71 : decode b_Lk_alike 71 = .ok (.aload_n 0, 1) := by decide +kernel
theorem d_Lk_alike_72 : decode b_Lk_alike 72 = .ok (.getfield 22, 3) := by decide +kernel
theorem d_Lk_alike_75 : decode b_Lk_alike 75 = .ok (.aload_n 0, 1) := by decide +kernel
theorem d_Lk_alike_76 : decode b_Lk_alike 76 = .ok (.getfield 18, 3) := by decide +kernel
theorem d_Lk_alike_79 : decode b_Lk_alike 79 = .ok (.getfield 53, 3) := by decide +kernel
theorem d_Lk_alike_82 : decode b_Lk_alike 82 = .ok (.iload_n 3, 1) := by decide +kernel
theorem d_Lk_alike_83 : decode b_Lk_alike 83 = .ok (.iaload, 1) := by decide +kernel
theorem d_Lk_alike_84 : decode b_Lk_alike 84 = .ok (.invokestatic 49, 3) := by decide +kernel
theorem d_Lk_alike_87 : decode b_Lk_alike 87 = .ok (.invokevirtual 56, 3) := by decide +kernel
theorem d_Lk_alike_90 : decode b_Lk_alike 90 = .ok (.ifCond .ne 5, 3) := by decide +kernel
theorem d_Lk_alike_93 : decode b_Lk_alike 93 = .ok (.iconst 0, 1) := by decide +kernel
theorem d_Lk_alike_94 : decode b_Lk_alike 94 = .ok (.ireturn, 1) := by decide +kernel
theorem d_Lk_alike_95 : decode b_Lk_alike 95 = .ok (.iinc 3 1, 3) := by decide +kernel
theorem d_Lk_alike_98 : decode b_Lk_alike 98 = .ok (.goto (-61), 3) := by decide +kernel
theorem d_Lk_alike_101 : decode b_Lk_alike 101 = .ok (.iconst 1, 1) := by decide +kernel
theorem d_Lk_alike_102 : decode b_Lk_alike 102 = .ok (.ireturn, 1) := by decide +kernel
