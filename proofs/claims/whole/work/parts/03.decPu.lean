theorem d_Pu_init_0 : decode b_Pu_init 0 = .ok (.aload_n 0, 1) := by decide +kernel
theorem d_Pu_init_1 : decode b_Pu_init 1 = .ok (.invokespecial 3, 3) := by decide +kernel
theorem d_Pu_init_4 : decode b_Pu_init 4 = .ok (.aload_n 0, 1) := by decide +kernel
theorem d_Pu_init_5 : decode b_Pu_init 5 = .ok (.bipush 16, 2) := by decide +kernel
theorem d_Pu_init_7 : decode b_Pu_init 7 = .ok (.newarray .int, 2) := by decide +kernel
theorem d_Pu_init_9 : decode b_Pu_init 9 = .ok (.putfield 9, 3) := by decide +kernel
theorem d_Pu_init_12 : decode b_Pu_init 12 = .ok (.aload_n 0, 1) := by decide +kernel
theorem d_Pu_init_13 : decode b_Pu_init 13 = .ok (.bipush 16, 2) := by decide +kernel
theorem d_Pu_init_15 : decode b_Pu_init 15 = .ok (.newarray .int, 2) := by decide +kernel
theorem d_Pu_init_17 : decode b_Pu_init 17 = .ok (.putfield 15, 3) := by decide +kernel
theorem d_Pu_init_20 : decode b_Pu_init 20 = .ok (.aload_n 0, 1) := by decide +kernel
theorem d_Pu_init_21 : decode b_Pu_init 21 = .ok (.iconst 0, 1) := by decide +kernel
theorem d_Pu_init_22 : decode b_Pu_init 22 = .ok (.putfield 18, 3) := by decide +kernel
theorem d_Pu_init_25 : decode b_Pu_init 25 = .ok (.return_, 1) := by decide +kernel
theorem d_Pu_holds_0 : decode b_Pu_holds 0 = .ok (.iconst 0, 1) := by decide +kernel
theorem d_Pu_holds_1 : decode b_Pu_holds 1 = .ok (.istore_n 2, 1) := by decide +kernel
theorem d_Pu_holds_2 : decode b_Pu_holds 2 = .ok (.iload_n 2, 1) := by decide +kernel
theorem d_Pu_holds_3 : decode b_Pu_holds 3 = .ok (.aload_n 0, 1) := by decide +kernel
theorem d_Pu_holds_4 : decode b_Pu_holds 4 = .ok (.getfield 18, 3) := by decide +kernel
theorem d_Pu_holds_7 : decode b_Pu_holds 7 = .ok (.if_icmp .ge 21, 3) := by decide +kernel
theorem d_Pu_holds_10 : decode b_Pu_holds 10 = .ok (.aload_n 0, 1) := by decide +kernel
theorem d_Pu_holds_11 : decode b_Pu_holds 11 = .ok (.getfield 9, 3) := by decide +kernel
theorem d_Pu_holds_14 : decode b_Pu_holds 14 = .ok (.iload_n 2, 1) := by decide +kernel
theorem d_Pu_holds_15 : decode b_Pu_holds 15 = .ok (.iaload, 1) := by decide +kernel
theorem d_Pu_holds_16 : decode b_Pu_holds 16 = .ok (.iload_n 1, 1) := by decide +kernel
theorem d_Pu_holds_17 : decode b_Pu_holds 17 = .ok (.if_icmp .ne 5, 3) := by decide +kernel
theorem d_Pu_holds_20 : decode b_Pu_holds 20 = .ok (.iconst 1, 1) := by decide +kernel
theorem d_Pu_holds_21 : decode b_Pu_holds 21 = .ok (.ireturn, 1) := by decide +kernel
theorem d_Pu_holds_22 : decode b_Pu_holds 22 = .ok (.iinc 2 1, 3) := by decide +kernel
theorem d_Pu_holds_25 : decode b_Pu_holds 25 = .ok (.goto (-23), 3) := by decide +kernel
theorem d_Pu_holds_28 : decode b_Pu_holds 28 = .ok (.iconst 0, 1) := by decide +kernel
theorem d_Pu_holds_29 : decode b_Pu_holds 29 = .ok (.ireturn, 1) := by decide +kernel
theorem d_Pu_insert_0 : decode b_Pu_insert 0 = .ok (.aload_n 0, 1) := by decide +kernel
theorem d_Pu_insert_1 : decode b_Pu_insert 1 = .ok (.aload_n 0, 1) := by decide +kernel
theorem d_Pu_insert_2 : decode b_Pu_insert 2 = .ok (.getfield 9, 3) := by decide +kernel
theorem d_Pu_insert_5 : decode b_Pu_insert 5 = .ok (.aload_n 0, 1) := by decide +kernel
theorem d_Pu_insert_6 : decode b_Pu_insert 6 = .ok (.getfield 18, 3) := by decide +kernel
theorem d_Pu_insert_9 : decode b_Pu_insert 9 = .ok (.iconst 1, 1) := by decide +kernel
theorem d_Pu_insert_10 : decode b_Pu_insert 10 = .ok (.iadd, 1) := by decide +kernel
theorem d_Pu_insert_11 : decode b_Pu_insert 11 = .ok (.invokestatic 22, 3) := by decide +kernel
theorem d_Pu_insert_14 : decode b_Pu_insert 14 = .ok (.putfield 9, 3) := by decide +kernel
theorem d_Pu_insert_17 : decode b_Pu_insert 17 = .ok (.aload_n 0, 1) := by decide +kernel
theorem d_Pu_insert_18 : decode b_Pu_insert 18 = .ok (.aload_n 0, 1) := by decide +kernel
theorem d_Pu_insert_19 : decode b_Pu_insert 19 = .ok (.getfield 15, 3) := by decide +kernel
theorem d_Pu_insert_22 : decode b_Pu_insert 22 = .ok (.aload_n 0, 1) := by decide +kernel
theorem d_Pu_insert_23 : decode b_Pu_insert 23 = .ok (.getfield 18, 3) := by decide +kernel
theorem d_Pu_insert_26 : decode b_Pu_insert 26 = .ok (.iconst 1, 1) := by decide +kernel
theorem d_Pu_insert_27 : decode b_Pu_insert 27 = .ok (.iadd, 1) := by decide +kernel
theorem d_Pu_insert_28 : decode b_Pu_insert 28 = .ok (.invokestatic 22, 3) := by decide +kernel
theorem d_Pu_insert_31 : decode b_Pu_insert 31 = .ok (.putfield 15, 3) := by decide +kernel
theorem d_Pu_insert_34 : decode b_Pu_insert 34 = .ok (.aload_n 0, 1) := by decide +kernel
theorem d_Pu_insert_35 : decode b_Pu_insert 35 = .ok (.getfield 18, 3) := by decide +kernel
theorem d_Pu_insert_38 : decode b_Pu_insert 38 = .ok (.istore_n 3, 1) := by decide +kernel
theorem d_Pu_insert_39 : decode b_Pu_insert 39 = .ok (.iload_n 3, 1) := by decide +kernel
theorem d_Pu_insert_40 : decode b_Pu_insert 40 = .ok (.ifCond .le 55, 3) := by decide +kernel
theorem d_Pu_insert_43 : decode b_Pu_insert 43 = .ok (.aload_n 0, 1) := by decide +kernel
theorem d_Pu_insert_44 : decode b_Pu_insert 44 = .ok (.getfield 9, 3) := by decide +kernel
theorem d_Pu_insert_47 : decode b_Pu_insert 47 = .ok (.iload_n 3, 1) := by decide +kernel
theorem d_Pu_insert_48 : decode b_Pu_insert 48 = .ok (.iconst 1, 1) := by decide +kernel
theorem d_Pu_insert_49 : decode b_Pu_insert 49 = .ok (.isub, 1) := by decide +kernel
theorem d_Pu_insert_50 : decode b_Pu_insert 50 = .ok (.iaload, 1) := by decide +kernel
theorem d_Pu_insert_51 : decode b_Pu_insert 51 = .ok (.invokestatic 26, 3) := by decide +kernel
theorem d_Pu_insert_54 : decode b_Pu_insert 54 = .ok (.iload_n 1, 1) := by decide +kernel
theorem d_Pu_insert_55 : decode b_Pu_insert 55 = .ok (.invokestatic 26, 3) := by decide +kernel
theorem d_Pu_insert_58 : decode b_Pu_insert 58 = .ok (.if_icmp .le 37, 3) := by decide +kernel
theorem d_Pu_insert_61 : decode b_Pu_insert 61 = .ok (.aload_n 0, 1) := by decide +kernel
theorem d_Pu_insert_62 : decode b_Pu_insert 62 = .ok (.getfield 9, 3) := by decide +kernel
theorem d_Pu_insert_65 : decode b_Pu_insert 65 = .ok (.iload_n 3, 1) := by decide +kernel
theorem d_Pu_insert_66 : decode b_Pu_insert 66 = .ok (.aload_n 0, 1) := by decide +kernel
theorem d_Pu_insert_67 : decode b_Pu_insert 67 = .ok (.getfield 9, 3) := by decide +kernel
theorem d_Pu_insert_70 : decode b_Pu_insert 70 = .ok (.iload_n 3, 1) := by decide +kernel
theorem d_Pu_insert_71 : decode b_Pu_insert 71 = .ok (.iconst 1, 1) := by decide +kernel
theorem d_Pu_insert_72 : decode b_Pu_insert 72 = .ok (.isub, 1) := by decide +kernel
theorem d_Pu_insert_73 : decode b_Pu_insert 73 = .ok (.iaload, 1) := by decide +kernel
theorem d_Pu_insert_74 : decode b_Pu_insert 74 = .ok (.iastore, 1) := by decide +kernel
theorem d_Pu_insert_75 : decode b_Pu_insert 75 = .ok (.aload_n 0, 1) := by decide +kernel
theorem d_Pu_insert_76 : decode b_Pu_insert 76 = .ok (.getfield 15, 3) := by decide +kernel
theorem d_Pu_insert_79 : decode b_Pu_insert 79 = .ok (.iload_n 3, 1) := by decide +kernel
theorem d_Pu_insert_80 : decode b_Pu_insert 80 = .ok (.aload_n 0, 1) := by decide +kernel
theorem d_Pu_insert_81 : decode b_Pu_insert 81 = .ok (.getfield 15, 3) := by decide +kernel
theorem d_Pu_insert_84 : decode b_Pu_insert 84 = .ok (.iload_n 3, 1) := by decide +kernel
theorem d_Pu_insert_85 : decode b_Pu_insert 85 = .ok (.iconst 1, 1) := by decide +kernel
theorem d_Pu_insert_86 : decode b_Pu_insert 86 = .ok (.isub, 1) := by decide +kernel
theorem d_Pu_insert_87 : decode b_Pu_insert 87 = .ok (.iaload, 1) := by decide +kernel
theorem d_Pu_insert_88 : decode b_Pu_insert 88 = .ok (.iastore, 1) := by decide +kernel
theorem d_Pu_insert_89 : decode b_Pu_insert 89 = .ok (.iinc 3 (-1), 3) := by decide +kernel
theorem d_Pu_insert_92 : decode b_Pu_insert 92 = .ok (.goto (-53), 3) := by decide +kernel
theorem d_Pu_insert_95 : decode b_Pu_insert 95 = .ok (.aload_n 0, 1) := by decide +kernel
theorem d_Pu_insert_96 : decode b_Pu_insert 96 = .ok (.getfield 9, 3) := by decide +kernel
theorem d_Pu_insert_99 : decode b_Pu_insert 99 = .ok (.iload_n 3, 1) := by decide +kernel
theorem d_Pu_insert_100 : decode b_Pu_insert 100 = .ok (.iload_n 1, 1) := by decide +kernel
theorem d_Pu_insert_101 : decode b_Pu_insert 101 = .ok (.iastore, 1) := by decide +kernel
theorem d_Pu_insert_102 : decode b_Pu_insert 102 = .ok (.aload_n 0, 1) := by decide +kernel
theorem d_Pu_insert_103 : decode b_Pu_insert 103 = .ok (.getfield 15, 3) := by decide +kernel
theorem d_Pu_insert_106 : decode b_Pu_insert 106 = .ok (.iload_n 3, 1) := by decide +kernel
theorem d_Pu_insert_107 : decode b_Pu_insert 107 = .ok (.iload_n 2, 1) := by decide +kernel
theorem d_Pu_insert_108 : decode b_Pu_insert 108 = .ok (.iastore, 1) := by decide +kernel
theorem d_Pu_insert_109 : decode b_Pu_insert 109 = .ok (.aload_n 0, 1) := by decide +kernel
theorem d_Pu_insert_110 : decode b_Pu_insert 110 = .ok (.dup, 1) := by decide +kernel
theorem d_Pu_insert_111 : decode b_Pu_insert 111 = .ok (.getfield 18, 3) := by decide +kernel
theorem d_Pu_insert_114 : decode b_Pu_insert 114 = .ok (.iconst 1, 1) := by decide +kernel
theorem d_Pu_insert_115 : decode b_Pu_insert 115 = .ok (.iadd, 1) := by decide +kernel
theorem d_Pu_insert_116 : decode b_Pu_insert 116 = .ok (.putfield 18, 3) := by decide +kernel
theorem d_Pu_insert_119 : decode b_Pu_insert 119 = .ok (.return_, 1) := by decide +kernel
