theorem d_No_init_0 : decode b_No_init 0 = .ok (.aload_n 0, 1) := by decide +kernel
theorem d_No_init_1 : decode b_No_init 1 = .ok (.invokespecial 3, 3) := by decide +kernel
theorem d_No_init_4 : decode b_No_init 4 = .ok (.aload_n 0, 1) := by decide +kernel
theorem d_No_init_5 : decode b_No_init 5 = .ok (.bipush 16, 2) := by decide +kernel
theorem d_No_init_7 : decode b_No_init 7 = .ok (.newarray .int, 2) := by decide +kernel
theorem d_No_init_9 : decode b_No_init 9 = .ok (.putfield 9, 3) := by decide +kernel
theorem d_No_init_12 : decode b_No_init 12 = .ok (.aload_n 0, 1) := by decide +kernel
theorem d_No_init_13 : decode b_No_init 13 = .ok (.bipush 16, 2) := by decide +kernel
theorem d_No_init_15 : decode b_No_init 15 = .ok (.newarray .int, 2) := by decide +kernel
theorem d_No_init_17 : decode b_No_init 17 = .ok (.putfield 15, 3) := by decide +kernel
theorem d_No_init_20 : decode b_No_init 20 = .ok (.aload_n 0, 1) := by decide +kernel
theorem d_No_init_21 : decode b_No_init 21 = .ok (.bipush 16, 2) := by decide +kernel
theorem d_No_init_23 : decode b_No_init 23 = .ok (.newarray .int, 2) := by decide +kernel
theorem d_No_init_25 : decode b_No_init 25 = .ok (.putfield 18, 3) := by decide +kernel
theorem d_No_init_28 : decode b_No_init 28 = .ok (.aload_n 0, 1) := by decide +kernel
theorem d_No_init_29 : decode b_No_init 29 = .ok (.bipush 16, 2) := by decide +kernel
theorem d_No_init_31 : decode b_No_init 31 = .ok (.newarray .int, 2) := by decide +kernel
theorem d_No_init_33 : decode b_No_init 33 = .ok (.putfield 21, 3) := by decide +kernel
theorem d_No_init_36 : decode b_No_init 36 = .ok (.aload_n 0, 1) := by decide +kernel
theorem d_No_init_37 : decode b_No_init 37 = .ok (.bipush 16, 2) := by decide +kernel
theorem d_No_init_39 : decode b_No_init 39 = .ok (.newarray .int, 2) := by decide +kernel
theorem d_No_init_41 : decode b_No_init 41 = .ok (.putfield 24, 3) := by decide +kernel
theorem d_No_init_44 : decode b_No_init 44 = .ok (.aload_n 0, 1) := by decide +kernel
theorem d_No_init_45 : decode b_No_init 45 = .ok (.bipush 16, 2) := by decide +kernel
theorem d_No_init_47 : decode b_No_init 47 = .ok (.newarray .int, 2) := by decide +kernel
theorem d_No_init_49 : decode b_No_init 49 = .ok (.putfield 27, 3) := by decide +kernel
theorem d_No_init_52 : decode b_No_init 52 = .ok (.aload_n 0, 1) := by decide +kernel
theorem d_No_init_53 : decode b_No_init 53 = .ok (.bipush 16, 2) := by decide +kernel
theorem d_No_init_55 : decode b_No_init 55 = .ok (.newarray .int, 2) := by decide +kernel
theorem d_No_init_57 : decode b_No_init 57 = .ok (.putfield 30, 3) := by decide +kernel
theorem d_No_init_60 : decode b_No_init 60 = .ok (.aload_n 0, 1) := by decide +kernel
theorem d_No_init_61 : decode b_No_init 61 = .ok (.bipush 16, 2) := by decide +kernel
theorem d_No_init_63 : decode b_No_init 63 = .ok (.newarray .int, 2) := by decide +kernel
theorem d_No_init_65 : decode b_No_init 65 = .ok (.putfield 33, 3) := by decide +kernel
theorem d_No_init_68 : decode b_No_init 68 = .ok (.aload_n 0, 1) := by decide +kernel
theorem d_No_init_69 : decode b_No_init 69 = .ok (.iconst 0, 1) := by decide +kernel
theorem d_No_init_70 : decode b_No_init 70 = .ok (.putfield 36, 3) := by decide +kernel
theorem d_No_init_73 : decode b_No_init 73 = .ok (.aload_n 0, 1) := by decide +kernel
theorem d_No_init_74 : decode b_No_init 74 = .ok (.iconst 0, 1) := by decide +kernel
theorem d_No_init_75 : decode b_No_init 75 = .ok (.putfield 40, 3) := by decide +kernel
theorem d_No_init_78 : decode b_No_init 78 = .ok (.aload_n 0, 1) := by decide +kernel
theorem d_No_init_79 : decode b_No_init 79 = .ok (.iconst 0, 1) := by decide +kernel
theorem d_No_init_80 : decode b_No_init 80 = .ok (.putfield 43, 3) := by decide +kernel
theorem d_No_init_83 : decode b_No_init 83 = .ok (.aload_n 0, 1) := by decide +kernel
theorem d_No_init_84 : decode b_No_init 84 = .ok (.iconst 0, 1) := by decide +kernel
theorem d_No_init_85 : decode b_No_init 85 = .ok (.putfield 46, 3) := by decide +kernel
theorem d_No_init_88 : decode b_No_init 88 = .ok (.aload_n 0, 1) := by decide +kernel
theorem d_No_init_89 : decode b_No_init 89 = .ok (.new 49, 3) := by decide +kernel
theorem d_No_init_92 : decode b_No_init 92 = .ok (.dup, 1) := by decide +kernel
theorem d_No_init_93 : decode b_No_init 93 = .ok (.invokespecial 51, 3) := by decide +kernel
theorem d_No_init_96 : decode b_No_init 96 = .ok (.putfield 52, 3) := by decide +kernel
theorem d_No_init_99 : decode b_No_init 99 = .ok (.aload_n 0, 1) := by decide +kernel
theorem d_No_init_100 : decode b_No_init 100 = .ok (.new 56, 3) := by decide +kernel
theorem d_No_init_103 : decode b_No_init 103 = .ok (.dup, 1) := by decide +kernel
theorem d_No_init_104 : decode b_No_init 104 = .ok (.invokespecial 58, 3) := by decide +kernel
theorem d_No_init_107 : decode b_No_init 107 = .ok (.putfield 59, 3) := by decide +kernel
theorem d_No_init_110 : decode b_No_init 110 = .ok (.return_, 1) := by decide +kernel
theorem d_No_has_0 : decode b_No_has 0 = .ok (.iload_n 1, 1) := by decide +kernel
theorem d_No_has_1 : decode b_No_has 1 = .ok (.ifCond .lt 25, 3) := by decide +kernel
theorem d_No_has_4 : decode b_No_has 4 = .ok (.iload_n 1, 1) := by decide +kernel
theorem d_No_has_5 : decode b_No_has 5 = .ok (.aload_n 0, 1) := by decide +kernel
theorem d_No_has_6 : decode b_No_has 6 = .ok (.getfield 36, 3) := by decide +kernel
theorem d_No_has_9 : decode b_No_has 9 = .ok (.if_icmp .ge 17, 3) := by decide +kernel
theorem d_No_has_12 : decode b_No_has 12 = .ok (.aload_n 0, 1) := by decide +kernel
theorem d_No_has_13 : decode b_No_has 13 = .ok (.getfield 9, 3) := by decide +kernel
theorem d_No_has_16 : decode b_No_has 16 = .ok (.iload_n 1, 1) := by decide +kernel
theorem d_No_has_17 : decode b_No_has 17 = .ok (.iaload, 1) := by decide +kernel
theorem d_No_has_18 : decode b_No_has 18 = .ok (.iconst (-1), 1) := by decide +kernel
theorem d_No_has_19 : decode b_No_has 19 = .ok (.if_icmp .eq 7, 3) := by decide +kernel
theorem d_No_has_22 : decode b_No_has 22 = .ok (.iconst 1, 1) := by decide +kernel
theorem d_No_has_23 : decode b_No_has 23 = .ok (.goto 4, 3) := by decide +kernel
theorem d_No_has_26 : decode b_No_has 26 = .ok (.iconst 0, 1) := by decide +kernel
theorem d_No_has_27 : decode b_No_has 27 = .ok (.ireturn, 1) := by decide +kernel
theorem d_No_kindOf_0 : decode b_No_kindOf 0 = .ok (.aload_n 0, 1) := by decide +kernel
theorem d_No_kindOf_1 : decode b_No_kindOf 1 = .ok (.getfield 9, 3) := by decide +kernel
theorem d_No_kindOf_4 : decode b_No_kindOf 4 = .ok (.aload_n 0, 1) := by decide +kernel
theorem d_No_kindOf_5 : decode b_No_kindOf 5 = .ok (.getfield 27, 3) := by decide +kernel
theorem d_No_kindOf_8 : decode b_No_kindOf 8 = .ok (.aload_n 0, 1) := by decide +kernel
theorem d_No_kindOf_9 : decode b_No_kindOf 9 = .ok (.getfield 24, 3) := by decide +kernel
theorem d_No_kindOf_12 : decode b_No_kindOf 12 = .ok (.iload_n 1, 1) := by decide +kernel
theorem d_No_kindOf_13 : decode b_No_kindOf 13 = .ok (.iaload, 1) := by decide +kernel
theorem d_No_kindOf_14 : decode b_No_kindOf 14 = .ok (.iaload, 1) := by decide +kernel
theorem d_No_kindOf_15 : decode b_No_kindOf 15 = .ok (.iaload, 1) := by decide +kernel
theorem d_No_kindOf_16 : decode b_No_kindOf 16 = .ok (.ireturn, 1) := by decide +kernel
theorem d_No_isNeeded_0 : decode b_No_isNeeded 0 = .ok (.aload_n 0, 1) := by decide +kernel
theorem d_No_isNeeded_1 : decode b_No_isNeeded 1 = .ok (.iload_n 1, 1) := by decide +kernel
theorem d_No_isNeeded_2 : decode b_No_isNeeded 2 = .ok (.invokevirtual 63, 3) := by decide +kernel
theorem d_No_isNeeded_5 : decode b_No_isNeeded 5 = .ok (.ifCond .ne 18, 3) := by decide +kernel
theorem d_No_isNeeded_8 : decode b_No_isNeeded 8 = .ok (.aload_n 0, 1) := by decide +kernel
theorem d_No_isNeeded_9 : decode b_No_isNeeded 9 = .ok (.getfield 30, 3) := by decide +kernel
theorem d_No_isNeeded_12 : decode b_No_isNeeded 12 = .ok (.aload_n 0, 1) := by decide +kernel
theorem d_No_isNeeded_13 : decode b_No_isNeeded 13 = .ok (.getfield 24, 3) := by decide +kernel
theorem d_No_isNeeded_16 : decode b_No_isNeeded 16 = .ok (.iload_n 1, 1) := by decide +kernel
theorem d_No_isNeeded_17 : decode b_No_isNeeded 17 = .ok (.iaload, 1) := by decide +kernel
theorem d_No_isNeeded_18 : decode b_No_isNeeded 18 = .ok (.iaload, 1) := by decide +kernel
theorem d_No_isNeeded_19 : decode b_No_isNeeded 19 = .ok (.iconst 1, 1) := by decide +kernel
theorem d_No_isNeeded_20 : decode b_No_isNeeded 20 = .ok (.if_icmp .ne 7, 3) := by decide +kernel
theorem d_No_isNeeded_23 : decode b_No_isNeeded 23 = .ok (.iconst 1, 1) := by decide +kernel
theorem d_No_isNeeded_24 : decode b_No_isNeeded 24 = .ok (.goto 4, 3) := by decide +kernel
theorem d_No_isNeeded_27 : decode b_No_isNeeded 27 = .ok (.iconst 0, 1) := by decide +kernel
theorem d_No_isNeeded_28 : decode b_No_isNeeded 28 = .ok (.ireturn, 1) := by decide +kernel
theorem d_No_lowestFree_0 : decode b_No_lowestFree 0 = .ok (.aload_n 0, 1) := by decide +kernel
theorem d_No_lowestFree_1 : decode b_No_lowestFree 1 = .ok (.getfield 40, 3) := by decide +kernel
theorem d_No_lowestFree_4 : decode b_No_lowestFree 4 = .ok (.istore_n 1, 1) := by decide +kernel
theorem d_No_lowestFree_5 : decode b_No_lowestFree 5 = .ok (.iload_n 1, 1) := by decide +kernel
theorem d_No_lowestFree_6 : decode b_No_lowestFree 6 = .ok (.aload_n 0, 1) := by decide +kernel
theorem d_No_lowestFree_7 : decode b_No_lowestFree 7 = .ok (.getfield 36, 3) := by decide +kernel
theorem d_No_lowestFree_10 : decode b_No_lowestFree 10 = .ok (.if_icmp .ge 19, 3) := by decide +kernel
theorem d_No_lowestFree_13 : decode b_No_lowestFree 13 = .ok (.aload_n 0, 1) := by decide +kernel
theorem d_No_lowestFree_14 : decode b_No_lowestFree 14 = .ok (.getfield 9, 3) := by decide +kernel
theorem d_No_lowestFree_17 : decode b_No_lowestFree 17 = .ok (.iload_n 1, 1) := by decide +kernel
theorem d_No_lowestFree_18 : decode b_No_lowestFree 18 = .ok (.iaload, 1) := by decide +kernel
theorem d_No_lowestFree_19 : decode b_No_lowestFree 19 = .ok (.iconst (-1), 1) := by decide +kernel
theorem d_No_lowestFree_20 : decode b_No_lowestFree 20 = .ok (.if_icmp .eq 9, 3) := by decide +kernel
theorem d_No_lowestFree_23 : decode b_No_lowestFree 23 = .ok (.iinc 1 1, 3) := by decide +kernel
theorem d_No_lowestFree_26 : decode b_No_lowestFree 26 = .ok (.goto (-21), 3) := by decide +kernel
theorem d_No_lowestFree_29 : decode b_No_lowestFree 29 = .ok (.iload_n 1, 1) := by decide +kernel
theorem d_No_lowestFree_30 : decode b_No_lowestFree 30 = .ok (.ireturn, 1) := by decide +kernel
theorem d_No_makeRoom_0 : decode b_No_makeRoom 0 = .ok (.aload_n 0, 1) := by decide +kernel
theorem d_No_makeRoom_1 : decode b_No_makeRoom 1 = .ok (.aload_n 0, 1) := by decide +kernel
theorem d_No_makeRoom_2 : decode b_No_makeRoom 2 = .ok (.getfield 9, 3) := by decide +kernel
theorem d_No_makeRoom_5 : decode b_No_makeRoom 5 = .ok (.iload_n 1, 1) := by decide +kernel
theorem d_No_makeRoom_6 : decode b_No_makeRoom 6 = .ok (.invokestatic 105, 3) := by decide +kernel
theorem d_No_makeRoom_9 : decode b_No_makeRoom 9 = .ok (.putfield 9, 3) := by decide +kernel
theorem d_No_makeRoom_12 : decode b_No_makeRoom 12 = .ok (.aload_n 0, 1) := by decide +kernel
theorem d_No_makeRoom_13 : decode b_No_makeRoom 13 = .ok (.aload_n 0, 1) := by decide +kernel
theorem d_No_makeRoom_14 : decode b_No_makeRoom 14 = .ok (.getfield 15, 3) := by decide +kernel
theorem d_No_makeRoom_17 : decode b_No_makeRoom 17 = .ok (.iload_n 1, 1) := by decide +kernel
theorem d_No_makeRoom_18 : decode b_No_makeRoom 18 = .ok (.invokestatic 105, 3) := by decide +kernel
theorem d_No_makeRoom_21 : decode b_No_makeRoom 21 = .ok (.putfield 15, 3) := by decide +kernel
theorem d_No_makeRoom_24 : decode b_No_makeRoom 24 = .ok (.aload_n 0, 1) := by decide +kernel
theorem d_No_makeRoom_25 : decode b_No_makeRoom 25 = .ok (.aload_n 0, 1) := by decide +kernel
theorem d_No_makeRoom_26 : decode b_No_makeRoom 26 = .ok (.getfield 18, 3) := by decide +kernel
theorem d_No_makeRoom_29 : decode b_No_makeRoom 29 = .ok (.iload_n 1, 1) := by decide +kernel
theorem d_No_makeRoom_30 : decode b_No_makeRoom 30 = .ok (.invokestatic 105, 3) := by decide +kernel
theorem d_No_makeRoom_33 : decode b_No_makeRoom 33 = .ok (.putfield 18, 3) := by decide +kernel
theorem d_No_makeRoom_36 : decode b_No_makeRoom 36 = .ok (.aload_n 0, 1) := by decide +kernel
theorem d_No_makeRoom_37 : decode b_No_makeRoom 37 = .ok (.aload_n 0, 1) := by decide +kernel
theorem d_No_makeRoom_38 : decode b_No_makeRoom 38 = .ok (.getfield 21, 3) := by decide +kernel
theorem d_No_makeRoom_41 : decode b_No_makeRoom 41 = .ok (.iload_n 1, 1) := by decide +kernel
theorem d_No_makeRoom_42 : decode b_No_makeRoom 42 = .ok (.invokestatic 105, 3) := by decide +kernel
theorem d_No_makeRoom_45 : decode b_No_makeRoom 45 = .ok (.putfield 21, 3) := by decide +kernel
theorem d_No_makeRoom_48 : decode b_No_makeRoom 48 = .ok (.aload_n 0, 1) := by decide +kernel
theorem d_No_makeRoom_49 : decode b_No_makeRoom 49 = .ok (.aload_n 0, 1) := by decide +kernel
theorem d_No_makeRoom_50 : decode b_No_makeRoom 50 = .ok (.getfield 24, 3) := by decide +kernel
theorem d_No_makeRoom_53 : decode b_No_makeRoom 53 = .ok (.iload_n 1, 1) := by decide +kernel
theorem d_No_makeRoom_54 : decode b_No_makeRoom 54 = .ok (.invokestatic 105, 3) := by decide +kernel
theorem d_No_makeRoom_57 : decode b_No_makeRoom 57 = .ok (.putfield 24, 3) := by decide +kernel
theorem d_No_makeRoom_60 : decode b_No_makeRoom 60 = .ok (.aload_n 0, 1) := by decide +kernel
theorem d_No_makeRoom_61 : decode b_No_makeRoom 61 = .ok (.aload_n 0, 1) := by decide +kernel
theorem d_No_makeRoom_62 : decode b_No_makeRoom 62 = .ok (.getfield 27, 3) := by decide +kernel
theorem d_No_makeRoom_65 : decode b_No_makeRoom 65 = .ok (.iload_n 1, 1) := by decide +kernel
theorem d_No_makeRoom_66 : decode b_No_makeRoom 66 = .ok (.invokestatic 105, 3) := by decide +kernel
theorem d_No_makeRoom_69 : decode b_No_makeRoom 69 = .ok (.putfield 27, 3) := by decide +kernel
theorem d_No_makeRoom_72 : decode b_No_makeRoom 72 = .ok (.aload_n 0, 1) := by decide +kernel
theorem d_No_makeRoom_73 : decode b_No_makeRoom 73 = .ok (.aload_n 0, 1) := by decide +kernel
theorem d_No_makeRoom_74 : decode b_No_makeRoom 74 = .ok (.getfield 30, 3) := by decide +kernel
theorem d_No_makeRoom_77 : decode b_No_makeRoom 77 = .ok (.iload_n 1, 1) := by decide +kernel
theorem d_No_makeRoom_78 : decode b_No_makeRoom 78 = .ok (.invokestatic 105, 3) := by decide +kernel
theorem d_No_makeRoom_81 : decode b_No_makeRoom 81 = .ok (.putfield 30, 3) := by decide +kernel
theorem d_No_makeRoom_84 : decode b_No_makeRoom 84 = .ok (.aload_n 0, 1) := by decide +kernel
theorem d_No_makeRoom_85 : decode b_No_makeRoom 85 = .ok (.aload_n 0, 1) := by decide +kernel
theorem d_No_makeRoom_86 : decode b_No_makeRoom 86 = .ok (.getfield 33, 3) := by decide +kernel
theorem d_No_makeRoom_89 : decode b_No_makeRoom 89 = .ok (.iload_n 1, 1) := by decide +kernel
theorem d_No_makeRoom_90 : decode b_No_makeRoom 90 = .ok (.invokestatic 105, 3) := by decide +kernel
theorem d_No_makeRoom_93 : decode b_No_makeRoom 93 = .ok (.putfield 33, 3) := by decide +kernel
theorem d_No_makeRoom_96 : decode b_No_makeRoom 96 = .ok (.return_, 1) := by decide +kernel
theorem d_No_dropMarks_0 : decode b_No_dropMarks 0 = .ok (.aload_n 0, 1) := by decide +kernel
theorem d_No_dropMarks_1 : decode b_No_dropMarks 1 = .ok (.getfield 46, 3) := by decide +kernel
theorem d_No_dropMarks_4 : decode b_No_dropMarks 4 = .ok (.ifCond .le 19, 3) := by decide +kernel
theorem d_No_dropMarks_7 : decode b_No_dropMarks 7 = .ok (.aload_n 0, 1) := by decide +kernel
theorem d_No_dropMarks_8 : decode b_No_dropMarks 8 = .ok (.getfield 33, 3) := by decide +kernel
theorem d_No_dropMarks_11 : decode b_No_dropMarks 11 = .ok (.aload_n 0, 1) := by decide +kernel
theorem d_No_dropMarks_12 : decode b_No_dropMarks 12 = .ok (.getfield 36, 3) := by decide +kernel
theorem d_No_dropMarks_15 : decode b_No_dropMarks 15 = .ok (.invokestatic 119, 3) := by decide +kernel
theorem d_No_dropMarks_18 : decode b_No_dropMarks 18 = .ok (.aload_n 0, 1) := by decide +kernel
theorem d_No_dropMarks_19 : decode b_No_dropMarks 19 = .ok (.iconst 0, 1) := by decide +kernel
theorem d_No_dropMarks_20 : decode b_No_dropMarks 20 = .ok (.putfield 46, 3) := by decide +kernel
theorem d_No_dropMarks_23 : decode b_No_dropMarks 23 = .ok (.return_, 1) := by decide +kernel
theorem d_No_vacate_0 : decode b_No_vacate 0 = .ok (.aload_n 0, 1) := by decide +kernel
theorem d_No_vacate_1 : decode b_No_vacate 1 = .ok (.getfield 9, 3) := by decide +kernel
theorem d_No_vacate_4 : decode b_No_vacate 4 = .ok (.iload_n 1, 1) := by decide +kernel
theorem d_No_vacate_5 : decode b_No_vacate 5 = .ok (.iconst (-1), 1) := by decide +kernel
theorem d_No_vacate_6 : decode b_No_vacate 6 = .ok (.iastore, 1) := by decide +kernel
theorem d_No_vacate_7 : decode b_No_vacate 7 = .ok (.aload_n 0, 1) := by decide +kernel
theorem d_No_vacate_8 : decode b_No_vacate 8 = .ok (.getfield 15, 3) := by decide +kernel
theorem d_No_vacate_11 : decode b_No_vacate 11 = .ok (.iload_n 1, 1) := by decide +kernel
theorem d_No_vacate_12 : decode b_No_vacate 12 = .ok (.iconst 0, 1) := by decide +kernel
theorem d_No_vacate_13 : decode b_No_vacate 13 = .ok (.iastore, 1) := by decide +kernel
theorem d_No_vacate_14 : decode b_No_vacate 14 = .ok (.aload_n 0, 1) := by decide +kernel
theorem d_No_vacate_15 : decode b_No_vacate 15 = .ok (.getfield 18, 3) := by decide +kernel
theorem d_No_vacate_18 : decode b_No_vacate 18 = .ok (.iload_n 1, 1) := by decide +kernel
theorem d_No_vacate_19 : decode b_No_vacate 19 = .ok (.iconst 0, 1) := by decide +kernel
theorem d_No_vacate_20 : decode b_No_vacate 20 = .ok (.iastore, 1) := by decide +kernel
theorem d_No_vacate_21 : decode b_No_vacate 21 = .ok (.aload_n 0, 1) := by decide +kernel
theorem d_No_vacate_22 : decode b_No_vacate 22 = .ok (.getfield 21, 3) := by decide +kernel
theorem d_No_vacate_25 : decode b_No_vacate 25 = .ok (.iload_n 1, 1) := by decide +kernel
theorem d_No_vacate_26 : decode b_No_vacate 26 = .ok (.iconst 0, 1) := by decide +kernel
theorem d_No_vacate_27 : decode b_No_vacate 27 = .ok (.iastore, 1) := by decide +kernel
theorem d_No_vacate_28 : decode b_No_vacate 28 = .ok (.aload_n 0, 1) := by decide +kernel
theorem d_No_vacate_29 : decode b_No_vacate 29 = .ok (.getfield 24, 3) := by decide +kernel
theorem d_No_vacate_32 : decode b_No_vacate 32 = .ok (.iload_n 1, 1) := by decide +kernel
theorem d_No_vacate_33 : decode b_No_vacate 33 = .ok (.iload_n 1, 1) := by decide +kernel
theorem d_No_vacate_34 : decode b_No_vacate 34 = .ok (.iastore, 1) := by decide +kernel
theorem d_No_vacate_35 : decode b_No_vacate 35 = .ok (.aload_n 0, 1) := by decide +kernel
theorem d_No_vacate_36 : decode b_No_vacate 36 = .ok (.getfield 27, 3) := by decide +kernel
theorem d_No_vacate_39 : decode b_No_vacate 39 = .ok (.iload_n 1, 1) := by decide +kernel
theorem d_No_vacate_40 : decode b_No_vacate 40 = .ok (.iload_n 1, 1) := by decide +kernel
theorem d_No_vacate_41 : decode b_No_vacate 41 = .ok (.iastore, 1) := by decide +kernel
theorem d_No_vacate_42 : decode b_No_vacate 42 = .ok (.aload_n 0, 1) := by decide +kernel
theorem d_No_vacate_43 : decode b_No_vacate 43 = .ok (.getfield 30, 3) := by decide +kernel
theorem d_No_vacate_46 : decode b_No_vacate 46 = .ok (.iload_n 1, 1) := by decide +kernel
theorem d_No_vacate_47 : decode b_No_vacate 47 = .ok (.iconst 0, 1) := by decide +kernel
theorem d_No_vacate_48 : decode b_No_vacate 48 = .ok (.iastore, 1) := by decide +kernel
theorem d_No_vacate_49 : decode b_No_vacate 49 = .ok (.aload_n 0, 1) := by decide +kernel
theorem d_No_vacate_50 : decode b_No_vacate 50 = .ok (.getfield 33, 3) := by decide +kernel
theorem d_No_vacate_53 : decode b_No_vacate 53 = .ok (.iload_n 1, 1) := by decide +kernel
theorem d_No_vacate_54 : decode b_No_vacate 54 = .ok (.iconst 0, 1) := by decide +kernel
theorem d_No_vacate_55 : decode b_No_vacate 55 = .ok (.iastore, 1) := by decide +kernel
theorem d_No_vacate_56 : decode b_No_vacate 56 = .ok (.return_, 1) := by decide +kernel
theorem d_No_settleAt_0 : decode b_No_settleAt 0 = .ok (.aload_n 0, 1) := by decide +kernel
theorem d_No_settleAt_1 : decode b_No_settleAt 1 = .ok (.iload_n 1, 1) := by decide +kernel
theorem d_No_settleAt_2 : decode b_No_settleAt 2 = .ok (.iconst 1, 1) := by decide +kernel
theorem d_No_settleAt_3 : decode b_No_settleAt 3 = .ok (.iadd, 1) := by decide +kernel
theorem d_No_settleAt_4 : decode b_No_settleAt 4 = .ok (.invokevirtual 89, 3) := by decide +kernel
theorem d_No_settleAt_7 : decode b_No_settleAt 7 = .ok (.aload_n 0, 1) := by decide +kernel
theorem d_No_settleAt_8 : decode b_No_settleAt 8 = .ok (.invokevirtual 93, 3) := by decide +kernel
theorem d_No_settleAt_11 : decode b_No_settleAt 11 = .ok (.aload_n 0, 1) := by decide +kernel
theorem d_No_settleAt_12 : decode b_No_settleAt 12 = .ok (.iload_n 1, 1) := by decide +kernel
theorem d_No_settleAt_13 : decode b_No_settleAt 13 = .ok (.invokevirtual 96, 3) := by decide +kernel
theorem d_No_settleAt_16 : decode b_No_settleAt 16 = .ok (.aload_n 0, 1) := by decide +kernel
theorem d_No_settleAt_17 : decode b_No_settleAt 17 = .ok (.getfield 9, 3) := by decide +kernel
theorem d_No_settleAt_20 : decode b_No_settleAt 20 = .ok (.iload_n 1, 1) := by decide +kernel
theorem d_No_settleAt_21 : decode b_No_settleAt 21 = .ok (.iload_n 2, 1) := by decide +kernel
theorem d_No_settleAt_22 : decode b_No_settleAt 22 = .ok (.iastore, 1) := by decide +kernel
theorem d_No_settleAt_23 : decode b_No_settleAt 23 = .ok (.aload_n 0, 1) := by decide +kernel
theorem d_No_settleAt_24 : decode b_No_settleAt 24 = .ok (.getfield 15, 3) := by decide +kernel
theorem d_No_settleAt_27 : decode b_No_settleAt 27 = .ok (.iload_n 1, 1) := by decide +kernel
theorem d_No_settleAt_28 : decode b_No_settleAt 28 = .ok (.iload_n 3, 1) := by decide +kernel
theorem d_No_settleAt_29 : decode b_No_settleAt 29 = .ok (.iastore, 1) := by decide +kernel
theorem d_No_settleAt_30 : decode b_No_settleAt 30 = .ok (.aload_n 0, 1) := by decide +kernel
theorem d_No_settleAt_31 : decode b_No_settleAt 31 = .ok (.aload_n 0, 1) := by decide +kernel
theorem d_No_settleAt_32 : decode b_No_settleAt 32 = .ok (.getfield 36, 3) := by decide +kernel
theorem d_No_settleAt_35 : decode b_No_settleAt 35 = .ok (.iload_n 1, 1) := by decide +kernel
theorem d_No_settleAt_36 : decode b_No_settleAt 36 = .ok (.iconst 1, 1) := by decide +kernel
theorem d_No_settleAt_37 : decode b_No_settleAt 37 = .ok (.iadd, 1) := by decide +kernel
theorem d_No_settleAt_38 : decode b_No_settleAt 38 = .ok (.invokestatic 99, 3) := by decide +kernel
theorem d_No_settleAt_41 : decode b_No_settleAt 41 = .ok (.putfield 36, 3) := by decide +kernel
theorem d_No_settleAt_44 : decode b_No_settleAt 44 = .ok (.aload_n 0, 1) := by decide +kernel
theorem d_No_settleAt_45 : decode b_No_settleAt 45 = .ok (.iload_n 1, 1) := by decide +kernel
theorem d_No_settleAt_46 : decode b_No_settleAt 46 = .ok (.iconst 1, 1) := by decide +kernel
theorem d_No_settleAt_47 : decode b_No_settleAt 47 = .ok (.iadd, 1) := by decide +kernel
theorem d_No_settleAt_48 : decode b_No_settleAt 48 = .ok (.putfield 40, 3) := by decide +kernel
theorem d_No_settleAt_51 : decode b_No_settleAt 51 = .ok (.aload_n 0, 1) := by decide +kernel
theorem d_No_settleAt_52 : decode b_No_settleAt 52 = .ok (.dup, 1) := by decide +kernel
theorem d_No_settleAt_53 : decode b_No_settleAt 53 = .ok (.getfield 43, 3) := by decide +kernel
theorem d_No_settleAt_56 : decode b_No_settleAt 56 = .ok (.iconst 1, 1) := by decide +kernel
theorem d_No_settleAt_57 : decode b_No_settleAt 57 = .ok (.iadd, 1) := by decide +kernel
theorem d_No_settleAt_58 : decode b_No_settleAt 58 = .ok (.putfield 43, 3) := by decide +kernel
theorem d_No_settleAt_61 : decode b_No_settleAt 61 = .ok (.iload_n 1, 1) := by decide +kernel
theorem d_No_settleAt_62 : decode b_No_settleAt 62 = .ok (.ireturn, 1) := by decide +kernel
theorem d_No_addPlain_0 : decode b_No_addPlain 0 = .ok (.aload_n 0, 1) := by decide +kernel
theorem d_No_addPlain_1 : decode b_No_addPlain 1 = .ok (.getfield 43, 3) := by decide +kernel
theorem d_No_addPlain_4 : decode b_No_addPlain 4 = .ok (.ldc 67, 2) := by decide +kernel
theorem d_No_addPlain_6 : decode b_No_addPlain 6 = .ok (.if_icmp .lt 6, 3) := by decide +kernel
theorem d_No_addPlain_9 : decode b_No_addPlain 9 = .ok (.bipush (-2), 2) := by decide +kernel
theorem d_No_addPlain_11 : decode b_No_addPlain 11 = .ok (.ireturn, 1) := by decide +kernel
theorem d_No_addPlain_12 : decode b_No_addPlain 12 = .ok (.aload_n 0, 1) := by decide +kernel
theorem d_No_addPlain_13 : decode b_No_addPlain 13 = .ok (.aload_n 0, 1) := by decide +kernel
theorem d_No_addPlain_14 : decode b_No_addPlain 14 = .ok (.invokevirtual 68, 3) := by decide +kernel
theorem d_No_addPlain_17 : decode b_No_addPlain 17 = .ok (.iload_n 1, 1) := by decide +kernel
theorem d_No_addPlain_18 : decode b_No_addPlain 18 = .ok (.iload_n 2, 1) := by decide +kernel
theorem d_No_addPlain_19 : decode b_No_addPlain 19 = .ok (.invokevirtual 72, 3) := by decide +kernel
theorem d_No_addPlain_22 : decode b_No_addPlain 22 = .ok (.ireturn, 1) := by decide +kernel
theorem d_No_addWithFields_0 : decode b_No_addWithFields 0 = .ok (.aload_n 0, 1) := by decide +kernel
theorem d_No_addWithFields_1 : decode b_No_addWithFields 1 = .ok (.getfield 43, 3) := by decide +kernel
theorem d_No_addWithFields_4 : decode b_No_addWithFields 4 = .ok (.ldc 67, 2) := by decide +kernel
theorem d_No_addWithFields_6 : decode b_No_addWithFields 6 = .ok (.if_icmp .ge 20, 3) := by decide +kernel
theorem d_No_addWithFields_9 : decode b_No_addWithFields 9 = .ok (.aload_n 0, 1) := by decide +kernel
theorem d_No_addWithFields_10 : decode b_No_addWithFields 10 = .ok (.getfield 52, 3) := by decide +kernel
theorem d_No_addWithFields_13 : decode b_No_addWithFields 13 = .ok (.getfield 76, 3) := by decide +kernel
theorem d_No_addWithFields_16 : decode b_No_addWithFields 16 = .ok (.aload_n 3, 1) := by decide +kernel
theorem d_No_addWithFields_17 : decode b_No_addWithFields 17 = .ok (.getfield 79, 3) := by decide +kernel
theorem d_No_addWithFields_20 : decode b_No_addWithFields 20 = .ok (.iadd, 1) := by decide +kernel
theorem d_No_addWithFields_21 : decode b_No_addWithFields 21 = .ok (.ldc 84, 2) := by decide +kernel
theorem d_No_addWithFields_23 : decode b_No_addWithFields 23 = .ok (.if_icmp .le 6, 3) := by decide +kernel
theorem d_No_addWithFields_26 : decode b_No_addWithFields 26 = .ok (.bipush (-2), 2) := by decide +kernel
theorem d_No_addWithFields_28 : decode b_No_addWithFields 28 = .ok (.ireturn, 1) := by decide +kernel
theorem d_No_addWithFields_29 : decode b_No_addWithFields 29 = .ok (.aload_n 0, 1) := by decide +kernel
theorem d_No_addWithFields_30 : decode b_No_addWithFields 30 = .ok (.aload_n 0, 1) := by decide +kernel
theorem d_No_addWithFields_31 : decode b_No_addWithFields 31 = .ok (.invokevirtual 68, 3) := by decide +kernel
theorem d_No_addWithFields_34 : decode b_No_addWithFields 34 = .ok (.iload_n 1, 1) := by decide +kernel
theorem d_No_addWithFields_35 : decode b_No_addWithFields 35 = .ok (.iload_n 2, 1) := by decide +kernel
theorem d_No_addWithFields_36 : decode b_No_addWithFields 36 = .ok (.invokevirtual 72, 3) := by decide +kernel
theorem d_No_addWithFields_39 : decode b_No_addWithFields 39 = .ok (.istore 4, 2) := by decide +kernel
theorem d_No_addWithFields_41 : decode b_No_addWithFields 41 = .ok (.aload_n 0, 1) := by decide +kernel
theorem d_No_addWithFields_42 : decode b_No_addWithFields 42 = .ok (.getfield 21, 3) := by decide +kernel
theorem d_No_addWithFields_45 : decode b_No_addWithFields 45 = .ok (.iload 4, 2) := by decide +kernel
theorem d_No_addWithFields_47 : decode b_No_addWithFields 47 = .ok (.aload_n 3, 1) := by decide +kernel
theorem d_No_addWithFields_48 : decode b_No_addWithFields 48 = .ok (.getfield 79, 3) := by decide +kernel
theorem d_No_addWithFields_51 : decode b_No_addWithFields 51 = .ok (.iastore, 1) := by decide +kernel
theorem d_No_addWithFields_52 : decode b_No_addWithFields 52 = .ok (.aload_n 0, 1) := by decide +kernel
theorem d_No_addWithFields_53 : decode b_No_addWithFields 53 = .ok (.getfield 18, 3) := by decide +kernel
theorem d_No_addWithFields_56 : decode b_No_addWithFields 56 = .ok (.iload 4, 2) := by decide +kernel
theorem d_No_addWithFields_58 : decode b_No_addWithFields 58 = .ok (.aload_n 0, 1) := by decide +kernel
theorem d_No_addWithFields_59 : decode b_No_addWithFields 59 = .ok (.getfield 52, 3) := by decide +kernel
theorem d_No_addWithFields_62 : decode b_No_addWithFields 62 = .ok (.aload_n 3, 1) := by decide +kernel
theorem d_No_addWithFields_63 : decode b_No_addWithFields 63 = .ok (.invokevirtual 85, 3) := by decide +kernel
theorem d_No_addWithFields_66 : decode b_No_addWithFields 66 = .ok (.iastore, 1) := by decide +kernel
theorem d_No_addWithFields_67 : decode b_No_addWithFields 67 = .ok (.aload_n 3, 1) := by decide +kernel
theorem d_No_addWithFields_68 : decode b_No_addWithFields 68 = .ok (.iconst 0, 1) := by decide +kernel
theorem d_No_addWithFields_69 : decode b_No_addWithFields 69 = .ok (.putfield 79, 3) := by decide +kernel
theorem d_No_addWithFields_72 : decode b_No_addWithFields 72 = .ok (.iload 4, 2) := by decide +kernel
theorem d_No_addWithFields_74 : decode b_No_addWithFields 74 = .ok (.ireturn, 1) := by decide +kernel
theorem d_No_placeNumbered_0 : decode b_No_placeNumbered 0 = .ok (.aload_n 0, 1) := by decide +kernel
theorem d_No_placeNumbered_1 : decode b_No_placeNumbered 1 = .ok (.getfield 27, 3) := by decide +kernel
theorem d_No_placeNumbered_4 : decode b_No_placeNumbered 4 = .ok (.aload_n 0, 1) := by decide +kernel
theorem d_No_placeNumbered_5 : decode b_No_placeNumbered 5 = .ok (.getfield 24, 3) := by decide +kernel
theorem d_No_placeNumbered_8 : decode b_No_placeNumbered 8 = .ok (.iload_n 1, 1) := by decide +kernel
theorem d_No_placeNumbered_9 : decode b_No_placeNumbered 9 = .ok (.iaload, 1) := by decide +kernel
theorem d_No_placeNumbered_10 : decode b_No_placeNumbered 10 = .ok (.iaload, 1) := by decide +kernel
theorem d_No_placeNumbered_11 : decode b_No_placeNumbered 11 = .ok (.istore_n 3, 1) := by decide +kernel
theorem d_No_placeNumbered_12 : decode b_No_placeNumbered 12 = .ok (.iload_n 2, 1) := by decide +kernel
theorem d_No_placeNumbered_13 : decode b_No_placeNumbered 13 = .ok (.ifCond .lt 24, 3) := by decide +kernel
theorem d_No_placeNumbered_16 : decode b_No_placeNumbered 16 = .ok (.iload_n 2, 1) := by decide +kernel
theorem d_No_placeNumbered_17 : decode b_No_placeNumbered 17 = .ok (.aload_n 0, 1) := by decide +kernel
theorem d_No_placeNumbered_18 : decode b_No_placeNumbered 18 = .ok (.getfield 21, 3) := by decide +kernel
theorem d_No_placeNumbered_21 : decode b_No_placeNumbered 21 = .ok (.iload_n 3, 1) := by decide +kernel
theorem d_No_placeNumbered_22 : decode b_No_placeNumbered 22 = .ok (.iaload, 1) := by decide +kernel
theorem d_No_placeNumbered_23 : decode b_No_placeNumbered 23 = .ok (.if_icmp .ge 14, 3) := by decide +kernel
theorem d_No_placeNumbered_26 : decode b_No_placeNumbered 26 = .ok (.aload_n 0, 1) := by decide +kernel
theorem d_No_placeNumbered_27 : decode b_No_placeNumbered 27 = .ok (.getfield 18, 3) := by decide +kernel
theorem d_No_placeNumbered_30 : decode b_No_placeNumbered 30 = .ok (.iload_n 3, 1) := by decide +kernel
theorem d_No_placeNumbered_31 : decode b_No_placeNumbered 31 = .ok (.iaload, 1) := by decide +kernel
theorem d_No_placeNumbered_32 : decode b_No_placeNumbered 32 = .ok (.iload_n 2, 1) := by decide +kernel
theorem d_No_placeNumbered_33 : decode b_No_placeNumbered 33 = .ok (.iadd, 1) := by decide +kernel
theorem d_No_placeNumbered_34 : decode b_No_placeNumbered 34 = .ok (.goto 4, 3) := by decide +kernel
theorem d_No_placeNumbered_37 : decode b_No_placeNumbered 37 = .ok (.iconst (-1), 1) := by decide +kernel
theorem d_No_placeNumbered_38 : decode b_No_placeNumbered 38 = .ok (.ireturn, 1) := by decide +kernel
theorem d_No_placeOf_0 : decode b_No_placeOf 0 = .ok (.aload_n 0, 1) := by decide +kernel
theorem d_No_placeOf_1 : decode b_No_placeOf 1 = .ok (.getfield 27, 3) := by decide +kernel
theorem d_No_placeOf_4 : decode b_No_placeOf 4 = .ok (.aload_n 0, 1) := by decide +kernel
theorem d_No_placeOf_5 : decode b_No_placeOf 5 = .ok (.getfield 24, 3) := by decide +kernel
theorem d_No_placeOf_8 : decode b_No_placeOf 8 = .ok (.iload_n 1, 1) := by decide +kernel
theorem d_No_placeOf_9 : decode b_No_placeOf 9 = .ok (.iaload, 1) := by decide +kernel
theorem d_No_placeOf_10 : decode b_No_placeOf 10 = .ok (.iaload, 1) := by decide +kernel
theorem d_No_placeOf_11 : decode b_No_placeOf 11 = .ok (.istore_n 3, 1) := by decide +kernel
theorem d_No_placeOf_12 : decode b_No_placeOf 12 = .ok (.aload_n 0, 1) := by decide +kernel
theorem d_No_placeOf_13 : decode b_No_placeOf 13 = .ok (.getfield 18, 3) := by decide +kernel
theorem d_No_placeOf_16 : decode b_No_placeOf 16 = .ok (.iload_n 3, 1) := by decide +kernel
theorem d_No_placeOf_17 : decode b_No_placeOf 17 = .ok (.iaload, 1) := by decide +kernel
theorem d_No_placeOf_18 : decode b_No_placeOf 18 = .ok (.aload_n 0, 1) := by decide +kernel
theorem d_No_placeOf_19 : decode b_No_placeOf 19 = .ok (.getfield 21, 3) := by decide +kernel
theorem d_No_placeOf_22 : decode b_No_placeOf 22 = .ok (.iload_n 3, 1) := by decide +kernel
theorem d_No_placeOf_23 : decode b_No_placeOf 23 = .ok (.iaload, 1) := by decide +kernel
theorem d_No_placeOf_24 : decode b_No_placeOf 24 = .ok (.iadd, 1) := by decide +kernel
theorem d_No_placeOf_25 : decode b_No_placeOf 25 = .ok (.istore 4, 2) := by decide +kernel
theorem d_No_placeOf_27 : decode b_No_placeOf 27 = .ok (.aload_n 0, 1) := by decide +kernel
theorem d_No_placeOf_28 : decode b_No_placeOf 28 = .ok (.getfield 18, 3) := by decide +kernel
theorem d_No_placeOf_31 : decode b_No_placeOf 31 = .ok (.iload_n 3, 1) := by decide +kernel
theorem d_No_placeOf_32 : decode b_No_placeOf 32 = .ok (.iaload, 1) := by decide +kernel
theorem d_No_placeOf_33 : decode b_No_placeOf 33 = .ok (.istore 5, 2) := by decide +kernel
theorem d_No_placeOf_35 : decode b_No_placeOf 35 = .ok (.iload 5, 2) := by decide +kernel
theorem d_No_placeOf_37 : decode b_No_placeOf 37 = .ok (.iload 4, 2) := by decide +kernel
theorem d_No_placeOf_39 : decode b_No_placeOf 39 = .ok (.if_icmp .ge 26, 3) := by decide +kernel
theorem d_No_placeOf_42 : decode b_No_placeOf 42 = .ok (.aload_n 0, 1) := by decide +kernel
theorem d_No_placeOf_43 : decode b_No_placeOf 43 = .ok (.getfield 52, 3) := by decide +kernel
theorem d_No_placeOf_46 : decode b_No_placeOf 46 = .ok (.getfield 109, 3) := by decide +kernel
theorem d_No_placeOf_49 : decode b_No_placeOf 49 = .ok (.iload 5, 2) := by decide +kernel
theorem d_No_placeOf_51 : decode b_No_placeOf 51 = .ok (.iaload, 1) := by decide +kernel
theorem d_No_placeOf_52 : decode b_No_placeOf 52 = .ok (.iload_n 2, 1) := by decide +kernel
theorem d_No_placeOf_53 : decode b_No_placeOf 53 = .ok (.if_icmp .ne 6, 3) := by decide +kernel
theorem d_No_placeOf_56 : decode b_No_placeOf 56 = .ok (.iload 5, 2) := by decide +kernel
theorem d_No_placeOf_58 : decode b_No_placeOf 58 = .ok (.ireturn, 1) := by decide +kernel
theorem d_No_placeOf_59 : decode b_No_placeOf 59 = .ok (.iinc 5 1, 3) := by decide +kernel
theorem d_No_placeOf_62 : decode b_No_placeOf 62 = .ok (.goto (-27), 3) := by decide +kernel
theorem d_No_placeOf_65 : decode b_No_placeOf 65 = .ok (.iconst (-1), 1) := by decide +kernel
theorem d_No_placeOf_66 : decode b_No_placeOf 66 = .ok (.ireturn, 1) := by decide +kernel
theorem d_No_partLeader_0 : decode b_No_partLeader 0 = .ok (.aload_n 0, 1) := by decide +kernel
theorem d_No_partLeader_1 : decode b_No_partLeader 1 = .ok (.getfield 24, 3) := by decide +kernel
theorem d_No_partLeader_4 : decode b_No_partLeader 4 = .ok (.aload_n 0, 1) := by decide +kernel
theorem d_No_partLeader_5 : decode b_No_partLeader 5 = .ok (.getfield 52, 3) := by decide +kernel
theorem d_No_partLeader_8 : decode b_No_partLeader 8 = .ok (.getfield 112, 3) := by decide +kernel
theorem d_No_partLeader_11 : decode b_No_partLeader 11 = .ok (.iload_n 1, 1) := by decide +kernel
theorem d_No_partLeader_12 : decode b_No_partLeader 12 = .ok (.iaload, 1) := by decide +kernel
theorem d_No_partLeader_13 : decode b_No_partLeader 13 = .ok (.iaload, 1) := by decide +kernel
theorem d_No_partLeader_14 : decode b_No_partLeader 14 = .ok (.ireturn, 1) := by decide +kernel
theorem d_No_sameShape_0 : decode b_No_sameShape 0 = .ok (.aload_n 0, 1) := by decide +kernel
theorem d_No_sameShape_1 : decode b_No_sameShape 1 = .ok (.getfield 9, 3) := by decide +kernel
theorem d_No_sameShape_4 : decode b_No_sameShape 4 = .ok (.iload_n 1, 1) := by decide +kernel
theorem d_No_sameShape_5 : decode b_No_sameShape 5 = .ok (.iaload, 1) := by decide +kernel
theorem d_No_sameShape_6 : decode b_No_sameShape 6 = .ok (.aload_n 0, 1) := by decide +kernel
theorem d_No_sameShape_7 : decode b_No_sameShape 7 = .ok (.getfield 9, 3) := by decide +kernel
theorem d_No_sameShape_10 : decode b_No_sameShape 10 = .ok (.iload_n 2, 1) := by decide +kernel
theorem d_No_sameShape_11 : decode b_No_sameShape 11 = .ok (.iaload, 1) := by decide +kernel
theorem d_No_sameShape_12 : decode b_No_sameShape 12 = .ok (.if_icmp .ne 33, 3) := by decide +kernel
theorem d_No_sameShape_15 : decode b_No_sameShape 15 = .ok (.aload_n 0, 1) := by decide +kernel
theorem d_No_sameShape_16 : decode b_No_sameShape 16 = .ok (.getfield 15, 3) := by decide +kernel
theorem d_No_sameShape_19 : decode b_No_sameShape 19 = .ok (.iload_n 1, 1) := by decide +kernel
theorem d_No_sameShape_20 : decode b_No_sameShape 20 = .ok (.iaload, 1) := by decide +kernel
theorem d_No_sameShape_21 : decode b_No_sameShape 21 = .ok (.aload_n 0, 1) := by decide +kernel
theorem d_No_sameShape_22 : decode b_No_sameShape 22 = .ok (.getfield 15, 3) := by decide +kernel
theorem d_No_sameShape_25 : decode b_No_sameShape 25 = .ok (.iload_n 2, 1) := by decide +kernel
theorem d_No_sameShape_26 : decode b_No_sameShape 26 = .ok (.iaload, 1) := by decide +kernel
theorem d_No_sameShape_27 : decode b_No_sameShape 27 = .ok (.if_icmp .ne 18, 3) := by decide +kernel
theorem d_No_sameShape_30 : decode b_No_sameShape 30 = .ok (.aload_n 0, 1) := by decide +kernel
theorem d_No_sameShape_31 : decode b_No_sameShape 31 = .ok (.getfield 21, 3) := by decide +kernel
theorem d_No_sameShape_34 : decode b_No_sameShape 34 = .ok (.iload_n 1, 1) := by decide +kernel
theorem d_No_sameShape_35 : decode b_No_sameShape 35 = .ok (.iaload, 1) := by decide +kernel
theorem d_No_sameShape_36 : decode b_No_sameShape 36 = .ok (.aload_n 0, 1) := by decide +kernel
theorem d_No_sameShape_37 : decode b_No_sameShape 37 = .ok (.getfield 21, 3) := by decide +kernel
theorem d_No_sameShape_40 : decode b_No_sameShape 40 = .ok (.iload_n 2, 1) := by decide +kernel
theorem d_No_sameShape_41 : decode b_No_sameShape 41 = .ok (.iaload, 1) := by decide +kernel
theorem d_No_sameShape_42 : decode b_No_sameShape 42 = .ok (.if_icmp .eq 5, 3) := by decide +kernel
theorem d_No_sameShape_45 : decode b_No_sameShape 45 = .ok (.iconst 0, 1) := by decide +kernel
theorem d_No_sameShape_46 : decode b_No_sameShape 46 = .ok (.ireturn, 1) := by decide +kernel
theorem d_No_sameShape_47 : decode b_No_sameShape 47 = .ok (.iconst 0, 1) := by decide +kernel
theorem d_No_sameShape_48 : decode b_No_sameShape 48 = .ok (.istore_n 3, 1) := by decide +kernel
theorem d_No_sameShape_49 : decode b_No_sameShape 49 = .ok (.iload_n 3, 1) := by decide +kernel
theorem d_No_sameShape_50 : decode b_No_sameShape 50 = .ok (.aload_n 0, 1) := by decide +kernel
theorem d_No_sameShape_51 : decode b_No_sameShape 51 = .ok (.getfield 21, 3) := by decide +kernel
theorem d_No_sameShape_54 : decode b_No_sameShape 54 = .ok (.iload_n 1, 1) := by decide +kernel
theorem d_No_sameShape_55 : decode b_No_sameShape 55 = .ok (.iaload, 1) := by decide +kernel
theorem d_No_sameShape_56 : decode b_No_sameShape 56 = .ok (.if_icmp .ge 46, 3) := by decide +kernel
theorem d_No_sameShape_59 : decode b_No_sameShape 59 = .ok (.aload_n 0, 1) := by decide +kernel
theorem d_No_sameShape_60 : decode b_No_sameShape 60 = .ok (.getfield 52, 3) := by decide +kernel
theorem d_No_sameShape_63 : decode b_No_sameShape 63 = .ok (.getfield 109, 3) := by decide +kernel
theorem d_No_sameShape_66 : decode b_No_sameShape 66 = .ok (.aload_n 0, 1) := by decide +kernel
theorem d_No_sameShape_67 : decode b_No_sameShape 67 = .ok (.getfield 18, 3) := by decide +kernel
theorem d_No_sameShape_70 : decode b_No_sameShape 70 = .ok (.iload_n 1, 1) := by decide +kernel
theorem d_No_sameShape_71 : decode b_No_sameShape 71 = .ok (.iaload, 1) := by decide +kernel
theorem d_No_sameShape_72 : decode b_No_sameShape 72 = .ok (.iload_n 3, 1) := by decide +kernel
theorem d_No_sameShape_73 : decode b_No_sameShape 73 = .ok (.iadd, 1) := by decide +kernel
theorem d_No_sameShape_74 : decode b_No_sameShape 74 = .ok (.iaload, 1) := by decide +kernel
theorem d_No_sameShape_75 : decode b_No_sameShape 75 = .ok (.aload_n 0, 1) := by decide +kernel
theorem d_No_sameShape_76 : decode b_No_sameShape 76 = .ok (.getfield 52, 3) := by decide +kernel
theorem d_No_sameShape_79 : decode b_No_sameShape 79 = .ok (.getfield 109, 3) := by decide +kernel
theorem d_No_sameShape_82 : decode b_No_sameShape 82 = .ok (.aload_n 0, 1) := by decide +kernel
theorem d_No_sameShape_83 : decode b_No_sameShape 83 = .ok (.getfield 18, 3) := by decide +kernel
theorem d_No_sameShape_86 : decode b_No_sameShape 86 = .ok (.iload_n 2, 1) := by decide +kernel
theorem d_No_sameShape_87 : decode b_No_sameShape 87 = .ok (.iaload, 1) := by decide +kernel
theorem d_No_sameShape_88 : decode b_No_sameShape 88 = .ok (.iload_n 3, 1) := by decide +kernel
theorem d_No_sameShape_89 : decode b_No_sameShape 89 = .ok (.iadd, 1) := by decide +kernel
theorem d_No_sameShape_90 : decode b_No_sameShape 90 = .ok (.iaload, 1) := by decide +kernel
theorem d_No_sameShape_91 : decode b_No_sameShape 91 = .ok (.if_icmp .eq 5, 3) := by decide +kernel
theorem d_No_sameShape_94 : decode b_No_sameShape 94 = .ok (.iconst 0, 1) := by decide +kernel
theorem d_No_sameShape_95 : decode b_No_sameShape 95 = .ok (.ireturn, 1) := by decide +kernel
theorem d_No_sameShape_96 : decode b_No_sameShape 96 = .ok (.iinc 3 1, 3) := by decide +kernel
theorem d_No_sameShape_99 : decode b_No_sameShape 99 = .ok (.goto (-50), 3) := by decide +kernel
theorem d_No_sameShape_102 : decode b_No_sameShape 102 = .ok (.iconst 1, 1) := by decide +kernel
theorem d_No_sameShape_103 : decode b_No_sameShape 103 = .ok (.ireturn, 1) := by decide +kernel
theorem d_No_variableLeaders_0 : decode b_No_variableLeaders 0 = .ok (.iconst 0, 1) := by decide +kernel
theorem d_No_variableLeaders_1 : decode b_No_variableLeaders 1 = .ok (.istore_n 1, 1) := by decide +kernel
theorem d_No_variableLeaders_2 : decode b_No_variableLeaders 2 = .ok (.iconst 0, 1) := by decide +kernel
theorem d_No_variableLeaders_3 : decode b_No_variableLeaders 3 = .ok (.istore_n 2, 1) := by decide +kernel
theorem d_No_variableLeaders_4 : decode b_No_variableLeaders 4 = .ok (.iload_n 2, 1) := by decide +kernel
theorem d_No_variableLeaders_5 : decode b_No_variableLeaders 5 = .ok (.aload_n 0, 1) := by decide +kernel
theorem d_No_variableLeaders_6 : decode b_No_variableLeaders 6 = .ok (.getfield 36, 3) := by decide +kernel
theorem d_No_variableLeaders_9 : decode b_No_variableLeaders 9 = .ok (.if_icmp .ge 38, 3) := by decide +kernel
theorem d_No_variableLeaders_12 : decode b_No_variableLeaders 12 = .ok (.aload_n 0, 1) := by decide +kernel
theorem d_No_variableLeaders_13 : decode b_No_variableLeaders 13 = .ok (.iload_n 2, 1) := by decide +kernel
theorem d_No_variableLeaders_14 : decode b_No_variableLeaders 14 = .ok (.invokevirtual 115, 3) := by decide +kernel
theorem d_No_variableLeaders_17 : decode b_No_variableLeaders 17 = .ok (.ifCond .eq 24, 3) := by decide +kernel
theorem d_No_variableLeaders_20 : decode b_No_variableLeaders 20 = .ok (.aload_n 0, 1) := by decide +kernel
theorem d_No_variableLeaders_21 : decode b_No_variableLeaders 21 = .ok (.getfield 24, 3) := by decide +kernel
theorem d_No_variableLeaders_24 : decode b_No_variableLeaders 24 = .ok (.iload_n 2, 1) := by decide +kernel
theorem d_No_variableLeaders_25 : decode b_No_variableLeaders 25 = .ok (.iaload, 1) := by decide +kernel
theorem d_No_variableLeaders_26 : decode b_No_variableLeaders 26 = .ok (.iload_n 2, 1) := by decide +kernel
theorem d_No_variableLeaders_27 : decode b_No_variableLeaders 27 = .ok (.if_icmp .ne 14, 3) := by decide +kernel
theorem d_No_variableLeaders_30 : decode b_No_variableLeaders 30 = .ok (.aload_n 0, 1) := by decide +kernel
theorem d_No_variableLeaders_31 : decode b_No_variableLeaders 31 = .ok (.iload_n 2, 1) := by decide +kernel
theorem d_No_variableLeaders_32 : decode b_No_variableLeaders 32 = .ok (.invokevirtual 63, 3) := by decide +kernel
theorem d_No_variableLeaders_35 : decode b_No_variableLeaders 35 = .ok (.ifCond .ne 6, 3) := by decide +kernel
theorem d_No_variableLeaders_38 : decode b_No_variableLeaders 38 = .ok (.iinc 1 1, 3) := by decide +kernel
theorem d_No_variableLeaders_41 : decode b_No_variableLeaders 41 = .ok (.iinc 2 1, 3) := by decide +kernel
theorem d_No_variableLeaders_44 : decode b_No_variableLeaders 44 = .ok (.goto (-40), 3) := by decide +kernel
theorem d_No_variableLeaders_47 : decode b_No_variableLeaders 47 = .ok (.iload_n 1, 1) := by decide +kernel
theorem d_No_variableLeaders_48 : decode b_No_variableLeaders 48 = .ok (.ireturn, 1) := by decide +kernel
theorem d_No_markLeader_0 : decode b_No_markLeader 0 = .ok (.aload_n 0, 1) := by decide +kernel
theorem d_No_markLeader_1 : decode b_No_markLeader 1 = .ok (.getfield 33, 3) := by decide +kernel
theorem d_No_markLeader_4 : decode b_No_markLeader 4 = .ok (.iload_n 1, 1) := by decide +kernel
theorem d_No_markLeader_5 : decode b_No_markLeader 5 = .ok (.iaload, 1) := by decide +kernel
theorem d_No_markLeader_6 : decode b_No_markLeader 6 = .ok (.ifCond .ne 18, 3) := by decide +kernel
theorem d_No_markLeader_9 : decode b_No_markLeader 9 = .ok (.aload_n 0, 1) := by decide +kernel
theorem d_No_markLeader_10 : decode b_No_markLeader 10 = .ok (.getfield 33, 3) := by decide +kernel
theorem d_No_markLeader_13 : decode b_No_markLeader 13 = .ok (.iload_n 1, 1) := by decide +kernel
theorem d_No_markLeader_14 : decode b_No_markLeader 14 = .ok (.iconst 1, 1) := by decide +kernel
theorem d_No_markLeader_15 : decode b_No_markLeader 15 = .ok (.iastore, 1) := by decide +kernel
theorem d_No_markLeader_16 : decode b_No_markLeader 16 = .ok (.aload_n 0, 1) := by decide +kernel
theorem d_No_markLeader_17 : decode b_No_markLeader 17 = .ok (.getfield 59, 3) := by decide +kernel
theorem d_No_markLeader_20 : decode b_No_markLeader 20 = .ok (.iload_n 1, 1) := by decide +kernel
theorem d_No_markLeader_21 : decode b_No_markLeader 21 = .ok (.invokevirtual 139, 3) := by decide +kernel
theorem d_No_markLeader_24 : decode b_No_markLeader 24 = .ok (.return_, 1) := by decide +kernel
theorem d_No_allMarked_0 : decode b_No_allMarked 0 = .ok (.iconst 0, 1) := by decide +kernel
theorem d_No_allMarked_1 : decode b_No_allMarked 1 = .ok (.istore_n 1, 1) := by decide +kernel
theorem d_No_allMarked_2 : decode b_No_allMarked 2 = .ok (.iconst 0, 1) := by decide +kernel
theorem d_No_allMarked_3 : decode b_No_allMarked 3 = .ok (.istore_n 2, 1) := by decide +kernel
theorem d_No_allMarked_4 : decode b_No_allMarked 4 = .ok (.iload_n 2, 1) := by decide +kernel
theorem d_No_allMarked_5 : decode b_No_allMarked 5 = .ok (.aload_n 0, 1) := by decide +kernel
theorem d_No_allMarked_6 : decode b_No_allMarked 6 = .ok (.getfield 36, 3) := by decide +kernel
theorem d_No_allMarked_9 : decode b_No_allMarked 9 = .ok (.if_icmp .ge 35, 3) := by decide +kernel
theorem d_No_allMarked_12 : decode b_No_allMarked 12 = .ok (.aload_n 0, 1) := by decide +kernel
theorem d_No_allMarked_13 : decode b_No_allMarked 13 = .ok (.iload_n 2, 1) := by decide +kernel
theorem d_No_allMarked_14 : decode b_No_allMarked 14 = .ok (.invokevirtual 115, 3) := by decide +kernel
theorem d_No_allMarked_17 : decode b_No_allMarked 17 = .ok (.ifCond .eq 21, 3) := by decide +kernel
theorem d_No_allMarked_20 : decode b_No_allMarked 20 = .ok (.aload_n 0, 1) := by decide +kernel
theorem d_No_allMarked_21 : decode b_No_allMarked 21 = .ok (.getfield 33, 3) := by decide +kernel
theorem d_No_allMarked_24 : decode b_No_allMarked 24 = .ok (.aload_n 0, 1) := by decide +kernel
theorem d_No_allMarked_25 : decode b_No_allMarked 25 = .ok (.getfield 24, 3) := by decide +kernel
theorem d_No_allMarked_28 : decode b_No_allMarked 28 = .ok (.iload_n 2, 1) := by decide +kernel
theorem d_No_allMarked_29 : decode b_No_allMarked 29 = .ok (.iaload, 1) := by decide +kernel
theorem d_No_allMarked_30 : decode b_No_allMarked 30 = .ok (.iaload, 1) := by decide +kernel
theorem d_No_allMarked_31 : decode b_No_allMarked 31 = .ok (.iconst 1, 1) := by decide +kernel
theorem d_No_allMarked_32 : decode b_No_allMarked 32 = .ok (.if_icmp .ne 6, 3) := by decide +kernel
theorem d_No_allMarked_35 : decode b_No_allMarked 35 = .ok (.iinc 1 1, 3) := by decide +kernel
theorem d_No_allMarked_38 : decode b_No_allMarked 38 = .ok (.iinc 2 1, 3) := by decide +kernel
theorem d_No_allMarked_41 : decode b_No_allMarked 41 = .ok (.goto (-37), 3) := by decide +kernel
theorem d_No_allMarked_44 : decode b_No_allMarked 44 = .ok (.iload_n 1, 1) := by decide +kernel
theorem d_No_allMarked_45 : decode b_No_allMarked 45 = .ok (.ireturn, 1) := by decide +kernel
theorem d_No_markFrom_0 : decode b_No_markFrom 0 = .ok (.aload_n 0, 1) := by decide +kernel
theorem d_No_markFrom_1 : decode b_No_markFrom 1 = .ok (.getfield 59, 3) := by decide +kernel
theorem d_No_markFrom_4 : decode b_No_markFrom 4 = .ok (.invokevirtual 123, 3) := by decide +kernel
theorem d_No_markFrom_7 : decode b_No_markFrom 7 = .ok (.aload_n 0, 1) := by decide +kernel
theorem d_No_markFrom_8 : decode b_No_markFrom 8 = .ok (.aload_n 0, 1) := by decide +kernel
theorem d_No_markFrom_9 : decode b_No_markFrom 9 = .ok (.getfield 24, 3) := by decide +kernel
theorem d_No_markFrom_12 : decode b_No_markFrom 12 = .ok (.iload_n 1, 1) := by decide +kernel
theorem d_No_markFrom_13 : decode b_No_markFrom 13 = .ok (.iaload, 1) := by decide +kernel
theorem d_No_markFrom_14 : decode b_No_markFrom 14 = .ok (.invokevirtual 126, 3) := by decide +kernel
theorem d_No_markFrom_17 : decode b_No_markFrom 17 = .ok (.iconst 0, 1) := by decide +kernel
theorem d_No_markFrom_18 : decode b_No_markFrom 18 = .ok (.istore_n 2, 1) := by decide +kernel
theorem d_No_markFrom_19 : decode b_No_markFrom 19 = .ok (.iload_n 2, 1) := by decide +kernel
theorem d_No_markFrom_20 : decode b_No_markFrom 20 = .ok (.ldc 67, 2) := by decide +kernel
theorem d_No_markFrom_22 : decode b_No_markFrom 22 = .ok (.if_icmp .ge 72, 3) := by decide +kernel
theorem d_No_markFrom_25 : decode b_No_markFrom 25 = .ok (.iload_n 2, 1) := by decide +kernel
theorem d_No_markFrom_26 : decode b_No_markFrom 26 = .ok (.aload_n 0, 1) := by decide +kernel
theorem d_No_markFrom_27 : decode b_No_markFrom 27 = .ok (.getfield 59, 3) := by decide +kernel
theorem d_No_markFrom_30 : decode b_No_markFrom 30 = .ok (.getfield 129, 3) := by decide +kernel
theorem d_No_markFrom_33 : decode b_No_markFrom 33 = .ok (.if_icmp .ge 61, 3) := by decide +kernel
theorem d_No_markFrom_36 : decode b_No_markFrom 36 = .ok (.aload_n 0, 1) := by decide +kernel
theorem d_No_markFrom_37 : decode b_No_markFrom 37 = .ok (.getfield 27, 3) := by decide +kernel
theorem d_No_markFrom_40 : decode b_No_markFrom 40 = .ok (.aload_n 0, 1) := by decide +kernel
theorem d_No_markFrom_41 : decode b_No_markFrom 41 = .ok (.getfield 59, 3) := by decide +kernel
theorem d_No_markFrom_44 : decode b_No_markFrom 44 = .ok (.getfield 130, 3) := by decide +kernel
theorem d_No_markFrom_47 : decode b_No_markFrom 47 = .ok (.iload_n 2, 1) := by decide +kernel
theorem d_No_markFrom_48 : decode b_No_markFrom 48 = .ok (.iaload, 1) := by decide +kernel
theorem d_No_markFrom_49 : decode b_No_markFrom 49 = .ok (.iaload, 1) := by decide +kernel
theorem d_No_markFrom_50 : decode b_No_markFrom 50 = .ok (.istore_n 3, 1) := by decide +kernel
theorem d_No_markFrom_51 : decode b_No_markFrom 51 = .ok (.iconst 0, 1) := by decide +kernel
theorem d_No_markFrom_52 : decode b_No_markFrom 52 = .ok (.istore 4, 2) := by decide +kernel
theorem d_No_markFrom_54 : decode b_No_markFrom 54 = .ok (.iload 4, 2) := by decide +kernel
theorem d_No_markFrom_56 : decode b_No_markFrom 56 = .ok (.aload_n 0, 1) := by decide +kernel
theorem d_No_markFrom_57 : decode b_No_markFrom 57 = .ok (.getfield 21, 3) := by decide +kernel
theorem d_No_markFrom_60 : decode b_No_markFrom 60 = .ok (.iload_n 3, 1) := by decide +kernel
theorem d_No_markFrom_61 : decode b_No_markFrom 61 = .ok (.iaload, 1) := by decide +kernel
theorem d_No_markFrom_62 : decode b_No_markFrom 62 = .ok (.if_icmp .ge 26, 3) := by decide +kernel
theorem d_No_markFrom_65 : decode b_No_markFrom 65 = .ok (.aload_n 0, 1) := by decide +kernel
theorem d_No_markFrom_66 : decode b_No_markFrom 66 = .ok (.aload_n 0, 1) := by decide +kernel
theorem d_No_markFrom_67 : decode b_No_markFrom 67 = .ok (.aload_n 0, 1) := by decide +kernel
theorem d_No_markFrom_68 : decode b_No_markFrom 68 = .ok (.getfield 18, 3) := by decide +kernel
theorem d_No_markFrom_71 : decode b_No_markFrom 71 = .ok (.iload_n 3, 1) := by decide +kernel
theorem d_No_markFrom_72 : decode b_No_markFrom 72 = .ok (.iaload, 1) := by decide +kernel
theorem d_No_markFrom_73 : decode b_No_markFrom 73 = .ok (.iload 4, 2) := by decide +kernel
theorem d_No_markFrom_75 : decode b_No_markFrom 75 = .ok (.iadd, 1) := by decide +kernel
theorem d_No_markFrom_76 : decode b_No_markFrom 76 = .ok (.invokevirtual 133, 3) := by decide +kernel
theorem d_No_markFrom_79 : decode b_No_markFrom 79 = .ok (.invokevirtual 126, 3) := by decide +kernel
theorem d_No_markFrom_82 : decode b_No_markFrom 82 = .ok (.iinc 4 1, 3) := by decide +kernel
theorem d_No_markFrom_85 : decode b_No_markFrom 85 = .ok (.goto (-31), 3) := by decide +kernel
theorem d_No_markFrom_88 : decode b_No_markFrom 88 = .ok (.iinc 2 1, 3) := by decide +kernel
theorem d_No_markFrom_91 : decode b_No_markFrom 91 = .ok (.goto (-72), 3) := by decide +kernel
theorem d_No_markFrom_94 : decode b_No_markFrom 94 = .ok (.aload_n 0, 1) := by decide +kernel
theorem d_No_markFrom_95 : decode b_No_markFrom 95 = .ok (.aload_n 0, 1) := by decide +kernel
theorem d_No_markFrom_96 : decode b_No_markFrom 96 = .ok (.invokevirtual 136, 3) := by decide +kernel
theorem d_No_markFrom_99 : decode b_No_markFrom 99 = .ok (.putfield 46, 3) := by decide +kernel
theorem d_No_markFrom_102 : decode b_No_markFrom 102 = .ok (.return_, 1) := by decide +kernel
theorem d_No_staysBehind_0 : decode b_No_staysBehind 0 = .ok (.aload_n 0, 1) := by decide +kernel
theorem d_No_staysBehind_1 : decode b_No_staysBehind 1 = .ok (.getfield 33, 3) := by decide +kernel
theorem d_No_staysBehind_4 : decode b_No_staysBehind 4 = .ok (.iload_n 1, 1) := by decide +kernel
theorem d_No_staysBehind_5 : decode b_No_staysBehind 5 = .ok (.iaload, 1) := by decide +kernel
theorem d_No_staysBehind_6 : decode b_No_staysBehind 6 = .ok (.iconst 1, 1) := by decide +kernel
theorem d_No_staysBehind_7 : decode b_No_staysBehind 7 = .ok (.if_icmp .ne 7, 3) := by decide +kernel
theorem d_No_staysBehind_10 : decode b_No_staysBehind 10 = .ok (.iconst 1, 1) := by decide +kernel
theorem d_No_staysBehind_11 : decode b_No_staysBehind 11 = .ok (.goto 4, 3) := by decide +kernel
theorem d_No_staysBehind_14 : decode b_No_staysBehind 14 = .ok (.iconst 0, 1) := by decide +kernel
theorem d_No_staysBehind_15 : decode b_No_staysBehind 15 = .ok (.ireturn, 1) := by decide +kernel
theorem d_No_takeOnBody_0 : decode b_No_takeOnBody 0 = .ok (.aload_n 0, 1) := by decide +kernel
theorem d_No_takeOnBody_1 : decode b_No_takeOnBody 1 = .ok (.getfield 27, 3) := by decide +kernel
theorem d_No_takeOnBody_4 : decode b_No_takeOnBody 4 = .ok (.iload_n 1, 1) := by decide +kernel
theorem d_No_takeOnBody_5 : decode b_No_takeOnBody 5 = .ok (.iaload, 1) := by decide +kernel
theorem d_No_takeOnBody_6 : decode b_No_takeOnBody 6 = .ok (.istore_n 2, 1) := by decide +kernel
theorem d_No_takeOnBody_7 : decode b_No_takeOnBody 7 = .ok (.aload_n 0, 1) := by decide +kernel
theorem d_No_takeOnBody_8 : decode b_No_takeOnBody 8 = .ok (.getfield 9, 3) := by decide +kernel
theorem d_No_takeOnBody_11 : decode b_No_takeOnBody 11 = .ok (.iload_n 1, 1) := by decide +kernel
theorem d_No_takeOnBody_12 : decode b_No_takeOnBody 12 = .ok (.aload_n 0, 1) := by decide +kernel
theorem d_No_takeOnBody_13 : decode b_No_takeOnBody 13 = .ok (.getfield 9, 3) := by decide +kernel
theorem d_No_takeOnBody_16 : decode b_No_takeOnBody 16 = .ok (.iload_n 2, 1) := by decide +kernel
theorem d_No_takeOnBody_17 : decode b_No_takeOnBody 17 = .ok (.iaload, 1) := by decide +kernel
theorem d_No_takeOnBody_18 : decode b_No_takeOnBody 18 = .ok (.iastore, 1) := by decide +kernel
theorem d_No_takeOnBody_19 : decode b_No_takeOnBody 19 = .ok (.aload_n 0, 1) := by decide +kernel
theorem d_No_takeOnBody_20 : decode b_No_takeOnBody 20 = .ok (.getfield 15, 3) := by decide +kernel
theorem d_No_takeOnBody_23 : decode b_No_takeOnBody 23 = .ok (.iload_n 1, 1) := by decide +kernel
theorem d_No_takeOnBody_24 : decode b_No_takeOnBody 24 = .ok (.aload_n 0, 1) := by decide +kernel
theorem d_No_takeOnBody_25 : decode b_No_takeOnBody 25 = .ok (.getfield 15, 3) := by decide +kernel
theorem d_No_takeOnBody_28 : decode b_No_takeOnBody 28 = .ok (.iload_n 2, 1) := by decide +kernel
theorem d_No_takeOnBody_29 : decode b_No_takeOnBody 29 = .ok (.iaload, 1) := by decide +kernel
theorem d_No_takeOnBody_30 : decode b_No_takeOnBody 30 = .ok (.iastore, 1) := by decide +kernel
theorem d_No_takeOnBody_31 : decode b_No_takeOnBody 31 = .ok (.aload_n 0, 1) := by decide +kernel
theorem d_No_takeOnBody_32 : decode b_No_takeOnBody 32 = .ok (.getfield 18, 3) := by decide +kernel
theorem d_No_takeOnBody_35 : decode b_No_takeOnBody 35 = .ok (.iload_n 1, 1) := by decide +kernel
theorem d_No_takeOnBody_36 : decode b_No_takeOnBody 36 = .ok (.aload_n 0, 1) := by decide +kernel
theorem d_No_takeOnBody_37 : decode b_No_takeOnBody 37 = .ok (.getfield 52, 3) := by decide +kernel
theorem d_No_takeOnBody_40 : decode b_No_takeOnBody 40 = .ok (.aload_n 0, 1) := by decide +kernel
theorem d_No_takeOnBody_41 : decode b_No_takeOnBody 41 = .ok (.getfield 18, 3) := by decide +kernel
theorem d_No_takeOnBody_44 : decode b_No_takeOnBody 44 = .ok (.iload_n 2, 1) := by decide +kernel
theorem d_No_takeOnBody_45 : decode b_No_takeOnBody 45 = .ok (.iaload, 1) := by decide +kernel
theorem d_No_takeOnBody_46 : decode b_No_takeOnBody 46 = .ok (.aload_n 0, 1) := by decide +kernel
theorem d_No_takeOnBody_47 : decode b_No_takeOnBody 47 = .ok (.getfield 21, 3) := by decide +kernel
theorem d_No_takeOnBody_50 : decode b_No_takeOnBody 50 = .ok (.iload_n 2, 1) := by decide +kernel
theorem d_No_takeOnBody_51 : decode b_No_takeOnBody 51 = .ok (.iaload, 1) := by decide +kernel
theorem d_No_takeOnBody_52 : decode b_No_takeOnBody 52 = .ok (.aload_n 0, 1) := by decide +kernel
theorem d_No_takeOnBody_53 : decode b_No_takeOnBody 53 = .ok (.getfield 24, 3) := by decide +kernel
theorem d_No_takeOnBody_56 : decode b_No_takeOnBody 56 = .ok (.invokevirtual 157, 3) := by decide +kernel
theorem d_No_takeOnBody_59 : decode b_No_takeOnBody 59 = .ok (.iastore, 1) := by decide +kernel
theorem d_No_takeOnBody_60 : decode b_No_takeOnBody 60 = .ok (.aload_n 0, 1) := by decide +kernel
theorem d_No_takeOnBody_61 : decode b_No_takeOnBody 61 = .ok (.getfield 21, 3) := by decide +kernel
theorem d_No_takeOnBody_64 : decode b_No_takeOnBody 64 = .ok (.iload_n 1, 1) := by decide +kernel
theorem d_No_takeOnBody_65 : decode b_No_takeOnBody 65 = .ok (.aload_n 0, 1) := by decide +kernel
theorem d_No_takeOnBody_66 : decode b_No_takeOnBody 66 = .ok (.getfield 21, 3) := by decide +kernel
theorem d_No_takeOnBody_69 : decode b_No_takeOnBody 69 = .ok (.iload_n 2, 1) := by decide +kernel
theorem d_No_takeOnBody_70 : decode b_No_takeOnBody 70 = .ok (.iaload, 1) := by decide +kernel
theorem d_No_takeOnBody_71 : decode b_No_takeOnBody 71 = .ok (.iastore, 1) := by decide +kernel
theorem d_No_takeOnBody_72 : decode b_No_takeOnBody 72 = .ok (.aload_n 0, 1) := by decide +kernel
theorem d_No_takeOnBody_73 : decode b_No_takeOnBody 73 = .ok (.getfield 27, 3) := by decide +kernel
theorem d_No_takeOnBody_76 : decode b_No_takeOnBody 76 = .ok (.iload_n 1, 1) := by decide +kernel
theorem d_No_takeOnBody_77 : decode b_No_takeOnBody 77 = .ok (.iload_n 1, 1) := by decide +kernel
theorem d_No_takeOnBody_78 : decode b_No_takeOnBody 78 = .ok (.iastore, 1) := by decide +kernel
theorem d_No_takeOnBody_79 : decode b_No_takeOnBody 79 = .ok (.return_, 1) := by decide +kernel
theorem d_No_vacateAllOthers_0 : decode b_No_vacateAllOthers 0 = .ok (.iconst 0, 1) := by decide +kernel
theorem d_No_vacateAllOthers_1 : decode b_No_vacateAllOthers 1 = .ok (.istore_n 1, 1) := by decide +kernel
theorem d_No_vacateAllOthers_2 : decode b_No_vacateAllOthers 2 = .ok (.aload_n 0, 1) := by decide +kernel
theorem d_No_vacateAllOthers_3 : decode b_No_vacateAllOthers 3 = .ok (.iconst 0, 1) := by decide +kernel
theorem d_No_vacateAllOthers_4 : decode b_No_vacateAllOthers 4 = .ok (.putfield 43, 3) := by decide +kernel
theorem d_No_vacateAllOthers_7 : decode b_No_vacateAllOthers 7 = .ok (.iconst 0, 1) := by decide +kernel
theorem d_No_vacateAllOthers_8 : decode b_No_vacateAllOthers 8 = .ok (.istore_n 2, 1) := by decide +kernel
theorem d_No_vacateAllOthers_9 : decode b_No_vacateAllOthers 9 = .ok (.iload_n 2, 1) := by decide +kernel
theorem d_No_vacateAllOthers_10 : decode b_No_vacateAllOthers 10 = .ok (.aload_n 0, 1) := by decide +kernel
theorem d_No_vacateAllOthers_11 : decode b_No_vacateAllOthers 11 = .ok (.getfield 36, 3) := by decide +kernel
theorem d_No_vacateAllOthers_14 : decode b_No_vacateAllOthers 14 = .ok (.if_icmp .ge 46, 3) := by decide +kernel
theorem d_No_vacateAllOthers_17 : decode b_No_vacateAllOthers 17 = .ok (.aload_n 0, 1) := by decide +kernel
theorem d_No_vacateAllOthers_18 : decode b_No_vacateAllOthers 18 = .ok (.iload_n 2, 1) := by decide +kernel
theorem d_No_vacateAllOthers_19 : decode b_No_vacateAllOthers 19 = .ok (.invokevirtual 145, 3) := by decide +kernel
theorem d_No_vacateAllOthers_22 : decode b_No_vacateAllOthers 22 = .ok (.ifCond .eq 27, 3) := by decide +kernel
theorem d_No_vacateAllOthers_25 : decode b_No_vacateAllOthers 25 = .ok (.aload_n 0, 1) := by decide +kernel
theorem d_No_vacateAllOthers_26 : decode b_No_vacateAllOthers 26 = .ok (.getfield 33, 3) := by decide +kernel
theorem d_No_vacateAllOthers_29 : decode b_No_vacateAllOthers 29 = .ok (.iload_n 2, 1) := by decide +kernel
theorem d_No_vacateAllOthers_30 : decode b_No_vacateAllOthers 30 = .ok (.iconst 0, 1) := by decide +kernel
theorem d_No_vacateAllOthers_31 : decode b_No_vacateAllOthers 31 = .ok (.iastore, 1) := by decide +kernel
theorem d_No_vacateAllOthers_32 : decode b_No_vacateAllOthers 32 = .ok (.iload_n 2, 1) := by decide +kernel
theorem d_No_vacateAllOthers_33 : decode b_No_vacateAllOthers 33 = .ok (.iconst 1, 1) := by decide +kernel
theorem d_No_vacateAllOthers_34 : decode b_No_vacateAllOthers 34 = .ok (.iadd, 1) := by decide +kernel
theorem d_No_vacateAllOthers_35 : decode b_No_vacateAllOthers 35 = .ok (.istore_n 1, 1) := by decide +kernel
theorem d_No_vacateAllOthers_36 : decode b_No_vacateAllOthers 36 = .ok (.aload_n 0, 1) := by decide +kernel
theorem d_No_vacateAllOthers_37 : decode b_No_vacateAllOthers 37 = .ok (.dup, 1) := by decide +kernel
theorem d_No_vacateAllOthers_38 : decode b_No_vacateAllOthers 38 = .ok (.getfield 43, 3) := by decide +kernel
theorem d_No_vacateAllOthers_41 : decode b_No_vacateAllOthers 41 = .ok (.iconst 1, 1) := by decide +kernel
theorem d_No_vacateAllOthers_42 : decode b_No_vacateAllOthers 42 = .ok (.iadd, 1) := by decide +kernel
theorem d_No_vacateAllOthers_43 : decode b_No_vacateAllOthers 43 = .ok (.putfield 43, 3) := by decide +kernel
theorem d_No_vacateAllOthers_46 : decode b_No_vacateAllOthers 46 = .ok (.goto 8, 3) := by decide +kernel
theorem d_No_vacateAllOthers_49 : decode b_No_vacateAllOthers 49 = .ok (.aload_n 0, 1) := by decide +kernel
theorem d_No_vacateAllOthers_50 : decode b_No_vacateAllOthers 50 = .ok (.iload_n 2, 1) := by decide +kernel
theorem d_No_vacateAllOthers_51 : decode b_No_vacateAllOthers 51 = .ok (.invokevirtual 96, 3) := by decide +kernel
theorem d_No_vacateAllOthers_54 : decode b_No_vacateAllOthers 54 = .ok (.iinc 2 1, 3) := by decide +kernel
theorem d_No_vacateAllOthers_57 : decode b_No_vacateAllOthers 57 = .ok (.goto (-48), 3) := by decide +kernel
theorem d_No_vacateAllOthers_60 : decode b_No_vacateAllOthers 60 = .ok (.aload_n 0, 1) := by decide +kernel
theorem d_No_vacateAllOthers_61 : decode b_No_vacateAllOthers 61 = .ok (.iload_n 1, 1) := by decide +kernel
theorem d_No_vacateAllOthers_62 : decode b_No_vacateAllOthers 62 = .ok (.putfield 36, 3) := by decide +kernel
theorem d_No_vacateAllOthers_65 : decode b_No_vacateAllOthers 65 = .ok (.aload_n 0, 1) := by decide +kernel
theorem d_No_vacateAllOthers_66 : decode b_No_vacateAllOthers 66 = .ok (.iconst 0, 1) := by decide +kernel
theorem d_No_vacateAllOthers_67 : decode b_No_vacateAllOthers 67 = .ok (.putfield 40, 3) := by decide +kernel
theorem d_No_vacateAllOthers_70 : decode b_No_vacateAllOthers 70 = .ok (.aload_n 0, 1) := by decide +kernel
theorem d_No_vacateAllOthers_71 : decode b_No_vacateAllOthers 71 = .ok (.iconst 0, 1) := by decide +kernel
theorem d_No_vacateAllOthers_72 : decode b_No_vacateAllOthers 72 = .ok (.putfield 46, 3) := by decide +kernel
theorem d_No_vacateAllOthers_75 : decode b_No_vacateAllOthers 75 = .ok (.return_, 1) := by decide +kernel
theorem d_No_keepMarkedLeaders_0 : decode b_No_keepMarkedLeaders 0 = .ok (.aload_n 0, 1) := by decide +kernel
theorem d_No_keepMarkedLeaders_1 : decode b_No_keepMarkedLeaders 1 = .ok (.getfield 52, 3) := by decide +kernel
theorem d_No_keepMarkedLeaders_4 : decode b_No_keepMarkedLeaders 4 = .ok (.invokevirtual 142, 3) := by decide +kernel
theorem d_No_keepMarkedLeaders_7 : decode b_No_keepMarkedLeaders 7 = .ok (.iconst 0, 1) := by decide +kernel
theorem d_No_keepMarkedLeaders_8 : decode b_No_keepMarkedLeaders 8 = .ok (.istore_n 1, 1) := by decide +kernel
theorem d_No_keepMarkedLeaders_9 : decode b_No_keepMarkedLeaders 9 = .ok (.iload_n 1, 1) := by decide +kernel
theorem d_No_keepMarkedLeaders_10 : decode b_No_keepMarkedLeaders 10 = .ok (.aload_n 0, 1) := by decide +kernel
theorem d_No_keepMarkedLeaders_11 : decode b_No_keepMarkedLeaders 11 = .ok (.getfield 36, 3) := by decide +kernel
theorem d_No_keepMarkedLeaders_14 : decode b_No_keepMarkedLeaders 14 = .ok (.if_icmp .ge 22, 3) := by decide +kernel
theorem d_No_keepMarkedLeaders_17 : decode b_No_keepMarkedLeaders 17 = .ok (.aload_n 0, 1) := by decide +kernel
theorem d_No_keepMarkedLeaders_18 : decode b_No_keepMarkedLeaders 18 = .ok (.iload_n 1, 1) := by decide +kernel
theorem d_No_keepMarkedLeaders_19 : decode b_No_keepMarkedLeaders 19 = .ok (.invokevirtual 145, 3) := by decide +kernel
theorem d_No_keepMarkedLeaders_22 : decode b_No_keepMarkedLeaders 22 = .ok (.ifCond .eq 8, 3) := by decide +kernel
theorem d_No_keepMarkedLeaders_25 : decode b_No_keepMarkedLeaders 25 = .ok (.aload_n 0, 1) := by decide +kernel
theorem d_No_keepMarkedLeaders_26 : decode b_No_keepMarkedLeaders 26 = .ok (.iload_n 1, 1) := by decide +kernel
theorem d_No_keepMarkedLeaders_27 : decode b_No_keepMarkedLeaders 27 = .ok (.invokevirtual 148, 3) := by decide +kernel
theorem d_No_keepMarkedLeaders_30 : decode b_No_keepMarkedLeaders 30 = .ok (.iinc 1 1, 3) := by decide +kernel
theorem d_No_keepMarkedLeaders_33 : decode b_No_keepMarkedLeaders 33 = .ok (.goto (-24), 3) := by decide +kernel
theorem d_No_keepMarkedLeaders_36 : decode b_No_keepMarkedLeaders 36 = .ok (.aload_n 0, 1) := by decide +kernel
theorem d_No_keepMarkedLeaders_37 : decode b_No_keepMarkedLeaders 37 = .ok (.getfield 52, 3) := by decide +kernel
theorem d_No_keepMarkedLeaders_40 : decode b_No_keepMarkedLeaders 40 = .ok (.invokevirtual 151, 3) := by decide +kernel
theorem d_No_keepMarkedLeaders_43 : decode b_No_keepMarkedLeaders 43 = .ok (.aload_n 0, 1) := by decide +kernel
theorem d_No_keepMarkedLeaders_44 : decode b_No_keepMarkedLeaders 44 = .ok (.invokevirtual 154, 3) := by decide +kernel
theorem d_No_keepMarkedLeaders_47 : decode b_No_keepMarkedLeaders 47 = .ok (.return_, 1) := by decide +kernel
