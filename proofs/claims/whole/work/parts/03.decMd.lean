theorem d_Md_init_0 : decode b_Md_init 0 = .ok (.aload_n 0, 1) := by decide +kernel
theorem d_Md_init_1 : decode b_Md_init 1 = .ok (.invokespecial 1, 3) := by decide +kernel
theorem d_Md_init_4 : decode b_Md_init 4 = .ok (.aload_n 0, 1) := by decide +kernel
theorem d_Md_init_5 : decode b_Md_init 5 = .ok (.ldc 9, 2) := by decide +kernel
theorem d_Md_init_7 : decode b_Md_init 7 = .ok (.newarray .byte, 2) := by decide +kernel
theorem d_Md_init_9 : decode b_Md_init 9 = .ok (.putfield 10, 3) := by decide +kernel
theorem d_Md_init_12 : decode b_Md_init 12 = .ok (.aload_n 0, 1) := by decide +kernel
theorem d_Md_init_13 : decode b_Md_init 13 = .ok (.ldc 9, 2) := by decide +kernel
theorem d_Md_init_15 : decode b_Md_init 15 = .ok (.newarray .int, 2) := by decide +kernel
theorem d_Md_init_17 : decode b_Md_init 17 = .ok (.putfield 14, 3) := by decide +kernel
theorem d_Md_init_20 : decode b_Md_init 20 = .ok (.aload_n 0, 1) := by decide +kernel
theorem d_Md_init_21 : decode b_Md_init 21 = .ok (.ldc 9, 2) := by decide +kernel
theorem d_Md_init_23 : decode b_Md_init 23 = .ok (.newarray .int, 2) := by decide +kernel
theorem d_Md_init_25 : decode b_Md_init 25 = .ok (.putfield 18, 3) := by decide +kernel
theorem d_Md_init_28 : decode b_Md_init 28 = .ok (.aload_n 0, 1) := by decide +kernel
theorem d_Md_init_29 : decode b_Md_init 29 = .ok (.ldc 9, 2) := by decide +kernel
theorem d_Md_init_31 : decode b_Md_init 31 = .ok (.newarray .int, 2) := by decide +kernel
theorem d_Md_init_33 : decode b_Md_init 33 = .ok (.putfield 21, 3) := by decide +kernel
theorem d_Md_init_36 : decode b_Md_init 36 = .ok (.aload_n 0, 1) := by decide +kernel
theorem d_Md_init_37 : decode b_Md_init 37 = .ok (.ldc 9, 2) := by decide +kernel
theorem d_Md_init_39 : decode b_Md_init 39 = .ok (.newarray .boolean, 2) := by decide +kernel
theorem d_Md_init_41 : decode b_Md_init 41 = .ok (.putfield 24, 3) := by decide +kernel
theorem d_Md_init_44 : decode b_Md_init 44 = .ok (.aload_n 0, 1) := by decide +kernel
theorem d_Md_init_45 : decode b_Md_init 45 = .ok (.ldc 9, 2) := by decide +kernel
theorem d_Md_init_47 : decode b_Md_init 47 = .ok (.newarray .boolean, 2) := by decide +kernel
theorem d_Md_init_49 : decode b_Md_init 49 = .ok (.putfield 28, 3) := by decide +kernel
theorem d_Md_init_52 : decode b_Md_init 52 = .ok (.aload_n 0, 1) := by decide +kernel
theorem d_Md_init_53 : decode b_Md_init 53 = .ok (.ldc 9, 2) := by decide +kernel
theorem d_Md_init_55 : decode b_Md_init 55 = .ok (.newarray .int, 2) := by decide +kernel
theorem d_Md_init_57 : decode b_Md_init 57 = .ok (.putfield 31, 3) := by decide +kernel
theorem d_Md_init_60 : decode b_Md_init 60 = .ok (.aload_n 0, 1) := by decide +kernel
theorem d_Md_init_61 : decode b_Md_init 61 = .ok (.ldc 9, 2) := by decide +kernel
theorem d_Md_init_63 : decode b_Md_init 63 = .ok (.newarray .int, 2) := by decide +kernel
theorem d_Md_init_65 : decode b_Md_init 65 = .ok (.putfield 34, 3) := by decide +kernel
theorem d_Md_init_68 : decode b_Md_init 68 = .ok (.aload_n 0, 1) := by decide +kernel
theorem d_Md_init_69 : decode b_Md_init 69 = .ok (.ldc 9, 2) := by decide +kernel
theorem d_Md_init_71 : decode b_Md_init 71 = .ok (.newarray .int, 2) := by decide +kernel
theorem d_Md_init_73 : decode b_Md_init 73 = .ok (.putfield 37, 3) := by decide +kernel
theorem d_Md_init_76 : decode b_Md_init 76 = .ok (.aload_n 0, 1) := by decide +kernel
theorem d_Md_init_77 : decode b_Md_init 77 = .ok (.ldc 40, 2) := by decide +kernel
theorem d_Md_init_79 : decode b_Md_init 79 = .ok (.newarray .int, 2) := by decide +kernel
theorem d_Md_init_81 : decode b_Md_init 81 = .ok (.putfield 41, 3) := by decide +kernel
theorem d_Md_init_84 : decode b_Md_init 84 = .ok (.aload_n 0, 1) := by decide +kernel
theorem d_Md_init_85 : decode b_Md_init 85 = .ok (.ldc 40, 2) := by decide +kernel
theorem d_Md_init_87 : decode b_Md_init 87 = .ok (.newarray .int, 2) := by decide +kernel
theorem d_Md_init_89 : decode b_Md_init 89 = .ok (.putfield 44, 3) := by decide +kernel
theorem d_Md_init_92 : decode b_Md_init 92 = .ok (.aload_n 0, 1) := by decide +kernel
theorem d_Md_init_93 : decode b_Md_init 93 = .ok (.sipush 255, 3) := by decide +kernel
theorem d_Md_init_96 : decode b_Md_init 96 = .ok (.newarray .int, 2) := by decide +kernel
theorem d_Md_init_98 : decode b_Md_init 98 = .ok (.putfield 47, 3) := by decide +kernel
theorem d_Md_init_101 : decode b_Md_init 101 = .ok (.aload_n 0, 1) := by decide +kernel
theorem d_Md_init_102 : decode b_Md_init 102 = .ok (.sipush 255, 3) := by decide +kernel
theorem d_Md_init_105 : decode b_Md_init 105 = .ok (.newarray .int, 2) := by decide +kernel
theorem d_Md_init_107 : decode b_Md_init 107 = .ok (.putfield 50, 3) := by decide +kernel
theorem d_Md_init_110 : decode b_Md_init 110 = .ok (.aload_n 0, 1) := by decide +kernel
theorem d_Md_init_111 : decode b_Md_init 111 = .ok (.ldc 9, 2) := by decide +kernel
theorem d_Md_init_113 : decode b_Md_init 113 = .ok (.newarray .int, 2) := by decide +kernel
theorem d_Md_init_115 : decode b_Md_init 115 = .ok (.putfield 53, 3) := by decide +kernel
theorem d_Md_init_118 : decode b_Md_init 118 = .ok (.aload_n 0, 1) := by decide +kernel
theorem d_Md_init_119 : decode b_Md_init 119 = .ok (.ldc 9, 2) := by decide +kernel
theorem d_Md_init_121 : decode b_Md_init 121 = .ok (.newarray .int, 2) := by decide +kernel
theorem d_Md_init_123 : decode b_Md_init 123 = .ok (.putfield 56, 3) := by decide +kernel
theorem d_Md_init_126 : decode b_Md_init 126 = .ok (.aload_n 0, 1) := by decide +kernel
theorem d_Md_init_127 : decode b_Md_init 127 = .ok (.ldc 9, 2) := by decide +kernel
theorem d_Md_init_129 : decode b_Md_init 129 = .ok (.newarray .int, 2) := by decide +kernel
theorem d_Md_init_131 : decode b_Md_init 131 = .ok (.putfield 59, 3) := by decide +kernel
theorem d_Md_init_134 : decode b_Md_init 134 = .ok (.aload_n 0, 1) := by decide +kernel
theorem d_Md_init_135 : decode b_Md_init 135 = .ok (.ldc 9, 2) := by decide +kernel
theorem d_Md_init_137 : decode b_Md_init 137 = .ok (.newarray .int, 2) := by decide +kernel
theorem d_Md_init_139 : decode b_Md_init 139 = .ok (.putfield 62, 3) := by decide +kernel
theorem d_Md_init_142 : decode b_Md_init 142 = .ok (.aload_n 0, 1) := by decide +kernel
theorem d_Md_init_143 : decode b_Md_init 143 = .ok (.ldc 9, 2) := by decide +kernel
theorem d_Md_init_145 : decode b_Md_init 145 = .ok (.newarray .int, 2) := by decide +kernel
theorem d_Md_init_147 : decode b_Md_init 147 = .ok (.putfield 65, 3) := by decide +kernel
theorem d_Md_init_150 : decode b_Md_init 150 = .ok (.aload_n 0, 1) := by decide +kernel
theorem d_Md_init_151 : decode b_Md_init 151 = .ok (.sipush 256, 3) := by decide +kernel
theorem d_Md_init_154 : decode b_Md_init 154 = .ok (.newarray .int, 2) := by decide +kernel
theorem d_Md_init_156 : decode b_Md_init 156 = .ok (.putfield 68, 3) := by decide +kernel
theorem d_Md_init_159 : decode b_Md_init 159 = .ok (.aload_n 0, 1) := by decide +kernel
theorem d_Md_init_160 : decode b_Md_init 160 = .ok (.sipush 256, 3) := by decide +kernel
theorem d_Md_init_163 : decode b_Md_init 163 = .ok (.newarray .int, 2) := by decide +kernel
theorem d_Md_init_165 : decode b_Md_init 165 = .ok (.putfield 71, 3) := by decide +kernel
theorem d_Md_init_168 : decode b_Md_init 168 = .ok (.iconst 0, 1) := by decide +kernel
theorem d_Md_init_169 : decode b_Md_init 169 = .ok (.istore_n 1, 1) := by decide +kernel
theorem d_Md_init_170 : decode b_Md_init 170 = .ok (.iload_n 1, 1) := by decide +kernel
theorem d_Md_init_171 : decode b_Md_init 171 = .ok (.ldc 9, 2) := by decide +kernel
theorem d_Md_init_173 : decode b_Md_init 173 = .ok (.if_icmp .ge 16, 3) := by decide +kernel
theorem d_Md_init_176 : decode b_Md_init 176 = .ok (.aload_n 0, 1) := by decide +kernel
theorem d_Md_init_177 : decode b_Md_init 177 = .ok (.getfield 10, 3) := by decide +kernel
theorem d_Md_init_180 : decode b_Md_init 180 = .ok (.iload_n 1, 1) := by decide +kernel
theorem d_Md_init_181 : decode b_Md_init 181 = .ok (.iconst (-1), 1) := by decide +kernel
theorem d_Md_init_182 : decode b_Md_init 182 = .ok (.bastore, 1) := by decide +kernel
theorem d_Md_init_183 : decode b_Md_init 183 = .ok (.iinc 1 1, 3) := by decide +kernel
theorem d_Md_init_186 : decode b_Md_init 186 = .ok (.goto (-16), 3) := by decide +kernel
theorem d_Md_init_189 : decode b_Md_init 189 = .ok (.return_, 1) := by decide +kernel
theorem d_Md_has_0 : decode b_Md_has 0 = .ok (.iload_n 1, 1) := by decide +kernel
theorem d_Md_has_1 : decode b_Md_has 1 = .ok (.ifCond .lt 25, 3) := by decide +kernel
theorem d_Md_has_4 : decode b_Md_has 4 = .ok (.iload_n 1, 1) := by decide +kernel
theorem d_Md_has_5 : decode b_Md_has 5 = .ok (.aload_n 0, 1) := by decide +kernel
theorem d_Md_has_6 : decode b_Md_has 6 = .ok (.getfield 74, 3) := by decide +kernel
theorem d_Md_has_9 : decode b_Md_has 9 = .ok (.if_icmp .ge 17, 3) := by decide +kernel
theorem d_Md_has_12 : decode b_Md_has 12 = .ok (.aload_n 0, 1) := by decide +kernel
theorem d_Md_has_13 : decode b_Md_has 13 = .ok (.getfield 10, 3) := by decide +kernel
theorem d_Md_has_16 : decode b_Md_has 16 = .ok (.iload_n 1, 1) := by decide +kernel
theorem d_Md_has_17 : decode b_Md_has 17 = .ok (.baload, 1) := by decide +kernel
theorem d_Md_has_18 : decode b_Md_has 18 = .ok (.iconst (-1), 1) := by decide +kernel
theorem d_Md_has_19 : decode b_Md_has 19 = .ok (.if_icmp .eq 7, 3) := by decide +kernel
theorem d_Md_has_22 : decode b_Md_has 22 = .ok (.iconst 1, 1) := by decide +kernel
theorem d_Md_has_23 : decode b_Md_has 23 = .ok (.goto 4, 3) := by decide +kernel
theorem d_Md_has_26 : decode b_Md_has 26 = .ok (.iconst 0, 1) := by decide +kernel
theorem d_Md_has_27 : decode b_Md_has 27 = .ok (.ireturn, 1) := by decide +kernel
theorem d_Md_rank_0 : decode b_Md_rank 0 = .ok (.iload_n 0, 1) := by decide +kernel
theorem d_Md_rank_1 : decode b_Md_rank 1 = .ok (.ifCond .le 7, 3) := by decide +kernel
theorem d_Md_rank_4 : decode b_Md_rank 4 = .ok (.iload_n 0, 1) := by decide +kernel
theorem d_Md_rank_5 : decode b_Md_rank 5 = .ok (.goto 8, 3) := by decide +kernel
theorem d_Md_rank_8 : decode b_Md_rank 8 = .ok (.sipush 10000, 3) := by decide +kernel
theorem d_Md_rank_11 : decode b_Md_rank 11 = .ok (.iload_n 0, 1) := by decide +kernel
theorem d_Md_rank_12 : decode b_Md_rank 12 = .ok (.isub, 1) := by decide +kernel
theorem d_Md_rank_13 : decode b_Md_rank 13 = .ok (.ireturn, 1) := by decide +kernel
theorem d_Md_unmark_0 : decode b_Md_unmark 0 = .ok (.iconst 0, 1) := by decide +kernel
theorem d_Md_unmark_1 : decode b_Md_unmark 1 = .ok (.istore_n 1, 1) := by decide +kernel
theorem d_Md_unmark_2 : decode b_Md_unmark 2 = .ok (.iload_n 1, 1) := by decide +kernel
theorem d_Md_unmark_3 : decode b_Md_unmark 3 = .ok (.aload_n 0, 1) := by decide +kernel
theorem d_Md_unmark_4 : decode b_Md_unmark 4 = .ok (.getfield 74, 3) := by decide +kernel
theorem d_Md_unmark_7 : decode b_Md_unmark 7 = .ok (.if_icmp .ge 16, 3) := by decide +kernel
theorem d_Md_unmark_10 : decode b_Md_unmark 10 = .ok (.aload_n 0, 1) := by decide +kernel
theorem d_Md_unmark_11 : decode b_Md_unmark 11 = .ok (.getfield 28, 3) := by decide +kernel
theorem d_Md_unmark_14 : decode b_Md_unmark 14 = .ok (.iload_n 1, 1) := by decide +kernel
theorem d_Md_unmark_15 : decode b_Md_unmark 15 = .ok (.iconst 0, 1) := by decide +kernel
theorem d_Md_unmark_16 : decode b_Md_unmark 16 = .ok (.bastore, 1) := by decide +kernel
theorem d_Md_unmark_17 : decode b_Md_unmark 17 = .ok (.iinc 1 1, 3) := by decide +kernel
theorem d_Md_unmark_20 : decode b_Md_unmark 20 = .ok (.goto (-18), 3) := by decide +kernel
theorem d_Md_unmark_23 : decode b_Md_unmark 23 = .ok (.return_, 1) := by decide +kernel
theorem d_Md_make_0 : decode b_Md_make 0 = .ok (.aload_n 0, 1) := by decide +kernel
theorem d_Md_make_1 : decode b_Md_make 1 = .ok (.getfield 78, 3) := by decide +kernel
theorem d_Md_make_4 : decode b_Md_make 4 = .ok (.ldc 9, 2) := by decide +kernel
theorem d_Md_make_6 : decode b_Md_make 6 = .ok (.if_icmp .ne 6, 3) := by decide +kernel
theorem d_Md_make_9 : decode b_Md_make 9 = .ok (.bipush (-2), 2) := by decide +kernel
theorem d_Md_make_11 : decode b_Md_make 11 = .ok (.ireturn, 1) := by decide +kernel
theorem d_Md_make_12 : decode b_Md_make 12 = .ok (.aload_n 0, 1) := by decide +kernel
theorem d_Md_make_13 : decode b_Md_make 13 = .ok (.invokevirtual 81, 3) := by decide +kernel
theorem d_Md_make_16 : decode b_Md_make 16 = .ok (.iconst 0, 1) := by decide +kernel
theorem d_Md_make_17 : decode b_Md_make 17 = .ok (.istore_n 3, 1) := by decide +kernel
theorem d_Md_make_18 : decode b_Md_make 18 = .ok (.aload_n 0, 1) := by decide +kernel
theorem d_Md_make_19 : decode b_Md_make 19 = .ok (.getfield 10, 3) := by decide +kernel
theorem d_Md_make_22 : decode b_Md_make 22 = .ok (.iload_n 3, 1) := by decide +kernel
theorem d_Md_make_23 : decode b_Md_make 23 = .ok (.baload, 1) := by decide +kernel
theorem d_Md_make_24 : decode b_Md_make 24 = .ok (.iconst (-1), 1) := by decide +kernel
theorem d_Md_make_25 : decode b_Md_make 25 = .ok (.if_icmp .eq 9, 3) := by decide +kernel
theorem d_Md_make_28 : decode b_Md_make 28 = .ok (.iinc 3 1, 3) := by decide +kernel
theorem d_Md_make_31 : decode b_Md_make 31 = .ok (.goto (-13), 3) := by decide +kernel
theorem d_Md_make_34 : decode b_Md_make 34 = .ok (.aload_n 0, 1) := by decide +kernel
theorem d_Md_make_35 : decode b_Md_make 35 = .ok (.getfield 10, 3) := by decide +kernel
theorem d_Md_make_38 : decode b_Md_make 38 = .ok (.iload_n 3, 1) := by decide +kernel
theorem d_Md_make_39 : decode b_Md_make 39 = .ok (.iload_n 1, 1) := by decide +kernel
theorem d_Md_make_40 : decode b_Md_make 40 = .ok (.i2b, 1) := by decide +kernel
theorem d_Md_make_41 : decode b_Md_make 41 = .ok (.bastore, 1) := by decide +kernel
theorem d_Md_make_42 : decode b_Md_make 42 = .ok (.aload_n 0, 1) := by decide +kernel
theorem d_Md_make_43 : decode b_Md_make 43 = .ok (.getfield 14, 3) := by decide +kernel
theorem d_Md_make_46 : decode b_Md_make 46 = .ok (.iload_n 3, 1) := by decide +kernel
theorem d_Md_make_47 : decode b_Md_make 47 = .ok (.iload_n 2, 1) := by decide +kernel
theorem d_Md_make_48 : decode b_Md_make 48 = .ok (.iastore, 1) := by decide +kernel
theorem d_Md_make_49 : decode b_Md_make 49 = .ok (.aload_n 0, 1) := by decide +kernel
theorem d_Md_make_50 : decode b_Md_make 50 = .ok (.getfield 18, 3) := by decide +kernel
theorem d_Md_make_53 : decode b_Md_make 53 = .ok (.iload_n 3, 1) := by decide +kernel
theorem d_Md_make_54 : decode b_Md_make 54 = .ok (.aload_n 0, 1) := by decide +kernel
theorem d_Md_make_55 : decode b_Md_make 55 = .ok (.getfield 84, 3) := by decide +kernel
theorem d_Md_make_58 : decode b_Md_make 58 = .ok (.iastore, 1) := by decide +kernel
theorem d_Md_make_59 : decode b_Md_make 59 = .ok (.aload_n 0, 1) := by decide +kernel
theorem d_Md_make_60 : decode b_Md_make 60 = .ok (.getfield 21, 3) := by decide +kernel
theorem d_Md_make_63 : decode b_Md_make 63 = .ok (.iload_n 3, 1) := by decide +kernel
theorem d_Md_make_64 : decode b_Md_make 64 = .ok (.iconst 0, 1) := by decide +kernel
theorem d_Md_make_65 : decode b_Md_make 65 = .ok (.iastore, 1) := by decide +kernel
theorem d_Md_make_66 : decode b_Md_make 66 = .ok (.aload_n 0, 1) := by decide +kernel
theorem d_Md_make_67 : decode b_Md_make 67 = .ok (.getfield 24, 3) := by decide +kernel
theorem d_Md_make_70 : decode b_Md_make 70 = .ok (.iload_n 3, 1) := by decide +kernel
theorem d_Md_make_71 : decode b_Md_make 71 = .ok (.iconst 0, 1) := by decide +kernel
theorem d_Md_make_72 : decode b_Md_make 72 = .ok (.bastore, 1) := by decide +kernel
theorem d_Md_make_73 : decode b_Md_make 73 = .ok (.aload_n 0, 1) := by decide +kernel
theorem d_Md_make_74 : decode b_Md_make 74 = .ok (.getfield 28, 3) := by decide +kernel
theorem d_Md_make_77 : decode b_Md_make 77 = .ok (.iload_n 3, 1) := by decide +kernel
theorem d_Md_make_78 : decode b_Md_make 78 = .ok (.iconst 0, 1) := by decide +kernel
theorem d_Md_make_79 : decode b_Md_make 79 = .ok (.bastore, 1) := by decide +kernel
theorem d_Md_make_80 : decode b_Md_make 80 = .ok (.aload_n 0, 1) := by decide +kernel
theorem d_Md_make_81 : decode b_Md_make 81 = .ok (.getfield 31, 3) := by decide +kernel
theorem d_Md_make_84 : decode b_Md_make 84 = .ok (.iload_n 3, 1) := by decide +kernel
theorem d_Md_make_85 : decode b_Md_make 85 = .ok (.iload_n 3, 1) := by decide +kernel
theorem d_Md_make_86 : decode b_Md_make 86 = .ok (.iastore, 1) := by decide +kernel
theorem d_Md_make_87 : decode b_Md_make 87 = .ok (.aload_n 0, 1) := by decide +kernel
theorem d_Md_make_88 : decode b_Md_make 88 = .ok (.iload_n 3, 1) := by decide +kernel
theorem d_Md_make_89 : decode b_Md_make 89 = .ok (.aload_n 0, 1) := by decide +kernel
theorem d_Md_make_90 : decode b_Md_make 90 = .ok (.getfield 74, 3) := by decide +kernel
theorem d_Md_make_93 : decode b_Md_make 93 = .ok (.if_icmp .lt 9, 3) := by decide +kernel
theorem d_Md_make_96 : decode b_Md_make 96 = .ok (.iload_n 3, 1) := by decide +kernel
theorem d_Md_make_97 : decode b_Md_make 97 = .ok (.iconst 1, 1) := by decide +kernel
theorem d_Md_make_98 : decode b_Md_make 98 = .ok (.iadd, 1) := by decide +kernel
theorem d_Md_make_99 : decode b_Md_make 99 = .ok (.goto 7, 3) := by decide +kernel
theorem d_Md_make_102 : decode b_Md_make 102 = .ok (.aload_n 0, 1) := by decide +kernel
theorem d_Md_make_103 : decode b_Md_make 103 = .ok (.getfield 74, 3) := by decide +kernel
theorem d_Md_make_106 : decode b_Md_make 106 = .ok (.putfield 74, 3) := by decide +kernel
theorem d_Md_make_109 : decode b_Md_make 109 = .ok (.aload_n 0, 1) := by decide +kernel
theorem d_Md_make_110 : decode b_Md_make 110 = .ok (.dup, 1) := by decide +kernel
theorem d_Md_make_111 : decode b_Md_make 111 = .ok (.getfield 78, 3) := by decide +kernel
theorem d_Md_make_114 : decode b_Md_make 114 = .ok (.iconst 1, 1) := by decide +kernel
theorem d_Md_make_115 : decode b_Md_make 115 = .ok (.iadd, 1) := by decide +kernel
theorem d_Md_make_116 : decode b_Md_make 116 = .ok (.putfield 78, 3) := by decide +kernel
theorem d_Md_make_119 : decode b_Md_make 119 = .ok (.iload_n 3, 1) := by decide +kernel
theorem d_Md_make_120 : decode b_Md_make 120 = .ok (.ireturn, 1) := by decide +kernel
theorem d_Md_variable_0 : decode b_Md_variable 0 = .ok (.aload_n 0, 1) := by decide +kernel
theorem d_Md_variable_1 : decode b_Md_variable 1 = .ok (.iconst 0, 1) := by decide +kernel
theorem d_Md_variable_2 : decode b_Md_variable 2 = .ok (.iconst 0, 1) := by decide +kernel
theorem d_Md_variable_3 : decode b_Md_variable 3 = .ok (.invokevirtual 87, 3) := by decide +kernel
theorem d_Md_variable_6 : decode b_Md_variable 6 = .ok (.ireturn, 1) := by decide +kernel
theorem d_Md_number_0 : decode b_Md_number 0 = .ok (.aload_n 0, 1) := by decide +kernel
theorem d_Md_number_1 : decode b_Md_number 1 = .ok (.iconst 1, 1) := by decide +kernel
theorem d_Md_number_2 : decode b_Md_number 2 = .ok (.iload_n 1, 1) := by decide +kernel
theorem d_Md_number_3 : decode b_Md_number 3 = .ok (.invokevirtual 87, 3) := by decide +kernel
theorem d_Md_number_6 : decode b_Md_number 6 = .ok (.ireturn, 1) := by decide +kernel
theorem d_Md_atom_0 : decode b_Md_atom 0 = .ok (.iload_n 1, 1) := by decide +kernel
theorem d_Md_atom_1 : decode b_Md_atom 1 = .ok (.ifCond .lt 10, 3) := by decide +kernel
theorem d_Md_atom_4 : decode b_Md_atom 4 = .ok (.iload_n 1, 1) := by decide +kernel
theorem d_Md_atom_5 : decode b_Md_atom 5 = .ok (.sipush 8192, 3) := by decide +kernel
theorem d_Md_atom_8 : decode b_Md_atom 8 = .ok (.if_icmp .lt 7, 3) := by decide +kernel
theorem d_Md_atom_11 : decode b_Md_atom 11 = .ok (.iconst (-1), 1) := by decide +kernel
theorem d_Md_atom_12 : decode b_Md_atom 12 = .ok (.goto 9, 3) := by decide +kernel
theorem d_Md_atom_15 : decode b_Md_atom 15 = .ok (.aload_n 0, 1) := by decide +kernel
theorem d_Md_atom_16 : decode b_Md_atom 16 = .ok (.iconst 2, 1) := by decide +kernel
theorem d_Md_atom_17 : decode b_Md_atom 17 = .ok (.iload_n 1, 1) := by decide +kernel
theorem d_Md_atom_18 : decode b_Md_atom 18 = .ok (.invokevirtual 87, 3) := by decide +kernel
theorem d_Md_atom_21 : decode b_Md_atom 21 = .ok (.ireturn, 1) := by decide +kernel
theorem d_Md_push_0 : decode b_Md_push 0 = .ok (.aload_n 0, 1) := by decide +kernel
theorem d_Md_push_1 : decode b_Md_push 1 = .ok (.iload_n 2, 1) := by decide +kernel
theorem d_Md_push_2 : decode b_Md_push 2 = .ok (.invokevirtual 91, 3) := by decide +kernel
theorem d_Md_push_5 : decode b_Md_push 5 = .ok (.ifCond .eq 25, 3) := by decide +kernel
theorem d_Md_push_8 : decode b_Md_push 8 = .ok (.iload_n 1, 1) := by decide +kernel
theorem d_Md_push_9 : decode b_Md_push 9 = .ok (.ifCond .eq 21, 3) := by decide +kernel
theorem d_Md_push_12 : decode b_Md_push 12 = .ok (.iload_n 1, 1) := by decide +kernel
theorem d_Md_push_13 : decode b_Md_push 13 = .ok (.sipush 9999, 3) := by decide +kernel
theorem d_Md_push_16 : decode b_Md_push 16 = .ok (.if_icmp .gt 14, 3) := by decide +kernel
theorem d_Md_push_19 : decode b_Md_push 19 = .ok (.iload_n 1, 1) := by decide +kernel
theorem d_Md_push_20 : decode b_Md_push 20 = .ok (.sipush (-8192), 3) := by decide +kernel
theorem d_Md_push_23 : decode b_Md_push 23 = .ok (.if_icmp .lt 7, 3) := by decide +kernel
theorem d_Md_push_26 : decode b_Md_push 26 = .ok (.iconst 1, 1) := by decide +kernel
theorem d_Md_push_27 : decode b_Md_push 27 = .ok (.goto 4, 3) := by decide +kernel
theorem d_Md_push_30 : decode b_Md_push 30 = .ok (.iconst 0, 1) := by decide +kernel
theorem d_Md_push_31 : decode b_Md_push 31 = .ok (.istore_n 3, 1) := by decide +kernel
theorem d_Md_push_32 : decode b_Md_push 32 = .ok (.iconst 0, 1) := by decide +kernel
theorem d_Md_push_33 : decode b_Md_push 33 = .ok (.istore 4, 2) := by decide +kernel
theorem d_Md_push_35 : decode b_Md_push 35 = .ok (.iload 4, 2) := by decide +kernel
theorem d_Md_push_37 : decode b_Md_push 37 = .ok (.aload_n 0, 1) := by decide +kernel
theorem d_Md_push_38 : decode b_Md_push 38 = .ok (.getfield 95, 3) := by decide +kernel
theorem d_Md_push_41 : decode b_Md_push 41 = .ok (.if_icmp .ge 30, 3) := by decide +kernel
theorem d_Md_push_44 : decode b_Md_push 44 = .ok (.iload_n 3, 1) := by decide +kernel
theorem d_Md_push_45 : decode b_Md_push 45 = .ok (.ifCond .eq 26, 3) := by decide +kernel
theorem d_Md_push_48 : decode b_Md_push 48 = .ok (.aload_n 0, 1) := by decide +kernel
theorem d_Md_push_49 : decode b_Md_push 49 = .ok (.getfield 47, 3) := by decide +kernel
theorem d_Md_push_52 : decode b_Md_push 52 = .ok (.iload 4, 2) := by decide +kernel
theorem d_Md_push_54 : decode b_Md_push 54 = .ok (.iaload, 1) := by decide +kernel
theorem d_Md_push_55 : decode b_Md_push 55 = .ok (.iload_n 1, 1) := by decide +kernel
theorem d_Md_push_56 : decode b_Md_push 56 = .ok (.if_icmp .eq 7, 3) := by decide +kernel
theorem d_Md_push_59 : decode b_Md_push 59 = .ok (.iconst 1, 1) := by decide +kernel
theorem d_Md_push_60 : decode b_Md_push 60 = .ok (.goto 4, 3) := by decide +kernel
theorem d_Md_push_63 : decode b_Md_push 63 = .ok (.iconst 0, 1) := by decide +kernel
theorem d_Md_push_64 : decode b_Md_push 64 = .ok (.istore_n 3, 1) := by decide +kernel
theorem d_Md_push_65 : decode b_Md_push 65 = .ok (.iinc 4 1, 3) := by decide +kernel
theorem d_Md_push_68 : decode b_Md_push 68 = .ok (.goto (-33), 3) := by decide +kernel
theorem d_Md_push_71 : decode b_Md_push 71 = .ok (.iload_n 3, 1) := by decide +kernel
theorem d_Md_push_72 : decode b_Md_push 72 = .ok (.ifCond .ne 5, 3) := by decide +kernel
theorem d_Md_push_75 : decode b_Md_push 75 = .ok (.iconst (-1), 1) := by decide +kernel
theorem d_Md_push_76 : decode b_Md_push 76 = .ok (.ireturn, 1) := by decide +kernel
theorem d_Md_push_77 : decode b_Md_push 77 = .ok (.aload_n 0, 1) := by decide +kernel
theorem d_Md_push_78 : decode b_Md_push 78 = .ok (.getfield 95, 3) := by decide +kernel
theorem d_Md_push_81 : decode b_Md_push 81 = .ok (.sipush 255, 3) := by decide +kernel
theorem d_Md_push_84 : decode b_Md_push 84 = .ok (.if_icmp .ne 6, 3) := by decide +kernel
theorem d_Md_push_87 : decode b_Md_push 87 = .ok (.bipush (-2), 2) := by decide +kernel
theorem d_Md_push_89 : decode b_Md_push 89 = .ok (.ireturn, 1) := by decide +kernel
theorem d_Md_push_90 : decode b_Md_push 90 = .ok (.aload_n 0, 1) := by decide +kernel
theorem d_Md_push_91 : decode b_Md_push 91 = .ok (.getfield 95, 3) := by decide +kernel
theorem d_Md_push_94 : decode b_Md_push 94 = .ok (.istore 4, 2) := by decide +kernel
theorem d_Md_push_96 : decode b_Md_push 96 = .ok (.iload 4, 2) := by decide +kernel
theorem d_Md_push_98 : decode b_Md_push 98 = .ok (.ifCond .le 60, 3) := by decide +kernel
theorem d_Md_push_101 : decode b_Md_push 101 = .ok (.aload_n 0, 1) := by decide +kernel
theorem d_Md_push_102 : decode b_Md_push 102 = .ok (.getfield 47, 3) := by decide +kernel
theorem d_Md_push_105 : decode b_Md_push 105 = .ok (.iload 4, 2) := by decide +kernel
theorem d_Md_push_107 : decode b_Md_push 107 = .ok (.iconst 1, 1) := by decide +kernel
theorem d_Md_push_108 : decode b_Md_push 108 = .ok (.isub, 1) := by decide +kernel
theorem d_Md_push_109 : decode b_Md_push 109 = .ok (.iaload, 1) := by decide +kernel
theorem d_Md_push_110 : decode b_Md_push 110 = .ok (.invokestatic 98, 3) := by decide +kernel
theorem d_Md_push_113 : decode b_Md_push 113 = .ok (.iload_n 1, 1) := by decide +kernel
theorem d_Md_push_114 : decode b_Md_push 114 = .ok (.invokestatic 98, 3) := by decide +kernel
theorem d_Md_push_117 : decode b_Md_push 117 = .ok (.if_icmp .le 41, 3) := by decide +kernel
theorem d_Md_push_120 : decode b_Md_push 120 = .ok (.aload_n 0, 1) := by decide +kernel
theorem d_Md_push_121 : decode b_Md_push 121 = .ok (.getfield 47, 3) := by decide +kernel
theorem d_Md_push_124 : decode b_Md_push 124 = .ok (.iload 4, 2) := by decide +kernel
theorem d_Md_push_126 : decode b_Md_push 126 = .ok (.aload_n 0, 1) := by decide +kernel
theorem d_Md_push_127 : decode b_Md_push 127 = .ok (.getfield 47, 3) := by decide +kernel
theorem d_Md_push_130 : decode b_Md_push 130 = .ok (.iload 4, 2) := by decide +kernel
theorem d_Md_push_132 : decode b_Md_push 132 = .ok (.iconst 1, 1) := by decide +kernel
theorem d_Md_push_133 : decode b_Md_push 133 = .ok (.isub, 1) := by decide +kernel
theorem d_Md_push_134 : decode b_Md_push 134 = .ok (.iaload, 1) := by decide +kernel
theorem d_Md_push_135 : decode b_Md_push 135 = .ok (.iastore, 1) := by decide +kernel
theorem d_Md_push_136 : decode b_Md_push 136 = .ok (.aload_n 0, 1) := by decide +kernel
theorem d_Md_push_137 : decode b_Md_push 137 = .ok (.getfield 50, 3) := by decide +kernel
theorem d_Md_push_140 : decode b_Md_push 140 = .ok (.iload 4, 2) := by decide +kernel
theorem d_Md_push_142 : decode b_Md_push 142 = .ok (.aload_n 0, 1) := by decide +kernel
theorem d_Md_push_143 : decode b_Md_push 143 = .ok (.getfield 50, 3) := by decide +kernel
theorem d_Md_push_146 : decode b_Md_push 146 = .ok (.iload 4, 2) := by decide +kernel
theorem d_Md_push_148 : decode b_Md_push 148 = .ok (.iconst 1, 1) := by decide +kernel
theorem d_Md_push_149 : decode b_Md_push 149 = .ok (.isub, 1) := by decide +kernel
theorem d_Md_push_150 : decode b_Md_push 150 = .ok (.iaload, 1) := by decide +kernel
theorem d_Md_push_151 : decode b_Md_push 151 = .ok (.iastore, 1) := by decide +kernel
theorem d_Md_push_152 : decode b_Md_push 152 = .ok (.iinc 4 (-1), 3) := by decide +kernel
theorem d_Md_push_155 : decode b_Md_push 155 = .ok (.goto (-59), 3) := by decide +kernel
theorem d_Md_push_158 : decode b_Md_push 158 = .ok (.aload_n 0, 1) := by decide +kernel
theorem d_Md_push_159 : decode b_Md_push 159 = .ok (.getfield 47, 3) := by decide +kernel
theorem d_Md_push_162 : decode b_Md_push 162 = .ok (.iload 4, 2) := by decide +kernel
theorem d_Md_push_164 : decode b_Md_push 164 = .ok (.iload_n 1, 1) := by decide +kernel
theorem d_Md_push_165 : decode b_Md_push 165 = .ok (.iastore, 1) := by decide +kernel
theorem d_Md_push_166 : decode b_Md_push 166 = .ok (.aload_n 0, 1) := by decide +kernel
theorem d_Md_push_167 : decode b_Md_push 167 = .ok (.getfield 50, 3) := by decide +kernel
theorem d_Md_push_170 : decode b_Md_push 170 = .ok (.iload 4, 2) := by decide +kernel
theorem d_Md_push_172 : decode b_Md_push 172 = .ok (.iload_n 2, 1) := by decide +kernel
theorem d_Md_push_173 : decode b_Md_push 173 = .ok (.iastore, 1) := by decide +kernel
theorem d_Md_push_174 : decode b_Md_push 174 = .ok (.aload_n 0, 1) := by decide +kernel
theorem d_Md_push_175 : decode b_Md_push 175 = .ok (.dup, 1) := by decide +kernel
theorem d_Md_push_176 : decode b_Md_push 176 = .ok (.getfield 95, 3) := by decide +kernel
theorem d_Md_push_179 : decode b_Md_push 179 = .ok (.iconst 1, 1) := by decide +kernel
theorem d_Md_push_180 : decode b_Md_push 180 = .ok (.iadd, 1) := by decide +kernel
theorem d_Md_push_181 : decode b_Md_push 181 = .ok (.putfield 95, 3) := by decide +kernel
theorem d_Md_push_184 : decode b_Md_push 184 = .ok (.aload_n 0, 1) := by decide +kernel
theorem d_Md_push_185 : decode b_Md_push 185 = .ok (.getfield 95, 3) := by decide +kernel
theorem d_Md_push_188 : decode b_Md_push 188 = .ok (.ireturn, 1) := by decide +kernel
theorem d_Md_makeOf_0 : decode b_Md_makeOf 0 = .ok (.aload_n 0, 1) := by decide +kernel
theorem d_Md_makeOf_1 : decode b_Md_makeOf 1 = .ok (.getfield 84, 3) := by decide +kernel
theorem d_Md_makeOf_4 : decode b_Md_makeOf 4 = .ok (.aload_n 0, 1) := by decide +kernel
theorem d_Md_makeOf_5 : decode b_Md_makeOf 5 = .ok (.getfield 95, 3) := by decide +kernel
theorem d_Md_makeOf_8 : decode b_Md_makeOf 8 = .ok (.iadd, 1) := by decide +kernel
theorem d_Md_makeOf_9 : decode b_Md_makeOf 9 = .ok (.ldc 40, 2) := by decide +kernel
theorem d_Md_makeOf_11 : decode b_Md_makeOf 11 = .ok (.if_icmp .le 6, 3) := by decide +kernel
theorem d_Md_makeOf_14 : decode b_Md_makeOf 14 = .ok (.bipush (-2), 2) := by decide +kernel
theorem d_Md_makeOf_16 : decode b_Md_makeOf 16 = .ok (.ireturn, 1) := by decide +kernel
theorem d_Md_makeOf_17 : decode b_Md_makeOf 17 = .ok (.aload_n 0, 1) := by decide +kernel
theorem d_Md_makeOf_18 : decode b_Md_makeOf 18 = .ok (.iload_n 1, 1) := by decide +kernel
theorem d_Md_makeOf_19 : decode b_Md_makeOf 19 = .ok (.iload_n 2, 1) := by decide +kernel
theorem d_Md_makeOf_20 : decode b_Md_makeOf 20 = .ok (.invokevirtual 87, 3) := by decide +kernel
theorem d_Md_makeOf_23 : decode b_Md_makeOf 23 = .ok (.istore_n 3, 1) := by decide +kernel
theorem d_Md_makeOf_24 : decode b_Md_makeOf 24 = .ok (.iload_n 3, 1) := by decide +kernel
theorem d_Md_makeOf_25 : decode b_Md_makeOf 25 = .ok (.ifCond .ge 5, 3) := by decide +kernel
theorem d_Md_makeOf_28 : decode b_Md_makeOf 28 = .ok (.iload_n 3, 1) := by decide +kernel
theorem d_Md_makeOf_29 : decode b_Md_makeOf 29 = .ok (.ireturn, 1) := by decide +kernel
theorem d_Md_makeOf_30 : decode b_Md_makeOf 30 = .ok (.aload_n 0, 1) := by decide +kernel
theorem d_Md_makeOf_31 : decode b_Md_makeOf 31 = .ok (.getfield 21, 3) := by decide +kernel
theorem d_Md_makeOf_34 : decode b_Md_makeOf 34 = .ok (.iload_n 3, 1) := by decide +kernel
theorem d_Md_makeOf_35 : decode b_Md_makeOf 35 = .ok (.aload_n 0, 1) := by decide +kernel
theorem d_Md_makeOf_36 : decode b_Md_makeOf 36 = .ok (.getfield 95, 3) := by decide +kernel
theorem d_Md_makeOf_39 : decode b_Md_makeOf 39 = .ok (.iastore, 1) := by decide +kernel
theorem d_Md_makeOf_40 : decode b_Md_makeOf 40 = .ok (.iconst 0, 1) := by decide +kernel
theorem d_Md_makeOf_41 : decode b_Md_makeOf 41 = .ok (.istore 4, 2) := by decide +kernel
theorem d_Md_makeOf_43 : decode b_Md_makeOf 43 = .ok (.iload 4, 2) := by decide +kernel
theorem d_Md_makeOf_45 : decode b_Md_makeOf 45 = .ok (.aload_n 0, 1) := by decide +kernel
theorem d_Md_makeOf_46 : decode b_Md_makeOf 46 = .ok (.getfield 95, 3) := by decide +kernel
theorem d_Md_makeOf_49 : decode b_Md_makeOf 49 = .ok (.if_icmp .ge 51, 3) := by decide +kernel
theorem d_Md_makeOf_52 : decode b_Md_makeOf 52 = .ok (.aload_n 0, 1) := by decide +kernel
theorem d_Md_makeOf_53 : decode b_Md_makeOf 53 = .ok (.getfield 41, 3) := by decide +kernel
theorem d_Md_makeOf_56 : decode b_Md_makeOf 56 = .ok (.aload_n 0, 1) := by decide +kernel
theorem d_Md_makeOf_57 : decode b_Md_makeOf 57 = .ok (.getfield 84, 3) := by decide +kernel
theorem d_Md_makeOf_60 : decode b_Md_makeOf 60 = .ok (.aload_n 0, 1) := by decide +kernel
theorem d_Md_makeOf_61 : decode b_Md_makeOf 61 = .ok (.getfield 47, 3) := by decide +kernel
theorem d_Md_makeOf_64 : decode b_Md_makeOf 64 = .ok (.iload 4, 2) := by decide +kernel
theorem d_Md_makeOf_66 : decode b_Md_makeOf 66 = .ok (.iaload, 1) := by decide +kernel
theorem d_Md_makeOf_67 : decode b_Md_makeOf 67 = .ok (.iastore, 1) := by decide +kernel
theorem d_Md_makeOf_68 : decode b_Md_makeOf 68 = .ok (.aload_n 0, 1) := by decide +kernel
theorem d_Md_makeOf_69 : decode b_Md_makeOf 69 = .ok (.getfield 44, 3) := by decide +kernel
theorem d_Md_makeOf_72 : decode b_Md_makeOf 72 = .ok (.aload_n 0, 1) := by decide +kernel
theorem d_Md_makeOf_73 : decode b_Md_makeOf 73 = .ok (.getfield 84, 3) := by decide +kernel
theorem d_Md_makeOf_76 : decode b_Md_makeOf 76 = .ok (.aload_n 0, 1) := by decide +kernel
theorem d_Md_makeOf_77 : decode b_Md_makeOf 77 = .ok (.getfield 50, 3) := by decide +kernel
theorem d_Md_makeOf_80 : decode b_Md_makeOf 80 = .ok (.iload 4, 2) := by decide +kernel
theorem d_Md_makeOf_82 : decode b_Md_makeOf 82 = .ok (.iaload, 1) := by decide +kernel
theorem d_Md_makeOf_83 : decode b_Md_makeOf 83 = .ok (.iastore, 1) := by decide +kernel
theorem d_Md_makeOf_84 : decode b_Md_makeOf 84 = .ok (.aload_n 0, 1) := by decide +kernel
theorem d_Md_makeOf_85 : decode b_Md_makeOf 85 = .ok (.dup, 1) := by decide +kernel
theorem d_Md_makeOf_86 : decode b_Md_makeOf 86 = .ok (.getfield 84, 3) := by decide +kernel
theorem d_Md_makeOf_89 : decode b_Md_makeOf 89 = .ok (.iconst 1, 1) := by decide +kernel
theorem d_Md_makeOf_90 : decode b_Md_makeOf 90 = .ok (.iadd, 1) := by decide +kernel
theorem d_Md_makeOf_91 : decode b_Md_makeOf 91 = .ok (.putfield 84, 3) := by decide +kernel
theorem d_Md_makeOf_94 : decode b_Md_makeOf 94 = .ok (.iinc 4 1, 3) := by decide +kernel
theorem d_Md_makeOf_97 : decode b_Md_makeOf 97 = .ok (.goto (-54), 3) := by decide +kernel
theorem d_Md_makeOf_100 : decode b_Md_makeOf 100 = .ok (.aload_n 0, 1) := by decide +kernel
theorem d_Md_makeOf_101 : decode b_Md_makeOf 101 = .ok (.iconst 0, 1) := by decide +kernel
theorem d_Md_makeOf_102 : decode b_Md_makeOf 102 = .ok (.putfield 95, 3) := by decide +kernel
theorem d_Md_makeOf_105 : decode b_Md_makeOf 105 = .ok (.iload_n 3, 1) := by decide +kernel
theorem d_Md_makeOf_106 : decode b_Md_makeOf 106 = .ok (.ireturn, 1) := by decide +kernel
theorem d_Md_record_0 : decode b_Md_record 0 = .ok (.iload_n 1, 1) := by decide +kernel
theorem d_Md_record_1 : decode b_Md_record 1 = .ok (.ifCond .lt 17, 3) := by decide +kernel
theorem d_Md_record_4 : decode b_Md_record 4 = .ok (.iload_n 1, 1) := by decide +kernel
theorem d_Md_record_5 : decode b_Md_record 5 = .ok (.sipush 8192, 3) := by decide +kernel
theorem d_Md_record_8 : decode b_Md_record 8 = .ok (.if_icmp .ge 10, 3) := by decide +kernel
theorem d_Md_record_11 : decode b_Md_record 11 = .ok (.aload_n 0, 1) := by decide +kernel
theorem d_Md_record_12 : decode b_Md_record 12 = .ok (.getfield 95, 3) := by decide +kernel
theorem d_Md_record_15 : decode b_Md_record 15 = .ok (.ifCond .ne 7, 3) := by decide +kernel
theorem d_Md_record_18 : decode b_Md_record 18 = .ok (.iconst (-1), 1) := by decide +kernel
theorem d_Md_record_19 : decode b_Md_record 19 = .ok (.goto 9, 3) := by decide +kernel
theorem d_Md_record_22 : decode b_Md_record 22 = .ok (.aload_n 0, 1) := by decide +kernel
theorem d_Md_record_23 : decode b_Md_record 23 = .ok (.iconst 3, 1) := by decide +kernel
theorem d_Md_record_24 : decode b_Md_record 24 = .ok (.iload_n 1, 1) := by decide +kernel
theorem d_Md_record_25 : decode b_Md_record 25 = .ok (.invokevirtual 102, 3) := by decide +kernel
theorem d_Md_record_28 : decode b_Md_record 28 = .ok (.ireturn, 1) := by decide +kernel
theorem d_Md_thing_0 : decode b_Md_thing 0 = .ok (.iload_n 1, 1) := by decide +kernel
theorem d_Md_thing_1 : decode b_Md_thing 1 = .ok (.ifCond .ge 7, 3) := by decide +kernel
theorem d_Md_thing_4 : decode b_Md_thing 4 = .ok (.iconst (-1), 1) := by decide +kernel
theorem d_Md_thing_5 : decode b_Md_thing 5 = .ok (.goto 9, 3) := by decide +kernel
theorem d_Md_thing_8 : decode b_Md_thing 8 = .ok (.aload_n 0, 1) := by decide +kernel
theorem d_Md_thing_9 : decode b_Md_thing 9 = .ok (.iconst 4, 1) := by decide +kernel
theorem d_Md_thing_10 : decode b_Md_thing 10 = .ok (.iload_n 1, 1) := by decide +kernel
theorem d_Md_thing_11 : decode b_Md_thing 11 = .ok (.invokevirtual 102, 3) := by decide +kernel
theorem d_Md_thing_14 : decode b_Md_thing 14 = .ok (.ireturn, 1) := by decide +kernel
theorem d_Md_join_0 : decode b_Md_join 0 = .ok (.aload_n 1, 1) := by decide +kernel
theorem d_Md_join_1 : decode b_Md_join 1 = .ok (.iload_n 2, 1) := by decide +kernel
theorem d_Md_join_2 : decode b_Md_join 2 = .ok (.iaload, 1) := by decide +kernel
theorem d_Md_join_3 : decode b_Md_join 3 = .ok (.aload_n 1, 1) := by decide +kernel
theorem d_Md_join_4 : decode b_Md_join 4 = .ok (.iload_n 3, 1) := by decide +kernel
theorem d_Md_join_5 : decode b_Md_join 5 = .ok (.iaload, 1) := by decide +kernel
theorem d_Md_join_6 : decode b_Md_join 6 = .ok (.if_icmp .ge 9, 3) := by decide +kernel
theorem d_Md_join_9 : decode b_Md_join 9 = .ok (.aload_n 1, 1) := by decide +kernel
theorem d_Md_join_10 : decode b_Md_join 10 = .ok (.iload_n 2, 1) := by decide +kernel
theorem d_Md_join_11 : decode b_Md_join 11 = .ok (.iaload, 1) := by decide +kernel
theorem d_Md_join_12 : decode b_Md_join 12 = .ok (.goto 6, 3) := by decide +kernel
theorem d_Md_join_15 : decode b_Md_join 15 = .ok (.aload_n 1, 1) := by decide +kernel
theorem d_Md_join_16 : decode b_Md_join 16 = .ok (.iload_n 3, 1) := by decide +kernel
theorem d_Md_join_17 : decode b_Md_join 17 = .ok (.iaload, 1) := by decide +kernel
theorem d_Md_join_18 : decode b_Md_join 18 = .ok (.istore 4, 2) := by decide +kernel
theorem d_Md_join_20 : decode b_Md_join 20 = .ok (.aload_n 1, 1) := by decide +kernel
theorem d_Md_join_21 : decode b_Md_join 21 = .ok (.iload_n 2, 1) := by decide +kernel
theorem d_Md_join_22 : decode b_Md_join 22 = .ok (.iaload, 1) := by decide +kernel
theorem d_Md_join_23 : decode b_Md_join 23 = .ok (.aload_n 1, 1) := by decide +kernel
theorem d_Md_join_24 : decode b_Md_join 24 = .ok (.iload_n 3, 1) := by decide +kernel
theorem d_Md_join_25 : decode b_Md_join 25 = .ok (.iaload, 1) := by decide +kernel
theorem d_Md_join_26 : decode b_Md_join 26 = .ok (.if_icmp .ge 9, 3) := by decide +kernel
theorem d_Md_join_29 : decode b_Md_join 29 = .ok (.aload_n 1, 1) := by decide +kernel
theorem d_Md_join_30 : decode b_Md_join 30 = .ok (.iload_n 3, 1) := by decide +kernel
theorem d_Md_join_31 : decode b_Md_join 31 = .ok (.iaload, 1) := by decide +kernel
theorem d_Md_join_32 : decode b_Md_join 32 = .ok (.goto 6, 3) := by decide +kernel
theorem d_Md_join_35 : decode b_Md_join 35 = .ok (.aload_n 1, 1) := by decide +kernel
theorem d_Md_join_36 : decode b_Md_join 36 = .ok (.iload_n 2, 1) := by decide +kernel
theorem d_Md_join_37 : decode b_Md_join 37 = .ok (.iaload, 1) := by decide +kernel
theorem d_Md_join_38 : decode b_Md_join 38 = .ok (.istore 5, 2) := by decide +kernel
theorem d_Md_join_40 : decode b_Md_join 40 = .ok (.iload 5, 2) := by decide +kernel
theorem d_Md_join_42 : decode b_Md_join 42 = .ok (.istore 6, 2) := by decide +kernel
theorem d_Md_join_44 : decode b_Md_join 44 = .ok (.iload 6, 2) := by decide +kernel
theorem d_Md_join_46 : decode b_Md_join 46 = .ok (.aload_n 0, 1) := by decide +kernel
theorem d_Md_join_47 : decode b_Md_join 47 = .ok (.getfield 74, 3) := by decide +kernel
theorem d_Md_join_50 : decode b_Md_join 50 = .ok (.if_icmp .ge 49, 3) := by decide +kernel
theorem d_Md_join_53 : decode b_Md_join 53 = .ok (.iload 4, 2) := by decide +kernel
theorem d_Md_join_55 : decode b_Md_join 55 = .ok (.iload 5, 2) := by decide +kernel
theorem d_Md_join_57 : decode b_Md_join 57 = .ok (.if_icmp .eq 42, 3) := by decide +kernel
theorem d_Md_join_60 : decode b_Md_join 60 = .ok (.aload_n 1, 1) := by decide +kernel
theorem d_Md_join_61 : decode b_Md_join 61 = .ok (.iload 6, 2) := by decide +kernel
theorem d_Md_join_63 : decode b_Md_join 63 = .ok (.aload_n 0, 1) := by decide +kernel
theorem d_Md_join_64 : decode b_Md_join 64 = .ok (.getfield 10, 3) := by decide +kernel
theorem d_Md_join_67 : decode b_Md_join 67 = .ok (.iload 6, 2) := by decide +kernel
theorem d_Md_join_69 : decode b_Md_join 69 = .ok (.baload, 1) := by decide +kernel
theorem d_Md_join_70 : decode b_Md_join 70 = .ok (.iconst (-1), 1) := by decide +kernel
theorem d_Md_join_71 : decode b_Md_join 71 = .ok (.if_icmp .eq 17, 3) := by decide +kernel
theorem d_Md_join_74 : decode b_Md_join 74 = .ok (.aload_n 1, 1) := by decide +kernel
theorem d_Md_join_75 : decode b_Md_join 75 = .ok (.iload 6, 2) := by decide +kernel
theorem d_Md_join_77 : decode b_Md_join 77 = .ok (.iaload, 1) := by decide +kernel
theorem d_Md_join_78 : decode b_Md_join 78 = .ok (.iload 5, 2) := by decide +kernel
theorem d_Md_join_80 : decode b_Md_join 80 = .ok (.if_icmp .ne 8, 3) := by decide +kernel
theorem d_Md_join_83 : decode b_Md_join 83 = .ok (.iload 4, 2) := by decide +kernel
theorem d_Md_join_85 : decode b_Md_join 85 = .ok (.goto 7, 3) := by decide +kernel
theorem d_Md_join_88 : decode b_Md_join 88 = .ok (.aload_n 1, 1) := by decide +kernel
theorem d_Md_join_89 : decode b_Md_join 89 = .ok (.iload 6, 2) := by decide +kernel
theorem d_Md_join_91 : decode b_Md_join 91 = .ok (.iaload, 1) := by decide +kernel
theorem d_Md_join_92 : decode b_Md_join 92 = .ok (.iastore, 1) := by decide +kernel
theorem d_Md_join_93 : decode b_Md_join 93 = .ok (.iinc 6 1, 3) := by decide +kernel
theorem d_Md_join_96 : decode b_Md_join 96 = .ok (.goto (-52), 3) := by decide +kernel
theorem d_Md_join_99 : decode b_Md_join 99 = .ok (.iload 4, 2) := by decide +kernel
theorem d_Md_join_101 : decode b_Md_join 101 = .ok (.iload 5, 2) := by decide +kernel
theorem d_Md_join_103 : decode b_Md_join 103 = .ok (.if_icmp .eq 7, 3) := by decide +kernel
theorem d_Md_join_106 : decode b_Md_join 106 = .ok (.iconst 1, 1) := by decide +kernel
theorem d_Md_join_107 : decode b_Md_join 107 = .ok (.goto 4, 3) := by decide +kernel
theorem d_Md_join_110 : decode b_Md_join 110 = .ok (.iconst 0, 1) := by decide +kernel
theorem d_Md_join_111 : decode b_Md_join 111 = .ok (.ireturn, 1) := by decide +kernel
theorem d_Md_go_0 : decode b_Md_go 0 = .ok (.aload_n 0, 1) := by decide +kernel
theorem d_Md_go_1 : decode b_Md_go 1 = .ok (.getfield 10, 3) := by decide +kernel
theorem d_Md_go_4 : decode b_Md_go 4 = .ok (.iload_n 1, 1) := by decide +kernel
theorem d_Md_go_5 : decode b_Md_go 5 = .ok (.baload, 1) := by decide +kernel
theorem d_Md_go_6 : decode b_Md_go 6 = .ok (.aload_n 0, 1) := by decide +kernel
theorem d_Md_go_7 : decode b_Md_go 7 = .ok (.getfield 10, 3) := by decide +kernel
theorem d_Md_go_10 : decode b_Md_go 10 = .ok (.iload_n 2, 1) := by decide +kernel
theorem d_Md_go_11 : decode b_Md_go 11 = .ok (.baload, 1) := by decide +kernel
theorem d_Md_go_12 : decode b_Md_go 12 = .ok (.if_icmp .ne 52, 3) := by decide +kernel
theorem d_Md_go_15 : decode b_Md_go 15 = .ok (.aload_n 0, 1) := by decide +kernel
theorem d_Md_go_16 : decode b_Md_go 16 = .ok (.getfield 14, 3) := by decide +kernel
theorem d_Md_go_19 : decode b_Md_go 19 = .ok (.iload_n 1, 1) := by decide +kernel
theorem d_Md_go_20 : decode b_Md_go 20 = .ok (.iaload, 1) := by decide +kernel
theorem d_Md_go_21 : decode b_Md_go 21 = .ok (.aload_n 0, 1) := by decide +kernel
theorem d_Md_go_22 : decode b_Md_go 22 = .ok (.getfield 14, 3) := by decide +kernel
theorem d_Md_go_25 : decode b_Md_go 25 = .ok (.iload_n 2, 1) := by decide +kernel
theorem d_Md_go_26 : decode b_Md_go 26 = .ok (.iaload, 1) := by decide +kernel
theorem d_Md_go_27 : decode b_Md_go 27 = .ok (.if_icmp .ne 37, 3) := by decide +kernel
theorem d_Md_go_30 : decode b_Md_go 30 = .ok (.aload_n 0, 1) := by decide +kernel
theorem d_Md_go_31 : decode b_Md_go 31 = .ok (.getfield 21, 3) := by decide +kernel
theorem d_Md_go_34 : decode b_Md_go 34 = .ok (.iload_n 1, 1) := by decide +kernel
theorem d_Md_go_35 : decode b_Md_go 35 = .ok (.iaload, 1) := by decide +kernel
theorem d_Md_go_36 : decode b_Md_go 36 = .ok (.aload_n 0, 1) := by decide +kernel
theorem d_Md_go_37 : decode b_Md_go 37 = .ok (.getfield 21, 3) := by decide +kernel
theorem d_Md_go_40 : decode b_Md_go 40 = .ok (.iload_n 2, 1) := by decide +kernel
theorem d_Md_go_41 : decode b_Md_go 41 = .ok (.iaload, 1) := by decide +kernel
theorem d_Md_go_42 : decode b_Md_go 42 = .ok (.if_icmp .ne 22, 3) := by decide +kernel
theorem d_Md_go_45 : decode b_Md_go 45 = .ok (.aload_n 0, 1) := by decide +kernel
theorem d_Md_go_46 : decode b_Md_go 46 = .ok (.getfield 10, 3) := by decide +kernel
theorem d_Md_go_49 : decode b_Md_go 49 = .ok (.iload_n 1, 1) := by decide +kernel
theorem d_Md_go_50 : decode b_Md_go 50 = .ok (.baload, 1) := by decide +kernel
theorem d_Md_go_51 : decode b_Md_go 51 = .ok (.iconst 4, 1) := by decide +kernel
theorem d_Md_go_52 : decode b_Md_go 52 = .ok (.if_icmp .ne 8, 3) := by decide +kernel
theorem d_Md_go_55 : decode b_Md_go 55 = .ok (.iload_n 1, 1) := by decide +kernel
theorem d_Md_go_56 : decode b_Md_go 56 = .ok (.iload_n 2, 1) := by decide +kernel
theorem d_Md_go_57 : decode b_Md_go 57 = .ok (.if_icmp .ne 7, 3) := by decide +kernel
theorem d_Md_go_60 : decode b_Md_go 60 = .ok (.iconst 1, 1) := by decide +kernel
theorem d_Md_go_61 : decode b_Md_go 61 = .ok (.goto 4, 3) := by decide +kernel
theorem d_Md_go_64 : decode b_Md_go 64 = .ok (.iconst 0, 1) := by decide +kernel
theorem d_Md_go_65 : decode b_Md_go 65 = .ok (.istore_n 3, 1) := by decide +kernel
theorem d_Md_go_66 : decode b_Md_go 66 = .ok (.iconst 0, 1) := by decide +kernel
theorem d_Md_go_67 : decode b_Md_go 67 = .ok (.istore 4, 2) := by decide +kernel
theorem d_Md_go_69 : decode b_Md_go 69 = .ok (.iload 4, 2) := by decide +kernel
theorem d_Md_go_71 : decode b_Md_go 71 = .ok (.aload_n 0, 1) := by decide +kernel
theorem d_Md_go_72 : decode b_Md_go 72 = .ok (.getfield 21, 3) := by decide +kernel
theorem d_Md_go_75 : decode b_Md_go 75 = .ok (.iload_n 1, 1) := by decide +kernel
theorem d_Md_go_76 : decode b_Md_go 76 = .ok (.iaload, 1) := by decide +kernel
theorem d_Md_go_77 : decode b_Md_go 77 = .ok (.if_icmp .ge 50, 3) := by decide +kernel
theorem d_Md_go_80 : decode b_Md_go 80 = .ok (.iload_n 3, 1) := by decide +kernel
theorem d_Md_go_81 : decode b_Md_go 81 = .ok (.ifCond .eq 46, 3) := by decide +kernel
theorem d_Md_go_84 : decode b_Md_go 84 = .ok (.aload_n 0, 1) := by decide +kernel
theorem d_Md_go_85 : decode b_Md_go 85 = .ok (.getfield 41, 3) := by decide +kernel
theorem d_Md_go_88 : decode b_Md_go 88 = .ok (.aload_n 0, 1) := by decide +kernel
theorem d_Md_go_89 : decode b_Md_go 89 = .ok (.getfield 18, 3) := by decide +kernel
theorem d_Md_go_92 : decode b_Md_go 92 = .ok (.iload_n 1, 1) := by decide +kernel
theorem d_Md_go_93 : decode b_Md_go 93 = .ok (.iaload, 1) := by decide +kernel
theorem d_Md_go_94 : decode b_Md_go 94 = .ok (.iload 4, 2) := by decide +kernel
theorem d_Md_go_96 : decode b_Md_go 96 = .ok (.iadd, 1) := by decide +kernel
theorem d_Md_go_97 : decode b_Md_go 97 = .ok (.iaload, 1) := by decide +kernel
theorem d_Md_go_98 : decode b_Md_go 98 = .ok (.aload_n 0, 1) := by decide +kernel
theorem d_Md_go_99 : decode b_Md_go 99 = .ok (.getfield 41, 3) := by decide +kernel
theorem d_Md_go_102 : decode b_Md_go 102 = .ok (.aload_n 0, 1) := by decide +kernel
theorem d_Md_go_103 : decode b_Md_go 103 = .ok (.getfield 18, 3) := by decide +kernel
theorem d_Md_go_106 : decode b_Md_go 106 = .ok (.iload_n 2, 1) := by decide +kernel
theorem d_Md_go_107 : decode b_Md_go 107 = .ok (.iaload, 1) := by decide +kernel
theorem d_Md_go_108 : decode b_Md_go 108 = .ok (.iload 4, 2) := by decide +kernel
theorem d_Md_go_110 : decode b_Md_go 110 = .ok (.iadd, 1) := by decide +kernel
theorem d_Md_go_111 : decode b_Md_go 111 = .ok (.iaload, 1) := by decide +kernel
theorem d_Md_go_112 : decode b_Md_go 112 = .ok (.if_icmp .ne 7, 3) := by decide +kernel
theorem d_Md_go_115 : decode b_Md_go 115 = .ok (.iconst 1, 1) := by decide +kernel
theorem d_Md_go_116 : decode b_Md_go 116 = .ok (.goto 4, 3) := by decide +kernel
theorem d_Md_go_119 : decode b_Md_go 119 = .ok (.iconst 0, 1) := by decide +kernel
theorem d_Md_go_120 : decode b_Md_go 120 = .ok (.istore_n 3, 1) := by decide +kernel
theorem d_Md_go_121 : decode b_Md_go 121 = .ok (.iinc 4 1, 3) := by decide +kernel
theorem d_Md_go_124 : decode b_Md_go 124 = .ok (.goto (-55), 3) := by decide +kernel
theorem d_Md_go_127 : decode b_Md_go 127 = .ok (.iload_n 3, 1) := by decide +kernel
theorem d_Md_go_128 : decode b_Md_go 128 = .ok (.ireturn, 1) := by decide +kernel
theorem d_Md_follow_0 : decode b_Md_follow 0 = .ok (.iconst 1, 1) := by decide +kernel
theorem d_Md_follow_1 : decode b_Md_follow 1 = .ok (.istore_n 2, 1) := by decide +kernel
theorem d_Md_follow_2 : decode b_Md_follow 2 = .ok (.iload_n 2, 1) := by decide +kernel
theorem d_Md_follow_3 : decode b_Md_follow 3 = .ok (.ifCond .eq 180, 3) := by decide +kernel
theorem d_Md_follow_6 : decode b_Md_follow 6 = .ok (.iconst 0, 1) := by decide +kernel
theorem d_Md_follow_7 : decode b_Md_follow 7 = .ok (.istore_n 2, 1) := by decide +kernel
theorem d_Md_follow_8 : decode b_Md_follow 8 = .ok (.iconst 0, 1) := by decide +kernel
theorem d_Md_follow_9 : decode b_Md_follow 9 = .ok (.istore_n 3, 1) := by decide +kernel
theorem d_Md_follow_10 : decode b_Md_follow 10 = .ok (.iload_n 3, 1) := by decide +kernel
theorem d_Md_follow_11 : decode b_Md_follow 11 = .ok (.aload_n 0, 1) := by decide +kernel
theorem d_Md_follow_12 : decode b_Md_follow 12 = .ok (.getfield 74, 3) := by decide +kernel
theorem d_Md_follow_15 : decode b_Md_follow 15 = .ok (.if_icmp .ge 16, 3) := by decide +kernel
theorem d_Md_follow_18 : decode b_Md_follow 18 = .ok (.aload_n 0, 1) := by decide +kernel
theorem d_Md_follow_19 : decode b_Md_follow 19 = .ok (.getfield 37, 3) := by decide +kernel
theorem d_Md_follow_22 : decode b_Md_follow 22 = .ok (.iload_n 3, 1) := by decide +kernel
theorem d_Md_follow_23 : decode b_Md_follow 23 = .ok (.iconst (-1), 1) := by decide +kernel
theorem d_Md_follow_24 : decode b_Md_follow 24 = .ok (.iastore, 1) := by decide +kernel
theorem d_Md_follow_25 : decode b_Md_follow 25 = .ok (.iinc 3 1, 3) := by decide +kernel
theorem d_Md_follow_28 : decode b_Md_follow 28 = .ok (.goto (-18), 3) := by decide +kernel
theorem d_Md_follow_31 : decode b_Md_follow 31 = .ok (.iconst 0, 1) := by decide +kernel
theorem d_Md_follow_32 : decode b_Md_follow 32 = .ok (.istore_n 3, 1) := by decide +kernel
theorem d_Md_follow_33 : decode b_Md_follow 33 = .ok (.iload_n 3, 1) := by decide +kernel
theorem d_Md_follow_34 : decode b_Md_follow 34 = .ok (.aload_n 0, 1) := by decide +kernel
theorem d_Md_follow_35 : decode b_Md_follow 35 = .ok (.getfield 74, 3) := by decide +kernel
theorem d_Md_follow_38 : decode b_Md_follow 38 = .ok (.if_icmp .ge 142, 3) := by decide +kernel
theorem d_Md_follow_41 : decode b_Md_follow 41 = .ok (.aload_n 0, 1) := by decide +kernel
theorem d_Md_follow_42 : decode b_Md_follow 42 = .ok (.getfield 10, 3) := by decide +kernel
theorem d_Md_follow_45 : decode b_Md_follow 45 = .ok (.iload_n 3, 1) := by decide +kernel
theorem d_Md_follow_46 : decode b_Md_follow 46 = .ok (.baload, 1) := by decide +kernel
theorem d_Md_follow_47 : decode b_Md_follow 47 = .ok (.iconst (-1), 1) := by decide +kernel
theorem d_Md_follow_48 : decode b_Md_follow 48 = .ok (.if_icmp .eq 126, 3) := by decide +kernel
theorem d_Md_follow_51 : decode b_Md_follow 51 = .ok (.aload_n 0, 1) := by decide +kernel
theorem d_Md_follow_52 : decode b_Md_follow 52 = .ok (.getfield 10, 3) := by decide +kernel
theorem d_Md_follow_55 : decode b_Md_follow 55 = .ok (.iload_n 3, 1) := by decide +kernel
theorem d_Md_follow_56 : decode b_Md_follow 56 = .ok (.baload, 1) := by decide +kernel
theorem d_Md_follow_57 : decode b_Md_follow 57 = .ok (.ifCond .eq 117, 3) := by decide +kernel
theorem d_Md_follow_60 : decode b_Md_follow 60 = .ok (.aload_n 0, 1) := by decide +kernel
theorem d_Md_follow_61 : decode b_Md_follow 61 = .ok (.getfield 37, 3) := by decide +kernel
theorem d_Md_follow_64 : decode b_Md_follow 64 = .ok (.aload_n 1, 1) := by decide +kernel
theorem d_Md_follow_65 : decode b_Md_follow 65 = .ok (.iload_n 3, 1) := by decide +kernel
theorem d_Md_follow_66 : decode b_Md_follow 66 = .ok (.iaload, 1) := by decide +kernel
theorem d_Md_follow_67 : decode b_Md_follow 67 = .ok (.iaload, 1) := by decide +kernel
theorem d_Md_follow_68 : decode b_Md_follow 68 = .ok (.istore 4, 2) := by decide +kernel
theorem d_Md_follow_70 : decode b_Md_follow 70 = .ok (.iload 4, 2) := by decide +kernel
theorem d_Md_follow_72 : decode b_Md_follow 72 = .ok (.iconst (-1), 1) := by decide +kernel
theorem d_Md_follow_73 : decode b_Md_follow 73 = .ok (.if_icmp .ne 15, 3) := by decide +kernel
theorem d_Md_follow_76 : decode b_Md_follow 76 = .ok (.aload_n 0, 1) := by decide +kernel
theorem d_Md_follow_77 : decode b_Md_follow 77 = .ok (.getfield 37, 3) := by decide +kernel
theorem d_Md_follow_80 : decode b_Md_follow 80 = .ok (.aload_n 1, 1) := by decide +kernel
theorem d_Md_follow_81 : decode b_Md_follow 81 = .ok (.iload_n 3, 1) := by decide +kernel
theorem d_Md_follow_82 : decode b_Md_follow 82 = .ok (.iaload, 1) := by decide +kernel
theorem d_Md_follow_83 : decode b_Md_follow 83 = .ok (.iload_n 3, 1) := by decide +kernel
theorem d_Md_follow_84 : decode b_Md_follow 84 = .ok (.iastore, 1) := by decide +kernel
theorem d_Md_follow_85 : decode b_Md_follow 85 = .ok (.goto 82, 3) := by decide +kernel
theorem d_Md_follow_88 : decode b_Md_follow 88 = .ok (.aload_n 0, 1) := by decide +kernel
theorem d_Md_follow_89 : decode b_Md_follow 89 = .ok (.iload 4, 2) := by decide +kernel
theorem d_Md_follow_91 : decode b_Md_follow 91 = .ok (.iload_n 3, 1) := by decide +kernel
theorem d_Md_follow_92 : decode b_Md_follow 92 = .ok (.invokevirtual 105, 3) := by decide +kernel
theorem d_Md_follow_95 : decode b_Md_follow 95 = .ok (.ifCond .ne 5, 3) := by decide +kernel
theorem d_Md_follow_98 : decode b_Md_follow 98 = .ok (.iconst 0, 1) := by decide +kernel
theorem d_Md_follow_99 : decode b_Md_follow 99 = .ok (.ireturn, 1) := by decide +kernel
theorem d_Md_follow_100 : decode b_Md_follow 100 = .ok (.aload_n 0, 1) := by decide +kernel
theorem d_Md_follow_101 : decode b_Md_follow 101 = .ok (.getfield 10, 3) := by decide +kernel
theorem d_Md_follow_104 : decode b_Md_follow 104 = .ok (.iload_n 3, 1) := by decide +kernel
theorem d_Md_follow_105 : decode b_Md_follow 105 = .ok (.baload, 1) := by decide +kernel
theorem d_Md_follow_106 : decode b_Md_follow 106 = .ok (.iconst 3, 1) := by decide +kernel
theorem d_Md_follow_107 : decode b_Md_follow 107 = .ok (.if_icmp .ne 60, 3) := by decide +kernel
theorem d_Md_follow_110 : decode b_Md_follow 110 = .ok (.iconst 0, 1) := by decide +kernel
theorem d_Md_follow_111 : decode b_Md_follow 111 = .ok (.istore 5, 2) := by decide +kernel
theorem d_Md_follow_113 : decode b_Md_follow 113 = .ok (.iload 5, 2) := by decide +kernel
theorem d_Md_follow_115 : decode b_Md_follow 115 = .ok (.aload_n 0, 1) := by decide +kernel
theorem d_Md_follow_116 : decode b_Md_follow 116 = .ok (.getfield 21, 3) := by decide +kernel
theorem d_Md_follow_119 : decode b_Md_follow 119 = .ok (.iload_n 3, 1) := by decide +kernel
theorem d_Md_follow_120 : decode b_Md_follow 120 = .ok (.iaload, 1) := by decide +kernel
theorem d_Md_follow_121 : decode b_Md_follow 121 = .ok (.if_icmp .ge 46, 3) := by decide +kernel
theorem d_Md_follow_124 : decode b_Md_follow 124 = .ok (.iload_n 2, 1) := by decide +kernel
theorem d_Md_follow_125 : decode b_Md_follow 125 = .ok (.aload_n 0, 1) := by decide +kernel
theorem d_Md_follow_126 : decode b_Md_follow 126 = .ok (.aload_n 1, 1) := by decide +kernel
theorem d_Md_follow_127 : decode b_Md_follow 127 = .ok (.aload_n 0, 1) := by decide +kernel
theorem d_Md_follow_128 : decode b_Md_follow 128 = .ok (.getfield 44, 3) := by decide +kernel
theorem d_Md_follow_131 : decode b_Md_follow 131 = .ok (.aload_n 0, 1) := by decide +kernel
theorem d_Md_follow_132 : decode b_Md_follow 132 = .ok (.getfield 18, 3) := by decide +kernel
theorem d_Md_follow_135 : decode b_Md_follow 135 = .ok (.iload_n 3, 1) := by decide +kernel
theorem d_Md_follow_136 : decode b_Md_follow 136 = .ok (.iaload, 1) := by decide +kernel
theorem d_Md_follow_137 : decode b_Md_follow 137 = .ok (.iload 5, 2) := by decide +kernel
theorem d_Md_follow_139 : decode b_Md_follow 139 = .ok (.iadd, 1) := by decide +kernel
theorem d_Md_follow_140 : decode b_Md_follow 140 = .ok (.iaload, 1) := by decide +kernel
theorem d_Md_follow_141 : decode b_Md_follow 141 = .ok (.aload_n 0, 1) := by decide +kernel
theorem d_Md_follow_142 : decode b_Md_follow 142 = .ok (.getfield 44, 3) := by decide +kernel
theorem d_Md_follow_145 : decode b_Md_follow 145 = .ok (.aload_n 0, 1) := by decide +kernel
theorem d_Md_follow_146 : decode b_Md_follow 146 = .ok (.getfield 18, 3) := by decide +kernel
theorem d_Md_follow_149 : decode b_Md_follow 149 = .ok (.iload 4, 2) := by decide +kernel
theorem d_Md_follow_151 : decode b_Md_follow 151 = .ok (.iaload, 1) := by decide +kernel
theorem d_Md_follow_152 : decode b_Md_follow 152 = .ok (.iload 5, 2) := by decide +kernel
theorem d_Md_follow_154 : decode b_Md_follow 154 = .ok (.iadd, 1) := by decide +kernel
theorem d_Md_follow_155 : decode b_Md_follow 155 = .ok (.iaload, 1) := by decide +kernel
theorem d_Md_follow_156 : decode b_Md_follow 156 = .ok (.invokevirtual 109, 3) := by decide +kernel
theorem d_Md_follow_159 : decode b_Md_follow 159 = .ok (.ior, 1) := by decide +kernel
theorem d_Md_follow_160 : decode b_Md_follow 160 = .ok (.istore_n 2, 1) := by decide +kernel
theorem d_Md_follow_161 : decode b_Md_follow 161 = .ok (.iinc 5 1, 3) := by decide +kernel
theorem d_Md_follow_164 : decode b_Md_follow 164 = .ok (.goto (-51), 3) := by decide +kernel
theorem d_Md_follow_167 : decode b_Md_follow 167 = .ok (.iload_n 2, 1) := by decide +kernel
theorem d_Md_follow_168 : decode b_Md_follow 168 = .ok (.ifCond .eq 6, 3) := by decide +kernel
theorem d_Md_follow_171 : decode b_Md_follow 171 = .ok (.goto 9, 3) := by decide +kernel
theorem d_Md_follow_174 : decode b_Md_follow 174 = .ok (.iinc 3 1, 3) := by decide +kernel
theorem d_Md_follow_177 : decode b_Md_follow 177 = .ok (.goto (-144), 3) := by decide +kernel
theorem d_Md_follow_180 : decode b_Md_follow 180 = .ok (.goto (-178), 3) := by decide +kernel
theorem d_Md_follow_183 : decode b_Md_follow 183 = .ok (.iconst 1, 1) := by decide +kernel
theorem d_Md_follow_184 : decode b_Md_follow 184 = .ok (.ireturn, 1) := by decide +kernel
theorem d_Md_suppose_0 : decode b_Md_suppose 0 = .ok (.aload_n 0, 1) := by decide +kernel
theorem d_Md_suppose_1 : decode b_Md_suppose 1 = .ok (.getfield 31, 3) := by decide +kernel
theorem d_Md_suppose_4 : decode b_Md_suppose 4 = .ok (.iconst 0, 1) := by decide +kernel
theorem d_Md_suppose_5 : decode b_Md_suppose 5 = .ok (.aload_n 0, 1) := by decide +kernel
theorem d_Md_suppose_6 : decode b_Md_suppose 6 = .ok (.getfield 34, 3) := by decide +kernel
theorem d_Md_suppose_9 : decode b_Md_suppose 9 = .ok (.iconst 0, 1) := by decide +kernel
theorem d_Md_suppose_10 : decode b_Md_suppose 10 = .ok (.aload_n 0, 1) := by decide +kernel
theorem d_Md_suppose_11 : decode b_Md_suppose 11 = .ok (.getfield 74, 3) := by decide +kernel
theorem d_Md_suppose_14 : decode b_Md_suppose 14 = .ok (.invokestatic 113, 3) := by decide +kernel
theorem d_Md_suppose_17 : decode b_Md_suppose 17 = .ok (.aload_n 0, 1) := by decide +kernel
theorem d_Md_suppose_18 : decode b_Md_suppose 18 = .ok (.aload_n 0, 1) := by decide +kernel
theorem d_Md_suppose_19 : decode b_Md_suppose 19 = .ok (.getfield 34, 3) := by decide +kernel
theorem d_Md_suppose_22 : decode b_Md_suppose 22 = .ok (.iload_n 1, 1) := by decide +kernel
theorem d_Md_suppose_23 : decode b_Md_suppose 23 = .ok (.iload_n 2, 1) := by decide +kernel
theorem d_Md_suppose_24 : decode b_Md_suppose 24 = .ok (.invokevirtual 109, 3) := by decide +kernel
theorem d_Md_suppose_27 : decode b_Md_suppose 27 = .ok (.ifCond .eq 14, 3) := by decide +kernel
theorem d_Md_suppose_30 : decode b_Md_suppose 30 = .ok (.aload_n 0, 1) := by decide +kernel
theorem d_Md_suppose_31 : decode b_Md_suppose 31 = .ok (.aload_n 0, 1) := by decide +kernel
theorem d_Md_suppose_32 : decode b_Md_suppose 32 = .ok (.getfield 34, 3) := by decide +kernel
theorem d_Md_suppose_35 : decode b_Md_suppose 35 = .ok (.invokevirtual 119, 3) := by decide +kernel
theorem d_Md_suppose_38 : decode b_Md_suppose 38 = .ok (.ifCond .eq 7, 3) := by decide +kernel
theorem d_Md_suppose_41 : decode b_Md_suppose 41 = .ok (.iconst 1, 1) := by decide +kernel
theorem d_Md_suppose_42 : decode b_Md_suppose 42 = .ok (.goto 4, 3) := by decide +kernel
theorem d_Md_suppose_45 : decode b_Md_suppose 45 = .ok (.iconst 0, 1) := by decide +kernel
theorem d_Md_suppose_46 : decode b_Md_suppose 46 = .ok (.ireturn, 1) := by decide +kernel
theorem d_Md_meant_0 : decode b_Md_meant 0 = .ok (.iconst 0, 1) := by decide +kernel
theorem d_Md_meant_1 : decode b_Md_meant 1 = .ok (.istore_n 2, 1) := by decide +kernel
theorem d_Md_meant_2 : decode b_Md_meant 2 = .ok (.iload_n 2, 1) := by decide +kernel
theorem d_Md_meant_3 : decode b_Md_meant 3 = .ok (.aload_n 0, 1) := by decide +kernel
theorem d_Md_meant_4 : decode b_Md_meant 4 = .ok (.getfield 74, 3) := by decide +kernel
theorem d_Md_meant_7 : decode b_Md_meant 7 = .ok (.if_icmp .ge 35, 3) := by decide +kernel
theorem d_Md_meant_10 : decode b_Md_meant 10 = .ok (.aload_n 0, 1) := by decide +kernel
theorem d_Md_meant_11 : decode b_Md_meant 11 = .ok (.getfield 10, 3) := by decide +kernel
theorem d_Md_meant_14 : decode b_Md_meant 14 = .ok (.iload_n 2, 1) := by decide +kernel
theorem d_Md_meant_15 : decode b_Md_meant 15 = .ok (.baload, 1) := by decide +kernel
theorem d_Md_meant_16 : decode b_Md_meant 16 = .ok (.ifCond .le 20, 3) := by decide +kernel
theorem d_Md_meant_19 : decode b_Md_meant 19 = .ok (.aload_n 0, 1) := by decide +kernel
theorem d_Md_meant_20 : decode b_Md_meant 20 = .ok (.getfield 31, 3) := by decide +kernel
theorem d_Md_meant_23 : decode b_Md_meant 23 = .ok (.iload_n 2, 1) := by decide +kernel
theorem d_Md_meant_24 : decode b_Md_meant 24 = .ok (.iaload, 1) := by decide +kernel
theorem d_Md_meant_25 : decode b_Md_meant 25 = .ok (.aload_n 0, 1) := by decide +kernel
theorem d_Md_meant_26 : decode b_Md_meant 26 = .ok (.getfield 31, 3) := by decide +kernel
theorem d_Md_meant_29 : decode b_Md_meant 29 = .ok (.iload_n 1, 1) := by decide +kernel
theorem d_Md_meant_30 : decode b_Md_meant 30 = .ok (.iaload, 1) := by decide +kernel
theorem d_Md_meant_31 : decode b_Md_meant 31 = .ok (.if_icmp .ne 5, 3) := by decide +kernel
theorem d_Md_meant_34 : decode b_Md_meant 34 = .ok (.iload_n 2, 1) := by decide +kernel
theorem d_Md_meant_35 : decode b_Md_meant 35 = .ok (.ireturn, 1) := by decide +kernel
theorem d_Md_meant_36 : decode b_Md_meant 36 = .ok (.iinc 2 1, 3) := by decide +kernel
theorem d_Md_meant_39 : decode b_Md_meant 39 = .ok (.goto (-37), 3) := by decide +kernel
theorem d_Md_meant_42 : decode b_Md_meant 42 = .ok (.iload_n 1, 1) := by decide +kernel
theorem d_Md_meant_43 : decode b_Md_meant 43 = .ok (.ireturn, 1) := by decide +kernel
theorem d_Md_isNeeded_0 : decode b_Md_isNeeded 0 = .ok (.aload_n 0, 1) := by decide +kernel
theorem d_Md_isNeeded_1 : decode b_Md_isNeeded 1 = .ok (.getfield 10, 3) := by decide +kernel
theorem d_Md_isNeeded_4 : decode b_Md_isNeeded 4 = .ok (.aload_n 0, 1) := by decide +kernel
theorem d_Md_isNeeded_5 : decode b_Md_isNeeded 5 = .ok (.iload_n 1, 1) := by decide +kernel
theorem d_Md_isNeeded_6 : decode b_Md_isNeeded 6 = .ok (.invokevirtual 123, 3) := by decide +kernel
theorem d_Md_isNeeded_9 : decode b_Md_isNeeded 9 = .ok (.baload, 1) := by decide +kernel
theorem d_Md_isNeeded_10 : decode b_Md_isNeeded 10 = .ok (.ifCond .eq 7, 3) := by decide +kernel
theorem d_Md_isNeeded_13 : decode b_Md_isNeeded 13 = .ok (.iconst 1, 1) := by decide +kernel
theorem d_Md_isNeeded_14 : decode b_Md_isNeeded 14 = .ok (.goto 4, 3) := by decide +kernel
theorem d_Md_isNeeded_17 : decode b_Md_isNeeded 17 = .ok (.iconst 0, 1) := by decide +kernel
theorem d_Md_isNeeded_18 : decode b_Md_isNeeded 18 = .ok (.istore_n 2, 1) := by decide +kernel
theorem d_Md_isNeeded_19 : decode b_Md_isNeeded 19 = .ok (.iconst 0, 1) := by decide +kernel
theorem d_Md_isNeeded_20 : decode b_Md_isNeeded 20 = .ok (.istore_n 3, 1) := by decide +kernel
theorem d_Md_isNeeded_21 : decode b_Md_isNeeded 21 = .ok (.iload_n 3, 1) := by decide +kernel
theorem d_Md_isNeeded_22 : decode b_Md_isNeeded 22 = .ok (.aload_n 0, 1) := by decide +kernel
theorem d_Md_isNeeded_23 : decode b_Md_isNeeded 23 = .ok (.getfield 74, 3) := by decide +kernel
theorem d_Md_isNeeded_26 : decode b_Md_isNeeded 26 = .ok (.if_icmp .ge 53, 3) := by decide +kernel
theorem d_Md_isNeeded_29 : decode b_Md_isNeeded 29 = .ok (.iload_n 2, 1) := by decide +kernel
theorem d_Md_isNeeded_30 : decode b_Md_isNeeded 30 = .ok (.ifCond .ne 49, 3) := by decide +kernel
theorem d_Md_isNeeded_33 : decode b_Md_isNeeded 33 = .ok (.aload_n 0, 1) := by decide +kernel
theorem d_Md_isNeeded_34 : decode b_Md_isNeeded 34 = .ok (.getfield 10, 3) := by decide +kernel
theorem d_Md_isNeeded_37 : decode b_Md_isNeeded 37 = .ok (.iload_n 3, 1) := by decide +kernel
theorem d_Md_isNeeded_38 : decode b_Md_isNeeded 38 = .ok (.baload, 1) := by decide +kernel
theorem d_Md_isNeeded_39 : decode b_Md_isNeeded 39 = .ok (.iconst (-1), 1) := by decide +kernel
theorem d_Md_isNeeded_40 : decode b_Md_isNeeded 40 = .ok (.if_icmp .eq 31, 3) := by decide +kernel
theorem d_Md_isNeeded_43 : decode b_Md_isNeeded 43 = .ok (.aload_n 0, 1) := by decide +kernel
theorem d_Md_isNeeded_44 : decode b_Md_isNeeded 44 = .ok (.getfield 24, 3) := by decide +kernel
theorem d_Md_isNeeded_47 : decode b_Md_isNeeded 47 = .ok (.iload_n 3, 1) := by decide +kernel
theorem d_Md_isNeeded_48 : decode b_Md_isNeeded 48 = .ok (.baload, 1) := by decide +kernel
theorem d_Md_isNeeded_49 : decode b_Md_isNeeded 49 = .ok (.ifCond .eq 22, 3) := by decide +kernel
theorem d_Md_isNeeded_52 : decode b_Md_isNeeded 52 = .ok (.aload_n 0, 1) := by decide +kernel
theorem d_Md_isNeeded_53 : decode b_Md_isNeeded 53 = .ok (.getfield 31, 3) := by decide +kernel
theorem d_Md_isNeeded_56 : decode b_Md_isNeeded 56 = .ok (.iload_n 3, 1) := by decide +kernel
theorem d_Md_isNeeded_57 : decode b_Md_isNeeded 57 = .ok (.iaload, 1) := by decide +kernel
theorem d_Md_isNeeded_58 : decode b_Md_isNeeded 58 = .ok (.aload_n 0, 1) := by decide +kernel
theorem d_Md_isNeeded_59 : decode b_Md_isNeeded 59 = .ok (.getfield 31, 3) := by decide +kernel
theorem d_Md_isNeeded_62 : decode b_Md_isNeeded 62 = .ok (.iload_n 1, 1) := by decide +kernel
theorem d_Md_isNeeded_63 : decode b_Md_isNeeded 63 = .ok (.iaload, 1) := by decide +kernel
theorem d_Md_isNeeded_64 : decode b_Md_isNeeded 64 = .ok (.if_icmp .ne 7, 3) := by decide +kernel
theorem d_Md_isNeeded_67 : decode b_Md_isNeeded 67 = .ok (.iconst 1, 1) := by decide +kernel
theorem d_Md_isNeeded_68 : decode b_Md_isNeeded 68 = .ok (.goto 4, 3) := by decide +kernel
theorem d_Md_isNeeded_71 : decode b_Md_isNeeded 71 = .ok (.iconst 0, 1) := by decide +kernel
theorem d_Md_isNeeded_72 : decode b_Md_isNeeded 72 = .ok (.istore_n 2, 1) := by decide +kernel
theorem d_Md_isNeeded_73 : decode b_Md_isNeeded 73 = .ok (.iinc 3 1, 3) := by decide +kernel
theorem d_Md_isNeeded_76 : decode b_Md_isNeeded 76 = .ok (.goto (-55), 3) := by decide +kernel
theorem d_Md_isNeeded_79 : decode b_Md_isNeeded 79 = .ok (.iload_n 2, 1) := by decide +kernel
theorem d_Md_isNeeded_80 : decode b_Md_isNeeded 80 = .ok (.ireturn, 1) := by decide +kernel
theorem d_Md_changes_0 : decode b_Md_changes 0 = .ok (.aload_n 0, 1) := by decide +kernel
theorem d_Md_changes_1 : decode b_Md_changes 1 = .ok (.getfield 10, 3) := by decide +kernel
theorem d_Md_changes_4 : decode b_Md_changes 4 = .ok (.iload_n 1, 1) := by decide +kernel
theorem d_Md_changes_5 : decode b_Md_changes 5 = .ok (.baload, 1) := by decide +kernel
theorem d_Md_changes_6 : decode b_Md_changes 6 = .ok (.iconst (-1), 1) := by decide +kernel
theorem d_Md_changes_7 : decode b_Md_changes 7 = .ok (.if_icmp .eq 26, 3) := by decide +kernel
theorem d_Md_changes_10 : decode b_Md_changes 10 = .ok (.aload_n 0, 1) := by decide +kernel
theorem d_Md_changes_11 : decode b_Md_changes 11 = .ok (.getfield 31, 3) := by decide +kernel
theorem d_Md_changes_14 : decode b_Md_changes 14 = .ok (.iload_n 1, 1) := by decide +kernel
theorem d_Md_changes_15 : decode b_Md_changes 15 = .ok (.iaload, 1) := by decide +kernel
theorem d_Md_changes_16 : decode b_Md_changes 16 = .ok (.iload_n 1, 1) := by decide +kernel
theorem d_Md_changes_17 : decode b_Md_changes 17 = .ok (.if_icmp .ne 16, 3) := by decide +kernel
theorem d_Md_changes_20 : decode b_Md_changes 20 = .ok (.aload_n 0, 1) := by decide +kernel
theorem d_Md_changes_21 : decode b_Md_changes 21 = .ok (.getfield 10, 3) := by decide +kernel
theorem d_Md_changes_24 : decode b_Md_changes 24 = .ok (.aload_n 0, 1) := by decide +kernel
theorem d_Md_changes_25 : decode b_Md_changes 25 = .ok (.iload_n 1, 1) := by decide +kernel
theorem d_Md_changes_26 : decode b_Md_changes 26 = .ok (.invokevirtual 123, 3) := by decide +kernel
theorem d_Md_changes_29 : decode b_Md_changes 29 = .ok (.baload, 1) := by decide +kernel
theorem d_Md_changes_30 : decode b_Md_changes 30 = .ok (.ifCond .eq 5, 3) := by decide +kernel
theorem d_Md_changes_33 : decode b_Md_changes 33 = .ok (.iconst 0, 1) := by decide +kernel
theorem d_Md_changes_34 : decode b_Md_changes 34 = .ok (.ireturn, 1) := by decide +kernel
theorem d_Md_changes_35 : decode b_Md_changes 35 = .ok (.iconst 0, 1) := by decide +kernel
theorem d_Md_changes_36 : decode b_Md_changes 36 = .ok (.istore_n 2, 1) := by decide +kernel
theorem d_Md_changes_37 : decode b_Md_changes 37 = .ok (.iconst 0, 1) := by decide +kernel
theorem d_Md_changes_38 : decode b_Md_changes 38 = .ok (.istore_n 3, 1) := by decide +kernel
theorem d_Md_changes_39 : decode b_Md_changes 39 = .ok (.iload_n 3, 1) := by decide +kernel
theorem d_Md_changes_40 : decode b_Md_changes 40 = .ok (.aload_n 0, 1) := by decide +kernel
theorem d_Md_changes_41 : decode b_Md_changes 41 = .ok (.getfield 74, 3) := by decide +kernel
theorem d_Md_changes_44 : decode b_Md_changes 44 = .ok (.if_icmp .ge 54, 3) := by decide +kernel
theorem d_Md_changes_47 : decode b_Md_changes 47 = .ok (.iload_n 2, 1) := by decide +kernel
theorem d_Md_changes_48 : decode b_Md_changes 48 = .ok (.ifCond .ne 50, 3) := by decide +kernel
theorem d_Md_changes_51 : decode b_Md_changes 51 = .ok (.aload_n 0, 1) := by decide +kernel
theorem d_Md_changes_52 : decode b_Md_changes 52 = .ok (.getfield 10, 3) := by decide +kernel
theorem d_Md_changes_55 : decode b_Md_changes 55 = .ok (.iload_n 3, 1) := by decide +kernel
theorem d_Md_changes_56 : decode b_Md_changes 56 = .ok (.baload, 1) := by decide +kernel
theorem d_Md_changes_57 : decode b_Md_changes 57 = .ok (.iconst (-1), 1) := by decide +kernel
theorem d_Md_changes_58 : decode b_Md_changes 58 = .ok (.if_icmp .eq 32, 3) := by decide +kernel
theorem d_Md_changes_61 : decode b_Md_changes 61 = .ok (.aload_n 0, 1) := by decide +kernel
theorem d_Md_changes_62 : decode b_Md_changes 62 = .ok (.getfield 31, 3) := by decide +kernel
theorem d_Md_changes_65 : decode b_Md_changes 65 = .ok (.iload_n 3, 1) := by decide +kernel
theorem d_Md_changes_66 : decode b_Md_changes 66 = .ok (.iaload, 1) := by decide +kernel
theorem d_Md_changes_67 : decode b_Md_changes 67 = .ok (.iload_n 1, 1) := by decide +kernel
theorem d_Md_changes_68 : decode b_Md_changes 68 = .ok (.if_icmp .eq 22, 3) := by decide +kernel
theorem d_Md_changes_71 : decode b_Md_changes 71 = .ok (.aload_n 0, 1) := by decide +kernel
theorem d_Md_changes_72 : decode b_Md_changes 72 = .ok (.getfield 34, 3) := by decide +kernel
theorem d_Md_changes_75 : decode b_Md_changes 75 = .ok (.iload_n 3, 1) := by decide +kernel
theorem d_Md_changes_76 : decode b_Md_changes 76 = .ok (.iaload, 1) := by decide +kernel
theorem d_Md_changes_77 : decode b_Md_changes 77 = .ok (.aload_n 0, 1) := by decide +kernel
theorem d_Md_changes_78 : decode b_Md_changes 78 = .ok (.getfield 34, 3) := by decide +kernel
theorem d_Md_changes_81 : decode b_Md_changes 81 = .ok (.iload_n 1, 1) := by decide +kernel
theorem d_Md_changes_82 : decode b_Md_changes 82 = .ok (.iaload, 1) := by decide +kernel
theorem d_Md_changes_83 : decode b_Md_changes 83 = .ok (.if_icmp .ne 7, 3) := by decide +kernel
theorem d_Md_changes_86 : decode b_Md_changes 86 = .ok (.iconst 1, 1) := by decide +kernel
theorem d_Md_changes_87 : decode b_Md_changes 87 = .ok (.goto 4, 3) := by decide +kernel
theorem d_Md_changes_90 : decode b_Md_changes 90 = .ok (.iconst 0, 1) := by decide +kernel
theorem d_Md_changes_91 : decode b_Md_changes 91 = .ok (.istore_n 2, 1) := by decide +kernel
theorem d_Md_changes_92 : decode b_Md_changes 92 = .ok (.iinc 3 1, 3) := by decide +kernel
theorem d_Md_changes_95 : decode b_Md_changes 95 = .ok (.goto (-56), 3) := by decide +kernel
theorem d_Md_changes_98 : decode b_Md_changes 98 = .ok (.iload_n 2, 1) := by decide +kernel
theorem d_Md_changes_99 : decode b_Md_changes 99 = .ok (.ireturn, 1) := by decide +kernel
theorem d_Md_tell_0 : decode b_Md_tell 0 = .ok (.aload_n 0, 1) := by decide +kernel
theorem d_Md_tell_1 : decode b_Md_tell 1 = .ok (.iload_n 1, 1) := by decide +kernel
theorem d_Md_tell_2 : decode b_Md_tell 2 = .ok (.invokevirtual 91, 3) := by decide +kernel
theorem d_Md_tell_5 : decode b_Md_tell 5 = .ok (.ifCond .eq 20, 3) := by decide +kernel
theorem d_Md_tell_8 : decode b_Md_tell 8 = .ok (.aload_n 0, 1) := by decide +kernel
theorem d_Md_tell_9 : decode b_Md_tell 9 = .ok (.iload_n 2, 1) := by decide +kernel
theorem d_Md_tell_10 : decode b_Md_tell 10 = .ok (.invokevirtual 91, 3) := by decide +kernel
theorem d_Md_tell_13 : decode b_Md_tell 13 = .ok (.ifCond .eq 12, 3) := by decide +kernel
theorem d_Md_tell_16 : decode b_Md_tell 16 = .ok (.aload_n 0, 1) := by decide +kernel
theorem d_Md_tell_17 : decode b_Md_tell 17 = .ok (.iload_n 1, 1) := by decide +kernel
theorem d_Md_tell_18 : decode b_Md_tell 18 = .ok (.iload_n 2, 1) := by decide +kernel
theorem d_Md_tell_19 : decode b_Md_tell 19 = .ok (.invokevirtual 126, 3) := by decide +kernel
theorem d_Md_tell_22 : decode b_Md_tell 22 = .ok (.ifCond .ne 5, 3) := by decide +kernel
theorem d_Md_tell_25 : decode b_Md_tell 25 = .ok (.iconst 0, 1) := by decide +kernel
theorem d_Md_tell_26 : decode b_Md_tell 26 = .ok (.ireturn, 1) := by decide +kernel
theorem d_Md_tell_27 : decode b_Md_tell 27 = .ok (.aload_n 0, 1) := by decide +kernel
theorem d_Md_tell_28 : decode b_Md_tell 28 = .ok (.iconst 0, 1) := by decide +kernel
theorem d_Md_tell_29 : decode b_Md_tell 29 = .ok (.putfield 129, 3) := by decide +kernel
theorem d_Md_tell_32 : decode b_Md_tell 32 = .ok (.iconst 0, 1) := by decide +kernel
theorem d_Md_tell_33 : decode b_Md_tell 33 = .ok (.istore_n 3, 1) := by decide +kernel
theorem d_Md_tell_34 : decode b_Md_tell 34 = .ok (.iload_n 3, 1) := by decide +kernel
theorem d_Md_tell_35 : decode b_Md_tell 35 = .ok (.aload_n 0, 1) := by decide +kernel
theorem d_Md_tell_36 : decode b_Md_tell 36 = .ok (.getfield 74, 3) := by decide +kernel
theorem d_Md_tell_39 : decode b_Md_tell 39 = .ok (.if_icmp .ge 37, 3) := by decide +kernel
theorem d_Md_tell_42 : decode b_Md_tell 42 = .ok (.aload_n 0, 1) := by decide +kernel
theorem d_Md_tell_43 : decode b_Md_tell 43 = .ok (.iload_n 3, 1) := by decide +kernel
theorem d_Md_tell_44 : decode b_Md_tell 44 = .ok (.invokevirtual 132, 3) := by decide +kernel
theorem d_Md_tell_47 : decode b_Md_tell 47 = .ok (.ifCond .eq 23, 3) := by decide +kernel
theorem d_Md_tell_50 : decode b_Md_tell 50 = .ok (.aload_n 0, 1) := by decide +kernel
theorem d_Md_tell_51 : decode b_Md_tell 51 = .ok (.getfield 53, 3) := by decide +kernel
theorem d_Md_tell_54 : decode b_Md_tell 54 = .ok (.aload_n 0, 1) := by decide +kernel
theorem d_Md_tell_55 : decode b_Md_tell 55 = .ok (.getfield 129, 3) := by decide +kernel
theorem d_Md_tell_58 : decode b_Md_tell 58 = .ok (.iload_n 3, 1) := by decide +kernel
theorem d_Md_tell_59 : decode b_Md_tell 59 = .ok (.iastore, 1) := by decide +kernel
theorem d_Md_tell_60 : decode b_Md_tell 60 = .ok (.aload_n 0, 1) := by decide +kernel
theorem d_Md_tell_61 : decode b_Md_tell 61 = .ok (.dup, 1) := by decide +kernel
theorem d_Md_tell_62 : decode b_Md_tell 62 = .ok (.getfield 129, 3) := by decide +kernel
theorem d_Md_tell_65 : decode b_Md_tell 65 = .ok (.iconst 1, 1) := by decide +kernel
theorem d_Md_tell_66 : decode b_Md_tell 66 = .ok (.iadd, 1) := by decide +kernel
theorem d_Md_tell_67 : decode b_Md_tell 67 = .ok (.putfield 129, 3) := by decide +kernel
theorem d_Md_tell_70 : decode b_Md_tell 70 = .ok (.iinc 3 1, 3) := by decide +kernel
theorem d_Md_tell_73 : decode b_Md_tell 73 = .ok (.goto (-39), 3) := by decide +kernel
theorem d_Md_tell_76 : decode b_Md_tell 76 = .ok (.aload_n 0, 1) := by decide +kernel
theorem d_Md_tell_77 : decode b_Md_tell 77 = .ok (.getfield 34, 3) := by decide +kernel
theorem d_Md_tell_80 : decode b_Md_tell 80 = .ok (.iconst 0, 1) := by decide +kernel
theorem d_Md_tell_81 : decode b_Md_tell 81 = .ok (.aload_n 0, 1) := by decide +kernel
theorem d_Md_tell_82 : decode b_Md_tell 82 = .ok (.getfield 31, 3) := by decide +kernel
theorem d_Md_tell_85 : decode b_Md_tell 85 = .ok (.iconst 0, 1) := by decide +kernel
theorem d_Md_tell_86 : decode b_Md_tell 86 = .ok (.aload_n 0, 1) := by decide +kernel
theorem d_Md_tell_87 : decode b_Md_tell 87 = .ok (.getfield 74, 3) := by decide +kernel
theorem d_Md_tell_90 : decode b_Md_tell 90 = .ok (.invokestatic 113, 3) := by decide +kernel
theorem d_Md_tell_93 : decode b_Md_tell 93 = .ok (.aload_n 0, 1) := by decide +kernel
theorem d_Md_tell_94 : decode b_Md_tell 94 = .ok (.invokevirtual 81, 3) := by decide +kernel
theorem d_Md_tell_97 : decode b_Md_tell 97 = .ok (.iconst 1, 1) := by decide +kernel
theorem d_Md_tell_98 : decode b_Md_tell 98 = .ok (.ireturn, 1) := by decide +kernel
theorem d_Md_ask_0 : decode b_Md_ask 0 = .ok (.aload_n 0, 1) := by decide +kernel
theorem d_Md_ask_1 : decode b_Md_ask 1 = .ok (.iload_n 1, 1) := by decide +kernel
theorem d_Md_ask_2 : decode b_Md_ask 2 = .ok (.invokevirtual 91, 3) := by decide +kernel
theorem d_Md_ask_5 : decode b_Md_ask 5 = .ok (.ifCond .eq 11, 3) := by decide +kernel
theorem d_Md_ask_8 : decode b_Md_ask 8 = .ok (.aload_n 0, 1) := by decide +kernel
theorem d_Md_ask_9 : decode b_Md_ask 9 = .ok (.iload_n 2, 1) := by decide +kernel
theorem d_Md_ask_10 : decode b_Md_ask 10 = .ok (.invokevirtual 91, 3) := by decide +kernel
theorem d_Md_ask_13 : decode b_Md_ask 13 = .ok (.ifCond .ne 6, 3) := by decide +kernel
theorem d_Md_ask_16 : decode b_Md_ask 16 = .ok (.bipush (-2), 2) := by decide +kernel
theorem d_Md_ask_18 : decode b_Md_ask 18 = .ok (.ireturn, 1) := by decide +kernel
theorem d_Md_ask_19 : decode b_Md_ask 19 = .ok (.aload_n 0, 1) := by decide +kernel
theorem d_Md_ask_20 : decode b_Md_ask 20 = .ok (.iload_n 1, 1) := by decide +kernel
theorem d_Md_ask_21 : decode b_Md_ask 21 = .ok (.iload_n 2, 1) := by decide +kernel
theorem d_Md_ask_22 : decode b_Md_ask 22 = .ok (.invokevirtual 126, 3) := by decide +kernel
theorem d_Md_ask_25 : decode b_Md_ask 25 = .ok (.ifCond .ne 5, 3) := by decide +kernel
theorem d_Md_ask_28 : decode b_Md_ask 28 = .ok (.iconst 0, 1) := by decide +kernel
theorem d_Md_ask_29 : decode b_Md_ask 29 = .ok (.ireturn, 1) := by decide +kernel
theorem d_Md_ask_30 : decode b_Md_ask 30 = .ok (.iconst 0, 1) := by decide +kernel
theorem d_Md_ask_31 : decode b_Md_ask 31 = .ok (.istore_n 3, 1) := by decide +kernel
theorem d_Md_ask_32 : decode b_Md_ask 32 = .ok (.iconst 0, 1) := by decide +kernel
theorem d_Md_ask_33 : decode b_Md_ask 33 = .ok (.istore 4, 2) := by decide +kernel
theorem d_Md_ask_35 : decode b_Md_ask 35 = .ok (.iload 4, 2) := by decide +kernel
theorem d_Md_ask_37 : decode b_Md_ask 37 = .ok (.aload_n 0, 1) := by decide +kernel
theorem d_Md_ask_38 : decode b_Md_ask 38 = .ok (.getfield 74, 3) := by decide +kernel
theorem d_Md_ask_41 : decode b_Md_ask 41 = .ok (.if_icmp .ge 20, 3) := by decide +kernel
theorem d_Md_ask_44 : decode b_Md_ask 44 = .ok (.iload_n 3, 1) := by decide +kernel
theorem d_Md_ask_45 : decode b_Md_ask 45 = .ok (.ifCond .ne 16, 3) := by decide +kernel
theorem d_Md_ask_48 : decode b_Md_ask 48 = .ok (.aload_n 0, 1) := by decide +kernel
theorem d_Md_ask_49 : decode b_Md_ask 49 = .ok (.iload 4, 2) := by decide +kernel
theorem d_Md_ask_51 : decode b_Md_ask 51 = .ok (.invokevirtual 132, 3) := by decide +kernel
theorem d_Md_ask_54 : decode b_Md_ask 54 = .ok (.istore_n 3, 1) := by decide +kernel
theorem d_Md_ask_55 : decode b_Md_ask 55 = .ok (.iinc 4 1, 3) := by decide +kernel
theorem d_Md_ask_58 : decode b_Md_ask 58 = .ok (.goto (-23), 3) := by decide +kernel
theorem d_Md_ask_61 : decode b_Md_ask 61 = .ok (.iload_n 3, 1) := by decide +kernel
theorem d_Md_ask_62 : decode b_Md_ask 62 = .ok (.ifCond .eq 7, 3) := by decide +kernel
theorem d_Md_ask_65 : decode b_Md_ask 65 = .ok (.iconst (-1), 1) := by decide +kernel
theorem d_Md_ask_66 : decode b_Md_ask 66 = .ok (.goto 4, 3) := by decide +kernel
theorem d_Md_ask_69 : decode b_Md_ask 69 = .ok (.iconst 1, 1) := by decide +kernel
theorem d_Md_ask_70 : decode b_Md_ask 70 = .ok (.ireturn, 1) := by decide +kernel
theorem d_Md_hangs_0 : decode b_Md_hangs 0 = .ok (.aload_n 0, 1) := by decide +kernel
theorem d_Md_hangs_1 : decode b_Md_hangs 1 = .ok (.iload_n 1, 1) := by decide +kernel
theorem d_Md_hangs_2 : decode b_Md_hangs 2 = .ok (.iload_n 2, 1) := by decide +kernel
theorem d_Md_hangs_3 : decode b_Md_hangs 3 = .ok (.invokevirtual 135, 3) := by decide +kernel
theorem d_Md_hangs_6 : decode b_Md_hangs 6 = .ok (.iconst (-1), 1) := by decide +kernel
theorem d_Md_hangs_7 : decode b_Md_hangs 7 = .ok (.if_icmp .ne 7, 3) := by decide +kernel
theorem d_Md_hangs_10 : decode b_Md_hangs 10 = .ok (.iload_n 3, 1) := by decide +kernel
theorem d_Md_hangs_11 : decode b_Md_hangs 11 = .ok (.ifCond .ge 5, 3) := by decide +kernel
theorem d_Md_hangs_14 : decode b_Md_hangs 14 = .ok (.iconst (-1), 1) := by decide +kernel
theorem d_Md_hangs_15 : decode b_Md_hangs 15 = .ok (.ireturn, 1) := by decide +kernel
theorem d_Md_hangs_16 : decode b_Md_hangs 16 = .ok (.iconst 0, 1) := by decide +kernel
theorem d_Md_hangs_17 : decode b_Md_hangs 17 = .ok (.istore 4, 2) := by decide +kernel
theorem d_Md_hangs_19 : decode b_Md_hangs 19 = .ok (.iconst 0, 1) := by decide +kernel
theorem d_Md_hangs_20 : decode b_Md_hangs 20 = .ok (.istore 5, 2) := by decide +kernel
theorem d_Md_hangs_22 : decode b_Md_hangs 22 = .ok (.iload 5, 2) := by decide +kernel
theorem d_Md_hangs_24 : decode b_Md_hangs 24 = .ok (.aload_n 0, 1) := by decide +kernel
theorem d_Md_hangs_25 : decode b_Md_hangs 25 = .ok (.getfield 74, 3) := by decide +kernel
theorem d_Md_hangs_28 : decode b_Md_hangs 28 = .ok (.if_icmp .ge 30, 3) := by decide +kernel
theorem d_Md_hangs_31 : decode b_Md_hangs 31 = .ok (.aload_n 0, 1) := by decide +kernel
theorem d_Md_hangs_32 : decode b_Md_hangs 32 = .ok (.iload 5, 2) := by decide +kernel
theorem d_Md_hangs_34 : decode b_Md_hangs 34 = .ok (.invokevirtual 132, 3) := by decide +kernel
theorem d_Md_hangs_37 : decode b_Md_hangs 37 = .ok (.ifCond .eq 15, 3) := by decide +kernel
theorem d_Md_hangs_40 : decode b_Md_hangs 40 = .ok (.iload 4, 2) := by decide +kernel
theorem d_Md_hangs_42 : decode b_Md_hangs 42 = .ok (.iload_n 3, 1) := by decide +kernel
theorem d_Md_hangs_43 : decode b_Md_hangs 43 = .ok (.if_icmp .ne 6, 3) := by decide +kernel
theorem d_Md_hangs_46 : decode b_Md_hangs 46 = .ok (.iload 5, 2) := by decide +kernel
theorem d_Md_hangs_48 : decode b_Md_hangs 48 = .ok (.ireturn, 1) := by decide +kernel
theorem d_Md_hangs_49 : decode b_Md_hangs 49 = .ok (.iinc 4 1, 3) := by decide +kernel
theorem d_Md_hangs_52 : decode b_Md_hangs 52 = .ok (.iinc 5 1, 3) := by decide +kernel
theorem d_Md_hangs_55 : decode b_Md_hangs 55 = .ok (.goto (-33), 3) := by decide +kernel
theorem d_Md_hangs_58 : decode b_Md_hangs 58 = .ok (.iconst (-1), 1) := by decide +kernel
theorem d_Md_hangs_59 : decode b_Md_hangs 59 = .ok (.ireturn, 1) := by decide +kernel
theorem d_Md_need_0 : decode b_Md_need 0 = .ok (.aload_n 0, 1) := by decide +kernel
theorem d_Md_need_1 : decode b_Md_need 1 = .ok (.iload_n 1, 1) := by decide +kernel
theorem d_Md_need_2 : decode b_Md_need 2 = .ok (.invokevirtual 91, 3) := by decide +kernel
theorem d_Md_need_5 : decode b_Md_need 5 = .ok (.ifCond .eq 11, 3) := by decide +kernel
theorem d_Md_need_8 : decode b_Md_need 8 = .ok (.aload_n 0, 1) := by decide +kernel
theorem d_Md_need_9 : decode b_Md_need 9 = .ok (.iload_n 1, 1) := by decide +kernel
theorem d_Md_need_10 : decode b_Md_need 10 = .ok (.invokevirtual 138, 3) := by decide +kernel
theorem d_Md_need_13 : decode b_Md_need 13 = .ok (.ifCond .eq 5, 3) := by decide +kernel
theorem d_Md_need_16 : decode b_Md_need 16 = .ok (.iconst 0, 1) := by decide +kernel
theorem d_Md_need_17 : decode b_Md_need 17 = .ok (.ireturn, 1) := by decide +kernel
theorem d_Md_need_18 : decode b_Md_need 18 = .ok (.aload_n 0, 1) := by decide +kernel
theorem d_Md_need_19 : decode b_Md_need 19 = .ok (.getfield 24, 3) := by decide +kernel
theorem d_Md_need_22 : decode b_Md_need 22 = .ok (.iload_n 1, 1) := by decide +kernel
theorem d_Md_need_23 : decode b_Md_need 23 = .ok (.iconst 1, 1) := by decide +kernel
theorem d_Md_need_24 : decode b_Md_need 24 = .ok (.bastore, 1) := by decide +kernel
theorem d_Md_need_25 : decode b_Md_need 25 = .ok (.aload_n 0, 1) := by decide +kernel
theorem d_Md_need_26 : decode b_Md_need 26 = .ok (.getfield 53, 3) := by decide +kernel
theorem d_Md_need_29 : decode b_Md_need 29 = .ok (.iconst 0, 1) := by decide +kernel
theorem d_Md_need_30 : decode b_Md_need 30 = .ok (.aload_n 0, 1) := by decide +kernel
theorem d_Md_need_31 : decode b_Md_need 31 = .ok (.getfield 31, 3) := by decide +kernel
theorem d_Md_need_34 : decode b_Md_need 34 = .ok (.iload_n 1, 1) := by decide +kernel
theorem d_Md_need_35 : decode b_Md_need 35 = .ok (.iaload, 1) := by decide +kernel
theorem d_Md_need_36 : decode b_Md_need 36 = .ok (.iastore, 1) := by decide +kernel
theorem d_Md_need_37 : decode b_Md_need 37 = .ok (.aload_n 0, 1) := by decide +kernel
theorem d_Md_need_38 : decode b_Md_need 38 = .ok (.iconst 1, 1) := by decide +kernel
theorem d_Md_need_39 : decode b_Md_need 39 = .ok (.putfield 129, 3) := by decide +kernel
theorem d_Md_need_42 : decode b_Md_need 42 = .ok (.iconst 1, 1) := by decide +kernel
theorem d_Md_need_43 : decode b_Md_need 43 = .ok (.ireturn, 1) := by decide +kernel
theorem d_Md_touched_0 : decode b_Md_touched 0 = .ok (.iload_n 1, 1) := by decide +kernel
theorem d_Md_touched_1 : decode b_Md_touched 1 = .ok (.ifCond .lt 11, 3) := by decide +kernel
theorem d_Md_touched_4 : decode b_Md_touched 4 = .ok (.iload_n 1, 1) := by decide +kernel
theorem d_Md_touched_5 : decode b_Md_touched 5 = .ok (.aload_n 0, 1) := by decide +kernel
theorem d_Md_touched_6 : decode b_Md_touched 6 = .ok (.getfield 129, 3) := by decide +kernel
theorem d_Md_touched_9 : decode b_Md_touched 9 = .ok (.if_icmp .lt 7, 3) := by decide +kernel
theorem d_Md_touched_12 : decode b_Md_touched 12 = .ok (.iconst (-1), 1) := by decide +kernel
theorem d_Md_touched_13 : decode b_Md_touched 13 = .ok (.goto 9, 3) := by decide +kernel
theorem d_Md_touched_16 : decode b_Md_touched 16 = .ok (.aload_n 0, 1) := by decide +kernel
theorem d_Md_touched_17 : decode b_Md_touched 17 = .ok (.getfield 53, 3) := by decide +kernel
theorem d_Md_touched_20 : decode b_Md_touched 20 = .ok (.iload_n 1, 1) := by decide +kernel
theorem d_Md_touched_21 : decode b_Md_touched 21 = .ok (.iaload, 1) := by decide +kernel
theorem d_Md_touched_22 : decode b_Md_touched 22 = .ok (.ireturn, 1) := by decide +kernel
theorem d_Md_at_0 : decode b_Md_at 0 = .ok (.aload_n 0, 1) := by decide +kernel
theorem d_Md_at_1 : decode b_Md_at 1 = .ok (.iload_n 1, 1) := by decide +kernel
theorem d_Md_at_2 : decode b_Md_at 2 = .ok (.invokevirtual 91, 3) := by decide +kernel
theorem d_Md_at_5 : decode b_Md_at 5 = .ok (.ifCond .ne 5, 3) := by decide +kernel
theorem d_Md_at_8 : decode b_Md_at 8 = .ok (.iconst (-1), 1) := by decide +kernel
theorem d_Md_at_9 : decode b_Md_at 9 = .ok (.ireturn, 1) := by decide +kernel
theorem d_Md_at_10 : decode b_Md_at 10 = .ok (.iload_n 1, 1) := by decide +kernel
theorem d_Md_at_11 : decode b_Md_at 11 = .ok (.istore 4, 2) := by decide +kernel
theorem d_Md_at_13 : decode b_Md_at 13 = .ok (.lload_n 2, 1) := by decide +kernel
theorem d_Md_at_14 : decode b_Md_at 14 = .ok (.lstore 5, 2) := by decide +kernel
theorem d_Md_at_16 : decode b_Md_at 16 = .ok (.lload 5, 2) := by decide +kernel
theorem d_Md_at_18 : decode b_Md_at 18 = .ok (.ldc2_w 141, 3) := by decide +kernel
theorem d_Md_at_21 : decode b_Md_at 21 = .ok (.land, 1) := by decide +kernel
theorem d_Md_at_22 : decode b_Md_at 22 = .ok (.lconst 0, 1) := by decide +kernel
theorem d_Md_at_23 : decode b_Md_at 23 = .ok (.lcmp, 1) := by decide +kernel
theorem d_Md_at_24 : decode b_Md_at 24 = .ok (.ifCond .eq 74, 3) := by decide +kernel
theorem d_Md_at_27 : decode b_Md_at 27 = .ok (.aload_n 0, 1) := by decide +kernel
theorem d_Md_at_28 : decode b_Md_at 28 = .ok (.iload 4, 2) := by decide +kernel
theorem d_Md_at_30 : decode b_Md_at 30 = .ok (.invokevirtual 123, 3) := by decide +kernel
theorem d_Md_at_33 : decode b_Md_at 33 = .ok (.istore 7, 2) := by decide +kernel
theorem d_Md_at_35 : decode b_Md_at 35 = .ok (.lload 5, 2) := by decide +kernel
theorem d_Md_at_37 : decode b_Md_at 37 = .ok (.ldc2_w 141, 3) := by decide +kernel
theorem d_Md_at_40 : decode b_Md_at 40 = .ok (.land, 1) := by decide +kernel
theorem d_Md_at_41 : decode b_Md_at 41 = .ok (.l2i, 1) := by decide +kernel
theorem d_Md_at_42 : decode b_Md_at 42 = .ok (.istore 8, 2) := by decide +kernel
theorem d_Md_at_44 : decode b_Md_at 44 = .ok (.aload_n 0, 1) := by decide +kernel
theorem d_Md_at_45 : decode b_Md_at 45 = .ok (.getfield 10, 3) := by decide +kernel
theorem d_Md_at_48 : decode b_Md_at 48 = .ok (.iload 7, 2) := by decide +kernel
theorem d_Md_at_50 : decode b_Md_at 50 = .ok (.baload, 1) := by decide +kernel
theorem d_Md_at_51 : decode b_Md_at 51 = .ok (.iconst 3, 1) := by decide +kernel
theorem d_Md_at_52 : decode b_Md_at 52 = .ok (.if_icmp .lt 15, 3) := by decide +kernel
theorem d_Md_at_55 : decode b_Md_at 55 = .ok (.iload 8, 2) := by decide +kernel
theorem d_Md_at_57 : decode b_Md_at 57 = .ok (.aload_n 0, 1) := by decide +kernel
theorem d_Md_at_58 : decode b_Md_at 58 = .ok (.getfield 21, 3) := by decide +kernel
theorem d_Md_at_61 : decode b_Md_at 61 = .ok (.iload 7, 2) := by decide +kernel
theorem d_Md_at_63 : decode b_Md_at 63 = .ok (.iaload, 1) := by decide +kernel
theorem d_Md_at_64 : decode b_Md_at 64 = .ok (.if_icmp .le 5, 3) := by decide +kernel
theorem d_Md_at_67 : decode b_Md_at 67 = .ok (.iconst (-1), 1) := by decide +kernel
theorem d_Md_at_68 : decode b_Md_at 68 = .ok (.ireturn, 1) := by decide +kernel
theorem d_Md_at_69 : decode b_Md_at 69 = .ok (.aload_n 0, 1) := by decide +kernel
theorem d_Md_at_70 : decode b_Md_at 70 = .ok (.getfield 44, 3) := by decide +kernel
theorem d_Md_at_73 : decode b_Md_at 73 = .ok (.aload_n 0, 1) := by decide +kernel
theorem d_Md_at_74 : decode b_Md_at 74 = .ok (.getfield 18, 3) := by decide +kernel
theorem d_Md_at_77 : decode b_Md_at 77 = .ok (.iload 7, 2) := by decide +kernel
theorem d_Md_at_79 : decode b_Md_at 79 = .ok (.iaload, 1) := by decide +kernel
theorem d_Md_at_80 : decode b_Md_at 80 = .ok (.iload 8, 2) := by decide +kernel
theorem d_Md_at_82 : decode b_Md_at 82 = .ok (.iadd, 1) := by decide +kernel
theorem d_Md_at_83 : decode b_Md_at 83 = .ok (.iconst 1, 1) := by decide +kernel
theorem d_Md_at_84 : decode b_Md_at 84 = .ok (.isub, 1) := by decide +kernel
theorem d_Md_at_85 : decode b_Md_at 85 = .ok (.iaload, 1) := by decide +kernel
theorem d_Md_at_86 : decode b_Md_at 86 = .ok (.istore 4, 2) := by decide +kernel
theorem d_Md_at_88 : decode b_Md_at 88 = .ok (.lload 5, 2) := by decide +kernel
theorem d_Md_at_90 : decode b_Md_at 90 = .ok (.bipush 8, 2) := by decide +kernel
theorem d_Md_at_92 : decode b_Md_at 92 = .ok (.lushr, 1) := by decide +kernel
theorem d_Md_at_93 : decode b_Md_at 93 = .ok (.lstore 5, 2) := by decide +kernel
theorem d_Md_at_95 : decode b_Md_at 95 = .ok (.goto (-79), 3) := by decide +kernel
theorem d_Md_at_98 : decode b_Md_at 98 = .ok (.iload 4, 2) := by decide +kernel
theorem d_Md_at_100 : decode b_Md_at 100 = .ok (.ireturn, 1) := by decide +kernel
theorem d_Md_look_0 : decode b_Md_look 0 = .ok (.aload_n 0, 1) := by decide +kernel
theorem d_Md_look_1 : decode b_Md_look 1 = .ok (.iload_n 1, 1) := by decide +kernel
theorem d_Md_look_2 : decode b_Md_look 2 = .ok (.lload_n 2, 1) := by decide +kernel
theorem d_Md_look_3 : decode b_Md_look 3 = .ok (.invokevirtual 143, 3) := by decide +kernel
theorem d_Md_look_6 : decode b_Md_look 6 = .ok (.istore 5, 2) := by decide +kernel
theorem d_Md_look_8 : decode b_Md_look 8 = .ok (.iload 5, 2) := by decide +kernel
theorem d_Md_look_10 : decode b_Md_look 10 = .ok (.iconst (-1), 1) := by decide +kernel
theorem d_Md_look_11 : decode b_Md_look 11 = .ok (.if_icmp .ne 5, 3) := by decide +kernel
theorem d_Md_look_14 : decode b_Md_look 14 = .ok (.iconst (-1), 1) := by decide +kernel
theorem d_Md_look_15 : decode b_Md_look 15 = .ok (.ireturn, 1) := by decide +kernel
theorem d_Md_look_16 : decode b_Md_look 16 = .ok (.aload_n 0, 1) := by decide +kernel
theorem d_Md_look_17 : decode b_Md_look 17 = .ok (.iload 5, 2) := by decide +kernel
theorem d_Md_look_19 : decode b_Md_look 19 = .ok (.invokevirtual 123, 3) := by decide +kernel
theorem d_Md_look_22 : decode b_Md_look 22 = .ok (.istore 6, 2) := by decide +kernel
theorem d_Md_look_24 : decode b_Md_look 24 = .ok (.iload 4, 2) := by decide +kernel
theorem d_Md_look_26 : decode b_Md_look 26 = .ok (.tableswitch 110 0 4 #[34, 42, 64, 87, 95], 34) := by decide +kernel
theorem d_Md_look_60 : decode b_Md_look 60 = .ok (.aload_n 0, 1) := by decide +kernel
theorem d_Md_look_61 : decode b_Md_look 61 = .ok (.getfield 10, 3) := by decide +kernel
theorem d_Md_look_64 : decode b_Md_look 64 = .ok (.iload 6, 2) := by decide +kernel
theorem d_Md_look_66 : decode b_Md_look 66 = .ok (.baload, 1) := by decide +kernel
theorem d_Md_look_67 : decode b_Md_look 67 = .ok (.ireturn, 1) := by decide +kernel
theorem d_Md_look_68 : decode b_Md_look 68 = .ok (.aload_n 0, 1) := by decide +kernel
theorem d_Md_look_69 : decode b_Md_look 69 = .ok (.getfield 10, 3) := by decide +kernel
theorem d_Md_look_72 : decode b_Md_look 72 = .ok (.iload 6, 2) := by decide +kernel
theorem d_Md_look_74 : decode b_Md_look 74 = .ok (.baload, 1) := by decide +kernel
theorem d_Md_look_75 : decode b_Md_look 75 = .ok (.ifCond .ne 7, 3) := by decide +kernel
theorem d_Md_look_78 : decode b_Md_look 78 = .ok (.iconst 0, 1) := by decide +kernel
theorem d_Md_look_79 : decode b_Md_look 79 = .ok (.goto 10, 3) := by decide +kernel
theorem d_Md_look_82 : decode b_Md_look 82 = .ok (.aload_n 0, 1) := by decide +kernel
theorem d_Md_look_83 : decode b_Md_look 83 = .ok (.getfield 14, 3) := by decide +kernel
theorem d_Md_look_86 : decode b_Md_look 86 = .ok (.iload 6, 2) := by decide +kernel
theorem d_Md_look_88 : decode b_Md_look 88 = .ok (.iaload, 1) := by decide +kernel
theorem d_Md_look_89 : decode b_Md_look 89 = .ok (.ireturn, 1) := by decide +kernel
theorem d_Md_look_90 : decode b_Md_look 90 = .ok (.aload_n 0, 1) := by decide +kernel
theorem d_Md_look_91 : decode b_Md_look 91 = .ok (.getfield 10, 3) := by decide +kernel
theorem d_Md_look_94 : decode b_Md_look 94 = .ok (.iload 6, 2) := by decide +kernel
theorem d_Md_look_96 : decode b_Md_look 96 = .ok (.baload, 1) := by decide +kernel
theorem d_Md_look_97 : decode b_Md_look 97 = .ok (.iconst 3, 1) := by decide +kernel
theorem d_Md_look_98 : decode b_Md_look 98 = .ok (.if_icmp .ge 7, 3) := by decide +kernel
theorem d_Md_look_101 : decode b_Md_look 101 = .ok (.iconst 0, 1) := by decide +kernel
theorem d_Md_look_102 : decode b_Md_look 102 = .ok (.goto 10, 3) := by decide +kernel
theorem d_Md_look_105 : decode b_Md_look 105 = .ok (.aload_n 0, 1) := by decide +kernel
theorem d_Md_look_106 : decode b_Md_look 106 = .ok (.getfield 21, 3) := by decide +kernel
theorem d_Md_look_109 : decode b_Md_look 109 = .ok (.iload 6, 2) := by decide +kernel
theorem d_Md_look_111 : decode b_Md_look 111 = .ok (.iaload, 1) := by decide +kernel
theorem d_Md_look_112 : decode b_Md_look 112 = .ok (.ireturn, 1) := by decide +kernel
theorem d_Md_look_113 : decode b_Md_look 113 = .ok (.aload_n 0, 1) := by decide +kernel
theorem d_Md_look_114 : decode b_Md_look 114 = .ok (.getfield 31, 3) := by decide +kernel
theorem d_Md_look_117 : decode b_Md_look 117 = .ok (.iload 5, 2) := by decide +kernel
theorem d_Md_look_119 : decode b_Md_look 119 = .ok (.iaload, 1) := by decide +kernel
theorem d_Md_look_120 : decode b_Md_look 120 = .ok (.ireturn, 1) := by decide +kernel
theorem d_Md_look_121 : decode b_Md_look 121 = .ok (.aload_n 0, 1) := by decide +kernel
theorem d_Md_look_122 : decode b_Md_look 122 = .ok (.iload 5, 2) := by decide +kernel
theorem d_Md_look_124 : decode b_Md_look 124 = .ok (.invokevirtual 138, 3) := by decide +kernel
theorem d_Md_look_127 : decode b_Md_look 127 = .ok (.ifCond .eq 7, 3) := by decide +kernel
theorem d_Md_look_130 : decode b_Md_look 130 = .ok (.iconst 1, 1) := by decide +kernel
theorem d_Md_look_131 : decode b_Md_look 131 = .ok (.goto 4, 3) := by decide +kernel
theorem d_Md_look_134 : decode b_Md_look 134 = .ok (.iconst 0, 1) := by decide +kernel
theorem d_Md_look_135 : decode b_Md_look 135 = .ok (.ireturn, 1) := by decide +kernel
theorem d_Md_look_136 : decode b_Md_look 136 = .ok (.iconst (-1), 1) := by decide +kernel
theorem d_Md_look_137 : decode b_Md_look 137 = .ok (.ireturn, 1) := by decide +kernel
theorem d_Md_feature_0 : decode b_Md_feature 0 = .ok (.aload_n 0, 1) := by decide +kernel
theorem d_Md_feature_1 : decode b_Md_feature 1 = .ok (.iload_n 1, 1) := by decide +kernel
theorem d_Md_feature_2 : decode b_Md_feature 2 = .ok (.lload_n 2, 1) := by decide +kernel
theorem d_Md_feature_3 : decode b_Md_feature 3 = .ok (.invokevirtual 143, 3) := by decide +kernel
theorem d_Md_feature_6 : decode b_Md_feature 6 = .ok (.istore 5, 2) := by decide +kernel
theorem d_Md_feature_8 : decode b_Md_feature 8 = .ok (.iload 5, 2) := by decide +kernel
theorem d_Md_feature_10 : decode b_Md_feature 10 = .ok (.iconst (-1), 1) := by decide +kernel
theorem d_Md_feature_11 : decode b_Md_feature 11 = .ok (.if_icmp .ne 7, 3) := by decide +kernel
theorem d_Md_feature_14 : decode b_Md_feature 14 = .ok (.iconst (-1), 1) := by decide +kernel
theorem d_Md_feature_15 : decode b_Md_feature 15 = .ok (.goto 9, 3) := by decide +kernel
theorem d_Md_feature_18 : decode b_Md_feature 18 = .ok (.aload_n 0, 1) := by decide +kernel
theorem d_Md_feature_19 : decode b_Md_feature 19 = .ok (.iload 5, 2) := by decide +kernel
theorem d_Md_feature_21 : decode b_Md_feature 21 = .ok (.invokevirtual 123, 3) := by decide +kernel
theorem d_Md_feature_24 : decode b_Md_feature 24 = .ok (.istore 6, 2) := by decide +kernel
theorem d_Md_feature_26 : decode b_Md_feature 26 = .ok (.iload 6, 2) := by decide +kernel
theorem d_Md_feature_28 : decode b_Md_feature 28 = .ok (.iconst (-1), 1) := by decide +kernel
theorem d_Md_feature_29 : decode b_Md_feature 29 = .ok (.if_icmp .eq 31, 3) := by decide +kernel
theorem d_Md_feature_32 : decode b_Md_feature 32 = .ok (.aload_n 0, 1) := by decide +kernel
theorem d_Md_feature_33 : decode b_Md_feature 33 = .ok (.getfield 10, 3) := by decide +kernel
theorem d_Md_feature_36 : decode b_Md_feature 36 = .ok (.iload 6, 2) := by decide +kernel
theorem d_Md_feature_38 : decode b_Md_feature 38 = .ok (.baload, 1) := by decide +kernel
theorem d_Md_feature_39 : decode b_Md_feature 39 = .ok (.iconst 3, 1) := by decide +kernel
theorem d_Md_feature_40 : decode b_Md_feature 40 = .ok (.if_icmp .lt 20, 3) := by decide +kernel
theorem d_Md_feature_43 : decode b_Md_feature 43 = .ok (.iload 4, 2) := by decide +kernel
theorem d_Md_feature_45 : decode b_Md_feature 45 = .ok (.ifCond .lt 15, 3) := by decide +kernel
theorem d_Md_feature_48 : decode b_Md_feature 48 = .ok (.iload 4, 2) := by decide +kernel
theorem d_Md_feature_50 : decode b_Md_feature 50 = .ok (.aload_n 0, 1) := by decide +kernel
theorem d_Md_feature_51 : decode b_Md_feature 51 = .ok (.getfield 21, 3) := by decide +kernel
theorem d_Md_feature_54 : decode b_Md_feature 54 = .ok (.iload 6, 2) := by decide +kernel
theorem d_Md_feature_56 : decode b_Md_feature 56 = .ok (.iaload, 1) := by decide +kernel
theorem d_Md_feature_57 : decode b_Md_feature 57 = .ok (.if_icmp .lt 7, 3) := by decide +kernel
theorem d_Md_feature_60 : decode b_Md_feature 60 = .ok (.iconst 0, 1) := by decide +kernel
theorem d_Md_feature_61 : decode b_Md_feature 61 = .ok (.goto 18, 3) := by decide +kernel
theorem d_Md_feature_64 : decode b_Md_feature 64 = .ok (.aload_n 0, 1) := by decide +kernel
theorem d_Md_feature_65 : decode b_Md_feature 65 = .ok (.getfield 41, 3) := by decide +kernel
theorem d_Md_feature_68 : decode b_Md_feature 68 = .ok (.aload_n 0, 1) := by decide +kernel
theorem d_Md_feature_69 : decode b_Md_feature 69 = .ok (.getfield 18, 3) := by decide +kernel
theorem d_Md_feature_72 : decode b_Md_feature 72 = .ok (.iload 6, 2) := by decide +kernel
theorem d_Md_feature_74 : decode b_Md_feature 74 = .ok (.iaload, 1) := by decide +kernel
theorem d_Md_feature_75 : decode b_Md_feature 75 = .ok (.iload 4, 2) := by decide +kernel
theorem d_Md_feature_77 : decode b_Md_feature 77 = .ok (.iadd, 1) := by decide +kernel
theorem d_Md_feature_78 : decode b_Md_feature 78 = .ok (.iaload, 1) := by decide +kernel
theorem d_Md_feature_79 : decode b_Md_feature 79 = .ok (.ireturn, 1) := by decide +kernel
theorem d_Md_field_0 : decode b_Md_field 0 = .ok (.aload_n 0, 1) := by decide +kernel
theorem d_Md_field_1 : decode b_Md_field 1 = .ok (.iload_n 1, 1) := by decide +kernel
theorem d_Md_field_2 : decode b_Md_field 2 = .ok (.invokevirtual 91, 3) := by decide +kernel
theorem d_Md_field_5 : decode b_Md_field 5 = .ok (.ifCond .eq 11, 3) := by decide +kernel
theorem d_Md_field_8 : decode b_Md_field 8 = .ok (.aload_n 0, 1) := by decide +kernel
theorem d_Md_field_9 : decode b_Md_field 9 = .ok (.iload_n 1, 1) := by decide +kernel
theorem d_Md_field_10 : decode b_Md_field 10 = .ok (.invokevirtual 123, 3) := by decide +kernel
theorem d_Md_field_13 : decode b_Md_field 13 = .ok (.goto 4, 3) := by decide +kernel
theorem d_Md_field_16 : decode b_Md_field 16 = .ok (.iconst (-1), 1) := by decide +kernel
theorem d_Md_field_17 : decode b_Md_field 17 = .ok (.istore_n 3, 1) := by decide +kernel
theorem d_Md_field_18 : decode b_Md_field 18 = .ok (.iconst (-1), 1) := by decide +kernel
theorem d_Md_field_19 : decode b_Md_field 19 = .ok (.istore 4, 2) := by decide +kernel
theorem d_Md_field_21 : decode b_Md_field 21 = .ok (.iconst 0, 1) := by decide +kernel
theorem d_Md_field_22 : decode b_Md_field 22 = .ok (.istore 5, 2) := by decide +kernel
theorem d_Md_field_24 : decode b_Md_field 24 = .ok (.iload_n 3, 1) := by decide +kernel
theorem d_Md_field_25 : decode b_Md_field 25 = .ok (.iconst (-1), 1) := by decide +kernel
theorem d_Md_field_26 : decode b_Md_field 26 = .ok (.if_icmp .eq 64, 3) := by decide +kernel
theorem d_Md_field_29 : decode b_Md_field 29 = .ok (.aload_n 0, 1) := by decide +kernel
theorem d_Md_field_30 : decode b_Md_field 30 = .ok (.getfield 10, 3) := by decide +kernel
theorem d_Md_field_33 : decode b_Md_field 33 = .ok (.iload_n 3, 1) := by decide +kernel
theorem d_Md_field_34 : decode b_Md_field 34 = .ok (.baload, 1) := by decide +kernel
theorem d_Md_field_35 : decode b_Md_field 35 = .ok (.iconst 3, 1) := by decide +kernel
theorem d_Md_field_36 : decode b_Md_field 36 = .ok (.if_icmp .lt 54, 3) := by decide +kernel
theorem d_Md_field_39 : decode b_Md_field 39 = .ok (.iload 5, 2) := by decide +kernel
theorem d_Md_field_41 : decode b_Md_field 41 = .ok (.aload_n 0, 1) := by decide +kernel
theorem d_Md_field_42 : decode b_Md_field 42 = .ok (.getfield 21, 3) := by decide +kernel
theorem d_Md_field_45 : decode b_Md_field 45 = .ok (.iload_n 3, 1) := by decide +kernel
theorem d_Md_field_46 : decode b_Md_field 46 = .ok (.iaload, 1) := by decide +kernel
theorem d_Md_field_47 : decode b_Md_field 47 = .ok (.if_icmp .ge 43, 3) := by decide +kernel
theorem d_Md_field_50 : decode b_Md_field 50 = .ok (.aload_n 0, 1) := by decide +kernel
theorem d_Md_field_51 : decode b_Md_field 51 = .ok (.getfield 41, 3) := by decide +kernel
theorem d_Md_field_54 : decode b_Md_field 54 = .ok (.aload_n 0, 1) := by decide +kernel
theorem d_Md_field_55 : decode b_Md_field 55 = .ok (.getfield 18, 3) := by decide +kernel
theorem d_Md_field_58 : decode b_Md_field 58 = .ok (.iload_n 3, 1) := by decide +kernel
theorem d_Md_field_59 : decode b_Md_field 59 = .ok (.iaload, 1) := by decide +kernel
theorem d_Md_field_60 : decode b_Md_field 60 = .ok (.iload 5, 2) := by decide +kernel
theorem d_Md_field_62 : decode b_Md_field 62 = .ok (.iadd, 1) := by decide +kernel
theorem d_Md_field_63 : decode b_Md_field 63 = .ok (.iaload, 1) := by decide +kernel
theorem d_Md_field_64 : decode b_Md_field 64 = .ok (.iload_n 2, 1) := by decide +kernel
theorem d_Md_field_65 : decode b_Md_field 65 = .ok (.if_icmp .ne 15, 3) := by decide +kernel
theorem d_Md_field_68 : decode b_Md_field 68 = .ok (.aload_n 0, 1) := by decide +kernel
theorem d_Md_field_69 : decode b_Md_field 69 = .ok (.getfield 18, 3) := by decide +kernel
theorem d_Md_field_72 : decode b_Md_field 72 = .ok (.iload_n 3, 1) := by decide +kernel
theorem d_Md_field_73 : decode b_Md_field 73 = .ok (.iaload, 1) := by decide +kernel
theorem d_Md_field_74 : decode b_Md_field 74 = .ok (.iload 5, 2) := by decide +kernel
theorem d_Md_field_76 : decode b_Md_field 76 = .ok (.iadd, 1) := by decide +kernel
theorem d_Md_field_77 : decode b_Md_field 77 = .ok (.goto 5, 3) := by decide +kernel
theorem d_Md_field_80 : decode b_Md_field 80 = .ok (.iload 4, 2) := by decide +kernel
theorem d_Md_field_82 : decode b_Md_field 82 = .ok (.istore 4, 2) := by decide +kernel
theorem d_Md_field_84 : decode b_Md_field 84 = .ok (.iinc 5 1, 3) := by decide +kernel
theorem d_Md_field_87 : decode b_Md_field 87 = .ok (.goto (-63), 3) := by decide +kernel
theorem d_Md_field_90 : decode b_Md_field 90 = .ok (.iload 4, 2) := by decide +kernel
theorem d_Md_field_92 : decode b_Md_field 92 = .ok (.ireturn, 1) := by decide +kernel
theorem d_Md_part_0 : decode b_Md_part 0 = .ok (.aload_n 0, 1) := by decide +kernel
theorem d_Md_part_1 : decode b_Md_part 1 = .ok (.iload_n 1, 1) := by decide +kernel
theorem d_Md_part_2 : decode b_Md_part 2 = .ok (.iload_n 2, 1) := by decide +kernel
theorem d_Md_part_3 : decode b_Md_part 3 = .ok (.invokevirtual 147, 3) := by decide +kernel
theorem d_Md_part_6 : decode b_Md_part 6 = .ok (.istore_n 3, 1) := by decide +kernel
theorem d_Md_part_7 : decode b_Md_part 7 = .ok (.iload_n 3, 1) := by decide +kernel
theorem d_Md_part_8 : decode b_Md_part 8 = .ok (.iconst (-1), 1) := by decide +kernel
theorem d_Md_part_9 : decode b_Md_part 9 = .ok (.if_icmp .ne 7, 3) := by decide +kernel
theorem d_Md_part_12 : decode b_Md_part 12 = .ok (.iconst (-1), 1) := by decide +kernel
theorem d_Md_part_13 : decode b_Md_part 13 = .ok (.goto 14, 3) := by decide +kernel
theorem d_Md_part_16 : decode b_Md_part 16 = .ok (.aload_n 0, 1) := by decide +kernel
theorem d_Md_part_17 : decode b_Md_part 17 = .ok (.getfield 31, 3) := by decide +kernel
theorem d_Md_part_20 : decode b_Md_part 20 = .ok (.aload_n 0, 1) := by decide +kernel
theorem d_Md_part_21 : decode b_Md_part 21 = .ok (.getfield 44, 3) := by decide +kernel
theorem d_Md_part_24 : decode b_Md_part 24 = .ok (.iload_n 3, 1) := by decide +kernel
theorem d_Md_part_25 : decode b_Md_part 25 = .ok (.iaload, 1) := by decide +kernel
theorem d_Md_part_26 : decode b_Md_part 26 = .ok (.iaload, 1) := by decide +kernel
theorem d_Md_part_27 : decode b_Md_part 27 = .ok (.ireturn, 1) := by decide +kernel
theorem d_Md_set_0 : decode b_Md_set 0 = .ok (.aload_n 0, 1) := by decide +kernel
theorem d_Md_set_1 : decode b_Md_set 1 = .ok (.iload_n 1, 1) := by decide +kernel
theorem d_Md_set_2 : decode b_Md_set 2 = .ok (.iload_n 2, 1) := by decide +kernel
theorem d_Md_set_3 : decode b_Md_set 3 = .ok (.invokevirtual 147, 3) := by decide +kernel
theorem d_Md_set_6 : decode b_Md_set 6 = .ok (.istore 4, 2) := by decide +kernel
theorem d_Md_set_8 : decode b_Md_set 8 = .ok (.iload 4, 2) := by decide +kernel
theorem d_Md_set_10 : decode b_Md_set 10 = .ok (.iconst (-1), 1) := by decide +kernel
theorem d_Md_set_11 : decode b_Md_set 11 = .ok (.if_icmp .eq 25, 3) := by decide +kernel
theorem d_Md_set_14 : decode b_Md_set 14 = .ok (.aload_n 0, 1) := by decide +kernel
theorem d_Md_set_15 : decode b_Md_set 15 = .ok (.getfield 10, 3) := by decide +kernel
theorem d_Md_set_18 : decode b_Md_set 18 = .ok (.aload_n 0, 1) := by decide +kernel
theorem d_Md_set_19 : decode b_Md_set 19 = .ok (.iload_n 1, 1) := by decide +kernel
theorem d_Md_set_20 : decode b_Md_set 20 = .ok (.invokevirtual 123, 3) := by decide +kernel
theorem d_Md_set_23 : decode b_Md_set 23 = .ok (.baload, 1) := by decide +kernel
theorem d_Md_set_24 : decode b_Md_set 24 = .ok (.iconst 4, 1) := by decide +kernel
theorem d_Md_set_25 : decode b_Md_set 25 = .ok (.if_icmp .ne 11, 3) := by decide +kernel
theorem d_Md_set_28 : decode b_Md_set 28 = .ok (.aload_n 0, 1) := by decide +kernel
theorem d_Md_set_29 : decode b_Md_set 29 = .ok (.iload_n 3, 1) := by decide +kernel
theorem d_Md_set_30 : decode b_Md_set 30 = .ok (.invokevirtual 91, 3) := by decide +kernel
theorem d_Md_set_33 : decode b_Md_set 33 = .ok (.ifCond .ne 5, 3) := by decide +kernel
theorem d_Md_set_36 : decode b_Md_set 36 = .ok (.iconst (-1), 1) := by decide +kernel
theorem d_Md_set_37 : decode b_Md_set 37 = .ok (.ireturn, 1) := by decide +kernel
theorem d_Md_set_38 : decode b_Md_set 38 = .ok (.aload_n 0, 1) := by decide +kernel
theorem d_Md_set_39 : decode b_Md_set 39 = .ok (.getfield 31, 3) := by decide +kernel
theorem d_Md_set_42 : decode b_Md_set 42 = .ok (.aload_n 0, 1) := by decide +kernel
theorem d_Md_set_43 : decode b_Md_set 43 = .ok (.getfield 44, 3) := by decide +kernel
theorem d_Md_set_46 : decode b_Md_set 46 = .ok (.iload 4, 2) := by decide +kernel
theorem d_Md_set_48 : decode b_Md_set 48 = .ok (.iaload, 1) := by decide +kernel
theorem d_Md_set_49 : decode b_Md_set 49 = .ok (.iaload, 1) := by decide +kernel
theorem d_Md_set_50 : decode b_Md_set 50 = .ok (.istore 5, 2) := by decide +kernel
theorem d_Md_set_52 : decode b_Md_set 52 = .ok (.aload_n 0, 1) := by decide +kernel
theorem d_Md_set_53 : decode b_Md_set 53 = .ok (.getfield 44, 3) := by decide +kernel
theorem d_Md_set_56 : decode b_Md_set 56 = .ok (.iload 4, 2) := by decide +kernel
theorem d_Md_set_58 : decode b_Md_set 58 = .ok (.iload_n 3, 1) := by decide +kernel
theorem d_Md_set_59 : decode b_Md_set 59 = .ok (.iastore, 1) := by decide +kernel
theorem d_Md_set_60 : decode b_Md_set 60 = .ok (.aload_n 0, 1) := by decide +kernel
theorem d_Md_set_61 : decode b_Md_set 61 = .ok (.invokevirtual 81, 3) := by decide +kernel
theorem d_Md_set_64 : decode b_Md_set 64 = .ok (.iload 5, 2) := by decide +kernel
theorem d_Md_set_66 : decode b_Md_set 66 = .ok (.ireturn, 1) := by decide +kernel
theorem d_Md_reach_0 : decode b_Md_reach 0 = .ok (.iconst 1, 1) := by decide +kernel
theorem d_Md_reach_1 : decode b_Md_reach 1 = .ok (.istore_n 2, 1) := by decide +kernel
theorem d_Md_reach_2 : decode b_Md_reach 2 = .ok (.aload_n 0, 1) := by decide +kernel
theorem d_Md_reach_3 : decode b_Md_reach 3 = .ok (.getfield 56, 3) := by decide +kernel
theorem d_Md_reach_6 : decode b_Md_reach 6 = .ok (.iconst 0, 1) := by decide +kernel
theorem d_Md_reach_7 : decode b_Md_reach 7 = .ok (.aload_n 0, 1) := by decide +kernel
theorem d_Md_reach_8 : decode b_Md_reach 8 = .ok (.getfield 31, 3) := by decide +kernel
theorem d_Md_reach_11 : decode b_Md_reach 11 = .ok (.iload_n 1, 1) := by decide +kernel
theorem d_Md_reach_12 : decode b_Md_reach 12 = .ok (.iaload, 1) := by decide +kernel
theorem d_Md_reach_13 : decode b_Md_reach 13 = .ok (.iastore, 1) := by decide +kernel
theorem d_Md_reach_14 : decode b_Md_reach 14 = .ok (.iconst 0, 1) := by decide +kernel
theorem d_Md_reach_15 : decode b_Md_reach 15 = .ok (.istore_n 3, 1) := by decide +kernel
theorem d_Md_reach_16 : decode b_Md_reach 16 = .ok (.iload_n 3, 1) := by decide +kernel
theorem d_Md_reach_17 : decode b_Md_reach 17 = .ok (.iload_n 2, 1) := by decide +kernel
theorem d_Md_reach_18 : decode b_Md_reach 18 = .ok (.if_icmp .ge 133, 3) := by decide +kernel
theorem d_Md_reach_21 : decode b_Md_reach 21 = .ok (.aload_n 0, 1) := by decide +kernel
theorem d_Md_reach_22 : decode b_Md_reach 22 = .ok (.aload_n 0, 1) := by decide +kernel
theorem d_Md_reach_23 : decode b_Md_reach 23 = .ok (.getfield 56, 3) := by decide +kernel
theorem d_Md_reach_26 : decode b_Md_reach 26 = .ok (.iload_n 3, 1) := by decide +kernel
theorem d_Md_reach_27 : decode b_Md_reach 27 = .ok (.iaload, 1) := by decide +kernel
theorem d_Md_reach_28 : decode b_Md_reach 28 = .ok (.invokevirtual 123, 3) := by decide +kernel
theorem d_Md_reach_31 : decode b_Md_reach 31 = .ok (.istore 4, 2) := by decide +kernel
theorem d_Md_reach_33 : decode b_Md_reach 33 = .ok (.iconst 0, 1) := by decide +kernel
theorem d_Md_reach_34 : decode b_Md_reach 34 = .ok (.istore 5, 2) := by decide +kernel
theorem d_Md_reach_36 : decode b_Md_reach 36 = .ok (.iload 5, 2) := by decide +kernel
theorem d_Md_reach_38 : decode b_Md_reach 38 = .ok (.aload_n 0, 1) := by decide +kernel
theorem d_Md_reach_39 : decode b_Md_reach 39 = .ok (.getfield 21, 3) := by decide +kernel
theorem d_Md_reach_42 : decode b_Md_reach 42 = .ok (.iload 4, 2) := by decide +kernel
theorem d_Md_reach_44 : decode b_Md_reach 44 = .ok (.iaload, 1) := by decide +kernel
theorem d_Md_reach_45 : decode b_Md_reach 45 = .ok (.if_icmp .ge 100, 3) := by decide +kernel
theorem d_Md_reach_48 : decode b_Md_reach 48 = .ok (.aload_n 0, 1) := by decide +kernel
theorem d_Md_reach_49 : decode b_Md_reach 49 = .ok (.getfield 10, 3) := by decide +kernel
theorem d_Md_reach_52 : decode b_Md_reach 52 = .ok (.iload 4, 2) := by decide +kernel
theorem d_Md_reach_54 : decode b_Md_reach 54 = .ok (.baload, 1) := by decide +kernel
theorem d_Md_reach_55 : decode b_Md_reach 55 = .ok (.iconst 3, 1) := by decide +kernel
theorem d_Md_reach_56 : decode b_Md_reach 56 = .ok (.if_icmp .lt 89, 3) := by decide +kernel
theorem d_Md_reach_59 : decode b_Md_reach 59 = .ok (.aload_n 0, 1) := by decide +kernel
theorem d_Md_reach_60 : decode b_Md_reach 60 = .ok (.getfield 31, 3) := by decide +kernel
theorem d_Md_reach_63 : decode b_Md_reach 63 = .ok (.aload_n 0, 1) := by decide +kernel
theorem d_Md_reach_64 : decode b_Md_reach 64 = .ok (.getfield 44, 3) := by decide +kernel
theorem d_Md_reach_67 : decode b_Md_reach 67 = .ok (.aload_n 0, 1) := by decide +kernel
theorem d_Md_reach_68 : decode b_Md_reach 68 = .ok (.getfield 18, 3) := by decide +kernel
theorem d_Md_reach_71 : decode b_Md_reach 71 = .ok (.iload 4, 2) := by decide +kernel
theorem d_Md_reach_73 : decode b_Md_reach 73 = .ok (.iaload, 1) := by decide +kernel
theorem d_Md_reach_74 : decode b_Md_reach 74 = .ok (.iload 5, 2) := by decide +kernel
theorem d_Md_reach_76 : decode b_Md_reach 76 = .ok (.iadd, 1) := by decide +kernel
theorem d_Md_reach_77 : decode b_Md_reach 77 = .ok (.iaload, 1) := by decide +kernel
theorem d_Md_reach_78 : decode b_Md_reach 78 = .ok (.iaload, 1) := by decide +kernel
theorem d_Md_reach_79 : decode b_Md_reach 79 = .ok (.istore 6, 2) := by decide +kernel
theorem d_Md_reach_81 : decode b_Md_reach 81 = .ok (.iconst 0, 1) := by decide +kernel
theorem d_Md_reach_82 : decode b_Md_reach 82 = .ok (.istore 7, 2) := by decide +kernel
theorem d_Md_reach_84 : decode b_Md_reach 84 = .ok (.iconst 0, 1) := by decide +kernel
theorem d_Md_reach_85 : decode b_Md_reach 85 = .ok (.istore 8, 2) := by decide +kernel
theorem d_Md_reach_87 : decode b_Md_reach 87 = .ok (.iload 8, 2) := by decide +kernel
theorem d_Md_reach_89 : decode b_Md_reach 89 = .ok (.iload_n 2, 1) := by decide +kernel
theorem d_Md_reach_90 : decode b_Md_reach 90 = .ok (.if_icmp .ge 33, 3) := by decide +kernel
theorem d_Md_reach_93 : decode b_Md_reach 93 = .ok (.iload 7, 2) := by decide +kernel
theorem d_Md_reach_95 : decode b_Md_reach 95 = .ok (.ifCond .ne 28, 3) := by decide +kernel
theorem d_Md_reach_98 : decode b_Md_reach 98 = .ok (.aload_n 0, 1) := by decide +kernel
theorem d_Md_reach_99 : decode b_Md_reach 99 = .ok (.getfield 56, 3) := by decide +kernel
theorem d_Md_reach_102 : decode b_Md_reach 102 = .ok (.iload 8, 2) := by decide +kernel
theorem d_Md_reach_104 : decode b_Md_reach 104 = .ok (.iaload, 1) := by decide +kernel
theorem d_Md_reach_105 : decode b_Md_reach 105 = .ok (.iload 6, 2) := by decide +kernel
theorem d_Md_reach_107 : decode b_Md_reach 107 = .ok (.if_icmp .ne 7, 3) := by decide +kernel
theorem d_Md_reach_110 : decode b_Md_reach 110 = .ok (.iconst 1, 1) := by decide +kernel
theorem d_Md_reach_111 : decode b_Md_reach 111 = .ok (.goto 4, 3) := by decide +kernel
theorem d_Md_reach_114 : decode b_Md_reach 114 = .ok (.iconst 0, 1) := by decide +kernel
theorem d_Md_reach_115 : decode b_Md_reach 115 = .ok (.istore 7, 2) := by decide +kernel
theorem d_Md_reach_117 : decode b_Md_reach 117 = .ok (.iinc 8 1, 3) := by decide +kernel
theorem d_Md_reach_120 : decode b_Md_reach 120 = .ok (.goto (-33), 3) := by decide +kernel
theorem d_Md_reach_123 : decode b_Md_reach 123 = .ok (.iload 7, 2) := by decide +kernel
theorem d_Md_reach_125 : decode b_Md_reach 125 = .ok (.ifCond .ne 14, 3) := by decide +kernel
theorem d_Md_reach_128 : decode b_Md_reach 128 = .ok (.aload_n 0, 1) := by decide +kernel
theorem d_Md_reach_129 : decode b_Md_reach 129 = .ok (.getfield 56, 3) := by decide +kernel
theorem d_Md_reach_132 : decode b_Md_reach 132 = .ok (.iload_n 2, 1) := by decide +kernel
theorem d_Md_reach_133 : decode b_Md_reach 133 = .ok (.iload 6, 2) := by decide +kernel
theorem d_Md_reach_135 : decode b_Md_reach 135 = .ok (.iastore, 1) := by decide +kernel
theorem d_Md_reach_136 : decode b_Md_reach 136 = .ok (.iinc 2 1, 3) := by decide +kernel
theorem d_Md_reach_139 : decode b_Md_reach 139 = .ok (.iinc 5 1, 3) := by decide +kernel
theorem d_Md_reach_142 : decode b_Md_reach 142 = .ok (.goto (-106), 3) := by decide +kernel
theorem d_Md_reach_145 : decode b_Md_reach 145 = .ok (.iinc 3 1, 3) := by decide +kernel
theorem d_Md_reach_148 : decode b_Md_reach 148 = .ok (.goto (-132), 3) := by decide +kernel
theorem d_Md_reach_151 : decode b_Md_reach 151 = .ok (.iload_n 2, 1) := by decide +kernel
theorem d_Md_reach_152 : decode b_Md_reach 152 = .ok (.ireturn, 1) := by decide +kernel
theorem d_Md_placeOf_0 : decode b_Md_placeOf 0 = .ok (.iconst 0, 1) := by decide +kernel
theorem d_Md_placeOf_1 : decode b_Md_placeOf 1 = .ok (.istore_n 3, 1) := by decide +kernel
theorem d_Md_placeOf_2 : decode b_Md_placeOf 2 = .ok (.aload_n 0, 1) := by decide +kernel
theorem d_Md_placeOf_3 : decode b_Md_placeOf 3 = .ok (.getfield 56, 3) := by decide +kernel
theorem d_Md_placeOf_6 : decode b_Md_placeOf 6 = .ok (.iload_n 3, 1) := by decide +kernel
theorem d_Md_placeOf_7 : decode b_Md_placeOf 7 = .ok (.iaload, 1) := by decide +kernel
theorem d_Md_placeOf_8 : decode b_Md_placeOf 8 = .ok (.iload_n 1, 1) := by decide +kernel
theorem d_Md_placeOf_9 : decode b_Md_placeOf 9 = .ok (.if_icmp .eq 9, 3) := by decide +kernel
theorem d_Md_placeOf_12 : decode b_Md_placeOf 12 = .ok (.iinc 3 1, 3) := by decide +kernel
theorem d_Md_placeOf_15 : decode b_Md_placeOf 15 = .ok (.goto (-13), 3) := by decide +kernel
theorem d_Md_placeOf_18 : decode b_Md_placeOf 18 = .ok (.iload_n 3, 1) := by decide +kernel
theorem d_Md_placeOf_19 : decode b_Md_placeOf 19 = .ok (.ireturn, 1) := by decide +kernel
theorem d_Md_isLike_0 : decode b_Md_isLike 0 = .ok (.aload_n 0, 1) := by decide +kernel
theorem d_Md_isLike_1 : decode b_Md_isLike 1 = .ok (.aload_n 0, 1) := by decide +kernel
theorem d_Md_isLike_2 : decode b_Md_isLike 2 = .ok (.getfield 56, 3) := by decide +kernel
theorem d_Md_isLike_5 : decode b_Md_isLike 5 = .ok (.iload_n 1, 1) := by decide +kernel
theorem d_Md_isLike_6 : decode b_Md_isLike 6 = .ok (.iaload, 1) := by decide +kernel
theorem d_Md_isLike_7 : decode b_Md_isLike 7 = .ok (.invokevirtual 123, 3) := by decide +kernel
theorem d_Md_isLike_10 : decode b_Md_isLike 10 = .ok (.istore 4, 2) := by decide +kernel
theorem d_Md_isLike_12 : decode b_Md_isLike 12 = .ok (.aload_n 0, 1) := by decide +kernel
theorem d_Md_isLike_13 : decode b_Md_isLike 13 = .ok (.aload_n 0, 1) := by decide +kernel
theorem d_Md_isLike_14 : decode b_Md_isLike 14 = .ok (.getfield 56, 3) := by decide +kernel
theorem d_Md_isLike_17 : decode b_Md_isLike 17 = .ok (.iload_n 2, 1) := by decide +kernel
theorem d_Md_isLike_18 : decode b_Md_isLike 18 = .ok (.iaload, 1) := by decide +kernel
theorem d_Md_isLike_19 : decode b_Md_isLike 19 = .ok (.invokevirtual 123, 3) := by decide +kernel
theorem d_Md_isLike_22 : decode b_Md_isLike 22 = .ok (.istore 5, 2) := by decide +kernel
theorem d_Md_isLike_24 : decode b_Md_isLike 24 = .ok (.iload_n 1, 1) := by decide +kernel
theorem d_Md_isLike_25 : decode b_Md_isLike 25 = .ok (.iload_n 2, 1) := by decide +kernel
theorem d_Md_isLike_26 : decode b_Md_isLike 26 = .ok (.if_icmp .ne 5, 3) := by decide +kernel
theorem d_Md_isLike_29 : decode b_Md_isLike 29 = .ok (.iconst 1, 1) := by decide +kernel
theorem d_Md_isLike_30 : decode b_Md_isLike 30 = .ok (.ireturn, 1) := by decide +kernel
theorem d_Md_isLike_31 : decode b_Md_isLike 31 = .ok (.aload_n 0, 1) := by decide +kernel
theorem d_Md_isLike_32 : decode b_Md_isLike 32 = .ok (.getfield 10, 3) := by decide +kernel
theorem d_Md_isLike_35 : decode b_Md_isLike 35 = .ok (.iload 4, 2) := by decide +kernel
theorem d_Md_isLike_37 : decode b_Md_isLike 37 = .ok (.baload, 1) := by decide +kernel
theorem d_Md_isLike_38 : decode b_Md_isLike 38 = .ok (.ifCond .eq 40, 3) := by decide +kernel
theorem d_Md_isLike_41 : decode b_Md_isLike 41 = .ok (.aload_n 0, 1) := by decide +kernel
theorem d_Md_isLike_42 : decode b_Md_isLike 42 = .ok (.getfield 10, 3) := by decide +kernel
theorem d_Md_isLike_45 : decode b_Md_isLike 45 = .ok (.iload 4, 2) := by decide +kernel
theorem d_Md_isLike_47 : decode b_Md_isLike 47 = .ok (.baload, 1) := by decide +kernel
theorem d_Md_isLike_48 : decode b_Md_isLike 48 = .ok (.iconst 4, 1) := by decide +kernel
theorem d_Md_isLike_49 : decode b_Md_isLike 49 = .ok (.if_icmp .eq 29, 3) := by decide +kernel
theorem d_Md_isLike_52 : decode b_Md_isLike 52 = .ok (.aload_n 0, 1) := by decide +kernel
theorem d_Md_isLike_53 : decode b_Md_isLike 53 = .ok (.getfield 59, 3) := by decide +kernel
theorem d_Md_isLike_56 : decode b_Md_isLike 56 = .ok (.iload_n 1, 1) := by decide +kernel
theorem d_Md_isLike_57 : decode b_Md_isLike 57 = .ok (.iaload, 1) := by decide +kernel
theorem d_Md_isLike_58 : decode b_Md_isLike 58 = .ok (.aload_n 0, 1) := by decide +kernel
theorem d_Md_isLike_59 : decode b_Md_isLike 59 = .ok (.getfield 59, 3) := by decide +kernel
theorem d_Md_isLike_62 : decode b_Md_isLike 62 = .ok (.iload_n 2, 1) := by decide +kernel
theorem d_Md_isLike_63 : decode b_Md_isLike 63 = .ok (.iaload, 1) := by decide +kernel
theorem d_Md_isLike_64 : decode b_Md_isLike 64 = .ok (.if_icmp .ne 14, 3) := by decide +kernel
theorem d_Md_isLike_67 : decode b_Md_isLike 67 = .ok (.aload_n 0, 1) := by decide +kernel
theorem d_Md_isLike_68 : decode b_Md_isLike 68 = .ok (.iload 4, 2) := by decide +kernel
theorem d_Md_isLike_70 : decode b_Md_isLike 70 = .ok (.iload 5, 2) := by decide +kernel
theorem d_Md_isLike_72 : decode b_Md_isLike 72 = .ok (.invokevirtual 105, 3) := by decide +kernel
theorem d_Md_isLike_75 : decode b_Md_isLike 75 = .ok (.ifCond .ne 5, 3) := by decide +kernel
theorem d_Md_isLike_78 : decode b_Md_isLike 78 = .ok (.iconst 0, 1) := by decide +kernel
theorem d_Md_isLike_79 : decode b_Md_isLike 79 = .ok (.ireturn, 1) := by decide +kernel
theorem d_Md_isLike_80 : decode b_Md_isLike 80 = .ok (.iconst 1, 1) := by decide +kernel
theorem d_Md_isLike_81 : decode b_Md_isLike 81 = .ok (.istore 6, 2) := by decide +kernel
theorem d_Md_isLike_83 : decode b_Md_isLike 83 = .ok (.iconst 0, 1) := by decide +kernel
theorem d_Md_isLike_84 : decode b_Md_isLike 84 = .ok (.istore 7, 2) := by decide +kernel
theorem d_Md_isLike_86 : decode b_Md_isLike 86 = .ok (.iload 7, 2) := by decide +kernel
theorem d_Md_isLike_88 : decode b_Md_isLike 88 = .ok (.aload_n 0, 1) := by decide +kernel
theorem d_Md_isLike_89 : decode b_Md_isLike 89 = .ok (.getfield 21, 3) := by decide +kernel
theorem d_Md_isLike_92 : decode b_Md_isLike 92 = .ok (.iload 4, 2) := by decide +kernel
theorem d_Md_isLike_94 : decode b_Md_isLike 94 = .ok (.iaload, 1) := by decide +kernel
theorem d_Md_isLike_95 : decode b_Md_isLike 95 = .ok (.if_icmp .ge 95, 3) := by decide +kernel
theorem d_Md_isLike_98 : decode b_Md_isLike 98 = .ok (.iload 6, 2) := by decide +kernel
theorem d_Md_isLike_100 : decode b_Md_isLike 100 = .ok (.ifCond .eq 90, 3) := by decide +kernel
theorem d_Md_isLike_103 : decode b_Md_isLike 103 = .ok (.aload_n 0, 1) := by decide +kernel
theorem d_Md_isLike_104 : decode b_Md_isLike 104 = .ok (.getfield 10, 3) := by decide +kernel
theorem d_Md_isLike_107 : decode b_Md_isLike 107 = .ok (.iload 4, 2) := by decide +kernel
theorem d_Md_isLike_109 : decode b_Md_isLike 109 = .ok (.baload, 1) := by decide +kernel
theorem d_Md_isLike_110 : decode b_Md_isLike 110 = .ok (.iconst 3, 1) := by decide +kernel
theorem d_Md_isLike_111 : decode b_Md_isLike 111 = .ok (.if_icmp .ne 79, 3) := by decide +kernel
theorem d_Md_isLike_114 : decode b_Md_isLike 114 = .ok (.aload_n 0, 1) := by decide +kernel
theorem d_Md_isLike_115 : decode b_Md_isLike 115 = .ok (.getfield 59, 3) := by decide +kernel
theorem d_Md_isLike_118 : decode b_Md_isLike 118 = .ok (.aload_n 0, 1) := by decide +kernel
theorem d_Md_isLike_119 : decode b_Md_isLike 119 = .ok (.aload_n 0, 1) := by decide +kernel
theorem d_Md_isLike_120 : decode b_Md_isLike 120 = .ok (.getfield 31, 3) := by decide +kernel
theorem d_Md_isLike_123 : decode b_Md_isLike 123 = .ok (.aload_n 0, 1) := by decide +kernel
theorem d_Md_isLike_124 : decode b_Md_isLike 124 = .ok (.getfield 44, 3) := by decide +kernel
theorem d_Md_isLike_127 : decode b_Md_isLike 127 = .ok (.aload_n 0, 1) := by decide +kernel
theorem d_Md_isLike_128 : decode b_Md_isLike 128 = .ok (.getfield 18, 3) := by decide +kernel
theorem d_Md_isLike_131 : decode b_Md_isLike 131 = .ok (.iload 4, 2) := by decide +kernel
theorem d_Md_isLike_133 : decode b_Md_isLike 133 = .ok (.iaload, 1) := by decide +kernel
theorem d_Md_isLike_134 : decode b_Md_isLike 134 = .ok (.iload 7, 2) := by decide +kernel
theorem d_Md_isLike_136 : decode b_Md_isLike 136 = .ok (.iadd, 1) := by decide +kernel
theorem d_Md_isLike_137 : decode b_Md_isLike 137 = .ok (.iaload, 1) := by decide +kernel
theorem d_Md_isLike_138 : decode b_Md_isLike 138 = .ok (.iaload, 1) := by decide +kernel
theorem d_Md_isLike_139 : decode b_Md_isLike 139 = .ok (.iload_n 3, 1) := by decide +kernel
theorem d_Md_isLike_140 : decode b_Md_isLike 140 = .ok (.invokevirtual 150, 3) := by decide +kernel
theorem d_Md_isLike_143 : decode b_Md_isLike 143 = .ok (.iaload, 1) := by decide +kernel
theorem d_Md_isLike_144 : decode b_Md_isLike 144 = .ok (.aload_n 0, 1) := by decide +kernel
theorem d_Md_isLike_145 : decode b_Md_isLike 145 = .ok (.getfield 59, 3) := by decide +kernel
theorem d_Md_isLike_148 : decode b_Md_isLike 148 = .ok (.aload_n 0, 1) := by decide +kernel
theorem d_Md_isLike_149 : decode b_Md_isLike 149 = .ok (.aload_n 0, 1) := by decide +kernel
theorem d_Md_isLike_150 : decode b_Md_isLike 150 = .ok (.getfield 31, 3) := by decide +kernel
theorem d_Md_isLike_153 : decode b_Md_isLike 153 = .ok (.aload_n 0, 1) := by decide +kernel
theorem d_Md_isLike_154 : decode b_Md_isLike 154 = .ok (.getfield 44, 3) := by decide +kernel
theorem d_Md_isLike_157 : decode b_Md_isLike 157 = .ok (.aload_n 0, 1) := by decide +kernel
theorem d_Md_isLike_158 : decode b_Md_isLike 158 = .ok (.getfield 18, 3) := by decide +kernel
theorem d_Md_isLike_161 : decode b_Md_isLike 161 = .ok (.iload 5, 2) := by decide +kernel
theorem d_Md_isLike_163 : decode b_Md_isLike 163 = .ok (.iaload, 1) := by decide +kernel
theorem d_Md_isLike_164 : decode b_Md_isLike 164 = .ok (.iload 7, 2) := by decide +kernel
theorem d_Md_isLike_166 : decode b_Md_isLike 166 = .ok (.iadd, 1) := by decide +kernel
theorem d_Md_isLike_167 : decode b_Md_isLike 167 = .ok (.iaload, 1) := by decide +kernel
theorem d_Md_isLike_168 : decode b_Md_isLike 168 = .ok (.iaload, 1) := by decide +kernel
theorem d_Md_isLike_169 : decode b_Md_isLike 169 = .ok (.iload_n 3, 1) := by decide +kernel
theorem d_Md_isLike_170 : decode b_Md_isLike 170 = .ok (.invokevirtual 150, 3) := by decide +kernel
theorem d_Md_isLike_173 : decode b_Md_isLike 173 = .ok (.iaload, 1) := by decide +kernel
theorem d_Md_isLike_174 : decode b_Md_isLike 174 = .ok (.if_icmp .ne 7, 3) := by decide +kernel
theorem d_Md_isLike_177 : decode b_Md_isLike 177 = .ok (.iconst 1, 1) := by decide +kernel
theorem d_Md_isLike_178 : decode b_Md_isLike 178 = .ok (.goto 4, 3) := by decide +kernel
theorem d_Md_isLike_181 : decode b_Md_isLike 181 = .ok (.iconst 0, 1) := by decide +kernel
theorem d_Md_isLike_182 : decode b_Md_isLike 182 = .ok (.istore 6, 2) := by decide +kernel
theorem d_Md_isLike_184 : decode b_Md_isLike 184 = .ok (.iinc 7 1, 3) := by decide +kernel
theorem d_Md_isLike_187 : decode b_Md_isLike 187 = .ok (.goto (-101), 3) := by decide +kernel
theorem d_Md_isLike_190 : decode b_Md_isLike 190 = .ok (.iload 6, 2) := by decide +kernel
theorem d_Md_isLike_192 : decode b_Md_isLike 192 = .ok (.ireturn, 1) := by decide +kernel
theorem d_Md_cut_0 : decode b_Md_cut 0 = .ok (.iconst 1, 1) := by decide +kernel
theorem d_Md_cut_1 : decode b_Md_cut 1 = .ok (.istore_n 2, 1) := by decide +kernel
theorem d_Md_cut_2 : decode b_Md_cut 2 = .ok (.iconst 0, 1) := by decide +kernel
theorem d_Md_cut_3 : decode b_Md_cut 3 = .ok (.istore_n 3, 1) := by decide +kernel
theorem d_Md_cut_4 : decode b_Md_cut 4 = .ok (.iconst 0, 1) := by decide +kernel
theorem d_Md_cut_5 : decode b_Md_cut 5 = .ok (.istore 4, 2) := by decide +kernel
theorem d_Md_cut_7 : decode b_Md_cut 7 = .ok (.iload 4, 2) := by decide +kernel
theorem d_Md_cut_9 : decode b_Md_cut 9 = .ok (.iload_n 1, 1) := by decide +kernel
theorem d_Md_cut_10 : decode b_Md_cut 10 = .ok (.if_icmp .ge 17, 3) := by decide +kernel
theorem d_Md_cut_13 : decode b_Md_cut 13 = .ok (.aload_n 0, 1) := by decide +kernel
theorem d_Md_cut_14 : decode b_Md_cut 14 = .ok (.getfield 59, 3) := by decide +kernel
theorem d_Md_cut_17 : decode b_Md_cut 17 = .ok (.iload 4, 2) := by decide +kernel
theorem d_Md_cut_19 : decode b_Md_cut 19 = .ok (.iconst 0, 1) := by decide +kernel
theorem d_Md_cut_20 : decode b_Md_cut 20 = .ok (.iastore, 1) := by decide +kernel
theorem d_Md_cut_21 : decode b_Md_cut 21 = .ok (.iinc 4 1, 3) := by decide +kernel
theorem d_Md_cut_24 : decode b_Md_cut 24 = .ok (.goto (-17), 3) := by decide +kernel
theorem d_Md_cut_27 : decode b_Md_cut 27 = .ok (.iload_n 2, 1) := by decide +kernel
theorem d_Md_cut_28 : decode b_Md_cut 28 = .ok (.iload_n 3, 1) := by decide +kernel
theorem d_Md_cut_29 : decode b_Md_cut 29 = .ok (.if_icmp .eq 100, 3) := by decide +kernel
theorem d_Md_cut_32 : decode b_Md_cut 32 = .ok (.iload_n 2, 1) := by decide +kernel
theorem d_Md_cut_33 : decode b_Md_cut 33 = .ok (.istore_n 3, 1) := by decide +kernel
theorem d_Md_cut_34 : decode b_Md_cut 34 = .ok (.iconst 0, 1) := by decide +kernel
theorem d_Md_cut_35 : decode b_Md_cut 35 = .ok (.istore_n 2, 1) := by decide +kernel
theorem d_Md_cut_36 : decode b_Md_cut 36 = .ok (.iconst 0, 1) := by decide +kernel
theorem d_Md_cut_37 : decode b_Md_cut 37 = .ok (.istore 4, 2) := by decide +kernel
theorem d_Md_cut_39 : decode b_Md_cut 39 = .ok (.iload 4, 2) := by decide +kernel
theorem d_Md_cut_41 : decode b_Md_cut 41 = .ok (.iload_n 1, 1) := by decide +kernel
theorem d_Md_cut_42 : decode b_Md_cut 42 = .ok (.if_icmp .ge 70, 3) := by decide +kernel
theorem d_Md_cut_45 : decode b_Md_cut 45 = .ok (.iconst 0, 1) := by decide +kernel
theorem d_Md_cut_46 : decode b_Md_cut 46 = .ok (.istore 5, 2) := by decide +kernel
theorem d_Md_cut_48 : decode b_Md_cut 48 = .ok (.aload_n 0, 1) := by decide +kernel
theorem d_Md_cut_49 : decode b_Md_cut 49 = .ok (.iload 5, 2) := by decide +kernel
theorem d_Md_cut_51 : decode b_Md_cut 51 = .ok (.iload 4, 2) := by decide +kernel
theorem d_Md_cut_53 : decode b_Md_cut 53 = .ok (.iload_n 1, 1) := by decide +kernel
theorem d_Md_cut_54 : decode b_Md_cut 54 = .ok (.invokevirtual 153, 3) := by decide +kernel
theorem d_Md_cut_57 : decode b_Md_cut 57 = .ok (.ifCond .ne 9, 3) := by decide +kernel
theorem d_Md_cut_60 : decode b_Md_cut 60 = .ok (.iinc 5 1, 3) := by decide +kernel
theorem d_Md_cut_63 : decode b_Md_cut 63 = .ok (.goto (-15), 3) := by decide +kernel
theorem d_Md_cut_66 : decode b_Md_cut 66 = .ok (.aload_n 0, 1) := by decide +kernel
theorem d_Md_cut_67 : decode b_Md_cut 67 = .ok (.getfield 62, 3) := by decide +kernel
theorem d_Md_cut_70 : decode b_Md_cut 70 = .ok (.iload 4, 2) := by decide +kernel
theorem d_Md_cut_72 : decode b_Md_cut 72 = .ok (.iload 5, 2) := by decide +kernel
theorem d_Md_cut_74 : decode b_Md_cut 74 = .ok (.iload 4, 2) := by decide +kernel
theorem d_Md_cut_76 : decode b_Md_cut 76 = .ok (.if_icmp .ne 7, 3) := by decide +kernel
theorem d_Md_cut_79 : decode b_Md_cut 79 = .ok (.iload_n 2, 1) := by decide +kernel
theorem d_Md_cut_80 : decode b_Md_cut 80 = .ok (.goto 10, 3) := by decide +kernel
theorem d_Md_cut_83 : decode b_Md_cut 83 = .ok (.aload_n 0, 1) := by decide +kernel
theorem d_Md_cut_84 : decode b_Md_cut 84 = .ok (.getfield 62, 3) := by decide +kernel
theorem d_Md_cut_87 : decode b_Md_cut 87 = .ok (.iload 5, 2) := by decide +kernel
theorem d_Md_cut_89 : decode b_Md_cut 89 = .ok (.iaload, 1) := by decide +kernel
theorem d_Md_cut_90 : decode b_Md_cut 90 = .ok (.iastore, 1) := by decide +kernel
theorem d_Md_cut_91 : decode b_Md_cut 91 = .ok (.iload 5, 2) := by decide +kernel
theorem d_Md_cut_93 : decode b_Md_cut 93 = .ok (.iload 4, 2) := by decide +kernel
theorem d_Md_cut_95 : decode b_Md_cut 95 = .ok (.if_icmp .ne 9, 3) := by decide +kernel
theorem d_Md_cut_98 : decode b_Md_cut 98 = .ok (.iload_n 2, 1) := by decide +kernel
theorem d_Md_cut_99 : decode b_Md_cut 99 = .ok (.iconst 1, 1) := by decide +kernel
theorem d_Md_cut_100 : decode b_Md_cut 100 = .ok (.iadd, 1) := by decide +kernel
theorem d_Md_cut_101 : decode b_Md_cut 101 = .ok (.goto 4, 3) := by decide +kernel
theorem d_Md_cut_104 : decode b_Md_cut 104 = .ok (.iload_n 2, 1) := by decide +kernel
theorem d_Md_cut_105 : decode b_Md_cut 105 = .ok (.istore_n 2, 1) := by decide +kernel
theorem d_Md_cut_106 : decode b_Md_cut 106 = .ok (.iinc 4 1, 3) := by decide +kernel
theorem d_Md_cut_109 : decode b_Md_cut 109 = .ok (.goto (-70), 3) := by decide +kernel
theorem d_Md_cut_112 : decode b_Md_cut 112 = .ok (.aload_n 0, 1) := by decide +kernel
theorem d_Md_cut_113 : decode b_Md_cut 113 = .ok (.getfield 62, 3) := by decide +kernel
theorem d_Md_cut_116 : decode b_Md_cut 116 = .ok (.iconst 0, 1) := by decide +kernel
theorem d_Md_cut_117 : decode b_Md_cut 117 = .ok (.aload_n 0, 1) := by decide +kernel
theorem d_Md_cut_118 : decode b_Md_cut 118 = .ok (.getfield 59, 3) := by decide +kernel
theorem d_Md_cut_121 : decode b_Md_cut 121 = .ok (.iconst 0, 1) := by decide +kernel
theorem d_Md_cut_122 : decode b_Md_cut 122 = .ok (.iload_n 1, 1) := by decide +kernel
theorem d_Md_cut_123 : decode b_Md_cut 123 = .ok (.invokestatic 113, 3) := by decide +kernel
theorem d_Md_cut_126 : decode b_Md_cut 126 = .ok (.goto (-99), 3) := by decide +kernel
theorem d_Md_cut_129 : decode b_Md_cut 129 = .ok (.return_, 1) := by decide +kernel
theorem d_Md_say_0 : decode b_Md_say 0 = .ok (.aload_n 0, 1) := by decide +kernel
theorem d_Md_say_1 : decode b_Md_say 1 = .ok (.getfield 157, 3) := by decide +kernel
theorem d_Md_say_4 : decode b_Md_say 4 = .ok (.aload_n 0, 1) := by decide +kernel
theorem d_Md_say_5 : decode b_Md_say 5 = .ok (.getfield 68, 3) := by decide +kernel
theorem d_Md_say_8 : decode b_Md_say 8 = .ok (.arraylength, 1) := by decide +kernel
theorem d_Md_say_9 : decode b_Md_say 9 = .ok (.if_icmp .ne 31, 3) := by decide +kernel
theorem d_Md_say_12 : decode b_Md_say 12 = .ok (.iconst 2, 1) := by decide +kernel
theorem d_Md_say_13 : decode b_Md_say 13 = .ok (.aload_n 0, 1) := by decide +kernel
theorem d_Md_say_14 : decode b_Md_say 14 = .ok (.getfield 157, 3) := by decide +kernel
theorem d_Md_say_17 : decode b_Md_say 17 = .ok (.imul, 1) := by decide +kernel
theorem d_Md_say_18 : decode b_Md_say 18 = .ok (.newarray .int, 2) := by decide +kernel
theorem d_Md_say_20 : decode b_Md_say 20 = .ok (.astore_n 2, 1) := by decide +kernel
theorem d_Md_say_21 : decode b_Md_say 21 = .ok (.aload_n 0, 1) := by decide +kernel
theorem d_Md_say_22 : decode b_Md_say 22 = .ok (.getfield 68, 3) := by decide +kernel
theorem d_Md_say_25 : decode b_Md_say 25 = .ok (.iconst 0, 1) := by decide +kernel
theorem d_Md_say_26 : decode b_Md_say 26 = .ok (.aload_n 2, 1) := by decide +kernel
theorem d_Md_say_27 : decode b_Md_say 27 = .ok (.iconst 0, 1) := by decide +kernel
theorem d_Md_say_28 : decode b_Md_say 28 = .ok (.aload_n 0, 1) := by decide +kernel
theorem d_Md_say_29 : decode b_Md_say 29 = .ok (.getfield 157, 3) := by decide +kernel
theorem d_Md_say_32 : decode b_Md_say 32 = .ok (.invokestatic 113, 3) := by decide +kernel
theorem d_Md_say_35 : decode b_Md_say 35 = .ok (.aload_n 0, 1) := by decide +kernel
theorem d_Md_say_36 : decode b_Md_say 36 = .ok (.aload_n 2, 1) := by decide +kernel
theorem d_Md_say_37 : decode b_Md_say 37 = .ok (.putfield 68, 3) := by decide +kernel
theorem d_Md_say_40 : decode b_Md_say 40 = .ok (.aload_n 0, 1) := by decide +kernel
theorem d_Md_say_41 : decode b_Md_say 41 = .ok (.getfield 68, 3) := by decide +kernel
theorem d_Md_say_44 : decode b_Md_say 44 = .ok (.aload_n 0, 1) := by decide +kernel
theorem d_Md_say_45 : decode b_Md_say 45 = .ok (.getfield 157, 3) := by decide +kernel
theorem d_Md_say_48 : decode b_Md_say 48 = .ok (.iload_n 1, 1) := by decide +kernel
theorem d_Md_say_49 : decode b_Md_say 49 = .ok (.iastore, 1) := by decide +kernel
theorem d_Md_say_50 : decode b_Md_say 50 = .ok (.aload_n 0, 1) := by decide +kernel
theorem d_Md_say_51 : decode b_Md_say 51 = .ok (.dup, 1) := by decide +kernel
theorem d_Md_say_52 : decode b_Md_say 52 = .ok (.getfield 157, 3) := by decide +kernel
theorem d_Md_say_55 : decode b_Md_say 55 = .ok (.iconst 1, 1) := by decide +kernel
theorem d_Md_say_56 : decode b_Md_say 56 = .ok (.iadd, 1) := by decide +kernel
theorem d_Md_say_57 : decode b_Md_say 57 = .ok (.putfield 157, 3) := by decide +kernel
theorem d_Md_say_60 : decode b_Md_say 60 = .ok (.return_, 1) := by decide +kernel
theorem d_Md_write_0 : decode b_Md_write 0 = .ok (.aload_n 0, 1) := by decide +kernel
theorem d_Md_write_1 : decode b_Md_write 1 = .ok (.iload_n 1, 1) := by decide +kernel
theorem d_Md_write_2 : decode b_Md_write 2 = .ok (.invokevirtual 160, 3) := by decide +kernel
theorem d_Md_write_5 : decode b_Md_write 5 = .ok (.istore_n 2, 1) := by decide +kernel
theorem d_Md_write_6 : decode b_Md_write 6 = .ok (.aload_n 0, 1) := by decide +kernel
theorem d_Md_write_7 : decode b_Md_write 7 = .ok (.iload_n 2, 1) := by decide +kernel
theorem d_Md_write_8 : decode b_Md_write 8 = .ok (.invokevirtual 163, 3) := by decide +kernel
theorem d_Md_write_11 : decode b_Md_write 11 = .ok (.aload_n 0, 1) := by decide +kernel
theorem d_Md_write_12 : decode b_Md_write 12 = .ok (.iconst 0, 1) := by decide +kernel
theorem d_Md_write_13 : decode b_Md_write 13 = .ok (.putfield 157, 3) := by decide +kernel
theorem d_Md_write_16 : decode b_Md_write 16 = .ok (.iconst 0, 1) := by decide +kernel
theorem d_Md_write_17 : decode b_Md_write 17 = .ok (.istore_n 3, 1) := by decide +kernel
theorem d_Md_write_18 : decode b_Md_write 18 = .ok (.iload_n 3, 1) := by decide +kernel
theorem d_Md_write_19 : decode b_Md_write 19 = .ok (.iload_n 2, 1) := by decide +kernel
theorem d_Md_write_20 : decode b_Md_write 20 = .ok (.if_icmp .ge 16, 3) := by decide +kernel
theorem d_Md_write_23 : decode b_Md_write 23 = .ok (.aload_n 0, 1) := by decide +kernel
theorem d_Md_write_24 : decode b_Md_write 24 = .ok (.getfield 65, 3) := by decide +kernel
theorem d_Md_write_27 : decode b_Md_write 27 = .ok (.iload_n 3, 1) := by decide +kernel
theorem d_Md_write_28 : decode b_Md_write 28 = .ok (.iconst (-1), 1) := by decide +kernel
theorem d_Md_write_29 : decode b_Md_write 29 = .ok (.iastore, 1) := by decide +kernel
theorem d_Md_write_30 : decode b_Md_write 30 = .ok (.iinc 3 1, 3) := by decide +kernel
theorem d_Md_write_33 : decode b_Md_write 33 = .ok (.goto (-15), 3) := by decide +kernel
theorem d_Md_write_36 : decode b_Md_write 36 = .ok (.iconst 1, 1) := by decide +kernel
theorem d_Md_write_37 : decode b_Md_write 37 = .ok (.istore_n 3, 1) := by decide +kernel
theorem d_Md_write_38 : decode b_Md_write 38 = .ok (.aload_n 0, 1) := by decide +kernel
theorem d_Md_write_39 : decode b_Md_write 39 = .ok (.getfield 62, 3) := by decide +kernel
theorem d_Md_write_42 : decode b_Md_write 42 = .ok (.iconst 0, 1) := by decide +kernel
theorem d_Md_write_43 : decode b_Md_write 43 = .ok (.aload_n 0, 1) := by decide +kernel
theorem d_Md_write_44 : decode b_Md_write 44 = .ok (.getfield 59, 3) := by decide +kernel
theorem d_Md_write_47 : decode b_Md_write 47 = .ok (.iconst 0, 1) := by decide +kernel
theorem d_Md_write_48 : decode b_Md_write 48 = .ok (.iaload, 1) := by decide +kernel
theorem d_Md_write_49 : decode b_Md_write 49 = .ok (.iastore, 1) := by decide +kernel
theorem d_Md_write_50 : decode b_Md_write 50 = .ok (.aload_n 0, 1) := by decide +kernel
theorem d_Md_write_51 : decode b_Md_write 51 = .ok (.getfield 65, 3) := by decide +kernel
theorem d_Md_write_54 : decode b_Md_write 54 = .ok (.aload_n 0, 1) := by decide +kernel
theorem d_Md_write_55 : decode b_Md_write 55 = .ok (.getfield 59, 3) := by decide +kernel
theorem d_Md_write_58 : decode b_Md_write 58 = .ok (.iconst 0, 1) := by decide +kernel
theorem d_Md_write_59 : decode b_Md_write 59 = .ok (.iaload, 1) := by decide +kernel
theorem d_Md_write_60 : decode b_Md_write 60 = .ok (.iconst 0, 1) := by decide +kernel
theorem d_Md_write_61 : decode b_Md_write 61 = .ok (.iastore, 1) := by decide +kernel
theorem d_Md_write_62 : decode b_Md_write 62 = .ok (.iconst 0, 1) := by decide +kernel
theorem d_Md_write_63 : decode b_Md_write 63 = .ok (.istore 4, 2) := by decide +kernel
theorem d_Md_write_65 : decode b_Md_write 65 = .ok (.iload 4, 2) := by decide +kernel
theorem d_Md_write_67 : decode b_Md_write 67 = .ok (.iload_n 3, 1) := by decide +kernel
theorem d_Md_write_68 : decode b_Md_write 68 = .ok (.if_icmp .ge 247, 3) := by decide +kernel
theorem d_Md_write_71 : decode b_Md_write 71 = .ok (.iconst 0, 1) := by decide +kernel
theorem d_Md_write_72 : decode b_Md_write 72 = .ok (.istore 5, 2) := by decide +kernel
theorem d_Md_write_74 : decode b_Md_write 74 = .ok (.aload_n 0, 1) := by decide +kernel
theorem d_Md_write_75 : decode b_Md_write 75 = .ok (.getfield 59, 3) := by decide +kernel
theorem d_Md_write_78 : decode b_Md_write 78 = .ok (.iload 5, 2) := by decide +kernel
theorem d_Md_write_80 : decode b_Md_write 80 = .ok (.iaload, 1) := by decide +kernel
theorem d_Md_write_81 : decode b_Md_write 81 = .ok (.aload_n 0, 1) := by decide +kernel
theorem d_Md_write_82 : decode b_Md_write 82 = .ok (.getfield 62, 3) := by decide +kernel
theorem d_Md_write_85 : decode b_Md_write 85 = .ok (.iload 4, 2) := by decide +kernel
theorem d_Md_write_87 : decode b_Md_write 87 = .ok (.iaload, 1) := by decide +kernel
theorem d_Md_write_88 : decode b_Md_write 88 = .ok (.if_icmp .eq 9, 3) := by decide +kernel
theorem d_Md_write_91 : decode b_Md_write 91 = .ok (.iinc 5 1, 3) := by decide +kernel
theorem d_Md_write_94 : decode b_Md_write 94 = .ok (.goto (-20), 3) := by decide +kernel
theorem d_Md_write_97 : decode b_Md_write 97 = .ok (.aload_n 0, 1) := by decide +kernel
theorem d_Md_write_98 : decode b_Md_write 98 = .ok (.aload_n 0, 1) := by decide +kernel
theorem d_Md_write_99 : decode b_Md_write 99 = .ok (.getfield 56, 3) := by decide +kernel
theorem d_Md_write_102 : decode b_Md_write 102 = .ok (.iload 5, 2) := by decide +kernel
theorem d_Md_write_104 : decode b_Md_write 104 = .ok (.iaload, 1) := by decide +kernel
theorem d_Md_write_105 : decode b_Md_write 105 = .ok (.invokevirtual 123, 3) := by decide +kernel
theorem d_Md_write_108 : decode b_Md_write 108 = .ok (.istore 6, 2) := by decide +kernel
theorem d_Md_write_110 : decode b_Md_write 110 = .ok (.aload_n 0, 1) := by decide +kernel
theorem d_Md_write_111 : decode b_Md_write 111 = .ok (.aload_n 0, 1) := by decide +kernel
theorem d_Md_write_112 : decode b_Md_write 112 = .ok (.getfield 10, 3) := by decide +kernel
theorem d_Md_write_115 : decode b_Md_write 115 = .ok (.iload 6, 2) := by decide +kernel
theorem d_Md_write_117 : decode b_Md_write 117 = .ok (.baload, 1) := by decide +kernel
theorem d_Md_write_118 : decode b_Md_write 118 = .ok (.invokevirtual 167, 3) := by decide +kernel
theorem d_Md_write_121 : decode b_Md_write 121 = .ok (.aload_n 0, 1) := by decide +kernel
theorem d_Md_write_122 : decode b_Md_write 122 = .ok (.aload_n 0, 1) := by decide +kernel
theorem d_Md_write_123 : decode b_Md_write 123 = .ok (.getfield 10, 3) := by decide +kernel
theorem d_Md_write_126 : decode b_Md_write 126 = .ok (.iload 6, 2) := by decide +kernel
theorem d_Md_write_128 : decode b_Md_write 128 = .ok (.baload, 1) := by decide +kernel
theorem d_Md_write_129 : decode b_Md_write 129 = .ok (.ifCond .ne 20, 3) := by decide +kernel
theorem d_Md_write_132 : decode b_Md_write 132 = .ok (.aload_n 0, 1) := by decide +kernel
theorem d_Md_write_133 : decode b_Md_write 133 = .ok (.iload 6, 2) := by decide +kernel
theorem d_Md_write_135 : decode b_Md_write 135 = .ok (.invokevirtual 138, 3) := by decide +kernel
theorem d_Md_write_138 : decode b_Md_write 138 = .ok (.ifCond .eq 7, 3) := by decide +kernel
theorem d_Md_write_141 : decode b_Md_write 141 = .ok (.iconst 1, 1) := by decide +kernel
theorem d_Md_write_142 : decode b_Md_write 142 = .ok (.goto 14, 3) := by decide +kernel
theorem d_Md_write_145 : decode b_Md_write 145 = .ok (.iconst 0, 1) := by decide +kernel
theorem d_Md_write_146 : decode b_Md_write 146 = .ok (.goto 10, 3) := by decide +kernel
theorem d_Md_write_149 : decode b_Md_write 149 = .ok (.aload_n 0, 1) := by decide +kernel
theorem d_Md_write_150 : decode b_Md_write 150 = .ok (.getfield 14, 3) := by decide +kernel
theorem d_Md_write_153 : decode b_Md_write 153 = .ok (.iload 6, 2) := by decide +kernel
theorem d_Md_write_155 : decode b_Md_write 155 = .ok (.iaload, 1) := by decide +kernel
theorem d_Md_write_156 : decode b_Md_write 156 = .ok (.invokevirtual 167, 3) := by decide +kernel
theorem d_Md_write_159 : decode b_Md_write 159 = .ok (.aload_n 0, 1) := by decide +kernel
theorem d_Md_write_160 : decode b_Md_write 160 = .ok (.aload_n 0, 1) := by decide +kernel
theorem d_Md_write_161 : decode b_Md_write 161 = .ok (.getfield 10, 3) := by decide +kernel
theorem d_Md_write_164 : decode b_Md_write 164 = .ok (.iload 6, 2) := by decide +kernel
theorem d_Md_write_166 : decode b_Md_write 166 = .ok (.baload, 1) := by decide +kernel
theorem d_Md_write_167 : decode b_Md_write 167 = .ok (.iconst 3, 1) := by decide +kernel
theorem d_Md_write_168 : decode b_Md_write 168 = .ok (.if_icmp .ge 7, 3) := by decide +kernel
theorem d_Md_write_171 : decode b_Md_write 171 = .ok (.iconst 0, 1) := by decide +kernel
theorem d_Md_write_172 : decode b_Md_write 172 = .ok (.goto 10, 3) := by decide +kernel
theorem d_Md_write_175 : decode b_Md_write 175 = .ok (.aload_n 0, 1) := by decide +kernel
theorem d_Md_write_176 : decode b_Md_write 176 = .ok (.getfield 21, 3) := by decide +kernel
theorem d_Md_write_179 : decode b_Md_write 179 = .ok (.iload 6, 2) := by decide +kernel
theorem d_Md_write_181 : decode b_Md_write 181 = .ok (.iaload, 1) := by decide +kernel
theorem d_Md_write_182 : decode b_Md_write 182 = .ok (.invokevirtual 167, 3) := by decide +kernel
theorem d_Md_write_185 : decode b_Md_write 185 = .ok (.iconst 0, 1) := by decide +kernel
theorem d_Md_write_186 : decode b_Md_write 186 = .ok (.istore 7, 2) := by decide +kernel
theorem d_Md_write_188 : decode b_Md_write 188 = .ok (.iload 7, 2) := by decide +kernel
theorem d_Md_write_190 : decode b_Md_write 190 = .ok (.aload_n 0, 1) := by decide +kernel
theorem d_Md_write_191 : decode b_Md_write 191 = .ok (.getfield 21, 3) := by decide +kernel
theorem d_Md_write_194 : decode b_Md_write 194 = .ok (.iload 6, 2) := by decide +kernel
theorem d_Md_write_196 : decode b_Md_write 196 = .ok (.iaload, 1) := by decide +kernel
theorem d_Md_write_197 : decode b_Md_write 197 = .ok (.if_icmp .ge 112, 3) := by decide +kernel
theorem d_Md_write_200 : decode b_Md_write 200 = .ok (.aload_n 0, 1) := by decide +kernel
theorem d_Md_write_201 : decode b_Md_write 201 = .ok (.getfield 10, 3) := by decide +kernel
theorem d_Md_write_204 : decode b_Md_write 204 = .ok (.iload 6, 2) := by decide +kernel
theorem d_Md_write_206 : decode b_Md_write 206 = .ok (.baload, 1) := by decide +kernel
theorem d_Md_write_207 : decode b_Md_write 207 = .ok (.iconst 3, 1) := by decide +kernel
theorem d_Md_write_208 : decode b_Md_write 208 = .ok (.if_icmp .lt 101, 3) := by decide +kernel
theorem d_Md_write_211 : decode b_Md_write 211 = .ok (.aload_n 0, 1) := by decide +kernel
theorem d_Md_write_212 : decode b_Md_write 212 = .ok (.getfield 59, 3) := by decide +kernel
theorem d_Md_write_215 : decode b_Md_write 215 = .ok (.aload_n 0, 1) := by decide +kernel
theorem d_Md_write_216 : decode b_Md_write 216 = .ok (.aload_n 0, 1) := by decide +kernel
theorem d_Md_write_217 : decode b_Md_write 217 = .ok (.getfield 31, 3) := by decide +kernel
theorem d_Md_write_220 : decode b_Md_write 220 = .ok (.aload_n 0, 1) := by decide +kernel
theorem d_Md_write_221 : decode b_Md_write 221 = .ok (.getfield 44, 3) := by decide +kernel
theorem d_Md_write_224 : decode b_Md_write 224 = .ok (.aload_n 0, 1) := by decide +kernel
theorem d_Md_write_225 : decode b_Md_write 225 = .ok (.getfield 18, 3) := by decide +kernel
theorem d_Md_write_228 : decode b_Md_write 228 = .ok (.iload 6, 2) := by decide +kernel
theorem d_Md_write_230 : decode b_Md_write 230 = .ok (.iaload, 1) := by decide +kernel
theorem d_Md_write_231 : decode b_Md_write 231 = .ok (.iload 7, 2) := by decide +kernel
theorem d_Md_write_233 : decode b_Md_write 233 = .ok (.iadd, 1) := by decide +kernel
theorem d_Md_write_234 : decode b_Md_write 234 = .ok (.iaload, 1) := by decide +kernel
theorem d_Md_write_235 : decode b_Md_write 235 = .ok (.iaload, 1) := by decide +kernel
theorem d_Md_write_236 : decode b_Md_write 236 = .ok (.iload_n 2, 1) := by decide +kernel
theorem d_Md_write_237 : decode b_Md_write 237 = .ok (.invokevirtual 150, 3) := by decide +kernel
theorem d_Md_write_240 : decode b_Md_write 240 = .ok (.iaload, 1) := by decide +kernel
theorem d_Md_write_241 : decode b_Md_write 241 = .ok (.istore 8, 2) := by decide +kernel
theorem d_Md_write_243 : decode b_Md_write 243 = .ok (.aload_n 0, 1) := by decide +kernel
theorem d_Md_write_244 : decode b_Md_write 244 = .ok (.getfield 65, 3) := by decide +kernel
theorem d_Md_write_247 : decode b_Md_write 247 = .ok (.iload 8, 2) := by decide +kernel
theorem d_Md_write_249 : decode b_Md_write 249 = .ok (.iaload, 1) := by decide +kernel
theorem d_Md_write_250 : decode b_Md_write 250 = .ok (.iconst (-1), 1) := by decide +kernel
theorem d_Md_write_251 : decode b_Md_write 251 = .ok (.if_icmp .ne 22, 3) := by decide +kernel
theorem d_Md_write_254 : decode b_Md_write 254 = .ok (.aload_n 0, 1) := by decide +kernel
theorem d_Md_write_255 : decode b_Md_write 255 = .ok (.getfield 65, 3) := by decide +kernel
theorem d_Md_write_258 : decode b_Md_write 258 = .ok (.iload 8, 2) := by decide +kernel
theorem d_Md_write_260 : decode b_Md_write 260 = .ok (.iload_n 3, 1) := by decide +kernel
theorem d_Md_write_261 : decode b_Md_write 261 = .ok (.iastore, 1) := by decide +kernel
theorem d_Md_write_262 : decode b_Md_write 262 = .ok (.aload_n 0, 1) := by decide +kernel
theorem d_Md_write_263 : decode b_Md_write 263 = .ok (.getfield 62, 3) := by decide +kernel
theorem d_Md_write_266 : decode b_Md_write 266 = .ok (.iload_n 3, 1) := by decide +kernel
theorem d_Md_write_267 : decode b_Md_write 267 = .ok (.iload 8, 2) := by decide +kernel
theorem d_Md_write_269 : decode b_Md_write 269 = .ok (.iastore, 1) := by decide +kernel
theorem d_Md_write_270 : decode b_Md_write 270 = .ok (.iinc 3 1, 3) := by decide +kernel
theorem d_Md_write_273 : decode b_Md_write 273 = .ok (.aload_n 0, 1) := by decide +kernel
theorem d_Md_write_274 : decode b_Md_write 274 = .ok (.aload_n 0, 1) := by decide +kernel
theorem d_Md_write_275 : decode b_Md_write 275 = .ok (.getfield 41, 3) := by decide +kernel
theorem d_Md_write_278 : decode b_Md_write 278 = .ok (.aload_n 0, 1) := by decide +kernel
theorem d_Md_write_279 : decode b_Md_write 279 = .ok (.getfield 18, 3) := by decide +kernel
theorem d_Md_write_282 : decode b_Md_write 282 = .ok (.iload 6, 2) := by decide +kernel
theorem d_Md_write_284 : decode b_Md_write 284 = .ok (.iaload, 1) := by decide +kernel
theorem d_Md_write_285 : decode b_Md_write 285 = .ok (.iload 7, 2) := by decide +kernel
theorem d_Md_write_287 : decode b_Md_write 287 = .ok (.iadd, 1) := by decide +kernel
theorem d_Md_write_288 : decode b_Md_write 288 = .ok (.iaload, 1) := by decide +kernel
theorem d_Md_write_289 : decode b_Md_write 289 = .ok (.invokevirtual 167, 3) := by decide +kernel
theorem d_Md_write_292 : decode b_Md_write 292 = .ok (.aload_n 0, 1) := by decide +kernel
theorem d_Md_write_293 : decode b_Md_write 293 = .ok (.aload_n 0, 1) := by decide +kernel
theorem d_Md_write_294 : decode b_Md_write 294 = .ok (.getfield 65, 3) := by decide +kernel
theorem d_Md_write_297 : decode b_Md_write 297 = .ok (.iload 8, 2) := by decide +kernel
theorem d_Md_write_299 : decode b_Md_write 299 = .ok (.iaload, 1) := by decide +kernel
theorem d_Md_write_300 : decode b_Md_write 300 = .ok (.invokevirtual 167, 3) := by decide +kernel
theorem d_Md_write_303 : decode b_Md_write 303 = .ok (.iinc 7 1, 3) := by decide +kernel
theorem d_Md_write_306 : decode b_Md_write 306 = .ok (.goto (-118), 3) := by decide +kernel
theorem d_Md_write_309 : decode b_Md_write 309 = .ok (.iinc 4 1, 3) := by decide +kernel
theorem d_Md_write_312 : decode b_Md_write 312 = .ok (.goto (-247), 3) := by decide +kernel
theorem d_Md_write_315 : decode b_Md_write 315 = .ok (.return_, 1) := by decide +kernel
theorem d_Md_like_0 : decode b_Md_like 0 = .ok (.aload_n 0, 1) := by decide +kernel
theorem d_Md_like_1 : decode b_Md_like 1 = .ok (.iload_n 1, 1) := by decide +kernel
theorem d_Md_like_2 : decode b_Md_like 2 = .ok (.invokevirtual 91, 3) := by decide +kernel
theorem d_Md_like_5 : decode b_Md_like 5 = .ok (.ifCond .eq 11, 3) := by decide +kernel
theorem d_Md_like_8 : decode b_Md_like 8 = .ok (.aload_n 0, 1) := by decide +kernel
theorem d_Md_like_9 : decode b_Md_like 9 = .ok (.iload_n 2, 1) := by decide +kernel
theorem d_Md_like_10 : decode b_Md_like 10 = .ok (.invokevirtual 91, 3) := by decide +kernel
theorem d_Md_like_13 : decode b_Md_like 13 = .ok (.ifCond .ne 5, 3) := by decide +kernel
theorem d_Md_like_16 : decode b_Md_like 16 = .ok (.iconst 0, 1) := by decide +kernel
theorem d_Md_like_17 : decode b_Md_like 17 = .ok (.ireturn, 1) := by decide +kernel
theorem d_Md_like_18 : decode b_Md_like 18 = .ok (.aload_n 0, 1) := by decide +kernel
theorem d_Md_like_19 : decode b_Md_like 19 = .ok (.iload_n 1, 1) := by decide +kernel
theorem d_Md_like_20 : decode b_Md_like 20 = .ok (.invokevirtual 170, 3) := by decide +kernel
theorem d_Md_like_23 : decode b_Md_like 23 = .ok (.aload_n 0, 1) := by decide +kernel
theorem d_Md_like_24 : decode b_Md_like 24 = .ok (.getfield 157, 3) := by decide +kernel
theorem d_Md_like_27 : decode b_Md_like 27 = .ok (.istore_n 3, 1) := by decide +kernel
theorem d_Md_like_28 : decode b_Md_like 28 = .ok (.aload_n 0, 1) := by decide +kernel
theorem d_Md_like_29 : decode b_Md_like 29 = .ok (.getfield 71, 3) := by decide +kernel
theorem d_Md_like_32 : decode b_Md_like 32 = .ok (.arraylength, 1) := by decide +kernel
theorem d_Md_like_33 : decode b_Md_like 33 = .ok (.iload_n 3, 1) := by decide +kernel
theorem d_Md_like_34 : decode b_Md_like 34 = .ok (.if_icmp .ge 19, 3) := by decide +kernel
theorem d_Md_like_37 : decode b_Md_like 37 = .ok (.aload_n 0, 1) := by decide +kernel
theorem d_Md_like_38 : decode b_Md_like 38 = .ok (.iconst 2, 1) := by decide +kernel
theorem d_Md_like_39 : decode b_Md_like 39 = .ok (.aload_n 0, 1) := by decide +kernel
theorem d_Md_like_40 : decode b_Md_like 40 = .ok (.getfield 71, 3) := by decide +kernel
theorem d_Md_like_43 : decode b_Md_like 43 = .ok (.arraylength, 1) := by decide +kernel
theorem d_Md_like_44 : decode b_Md_like 44 = .ok (.imul, 1) := by decide +kernel
theorem d_Md_like_45 : decode b_Md_like 45 = .ok (.newarray .int, 2) := by decide +kernel
theorem d_Md_like_47 : decode b_Md_like 47 = .ok (.putfield 71, 3) := by decide +kernel
theorem d_Md_like_50 : decode b_Md_like 50 = .ok (.goto (-22), 3) := by decide +kernel
theorem d_Md_like_53 : decode b_Md_like 53 = .ok (.aload_n 0, 1) := by decide +kernel
theorem d_Md_like_54 : decode b_Md_like 54 = .ok (.getfield 68, 3) := by decide +kernel
theorem d_Md_like_57 : decode b_Md_like 57 = .ok (.iconst 0, 1) := by decide +kernel
theorem d_Md_like_58 : decode b_Md_like 58 = .ok (.aload_n 0, 1) := by decide +kernel
theorem d_Md_like_59 : decode b_Md_like 59 = .ok (.getfield 71, 3) := by decide +kernel
theorem d_Md_like_62 : decode b_Md_like 62 = .ok (.iconst 0, 1) := by decide +kernel
theorem d_Md_like_63 : decode b_Md_like 63 = .ok (.iload_n 3, 1) := by decide +kernel
theorem d_Md_like_64 : decode b_Md_like 64 = .ok (.invokestatic 113, 3) := by decide +kernel
theorem d_Md_like_67 : decode b_Md_like 67 = .ok (.aload_n 0, 1) := by decide +kernel
theorem d_Md_like_68 : decode b_Md_like 68 = .ok (.iload_n 2, 1) := by decide +kernel
theorem d_Md_like_69 : decode b_Md_like 69 = .ok (.invokevirtual 170, 3) := by decide +kernel
theorem d_Md_like_72 : decode b_Md_like 72 = .ok (.iload_n 3, 1) := by decide +kernel
theorem d_Md_like_73 : decode b_Md_like 73 = .ok (.aload_n 0, 1) := by decide +kernel
theorem d_Md_like_74 : decode b_Md_like 74 = .ok (.getfield 157, 3) := by decide +kernel
theorem d_Md_like_77 : decode b_Md_like 77 = .ok (.if_icmp .ne 7, 3) := by decide +kernel
theorem d_Md_like_80 : decode b_Md_like 80 = .ok (.iconst 1, 1) := by decide +kernel
theorem d_Md_like_81 : decode b_Md_like 81 = .ok (.goto 4, 3) := by decide +kernel
theorem d_Md_like_84 : decode b_Md_like 84 = .ok (.iconst 0, 1) := by decide +kernel
theorem d_Md_like_85 : decode b_Md_like 85 = .ok (.istore 4, 2) := by decide +kernel
theorem d_Md_like_87 : decode b_Md_like 87 = .ok (.iconst 0, 1) := by decide +kernel
theorem d_Md_like_88 : decode b_Md_like 88 = .ok (.istore 5, 2) := by decide +kernel
theorem d_Md_like_90 : decode b_Md_like 90 = .ok (.iload 5, 2) := by decide +kernel
theorem d_Md_like_92 : decode b_Md_like 92 = .ok (.iload_n 3, 1) := by decide +kernel
theorem d_Md_like_93 : decode b_Md_like 93 = .ok (.if_icmp .ge 38, 3) := by decide +kernel
theorem d_Md_like_96 : decode b_Md_like 96 = .ok (.iload 4, 2) := by decide +kernel
theorem d_Md_like_98 : decode b_Md_like 98 = .ok (.ifCond .eq 33, 3) := by decide +kernel
theorem d_Md_like_101 : decode b_Md_like 101 = .ok (.aload_n 0, 1) := by decide +kernel
theorem d_Md_like_102 : decode b_Md_like 102 = .ok (.getfield 68, 3) := by decide +kernel
theorem d_Md_like_105 : decode b_Md_like 105 = .ok (.iload 5, 2) := by decide +kernel
theorem d_Md_like_107 : decode b_Md_like 107 = .ok (.iaload, 1) := by decide +kernel
theorem d_Md_like_108 : decode b_Md_like 108 = .ok (.aload_n 0, 1) := by decide +kernel
theorem d_Md_like_109 : decode b_Md_like 109 = .ok (.getfield 71, 3) := by decide +kernel
theorem d_Md_like_112 : decode b_Md_like 112 = .ok (.iload 5, 2) := by decide +kernel
theorem d_Md_like_114 : decode b_Md_like 114 = .ok (.iaload, 1) := by decide +kernel
theorem d_Md_like_115 : decode b_Md_like 115 = .ok (.if_icmp .ne 7, 3) := by decide +kernel
theorem d_Md_like_118 : decode b_Md_like 118 = .ok (.iconst 1, 1) := by decide +kernel
theorem d_Md_like_119 : decode b_Md_like 119 = .ok (.goto 4, 3) := by decide +kernel
theorem d_Md_like_122 : decode b_Md_like 122 = .ok (.iconst 0, 1) := by decide +kernel
theorem d_Md_like_123 : decode b_Md_like 123 = .ok (.istore 4, 2) := by decide +kernel
theorem d_Md_like_125 : decode b_Md_like 125 = .ok (.iinc 5 1, 3) := by decide +kernel
theorem d_Md_like_128 : decode b_Md_like 128 = .ok (.goto (-38), 3) := by decide +kernel
theorem d_Md_like_131 : decode b_Md_like 131 = .ok (.iload 4, 2) := by decide +kernel
theorem d_Md_like_133 : decode b_Md_like 133 = .ok (.ireturn, 1) := by decide +kernel
theorem d_Md_mark_0 : decode b_Md_mark 0 = .ok (.aload_n 0, 1) := by decide +kernel
theorem d_Md_mark_1 : decode b_Md_mark 1 = .ok (.iload_n 1, 1) := by decide +kernel
theorem d_Md_mark_2 : decode b_Md_mark 2 = .ok (.invokevirtual 91, 3) := by decide +kernel
theorem d_Md_mark_5 : decode b_Md_mark 5 = .ok (.ifCond .ne 5, 3) := by decide +kernel
theorem d_Md_mark_8 : decode b_Md_mark 8 = .ok (.iconst (-1), 1) := by decide +kernel
theorem d_Md_mark_9 : decode b_Md_mark 9 = .ok (.ireturn, 1) := by decide +kernel
theorem d_Md_mark_10 : decode b_Md_mark 10 = .ok (.aload_n 0, 1) := by decide +kernel
theorem d_Md_mark_11 : decode b_Md_mark 11 = .ok (.iload_n 1, 1) := by decide +kernel
theorem d_Md_mark_12 : decode b_Md_mark 12 = .ok (.invokevirtual 160, 3) := by decide +kernel
theorem d_Md_mark_15 : decode b_Md_mark 15 = .ok (.istore_n 2, 1) := by decide +kernel
theorem d_Md_mark_16 : decode b_Md_mark 16 = .ok (.iconst 0, 1) := by decide +kernel
theorem d_Md_mark_17 : decode b_Md_mark 17 = .ok (.istore_n 3, 1) := by decide +kernel
theorem d_Md_mark_18 : decode b_Md_mark 18 = .ok (.iload_n 3, 1) := by decide +kernel
theorem d_Md_mark_19 : decode b_Md_mark 19 = .ok (.iload_n 2, 1) := by decide +kernel
theorem d_Md_mark_20 : decode b_Md_mark 20 = .ok (.if_icmp .ge 69, 3) := by decide +kernel
theorem d_Md_mark_23 : decode b_Md_mark 23 = .ok (.iconst 0, 1) := by decide +kernel
theorem d_Md_mark_24 : decode b_Md_mark 24 = .ok (.istore 4, 2) := by decide +kernel
theorem d_Md_mark_26 : decode b_Md_mark 26 = .ok (.iload 4, 2) := by decide +kernel
theorem d_Md_mark_28 : decode b_Md_mark 28 = .ok (.aload_n 0, 1) := by decide +kernel
theorem d_Md_mark_29 : decode b_Md_mark 29 = .ok (.getfield 74, 3) := by decide +kernel
theorem d_Md_mark_32 : decode b_Md_mark 32 = .ok (.if_icmp .ge 51, 3) := by decide +kernel
theorem d_Md_mark_35 : decode b_Md_mark 35 = .ok (.aload_n 0, 1) := by decide +kernel
theorem d_Md_mark_36 : decode b_Md_mark 36 = .ok (.getfield 28, 3) := by decide +kernel
theorem d_Md_mark_39 : decode b_Md_mark 39 = .ok (.iload 4, 2) := by decide +kernel
theorem d_Md_mark_41 : decode b_Md_mark 41 = .ok (.dup2, 1) := by decide +kernel
theorem d_Md_mark_42 : decode b_Md_mark 42 = .ok (.baload, 1) := by decide +kernel
theorem d_Md_mark_43 : decode b_Md_mark 43 = .ok (.aload_n 0, 1) := by decide +kernel
theorem d_Md_mark_44 : decode b_Md_mark 44 = .ok (.getfield 10, 3) := by decide +kernel
theorem d_Md_mark_47 : decode b_Md_mark 47 = .ok (.iload 4, 2) := by decide +kernel
theorem d_Md_mark_49 : decode b_Md_mark 49 = .ok (.baload, 1) := by decide +kernel
theorem d_Md_mark_50 : decode b_Md_mark 50 = .ok (.iconst (-1), 1) := by decide +kernel
theorem d_Md_mark_51 : decode b_Md_mark 51 = .ok (.if_icmp .eq 23, 3) := by decide +kernel
theorem d_Md_mark_54 : decode b_Md_mark 54 = .ok (.aload_n 0, 1) := by decide +kernel
theorem d_Md_mark_55 : decode b_Md_mark 55 = .ok (.getfield 31, 3) := by decide +kernel
theorem d_Md_mark_58 : decode b_Md_mark 58 = .ok (.iload 4, 2) := by decide +kernel
theorem d_Md_mark_60 : decode b_Md_mark 60 = .ok (.iaload, 1) := by decide +kernel
theorem d_Md_mark_61 : decode b_Md_mark 61 = .ok (.aload_n 0, 1) := by decide +kernel
theorem d_Md_mark_62 : decode b_Md_mark 62 = .ok (.getfield 56, 3) := by decide +kernel
theorem d_Md_mark_65 : decode b_Md_mark 65 = .ok (.iload_n 3, 1) := by decide +kernel
theorem d_Md_mark_66 : decode b_Md_mark 66 = .ok (.iaload, 1) := by decide +kernel
theorem d_Md_mark_67 : decode b_Md_mark 67 = .ok (.if_icmp .ne 7, 3) := by decide +kernel
theorem d_Md_mark_70 : decode b_Md_mark 70 = .ok (.iconst 1, 1) := by decide +kernel
theorem d_Md_mark_71 : decode b_Md_mark 71 = .ok (.goto 4, 3) := by decide +kernel
theorem d_Md_mark_74 : decode b_Md_mark 74 = .ok (.iconst 0, 1) := by decide +kernel
theorem d_Md_mark_75 : decode b_Md_mark 75 = .ok (.ior, 1) := by decide +kernel
theorem d_Md_mark_76 : decode b_Md_mark 76 = .ok (.bastore, 1) := by decide +kernel
theorem d_Md_mark_77 : decode b_Md_mark 77 = .ok (.iinc 4 1, 3) := by decide +kernel
theorem d_Md_mark_80 : decode b_Md_mark 80 = .ok (.goto (-54), 3) := by decide +kernel
theorem d_Md_mark_83 : decode b_Md_mark 83 = .ok (.iinc 3 1, 3) := by decide +kernel
theorem d_Md_mark_86 : decode b_Md_mark 86 = .ok (.goto (-68), 3) := by decide +kernel
theorem d_Md_mark_89 : decode b_Md_mark 89 = .ok (.aload_n 0, 1) := by decide +kernel
theorem d_Md_mark_90 : decode b_Md_mark 90 = .ok (.getfield 31, 3) := by decide +kernel
theorem d_Md_mark_93 : decode b_Md_mark 93 = .ok (.iload_n 1, 1) := by decide +kernel
theorem d_Md_mark_94 : decode b_Md_mark 94 = .ok (.iaload, 1) := by decide +kernel
theorem d_Md_mark_95 : decode b_Md_mark 95 = .ok (.ireturn, 1) := by decide +kernel
theorem d_Md_pack_0 : decode b_Md_pack 0 = .ok (.iconst 0, 1) := by decide +kernel
theorem d_Md_pack_1 : decode b_Md_pack 1 = .ok (.istore_n 1, 1) := by decide +kernel
theorem d_Md_pack_2 : decode b_Md_pack 2 = .ok (.iconst 0, 1) := by decide +kernel
theorem d_Md_pack_3 : decode b_Md_pack 3 = .ok (.istore_n 2, 1) := by decide +kernel
theorem d_Md_pack_4 : decode b_Md_pack 4 = .ok (.iload_n 2, 1) := by decide +kernel
theorem d_Md_pack_5 : decode b_Md_pack 5 = .ok (.aload_n 0, 1) := by decide +kernel
theorem d_Md_pack_6 : decode b_Md_pack 6 = .ok (.getfield 84, 3) := by decide +kernel
theorem d_Md_pack_9 : decode b_Md_pack 9 = .ok (.if_icmp .ge 208, 3) := by decide +kernel
theorem d_Md_pack_12 : decode b_Md_pack 12 = .ok (.iconst (-1), 1) := by decide +kernel
theorem d_Md_pack_13 : decode b_Md_pack 13 = .ok (.istore_n 3, 1) := by decide +kernel
theorem d_Md_pack_14 : decode b_Md_pack 14 = .ok (.iconst 0, 1) := by decide +kernel
theorem d_Md_pack_15 : decode b_Md_pack 15 = .ok (.istore 4, 2) := by decide +kernel
theorem d_Md_pack_17 : decode b_Md_pack 17 = .ok (.iload 4, 2) := by decide +kernel
theorem d_Md_pack_19 : decode b_Md_pack 19 = .ok (.aload_n 0, 1) := by decide +kernel
theorem d_Md_pack_20 : decode b_Md_pack 20 = .ok (.getfield 74, 3) := by decide +kernel
theorem d_Md_pack_23 : decode b_Md_pack 23 = .ok (.if_icmp .ge 81, 3) := by decide +kernel
theorem d_Md_pack_26 : decode b_Md_pack 26 = .ok (.aload_n 0, 1) := by decide +kernel
theorem d_Md_pack_27 : decode b_Md_pack 27 = .ok (.getfield 10, 3) := by decide +kernel
theorem d_Md_pack_30 : decode b_Md_pack 30 = .ok (.iload 4, 2) := by decide +kernel
theorem d_Md_pack_32 : decode b_Md_pack 32 = .ok (.baload, 1) := by decide +kernel
theorem d_Md_pack_33 : decode b_Md_pack 33 = .ok (.iconst 3, 1) := by decide +kernel
theorem d_Md_pack_34 : decode b_Md_pack 34 = .ok (.if_icmp .lt 28, 3) := by decide +kernel
theorem d_Md_pack_37 : decode b_Md_pack 37 = .ok (.aload_n 0, 1) := by decide +kernel
theorem d_Md_pack_38 : decode b_Md_pack 38 = .ok (.getfield 21, 3) := by decide +kernel
theorem d_Md_pack_41 : decode b_Md_pack 41 = .ok (.iload 4, 2) := by decide +kernel
theorem d_Md_pack_43 : decode b_Md_pack 43 = .ok (.iaload, 1) := by decide +kernel
theorem d_Md_pack_44 : decode b_Md_pack 44 = .ok (.ifCond .le 18, 3) := by decide +kernel
theorem d_Md_pack_47 : decode b_Md_pack 47 = .ok (.aload_n 0, 1) := by decide +kernel
theorem d_Md_pack_48 : decode b_Md_pack 48 = .ok (.getfield 18, 3) := by decide +kernel
theorem d_Md_pack_51 : decode b_Md_pack 51 = .ok (.iload 4, 2) := by decide +kernel
theorem d_Md_pack_53 : decode b_Md_pack 53 = .ok (.iaload, 1) := by decide +kernel
theorem d_Md_pack_54 : decode b_Md_pack 54 = .ok (.iload_n 2, 1) := by decide +kernel
theorem d_Md_pack_55 : decode b_Md_pack 55 = .ok (.if_icmp .lt 7, 3) := by decide +kernel
theorem d_Md_pack_58 : decode b_Md_pack 58 = .ok (.iconst 1, 1) := by decide +kernel
theorem d_Md_pack_59 : decode b_Md_pack 59 = .ok (.goto 4, 3) := by decide +kernel
theorem d_Md_pack_62 : decode b_Md_pack 62 = .ok (.iconst 0, 1) := by decide +kernel
theorem d_Md_pack_63 : decode b_Md_pack 63 = .ok (.istore 5, 2) := by decide +kernel
theorem d_Md_pack_65 : decode b_Md_pack 65 = .ok (.iload 5, 2) := by decide +kernel
theorem d_Md_pack_67 : decode b_Md_pack 67 = .ok (.ifCond .eq 29, 3) := by decide +kernel
theorem d_Md_pack_70 : decode b_Md_pack 70 = .ok (.iload_n 3, 1) := by decide +kernel
theorem d_Md_pack_71 : decode b_Md_pack 71 = .ok (.iconst (-1), 1) := by decide +kernel
theorem d_Md_pack_72 : decode b_Md_pack 72 = .ok (.if_icmp .eq 19, 3) := by decide +kernel
theorem d_Md_pack_75 : decode b_Md_pack 75 = .ok (.aload_n 0, 1) := by decide +kernel
theorem d_Md_pack_76 : decode b_Md_pack 76 = .ok (.getfield 18, 3) := by decide +kernel
theorem d_Md_pack_79 : decode b_Md_pack 79 = .ok (.iload 4, 2) := by decide +kernel
theorem d_Md_pack_81 : decode b_Md_pack 81 = .ok (.iaload, 1) := by decide +kernel
theorem d_Md_pack_82 : decode b_Md_pack 82 = .ok (.aload_n 0, 1) := by decide +kernel
theorem d_Md_pack_83 : decode b_Md_pack 83 = .ok (.getfield 18, 3) := by decide +kernel
theorem d_Md_pack_86 : decode b_Md_pack 86 = .ok (.iload_n 3, 1) := by decide +kernel
theorem d_Md_pack_87 : decode b_Md_pack 87 = .ok (.iaload, 1) := by decide +kernel
theorem d_Md_pack_88 : decode b_Md_pack 88 = .ok (.if_icmp .ge 8, 3) := by decide +kernel
theorem d_Md_pack_91 : decode b_Md_pack 91 = .ok (.iload 4, 2) := by decide +kernel
theorem d_Md_pack_93 : decode b_Md_pack 93 = .ok (.goto 4, 3) := by decide +kernel
theorem d_Md_pack_96 : decode b_Md_pack 96 = .ok (.iload_n 3, 1) := by decide +kernel
theorem d_Md_pack_97 : decode b_Md_pack 97 = .ok (.istore_n 3, 1) := by decide +kernel
theorem d_Md_pack_98 : decode b_Md_pack 98 = .ok (.iinc 4 1, 3) := by decide +kernel
theorem d_Md_pack_101 : decode b_Md_pack 101 = .ok (.goto (-84), 3) := by decide +kernel
theorem d_Md_pack_104 : decode b_Md_pack 104 = .ok (.iload_n 3, 1) := by decide +kernel
theorem d_Md_pack_105 : decode b_Md_pack 105 = .ok (.iconst (-1), 1) := by decide +kernel
theorem d_Md_pack_106 : decode b_Md_pack 106 = .ok (.if_icmp .ne 11, 3) := by decide +kernel
theorem d_Md_pack_109 : decode b_Md_pack 109 = .ok (.aload_n 0, 1) := by decide +kernel
theorem d_Md_pack_110 : decode b_Md_pack 110 = .ok (.getfield 84, 3) := by decide +kernel
theorem d_Md_pack_113 : decode b_Md_pack 113 = .ok (.istore_n 2, 1) := by decide +kernel
theorem d_Md_pack_114 : decode b_Md_pack 114 = .ok (.goto 100, 3) := by decide +kernel
theorem d_Md_pack_117 : decode b_Md_pack 117 = .ok (.aload_n 0, 1) := by decide +kernel
theorem d_Md_pack_118 : decode b_Md_pack 118 = .ok (.getfield 18, 3) := by decide +kernel
theorem d_Md_pack_121 : decode b_Md_pack 121 = .ok (.iload_n 3, 1) := by decide +kernel
theorem d_Md_pack_122 : decode b_Md_pack 122 = .ok (.iaload, 1) := by decide +kernel
theorem d_Md_pack_123 : decode b_Md_pack 123 = .ok (.istore 4, 2) := by decide +kernel
theorem d_Md_pack_125 : decode b_Md_pack 125 = .ok (.iconst 0, 1) := by decide +kernel
theorem d_Md_pack_126 : decode b_Md_pack 126 = .ok (.istore 5, 2) := by decide +kernel
theorem d_Md_pack_128 : decode b_Md_pack 128 = .ok (.iload 5, 2) := by decide +kernel
theorem d_Md_pack_130 : decode b_Md_pack 130 = .ok (.aload_n 0, 1) := by decide +kernel
theorem d_Md_pack_131 : decode b_Md_pack 131 = .ok (.getfield 21, 3) := by decide +kernel
theorem d_Md_pack_134 : decode b_Md_pack 134 = .ok (.iload_n 3, 1) := by decide +kernel
theorem d_Md_pack_135 : decode b_Md_pack 135 = .ok (.iaload, 1) := by decide +kernel
theorem d_Md_pack_136 : decode b_Md_pack 136 = .ok (.if_icmp .ge 52, 3) := by decide +kernel
theorem d_Md_pack_139 : decode b_Md_pack 139 = .ok (.aload_n 0, 1) := by decide +kernel
theorem d_Md_pack_140 : decode b_Md_pack 140 = .ok (.getfield 41, 3) := by decide +kernel
theorem d_Md_pack_143 : decode b_Md_pack 143 = .ok (.iload_n 1, 1) := by decide +kernel
theorem d_Md_pack_144 : decode b_Md_pack 144 = .ok (.iload 5, 2) := by decide +kernel
theorem d_Md_pack_146 : decode b_Md_pack 146 = .ok (.iadd, 1) := by decide +kernel
theorem d_Md_pack_147 : decode b_Md_pack 147 = .ok (.aload_n 0, 1) := by decide +kernel
theorem d_Md_pack_148 : decode b_Md_pack 148 = .ok (.getfield 41, 3) := by decide +kernel
theorem d_Md_pack_151 : decode b_Md_pack 151 = .ok (.iload 4, 2) := by decide +kernel
theorem d_Md_pack_153 : decode b_Md_pack 153 = .ok (.iload 5, 2) := by decide +kernel
theorem d_Md_pack_155 : decode b_Md_pack 155 = .ok (.iadd, 1) := by decide +kernel
theorem d_Md_pack_156 : decode b_Md_pack 156 = .ok (.iaload, 1) := by decide +kernel
theorem d_Md_pack_157 : decode b_Md_pack 157 = .ok (.iastore, 1) := by decide +kernel
theorem d_Md_pack_158 : decode b_Md_pack 158 = .ok (.aload_n 0, 1) := by decide +kernel
theorem d_Md_pack_159 : decode b_Md_pack 159 = .ok (.getfield 44, 3) := by decide +kernel
theorem d_Md_pack_162 : decode b_Md_pack 162 = .ok (.iload_n 1, 1) := by decide +kernel
theorem d_Md_pack_163 : decode b_Md_pack 163 = .ok (.iload 5, 2) := by decide +kernel
theorem d_Md_pack_165 : decode b_Md_pack 165 = .ok (.iadd, 1) := by decide +kernel
theorem d_Md_pack_166 : decode b_Md_pack 166 = .ok (.aload_n 0, 1) := by decide +kernel
theorem d_Md_pack_167 : decode b_Md_pack 167 = .ok (.getfield 31, 3) := by decide +kernel
theorem d_Md_pack_170 : decode b_Md_pack 170 = .ok (.aload_n 0, 1) := by decide +kernel
theorem d_Md_pack_171 : decode b_Md_pack 171 = .ok (.getfield 44, 3) := by decide +kernel
theorem d_Md_pack_174 : decode b_Md_pack 174 = .ok (.iload 4, 2) := by decide +kernel
theorem d_Md_pack_176 : decode b_Md_pack 176 = .ok (.iload 5, 2) := by decide +kernel
theorem d_Md_pack_178 : decode b_Md_pack 178 = .ok (.iadd, 1) := by decide +kernel
theorem d_Md_pack_179 : decode b_Md_pack 179 = .ok (.iaload, 1) := by decide +kernel
theorem d_Md_pack_180 : decode b_Md_pack 180 = .ok (.iaload, 1) := by decide +kernel
theorem d_Md_pack_181 : decode b_Md_pack 181 = .ok (.iastore, 1) := by decide +kernel
theorem d_Md_pack_182 : decode b_Md_pack 182 = .ok (.iinc 5 1, 3) := by decide +kernel
theorem d_Md_pack_185 : decode b_Md_pack 185 = .ok (.goto (-57), 3) := by decide +kernel
theorem d_Md_pack_188 : decode b_Md_pack 188 = .ok (.aload_n 0, 1) := by decide +kernel
theorem d_Md_pack_189 : decode b_Md_pack 189 = .ok (.getfield 18, 3) := by decide +kernel
theorem d_Md_pack_192 : decode b_Md_pack 192 = .ok (.iload_n 3, 1) := by decide +kernel
theorem d_Md_pack_193 : decode b_Md_pack 193 = .ok (.iload_n 1, 1) := by decide +kernel
theorem d_Md_pack_194 : decode b_Md_pack 194 = .ok (.iastore, 1) := by decide +kernel
theorem d_Md_pack_195 : decode b_Md_pack 195 = .ok (.iload 4, 2) := by decide +kernel
theorem d_Md_pack_197 : decode b_Md_pack 197 = .ok (.aload_n 0, 1) := by decide +kernel
theorem d_Md_pack_198 : decode b_Md_pack 198 = .ok (.getfield 21, 3) := by decide +kernel
theorem d_Md_pack_201 : decode b_Md_pack 201 = .ok (.iload_n 3, 1) := by decide +kernel
theorem d_Md_pack_202 : decode b_Md_pack 202 = .ok (.iaload, 1) := by decide +kernel
theorem d_Md_pack_203 : decode b_Md_pack 203 = .ok (.iadd, 1) := by decide +kernel
theorem d_Md_pack_204 : decode b_Md_pack 204 = .ok (.istore_n 2, 1) := by decide +kernel
theorem d_Md_pack_205 : decode b_Md_pack 205 = .ok (.iload_n 1, 1) := by decide +kernel
theorem d_Md_pack_206 : decode b_Md_pack 206 = .ok (.aload_n 0, 1) := by decide +kernel
theorem d_Md_pack_207 : decode b_Md_pack 207 = .ok (.getfield 21, 3) := by decide +kernel
theorem d_Md_pack_210 : decode b_Md_pack 210 = .ok (.iload_n 3, 1) := by decide +kernel
theorem d_Md_pack_211 : decode b_Md_pack 211 = .ok (.iaload, 1) := by decide +kernel
theorem d_Md_pack_212 : decode b_Md_pack 212 = .ok (.iadd, 1) := by decide +kernel
theorem d_Md_pack_213 : decode b_Md_pack 213 = .ok (.istore_n 1, 1) := by decide +kernel
theorem d_Md_pack_214 : decode b_Md_pack 214 = .ok (.goto (-210), 3) := by decide +kernel
theorem d_Md_pack_217 : decode b_Md_pack 217 = .ok (.aload_n 0, 1) := by decide +kernel
theorem d_Md_pack_218 : decode b_Md_pack 218 = .ok (.iload_n 1, 1) := by decide +kernel
theorem d_Md_pack_219 : decode b_Md_pack 219 = .ok (.putfield 84, 3) := by decide +kernel
theorem d_Md_pack_222 : decode b_Md_pack 222 = .ok (.return_, 1) := by decide +kernel
theorem d_Md_sweep_0 : decode b_Md_sweep 0 = .ok (.iconst 0, 1) := by decide +kernel
theorem d_Md_sweep_1 : decode b_Md_sweep 1 = .ok (.istore_n 1, 1) := by decide +kernel
theorem d_Md_sweep_2 : decode b_Md_sweep 2 = .ok (.iload_n 1, 1) := by decide +kernel
theorem d_Md_sweep_3 : decode b_Md_sweep 3 = .ok (.aload_n 0, 1) := by decide +kernel
theorem d_Md_sweep_4 : decode b_Md_sweep 4 = .ok (.getfield 74, 3) := by decide +kernel
theorem d_Md_sweep_7 : decode b_Md_sweep 7 = .ok (.if_icmp .ge 68, 3) := by decide +kernel
theorem d_Md_sweep_10 : decode b_Md_sweep 10 = .ok (.aload_n 0, 1) := by decide +kernel
theorem d_Md_sweep_11 : decode b_Md_sweep 11 = .ok (.getfield 10, 3) := by decide +kernel
theorem d_Md_sweep_14 : decode b_Md_sweep 14 = .ok (.iload_n 1, 1) := by decide +kernel
theorem d_Md_sweep_15 : decode b_Md_sweep 15 = .ok (.baload, 1) := by decide +kernel
theorem d_Md_sweep_16 : decode b_Md_sweep 16 = .ok (.iconst (-1), 1) := by decide +kernel
theorem d_Md_sweep_17 : decode b_Md_sweep 17 = .ok (.if_icmp .eq 52, 3) := by decide +kernel
theorem d_Md_sweep_20 : decode b_Md_sweep 20 = .ok (.aload_n 0, 1) := by decide +kernel
theorem d_Md_sweep_21 : decode b_Md_sweep 21 = .ok (.getfield 28, 3) := by decide +kernel
theorem d_Md_sweep_24 : decode b_Md_sweep 24 = .ok (.iload_n 1, 1) := by decide +kernel
theorem d_Md_sweep_25 : decode b_Md_sweep 25 = .ok (.baload, 1) := by decide +kernel
theorem d_Md_sweep_26 : decode b_Md_sweep 26 = .ok (.ifCond .eq 43, 3) := by decide +kernel
theorem d_Md_sweep_29 : decode b_Md_sweep 29 = .ok (.aload_n 0, 1) := by decide +kernel
theorem d_Md_sweep_30 : decode b_Md_sweep 30 = .ok (.getfield 31, 3) := by decide +kernel
theorem d_Md_sweep_33 : decode b_Md_sweep 33 = .ok (.iload_n 1, 1) := by decide +kernel
theorem d_Md_sweep_34 : decode b_Md_sweep 34 = .ok (.iaload, 1) := by decide +kernel
theorem d_Md_sweep_35 : decode b_Md_sweep 35 = .ok (.iload_n 1, 1) := by decide +kernel
theorem d_Md_sweep_36 : decode b_Md_sweep 36 = .ok (.if_icmp .ne 33, 3) := by decide +kernel
theorem d_Md_sweep_39 : decode b_Md_sweep 39 = .ok (.aload_n 0, 1) := by decide +kernel
theorem d_Md_sweep_40 : decode b_Md_sweep 40 = .ok (.getfield 34, 3) := by decide +kernel
theorem d_Md_sweep_43 : decode b_Md_sweep 43 = .ok (.iload_n 1, 1) := by decide +kernel
theorem d_Md_sweep_44 : decode b_Md_sweep 44 = .ok (.aload_n 0, 1) := by decide +kernel
theorem d_Md_sweep_45 : decode b_Md_sweep 45 = .ok (.iload_n 1, 1) := by decide +kernel
theorem d_Md_sweep_46 : decode b_Md_sweep 46 = .ok (.invokevirtual 138, 3) := by decide +kernel
theorem d_Md_sweep_49 : decode b_Md_sweep 49 = .ok (.ifCond .eq 7, 3) := by decide +kernel
theorem d_Md_sweep_52 : decode b_Md_sweep 52 = .ok (.iconst 1, 1) := by decide +kernel
theorem d_Md_sweep_53 : decode b_Md_sweep 53 = .ok (.goto 4, 3) := by decide +kernel
theorem d_Md_sweep_56 : decode b_Md_sweep 56 = .ok (.iconst 0, 1) := by decide +kernel
theorem d_Md_sweep_57 : decode b_Md_sweep 57 = .ok (.iastore, 1) := by decide +kernel
theorem d_Md_sweep_58 : decode b_Md_sweep 58 = .ok (.aload_n 0, 1) := by decide +kernel
theorem d_Md_sweep_59 : decode b_Md_sweep 59 = .ok (.getfield 37, 3) := by decide +kernel
theorem d_Md_sweep_62 : decode b_Md_sweep 62 = .ok (.iload_n 1, 1) := by decide +kernel
theorem d_Md_sweep_63 : decode b_Md_sweep 63 = .ok (.aload_n 0, 1) := by decide +kernel
theorem d_Md_sweep_64 : decode b_Md_sweep 64 = .ok (.iload_n 1, 1) := by decide +kernel
theorem d_Md_sweep_65 : decode b_Md_sweep 65 = .ok (.invokevirtual 123, 3) := by decide +kernel
theorem d_Md_sweep_68 : decode b_Md_sweep 68 = .ok (.iastore, 1) := by decide +kernel
theorem d_Md_sweep_69 : decode b_Md_sweep 69 = .ok (.iinc 1 1, 3) := by decide +kernel
theorem d_Md_sweep_72 : decode b_Md_sweep 72 = .ok (.goto (-70), 3) := by decide +kernel
theorem d_Md_sweep_75 : decode b_Md_sweep 75 = .ok (.aload_n 0, 1) := by decide +kernel
theorem d_Md_sweep_76 : decode b_Md_sweep 76 = .ok (.getfield 78, 3) := by decide +kernel
theorem d_Md_sweep_79 : decode b_Md_sweep 79 = .ok (.istore_n 1, 1) := by decide +kernel
theorem d_Md_sweep_80 : decode b_Md_sweep 80 = .ok (.aload_n 0, 1) := by decide +kernel
theorem d_Md_sweep_81 : decode b_Md_sweep 81 = .ok (.iconst 0, 1) := by decide +kernel
theorem d_Md_sweep_82 : decode b_Md_sweep 82 = .ok (.putfield 78, 3) := by decide +kernel
theorem d_Md_sweep_85 : decode b_Md_sweep 85 = .ok (.iconst 0, 1) := by decide +kernel
theorem d_Md_sweep_86 : decode b_Md_sweep 86 = .ok (.istore_n 2, 1) := by decide +kernel
theorem d_Md_sweep_87 : decode b_Md_sweep 87 = .ok (.iload_n 2, 1) := by decide +kernel
theorem d_Md_sweep_88 : decode b_Md_sweep 88 = .ok (.aload_n 0, 1) := by decide +kernel
theorem d_Md_sweep_89 : decode b_Md_sweep 89 = .ok (.getfield 74, 3) := by decide +kernel
theorem d_Md_sweep_92 : decode b_Md_sweep 92 = .ok (.if_icmp .ge 154, 3) := by decide +kernel
theorem d_Md_sweep_95 : decode b_Md_sweep 95 = .ok (.aload_n 0, 1) := by decide +kernel
theorem d_Md_sweep_96 : decode b_Md_sweep 96 = .ok (.getfield 10, 3) := by decide +kernel
theorem d_Md_sweep_99 : decode b_Md_sweep 99 = .ok (.iload_n 2, 1) := by decide +kernel
theorem d_Md_sweep_100 : decode b_Md_sweep 100 = .ok (.baload, 1) := by decide +kernel
theorem d_Md_sweep_101 : decode b_Md_sweep 101 = .ok (.iconst (-1), 1) := by decide +kernel
theorem d_Md_sweep_102 : decode b_Md_sweep 102 = .ok (.if_icmp .eq 26, 3) := by decide +kernel
theorem d_Md_sweep_105 : decode b_Md_sweep 105 = .ok (.aload_n 0, 1) := by decide +kernel
theorem d_Md_sweep_106 : decode b_Md_sweep 106 = .ok (.getfield 28, 3) := by decide +kernel
theorem d_Md_sweep_109 : decode b_Md_sweep 109 = .ok (.iload_n 2, 1) := by decide +kernel
theorem d_Md_sweep_110 : decode b_Md_sweep 110 = .ok (.baload, 1) := by decide +kernel
theorem d_Md_sweep_111 : decode b_Md_sweep 111 = .ok (.ifCond .eq 17, 3) := by decide +kernel
theorem d_Md_sweep_114 : decode b_Md_sweep 114 = .ok (.aload_n 0, 1) := by decide +kernel
theorem d_Md_sweep_115 : decode b_Md_sweep 115 = .ok (.getfield 31, 3) := by decide +kernel
theorem d_Md_sweep_118 : decode b_Md_sweep 118 = .ok (.iload_n 2, 1) := by decide +kernel
theorem d_Md_sweep_119 : decode b_Md_sweep 119 = .ok (.iaload, 1) := by decide +kernel
theorem d_Md_sweep_120 : decode b_Md_sweep 120 = .ok (.iload_n 2, 1) := by decide +kernel
theorem d_Md_sweep_121 : decode b_Md_sweep 121 = .ok (.if_icmp .ne 7, 3) := by decide +kernel
theorem d_Md_sweep_124 : decode b_Md_sweep 124 = .ok (.iconst 1, 1) := by decide +kernel
theorem d_Md_sweep_125 : decode b_Md_sweep 125 = .ok (.goto 4, 3) := by decide +kernel
theorem d_Md_sweep_128 : decode b_Md_sweep 128 = .ok (.iconst 0, 1) := by decide +kernel
theorem d_Md_sweep_129 : decode b_Md_sweep 129 = .ok (.istore_n 3, 1) := by decide +kernel
theorem d_Md_sweep_130 : decode b_Md_sweep 130 = .ok (.iload_n 3, 1) := by decide +kernel
theorem d_Md_sweep_131 : decode b_Md_sweep 131 = .ok (.ifCond .eq 94, 3) := by decide +kernel
theorem d_Md_sweep_134 : decode b_Md_sweep 134 = .ok (.aload_n 0, 1) := by decide +kernel
theorem d_Md_sweep_135 : decode b_Md_sweep 135 = .ok (.getfield 37, 3) := by decide +kernel
theorem d_Md_sweep_138 : decode b_Md_sweep 138 = .ok (.iload_n 2, 1) := by decide +kernel
theorem d_Md_sweep_139 : decode b_Md_sweep 139 = .ok (.iaload, 1) := by decide +kernel
theorem d_Md_sweep_140 : decode b_Md_sweep 140 = .ok (.istore 4, 2) := by decide +kernel
theorem d_Md_sweep_142 : decode b_Md_sweep 142 = .ok (.aload_n 0, 1) := by decide +kernel
theorem d_Md_sweep_143 : decode b_Md_sweep 143 = .ok (.getfield 10, 3) := by decide +kernel
theorem d_Md_sweep_146 : decode b_Md_sweep 146 = .ok (.iload_n 2, 1) := by decide +kernel
theorem d_Md_sweep_147 : decode b_Md_sweep 147 = .ok (.aload_n 0, 1) := by decide +kernel
theorem d_Md_sweep_148 : decode b_Md_sweep 148 = .ok (.getfield 10, 3) := by decide +kernel
theorem d_Md_sweep_151 : decode b_Md_sweep 151 = .ok (.iload 4, 2) := by decide +kernel
theorem d_Md_sweep_153 : decode b_Md_sweep 153 = .ok (.baload, 1) := by decide +kernel
theorem d_Md_sweep_154 : decode b_Md_sweep 154 = .ok (.bastore, 1) := by decide +kernel
theorem d_Md_sweep_155 : decode b_Md_sweep 155 = .ok (.aload_n 0, 1) := by decide +kernel
theorem d_Md_sweep_156 : decode b_Md_sweep 156 = .ok (.getfield 14, 3) := by decide +kernel
theorem d_Md_sweep_159 : decode b_Md_sweep 159 = .ok (.iload_n 2, 1) := by decide +kernel
theorem d_Md_sweep_160 : decode b_Md_sweep 160 = .ok (.aload_n 0, 1) := by decide +kernel
theorem d_Md_sweep_161 : decode b_Md_sweep 161 = .ok (.getfield 14, 3) := by decide +kernel
theorem d_Md_sweep_164 : decode b_Md_sweep 164 = .ok (.iload 4, 2) := by decide +kernel
theorem d_Md_sweep_166 : decode b_Md_sweep 166 = .ok (.iaload, 1) := by decide +kernel
theorem d_Md_sweep_167 : decode b_Md_sweep 167 = .ok (.iastore, 1) := by decide +kernel
theorem d_Md_sweep_168 : decode b_Md_sweep 168 = .ok (.aload_n 0, 1) := by decide +kernel
theorem d_Md_sweep_169 : decode b_Md_sweep 169 = .ok (.getfield 18, 3) := by decide +kernel
theorem d_Md_sweep_172 : decode b_Md_sweep 172 = .ok (.iload_n 2, 1) := by decide +kernel
theorem d_Md_sweep_173 : decode b_Md_sweep 173 = .ok (.aload_n 0, 1) := by decide +kernel
theorem d_Md_sweep_174 : decode b_Md_sweep 174 = .ok (.getfield 18, 3) := by decide +kernel
theorem d_Md_sweep_177 : decode b_Md_sweep 177 = .ok (.iload 4, 2) := by decide +kernel
theorem d_Md_sweep_179 : decode b_Md_sweep 179 = .ok (.iaload, 1) := by decide +kernel
theorem d_Md_sweep_180 : decode b_Md_sweep 180 = .ok (.iastore, 1) := by decide +kernel
theorem d_Md_sweep_181 : decode b_Md_sweep 181 = .ok (.aload_n 0, 1) := by decide +kernel
theorem d_Md_sweep_182 : decode b_Md_sweep 182 = .ok (.getfield 21, 3) := by decide +kernel
theorem d_Md_sweep_185 : decode b_Md_sweep 185 = .ok (.iload_n 2, 1) := by decide +kernel
theorem d_Md_sweep_186 : decode b_Md_sweep 186 = .ok (.aload_n 0, 1) := by decide +kernel
theorem d_Md_sweep_187 : decode b_Md_sweep 187 = .ok (.getfield 21, 3) := by decide +kernel
theorem d_Md_sweep_190 : decode b_Md_sweep 190 = .ok (.iload 4, 2) := by decide +kernel
theorem d_Md_sweep_192 : decode b_Md_sweep 192 = .ok (.iaload, 1) := by decide +kernel
theorem d_Md_sweep_193 : decode b_Md_sweep 193 = .ok (.iastore, 1) := by decide +kernel
theorem d_Md_sweep_194 : decode b_Md_sweep 194 = .ok (.aload_n 0, 1) := by decide +kernel
theorem d_Md_sweep_195 : decode b_Md_sweep 195 = .ok (.getfield 24, 3) := by decide +kernel
theorem d_Md_sweep_198 : decode b_Md_sweep 198 = .ok (.iload_n 2, 1) := by decide +kernel
theorem d_Md_sweep_199 : decode b_Md_sweep 199 = .ok (.aload_n 0, 1) := by decide +kernel
theorem d_Md_sweep_200 : decode b_Md_sweep 200 = .ok (.getfield 34, 3) := by decide +kernel
theorem d_Md_sweep_203 : decode b_Md_sweep 203 = .ok (.iload_n 2, 1) := by decide +kernel
theorem d_Md_sweep_204 : decode b_Md_sweep 204 = .ok (.iaload, 1) := by decide +kernel
theorem d_Md_sweep_205 : decode b_Md_sweep 205 = .ok (.iconst 1, 1) := by decide +kernel
theorem d_Md_sweep_206 : decode b_Md_sweep 206 = .ok (.if_icmp .ne 7, 3) := by decide +kernel
theorem d_Md_sweep_209 : decode b_Md_sweep 209 = .ok (.iconst 1, 1) := by decide +kernel
theorem d_Md_sweep_210 : decode b_Md_sweep 210 = .ok (.goto 4, 3) := by decide +kernel
theorem d_Md_sweep_213 : decode b_Md_sweep 213 = .ok (.iconst 0, 1) := by decide +kernel
theorem d_Md_sweep_214 : decode b_Md_sweep 214 = .ok (.bastore, 1) := by decide +kernel
theorem d_Md_sweep_215 : decode b_Md_sweep 215 = .ok (.aload_n 0, 1) := by decide +kernel
theorem d_Md_sweep_216 : decode b_Md_sweep 216 = .ok (.dup, 1) := by decide +kernel
theorem d_Md_sweep_217 : decode b_Md_sweep 217 = .ok (.getfield 78, 3) := by decide +kernel
theorem d_Md_sweep_220 : decode b_Md_sweep 220 = .ok (.iconst 1, 1) := by decide +kernel
theorem d_Md_sweep_221 : decode b_Md_sweep 221 = .ok (.iadd, 1) := by decide +kernel
theorem d_Md_sweep_222 : decode b_Md_sweep 222 = .ok (.putfield 78, 3) := by decide +kernel
theorem d_Md_sweep_225 : decode b_Md_sweep 225 = .ok (.aload_n 0, 1) := by decide +kernel
theorem d_Md_sweep_226 : decode b_Md_sweep 226 = .ok (.getfield 62, 3) := by decide +kernel
theorem d_Md_sweep_229 : decode b_Md_sweep 229 = .ok (.iload_n 2, 1) := by decide +kernel
theorem d_Md_sweep_230 : decode b_Md_sweep 230 = .ok (.iload_n 3, 1) := by decide +kernel
theorem d_Md_sweep_231 : decode b_Md_sweep 231 = .ok (.ifCond .eq 7, 3) := by decide +kernel
theorem d_Md_sweep_234 : decode b_Md_sweep 234 = .ok (.iconst 1, 1) := by decide +kernel
theorem d_Md_sweep_235 : decode b_Md_sweep 235 = .ok (.goto 4, 3) := by decide +kernel
theorem d_Md_sweep_238 : decode b_Md_sweep 238 = .ok (.iconst 0, 1) := by decide +kernel
theorem d_Md_sweep_239 : decode b_Md_sweep 239 = .ok (.iastore, 1) := by decide +kernel
theorem d_Md_sweep_240 : decode b_Md_sweep 240 = .ok (.iinc 2 1, 3) := by decide +kernel
theorem d_Md_sweep_243 : decode b_Md_sweep 243 = .ok (.goto (-156), 3) := by decide +kernel
theorem d_Md_sweep_246 : decode b_Md_sweep 246 = .ok (.iconst 0, 1) := by decide +kernel
theorem d_Md_sweep_247 : decode b_Md_sweep 247 = .ok (.istore_n 2, 1) := by decide +kernel
theorem d_Md_sweep_248 : decode b_Md_sweep 248 = .ok (.iload_n 2, 1) := by decide +kernel
theorem d_Md_sweep_249 : decode b_Md_sweep 249 = .ok (.aload_n 0, 1) := by decide +kernel
theorem d_Md_sweep_250 : decode b_Md_sweep 250 = .ok (.getfield 74, 3) := by decide +kernel
theorem d_Md_sweep_253 : decode b_Md_sweep 253 = .ok (.if_icmp .ge 25, 3) := by decide +kernel
theorem d_Md_sweep_256 : decode b_Md_sweep 256 = .ok (.aload_n 0, 1) := by decide +kernel
theorem d_Md_sweep_257 : decode b_Md_sweep 257 = .ok (.getfield 62, 3) := by decide +kernel
theorem d_Md_sweep_260 : decode b_Md_sweep 260 = .ok (.iload_n 2, 1) := by decide +kernel
theorem d_Md_sweep_261 : decode b_Md_sweep 261 = .ok (.iaload, 1) := by decide +kernel
theorem d_Md_sweep_262 : decode b_Md_sweep 262 = .ok (.ifCond .ne 10, 3) := by decide +kernel
theorem d_Md_sweep_265 : decode b_Md_sweep 265 = .ok (.aload_n 0, 1) := by decide +kernel
theorem d_Md_sweep_266 : decode b_Md_sweep 266 = .ok (.getfield 10, 3) := by decide +kernel
theorem d_Md_sweep_269 : decode b_Md_sweep 269 = .ok (.iload_n 2, 1) := by decide +kernel
theorem d_Md_sweep_270 : decode b_Md_sweep 270 = .ok (.iconst (-1), 1) := by decide +kernel
theorem d_Md_sweep_271 : decode b_Md_sweep 271 = .ok (.bastore, 1) := by decide +kernel
theorem d_Md_sweep_272 : decode b_Md_sweep 272 = .ok (.iinc 2 1, 3) := by decide +kernel
theorem d_Md_sweep_275 : decode b_Md_sweep 275 = .ok (.goto (-27), 3) := by decide +kernel
theorem d_Md_sweep_278 : decode b_Md_sweep 278 = .ok (.aload_n 0, 1) := by decide +kernel
theorem d_Md_sweep_279 : decode b_Md_sweep 279 = .ok (.invokevirtual 173, 3) := by decide +kernel
theorem d_Md_sweep_282 : decode b_Md_sweep 282 = .ok (.iconst 0, 1) := by decide +kernel
theorem d_Md_sweep_283 : decode b_Md_sweep 283 = .ok (.istore_n 2, 1) := by decide +kernel
theorem d_Md_sweep_284 : decode b_Md_sweep 284 = .ok (.iload_n 2, 1) := by decide +kernel
theorem d_Md_sweep_285 : decode b_Md_sweep 285 = .ok (.aload_n 0, 1) := by decide +kernel
theorem d_Md_sweep_286 : decode b_Md_sweep 286 = .ok (.getfield 74, 3) := by decide +kernel
theorem d_Md_sweep_289 : decode b_Md_sweep 289 = .ok (.if_icmp .ge 23, 3) := by decide +kernel
theorem d_Md_sweep_292 : decode b_Md_sweep 292 = .ok (.aload_n 0, 1) := by decide +kernel
theorem d_Md_sweep_293 : decode b_Md_sweep 293 = .ok (.getfield 31, 3) := by decide +kernel
theorem d_Md_sweep_296 : decode b_Md_sweep 296 = .ok (.iload_n 2, 1) := by decide +kernel
theorem d_Md_sweep_297 : decode b_Md_sweep 297 = .ok (.iload_n 2, 1) := by decide +kernel
theorem d_Md_sweep_298 : decode b_Md_sweep 298 = .ok (.iastore, 1) := by decide +kernel
theorem d_Md_sweep_299 : decode b_Md_sweep 299 = .ok (.aload_n 0, 1) := by decide +kernel
theorem d_Md_sweep_300 : decode b_Md_sweep 300 = .ok (.getfield 28, 3) := by decide +kernel
theorem d_Md_sweep_303 : decode b_Md_sweep 303 = .ok (.iload_n 2, 1) := by decide +kernel
theorem d_Md_sweep_304 : decode b_Md_sweep 304 = .ok (.iconst 0, 1) := by decide +kernel
theorem d_Md_sweep_305 : decode b_Md_sweep 305 = .ok (.bastore, 1) := by decide +kernel
theorem d_Md_sweep_306 : decode b_Md_sweep 306 = .ok (.iinc 2 1, 3) := by decide +kernel
theorem d_Md_sweep_309 : decode b_Md_sweep 309 = .ok (.goto (-25), 3) := by decide +kernel
theorem d_Md_sweep_312 : decode b_Md_sweep 312 = .ok (.aload_n 0, 1) := by decide +kernel
theorem d_Md_sweep_313 : decode b_Md_sweep 313 = .ok (.getfield 74, 3) := by decide +kernel
theorem d_Md_sweep_316 : decode b_Md_sweep 316 = .ok (.ifCond .le 31, 3) := by decide +kernel
theorem d_Md_sweep_319 : decode b_Md_sweep 319 = .ok (.aload_n 0, 1) := by decide +kernel
theorem d_Md_sweep_320 : decode b_Md_sweep 320 = .ok (.getfield 10, 3) := by decide +kernel
theorem d_Md_sweep_323 : decode b_Md_sweep 323 = .ok (.aload_n 0, 1) := by decide +kernel
theorem d_Md_sweep_324 : decode b_Md_sweep 324 = .ok (.getfield 74, 3) := by decide +kernel
theorem d_Md_sweep_327 : decode b_Md_sweep 327 = .ok (.iconst 1, 1) := by decide +kernel
theorem d_Md_sweep_328 : decode b_Md_sweep 328 = .ok (.isub, 1) := by decide +kernel
theorem d_Md_sweep_329 : decode b_Md_sweep 329 = .ok (.baload, 1) := by decide +kernel
theorem d_Md_sweep_330 : decode b_Md_sweep 330 = .ok (.iconst (-1), 1) := by decide +kernel
theorem d_Md_sweep_331 : decode b_Md_sweep 331 = .ok (.if_icmp .ne 16, 3) := by decide +kernel
theorem d_Md_sweep_334 : decode b_Md_sweep 334 = .ok (.aload_n 0, 1) := by decide +kernel
theorem d_Md_sweep_335 : decode b_Md_sweep 335 = .ok (.dup, 1) := by decide +kernel
theorem d_Md_sweep_336 : decode b_Md_sweep 336 = .ok (.getfield 74, 3) := by decide +kernel
theorem d_Md_sweep_339 : decode b_Md_sweep 339 = .ok (.iconst 1, 1) := by decide +kernel
theorem d_Md_sweep_340 : decode b_Md_sweep 340 = .ok (.isub, 1) := by decide +kernel
theorem d_Md_sweep_341 : decode b_Md_sweep 341 = .ok (.putfield 74, 3) := by decide +kernel
theorem d_Md_sweep_344 : decode b_Md_sweep 344 = .ok (.goto (-32), 3) := by decide +kernel
theorem d_Md_sweep_347 : decode b_Md_sweep 347 = .ok (.aload_n 0, 1) := by decide +kernel
theorem d_Md_sweep_348 : decode b_Md_sweep 348 = .ok (.iconst 0, 1) := by decide +kernel
theorem d_Md_sweep_349 : decode b_Md_sweep 349 = .ok (.putfield 95, 3) := by decide +kernel
theorem d_Md_sweep_352 : decode b_Md_sweep 352 = .ok (.aload_n 0, 1) := by decide +kernel
theorem d_Md_sweep_353 : decode b_Md_sweep 353 = .ok (.iconst 0, 1) := by decide +kernel
theorem d_Md_sweep_354 : decode b_Md_sweep 354 = .ok (.putfield 129, 3) := by decide +kernel
theorem d_Md_sweep_357 : decode b_Md_sweep 357 = .ok (.iload_n 1, 1) := by decide +kernel
theorem d_Md_sweep_358 : decode b_Md_sweep 358 = .ok (.aload_n 0, 1) := by decide +kernel
theorem d_Md_sweep_359 : decode b_Md_sweep 359 = .ok (.getfield 78, 3) := by decide +kernel
theorem d_Md_sweep_362 : decode b_Md_sweep 362 = .ok (.isub, 1) := by decide +kernel
theorem d_Md_sweep_363 : decode b_Md_sweep 363 = .ok (.ireturn, 1) := by decide +kernel
theorem d_Md_clear_0 : decode b_Md_clear 0 = .ok (.aload_n 0, 1) := by decide +kernel
theorem d_Md_clear_1 : decode b_Md_clear 1 = .ok (.getfield 78, 3) := by decide +kernel
theorem d_Md_clear_4 : decode b_Md_clear 4 = .ok (.istore_n 1, 1) := by decide +kernel
theorem d_Md_clear_5 : decode b_Md_clear 5 = .ok (.iconst 0, 1) := by decide +kernel
theorem d_Md_clear_6 : decode b_Md_clear 6 = .ok (.istore_n 2, 1) := by decide +kernel
theorem d_Md_clear_7 : decode b_Md_clear 7 = .ok (.iload_n 2, 1) := by decide +kernel
theorem d_Md_clear_8 : decode b_Md_clear 8 = .ok (.aload_n 0, 1) := by decide +kernel
theorem d_Md_clear_9 : decode b_Md_clear 9 = .ok (.getfield 74, 3) := by decide +kernel
theorem d_Md_clear_12 : decode b_Md_clear 12 = .ok (.if_icmp .ge 16, 3) := by decide +kernel
theorem d_Md_clear_15 : decode b_Md_clear 15 = .ok (.aload_n 0, 1) := by decide +kernel
theorem d_Md_clear_16 : decode b_Md_clear 16 = .ok (.getfield 10, 3) := by decide +kernel
theorem d_Md_clear_19 : decode b_Md_clear 19 = .ok (.iload_n 2, 1) := by decide +kernel
theorem d_Md_clear_20 : decode b_Md_clear 20 = .ok (.iconst (-1), 1) := by decide +kernel
theorem d_Md_clear_21 : decode b_Md_clear 21 = .ok (.bastore, 1) := by decide +kernel
theorem d_Md_clear_22 : decode b_Md_clear 22 = .ok (.iinc 2 1, 3) := by decide +kernel
theorem d_Md_clear_25 : decode b_Md_clear 25 = .ok (.goto (-18), 3) := by decide +kernel
theorem d_Md_clear_28 : decode b_Md_clear 28 = .ok (.aload_n 0, 1) := by decide +kernel
theorem d_Md_clear_29 : decode b_Md_clear 29 = .ok (.iconst 0, 1) := by decide +kernel
theorem d_Md_clear_30 : decode b_Md_clear 30 = .ok (.putfield 74, 3) := by decide +kernel
theorem d_Md_clear_33 : decode b_Md_clear 33 = .ok (.aload_n 0, 1) := by decide +kernel
theorem d_Md_clear_34 : decode b_Md_clear 34 = .ok (.iconst 0, 1) := by decide +kernel
theorem d_Md_clear_35 : decode b_Md_clear 35 = .ok (.putfield 78, 3) := by decide +kernel
theorem d_Md_clear_38 : decode b_Md_clear 38 = .ok (.aload_n 0, 1) := by decide +kernel
theorem d_Md_clear_39 : decode b_Md_clear 39 = .ok (.iconst 0, 1) := by decide +kernel
theorem d_Md_clear_40 : decode b_Md_clear 40 = .ok (.putfield 84, 3) := by decide +kernel
theorem d_Md_clear_43 : decode b_Md_clear 43 = .ok (.aload_n 0, 1) := by decide +kernel
theorem d_Md_clear_44 : decode b_Md_clear 44 = .ok (.iconst 0, 1) := by decide +kernel
theorem d_Md_clear_45 : decode b_Md_clear 45 = .ok (.putfield 95, 3) := by decide +kernel
theorem d_Md_clear_48 : decode b_Md_clear 48 = .ok (.aload_n 0, 1) := by decide +kernel
theorem d_Md_clear_49 : decode b_Md_clear 49 = .ok (.iconst 0, 1) := by decide +kernel
theorem d_Md_clear_50 : decode b_Md_clear 50 = .ok (.putfield 129, 3) := by decide +kernel
theorem d_Md_clear_53 : decode b_Md_clear 53 = .ok (.iload_n 1, 1) := by decide +kernel
theorem d_Md_clear_54 : decode b_Md_clear 54 = .ok (.ireturn, 1) := by decide +kernel
theorem d_Md_count_0 : decode b_Md_count 0 = .ok (.iconst 0, 1) := by decide +kernel
theorem d_Md_count_1 : decode b_Md_count 1 = .ok (.istore_n 2, 1) := by decide +kernel
theorem d_Md_count_2 : decode b_Md_count 2 = .ok (.iload_n 1, 1) := by decide +kernel
theorem d_Md_count_3 : decode b_Md_count 3 = .ok (.tableswitch 161 0 5 #[37, 42, 47, 52, 111, 116], 37) := by decide +kernel
theorem d_Md_count_40 : decode b_Md_count 40 = .ok (.aload_n 0, 1) := by decide +kernel
theorem d_Md_count_41 : decode b_Md_count 41 = .ok (.getfield 78, 3) := by decide +kernel
theorem d_Md_count_44 : decode b_Md_count 44 = .ok (.ireturn, 1) := by decide +kernel
theorem d_Md_count_45 : decode b_Md_count 45 = .ok (.aload_n 0, 1) := by decide +kernel
theorem d_Md_count_46 : decode b_Md_count 46 = .ok (.getfield 84, 3) := by decide +kernel
theorem d_Md_count_49 : decode b_Md_count 49 = .ok (.ireturn, 1) := by decide +kernel
theorem d_Md_count_50 : decode b_Md_count 50 = .ok (.aload_n 0, 1) := by decide +kernel
theorem d_Md_count_51 : decode b_Md_count 51 = .ok (.getfield 95, 3) := by decide +kernel
theorem d_Md_count_54 : decode b_Md_count 54 = .ok (.ireturn, 1) := by decide +kernel
theorem d_Md_count_55 : decode b_Md_count 55 = .ok (.iconst 0, 1) := by decide +kernel
theorem d_Md_count_56 : decode b_Md_count 56 = .ok (.istore_n 3, 1) := by decide +kernel
theorem d_Md_count_57 : decode b_Md_count 57 = .ok (.iload_n 3, 1) := by decide +kernel
theorem d_Md_count_58 : decode b_Md_count 58 = .ok (.aload_n 0, 1) := by decide +kernel
theorem d_Md_count_59 : decode b_Md_count 59 = .ok (.getfield 74, 3) := by decide +kernel
theorem d_Md_count_62 : decode b_Md_count 62 = .ok (.if_icmp .ge 50, 3) := by decide +kernel
theorem d_Md_count_65 : decode b_Md_count 65 = .ok (.iload_n 2, 1) := by decide +kernel
theorem d_Md_count_66 : decode b_Md_count 66 = .ok (.aload_n 0, 1) := by decide +kernel
theorem d_Md_count_67 : decode b_Md_count 67 = .ok (.getfield 10, 3) := by decide +kernel
theorem d_Md_count_70 : decode b_Md_count 70 = .ok (.iload_n 3, 1) := by decide +kernel
theorem d_Md_count_71 : decode b_Md_count 71 = .ok (.baload, 1) := by decide +kernel
theorem d_Md_count_72 : decode b_Md_count 72 = .ok (.iconst (-1), 1) := by decide +kernel
theorem d_Md_count_73 : decode b_Md_count 73 = .ok (.if_icmp .eq 30, 3) := by decide +kernel
theorem d_Md_count_76 : decode b_Md_count 76 = .ok (.aload_n 0, 1) := by decide +kernel
theorem d_Md_count_77 : decode b_Md_count 77 = .ok (.getfield 31, 3) := by decide +kernel
theorem d_Md_count_80 : decode b_Md_count 80 = .ok (.iload_n 3, 1) := by decide +kernel
theorem d_Md_count_81 : decode b_Md_count 81 = .ok (.iaload, 1) := by decide +kernel
theorem d_Md_count_82 : decode b_Md_count 82 = .ok (.iload_n 3, 1) := by decide +kernel
theorem d_Md_count_83 : decode b_Md_count 83 = .ok (.if_icmp .ne 20, 3) := by decide +kernel
theorem d_Md_count_86 : decode b_Md_count 86 = .ok (.aload_n 0, 1) := by decide +kernel
theorem d_Md_count_87 : decode b_Md_count 87 = .ok (.getfield 10, 3) := by decide +kernel
theorem d_Md_count_90 : decode b_Md_count 90 = .ok (.aload_n 0, 1) := by decide +kernel
theorem d_Md_count_91 : decode b_Md_count 91 = .ok (.iload_n 3, 1) := by decide +kernel
theorem d_Md_count_92 : decode b_Md_count 92 = .ok (.invokevirtual 123, 3) := by decide +kernel
theorem d_Md_count_95 : decode b_Md_count 95 = .ok (.baload, 1) := by decide +kernel
theorem d_Md_count_96 : decode b_Md_count 96 = .ok (.ifCond .ne 7, 3) := by decide +kernel
theorem d_Md_count_99 : decode b_Md_count 99 = .ok (.iconst 1, 1) := by decide +kernel
theorem d_Md_count_100 : decode b_Md_count 100 = .ok (.goto 4, 3) := by decide +kernel
theorem d_Md_count_103 : decode b_Md_count 103 = .ok (.iconst 0, 1) := by decide +kernel
theorem d_Md_count_104 : decode b_Md_count 104 = .ok (.iadd, 1) := by decide +kernel
theorem d_Md_count_105 : decode b_Md_count 105 = .ok (.istore_n 2, 1) := by decide +kernel
theorem d_Md_count_106 : decode b_Md_count 106 = .ok (.iinc 3 1, 3) := by decide +kernel
theorem d_Md_count_109 : decode b_Md_count 109 = .ok (.goto (-52), 3) := by decide +kernel
theorem d_Md_count_112 : decode b_Md_count 112 = .ok (.iload_n 2, 1) := by decide +kernel
theorem d_Md_count_113 : decode b_Md_count 113 = .ok (.ireturn, 1) := by decide +kernel
theorem d_Md_count_114 : decode b_Md_count 114 = .ok (.aload_n 0, 1) := by decide +kernel
theorem d_Md_count_115 : decode b_Md_count 115 = .ok (.getfield 129, 3) := by decide +kernel
theorem d_Md_count_118 : decode b_Md_count 118 = .ok (.ireturn, 1) := by decide +kernel
theorem d_Md_count_119 : decode b_Md_count 119 = .ok (.iconst 0, 1) := by decide +kernel
theorem d_Md_count_120 : decode b_Md_count 120 = .ok (.istore_n 3, 1) := by decide +kernel
theorem d_Md_count_121 : decode b_Md_count 121 = .ok (.iload_n 3, 1) := by decide +kernel
theorem d_Md_count_122 : decode b_Md_count 122 = .ok (.aload_n 0, 1) := by decide +kernel
theorem d_Md_count_123 : decode b_Md_count 123 = .ok (.getfield 74, 3) := by decide +kernel
theorem d_Md_count_126 : decode b_Md_count 126 = .ok (.if_icmp .ge 36, 3) := by decide +kernel
theorem d_Md_count_129 : decode b_Md_count 129 = .ok (.iload_n 2, 1) := by decide +kernel
theorem d_Md_count_130 : decode b_Md_count 130 = .ok (.aload_n 0, 1) := by decide +kernel
theorem d_Md_count_131 : decode b_Md_count 131 = .ok (.getfield 10, 3) := by decide +kernel
theorem d_Md_count_134 : decode b_Md_count 134 = .ok (.iload_n 3, 1) := by decide +kernel
theorem d_Md_count_135 : decode b_Md_count 135 = .ok (.baload, 1) := by decide +kernel
theorem d_Md_count_136 : decode b_Md_count 136 = .ok (.iconst (-1), 1) := by decide +kernel
theorem d_Md_count_137 : decode b_Md_count 137 = .ok (.if_icmp .eq 16, 3) := by decide +kernel
theorem d_Md_count_140 : decode b_Md_count 140 = .ok (.aload_n 0, 1) := by decide +kernel
theorem d_Md_count_141 : decode b_Md_count 141 = .ok (.getfield 28, 3) := by decide +kernel
theorem d_Md_count_144 : decode b_Md_count 144 = .ok (.iload_n 3, 1) := by decide +kernel
theorem d_Md_count_145 : decode b_Md_count 145 = .ok (.baload, 1) := by decide +kernel
theorem d_Md_count_146 : decode b_Md_count 146 = .ok (.ifCond .eq 7, 3) := by decide +kernel
theorem d_Md_count_149 : decode b_Md_count 149 = .ok (.iconst 1, 1) := by decide +kernel
theorem d_Md_count_150 : decode b_Md_count 150 = .ok (.goto 4, 3) := by decide +kernel
theorem d_Md_count_153 : decode b_Md_count 153 = .ok (.iconst 0, 1) := by decide +kernel
theorem d_Md_count_154 : decode b_Md_count 154 = .ok (.iadd, 1) := by decide +kernel
theorem d_Md_count_155 : decode b_Md_count 155 = .ok (.istore_n 2, 1) := by decide +kernel
theorem d_Md_count_156 : decode b_Md_count 156 = .ok (.iinc 3 1, 3) := by decide +kernel
theorem d_Md_count_159 : decode b_Md_count 159 = .ok (.goto (-38), 3) := by decide +kernel
theorem d_Md_count_162 : decode b_Md_count 162 = .ok (.iload_n 2, 1) := by decide +kernel
theorem d_Md_count_163 : decode b_Md_count 163 = .ok (.ireturn, 1) := by decide +kernel
theorem d_Md_count_164 : decode b_Md_count 164 = .ok (.iconst (-1), 1) := by decide +kernel
theorem d_Md_count_165 : decode b_Md_count 165 = .ok (.ireturn, 1) := by decide +kernel
