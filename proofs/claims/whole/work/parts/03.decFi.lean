theorem d_Fi_init_0 : decode b_Fi_init 0 = .ok (.aload_n 0, 1) := by decide +kernel
theorem d_Fi_init_1 : decode b_Fi_init 1 = .ok (.invokespecial 3, 3) := by decide +kernel
theorem d_Fi_init_4 : decode b_Fi_init 4 = .ok (.aload_n 0, 1) := by decide +kernel
theorem d_Fi_init_5 : decode b_Fi_init 5 = .ok (.bipush 16, 2) := by decide +kernel
theorem d_Fi_init_7 : decode b_Fi_init 7 = .ok (.newarray .int, 2) := by decide +kernel
theorem d_Fi_init_9 : decode b_Fi_init 9 = .ok (.putfield 9, 3) := by decide +kernel
theorem d_Fi_init_12 : decode b_Fi_init 12 = .ok (.aload_n 0, 1) := by decide +kernel
theorem d_Fi_init_13 : decode b_Fi_init 13 = .ok (.bipush 16, 2) := by decide +kernel
theorem d_Fi_init_15 : decode b_Fi_init 15 = .ok (.newarray .int, 2) := by decide +kernel
theorem d_Fi_init_17 : decode b_Fi_init 17 = .ok (.putfield 15, 3) := by decide +kernel
theorem d_Fi_init_20 : decode b_Fi_init 20 = .ok (.aload_n 0, 1) := by decide +kernel
theorem d_Fi_init_21 : decode b_Fi_init 21 = .ok (.iconst 0, 1) := by decide +kernel
theorem d_Fi_init_22 : decode b_Fi_init 22 = .ok (.putfield 18, 3) := by decide +kernel
theorem d_Fi_init_25 : decode b_Fi_init 25 = .ok (.aload_n 0, 1) := by decide +kernel
theorem d_Fi_init_26 : decode b_Fi_init 26 = .ok (.bipush 16, 2) := by decide +kernel
theorem d_Fi_init_28 : decode b_Fi_init 28 = .ok (.newarray .int, 2) := by decide +kernel
theorem d_Fi_init_30 : decode b_Fi_init 30 = .ok (.putfield 22, 3) := by decide +kernel
theorem d_Fi_init_33 : decode b_Fi_init 33 = .ok (.aload_n 0, 1) := by decide +kernel
theorem d_Fi_init_34 : decode b_Fi_init 34 = .ok (.bipush 16, 2) := by decide +kernel
theorem d_Fi_init_36 : decode b_Fi_init 36 = .ok (.newarray .int, 2) := by decide +kernel
theorem d_Fi_init_38 : decode b_Fi_init 38 = .ok (.putfield 25, 3) := by decide +kernel
theorem d_Fi_init_41 : decode b_Fi_init 41 = .ok (.aload_n 0, 1) := by decide +kernel
theorem d_Fi_init_42 : decode b_Fi_init 42 = .ok (.iconst 0, 1) := by decide +kernel
theorem d_Fi_init_43 : decode b_Fi_init 43 = .ok (.putfield 28, 3) := by decide +kernel
theorem d_Fi_init_46 : decode b_Fi_init 46 = .ok (.return_, 1) := by decide +kernel
theorem d_Fi_takeIn_0 : decode b_Fi_takeIn 0 = .ok (.aload_n 0, 1) := by decide +kernel
theorem d_Fi_takeIn_1 : decode b_Fi_takeIn 1 = .ok (.getfield 18, 3) := by decide +kernel
theorem d_Fi_takeIn_4 : decode b_Fi_takeIn 4 = .ok (.istore_n 2, 1) := by decide +kernel
theorem d_Fi_takeIn_5 : decode b_Fi_takeIn 5 = .ok (.aload_n 0, 1) := by decide +kernel
theorem d_Fi_takeIn_6 : decode b_Fi_takeIn 6 = .ok (.aload_n 0, 1) := by decide +kernel
theorem d_Fi_takeIn_7 : decode b_Fi_takeIn 7 = .ok (.getfield 9, 3) := by decide +kernel
theorem d_Fi_takeIn_10 : decode b_Fi_takeIn 10 = .ok (.aload_n 0, 1) := by decide +kernel
theorem d_Fi_takeIn_11 : decode b_Fi_takeIn 11 = .ok (.getfield 18, 3) := by decide +kernel
theorem d_Fi_takeIn_14 : decode b_Fi_takeIn 14 = .ok (.aload_n 1, 1) := by decide +kernel
theorem d_Fi_takeIn_15 : decode b_Fi_takeIn 15 = .ok (.getfield 31, 3) := by decide +kernel
theorem d_Fi_takeIn_18 : decode b_Fi_takeIn 18 = .ok (.iadd, 1) := by decide +kernel
theorem d_Fi_takeIn_19 : decode b_Fi_takeIn 19 = .ok (.invokestatic 36, 3) := by decide +kernel
theorem d_Fi_takeIn_22 : decode b_Fi_takeIn 22 = .ok (.putfield 9, 3) := by decide +kernel
theorem d_Fi_takeIn_25 : decode b_Fi_takeIn 25 = .ok (.aload_n 0, 1) := by decide +kernel
theorem d_Fi_takeIn_26 : decode b_Fi_takeIn 26 = .ok (.aload_n 0, 1) := by decide +kernel
theorem d_Fi_takeIn_27 : decode b_Fi_takeIn 27 = .ok (.getfield 15, 3) := by decide +kernel
theorem d_Fi_takeIn_30 : decode b_Fi_takeIn 30 = .ok (.aload_n 0, 1) := by decide +kernel
theorem d_Fi_takeIn_31 : decode b_Fi_takeIn 31 = .ok (.getfield 18, 3) := by decide +kernel
theorem d_Fi_takeIn_34 : decode b_Fi_takeIn 34 = .ok (.aload_n 1, 1) := by decide +kernel
theorem d_Fi_takeIn_35 : decode b_Fi_takeIn 35 = .ok (.getfield 31, 3) := by decide +kernel
theorem d_Fi_takeIn_38 : decode b_Fi_takeIn 38 = .ok (.iadd, 1) := by decide +kernel
theorem d_Fi_takeIn_39 : decode b_Fi_takeIn 39 = .ok (.invokestatic 36, 3) := by decide +kernel
theorem d_Fi_takeIn_42 : decode b_Fi_takeIn 42 = .ok (.putfield 15, 3) := by decide +kernel
theorem d_Fi_takeIn_45 : decode b_Fi_takeIn 45 = .ok (.aload_n 1, 1) := by decide +kernel
theorem d_Fi_takeIn_46 : decode b_Fi_takeIn 46 = .ok (.getfield 40, 3) := by decide +kernel
theorem d_Fi_takeIn_49 : decode b_Fi_takeIn 49 = .ok (.iconst 0, 1) := by decide +kernel
theorem d_Fi_takeIn_50 : decode b_Fi_takeIn 50 = .ok (.aload_n 0, 1) := by decide +kernel
theorem d_Fi_takeIn_51 : decode b_Fi_takeIn 51 = .ok (.getfield 9, 3) := by decide +kernel
theorem d_Fi_takeIn_54 : decode b_Fi_takeIn 54 = .ok (.iload_n 2, 1) := by decide +kernel
theorem d_Fi_takeIn_55 : decode b_Fi_takeIn 55 = .ok (.aload_n 1, 1) := by decide +kernel
theorem d_Fi_takeIn_56 : decode b_Fi_takeIn 56 = .ok (.getfield 31, 3) := by decide +kernel
theorem d_Fi_takeIn_59 : decode b_Fi_takeIn 59 = .ok (.invokestatic 41, 3) := by decide +kernel
theorem d_Fi_takeIn_62 : decode b_Fi_takeIn 62 = .ok (.aload_n 1, 1) := by decide +kernel
theorem d_Fi_takeIn_63 : decode b_Fi_takeIn 63 = .ok (.getfield 47, 3) := by decide +kernel
theorem d_Fi_takeIn_66 : decode b_Fi_takeIn 66 = .ok (.iconst 0, 1) := by decide +kernel
theorem d_Fi_takeIn_67 : decode b_Fi_takeIn 67 = .ok (.aload_n 0, 1) := by decide +kernel
theorem d_Fi_takeIn_68 : decode b_Fi_takeIn 68 = .ok (.getfield 15, 3) := by decide +kernel
theorem d_Fi_takeIn_71 : decode b_Fi_takeIn 71 = .ok (.iload_n 2, 1) := by decide +kernel
theorem d_Fi_takeIn_72 : decode b_Fi_takeIn 72 = .ok (.aload_n 1, 1) := by decide +kernel
theorem d_Fi_takeIn_73 : decode b_Fi_takeIn 73 = .ok (.getfield 31, 3) := by decide +kernel
theorem d_Fi_takeIn_76 : decode b_Fi_takeIn 76 = .ok (.invokestatic 41, 3) := by decide +kernel
theorem d_Fi_takeIn_79 : decode b_Fi_takeIn 79 = .ok (.aload_n 0, 1) := by decide +kernel
theorem d_Fi_takeIn_80 : decode b_Fi_takeIn 80 = .ok (.dup, 1) := by decide +kernel
theorem d_Fi_takeIn_81 : decode b_Fi_takeIn 81 = .ok (.getfield 18, 3) := by decide +kernel
theorem d_Fi_takeIn_84 : decode b_Fi_takeIn 84 = .ok (.aload_n 1, 1) := by decide +kernel
theorem d_Fi_takeIn_85 : decode b_Fi_takeIn 85 = .ok (.getfield 31, 3) := by decide +kernel
theorem d_Fi_takeIn_88 : decode b_Fi_takeIn 88 = .ok (.iadd, 1) := by decide +kernel
theorem d_Fi_takeIn_89 : decode b_Fi_takeIn 89 = .ok (.putfield 18, 3) := by decide +kernel
theorem d_Fi_takeIn_92 : decode b_Fi_takeIn 92 = .ok (.iload_n 2, 1) := by decide +kernel
theorem d_Fi_takeIn_93 : decode b_Fi_takeIn 93 = .ok (.ireturn, 1) := by decide +kernel
theorem d_Fi_beginMove_0 : decode b_Fi_beginMove 0 = .ok (.aload_n 0, 1) := by decide +kernel
theorem d_Fi_beginMove_1 : decode b_Fi_beginMove 1 = .ok (.aload_n 0, 1) := by decide +kernel
theorem d_Fi_beginMove_2 : decode b_Fi_beginMove 2 = .ok (.getfield 22, 3) := by decide +kernel
theorem d_Fi_beginMove_5 : decode b_Fi_beginMove 5 = .ok (.aload_n 0, 1) := by decide +kernel
theorem d_Fi_beginMove_6 : decode b_Fi_beginMove 6 = .ok (.getfield 18, 3) := by decide +kernel
theorem d_Fi_beginMove_9 : decode b_Fi_beginMove 9 = .ok (.invokestatic 36, 3) := by decide +kernel
theorem d_Fi_beginMove_12 : decode b_Fi_beginMove 12 = .ok (.putfield 22, 3) := by decide +kernel
theorem d_Fi_beginMove_15 : decode b_Fi_beginMove 15 = .ok (.aload_n 0, 1) := by decide +kernel
theorem d_Fi_beginMove_16 : decode b_Fi_beginMove 16 = .ok (.aload_n 0, 1) := by decide +kernel
theorem d_Fi_beginMove_17 : decode b_Fi_beginMove 17 = .ok (.getfield 25, 3) := by decide +kernel
theorem d_Fi_beginMove_20 : decode b_Fi_beginMove 20 = .ok (.aload_n 0, 1) := by decide +kernel
theorem d_Fi_beginMove_21 : decode b_Fi_beginMove 21 = .ok (.getfield 18, 3) := by decide +kernel
theorem d_Fi_beginMove_24 : decode b_Fi_beginMove 24 = .ok (.invokestatic 36, 3) := by decide +kernel
theorem d_Fi_beginMove_27 : decode b_Fi_beginMove 27 = .ok (.putfield 25, 3) := by decide +kernel
theorem d_Fi_beginMove_30 : decode b_Fi_beginMove 30 = .ok (.aload_n 0, 1) := by decide +kernel
theorem d_Fi_beginMove_31 : decode b_Fi_beginMove 31 = .ok (.iconst 0, 1) := by decide +kernel
theorem d_Fi_beginMove_32 : decode b_Fi_beginMove 32 = .ok (.putfield 28, 3) := by decide +kernel
theorem d_Fi_beginMove_35 : decode b_Fi_beginMove 35 = .ok (.return_, 1) := by decide +kernel
theorem d_Fi_moveOver_0 : decode b_Fi_moveOver 0 = .ok (.aload_n 0, 1) := by decide +kernel
theorem d_Fi_moveOver_1 : decode b_Fi_moveOver 1 = .ok (.getfield 28, 3) := by decide +kernel
theorem d_Fi_moveOver_4 : decode b_Fi_moveOver 4 = .ok (.istore 4, 2) := by decide +kernel
theorem d_Fi_moveOver_6 : decode b_Fi_moveOver 6 = .ok (.iconst 0, 1) := by decide +kernel
theorem d_Fi_moveOver_7 : decode b_Fi_moveOver 7 = .ok (.istore 5, 2) := by decide +kernel
theorem d_Fi_moveOver_9 : decode b_Fi_moveOver 9 = .ok (.iload 5, 2) := by decide +kernel
theorem d_Fi_moveOver_11 : decode b_Fi_moveOver 11 = .ok (.iload_n 2, 1) := by decide +kernel
theorem d_Fi_moveOver_12 : decode b_Fi_moveOver 12 = .ok (.if_icmp .ge 49, 3) := by decide +kernel
theorem d_Fi_moveOver_15 : decode b_Fi_moveOver 15 = .ok (.aload_n 0, 1) := by decide +kernel
theorem d_Fi_moveOver_16 : decode b_Fi_moveOver 16 = .ok (.getfield 22, 3) := by decide +kernel
theorem d_Fi_moveOver_19 : decode b_Fi_moveOver 19 = .ok (.iload 4, 2) := by decide +kernel
theorem d_Fi_moveOver_21 : decode b_Fi_moveOver 21 = .ok (.iload 5, 2) := by decide +kernel
theorem d_Fi_moveOver_23 : decode b_Fi_moveOver 23 = .ok (.iadd, 1) := by decide +kernel
theorem d_Fi_moveOver_24 : decode b_Fi_moveOver 24 = .ok (.aload_n 0, 1) := by decide +kernel
theorem d_Fi_moveOver_25 : decode b_Fi_moveOver 25 = .ok (.getfield 9, 3) := by decide +kernel
theorem d_Fi_moveOver_28 : decode b_Fi_moveOver 28 = .ok (.iload_n 1, 1) := by decide +kernel
theorem d_Fi_moveOver_29 : decode b_Fi_moveOver 29 = .ok (.iload 5, 2) := by decide +kernel
theorem d_Fi_moveOver_31 : decode b_Fi_moveOver 31 = .ok (.iadd, 1) := by decide +kernel
theorem d_Fi_moveOver_32 : decode b_Fi_moveOver 32 = .ok (.iaload, 1) := by decide +kernel
theorem d_Fi_moveOver_33 : decode b_Fi_moveOver 33 = .ok (.iastore, 1) := by decide +kernel
theorem d_Fi_moveOver_34 : decode b_Fi_moveOver 34 = .ok (.aload_n 0, 1) := by decide +kernel
theorem d_Fi_moveOver_35 : decode b_Fi_moveOver 35 = .ok (.getfield 25, 3) := by decide +kernel
theorem d_Fi_moveOver_38 : decode b_Fi_moveOver 38 = .ok (.iload 4, 2) := by decide +kernel
theorem d_Fi_moveOver_40 : decode b_Fi_moveOver 40 = .ok (.iload 5, 2) := by decide +kernel
theorem d_Fi_moveOver_42 : decode b_Fi_moveOver 42 = .ok (.iadd, 1) := by decide +kernel
theorem d_Fi_moveOver_43 : decode b_Fi_moveOver 43 = .ok (.aload_n 3, 1) := by decide +kernel
theorem d_Fi_moveOver_44 : decode b_Fi_moveOver 44 = .ok (.aload_n 0, 1) := by decide +kernel
theorem d_Fi_moveOver_45 : decode b_Fi_moveOver 45 = .ok (.getfield 15, 3) := by decide +kernel
theorem d_Fi_moveOver_48 : decode b_Fi_moveOver 48 = .ok (.iload_n 1, 1) := by decide +kernel
theorem d_Fi_moveOver_49 : decode b_Fi_moveOver 49 = .ok (.iload 5, 2) := by decide +kernel
theorem d_Fi_moveOver_51 : decode b_Fi_moveOver 51 = .ok (.iadd, 1) := by decide +kernel
theorem d_Fi_moveOver_52 : decode b_Fi_moveOver 52 = .ok (.iaload, 1) := by decide +kernel
theorem d_Fi_moveOver_53 : decode b_Fi_moveOver 53 = .ok (.iaload, 1) := by decide +kernel
theorem d_Fi_moveOver_54 : decode b_Fi_moveOver 54 = .ok (.iastore, 1) := by decide +kernel
theorem d_Fi_moveOver_55 : decode b_Fi_moveOver 55 = .ok (.iinc 5 1, 3) := by decide +kernel
theorem d_Fi_moveOver_58 : decode b_Fi_moveOver 58 = .ok (.goto (-49), 3) := by decide +kernel
theorem d_Fi_moveOver_61 : decode b_Fi_moveOver 61 = .ok (.aload_n 0, 1) := by decide +kernel
theorem d_Fi_moveOver_62 : decode b_Fi_moveOver 62 = .ok (.dup, 1) := by decide +kernel
theorem d_Fi_moveOver_63 : decode b_Fi_moveOver 63 = .ok (.getfield 28, 3) := by decide +kernel
theorem d_Fi_moveOver_66 : decode b_Fi_moveOver 66 = .ok (.iload_n 2, 1) := by decide +kernel
theorem d_Fi_moveOver_67 : decode b_Fi_moveOver 67 = .ok (.iadd, 1) := by decide +kernel
theorem d_Fi_moveOver_68 : decode b_Fi_moveOver 68 = .ok (.putfield 28, 3) := by decide +kernel
theorem d_Fi_moveOver_71 : decode b_Fi_moveOver 71 = .ok (.iload 4, 2) := by decide +kernel
theorem d_Fi_moveOver_73 : decode b_Fi_moveOver 73 = .ok (.ireturn, 1) := by decide +kernel
theorem d_Fi_endMove_0 : decode b_Fi_endMove 0 = .ok (.aload_n 0, 1) := by decide +kernel
theorem d_Fi_endMove_1 : decode b_Fi_endMove 1 = .ok (.getfield 9, 3) := by decide +kernel
theorem d_Fi_endMove_4 : decode b_Fi_endMove 4 = .ok (.astore_n 1, 1) := by decide +kernel
theorem d_Fi_endMove_5 : decode b_Fi_endMove 5 = .ok (.aload_n 0, 1) := by decide +kernel
theorem d_Fi_endMove_6 : decode b_Fi_endMove 6 = .ok (.getfield 15, 3) := by decide +kernel
theorem d_Fi_endMove_9 : decode b_Fi_endMove 9 = .ok (.astore_n 2, 1) := by decide +kernel
theorem d_Fi_endMove_10 : decode b_Fi_endMove 10 = .ok (.aload_n 0, 1) := by decide +kernel
theorem d_Fi_endMove_11 : decode b_Fi_endMove 11 = .ok (.aload_n 0, 1) := by decide +kernel
theorem d_Fi_endMove_12 : decode b_Fi_endMove 12 = .ok (.getfield 22, 3) := by decide +kernel
theorem d_Fi_endMove_15 : decode b_Fi_endMove 15 = .ok (.putfield 9, 3) := by decide +kernel
theorem d_Fi_endMove_18 : decode b_Fi_endMove 18 = .ok (.aload_n 0, 1) := by decide +kernel
theorem d_Fi_endMove_19 : decode b_Fi_endMove 19 = .ok (.aload_n 0, 1) := by decide +kernel
theorem d_Fi_endMove_20 : decode b_Fi_endMove 20 = .ok (.getfield 25, 3) := by decide +kernel
theorem d_Fi_endMove_23 : decode b_Fi_endMove 23 = .ok (.putfield 15, 3) := by decide +kernel
theorem d_Fi_endMove_26 : decode b_Fi_endMove 26 = .ok (.aload_n 0, 1) := by decide +kernel
theorem d_Fi_endMove_27 : decode b_Fi_endMove 27 = .ok (.aload_n 0, 1) := by decide +kernel
theorem d_Fi_endMove_28 : decode b_Fi_endMove 28 = .ok (.getfield 28, 3) := by decide +kernel
theorem d_Fi_endMove_31 : decode b_Fi_endMove 31 = .ok (.putfield 18, 3) := by decide +kernel
theorem d_Fi_endMove_34 : decode b_Fi_endMove 34 = .ok (.aload_n 0, 1) := by decide +kernel
theorem d_Fi_endMove_35 : decode b_Fi_endMove 35 = .ok (.aload_n 1, 1) := by decide +kernel
theorem d_Fi_endMove_36 : decode b_Fi_endMove 36 = .ok (.putfield 22, 3) := by decide +kernel
theorem d_Fi_endMove_39 : decode b_Fi_endMove 39 = .ok (.aload_n 0, 1) := by decide +kernel
theorem d_Fi_endMove_40 : decode b_Fi_endMove 40 = .ok (.aload_n 2, 1) := by decide +kernel
theorem d_Fi_endMove_41 : decode b_Fi_endMove 41 = .ok (.putfield 25, 3) := by decide +kernel
theorem d_Fi_endMove_44 : decode b_Fi_endMove 44 = .ok (.return_, 1) := by decide +kernel
