theorem d_Pr_init_0 : decode b_Pr_init 0 = .ok (.aload_n 0, 1) := by decide +kernel
theorem d_Pr_init_1 : decode b_Pr_init 1 = .ok (.invokespecial 3, 3) := by decide +kernel
theorem d_Pr_init_4 : decode b_Pr_init 4 = .ok (.aload_n 0, 1) := by decide +kernel
theorem d_Pr_init_5 : decode b_Pr_init 5 = .ok (.bipush 16, 2) := by decide +kernel
theorem d_Pr_init_7 : decode b_Pr_init 7 = .ok (.newarray .int, 2) := by decide +kernel
theorem d_Pr_init_9 : decode b_Pr_init 9 = .ok (.putfield 9, 3) := by decide +kernel
theorem d_Pr_init_12 : decode b_Pr_init 12 = .ok (.aload_n 0, 1) := by decide +kernel
theorem d_Pr_init_13 : decode b_Pr_init 13 = .ok (.bipush 16, 2) := by decide +kernel
theorem d_Pr_init_15 : decode b_Pr_init 15 = .ok (.newarray .int, 2) := by decide +kernel
theorem d_Pr_init_17 : decode b_Pr_init 17 = .ok (.putfield 15, 3) := by decide +kernel
theorem d_Pr_init_20 : decode b_Pr_init 20 = .ok (.aload_n 0, 1) := by decide +kernel
theorem d_Pr_init_21 : decode b_Pr_init 21 = .ok (.iconst 0, 1) := by decide +kernel
theorem d_Pr_init_22 : decode b_Pr_init 22 = .ok (.putfield 18, 3) := by decide +kernel
theorem d_Pr_init_25 : decode b_Pr_init 25 = .ok (.return_, 1) := by decide +kernel
theorem d_Pr_append_0 : decode b_Pr_append 0 = .ok (.aload_n 0, 1) := by decide +kernel
theorem d_Pr_append_1 : decode b_Pr_append 1 = .ok (.aload_n 0, 1) := by decide +kernel
theorem d_Pr_append_2 : decode b_Pr_append 2 = .ok (.getfield 9, 3) := by decide +kernel
theorem d_Pr_append_5 : decode b_Pr_append 5 = .ok (.aload_n 0, 1) := by decide +kernel
theorem d_Pr_append_6 : decode b_Pr_append 6 = .ok (.getfield 18, 3) := by decide +kernel
theorem d_Pr_append_9 : decode b_Pr_append 9 = .ok (.iconst 1, 1) := by decide +kernel
theorem d_Pr_append_10 : decode b_Pr_append 10 = .ok (.iadd, 1) := by decide +kernel
theorem d_Pr_append_11 : decode b_Pr_append 11 = .ok (.invokestatic 26, 3) := by decide +kernel
theorem d_Pr_append_14 : decode b_Pr_append 14 = .ok (.putfield 9, 3) := by decide +kernel
theorem d_Pr_append_17 : decode b_Pr_append 17 = .ok (.aload_n 0, 1) := by decide +kernel
theorem d_Pr_append_18 : decode b_Pr_append 18 = .ok (.aload_n 0, 1) := by decide +kernel
theorem d_Pr_append_19 : decode b_Pr_append 19 = .ok (.getfield 15, 3) := by decide +kernel
theorem d_Pr_append_22 : decode b_Pr_append 22 = .ok (.aload_n 0, 1) := by decide +kernel
theorem d_Pr_append_23 : decode b_Pr_append 23 = .ok (.getfield 18, 3) := by decide +kernel
theorem d_Pr_append_26 : decode b_Pr_append 26 = .ok (.iconst 1, 1) := by decide +kernel
theorem d_Pr_append_27 : decode b_Pr_append 27 = .ok (.iadd, 1) := by decide +kernel
theorem d_Pr_append_28 : decode b_Pr_append 28 = .ok (.invokestatic 26, 3) := by decide +kernel
theorem d_Pr_append_31 : decode b_Pr_append 31 = .ok (.putfield 15, 3) := by decide +kernel
theorem d_Pr_append_34 : decode b_Pr_append 34 = .ok (.aload_n 0, 1) := by decide +kernel
theorem d_Pr_append_35 : decode b_Pr_append 35 = .ok (.getfield 9, 3) := by decide +kernel
theorem d_Pr_append_38 : decode b_Pr_append 38 = .ok (.aload_n 0, 1) := by decide +kernel
theorem d_Pr_append_39 : decode b_Pr_append 39 = .ok (.getfield 18, 3) := by decide +kernel
theorem d_Pr_append_42 : decode b_Pr_append 42 = .ok (.iload_n 1, 1) := by decide +kernel
theorem d_Pr_append_43 : decode b_Pr_append 43 = .ok (.iastore, 1) := by decide +kernel
theorem d_Pr_append_44 : decode b_Pr_append 44 = .ok (.aload_n 0, 1) := by decide +kernel
theorem d_Pr_append_45 : decode b_Pr_append 45 = .ok (.getfield 15, 3) := by decide +kernel
theorem d_Pr_append_48 : decode b_Pr_append 48 = .ok (.aload_n 0, 1) := by decide +kernel
theorem d_Pr_append_49 : decode b_Pr_append 49 = .ok (.getfield 18, 3) := by decide +kernel
theorem d_Pr_append_52 : decode b_Pr_append 52 = .ok (.iload_n 2, 1) := by decide +kernel
theorem d_Pr_append_53 : decode b_Pr_append 53 = .ok (.iastore, 1) := by decide +kernel
theorem d_Pr_append_54 : decode b_Pr_append 54 = .ok (.aload_n 0, 1) := by decide +kernel
theorem d_Pr_append_55 : decode b_Pr_append 55 = .ok (.dup, 1) := by decide +kernel
theorem d_Pr_append_56 : decode b_Pr_append 56 = .ok (.getfield 18, 3) := by decide +kernel
theorem d_Pr_append_59 : decode b_Pr_append 59 = .ok (.iconst 1, 1) := by decide +kernel
theorem d_Pr_append_60 : decode b_Pr_append 60 = .ok (.iadd, 1) := by decide +kernel
theorem d_Pr_append_61 : decode b_Pr_append 61 = .ok (.putfield 18, 3) := by decide +kernel
theorem d_Pr_append_64 : decode b_Pr_append 64 = .ok (.return_, 1) := by decide +kernel
theorem d_Pr_startWith_0 : decode b_Pr_startWith 0 = .ok (.aload_n 0, 1) := by decide +kernel
theorem d_Pr_startWith_1 : decode b_Pr_startWith 1 = .ok (.iconst 0, 1) := by decide +kernel
theorem d_Pr_startWith_2 : decode b_Pr_startWith 2 = .ok (.putfield 18, 3) := by decide +kernel
theorem d_Pr_startWith_5 : decode b_Pr_startWith 5 = .ok (.aload_n 0, 1) := by decide +kernel
theorem d_Pr_startWith_6 : decode b_Pr_startWith 6 = .ok (.iload_n 1, 1) := by decide +kernel
theorem d_Pr_startWith_7 : decode b_Pr_startWith 7 = .ok (.iload_n 2, 1) := by decide +kernel
theorem d_Pr_startWith_8 : decode b_Pr_startWith 8 = .ok (.invokevirtual 22, 3) := by decide +kernel
theorem d_Pr_startWith_11 : decode b_Pr_startWith 11 = .ok (.return_, 1) := by decide +kernel
