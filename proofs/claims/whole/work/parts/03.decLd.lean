theorem d_Ld_init_0 : decode b_Ld_init 0 = .ok (.aload_n 0, 1) := by decide +kernel
theorem d_Ld_init_1 : decode b_Ld_init 1 = .ok (.invokespecial 3, 3) := by decide +kernel
theorem d_Ld_init_4 : decode b_Ld_init 4 = .ok (.aload_n 0, 1) := by decide +kernel
theorem d_Ld_init_5 : decode b_Ld_init 5 = .ok (.bipush 16, 2) := by decide +kernel
theorem d_Ld_init_7 : decode b_Ld_init 7 = .ok (.newarray .int, 2) := by decide +kernel
theorem d_Ld_init_9 : decode b_Ld_init 9 = .ok (.putfield 9, 3) := by decide +kernel
theorem d_Ld_init_12 : decode b_Ld_init 12 = .ok (.aload_n 0, 1) := by decide +kernel
theorem d_Ld_init_13 : decode b_Ld_init 13 = .ok (.iconst 0, 1) := by decide +kernel
theorem d_Ld_init_14 : decode b_Ld_init 14 = .ok (.putfield 15, 3) := by decide +kernel
theorem d_Ld_init_17 : decode b_Ld_init 17 = .ok (.return_, 1) := by decide +kernel
theorem d_Ld_empty_0 : decode b_Ld_empty 0 = .ok (.aload_n 0, 1) := by decide +kernel
theorem d_Ld_empty_1 : decode b_Ld_empty 1 = .ok (.iconst 0, 1) := by decide +kernel
theorem d_Ld_empty_2 : decode b_Ld_empty 2 = .ok (.putfield 15, 3) := by decide +kernel
theorem d_Ld_empty_5 : decode b_Ld_empty 5 = .ok (.return_, 1) := by decide +kernel
theorem d_Ld_append_0 : decode b_Ld_append 0 = .ok (.aload_n 0, 1) := by decide +kernel
theorem d_Ld_append_1 : decode b_Ld_append 1 = .ok (.aload_n 0, 1) := by decide +kernel
theorem d_Ld_append_2 : decode b_Ld_append 2 = .ok (.getfield 9, 3) := by decide +kernel
theorem d_Ld_append_5 : decode b_Ld_append 5 = .ok (.aload_n 0, 1) := by decide +kernel
theorem d_Ld_append_6 : decode b_Ld_append 6 = .ok (.getfield 15, 3) := by decide +kernel
theorem d_Ld_append_9 : decode b_Ld_append 9 = .ok (.iconst 1, 1) := by decide +kernel
theorem d_Ld_append_10 : decode b_Ld_append 10 = .ok (.iadd, 1) := by decide +kernel
theorem d_Ld_append_11 : decode b_Ld_append 11 = .ok (.invokestatic 19, 3) := by decide +kernel
theorem d_Ld_append_14 : decode b_Ld_append 14 = .ok (.putfield 9, 3) := by decide +kernel
theorem d_Ld_append_17 : decode b_Ld_append 17 = .ok (.aload_n 0, 1) := by decide +kernel
theorem d_Ld_append_18 : decode b_Ld_append 18 = .ok (.getfield 9, 3) := by decide +kernel
theorem d_Ld_append_21 : decode b_Ld_append 21 = .ok (.aload_n 0, 1) := by decide +kernel
theorem d_Ld_append_22 : decode b_Ld_append 22 = .ok (.getfield 15, 3) := by decide +kernel
theorem d_Ld_append_25 : decode b_Ld_append 25 = .ok (.iload_n 1, 1) := by decide +kernel
theorem d_Ld_append_26 : decode b_Ld_append 26 = .ok (.iastore, 1) := by decide +kernel
theorem d_Ld_append_27 : decode b_Ld_append 27 = .ok (.aload_n 0, 1) := by decide +kernel
theorem d_Ld_append_28 : decode b_Ld_append 28 = .ok (.dup, 1) := by decide +kernel
theorem d_Ld_append_29 : decode b_Ld_append 29 = .ok (.getfield 15, 3) := by decide +kernel
theorem d_Ld_append_32 : decode b_Ld_append 32 = .ok (.iconst 1, 1) := by decide +kernel
theorem d_Ld_append_33 : decode b_Ld_append 33 = .ok (.iadd, 1) := by decide +kernel
theorem d_Ld_append_34 : decode b_Ld_append 34 = .ok (.putfield 15, 3) := by decide +kernel
theorem d_Ld_append_37 : decode b_Ld_append 37 = .ok (.return_, 1) := by decide +kernel
theorem d_Ld_numbered_0 : decode b_Ld_numbered 0 = .ok (.iload_n 1, 1) := by decide +kernel
theorem d_Ld_numbered_1 : decode b_Ld_numbered 1 = .ok (.ifCond .lt 20, 3) := by decide +kernel
theorem d_Ld_numbered_4 : decode b_Ld_numbered 4 = .ok (.iload_n 1, 1) := by decide +kernel
theorem d_Ld_numbered_5 : decode b_Ld_numbered 5 = .ok (.aload_n 0, 1) := by decide +kernel
theorem d_Ld_numbered_6 : decode b_Ld_numbered 6 = .ok (.getfield 15, 3) := by decide +kernel
theorem d_Ld_numbered_9 : decode b_Ld_numbered 9 = .ok (.if_icmp .ge 12, 3) := by decide +kernel
theorem d_Ld_numbered_12 : decode b_Ld_numbered 12 = .ok (.aload_n 0, 1) := by decide +kernel
theorem d_Ld_numbered_13 : decode b_Ld_numbered 13 = .ok (.getfield 9, 3) := by decide +kernel
theorem d_Ld_numbered_16 : decode b_Ld_numbered 16 = .ok (.iload_n 1, 1) := by decide +kernel
theorem d_Ld_numbered_17 : decode b_Ld_numbered 17 = .ok (.iaload, 1) := by decide +kernel
theorem d_Ld_numbered_18 : decode b_Ld_numbered 18 = .ok (.goto 4, 3) := by decide +kernel
theorem d_Ld_numbered_21 : decode b_Ld_numbered 21 = .ok (.iconst (-1), 1) := by decide +kernel
theorem d_Ld_numbered_22 : decode b_Ld_numbered 22 = .ok (.ireturn, 1) := by decide +kernel
theorem d_Ld_become_0 : decode b_Ld_become 0 = .ok (.aload_n 0, 1) := by decide +kernel
theorem d_Ld_become_1 : decode b_Ld_become 1 = .ok (.aload_n 0, 1) := by decide +kernel
theorem d_Ld_become_2 : decode b_Ld_become 2 = .ok (.getfield 9, 3) := by decide +kernel
theorem d_Ld_become_5 : decode b_Ld_become 5 = .ok (.aload_n 1, 1) := by decide +kernel
theorem d_Ld_become_6 : decode b_Ld_become 6 = .ok (.getfield 15, 3) := by decide +kernel
theorem d_Ld_become_9 : decode b_Ld_become 9 = .ok (.invokestatic 19, 3) := by decide +kernel
theorem d_Ld_become_12 : decode b_Ld_become 12 = .ok (.putfield 9, 3) := by decide +kernel
theorem d_Ld_become_15 : decode b_Ld_become 15 = .ok (.aload_n 1, 1) := by decide +kernel
theorem d_Ld_become_16 : decode b_Ld_become 16 = .ok (.getfield 9, 3) := by decide +kernel
theorem d_Ld_become_19 : decode b_Ld_become 19 = .ok (.iconst 0, 1) := by decide +kernel
theorem d_Ld_become_20 : decode b_Ld_become 20 = .ok (.aload_n 0, 1) := by decide +kernel
theorem d_Ld_become_21 : decode b_Ld_become 21 = .ok (.getfield 9, 3) := by decide +kernel
theorem d_Ld_become_24 : decode b_Ld_become 24 = .ok (.iconst 0, 1) := by decide +kernel
theorem d_Ld_become_25 : decode b_Ld_become 25 = .ok (.aload_n 1, 1) := by decide +kernel
theorem d_Ld_become_26 : decode b_Ld_become 26 = .ok (.getfield 15, 3) := by decide +kernel
theorem d_Ld_become_29 : decode b_Ld_become 29 = .ok (.invokestatic 23, 3) := by decide +kernel
theorem d_Ld_become_32 : decode b_Ld_become 32 = .ok (.aload_n 0, 1) := by decide +kernel
theorem d_Ld_become_33 : decode b_Ld_become 33 = .ok (.aload_n 1, 1) := by decide +kernel
theorem d_Ld_become_34 : decode b_Ld_become 34 = .ok (.getfield 15, 3) := by decide +kernel
theorem d_Ld_become_37 : decode b_Ld_become 37 = .ok (.putfield 15, 3) := by decide +kernel
theorem d_Ld_become_40 : decode b_Ld_become 40 = .ok (.return_, 1) := by decide +kernel
