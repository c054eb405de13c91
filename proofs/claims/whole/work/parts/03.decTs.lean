theorem d_Ts_withRoom_0 : decode b_Ts_withRoom 0 = .ok (.iload_n 1, 1) := by decide +kernel
theorem d_Ts_withRoom_1 : decode b_Ts_withRoom 1 = .ok (.aload_n 0, 1) := by decide +kernel
theorem d_Ts_withRoom_2 : decode b_Ts_withRoom 2 = .ok (.arraylength, 1) := by decide +kernel
theorem d_Ts_withRoom_3 : decode b_Ts_withRoom 3 = .ok (.if_icmp .gt 5, 3) := by decide +kernel
theorem d_Ts_withRoom_6 : decode b_Ts_withRoom 6 = .ok (.aload_n 0, 1) := by decide +kernel
theorem d_Ts_withRoom_7 : decode b_Ts_withRoom 7 = .ok (.areturn, 1) := by decide +kernel
theorem d_Ts_withRoom_8 : decode b_Ts_withRoom 8 = .ok (.aload_n 0, 1) := by decide +kernel
theorem d_Ts_withRoom_9 : decode b_Ts_withRoom 9 = .ok (.iload_n 1, 1) := by decide +kernel
theorem d_Ts_withRoom_10 : decode b_Ts_withRoom 10 = .ok (.iconst 2, 1) := by decide +kernel
theorem d_Ts_withRoom_11 : decode b_Ts_withRoom 11 = .ok (.aload_n 0, 1) := by decide +kernel
theorem d_Ts_withRoom_12 : decode b_Ts_withRoom 12 = .ok (.arraylength, 1) := by decide +kernel
theorem d_Ts_withRoom_13 : decode b_Ts_withRoom 13 = .ok (.imul, 1) := by decide +kernel
theorem d_Ts_withRoom_14 : decode b_Ts_withRoom 14 = .ok (.invokestatic 181, 3) := by decide +kernel
theorem d_Ts_withRoom_17 : decode b_Ts_withRoom 17 = .ok (.invokestatic 186, 3) := by decide +kernel
theorem d_Ts_withRoom_20 : decode b_Ts_withRoom 20 = .ok (.areturn, 1) := by decide +kernel
theorem d_Ts_rank_0 : decode b_Ts_rank 0 = .ok (.iload_n 0, 1) := by decide +kernel
theorem d_Ts_rank_1 : decode b_Ts_rank 1 = .ok (.ifCond .le 7, 3) := by decide +kernel
theorem d_Ts_rank_4 : decode b_Ts_rank 4 = .ok (.iload_n 0, 1) := by decide +kernel
theorem d_Ts_rank_5 : decode b_Ts_rank 5 = .ok (.goto 8, 3) := by decide +kernel
theorem d_Ts_rank_8 : decode b_Ts_rank 8 = .ok (.sipush 9999, 3) := by decide +kernel
theorem d_Ts_rank_11 : decode b_Ts_rank 11 = .ok (.iload_n 0, 1) := by decide +kernel
theorem d_Ts_rank_12 : decode b_Ts_rank 12 = .ok (.isub, 1) := by decide +kernel
theorem d_Ts_rank_13 : decode b_Ts_rank 13 = .ok (.ireturn, 1) := by decide +kernel
theorem d_Ts_wipe_0 : decode b_Ts_wipe 0 = .ok (.iconst 0, 1) := by decide +kernel
theorem d_Ts_wipe_1 : decode b_Ts_wipe 1 = .ok (.istore_n 2, 1) := by decide +kernel
theorem d_Ts_wipe_2 : decode b_Ts_wipe 2 = .ok (.iload_n 2, 1) := by decide +kernel
theorem d_Ts_wipe_3 : decode b_Ts_wipe 3 = .ok (.iload_n 1, 1) := by decide +kernel
theorem d_Ts_wipe_4 : decode b_Ts_wipe 4 = .ok (.if_icmp .ge 19, 3) := by decide +kernel
theorem d_Ts_wipe_7 : decode b_Ts_wipe 7 = .ok (.iload_n 2, 1) := by decide +kernel
theorem d_Ts_wipe_8 : decode b_Ts_wipe 8 = .ok (.aload_n 0, 1) := by decide +kernel
theorem d_Ts_wipe_9 : decode b_Ts_wipe 9 = .ok (.arraylength, 1) := by decide +kernel
theorem d_Ts_wipe_10 : decode b_Ts_wipe 10 = .ok (.if_icmp .ge 13, 3) := by decide +kernel
theorem d_Ts_wipe_13 : decode b_Ts_wipe 13 = .ok (.aload_n 0, 1) := by decide +kernel
theorem d_Ts_wipe_14 : decode b_Ts_wipe 14 = .ok (.iload_n 2, 1) := by decide +kernel
theorem d_Ts_wipe_15 : decode b_Ts_wipe 15 = .ok (.iconst 0, 1) := by decide +kernel
theorem d_Ts_wipe_16 : decode b_Ts_wipe 16 = .ok (.iastore, 1) := by decide +kernel
theorem d_Ts_wipe_17 : decode b_Ts_wipe 17 = .ok (.iinc 2 1, 3) := by decide +kernel
theorem d_Ts_wipe_20 : decode b_Ts_wipe 20 = .ok (.goto (-18), 3) := by decide +kernel
theorem d_Ts_wipe_23 : decode b_Ts_wipe 23 = .ok (.return_, 1) := by decide +kernel
theorem d_Ts_rootOf_0 : decode b_Ts_rootOf 0 = .ok (.iload_n 1, 1) := by decide +kernel
theorem d_Ts_rootOf_1 : decode b_Ts_rootOf 1 = .ok (.istore_n 2, 1) := by decide +kernel
theorem d_Ts_rootOf_2 : decode b_Ts_rootOf 2 = .ok (.iconst 0, 1) := by decide +kernel
theorem d_Ts_rootOf_3 : decode b_Ts_rootOf 3 = .ok (.istore_n 3, 1) := by decide +kernel
theorem d_Ts_rootOf_4 : decode b_Ts_rootOf 4 = .ok (.iload_n 3, 1) := by decide +kernel
theorem d_Ts_rootOf_5 : decode b_Ts_rootOf 5 = .ok (.iload_n 1, 1) := by decide +kernel
theorem d_Ts_rootOf_6 : decode b_Ts_rootOf 6 = .ok (.if_icmp .ge 28, 3) := by decide +kernel
theorem d_Ts_rootOf_9 : decode b_Ts_rootOf 9 = .ok (.aload_n 0, 1) := by decide +kernel
theorem d_Ts_rootOf_10 : decode b_Ts_rootOf 10 = .ok (.iload_n 2, 1) := by decide +kernel
theorem d_Ts_rootOf_11 : decode b_Ts_rootOf 11 = .ok (.iaload, 1) := by decide +kernel
theorem d_Ts_rootOf_12 : decode b_Ts_rootOf 12 = .ok (.iload_n 2, 1) := by decide +kernel
theorem d_Ts_rootOf_13 : decode b_Ts_rootOf 13 = .ok (.if_icmp .eq 21, 3) := by decide +kernel
theorem d_Ts_rootOf_16 : decode b_Ts_rootOf 16 = .ok (.aload_n 0, 1) := by decide +kernel
theorem d_Ts_rootOf_17 : decode b_Ts_rootOf 17 = .ok (.iload_n 2, 1) := by decide +kernel
theorem d_Ts_rootOf_18 : decode b_Ts_rootOf 18 = .ok (.aload_n 0, 1) := by decide +kernel
theorem d_Ts_rootOf_19 : decode b_Ts_rootOf 19 = .ok (.aload_n 0, 1) := by decide +kernel
theorem d_Ts_rootOf_20 : decode b_Ts_rootOf 20 = .ok (.iload_n 2, 1) := by decide +kernel
theorem d_Ts_rootOf_21 : decode b_Ts_rootOf 21 = .ok (.iaload, 1) := by decide +kernel
theorem d_Ts_rootOf_22 : decode b_Ts_rootOf 22 = .ok (.iaload, 1) := by decide +kernel
theorem d_Ts_rootOf_23 : decode b_Ts_rootOf 23 = .ok (.iastore, 1) := by decide +kernel
theorem d_Ts_rootOf_24 : decode b_Ts_rootOf 24 = .ok (.aload_n 0, 1) := by decide +kernel
theorem d_Ts_rootOf_25 : decode b_Ts_rootOf 25 = .ok (.iload_n 2, 1) := by decide +kernel
theorem d_Ts_rootOf_26 : decode b_Ts_rootOf 26 = .ok (.iaload, 1) := by decide +kernel
theorem d_Ts_rootOf_27 : decode b_Ts_rootOf 27 = .ok (.istore_n 2, 1) := by decide +kernel
theorem d_Ts_rootOf_28 : decode b_Ts_rootOf 28 = .ok (.iinc 3 1, 3) := by decide +kernel
theorem d_Ts_rootOf_31 : decode b_Ts_rootOf 31 = .ok (.goto (-27), 3) := by decide +kernel
theorem d_Ts_rootOf_34 : decode b_Ts_rootOf 34 = .ok (.iload_n 2, 1) := by decide +kernel
theorem d_Ts_rootOf_35 : decode b_Ts_rootOf 35 = .ok (.ireturn, 1) := by decide +kernel
theorem d_Ts_init_0 : decode b_Ts_init 0 = .ok (.aload_n 0, 1) := by decide +kernel
theorem d_Ts_init_1 : decode b_Ts_init 1 = .ok (.invokespecial 3, 3) := by decide +kernel
theorem d_Ts_init_4 : decode b_Ts_init 4 = .ok (.aload_n 0, 1) := by decide +kernel
theorem d_Ts_init_5 : decode b_Ts_init 5 = .ok (.new 9, 3) := by decide +kernel
theorem d_Ts_init_8 : decode b_Ts_init 8 = .ok (.dup, 1) := by decide +kernel
theorem d_Ts_init_9 : decode b_Ts_init 9 = .ok (.invokespecial 11, 3) := by decide +kernel
theorem d_Ts_init_12 : decode b_Ts_init 12 = .ok (.putfield 12, 3) := by decide +kernel
theorem d_Ts_init_15 : decode b_Ts_init 15 = .ok (.aload_n 0, 1) := by decide +kernel
theorem d_Ts_init_16 : decode b_Ts_init 16 = .ok (.new 16, 3) := by decide +kernel
theorem d_Ts_init_19 : decode b_Ts_init 19 = .ok (.dup, 1) := by decide +kernel
theorem d_Ts_init_20 : decode b_Ts_init 20 = .ok (.invokespecial 18, 3) := by decide +kernel
theorem d_Ts_init_23 : decode b_Ts_init 23 = .ok (.putfield 19, 3) := by decide +kernel
theorem d_Ts_init_26 : decode b_Ts_init 26 = .ok (.aload_n 0, 1) := by decide +kernel
theorem d_Ts_init_27 : decode b_Ts_init 27 = .ok (.new 23, 3) := by decide +kernel
theorem d_Ts_init_30 : decode b_Ts_init 30 = .ok (.dup, 1) := by decide +kernel
theorem d_Ts_init_31 : decode b_Ts_init 31 = .ok (.aload_n 0, 1) := by decide +kernel
theorem d_Ts_init_32 : decode b_Ts_init 32 = .ok (.getfield 12, 3) := by decide +kernel
theorem d_Ts_init_35 : decode b_Ts_init 35 = .ok (.invokespecial 25, 3) := by decide +kernel
theorem d_Ts_init_38 : decode b_Ts_init 38 = .ok (.putfield 28, 3) := by decide +kernel
theorem d_Ts_init_41 : decode b_Ts_init 41 = .ok (.aload_n 0, 1) := by decide +kernel
theorem d_Ts_init_42 : decode b_Ts_init 42 = .ok (.new 32, 3) := by decide +kernel
theorem d_Ts_init_45 : decode b_Ts_init 45 = .ok (.dup, 1) := by decide +kernel
theorem d_Ts_init_46 : decode b_Ts_init 46 = .ok (.aload_n 0, 1) := by decide +kernel
theorem d_Ts_init_47 : decode b_Ts_init 47 = .ok (.getfield 12, 3) := by decide +kernel
theorem d_Ts_init_50 : decode b_Ts_init 50 = .ok (.invokespecial 34, 3) := by decide +kernel
theorem d_Ts_init_53 : decode b_Ts_init 53 = .ok (.putfield 35, 3) := by decide +kernel
theorem d_Ts_init_56 : decode b_Ts_init 56 = .ok (.aload_n 0, 1) := by decide +kernel
theorem d_Ts_init_57 : decode b_Ts_init 57 = .ok (.new 39, 3) := by decide +kernel
theorem d_Ts_init_60 : decode b_Ts_init 60 = .ok (.dup, 1) := by decide +kernel
theorem d_Ts_init_61 : decode b_Ts_init 61 = .ok (.invokespecial 41, 3) := by decide +kernel
theorem d_Ts_init_64 : decode b_Ts_init 64 = .ok (.putfield 42, 3) := by decide +kernel
theorem d_Ts_init_67 : decode b_Ts_init 67 = .ok (.return_, 1) := by decide +kernel
theorem d_Ts_variable_0 : decode b_Ts_variable 0 = .ok (.aload_n 0, 1) := by decide +kernel
theorem d_Ts_variable_1 : decode b_Ts_variable 1 = .ok (.getfield 12, 3) := by decide +kernel
theorem d_Ts_variable_4 : decode b_Ts_variable 4 = .ok (.iconst 0, 1) := by decide +kernel
theorem d_Ts_variable_5 : decode b_Ts_variable 5 = .ok (.iconst 0, 1) := by decide +kernel
theorem d_Ts_variable_6 : decode b_Ts_variable 6 = .ok (.invokevirtual 46, 3) := by decide +kernel
theorem d_Ts_variable_9 : decode b_Ts_variable 9 = .ok (.ireturn, 1) := by decide +kernel
theorem d_Ts_number_0 : decode b_Ts_number 0 = .ok (.aload_n 0, 1) := by decide +kernel
theorem d_Ts_number_1 : decode b_Ts_number 1 = .ok (.getfield 12, 3) := by decide +kernel
theorem d_Ts_number_4 : decode b_Ts_number 4 = .ok (.iconst 1, 1) := by decide +kernel
theorem d_Ts_number_5 : decode b_Ts_number 5 = .ok (.iload_n 1, 1) := by decide +kernel
theorem d_Ts_number_6 : decode b_Ts_number 6 = .ok (.invokevirtual 46, 3) := by decide +kernel
theorem d_Ts_number_9 : decode b_Ts_number 9 = .ok (.ireturn, 1) := by decide +kernel
theorem d_Ts_isAtom_0 : decode b_Ts_isAtom 0 = .ok (.iload_n 0, 1) := by decide +kernel
theorem d_Ts_isAtom_1 : decode b_Ts_isAtom 1 = .ok (.ifCond .lt 14, 3) := by decide +kernel
theorem d_Ts_isAtom_4 : decode b_Ts_isAtom 4 = .ok (.iload_n 0, 1) := by decide +kernel
theorem d_Ts_isAtom_5 : decode b_Ts_isAtom 5 = .ok (.sipush 8191, 3) := by decide +kernel
theorem d_Ts_isAtom_8 : decode b_Ts_isAtom 8 = .ok (.if_icmp .gt 7, 3) := by decide +kernel
theorem d_Ts_isAtom_11 : decode b_Ts_isAtom 11 = .ok (.iconst 1, 1) := by decide +kernel
theorem d_Ts_isAtom_12 : decode b_Ts_isAtom 12 = .ok (.goto 4, 3) := by decide +kernel
theorem d_Ts_isAtom_15 : decode b_Ts_isAtom 15 = .ok (.iconst 0, 1) := by decide +kernel
theorem d_Ts_isAtom_16 : decode b_Ts_isAtom 16 = .ok (.ireturn, 1) := by decide +kernel
theorem d_Ts_atom_0 : decode b_Ts_atom 0 = .ok (.iload_n 1, 1) := by decide +kernel
theorem d_Ts_atom_1 : decode b_Ts_atom 1 = .ok (.invokestatic 50, 3) := by decide +kernel
theorem d_Ts_atom_4 : decode b_Ts_atom 4 = .ok (.ifCond .ne 5, 3) := by decide +kernel
theorem d_Ts_atom_7 : decode b_Ts_atom 7 = .ok (.iconst (-1), 1) := by decide +kernel
theorem d_Ts_atom_8 : decode b_Ts_atom 8 = .ok (.ireturn, 1) := by decide +kernel
theorem d_Ts_atom_9 : decode b_Ts_atom 9 = .ok (.aload_n 0, 1) := by decide +kernel
theorem d_Ts_atom_10 : decode b_Ts_atom 10 = .ok (.getfield 12, 3) := by decide +kernel
theorem d_Ts_atom_13 : decode b_Ts_atom 13 = .ok (.iconst 2, 1) := by decide +kernel
theorem d_Ts_atom_14 : decode b_Ts_atom 14 = .ok (.iload_n 1, 1) := by decide +kernel
theorem d_Ts_atom_15 : decode b_Ts_atom 15 = .ok (.invokevirtual 46, 3) := by decide +kernel
theorem d_Ts_atom_18 : decode b_Ts_atom 18 = .ok (.ireturn, 1) := by decide +kernel
theorem d_Ts_isFeature_0 : decode b_Ts_isFeature 0 = .ok (.iload_n 0, 1) := by decide +kernel
theorem d_Ts_isFeature_1 : decode b_Ts_isFeature 1 = .ok (.ifCond .le 18, 3) := by decide +kernel
theorem d_Ts_isFeature_4 : decode b_Ts_isFeature 4 = .ok (.iload_n 0, 1) := by decide +kernel
theorem d_Ts_isFeature_5 : decode b_Ts_isFeature 5 = .ok (.sipush 9999, 3) := by decide +kernel
theorem d_Ts_isFeature_8 : decode b_Ts_isFeature 8 = .ok (.if_icmp .gt 7, 3) := by decide +kernel
theorem d_Ts_isFeature_11 : decode b_Ts_isFeature 11 = .ok (.iconst 1, 1) := by decide +kernel
theorem d_Ts_isFeature_12 : decode b_Ts_isFeature 12 = .ok (.goto 23, 3) := by decide +kernel
theorem d_Ts_isFeature_15 : decode b_Ts_isFeature 15 = .ok (.iconst 0, 1) := by decide +kernel
theorem d_Ts_isFeature_16 : decode b_Ts_isFeature 16 = .ok (.goto 19, 3) := by decide +kernel
theorem d_Ts_isFeature_19 : decode b_Ts_isFeature 19 = .ok (.iload_n 0, 1) := by decide +kernel
theorem d_Ts_isFeature_20 : decode b_Ts_isFeature 20 = .ok (.ifCond .ge 14, 3) := by decide +kernel
theorem d_Ts_isFeature_23 : decode b_Ts_isFeature 23 = .ok (.iload_n 0, 1) := by decide +kernel
theorem d_Ts_isFeature_24 : decode b_Ts_isFeature 24 = .ok (.sipush (-8192), 3) := by decide +kernel
theorem d_Ts_isFeature_27 : decode b_Ts_isFeature 27 = .ok (.if_icmp .lt 7, 3) := by decide +kernel
theorem d_Ts_isFeature_30 : decode b_Ts_isFeature 30 = .ok (.iconst 1, 1) := by decide +kernel
theorem d_Ts_isFeature_31 : decode b_Ts_isFeature 31 = .ok (.goto 4, 3) := by decide +kernel
theorem d_Ts_isFeature_34 : decode b_Ts_isFeature 34 = .ok (.iconst 0, 1) := by decide +kernel
theorem d_Ts_isFeature_35 : decode b_Ts_isFeature 35 = .ok (.ireturn, 1) := by decide +kernel
theorem d_Ts_push_0 : decode b_Ts_push 0 = .ok (.aload_n 0, 1) := by decide +kernel
theorem d_Ts_push_1 : decode b_Ts_push 1 = .ok (.getfield 12, 3) := by decide +kernel
theorem d_Ts_push_4 : decode b_Ts_push 4 = .ok (.iload_n 2, 1) := by decide +kernel
theorem d_Ts_push_5 : decode b_Ts_push 5 = .ok (.invokevirtual 54, 3) := by decide +kernel
theorem d_Ts_push_8 : decode b_Ts_push 8 = .ok (.ifCond .eq 21, 3) := by decide +kernel
theorem d_Ts_push_11 : decode b_Ts_push 11 = .ok (.iload_n 1, 1) := by decide +kernel
theorem d_Ts_push_12 : decode b_Ts_push 12 = .ok (.invokestatic 57, 3) := by decide +kernel
theorem d_Ts_push_15 : decode b_Ts_push 15 = .ok (.ifCond .eq 14, 3) := by decide +kernel
theorem d_Ts_push_18 : decode b_Ts_push 18 = .ok (.aload_n 0, 1) := by decide +kernel
theorem d_Ts_push_19 : decode b_Ts_push 19 = .ok (.getfield 19, 3) := by decide +kernel
theorem d_Ts_push_22 : decode b_Ts_push 22 = .ok (.iload_n 1, 1) := by decide +kernel
theorem d_Ts_push_23 : decode b_Ts_push 23 = .ok (.invokevirtual 60, 3) := by decide +kernel
theorem d_Ts_push_26 : decode b_Ts_push 26 = .ok (.ifCond .eq 5, 3) := by decide +kernel
theorem d_Ts_push_29 : decode b_Ts_push 29 = .ok (.iconst (-1), 1) := by decide +kernel
theorem d_Ts_push_30 : decode b_Ts_push 30 = .ok (.ireturn, 1) := by decide +kernel
theorem d_Ts_push_31 : decode b_Ts_push 31 = .ok (.aload_n 0, 1) := by decide +kernel
theorem d_Ts_push_32 : decode b_Ts_push 32 = .ok (.getfield 19, 3) := by decide +kernel
theorem d_Ts_push_35 : decode b_Ts_push 35 = .ok (.getfield 63, 3) := by decide +kernel
theorem d_Ts_push_38 : decode b_Ts_push 38 = .ok (.sipush 255, 3) := by decide +kernel
theorem d_Ts_push_41 : decode b_Ts_push 41 = .ok (.if_icmp .lt 6, 3) := by decide +kernel
theorem d_Ts_push_44 : decode b_Ts_push 44 = .ok (.bipush (-2), 2) := by decide +kernel
theorem d_Ts_push_46 : decode b_Ts_push 46 = .ok (.ireturn, 1) := by decide +kernel
theorem d_Ts_push_47 : decode b_Ts_push 47 = .ok (.aload_n 0, 1) := by decide +kernel
theorem d_Ts_push_48 : decode b_Ts_push 48 = .ok (.getfield 19, 3) := by decide +kernel
theorem d_Ts_push_51 : decode b_Ts_push 51 = .ok (.iload_n 1, 1) := by decide +kernel
theorem d_Ts_push_52 : decode b_Ts_push 52 = .ok (.iload_n 2, 1) := by decide +kernel
theorem d_Ts_push_53 : decode b_Ts_push 53 = .ok (.invokevirtual 67, 3) := by decide +kernel
theorem d_Ts_push_56 : decode b_Ts_push 56 = .ok (.aload_n 0, 1) := by decide +kernel
theorem d_Ts_push_57 : decode b_Ts_push 57 = .ok (.getfield 19, 3) := by decide +kernel
theorem d_Ts_push_60 : decode b_Ts_push 60 = .ok (.getfield 63, 3) := by decide +kernel
theorem d_Ts_push_63 : decode b_Ts_push 63 = .ok (.ireturn, 1) := by decide +kernel
theorem d_Ts_record_0 : decode b_Ts_record 0 = .ok (.iload_n 1, 1) := by decide +kernel
theorem d_Ts_record_1 : decode b_Ts_record 1 = .ok (.invokestatic 50, 3) := by decide +kernel
theorem d_Ts_record_4 : decode b_Ts_record 4 = .ok (.ifCond .eq 13, 3) := by decide +kernel
theorem d_Ts_record_7 : decode b_Ts_record 7 = .ok (.aload_n 0, 1) := by decide +kernel
theorem d_Ts_record_8 : decode b_Ts_record 8 = .ok (.getfield 19, 3) := by decide +kernel
theorem d_Ts_record_11 : decode b_Ts_record 11 = .ok (.getfield 63, 3) := by decide +kernel
theorem d_Ts_record_14 : decode b_Ts_record 14 = .ok (.ifCond .ne 5, 3) := by decide +kernel
theorem d_Ts_record_17 : decode b_Ts_record 17 = .ok (.iconst (-1), 1) := by decide +kernel
theorem d_Ts_record_18 : decode b_Ts_record 18 = .ok (.ireturn, 1) := by decide +kernel
theorem d_Ts_record_19 : decode b_Ts_record 19 = .ok (.aload_n 0, 1) := by decide +kernel
theorem d_Ts_record_20 : decode b_Ts_record 20 = .ok (.getfield 12, 3) := by decide +kernel
theorem d_Ts_record_23 : decode b_Ts_record 23 = .ok (.iconst 3, 1) := by decide +kernel
theorem d_Ts_record_24 : decode b_Ts_record 24 = .ok (.iload_n 1, 1) := by decide +kernel
theorem d_Ts_record_25 : decode b_Ts_record 25 = .ok (.aload_n 0, 1) := by decide +kernel
theorem d_Ts_record_26 : decode b_Ts_record 26 = .ok (.getfield 19, 3) := by decide +kernel
theorem d_Ts_record_29 : decode b_Ts_record 29 = .ok (.invokevirtual 71, 3) := by decide +kernel
theorem d_Ts_record_32 : decode b_Ts_record 32 = .ok (.ireturn, 1) := by decide +kernel
theorem d_Ts_thing_0 : decode b_Ts_thing 0 = .ok (.iload_n 1, 1) := by decide +kernel
theorem d_Ts_thing_1 : decode b_Ts_thing 1 = .ok (.ifCond .ge 5, 3) := by decide +kernel
theorem d_Ts_thing_4 : decode b_Ts_thing 4 = .ok (.iconst (-1), 1) := by decide +kernel
theorem d_Ts_thing_5 : decode b_Ts_thing 5 = .ok (.ireturn, 1) := by decide +kernel
theorem d_Ts_thing_6 : decode b_Ts_thing 6 = .ok (.aload_n 0, 1) := by decide +kernel
theorem d_Ts_thing_7 : decode b_Ts_thing 7 = .ok (.getfield 12, 3) := by decide +kernel
theorem d_Ts_thing_10 : decode b_Ts_thing 10 = .ok (.iconst 4, 1) := by decide +kernel
theorem d_Ts_thing_11 : decode b_Ts_thing 11 = .ok (.iload_n 1, 1) := by decide +kernel
theorem d_Ts_thing_12 : decode b_Ts_thing 12 = .ok (.aload_n 0, 1) := by decide +kernel
theorem d_Ts_thing_13 : decode b_Ts_thing 13 = .ok (.getfield 19, 3) := by decide +kernel
theorem d_Ts_thing_16 : decode b_Ts_thing 16 = .ok (.invokevirtual 71, 3) := by decide +kernel
theorem d_Ts_thing_19 : decode b_Ts_thing 19 = .ok (.ireturn, 1) := by decide +kernel
theorem d_Ts_tell_0 : decode b_Ts_tell 0 = .ok (.aload_n 0, 1) := by decide +kernel
theorem d_Ts_tell_1 : decode b_Ts_tell 1 = .ok (.getfield 12, 3) := by decide +kernel
theorem d_Ts_tell_4 : decode b_Ts_tell 4 = .ok (.iload_n 1, 1) := by decide +kernel
theorem d_Ts_tell_5 : decode b_Ts_tell 5 = .ok (.invokevirtual 54, 3) := by decide +kernel
theorem d_Ts_tell_8 : decode b_Ts_tell 8 = .ok (.ifCond .eq 26, 3) := by decide +kernel
theorem d_Ts_tell_11 : decode b_Ts_tell 11 = .ok (.aload_n 0, 1) := by decide +kernel
theorem d_Ts_tell_12 : decode b_Ts_tell 12 = .ok (.getfield 12, 3) := by decide +kernel
theorem d_Ts_tell_15 : decode b_Ts_tell 15 = .ok (.iload_n 2, 1) := by decide +kernel
theorem d_Ts_tell_16 : decode b_Ts_tell 16 = .ok (.invokevirtual 54, 3) := by decide +kernel
theorem d_Ts_tell_19 : decode b_Ts_tell 19 = .ok (.ifCond .eq 15, 3) := by decide +kernel
theorem d_Ts_tell_22 : decode b_Ts_tell 22 = .ok (.aload_n 0, 1) := by decide +kernel
theorem d_Ts_tell_23 : decode b_Ts_tell 23 = .ok (.getfield 28, 3) := by decide +kernel
theorem d_Ts_tell_26 : decode b_Ts_tell 26 = .ok (.iload_n 1, 1) := by decide +kernel
theorem d_Ts_tell_27 : decode b_Ts_tell 27 = .ok (.iload_n 2, 1) := by decide +kernel
theorem d_Ts_tell_28 : decode b_Ts_tell 28 = .ok (.invokevirtual 75, 3) := by decide +kernel
theorem d_Ts_tell_31 : decode b_Ts_tell 31 = .ok (.ifCond .ne 5, 3) := by decide +kernel
theorem d_Ts_tell_34 : decode b_Ts_tell 34 = .ok (.iconst 0, 1) := by decide +kernel
theorem d_Ts_tell_35 : decode b_Ts_tell 35 = .ok (.ireturn, 1) := by decide +kernel
theorem d_Ts_tell_36 : decode b_Ts_tell 36 = .ok (.aload_n 0, 1) := by decide +kernel
theorem d_Ts_tell_37 : decode b_Ts_tell 37 = .ok (.getfield 28, 3) := by decide +kernel
theorem d_Ts_tell_40 : decode b_Ts_tell 40 = .ok (.invokevirtual 79, 3) := by decide +kernel
theorem d_Ts_tell_43 : decode b_Ts_tell 43 = .ok (.aload_n 0, 1) := by decide +kernel
theorem d_Ts_tell_44 : decode b_Ts_tell 44 = .ok (.getfield 42, 3) := by decide +kernel
theorem d_Ts_tell_47 : decode b_Ts_tell 47 = .ok (.aload_n 0, 1) := by decide +kernel
theorem d_Ts_tell_48 : decode b_Ts_tell 48 = .ok (.getfield 28, 3) := by decide +kernel
theorem d_Ts_tell_51 : decode b_Ts_tell 51 = .ok (.getfield 82, 3) := by decide +kernel
theorem d_Ts_tell_54 : decode b_Ts_tell 54 = .ok (.invokevirtual 85, 3) := by decide +kernel
theorem d_Ts_tell_57 : decode b_Ts_tell 57 = .ok (.aload_n 0, 1) := by decide +kernel
theorem d_Ts_tell_58 : decode b_Ts_tell 58 = .ok (.getfield 12, 3) := by decide +kernel
theorem d_Ts_tell_61 : decode b_Ts_tell 61 = .ok (.invokevirtual 89, 3) := by decide +kernel
theorem d_Ts_tell_64 : decode b_Ts_tell 64 = .ok (.iconst 1, 1) := by decide +kernel
theorem d_Ts_tell_65 : decode b_Ts_tell 65 = .ok (.ireturn, 1) := by decide +kernel
theorem d_Ts_ask_0 : decode b_Ts_ask 0 = .ok (.aload_n 0, 1) := by decide +kernel
theorem d_Ts_ask_1 : decode b_Ts_ask 1 = .ok (.getfield 12, 3) := by decide +kernel
theorem d_Ts_ask_4 : decode b_Ts_ask 4 = .ok (.iload_n 1, 1) := by decide +kernel
theorem d_Ts_ask_5 : decode b_Ts_ask 5 = .ok (.invokevirtual 54, 3) := by decide +kernel
theorem d_Ts_ask_8 : decode b_Ts_ask 8 = .ok (.ifCond .eq 14, 3) := by decide +kernel
theorem d_Ts_ask_11 : decode b_Ts_ask 11 = .ok (.aload_n 0, 1) := by decide +kernel
theorem d_Ts_ask_12 : decode b_Ts_ask 12 = .ok (.getfield 12, 3) := by decide +kernel
theorem d_Ts_ask_15 : decode b_Ts_ask 15 = .ok (.iload_n 2, 1) := by decide +kernel
theorem d_Ts_ask_16 : decode b_Ts_ask 16 = .ok (.invokevirtual 54, 3) := by decide +kernel
theorem d_Ts_ask_19 : decode b_Ts_ask 19 = .ok (.ifCond .ne 6, 3) := by decide +kernel
theorem d_Ts_ask_22 : decode b_Ts_ask 22 = .ok (.bipush (-2), 2) := by decide +kernel
theorem d_Ts_ask_24 : decode b_Ts_ask 24 = .ok (.ireturn, 1) := by decide +kernel
theorem d_Ts_ask_25 : decode b_Ts_ask 25 = .ok (.aload_n 0, 1) := by decide +kernel
theorem d_Ts_ask_26 : decode b_Ts_ask 26 = .ok (.getfield 28, 3) := by decide +kernel
theorem d_Ts_ask_29 : decode b_Ts_ask 29 = .ok (.iload_n 1, 1) := by decide +kernel
theorem d_Ts_ask_30 : decode b_Ts_ask 30 = .ok (.iload_n 2, 1) := by decide +kernel
theorem d_Ts_ask_31 : decode b_Ts_ask 31 = .ok (.invokevirtual 75, 3) := by decide +kernel
theorem d_Ts_ask_34 : decode b_Ts_ask 34 = .ok (.ifCond .ne 5, 3) := by decide +kernel
theorem d_Ts_ask_37 : decode b_Ts_ask 37 = .ok (.iconst 0, 1) := by decide +kernel
theorem d_Ts_ask_38 : decode b_Ts_ask 38 = .ok (.ireturn, 1) := by decide +kernel
theorem d_Ts_ask_39 : decode b_Ts_ask 39 = .ok (.aload_n 0, 1) := by decide +kernel
theorem d_Ts_ask_40 : decode b_Ts_ask 40 = .ok (.getfield 28, 3) := by decide +kernel
theorem d_Ts_ask_43 : decode b_Ts_ask 43 = .ok (.getfield 82, 3) := by decide +kernel
theorem d_Ts_ask_46 : decode b_Ts_ask 46 = .ok (.getfield 92, 3) := by decide +kernel
theorem d_Ts_ask_49 : decode b_Ts_ask 49 = .ok (.ifCond .ne 7, 3) := by decide +kernel
theorem d_Ts_ask_52 : decode b_Ts_ask 52 = .ok (.iconst 1, 1) := by decide +kernel
theorem d_Ts_ask_53 : decode b_Ts_ask 53 = .ok (.goto 4, 3) := by decide +kernel
theorem d_Ts_ask_56 : decode b_Ts_ask 56 = .ok (.iconst (-1), 1) := by decide +kernel
theorem d_Ts_ask_57 : decode b_Ts_ask 57 = .ok (.ireturn, 1) := by decide +kernel
theorem d_Ts_hangs_0 : decode b_Ts_hangs 0 = .ok (.aload_n 0, 1) := by decide +kernel
theorem d_Ts_hangs_1 : decode b_Ts_hangs 1 = .ok (.getfield 12, 3) := by decide +kernel
theorem d_Ts_hangs_4 : decode b_Ts_hangs 4 = .ok (.iload_n 1, 1) := by decide +kernel
theorem d_Ts_hangs_5 : decode b_Ts_hangs 5 = .ok (.invokevirtual 54, 3) := by decide +kernel
theorem d_Ts_hangs_8 : decode b_Ts_hangs 8 = .ok (.ifCond .eq 26, 3) := by decide +kernel
theorem d_Ts_hangs_11 : decode b_Ts_hangs 11 = .ok (.aload_n 0, 1) := by decide +kernel
theorem d_Ts_hangs_12 : decode b_Ts_hangs 12 = .ok (.getfield 12, 3) := by decide +kernel
theorem d_Ts_hangs_15 : decode b_Ts_hangs 15 = .ok (.iload_n 2, 1) := by decide +kernel
theorem d_Ts_hangs_16 : decode b_Ts_hangs 16 = .ok (.invokevirtual 54, 3) := by decide +kernel
theorem d_Ts_hangs_19 : decode b_Ts_hangs 19 = .ok (.ifCond .eq 15, 3) := by decide +kernel
theorem d_Ts_hangs_22 : decode b_Ts_hangs 22 = .ok (.aload_n 0, 1) := by decide +kernel
theorem d_Ts_hangs_23 : decode b_Ts_hangs 23 = .ok (.getfield 28, 3) := by decide +kernel
theorem d_Ts_hangs_26 : decode b_Ts_hangs 26 = .ok (.iload_n 1, 1) := by decide +kernel
theorem d_Ts_hangs_27 : decode b_Ts_hangs 27 = .ok (.iload_n 2, 1) := by decide +kernel
theorem d_Ts_hangs_28 : decode b_Ts_hangs 28 = .ok (.invokevirtual 75, 3) := by decide +kernel
theorem d_Ts_hangs_31 : decode b_Ts_hangs 31 = .ok (.ifCond .ne 5, 3) := by decide +kernel
theorem d_Ts_hangs_34 : decode b_Ts_hangs 34 = .ok (.iconst (-1), 1) := by decide +kernel
theorem d_Ts_hangs_35 : decode b_Ts_hangs 35 = .ok (.ireturn, 1) := by decide +kernel
theorem d_Ts_hangs_36 : decode b_Ts_hangs 36 = .ok (.aload_n 0, 1) := by decide +kernel
theorem d_Ts_hangs_37 : decode b_Ts_hangs 37 = .ok (.getfield 28, 3) := by decide +kernel
theorem d_Ts_hangs_40 : decode b_Ts_hangs 40 = .ok (.getfield 82, 3) := by decide +kernel
theorem d_Ts_hangs_43 : decode b_Ts_hangs 43 = .ok (.iload_n 3, 1) := by decide +kernel
theorem d_Ts_hangs_44 : decode b_Ts_hangs 44 = .ok (.invokevirtual 93, 3) := by decide +kernel
theorem d_Ts_hangs_47 : decode b_Ts_hangs 47 = .ok (.ireturn, 1) := by decide +kernel
theorem d_Ts_need_0 : decode b_Ts_need 0 = .ok (.aload_n 0, 1) := by decide +kernel
theorem d_Ts_need_1 : decode b_Ts_need 1 = .ok (.getfield 12, 3) := by decide +kernel
theorem d_Ts_need_4 : decode b_Ts_need 4 = .ok (.iload_n 1, 1) := by decide +kernel
theorem d_Ts_need_5 : decode b_Ts_need 5 = .ok (.invokevirtual 54, 3) := by decide +kernel
theorem d_Ts_need_8 : decode b_Ts_need 8 = .ok (.ifCond .eq 14, 3) := by decide +kernel
theorem d_Ts_need_11 : decode b_Ts_need 11 = .ok (.aload_n 0, 1) := by decide +kernel
theorem d_Ts_need_12 : decode b_Ts_need 12 = .ok (.getfield 12, 3) := by decide +kernel
theorem d_Ts_need_15 : decode b_Ts_need 15 = .ok (.iload_n 1, 1) := by decide +kernel
theorem d_Ts_need_16 : decode b_Ts_need 16 = .ok (.invokevirtual 97, 3) := by decide +kernel
theorem d_Ts_need_19 : decode b_Ts_need 19 = .ok (.ifCond .eq 5, 3) := by decide +kernel
theorem d_Ts_need_22 : decode b_Ts_need 22 = .ok (.iconst 0, 1) := by decide +kernel
theorem d_Ts_need_23 : decode b_Ts_need 23 = .ok (.ireturn, 1) := by decide +kernel
theorem d_Ts_need_24 : decode b_Ts_need 24 = .ok (.aload_n 0, 1) := by decide +kernel
theorem d_Ts_need_25 : decode b_Ts_need 25 = .ok (.getfield 12, 3) := by decide +kernel
theorem d_Ts_need_28 : decode b_Ts_need 28 = .ok (.getfield 100, 3) := by decide +kernel
theorem d_Ts_need_31 : decode b_Ts_need 31 = .ok (.iload_n 1, 1) := by decide +kernel
theorem d_Ts_need_32 : decode b_Ts_need 32 = .ok (.iaload, 1) := by decide +kernel
theorem d_Ts_need_33 : decode b_Ts_need 33 = .ok (.istore_n 2, 1) := by decide +kernel
theorem d_Ts_need_34 : decode b_Ts_need 34 = .ok (.aload_n 0, 1) := by decide +kernel
theorem d_Ts_need_35 : decode b_Ts_need 35 = .ok (.getfield 12, 3) := by decide +kernel
theorem d_Ts_need_38 : decode b_Ts_need 38 = .ok (.getfield 104, 3) := by decide +kernel
theorem d_Ts_need_41 : decode b_Ts_need 41 = .ok (.iload_n 2, 1) := by decide +kernel
theorem d_Ts_need_42 : decode b_Ts_need 42 = .ok (.iconst 1, 1) := by decide +kernel
theorem d_Ts_need_43 : decode b_Ts_need 43 = .ok (.iastore, 1) := by decide +kernel
theorem d_Ts_need_44 : decode b_Ts_need 44 = .ok (.aload_n 0, 1) := by decide +kernel
theorem d_Ts_need_45 : decode b_Ts_need 45 = .ok (.getfield 42, 3) := by decide +kernel
theorem d_Ts_need_48 : decode b_Ts_need 48 = .ok (.invokevirtual 107, 3) := by decide +kernel
theorem d_Ts_need_51 : decode b_Ts_need 51 = .ok (.aload_n 0, 1) := by decide +kernel
theorem d_Ts_need_52 : decode b_Ts_need 52 = .ok (.getfield 42, 3) := by decide +kernel
theorem d_Ts_need_55 : decode b_Ts_need 55 = .ok (.iload_n 2, 1) := by decide +kernel
theorem d_Ts_need_56 : decode b_Ts_need 56 = .ok (.invokevirtual 110, 3) := by decide +kernel
theorem d_Ts_need_59 : decode b_Ts_need 59 = .ok (.iconst 1, 1) := by decide +kernel
theorem d_Ts_need_60 : decode b_Ts_need 60 = .ok (.ireturn, 1) := by decide +kernel
theorem d_Ts_touched_0 : decode b_Ts_touched 0 = .ok (.aload_n 0, 1) := by decide +kernel
theorem d_Ts_touched_1 : decode b_Ts_touched 1 = .ok (.getfield 42, 3) := by decide +kernel
theorem d_Ts_touched_4 : decode b_Ts_touched 4 = .ok (.iload_n 1, 1) := by decide +kernel
theorem d_Ts_touched_5 : decode b_Ts_touched 5 = .ok (.invokevirtual 93, 3) := by decide +kernel
theorem d_Ts_touched_8 : decode b_Ts_touched 8 = .ok (.ireturn, 1) := by decide +kernel
theorem d_Ts_follow_0 : decode b_Ts_follow 0 = .ok (.aload_n 0, 1) := by decide +kernel
theorem d_Ts_follow_1 : decode b_Ts_follow 1 = .ok (.getfield 12, 3) := by decide +kernel
theorem d_Ts_follow_4 : decode b_Ts_follow 4 = .ok (.iload_n 1, 1) := by decide +kernel
theorem d_Ts_follow_5 : decode b_Ts_follow 5 = .ok (.invokevirtual 54, 3) := by decide +kernel
theorem d_Ts_follow_8 : decode b_Ts_follow 8 = .ok (.ifCond .ne 5, 3) := by decide +kernel
theorem d_Ts_follow_11 : decode b_Ts_follow 11 = .ok (.iconst (-1), 1) := by decide +kernel
theorem d_Ts_follow_12 : decode b_Ts_follow 12 = .ok (.ireturn, 1) := by decide +kernel
theorem d_Ts_follow_13 : decode b_Ts_follow 13 = .ok (.aload_n 0, 1) := by decide +kernel
theorem d_Ts_follow_14 : decode b_Ts_follow 14 = .ok (.getfield 12, 3) := by decide +kernel
theorem d_Ts_follow_17 : decode b_Ts_follow 17 = .ok (.getfield 100, 3) := by decide +kernel
theorem d_Ts_follow_20 : decode b_Ts_follow 20 = .ok (.iload_n 1, 1) := by decide +kernel
theorem d_Ts_follow_21 : decode b_Ts_follow 21 = .ok (.iaload, 1) := by decide +kernel
theorem d_Ts_follow_22 : decode b_Ts_follow 22 = .ok (.istore 4, 2) := by decide +kernel
theorem d_Ts_follow_24 : decode b_Ts_follow 24 = .ok (.iconst 0, 1) := by decide +kernel
theorem d_Ts_follow_25 : decode b_Ts_follow 25 = .ok (.istore 5, 2) := by decide +kernel
theorem d_Ts_follow_27 : decode b_Ts_follow 27 = .ok (.iload 5, 2) := by decide +kernel
theorem d_Ts_follow_29 : decode b_Ts_follow 29 = .ok (.bipush 8, 2) := by decide +kernel
theorem d_Ts_follow_31 : decode b_Ts_follow 31 = .ok (.if_icmp .ge 65, 3) := by decide +kernel
theorem d_Ts_follow_34 : decode b_Ts_follow 34 = .ok (.lload_n 2, 1) := by decide +kernel
theorem d_Ts_follow_35 : decode b_Ts_follow 35 = .ok (.bipush 8, 2) := by decide +kernel
theorem d_Ts_follow_37 : decode b_Ts_follow 37 = .ok (.iload 5, 2) := by decide +kernel
theorem d_Ts_follow_39 : decode b_Ts_follow 39 = .ok (.imul, 1) := by decide +kernel
theorem d_Ts_follow_40 : decode b_Ts_follow 40 = .ok (.lushr, 1) := by decide +kernel
theorem d_Ts_follow_41 : decode b_Ts_follow 41 = .ok (.ldc2_w 179, 3) := by decide +kernel
theorem d_Ts_follow_44 : decode b_Ts_follow 44 = .ok (.land, 1) := by decide +kernel
theorem d_Ts_follow_45 : decode b_Ts_follow 45 = .ok (.l2i, 1) := by decide +kernel
theorem d_Ts_follow_46 : decode b_Ts_follow 46 = .ok (.istore 6, 2) := by decide +kernel
theorem d_Ts_follow_48 : decode b_Ts_follow 48 = .ok (.iload 6, 2) := by decide +kernel
theorem d_Ts_follow_50 : decode b_Ts_follow 50 = .ok (.ifCond .ne 6, 3) := by decide +kernel
theorem d_Ts_follow_53 : decode b_Ts_follow 53 = .ok (.iload 4, 2) := by decide +kernel
theorem d_Ts_follow_55 : decode b_Ts_follow 55 = .ok (.ireturn, 1) := by decide +kernel
theorem d_Ts_follow_56 : decode b_Ts_follow 56 = .ok (.aload_n 0, 1) := by decide +kernel
theorem d_Ts_follow_57 : decode b_Ts_follow 57 = .ok (.getfield 12, 3) := by decide +kernel
theorem d_Ts_follow_60 : decode b_Ts_follow 60 = .ok (.iload 4, 2) := by decide +kernel
theorem d_Ts_follow_62 : decode b_Ts_follow 62 = .ok (.iload 6, 2) := by decide +kernel
theorem d_Ts_follow_64 : decode b_Ts_follow 64 = .ok (.iconst 1, 1) := by decide +kernel
theorem d_Ts_follow_65 : decode b_Ts_follow 65 = .ok (.isub, 1) := by decide +kernel
theorem d_Ts_follow_66 : decode b_Ts_follow 66 = .ok (.invokevirtual 130, 3) := by decide +kernel
theorem d_Ts_follow_69 : decode b_Ts_follow 69 = .ok (.istore 7, 2) := by decide +kernel
theorem d_Ts_follow_71 : decode b_Ts_follow 71 = .ok (.iload 7, 2) := by decide +kernel
theorem d_Ts_follow_73 : decode b_Ts_follow 73 = .ok (.iconst (-1), 1) := by decide +kernel
theorem d_Ts_follow_74 : decode b_Ts_follow 74 = .ok (.if_icmp .ne 5, 3) := by decide +kernel
theorem d_Ts_follow_77 : decode b_Ts_follow 77 = .ok (.iconst (-1), 1) := by decide +kernel
theorem d_Ts_follow_78 : decode b_Ts_follow 78 = .ok (.ireturn, 1) := by decide +kernel
theorem d_Ts_follow_79 : decode b_Ts_follow 79 = .ok (.aload_n 0, 1) := by decide +kernel
theorem d_Ts_follow_80 : decode b_Ts_follow 80 = .ok (.getfield 12, 3) := by decide +kernel
theorem d_Ts_follow_83 : decode b_Ts_follow 83 = .ok (.iload 7, 2) := by decide +kernel
theorem d_Ts_follow_85 : decode b_Ts_follow 85 = .ok (.invokevirtual 145, 3) := by decide +kernel
theorem d_Ts_follow_88 : decode b_Ts_follow 88 = .ok (.istore 4, 2) := by decide +kernel
theorem d_Ts_follow_90 : decode b_Ts_follow 90 = .ok (.iinc 5 1, 3) := by decide +kernel
theorem d_Ts_follow_93 : decode b_Ts_follow 93 = .ok (.goto (-66), 3) := by decide +kernel
theorem d_Ts_follow_96 : decode b_Ts_follow 96 = .ok (.iload 4, 2) := by decide +kernel
theorem d_Ts_follow_98 : decode b_Ts_follow 98 = .ok (.ireturn, 1) := by decide +kernel
theorem d_Ts_look_0 : decode b_Ts_look 0 = .ok (.aload_n 0, 1) := by decide +kernel
theorem d_Ts_look_1 : decode b_Ts_look 1 = .ok (.iload_n 1, 1) := by decide +kernel
theorem d_Ts_look_2 : decode b_Ts_look 2 = .ok (.lload_n 2, 1) := by decide +kernel
theorem d_Ts_look_3 : decode b_Ts_look 3 = .ok (.invokevirtual 114, 3) := by decide +kernel
theorem d_Ts_look_6 : decode b_Ts_look 6 = .ok (.istore 5, 2) := by decide +kernel
theorem d_Ts_look_8 : decode b_Ts_look 8 = .ok (.iload 5, 2) := by decide +kernel
theorem d_Ts_look_10 : decode b_Ts_look 10 = .ok (.iconst (-1), 1) := by decide +kernel
theorem d_Ts_look_11 : decode b_Ts_look 11 = .ok (.if_icmp .ne 5, 3) := by decide +kernel
theorem d_Ts_look_14 : decode b_Ts_look 14 = .ok (.iconst (-1), 1) := by decide +kernel
theorem d_Ts_look_15 : decode b_Ts_look 15 = .ok (.ireturn, 1) := by decide +kernel
theorem d_Ts_look_16 : decode b_Ts_look 16 = .ok (.aload_n 0, 1) := by decide +kernel
theorem d_Ts_look_17 : decode b_Ts_look 17 = .ok (.getfield 12, 3) := by decide +kernel
theorem d_Ts_look_20 : decode b_Ts_look 20 = .ok (.getfield 118, 3) := by decide +kernel
theorem d_Ts_look_23 : decode b_Ts_look 23 = .ok (.iload 5, 2) := by decide +kernel
theorem d_Ts_look_25 : decode b_Ts_look 25 = .ok (.iaload, 1) := by decide +kernel
theorem d_Ts_look_26 : decode b_Ts_look 26 = .ok (.istore 6, 2) := by decide +kernel
theorem d_Ts_look_28 : decode b_Ts_look 28 = .ok (.iload 4, 2) := by decide +kernel
theorem d_Ts_look_30 : decode b_Ts_look 30 = .ok (.tableswitch 88 0 4 #[34, 45, 56, 67, 70], 34) := by decide +kernel
theorem d_Ts_look_64 : decode b_Ts_look 64 = .ok (.aload_n 0, 1) := by decide +kernel
theorem d_Ts_look_65 : decode b_Ts_look 65 = .ok (.getfield 12, 3) := by decide +kernel
theorem d_Ts_look_68 : decode b_Ts_look 68 = .ok (.getfield 121, 3) := by decide +kernel
theorem d_Ts_look_71 : decode b_Ts_look 71 = .ok (.iload 6, 2) := by decide +kernel
theorem d_Ts_look_73 : decode b_Ts_look 73 = .ok (.iaload, 1) := by decide +kernel
theorem d_Ts_look_74 : decode b_Ts_look 74 = .ok (.ireturn, 1) := by decide +kernel
theorem d_Ts_look_75 : decode b_Ts_look 75 = .ok (.aload_n 0, 1) := by decide +kernel
theorem d_Ts_look_76 : decode b_Ts_look 76 = .ok (.getfield 12, 3) := by decide +kernel
theorem d_Ts_look_79 : decode b_Ts_look 79 = .ok (.getfield 124, 3) := by decide +kernel
theorem d_Ts_look_82 : decode b_Ts_look 82 = .ok (.iload 6, 2) := by decide +kernel
theorem d_Ts_look_84 : decode b_Ts_look 84 = .ok (.iaload, 1) := by decide +kernel
theorem d_Ts_look_85 : decode b_Ts_look 85 = .ok (.ireturn, 1) := by decide +kernel
theorem d_Ts_look_86 : decode b_Ts_look 86 = .ok (.aload_n 0, 1) := by decide +kernel
theorem d_Ts_look_87 : decode b_Ts_look 87 = .ok (.getfield 12, 3) := by decide +kernel
theorem d_Ts_look_90 : decode b_Ts_look 90 = .ok (.getfield 127, 3) := by decide +kernel
theorem d_Ts_look_93 : decode b_Ts_look 93 = .ok (.iload 6, 2) := by decide +kernel
theorem d_Ts_look_95 : decode b_Ts_look 95 = .ok (.iaload, 1) := by decide +kernel
theorem d_Ts_look_96 : decode b_Ts_look 96 = .ok (.ireturn, 1) := by decide +kernel
theorem d_Ts_look_97 : decode b_Ts_look 97 = .ok (.iload 5, 2) := by decide +kernel
theorem d_Ts_look_99 : decode b_Ts_look 99 = .ok (.ireturn, 1) := by decide +kernel
theorem d_Ts_look_100 : decode b_Ts_look 100 = .ok (.aload_n 0, 1) := by decide +kernel
theorem d_Ts_look_101 : decode b_Ts_look 101 = .ok (.getfield 12, 3) := by decide +kernel
theorem d_Ts_look_104 : decode b_Ts_look 104 = .ok (.iload 5, 2) := by decide +kernel
theorem d_Ts_look_106 : decode b_Ts_look 106 = .ok (.invokevirtual 97, 3) := by decide +kernel
theorem d_Ts_look_109 : decode b_Ts_look 109 = .ok (.ifCond .eq 7, 3) := by decide +kernel
theorem d_Ts_look_112 : decode b_Ts_look 112 = .ok (.iconst 1, 1) := by decide +kernel
theorem d_Ts_look_113 : decode b_Ts_look 113 = .ok (.goto 4, 3) := by decide +kernel
theorem d_Ts_look_116 : decode b_Ts_look 116 = .ok (.iconst 0, 1) := by decide +kernel
theorem d_Ts_look_117 : decode b_Ts_look 117 = .ok (.ireturn, 1) := by decide +kernel
theorem d_Ts_look_118 : decode b_Ts_look 118 = .ok (.iconst (-1), 1) := by decide +kernel
theorem d_Ts_look_119 : decode b_Ts_look 119 = .ok (.ireturn, 1) := by decide +kernel
theorem d_Ts_feature_0 : decode b_Ts_feature 0 = .ok (.aload_n 0, 1) := by decide +kernel
theorem d_Ts_feature_1 : decode b_Ts_feature 1 = .ok (.iload_n 1, 1) := by decide +kernel
theorem d_Ts_feature_2 : decode b_Ts_feature 2 = .ok (.lload_n 2, 1) := by decide +kernel
theorem d_Ts_feature_3 : decode b_Ts_feature 3 = .ok (.invokevirtual 114, 3) := by decide +kernel
theorem d_Ts_feature_6 : decode b_Ts_feature 6 = .ok (.istore 5, 2) := by decide +kernel
theorem d_Ts_feature_8 : decode b_Ts_feature 8 = .ok (.iload 5, 2) := by decide +kernel
theorem d_Ts_feature_10 : decode b_Ts_feature 10 = .ok (.iconst (-1), 1) := by decide +kernel
theorem d_Ts_feature_11 : decode b_Ts_feature 11 = .ok (.if_icmp .ne 5, 3) := by decide +kernel
theorem d_Ts_feature_14 : decode b_Ts_feature 14 = .ok (.iconst 0, 1) := by decide +kernel
theorem d_Ts_feature_15 : decode b_Ts_feature 15 = .ok (.ireturn, 1) := by decide +kernel
theorem d_Ts_feature_16 : decode b_Ts_feature 16 = .ok (.aload_n 0, 1) := by decide +kernel
theorem d_Ts_feature_17 : decode b_Ts_feature 17 = .ok (.getfield 12, 3) := by decide +kernel
theorem d_Ts_feature_20 : decode b_Ts_feature 20 = .ok (.iload 5, 2) := by decide +kernel
theorem d_Ts_feature_22 : decode b_Ts_feature 22 = .ok (.iload 4, 2) := by decide +kernel
theorem d_Ts_feature_24 : decode b_Ts_feature 24 = .ok (.invokevirtual 130, 3) := by decide +kernel
theorem d_Ts_feature_27 : decode b_Ts_feature 27 = .ok (.istore 6, 2) := by decide +kernel
theorem d_Ts_feature_29 : decode b_Ts_feature 29 = .ok (.iload 6, 2) := by decide +kernel
theorem d_Ts_feature_31 : decode b_Ts_feature 31 = .ok (.iconst (-1), 1) := by decide +kernel
theorem d_Ts_feature_32 : decode b_Ts_feature 32 = .ok (.if_icmp .ne 7, 3) := by decide +kernel
theorem d_Ts_feature_35 : decode b_Ts_feature 35 = .ok (.iconst 0, 1) := by decide +kernel
theorem d_Ts_feature_36 : decode b_Ts_feature 36 = .ok (.goto 16, 3) := by decide +kernel
theorem d_Ts_feature_39 : decode b_Ts_feature 39 = .ok (.aload_n 0, 1) := by decide +kernel
theorem d_Ts_feature_40 : decode b_Ts_feature 40 = .ok (.getfield 12, 3) := by decide +kernel
theorem d_Ts_feature_43 : decode b_Ts_feature 43 = .ok (.getfield 133, 3) := by decide +kernel
theorem d_Ts_feature_46 : decode b_Ts_feature 46 = .ok (.getfield 137, 3) := by decide +kernel
theorem d_Ts_feature_49 : decode b_Ts_feature 49 = .ok (.iload 6, 2) := by decide +kernel
theorem d_Ts_feature_51 : decode b_Ts_feature 51 = .ok (.iaload, 1) := by decide +kernel
theorem d_Ts_feature_52 : decode b_Ts_feature 52 = .ok (.ireturn, 1) := by decide +kernel
theorem d_Ts_part_0 : decode b_Ts_part 0 = .ok (.aload_n 0, 1) := by decide +kernel
theorem d_Ts_part_1 : decode b_Ts_part 1 = .ok (.getfield 12, 3) := by decide +kernel
theorem d_Ts_part_4 : decode b_Ts_part 4 = .ok (.iload_n 1, 1) := by decide +kernel
theorem d_Ts_part_5 : decode b_Ts_part 5 = .ok (.invokevirtual 54, 3) := by decide +kernel
theorem d_Ts_part_8 : decode b_Ts_part 8 = .ok (.ifCond .ne 5, 3) := by decide +kernel
theorem d_Ts_part_11 : decode b_Ts_part 11 = .ok (.iconst (-1), 1) := by decide +kernel
theorem d_Ts_part_12 : decode b_Ts_part 12 = .ok (.ireturn, 1) := by decide +kernel
theorem d_Ts_part_13 : decode b_Ts_part 13 = .ok (.aload_n 0, 1) := by decide +kernel
theorem d_Ts_part_14 : decode b_Ts_part 14 = .ok (.getfield 12, 3) := by decide +kernel
theorem d_Ts_part_17 : decode b_Ts_part 17 = .ok (.iload_n 1, 1) := by decide +kernel
theorem d_Ts_part_18 : decode b_Ts_part 18 = .ok (.iload_n 2, 1) := by decide +kernel
theorem d_Ts_part_19 : decode b_Ts_part 19 = .ok (.invokevirtual 142, 3) := by decide +kernel
theorem d_Ts_part_22 : decode b_Ts_part 22 = .ok (.istore_n 3, 1) := by decide +kernel
theorem d_Ts_part_23 : decode b_Ts_part 23 = .ok (.iload_n 3, 1) := by decide +kernel
theorem d_Ts_part_24 : decode b_Ts_part 24 = .ok (.iconst (-1), 1) := by decide +kernel
theorem d_Ts_part_25 : decode b_Ts_part 25 = .ok (.if_icmp .ne 7, 3) := by decide +kernel
theorem d_Ts_part_28 : decode b_Ts_part 28 = .ok (.iconst (-1), 1) := by decide +kernel
theorem d_Ts_part_29 : decode b_Ts_part 29 = .ok (.goto 11, 3) := by decide +kernel
theorem d_Ts_part_32 : decode b_Ts_part 32 = .ok (.aload_n 0, 1) := by decide +kernel
theorem d_Ts_part_33 : decode b_Ts_part 33 = .ok (.getfield 12, 3) := by decide +kernel
theorem d_Ts_part_36 : decode b_Ts_part 36 = .ok (.iload_n 3, 1) := by decide +kernel
theorem d_Ts_part_37 : decode b_Ts_part 37 = .ok (.invokevirtual 145, 3) := by decide +kernel
theorem d_Ts_part_40 : decode b_Ts_part 40 = .ok (.ireturn, 1) := by decide +kernel
theorem d_Ts_set_0 : decode b_Ts_set 0 = .ok (.aload_n 0, 1) := by decide +kernel
theorem d_Ts_set_1 : decode b_Ts_set 1 = .ok (.getfield 12, 3) := by decide +kernel
theorem d_Ts_set_4 : decode b_Ts_set 4 = .ok (.iload_n 1, 1) := by decide +kernel
theorem d_Ts_set_5 : decode b_Ts_set 5 = .ok (.invokevirtual 54, 3) := by decide +kernel
theorem d_Ts_set_8 : decode b_Ts_set 8 = .ok (.ifCond .eq 26, 3) := by decide +kernel
theorem d_Ts_set_11 : decode b_Ts_set 11 = .ok (.aload_n 0, 1) := by decide +kernel
theorem d_Ts_set_12 : decode b_Ts_set 12 = .ok (.getfield 12, 3) := by decide +kernel
theorem d_Ts_set_15 : decode b_Ts_set 15 = .ok (.iload_n 3, 1) := by decide +kernel
theorem d_Ts_set_16 : decode b_Ts_set 16 = .ok (.invokevirtual 54, 3) := by decide +kernel
theorem d_Ts_set_19 : decode b_Ts_set 19 = .ok (.ifCond .eq 15, 3) := by decide +kernel
theorem d_Ts_set_22 : decode b_Ts_set 22 = .ok (.aload_n 0, 1) := by decide +kernel
theorem d_Ts_set_23 : decode b_Ts_set 23 = .ok (.getfield 12, 3) := by decide +kernel
theorem d_Ts_set_26 : decode b_Ts_set 26 = .ok (.iload_n 1, 1) := by decide +kernel
theorem d_Ts_set_27 : decode b_Ts_set 27 = .ok (.invokevirtual 148, 3) := by decide +kernel
theorem d_Ts_set_30 : decode b_Ts_set 30 = .ok (.iconst 4, 1) := by decide +kernel
theorem d_Ts_set_31 : decode b_Ts_set 31 = .ok (.if_icmp .eq 5, 3) := by decide +kernel
theorem d_Ts_set_34 : decode b_Ts_set 34 = .ok (.iconst (-1), 1) := by decide +kernel
theorem d_Ts_set_35 : decode b_Ts_set 35 = .ok (.ireturn, 1) := by decide +kernel
theorem d_Ts_set_36 : decode b_Ts_set 36 = .ok (.aload_n 0, 1) := by decide +kernel
theorem d_Ts_set_37 : decode b_Ts_set 37 = .ok (.getfield 12, 3) := by decide +kernel
theorem d_Ts_set_40 : decode b_Ts_set 40 = .ok (.iload_n 1, 1) := by decide +kernel
theorem d_Ts_set_41 : decode b_Ts_set 41 = .ok (.iload_n 2, 1) := by decide +kernel
theorem d_Ts_set_42 : decode b_Ts_set 42 = .ok (.invokevirtual 142, 3) := by decide +kernel
theorem d_Ts_set_45 : decode b_Ts_set 45 = .ok (.istore 4, 2) := by decide +kernel
theorem d_Ts_set_47 : decode b_Ts_set 47 = .ok (.iload 4, 2) := by decide +kernel
theorem d_Ts_set_49 : decode b_Ts_set 49 = .ok (.iconst (-1), 1) := by decide +kernel
theorem d_Ts_set_50 : decode b_Ts_set 50 = .ok (.if_icmp .ne 5, 3) := by decide +kernel
theorem d_Ts_set_53 : decode b_Ts_set 53 = .ok (.iconst (-1), 1) := by decide +kernel
theorem d_Ts_set_54 : decode b_Ts_set 54 = .ok (.ireturn, 1) := by decide +kernel
theorem d_Ts_set_55 : decode b_Ts_set 55 = .ok (.aload_n 0, 1) := by decide +kernel
theorem d_Ts_set_56 : decode b_Ts_set 56 = .ok (.getfield 12, 3) := by decide +kernel
theorem d_Ts_set_59 : decode b_Ts_set 59 = .ok (.iload 4, 2) := by decide +kernel
theorem d_Ts_set_61 : decode b_Ts_set 61 = .ok (.invokevirtual 145, 3) := by decide +kernel
theorem d_Ts_set_64 : decode b_Ts_set 64 = .ok (.istore 5, 2) := by decide +kernel
theorem d_Ts_set_66 : decode b_Ts_set 66 = .ok (.aload_n 0, 1) := by decide +kernel
theorem d_Ts_set_67 : decode b_Ts_set 67 = .ok (.getfield 12, 3) := by decide +kernel
theorem d_Ts_set_70 : decode b_Ts_set 70 = .ok (.getfield 133, 3) := by decide +kernel
theorem d_Ts_set_73 : decode b_Ts_set 73 = .ok (.getfield 151, 3) := by decide +kernel
theorem d_Ts_set_76 : decode b_Ts_set 76 = .ok (.iload 4, 2) := by decide +kernel
theorem d_Ts_set_78 : decode b_Ts_set 78 = .ok (.iload_n 3, 1) := by decide +kernel
theorem d_Ts_set_79 : decode b_Ts_set 79 = .ok (.iastore, 1) := by decide +kernel
theorem d_Ts_set_80 : decode b_Ts_set 80 = .ok (.aload_n 0, 1) := by decide +kernel
theorem d_Ts_set_81 : decode b_Ts_set 81 = .ok (.getfield 12, 3) := by decide +kernel
theorem d_Ts_set_84 : decode b_Ts_set 84 = .ok (.invokevirtual 89, 3) := by decide +kernel
theorem d_Ts_set_87 : decode b_Ts_set 87 = .ok (.iload 5, 2) := by decide +kernel
theorem d_Ts_set_89 : decode b_Ts_set 89 = .ok (.ireturn, 1) := by decide +kernel
theorem d_Ts_like_0 : decode b_Ts_like 0 = .ok (.aload_n 0, 1) := by decide +kernel
theorem d_Ts_like_1 : decode b_Ts_like 1 = .ok (.getfield 12, 3) := by decide +kernel
theorem d_Ts_like_4 : decode b_Ts_like 4 = .ok (.iload_n 1, 1) := by decide +kernel
theorem d_Ts_like_5 : decode b_Ts_like 5 = .ok (.invokevirtual 54, 3) := by decide +kernel
theorem d_Ts_like_8 : decode b_Ts_like 8 = .ok (.ifCond .eq 30, 3) := by decide +kernel
theorem d_Ts_like_11 : decode b_Ts_like 11 = .ok (.aload_n 0, 1) := by decide +kernel
theorem d_Ts_like_12 : decode b_Ts_like 12 = .ok (.getfield 12, 3) := by decide +kernel
theorem d_Ts_like_15 : decode b_Ts_like 15 = .ok (.iload_n 2, 1) := by decide +kernel
theorem d_Ts_like_16 : decode b_Ts_like 16 = .ok (.invokevirtual 54, 3) := by decide +kernel
theorem d_Ts_like_19 : decode b_Ts_like 19 = .ok (.ifCond .eq 19, 3) := by decide +kernel
theorem d_Ts_like_22 : decode b_Ts_like 22 = .ok (.aload_n 0, 1) := by decide +kernel
theorem d_Ts_like_23 : decode b_Ts_like 23 = .ok (.getfield 35, 3) := by decide +kernel
theorem d_Ts_like_26 : decode b_Ts_like 26 = .ok (.iload_n 1, 1) := by decide +kernel
theorem d_Ts_like_27 : decode b_Ts_like 27 = .ok (.iload_n 2, 1) := by decide +kernel
theorem d_Ts_like_28 : decode b_Ts_like 28 = .ok (.invokevirtual 154, 3) := by decide +kernel
theorem d_Ts_like_31 : decode b_Ts_like 31 = .ok (.ifCond .eq 7, 3) := by decide +kernel
theorem d_Ts_like_34 : decode b_Ts_like 34 = .ok (.iconst 1, 1) := by decide +kernel
theorem d_Ts_like_35 : decode b_Ts_like 35 = .ok (.goto 4, 3) := by decide +kernel
theorem d_Ts_like_38 : decode b_Ts_like 38 = .ok (.iconst 0, 1) := by decide +kernel
theorem d_Ts_like_39 : decode b_Ts_like 39 = .ok (.ireturn, 1) := by decide +kernel
theorem d_Ts_mark_0 : decode b_Ts_mark 0 = .ok (.aload_n 0, 1) := by decide +kernel
theorem d_Ts_mark_1 : decode b_Ts_mark 1 = .ok (.getfield 12, 3) := by decide +kernel
theorem d_Ts_mark_4 : decode b_Ts_mark 4 = .ok (.iload_n 1, 1) := by decide +kernel
theorem d_Ts_mark_5 : decode b_Ts_mark 5 = .ok (.invokevirtual 54, 3) := by decide +kernel
theorem d_Ts_mark_8 : decode b_Ts_mark 8 = .ok (.ifCond .ne 5, 3) := by decide +kernel
theorem d_Ts_mark_11 : decode b_Ts_mark 11 = .ok (.iconst (-1), 1) := by decide +kernel
theorem d_Ts_mark_12 : decode b_Ts_mark 12 = .ok (.ireturn, 1) := by decide +kernel
theorem d_Ts_mark_13 : decode b_Ts_mark 13 = .ok (.aload_n 0, 1) := by decide +kernel
theorem d_Ts_mark_14 : decode b_Ts_mark 14 = .ok (.getfield 12, 3) := by decide +kernel
theorem d_Ts_mark_17 : decode b_Ts_mark 17 = .ok (.iload_n 1, 1) := by decide +kernel
theorem d_Ts_mark_18 : decode b_Ts_mark 18 = .ok (.invokevirtual 157, 3) := by decide +kernel
theorem d_Ts_mark_21 : decode b_Ts_mark 21 = .ok (.aload_n 0, 1) := by decide +kernel
theorem d_Ts_mark_22 : decode b_Ts_mark 22 = .ok (.getfield 12, 3) := by decide +kernel
theorem d_Ts_mark_25 : decode b_Ts_mark 25 = .ok (.getfield 100, 3) := by decide +kernel
theorem d_Ts_mark_28 : decode b_Ts_mark 28 = .ok (.iload_n 1, 1) := by decide +kernel
theorem d_Ts_mark_29 : decode b_Ts_mark 29 = .ok (.iaload, 1) := by decide +kernel
theorem d_Ts_mark_30 : decode b_Ts_mark 30 = .ok (.ireturn, 1) := by decide +kernel
theorem d_Ts_forgetPushedAndTouched_0 : decode b_Ts_forgetPushedAndTouched 0 = .ok (.aload_n 0, 1) := by decide +kernel
theorem d_Ts_forgetPushedAndTouched_1 : decode b_Ts_forgetPushedAndTouched 1 = .ok (.getfield 19, 3) := by decide +kernel
theorem d_Ts_forgetPushedAndTouched_4 : decode b_Ts_forgetPushedAndTouched 4 = .ok (.iconst 0, 1) := by decide +kernel
theorem d_Ts_forgetPushedAndTouched_5 : decode b_Ts_forgetPushedAndTouched 5 = .ok (.putfield 63, 3) := by decide +kernel
theorem d_Ts_forgetPushedAndTouched_8 : decode b_Ts_forgetPushedAndTouched 8 = .ok (.aload_n 0, 1) := by decide +kernel
theorem d_Ts_forgetPushedAndTouched_9 : decode b_Ts_forgetPushedAndTouched 9 = .ok (.getfield 42, 3) := by decide +kernel
theorem d_Ts_forgetPushedAndTouched_12 : decode b_Ts_forgetPushedAndTouched 12 = .ok (.invokevirtual 107, 3) := by decide +kernel
theorem d_Ts_forgetPushedAndTouched_15 : decode b_Ts_forgetPushedAndTouched 15 = .ok (.return_, 1) := by decide +kernel
theorem d_Ts_sweep_0 : decode b_Ts_sweep 0 = .ok (.aload_n 0, 1) := by decide +kernel
theorem d_Ts_sweep_1 : decode b_Ts_sweep 1 = .ok (.getfield 12, 3) := by decide +kernel
theorem d_Ts_sweep_4 : decode b_Ts_sweep 4 = .ok (.getfield 160, 3) := by decide +kernel
theorem d_Ts_sweep_7 : decode b_Ts_sweep 7 = .ok (.istore_n 1, 1) := by decide +kernel
theorem d_Ts_sweep_8 : decode b_Ts_sweep 8 = .ok (.aload_n 0, 1) := by decide +kernel
theorem d_Ts_sweep_9 : decode b_Ts_sweep 9 = .ok (.getfield 12, 3) := by decide +kernel
theorem d_Ts_sweep_12 : decode b_Ts_sweep 12 = .ok (.invokevirtual 163, 3) := by decide +kernel
theorem d_Ts_sweep_15 : decode b_Ts_sweep 15 = .ok (.aload_n 0, 1) := by decide +kernel
theorem d_Ts_sweep_16 : decode b_Ts_sweep 16 = .ok (.invokevirtual 166, 3) := by decide +kernel
theorem d_Ts_sweep_19 : decode b_Ts_sweep 19 = .ok (.iload_n 1, 1) := by decide +kernel
theorem d_Ts_sweep_20 : decode b_Ts_sweep 20 = .ok (.aload_n 0, 1) := by decide +kernel
theorem d_Ts_sweep_21 : decode b_Ts_sweep 21 = .ok (.getfield 12, 3) := by decide +kernel
theorem d_Ts_sweep_24 : decode b_Ts_sweep 24 = .ok (.getfield 160, 3) := by decide +kernel
theorem d_Ts_sweep_27 : decode b_Ts_sweep 27 = .ok (.isub, 1) := by decide +kernel
theorem d_Ts_sweep_28 : decode b_Ts_sweep 28 = .ok (.ireturn, 1) := by decide +kernel
theorem d_Ts_clear_0 : decode b_Ts_clear 0 = .ok (.aload_n 0, 1) := by decide +kernel
theorem d_Ts_clear_1 : decode b_Ts_clear 1 = .ok (.getfield 12, 3) := by decide +kernel
theorem d_Ts_clear_4 : decode b_Ts_clear 4 = .ok (.getfield 160, 3) := by decide +kernel
theorem d_Ts_clear_7 : decode b_Ts_clear 7 = .ok (.istore_n 1, 1) := by decide +kernel
theorem d_Ts_clear_8 : decode b_Ts_clear 8 = .ok (.aload_n 0, 1) := by decide +kernel
theorem d_Ts_clear_9 : decode b_Ts_clear 9 = .ok (.getfield 12, 3) := by decide +kernel
theorem d_Ts_clear_12 : decode b_Ts_clear 12 = .ok (.invokevirtual 89, 3) := by decide +kernel
theorem d_Ts_clear_15 : decode b_Ts_clear 15 = .ok (.aload_n 0, 1) := by decide +kernel
theorem d_Ts_clear_16 : decode b_Ts_clear 16 = .ok (.getfield 12, 3) := by decide +kernel
theorem d_Ts_clear_19 : decode b_Ts_clear 19 = .ok (.invokevirtual 163, 3) := by decide +kernel
theorem d_Ts_clear_22 : decode b_Ts_clear 22 = .ok (.aload_n 0, 1) := by decide +kernel
theorem d_Ts_clear_23 : decode b_Ts_clear 23 = .ok (.invokevirtual 166, 3) := by decide +kernel
theorem d_Ts_clear_26 : decode b_Ts_clear 26 = .ok (.iload_n 1, 1) := by decide +kernel
theorem d_Ts_clear_27 : decode b_Ts_clear 27 = .ok (.ireturn, 1) := by decide +kernel
theorem d_Ts_count_0 : decode b_Ts_count 0 = .ok (.iload_n 1, 1) := by decide +kernel
theorem d_Ts_count_1 : decode b_Ts_count 1 = .ok (.tableswitch 90 0 5 #[39, 47, 58, 66, 74, 82], 39) := by decide +kernel
theorem d_Ts_count_40 : decode b_Ts_count 40 = .ok (.aload_n 0, 1) := by decide +kernel
theorem d_Ts_count_41 : decode b_Ts_count 41 = .ok (.getfield 12, 3) := by decide +kernel
theorem d_Ts_count_44 : decode b_Ts_count 44 = .ok (.getfield 160, 3) := by decide +kernel
theorem d_Ts_count_47 : decode b_Ts_count 47 = .ok (.ireturn, 1) := by decide +kernel
theorem d_Ts_count_48 : decode b_Ts_count 48 = .ok (.aload_n 0, 1) := by decide +kernel
theorem d_Ts_count_49 : decode b_Ts_count 49 = .ok (.getfield 12, 3) := by decide +kernel
theorem d_Ts_count_52 : decode b_Ts_count 52 = .ok (.getfield 133, 3) := by decide +kernel
theorem d_Ts_count_55 : decode b_Ts_count 55 = .ok (.getfield 169, 3) := by decide +kernel
theorem d_Ts_count_58 : decode b_Ts_count 58 = .ok (.ireturn, 1) := by decide +kernel
theorem d_Ts_count_59 : decode b_Ts_count 59 = .ok (.aload_n 0, 1) := by decide +kernel
theorem d_Ts_count_60 : decode b_Ts_count 60 = .ok (.getfield 19, 3) := by decide +kernel
theorem d_Ts_count_63 : decode b_Ts_count 63 = .ok (.getfield 63, 3) := by decide +kernel
theorem d_Ts_count_66 : decode b_Ts_count 66 = .ok (.ireturn, 1) := by decide +kernel
theorem d_Ts_count_67 : decode b_Ts_count 67 = .ok (.aload_n 0, 1) := by decide +kernel
theorem d_Ts_count_68 : decode b_Ts_count 68 = .ok (.getfield 12, 3) := by decide +kernel
theorem d_Ts_count_71 : decode b_Ts_count 71 = .ok (.invokevirtual 172, 3) := by decide +kernel
theorem d_Ts_count_74 : decode b_Ts_count 74 = .ok (.ireturn, 1) := by decide +kernel
theorem d_Ts_count_75 : decode b_Ts_count 75 = .ok (.aload_n 0, 1) := by decide +kernel
theorem d_Ts_count_76 : decode b_Ts_count 76 = .ok (.getfield 42, 3) := by decide +kernel
theorem d_Ts_count_79 : decode b_Ts_count 79 = .ok (.getfield 92, 3) := by decide +kernel
theorem d_Ts_count_82 : decode b_Ts_count 82 = .ok (.ireturn, 1) := by decide +kernel
theorem d_Ts_count_83 : decode b_Ts_count 83 = .ok (.aload_n 0, 1) := by decide +kernel
theorem d_Ts_count_84 : decode b_Ts_count 84 = .ok (.getfield 12, 3) := by decide +kernel
theorem d_Ts_count_87 : decode b_Ts_count 87 = .ok (.getfield 176, 3) := by decide +kernel
theorem d_Ts_count_90 : decode b_Ts_count 90 = .ok (.ireturn, 1) := by decide +kernel
theorem d_Ts_count_91 : decode b_Ts_count 91 = .ok (.iconst (-1), 1) := by decide +kernel
theorem d_Ts_count_92 : decode b_Ts_count 92 = .ok (.ireturn, 1) := by decide +kernel
