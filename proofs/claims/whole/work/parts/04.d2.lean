theorem d_C_init_0 : decode b_C_init 0 = .ok (.aload_n 0, 1) := by decide +kernel
theorem d_C_init_1 : decode b_C_init 1 = .ok (.invokespecial 3, 3) := by decide +kernel
theorem d_C_init_4 : decode b_C_init 4 = .ok (.aload_n 0, 1) := by decide +kernel
theorem d_C_init_5 : decode b_C_init 5 = .ok (.bipush 26, 2) := by decide +kernel
theorem d_C_init_7 : decode b_C_init 7 = .ok (.newarray .int, 2) := by decide +kernel
theorem d_C_init_9 : decode b_C_init 9 = .ok (.putfield 9, 3) := by decide +kernel
theorem d_C_init_12 : decode b_C_init 12 = .ok (.aload_n 0, 1) := by decide +kernel
theorem d_C_init_13 : decode b_C_init 13 = .ok (.iconst 0, 1) := by decide +kernel
theorem d_C_init_14 : decode b_C_init 14 = .ok (.newarray .char, 2) := by decide +kernel
theorem d_C_init_16 : decode b_C_init 16 = .ok (.putfield 15, 3) := by decide +kernel
theorem d_C_init_19 : decode b_C_init 19 = .ok (.aload_n 0, 1) := by decide +kernel
theorem d_C_init_20 : decode b_C_init 20 = .ok (.iconst 0, 1) := by decide +kernel
theorem d_C_init_21 : decode b_C_init 21 = .ok (.putfield 19, 3) := by decide +kernel
theorem d_C_init_24 : decode b_C_init 24 = .ok (.aload_n 0, 1) := by decide +kernel
theorem d_C_init_25 : decode b_C_init 25 = .ok (.iconst 0, 1) := by decide +kernel
theorem d_C_init_26 : decode b_C_init 26 = .ok (.putfield 23, 3) := by decide +kernel
theorem d_C_init_29 : decode b_C_init 29 = .ok (.aload_n 0, 1) := by decide +kernel
theorem d_C_init_30 : decode b_C_init 30 = .ok (.new 26, 3) := by decide +kernel
theorem d_C_init_33 : decode b_C_init 33 = .ok (.dup, 1) := by decide +kernel
theorem d_C_init_34 : decode b_C_init 34 = .ok (.invokespecial 28, 3) := by decide +kernel
theorem d_C_init_37 : decode b_C_init 37 = .ok (.putfield 29, 3) := by decide +kernel
theorem d_C_init_40 : decode b_C_init 40 = .ok (.return_, 1) := by decide +kernel
theorem d_C_exchange_0 : decode b_C_exchange 0 = .ok (.aload_n 0, 1) := by decide +kernel
theorem d_C_exchange_1 : decode b_C_exchange 1 = .ok (.getfield 29, 3) := by decide +kernel
theorem d_C_exchange_4 : decode b_C_exchange 4 = .ok (.astore_n 2, 1) := by decide +kernel
theorem d_C_exchange_5 : decode b_C_exchange 5 = .ok (.aload_n 0, 1) := by decide +kernel
theorem d_C_exchange_6 : decode b_C_exchange 6 = .ok (.aload_n 1, 1) := by decide +kernel
theorem d_C_exchange_7 : decode b_C_exchange 7 = .ok (.putfield 29, 3) := by decide +kernel
theorem d_C_exchange_10 : decode b_C_exchange 10 = .ok (.aload_n 2, 1) := by decide +kernel
theorem d_C_exchange_11 : decode b_C_exchange 11 = .ok (.areturn, 1) := by decide +kernel
theorem d_C_accepts_0 : decode b_C_accepts 0 = .ok (.aload_n 0, 1) := by decide +kernel
theorem d_C_accepts_1 : decode b_C_accepts 1 = .ok (.aload_n 1, 1) := by decide +kernel
theorem d_C_accepts_2 : decode b_C_accepts 2 = .ok (.iload_n 2, 1) := by decide +kernel
theorem d_C_accepts_3 : decode b_C_accepts 3 = .ok (.invokevirtual 33, 3) := by decide +kernel
theorem d_C_accepts_6 : decode b_C_accepts 6 = .ok (.iconst 0, 1) := by decide +kernel
theorem d_C_accepts_7 : decode b_C_accepts 7 = .ok (.istore_n 3, 1) := by decide +kernel
theorem d_C_accepts_8 : decode b_C_accepts 8 = .ok (.iload_n 3, 1) := by decide +kernel
theorem d_C_accepts_9 : decode b_C_accepts 9 = .ok (.sipush 160, 3) := by decide +kernel
theorem d_C_accepts_12 : decode b_C_accepts 12 = .ok (.if_icmp .ge 25, 3) := by decide +kernel
theorem d_C_accepts_15 : decode b_C_accepts 15 = .ok (.aload_n 0, 1) := by decide +kernel
theorem d_C_accepts_16 : decode b_C_accepts 16 = .ok (.invokevirtual 37, 3) := by decide +kernel
theorem d_C_accepts_19 : decode b_C_accepts 19 = .ok (.ifCond .eq 18, 3) := by decide +kernel
theorem d_C_accepts_22 : decode b_C_accepts 22 = .ok (.aload_n 0, 1) := by decide +kernel
theorem d_C_accepts_23 : decode b_C_accepts 23 = .ok (.invokevirtual 41, 3) := by decide +kernel
theorem d_C_accepts_26 : decode b_C_accepts 26 = .ok (.ifCond .ne 5, 3) := by decide +kernel
theorem d_C_accepts_29 : decode b_C_accepts 29 = .ok (.iconst 0, 1) := by decide +kernel
theorem d_C_accepts_30 : decode b_C_accepts 30 = .ok (.ireturn, 1) := by decide +kernel
theorem d_C_accepts_31 : decode b_C_accepts 31 = .ok (.iinc 3 1, 3) := by decide +kernel
theorem d_C_accepts_34 : decode b_C_accepts 34 = .ok (.goto (-26), 3) := by decide +kernel
theorem d_C_accepts_37 : decode b_C_accepts 37 = .ok (.aload_n 0, 1) := by decide +kernel
theorem d_C_accepts_38 : decode b_C_accepts 38 = .ok (.iconst 0, 1) := by decide +kernel
theorem d_C_accepts_39 : decode b_C_accepts 39 = .ok (.invokevirtual 44, 3) := by decide +kernel
theorem d_C_accepts_42 : decode b_C_accepts 42 = .ok (.istore_n 3, 1) := by decide +kernel
theorem d_C_accepts_43 : decode b_C_accepts 43 = .ok (.iload_n 3, 1) := by decide +kernel
theorem d_C_accepts_44 : decode b_C_accepts 44 = .ok (.iconst (-1), 1) := by decide +kernel
theorem d_C_accepts_45 : decode b_C_accepts 45 = .ok (.if_icmp .eq 32, 3) := by decide +kernel
theorem d_C_accepts_48 : decode b_C_accepts 48 = .ok (.aload_n 0, 1) := by decide +kernel
theorem d_C_accepts_49 : decode b_C_accepts 49 = .ok (.getfield 23, 3) := by decide +kernel
theorem d_C_accepts_52 : decode b_C_accepts 52 = .ok (.aload_n 0, 1) := by decide +kernel
theorem d_C_accepts_53 : decode b_C_accepts 53 = .ok (.getfield 19, 3) := by decide +kernel
theorem d_C_accepts_56 : decode b_C_accepts 56 = .ok (.if_icmp .ne 21, 3) := by decide +kernel
theorem d_C_accepts_59 : decode b_C_accepts 59 = .ok (.iload_n 3, 1) := by decide +kernel
theorem d_C_accepts_60 : decode b_C_accepts 60 = .ok (.invokestatic 48, 3) := by decide +kernel
theorem d_C_accepts_63 : decode b_C_accepts 63 = .ok (.iconst 3, 1) := by decide +kernel
theorem d_C_accepts_64 : decode b_C_accepts 64 = .ok (.if_icmp .ne 13, 3) := by decide +kernel
theorem d_C_accepts_67 : decode b_C_accepts 67 = .ok (.aload_n 0, 1) := by decide +kernel
theorem d_C_accepts_68 : decode b_C_accepts 68 = .ok (.getfield 29, 3) := by decide +kernel
theorem d_C_accepts_71 : decode b_C_accepts 71 = .ok (.getfield 53, 3) := by decide +kernel
theorem d_C_accepts_74 : decode b_C_accepts 74 = .ok (.ifCond .eq 5, 3) := by decide +kernel
theorem d_C_accepts_77 : decode b_C_accepts 77 = .ok (.iconst 0, 1) := by decide +kernel
theorem d_C_accepts_78 : decode b_C_accepts 78 = .ok (.ireturn, 1) := by decide +kernel
theorem d_C_accepts_79 : decode b_C_accepts 79 = .ok (.aload_n 0, 1) := by decide +kernel
theorem d_C_accepts_80 : decode b_C_accepts 80 = .ok (.iload_n 3, 1) := by decide +kernel
theorem d_C_accepts_81 : decode b_C_accepts 81 = .ok (.invokevirtual 57, 3) := by decide +kernel
theorem d_C_accepts_84 : decode b_C_accepts 84 = .ok (.iconst 1, 1) := by decide +kernel
theorem d_C_accepts_85 : decode b_C_accepts 85 = .ok (.ireturn, 1) := by decide +kernel
theorem d_C_start_0 : decode b_C_start 0 = .ok (.aload_n 0, 1) := by decide +kernel
theorem d_C_start_1 : decode b_C_start 1 = .ok (.aload_n 1, 1) := by decide +kernel
theorem d_C_start_2 : decode b_C_start 2 = .ok (.putfield 15, 3) := by decide +kernel
theorem d_C_start_5 : decode b_C_start 5 = .ok (.aload_n 0, 1) := by decide +kernel
theorem d_C_start_6 : decode b_C_start 6 = .ok (.iload_n 2, 1) := by decide +kernel
theorem d_C_start_7 : decode b_C_start 7 = .ok (.putfield 19, 3) := by decide +kernel
theorem d_C_start_10 : decode b_C_start 10 = .ok (.aload_n 0, 1) := by decide +kernel
theorem d_C_start_11 : decode b_C_start 11 = .ok (.iconst 0, 1) := by decide +kernel
theorem d_C_start_12 : decode b_C_start 12 = .ok (.putfield 23, 3) := by decide +kernel
theorem d_C_start_15 : decode b_C_start 15 = .ok (.aload_n 0, 1) := by decide +kernel
theorem d_C_start_16 : decode b_C_start 16 = .ok (.getfield 29, 3) := by decide +kernel
theorem d_C_start_19 : decode b_C_start 19 = .ok (.invokevirtual 61, 3) := by decide +kernel
theorem d_C_start_22 : decode b_C_start 22 = .ok (.iconst 0, 1) := by decide +kernel
theorem d_C_start_23 : decode b_C_start 23 = .ok (.istore_n 3, 1) := by decide +kernel
theorem d_C_start_24 : decode b_C_start 24 = .ok (.iload_n 3, 1) := by decide +kernel
theorem d_C_start_25 : decode b_C_start 25 = .ok (.bipush 26, 2) := by decide +kernel
theorem d_C_start_27 : decode b_C_start 27 = .ok (.if_icmp .ge 16, 3) := by decide +kernel
theorem d_C_start_30 : decode b_C_start 30 = .ok (.aload_n 0, 1) := by decide +kernel
theorem d_C_start_31 : decode b_C_start 31 = .ok (.getfield 9, 3) := by decide +kernel
theorem d_C_start_34 : decode b_C_start 34 = .ok (.iload_n 3, 1) := by decide +kernel
theorem d_C_start_35 : decode b_C_start 35 = .ok (.iconst (-1), 1) := by decide +kernel
theorem d_C_start_36 : decode b_C_start 36 = .ok (.iastore, 1) := by decide +kernel
theorem d_C_start_37 : decode b_C_start 37 = .ok (.iinc 3 1, 3) := by decide +kernel
theorem d_C_start_40 : decode b_C_start 40 = .ok (.goto (-16), 3) := by decide +kernel
theorem d_C_start_43 : decode b_C_start 43 = .ok (.return_, 1) := by decide +kernel
theorem d_C_finish_0 : decode b_C_finish 0 = .ok (.iconst 0, 1) := by decide +kernel
theorem d_C_finish_1 : decode b_C_finish 1 = .ok (.istore_n 2, 1) := by decide +kernel
theorem d_C_finish_2 : decode b_C_finish 2 = .ok (.iload_n 2, 1) := by decide +kernel
theorem d_C_finish_3 : decode b_C_finish 3 = .ok (.iconst 3, 1) := by decide +kernel
theorem d_C_finish_4 : decode b_C_finish 4 = .ok (.if_icmp .ge 23, 3) := by decide +kernel
theorem d_C_finish_7 : decode b_C_finish 7 = .ok (.aload_n 0, 1) := by decide +kernel
theorem d_C_finish_8 : decode b_C_finish 8 = .ok (.getfield 29, 3) := by decide +kernel
theorem d_C_finish_11 : decode b_C_finish 11 = .ok (.getfield 64, 3) := by decide +kernel
theorem d_C_finish_14 : decode b_C_finish 14 = .ok (.iload_n 2, 1) := by decide +kernel
theorem d_C_finish_15 : decode b_C_finish 15 = .ok (.iload_n 1, 1) := by decide +kernel
theorem d_C_finish_16 : decode b_C_finish 16 = .ok (.iload_n 2, 1) := by decide +kernel
theorem d_C_finish_17 : decode b_C_finish 17 = .ok (.invokestatic 67, 3) := by decide +kernel
theorem d_C_finish_20 : decode b_C_finish 20 = .ok (.iastore, 1) := by decide +kernel
theorem d_C_finish_21 : decode b_C_finish 21 = .ok (.iinc 2 1, 3) := by decide +kernel
theorem d_C_finish_24 : decode b_C_finish 24 = .ok (.goto (-22), 3) := by decide +kernel
theorem d_C_finish_27 : decode b_C_finish 27 = .ok (.iconst 0, 1) := by decide +kernel
theorem d_C_finish_28 : decode b_C_finish 28 = .ok (.istore_n 2, 1) := by decide +kernel
theorem d_C_finish_29 : decode b_C_finish 29 = .ok (.iload_n 2, 1) := by decide +kernel
theorem d_C_finish_30 : decode b_C_finish 30 = .ok (.bipush 26, 2) := by decide +kernel
theorem d_C_finish_32 : decode b_C_finish 32 = .ok (.if_icmp .ge 41, 3) := by decide +kernel
theorem d_C_finish_35 : decode b_C_finish 35 = .ok (.aload_n 0, 1) := by decide +kernel
theorem d_C_finish_36 : decode b_C_finish 36 = .ok (.getfield 29, 3) := by decide +kernel
theorem d_C_finish_39 : decode b_C_finish 39 = .ok (.getfield 71, 3) := by decide +kernel
theorem d_C_finish_42 : decode b_C_finish 42 = .ok (.iload_n 2, 1) := by decide +kernel
theorem d_C_finish_43 : decode b_C_finish 43 = .ok (.aload_n 0, 1) := by decide +kernel
theorem d_C_finish_44 : decode b_C_finish 44 = .ok (.getfield 9, 3) := by decide +kernel
theorem d_C_finish_47 : decode b_C_finish 47 = .ok (.iload_n 2, 1) := by decide +kernel
theorem d_C_finish_48 : decode b_C_finish 48 = .ok (.iaload, 1) := by decide +kernel
theorem d_C_finish_49 : decode b_C_finish 49 = .ok (.iconst (-1), 1) := by decide +kernel
theorem d_C_finish_50 : decode b_C_finish 50 = .ok (.if_icmp .ne 7, 3) := by decide +kernel
theorem d_C_finish_53 : decode b_C_finish 53 = .ok (.iconst 0, 1) := by decide +kernel
theorem d_C_finish_54 : decode b_C_finish 54 = .ok (.goto 12, 3) := by decide +kernel
theorem d_C_finish_57 : decode b_C_finish 57 = .ok (.aload_n 0, 1) := by decide +kernel
theorem d_C_finish_58 : decode b_C_finish 58 = .ok (.getfield 9, 3) := by decide +kernel
theorem d_C_finish_61 : decode b_C_finish 61 = .ok (.iload_n 2, 1) := by decide +kernel
theorem d_C_finish_62 : decode b_C_finish 62 = .ok (.iaload, 1) := by decide +kernel
theorem d_C_finish_63 : decode b_C_finish 63 = .ok (.invokestatic 48, 3) := by decide +kernel
theorem d_C_finish_66 : decode b_C_finish 66 = .ok (.iastore, 1) := by decide +kernel
theorem d_C_finish_67 : decode b_C_finish 67 = .ok (.iinc 2 1, 3) := by decide +kernel
theorem d_C_finish_70 : decode b_C_finish 70 = .ok (.goto (-41), 3) := by decide +kernel
theorem d_C_finish_73 : decode b_C_finish 73 = .ok (.return_, 1) := by decide +kernel
theorem d_C_next_0 : decode b_C_next 0 = .ok (.aload_n 0, 1) := by decide +kernel
theorem d_C_next_1 : decode b_C_next 1 = .ok (.getfield 23, 3) := by decide +kernel
theorem d_C_next_4 : decode b_C_next 4 = .ok (.aload_n 0, 1) := by decide +kernel
theorem d_C_next_5 : decode b_C_next 5 = .ok (.getfield 19, 3) := by decide +kernel
theorem d_C_next_8 : decode b_C_next 8 = .ok (.if_icmp .ge 15, 3) := by decide +kernel
theorem d_C_next_11 : decode b_C_next 11 = .ok (.aload_n 0, 1) := by decide +kernel
theorem d_C_next_12 : decode b_C_next 12 = .ok (.getfield 15, 3) := by decide +kernel
theorem d_C_next_15 : decode b_C_next 15 = .ok (.aload_n 0, 1) := by decide +kernel
theorem d_C_next_16 : decode b_C_next 16 = .ok (.getfield 23, 3) := by decide +kernel
theorem d_C_next_19 : decode b_C_next 19 = .ok (.caload, 1) := by decide +kernel
theorem d_C_next_20 : decode b_C_next 20 = .ok (.goto 4, 3) := by decide +kernel
theorem d_C_next_23 : decode b_C_next 23 = .ok (.iconst 0, 1) := by decide +kernel
theorem d_C_next_24 : decode b_C_next 24 = .ok (.ireturn, 1) := by decide +kernel
theorem d_C_takes_0 : decode b_C_takes 0 = .ok (.aload_n 0, 1) := by decide +kernel
theorem d_C_takes_1 : decode b_C_takes 1 = .ok (.invokevirtual 74, 3) := by decide +kernel
theorem d_C_takes_4 : decode b_C_takes 4 = .ok (.iload_n 1, 1) := by decide +kernel
theorem d_C_takes_5 : decode b_C_takes 5 = .ok (.if_icmp .eq 5, 3) := by decide +kernel
theorem d_C_takes_8 : decode b_C_takes 8 = .ok (.iconst 0, 1) := by decide +kernel
theorem d_C_takes_9 : decode b_C_takes 9 = .ok (.ireturn, 1) := by decide +kernel
theorem d_C_takes_10 : decode b_C_takes 10 = .ok (.aload_n 0, 1) := by decide +kernel
theorem d_C_takes_11 : decode b_C_takes 11 = .ok (.dup, 1) := by decide +kernel
theorem d_C_takes_12 : decode b_C_takes 12 = .ok (.getfield 23, 3) := by decide +kernel
theorem d_C_takes_15 : decode b_C_takes 15 = .ok (.iconst 1, 1) := by decide +kernel
theorem d_C_takes_16 : decode b_C_takes 16 = .ok (.iadd, 1) := by decide +kernel
theorem d_C_takes_17 : decode b_C_takes 17 = .ok (.putfield 23, 3) := by decide +kernel
theorem d_C_takes_20 : decode b_C_takes 20 = .ok (.iconst 1, 1) := by decide +kernel
theorem d_C_takes_21 : decode b_C_takes 21 = .ok (.ireturn, 1) := by decide +kernel
theorem d_C_isAssignmentNext_0 : decode b_C_isAssignmentNext 0 = .ok (.aload_n 0, 1) := by decide +kernel
theorem d_C_isAssignmentNext_1 : decode b_C_isAssignmentNext 1 = .ok (.getfield 23, 3) := by decide +kernel
theorem d_C_isAssignmentNext_4 : decode b_C_isAssignmentNext 4 = .ok (.iconst 1, 1) := by decide +kernel
theorem d_C_isAssignmentNext_5 : decode b_C_isAssignmentNext 5 = .ok (.iadd, 1) := by decide +kernel
theorem d_C_isAssignmentNext_6 : decode b_C_isAssignmentNext 6 = .ok (.aload_n 0, 1) := by decide +kernel
theorem d_C_isAssignmentNext_7 : decode b_C_isAssignmentNext 7 = .ok (.getfield 19, 3) := by decide +kernel
theorem d_C_isAssignmentNext_10 : decode b_C_isAssignmentNext 10 = .ok (.if_icmp .ge 38, 3) := by decide +kernel
theorem d_C_isAssignmentNext_13 : decode b_C_isAssignmentNext 13 = .ok (.aload_n 0, 1) := by decide +kernel
theorem d_C_isAssignmentNext_14 : decode b_C_isAssignmentNext 14 = .ok (.getfield 15, 3) := by decide +kernel
theorem d_C_isAssignmentNext_17 : decode b_C_isAssignmentNext 17 = .ok (.aload_n 0, 1) := by decide +kernel
theorem d_C_isAssignmentNext_18 : decode b_C_isAssignmentNext 18 = .ok (.getfield 23, 3) := by decide +kernel
theorem d_C_isAssignmentNext_21 : decode b_C_isAssignmentNext 21 = .ok (.caload, 1) := by decide +kernel
theorem d_C_isAssignmentNext_22 : decode b_C_isAssignmentNext 22 = .ok (.invokestatic 78, 3) := by decide +kernel
theorem d_C_isAssignmentNext_25 : decode b_C_isAssignmentNext 25 = .ok (.ifCond .eq 23, 3) := by decide +kernel
theorem d_C_isAssignmentNext_28 : decode b_C_isAssignmentNext 28 = .ok (.aload_n 0, 1) := by decide +kernel
theorem d_C_isAssignmentNext_29 : decode b_C_isAssignmentNext 29 = .ok (.getfield 15, 3) := by decide +kernel
theorem d_C_isAssignmentNext_32 : decode b_C_isAssignmentNext 32 = .ok (.aload_n 0, 1) := by decide +kernel
theorem d_C_isAssignmentNext_33 : decode b_C_isAssignmentNext 33 = .ok (.getfield 23, 3) := by decide +kernel
theorem d_C_isAssignmentNext_36 : decode b_C_isAssignmentNext 36 = .ok (.iconst 1, 1) := by decide +kernel
theorem d_C_isAssignmentNext_37 : decode b_C_isAssignmentNext 37 = .ok (.iadd, 1) := by decide +kernel
theorem d_C_isAssignmentNext_38 : decode b_C_isAssignmentNext 38 = .ok (.caload, 1) := by decide +kernel
theorem d_C_isAssignmentNext_39 : decode b_C_isAssignmentNext 39 = .ok (.bipush 61, 2) := by decide +kernel
theorem d_C_isAssignmentNext_41 : decode b_C_isAssignmentNext 41 = .ok (.if_icmp .ne 7, 3) := by decide +kernel
theorem d_C_isAssignmentNext_44 : decode b_C_isAssignmentNext 44 = .ok (.iconst 1, 1) := by decide +kernel
theorem d_C_isAssignmentNext_45 : decode b_C_isAssignmentNext 45 = .ok (.goto 4, 3) := by decide +kernel
theorem d_C_isAssignmentNext_48 : decode b_C_isAssignmentNext 48 = .ok (.iconst 0, 1) := by decide +kernel
theorem d_C_isAssignmentNext_49 : decode b_C_isAssignmentNext 49 = .ok (.ireturn, 1) := by decide +kernel
theorem d_C_assignment_0 : decode b_C_assignment 0 = .ok (.aload_n 0, 1) := by decide +kernel
theorem d_C_assignment_1 : decode b_C_assignment 1 = .ok (.invokevirtual 74, 3) := by decide +kernel
theorem d_C_assignment_4 : decode b_C_assignment 4 = .ok (.istore_n 1, 1) := by decide +kernel
theorem d_C_assignment_5 : decode b_C_assignment 5 = .ok (.aload_n 0, 1) := by decide +kernel
theorem d_C_assignment_6 : decode b_C_assignment 6 = .ok (.dup, 1) := by decide +kernel
theorem d_C_assignment_7 : decode b_C_assignment 7 = .ok (.getfield 23, 3) := by decide +kernel
theorem d_C_assignment_10 : decode b_C_assignment 10 = .ok (.iconst 2, 1) := by decide +kernel
theorem d_C_assignment_11 : decode b_C_assignment 11 = .ok (.iadd, 1) := by decide +kernel
theorem d_C_assignment_12 : decode b_C_assignment 12 = .ok (.putfield 23, 3) := by decide +kernel
theorem d_C_assignment_15 : decode b_C_assignment 15 = .ok (.iload_n 1, 1) := by decide +kernel
theorem d_C_assignment_16 : decode b_C_assignment 16 = .ok (.invokestatic 82, 3) := by decide +kernel
theorem d_C_assignment_19 : decode b_C_assignment 19 = .ok (.ifCond .ne 5, 3) := by decide +kernel
theorem d_C_assignment_22 : decode b_C_assignment 22 = .ok (.iconst 0, 1) := by decide +kernel
theorem d_C_assignment_23 : decode b_C_assignment 23 = .ok (.ireturn, 1) := by decide +kernel
theorem d_C_assignment_24 : decode b_C_assignment 24 = .ok (.aload_n 0, 1) := by decide +kernel
theorem d_C_assignment_25 : decode b_C_assignment 25 = .ok (.iconst 0, 1) := by decide +kernel
theorem d_C_assignment_26 : decode b_C_assignment 26 = .ok (.invokevirtual 44, 3) := by decide +kernel
theorem d_C_assignment_29 : decode b_C_assignment 29 = .ok (.istore_n 2, 1) := by decide +kernel
theorem d_C_assignment_30 : decode b_C_assignment 30 = .ok (.iload_n 2, 1) := by decide +kernel
theorem d_C_assignment_31 : decode b_C_assignment 31 = .ok (.iconst (-1), 1) := by decide +kernel
theorem d_C_assignment_32 : decode b_C_assignment 32 = .ok (.if_icmp .eq 12, 3) := by decide +kernel
theorem d_C_assignment_35 : decode b_C_assignment 35 = .ok (.aload_n 0, 1) := by decide +kernel
theorem d_C_assignment_36 : decode b_C_assignment 36 = .ok (.bipush 59, 2) := by decide +kernel
theorem d_C_assignment_38 : decode b_C_assignment 38 = .ok (.invokevirtual 85, 3) := by decide +kernel
theorem d_C_assignment_41 : decode b_C_assignment 41 = .ok (.ifCond .ne 5, 3) := by decide +kernel
theorem d_C_assignment_44 : decode b_C_assignment 44 = .ok (.iconst 0, 1) := by decide +kernel
theorem d_C_assignment_45 : decode b_C_assignment 45 = .ok (.ireturn, 1) := by decide +kernel
theorem d_C_assignment_46 : decode b_C_assignment 46 = .ok (.aload_n 0, 1) := by decide +kernel
theorem d_C_assignment_47 : decode b_C_assignment 47 = .ok (.getfield 9, 3) := by decide +kernel
theorem d_C_assignment_50 : decode b_C_assignment 50 = .ok (.iload_n 1, 1) := by decide +kernel
theorem d_C_assignment_51 : decode b_C_assignment 51 = .ok (.bipush 97, 2) := by decide +kernel
theorem d_C_assignment_53 : decode b_C_assignment 53 = .ok (.isub, 1) := by decide +kernel
theorem d_C_assignment_54 : decode b_C_assignment 54 = .ok (.iload_n 2, 1) := by decide +kernel
theorem d_C_assignment_55 : decode b_C_assignment 55 = .ok (.iastore, 1) := by decide +kernel
theorem d_C_assignment_56 : decode b_C_assignment 56 = .ok (.iconst 1, 1) := by decide +kernel
theorem d_C_assignment_57 : decode b_C_assignment 57 = .ok (.ireturn, 1) := by decide +kernel
theorem d_C_sum_0 : decode b_C_sum 0 = .ok (.aload_n 0, 1) := by decide +kernel
theorem d_C_sum_1 : decode b_C_sum 1 = .ok (.iload_n 1, 1) := by decide +kernel
theorem d_C_sum_2 : decode b_C_sum 2 = .ok (.invokevirtual 88, 3) := by decide +kernel
theorem d_C_sum_5 : decode b_C_sum 5 = .ok (.istore_n 2, 1) := by decide +kernel
theorem d_C_sum_6 : decode b_C_sum 6 = .ok (.iconst 0, 1) := by decide +kernel
theorem d_C_sum_7 : decode b_C_sum 7 = .ok (.istore_n 3, 1) := by decide +kernel
theorem d_C_sum_8 : decode b_C_sum 8 = .ok (.iload_n 3, 1) := by decide +kernel
theorem d_C_sum_9 : decode b_C_sum 9 = .ok (.sipush 160, 3) := by decide +kernel
theorem d_C_sum_12 : decode b_C_sum 12 = .ok (.if_icmp .ge 64, 3) := by decide +kernel
theorem d_C_sum_15 : decode b_C_sum 15 = .ok (.iload_n 2, 1) := by decide +kernel
theorem d_C_sum_16 : decode b_C_sum 16 = .ok (.iconst (-1), 1) := by decide +kernel
theorem d_C_sum_17 : decode b_C_sum 17 = .ok (.if_icmp .eq 59, 3) := by decide +kernel
theorem d_C_sum_20 : decode b_C_sum 20 = .ok (.aload_n 0, 1) := by decide +kernel
theorem d_C_sum_21 : decode b_C_sum 21 = .ok (.bipush 43, 2) := by decide +kernel
theorem d_C_sum_23 : decode b_C_sum 23 = .ok (.invokevirtual 85, 3) := by decide +kernel
theorem d_C_sum_26 : decode b_C_sum 26 = .ok (.ifCond .eq 18, 3) := by decide +kernel
theorem d_C_sum_29 : decode b_C_sum 29 = .ok (.aload_n 0, 1) := by decide +kernel
theorem d_C_sum_30 : decode b_C_sum 30 = .ok (.iconst 2, 1) := by decide +kernel
theorem d_C_sum_31 : decode b_C_sum 31 = .ok (.iload_n 2, 1) := by decide +kernel
theorem d_C_sum_32 : decode b_C_sum 32 = .ok (.aload_n 0, 1) := by decide +kernel
theorem d_C_sum_33 : decode b_C_sum 33 = .ok (.iload_n 1, 1) := by decide +kernel
theorem d_C_sum_34 : decode b_C_sum 34 = .ok (.invokevirtual 88, 3) := by decide +kernel
theorem d_C_sum_37 : decode b_C_sum 37 = .ok (.invokevirtual 91, 3) := by decide +kernel
theorem d_C_sum_40 : decode b_C_sum 40 = .ok (.istore_n 2, 1) := by decide +kernel
theorem d_C_sum_41 : decode b_C_sum 41 = .ok (.goto 29, 3) := by decide +kernel
theorem d_C_sum_44 : decode b_C_sum 44 = .ok (.aload_n 0, 1) := by decide +kernel
theorem d_C_sum_45 : decode b_C_sum 45 = .ok (.bipush 45, 2) := by decide +kernel
theorem d_C_sum_47 : decode b_C_sum 47 = .ok (.invokevirtual 85, 3) := by decide +kernel
theorem d_C_sum_50 : decode b_C_sum 50 = .ok (.ifCond .eq 18, 3) := by decide +kernel
theorem d_C_sum_53 : decode b_C_sum 53 = .ok (.aload_n 0, 1) := by decide +kernel
theorem d_C_sum_54 : decode b_C_sum 54 = .ok (.iconst 3, 1) := by decide +kernel
theorem d_C_sum_55 : decode b_C_sum 55 = .ok (.iload_n 2, 1) := by decide +kernel
theorem d_C_sum_56 : decode b_C_sum 56 = .ok (.aload_n 0, 1) := by decide +kernel
theorem d_C_sum_57 : decode b_C_sum 57 = .ok (.iload_n 1, 1) := by decide +kernel
theorem d_C_sum_58 : decode b_C_sum 58 = .ok (.invokevirtual 88, 3) := by decide +kernel
theorem d_C_sum_61 : decode b_C_sum 61 = .ok (.invokevirtual 91, 3) := by decide +kernel
theorem d_C_sum_64 : decode b_C_sum 64 = .ok (.istore_n 2, 1) := by decide +kernel
theorem d_C_sum_65 : decode b_C_sum 65 = .ok (.goto 5, 3) := by decide +kernel
theorem d_C_sum_68 : decode b_C_sum 68 = .ok (.iload_n 2, 1) := by decide +kernel
theorem d_C_sum_69 : decode b_C_sum 69 = .ok (.ireturn, 1) := by decide +kernel
theorem d_C_sum_70 : decode b_C_sum 70 = .ok (.iinc 3 1, 3) := by decide +kernel
theorem d_C_sum_73 : decode b_C_sum 73 = .ok (.goto (-65), 3) := by decide +kernel
theorem d_C_sum_76 : decode b_C_sum 76 = .ok (.iconst (-1), 1) := by decide +kernel
theorem d_C_sum_77 : decode b_C_sum 77 = .ok (.ireturn, 1) := by decide +kernel
theorem d_C_product_0 : decode b_C_product 0 = .ok (.aload_n 0, 1) := by decide +kernel
theorem d_C_product_1 : decode b_C_product 1 = .ok (.iload_n 1, 1) := by decide +kernel
theorem d_C_product_2 : decode b_C_product 2 = .ok (.invokevirtual 95, 3) := by decide +kernel
theorem d_C_product_5 : decode b_C_product 5 = .ok (.istore_n 2, 1) := by decide +kernel
theorem d_C_product_6 : decode b_C_product 6 = .ok (.iconst 0, 1) := by decide +kernel
theorem d_C_product_7 : decode b_C_product 7 = .ok (.istore_n 3, 1) := by decide +kernel
theorem d_C_product_8 : decode b_C_product 8 = .ok (.iload_n 3, 1) := by decide +kernel
theorem d_C_product_9 : decode b_C_product 9 = .ok (.sipush 160, 3) := by decide +kernel
theorem d_C_product_12 : decode b_C_product 12 = .ok (.if_icmp .ge 62, 3) := by decide +kernel
theorem d_C_product_15 : decode b_C_product 15 = .ok (.iload_n 2, 1) := by decide +kernel
theorem d_C_product_16 : decode b_C_product 16 = .ok (.iconst (-1), 1) := by decide +kernel
theorem d_C_product_17 : decode b_C_product 17 = .ok (.if_icmp .eq 57, 3) := by decide +kernel
theorem d_C_product_20 : decode b_C_product 20 = .ok (.aload_n 0, 1) := by decide +kernel
theorem d_C_product_21 : decode b_C_product 21 = .ok (.bipush 42, 2) := by decide +kernel
theorem d_C_product_23 : decode b_C_product 23 = .ok (.invokevirtual 85, 3) := by decide +kernel
theorem d_C_product_26 : decode b_C_product 26 = .ok (.ifCond .eq 17, 3) := by decide +kernel
theorem d_C_product_29 : decode b_C_product 29 = .ok (.aload_n 0, 1) := by decide +kernel
theorem d_C_product_30 : decode b_C_product 30 = .ok (.iload_n 2, 1) := by decide +kernel
theorem d_C_product_31 : decode b_C_product 31 = .ok (.aload_n 0, 1) := by decide +kernel
theorem d_C_product_32 : decode b_C_product 32 = .ok (.iload_n 1, 1) := by decide +kernel
theorem d_C_product_33 : decode b_C_product 33 = .ok (.invokevirtual 95, 3) := by decide +kernel
theorem d_C_product_36 : decode b_C_product 36 = .ok (.invokevirtual 98, 3) := by decide +kernel
theorem d_C_product_39 : decode b_C_product 39 = .ok (.istore_n 2, 1) := by decide +kernel
theorem d_C_product_40 : decode b_C_product 40 = .ok (.goto 28, 3) := by decide +kernel
theorem d_C_product_43 : decode b_C_product 43 = .ok (.aload_n 0, 1) := by decide +kernel
theorem d_C_product_44 : decode b_C_product 44 = .ok (.bipush 47, 2) := by decide +kernel
theorem d_C_product_46 : decode b_C_product 46 = .ok (.invokevirtual 85, 3) := by decide +kernel
theorem d_C_product_49 : decode b_C_product 49 = .ok (.ifCond .eq 17, 3) := by decide +kernel
theorem d_C_product_52 : decode b_C_product 52 = .ok (.aload_n 0, 1) := by decide +kernel
theorem d_C_product_53 : decode b_C_product 53 = .ok (.iload_n 2, 1) := by decide +kernel
theorem d_C_product_54 : decode b_C_product 54 = .ok (.aload_n 0, 1) := by decide +kernel
theorem d_C_product_55 : decode b_C_product 55 = .ok (.iload_n 1, 1) := by decide +kernel
theorem d_C_product_56 : decode b_C_product 56 = .ok (.invokevirtual 95, 3) := by decide +kernel
theorem d_C_product_59 : decode b_C_product 59 = .ok (.invokevirtual 101, 3) := by decide +kernel
theorem d_C_product_62 : decode b_C_product 62 = .ok (.istore_n 2, 1) := by decide +kernel
theorem d_C_product_63 : decode b_C_product 63 = .ok (.goto 5, 3) := by decide +kernel
theorem d_C_product_66 : decode b_C_product 66 = .ok (.iload_n 2, 1) := by decide +kernel
theorem d_C_product_67 : decode b_C_product 67 = .ok (.ireturn, 1) := by decide +kernel
theorem d_C_product_68 : decode b_C_product 68 = .ok (.iinc 3 1, 3) := by decide +kernel
theorem d_C_product_71 : decode b_C_product 71 = .ok (.goto (-63), 3) := by decide +kernel
theorem d_C_product_74 : decode b_C_product 74 = .ok (.iconst (-1), 1) := by decide +kernel
theorem d_C_product_75 : decode b_C_product 75 = .ok (.ireturn, 1) := by decide +kernel
theorem d_C_unit_0 : decode b_C_unit 0 = .ok (.iconst 0, 1) := by decide +kernel
theorem d_C_unit_1 : decode b_C_unit 1 = .ok (.istore_n 2, 1) := by decide +kernel
theorem d_C_unit_2 : decode b_C_unit 2 = .ok (.iload_n 2, 1) := by decide +kernel
theorem d_C_unit_3 : decode b_C_unit 3 = .ok (.sipush 160, 3) := by decide +kernel
theorem d_C_unit_6 : decode b_C_unit 6 = .ok (.if_icmp .ge 18, 3) := by decide +kernel
theorem d_C_unit_9 : decode b_C_unit 9 = .ok (.aload_n 0, 1) := by decide +kernel
theorem d_C_unit_10 : decode b_C_unit 10 = .ok (.bipush 45, 2) := by decide +kernel
theorem d_C_unit_12 : decode b_C_unit 12 = .ok (.invokevirtual 85, 3) := by decide +kernel
theorem d_C_unit_15 : decode b_C_unit 15 = .ok (.ifCond .eq 9, 3) := by decide +kernel
theorem d_C_unit_18 : decode b_C_unit 18 = .ok (.iinc 2 1, 3) := by decide +kernel
theorem d_C_unit_21 : decode b_C_unit 21 = .ok (.goto (-19), 3) := by decide +kernel
theorem d_C_unit_24 : decode b_C_unit 24 = .ok (.aload_n 0, 1) := by decide +kernel
theorem d_C_unit_25 : decode b_C_unit 25 = .ok (.invokevirtual 74, 3) := by decide +kernel
theorem d_C_unit_28 : decode b_C_unit 28 = .ok (.invokestatic 104, 3) := by decide +kernel
theorem d_C_unit_31 : decode b_C_unit 31 = .ok (.ifCond .eq 10, 3) := by decide +kernel
theorem d_C_unit_34 : decode b_C_unit 34 = .ok (.aload_n 0, 1) := by decide +kernel
theorem d_C_unit_35 : decode b_C_unit 35 = .ok (.invokevirtual 107, 3) := by decide +kernel
theorem d_C_unit_38 : decode b_C_unit 38 = .ok (.goto 12, 3) := by decide +kernel
theorem d_C_unit_41 : decode b_C_unit 41 = .ok (.aload_n 0, 1) := by decide +kernel
theorem d_C_unit_42 : decode b_C_unit 42 = .ok (.aload_n 0, 1) := by decide +kernel
theorem d_C_unit_43 : decode b_C_unit 43 = .ok (.iload_n 1, 1) := by decide +kernel
theorem d_C_unit_44 : decode b_C_unit 44 = .ok (.invokevirtual 111, 3) := by decide +kernel
theorem d_C_unit_47 : decode b_C_unit 47 = .ok (.invokevirtual 114, 3) := by decide +kernel
theorem d_C_unit_50 : decode b_C_unit 50 = .ok (.istore_n 3, 1) := by decide +kernel
theorem d_C_unit_51 : decode b_C_unit 51 = .ok (.iconst 0, 1) := by decide +kernel
theorem d_C_unit_52 : decode b_C_unit 52 = .ok (.istore 4, 2) := by decide +kernel
theorem d_C_unit_54 : decode b_C_unit 54 = .ok (.iload 4, 2) := by decide +kernel
theorem d_C_unit_56 : decode b_C_unit 56 = .ok (.iload_n 2, 1) := by decide +kernel
theorem d_C_unit_57 : decode b_C_unit 57 = .ok (.if_icmp .ge 17, 3) := by decide +kernel
theorem d_C_unit_60 : decode b_C_unit 60 = .ok (.aload_n 0, 1) := by decide +kernel
theorem d_C_unit_61 : decode b_C_unit 61 = .ok (.bipush 9, 2) := by decide +kernel
theorem d_C_unit_63 : decode b_C_unit 63 = .ok (.iload_n 3, 1) := by decide +kernel
theorem d_C_unit_64 : decode b_C_unit 64 = .ok (.invokevirtual 117, 3) := by decide +kernel
theorem d_C_unit_67 : decode b_C_unit 67 = .ok (.istore_n 3, 1) := by decide +kernel
theorem d_C_unit_68 : decode b_C_unit 68 = .ok (.iinc 4 1, 3) := by decide +kernel
theorem d_C_unit_71 : decode b_C_unit 71 = .ok (.goto (-17), 3) := by decide +kernel
theorem d_C_unit_74 : decode b_C_unit 74 = .ok (.iload_n 3, 1) := by decide +kernel
theorem d_C_unit_75 : decode b_C_unit 75 = .ok (.ireturn, 1) := by decide +kernel
theorem d_C_part_0 : decode b_C_part 0 = .ok (.aload_n 0, 1) := by decide +kernel
theorem d_C_part_1 : decode b_C_part 1 = .ok (.invokevirtual 74, 3) := by decide +kernel
theorem d_C_part_4 : decode b_C_part 4 = .ok (.istore_n 2, 1) := by decide +kernel
theorem d_C_part_5 : decode b_C_part 5 = .ok (.iload_n 2, 1) := by decide +kernel
theorem d_C_part_6 : decode b_C_part 6 = .ok (.invokestatic 78, 3) := by decide +kernel
theorem d_C_part_9 : decode b_C_part 9 = .ok (.ifCond .eq 19, 3) := by decide +kernel
theorem d_C_part_12 : decode b_C_part 12 = .ok (.aload_n 0, 1) := by decide +kernel
theorem d_C_part_13 : decode b_C_part 13 = .ok (.dup, 1) := by decide +kernel
theorem d_C_part_14 : decode b_C_part 14 = .ok (.getfield 23, 3) := by decide +kernel
theorem d_C_part_17 : decode b_C_part 17 = .ok (.iconst 1, 1) := by decide +kernel
theorem d_C_part_18 : decode b_C_part 18 = .ok (.iadd, 1) := by decide +kernel
theorem d_C_part_19 : decode b_C_part 19 = .ok (.putfield 23, 3) := by decide +kernel
theorem d_C_part_22 : decode b_C_part 22 = .ok (.aload_n 0, 1) := by decide +kernel
theorem d_C_part_23 : decode b_C_part 23 = .ok (.iload_n 2, 1) := by decide +kernel
theorem d_C_part_24 : decode b_C_part 24 = .ok (.invokevirtual 120, 3) := by decide +kernel
theorem d_C_part_27 : decode b_C_part 27 = .ok (.ireturn, 1) := by decide +kernel
theorem d_C_part_28 : decode b_C_part 28 = .ok (.iload_n 1, 1) := by decide +kernel
theorem d_C_part_29 : decode b_C_part 29 = .ok (.iconst 5, 1) := by decide +kernel
theorem d_C_part_30 : decode b_C_part 30 = .ok (.if_icmp .lt 5, 3) := by decide +kernel
theorem d_C_part_33 : decode b_C_part 33 = .ok (.iconst (-1), 1) := by decide +kernel
theorem d_C_part_34 : decode b_C_part 34 = .ok (.ireturn, 1) := by decide +kernel
theorem d_C_part_35 : decode b_C_part 35 = .ok (.aload_n 0, 1) := by decide +kernel
theorem d_C_part_36 : decode b_C_part 36 = .ok (.bipush 40, 2) := by decide +kernel
theorem d_C_part_38 : decode b_C_part 38 = .ok (.invokevirtual 85, 3) := by decide +kernel
theorem d_C_part_41 : decode b_C_part 41 = .ok (.ifCond .eq 14, 3) := by decide +kernel
theorem d_C_part_44 : decode b_C_part 44 = .ok (.aload_n 0, 1) := by decide +kernel
theorem d_C_part_45 : decode b_C_part 45 = .ok (.iload_n 1, 1) := by decide +kernel
theorem d_C_part_46 : decode b_C_part 46 = .ok (.iconst 1, 1) := by decide +kernel
theorem d_C_part_47 : decode b_C_part 47 = .ok (.iadd, 1) := by decide +kernel
theorem d_C_part_48 : decode b_C_part 48 = .ok (.invokevirtual 44, 3) := by decide +kernel
theorem d_C_part_51 : decode b_C_part 51 = .ok (.istore_n 3, 1) := by decide +kernel
theorem d_C_part_52 : decode b_C_part 52 = .ok (.goto 35, 3) := by decide +kernel
theorem d_C_part_55 : decode b_C_part 55 = .ok (.aload_n 0, 1) := by decide +kernel
theorem d_C_part_56 : decode b_C_part 56 = .ok (.dup, 1) := by decide +kernel
theorem d_C_part_57 : decode b_C_part 57 = .ok (.getfield 23, 3) := by decide +kernel
theorem d_C_part_60 : decode b_C_part 60 = .ok (.iconst 1, 1) := by decide +kernel
theorem d_C_part_61 : decode b_C_part 61 = .ok (.iadd, 1) := by decide +kernel
theorem d_C_part_62 : decode b_C_part 62 = .ok (.putfield 23, 3) := by decide +kernel
theorem d_C_part_65 : decode b_C_part 65 = .ok (.aload_n 0, 1) := by decide +kernel
theorem d_C_part_66 : decode b_C_part 66 = .ok (.bipush 40, 2) := by decide +kernel
theorem d_C_part_68 : decode b_C_part 68 = .ok (.invokevirtual 85, 3) := by decide +kernel
theorem d_C_part_71 : decode b_C_part 71 = .ok (.ifCond .eq 14, 3) := by decide +kernel
theorem d_C_part_74 : decode b_C_part 74 = .ok (.aload_n 0, 1) := by decide +kernel
theorem d_C_part_75 : decode b_C_part 75 = .ok (.iload_n 2, 1) := by decide +kernel
theorem d_C_part_76 : decode b_C_part 76 = .ok (.iload_n 1, 1) := by decide +kernel
theorem d_C_part_77 : decode b_C_part 77 = .ok (.iconst 1, 1) := by decide +kernel
theorem d_C_part_78 : decode b_C_part 78 = .ok (.iadd, 1) := by decide +kernel
theorem d_C_part_79 : decode b_C_part 79 = .ok (.invokevirtual 124, 3) := by decide +kernel
theorem d_C_part_82 : decode b_C_part 82 = .ok (.goto 4, 3) := by decide +kernel
theorem d_C_part_85 : decode b_C_part 85 = .ok (.iconst (-1), 1) := by decide +kernel
theorem d_C_part_86 : decode b_C_part 86 = .ok (.istore_n 3, 1) := by decide +kernel
theorem d_C_part_87 : decode b_C_part 87 = .ok (.aload_n 0, 1) := by decide +kernel
theorem d_C_part_88 : decode b_C_part 88 = .ok (.bipush 41, 2) := by decide +kernel
theorem d_C_part_90 : decode b_C_part 90 = .ok (.invokevirtual 85, 3) := by decide +kernel
theorem d_C_part_93 : decode b_C_part 93 = .ok (.ifCond .eq 7, 3) := by decide +kernel
theorem d_C_part_96 : decode b_C_part 96 = .ok (.iload_n 3, 1) := by decide +kernel
theorem d_C_part_97 : decode b_C_part 97 = .ok (.goto 4, 3) := by decide +kernel
theorem d_C_part_100 : decode b_C_part 100 = .ok (.iconst (-1), 1) := by decide +kernel
theorem d_C_part_101 : decode b_C_part 101 = .ok (.ireturn, 1) := by decide +kernel
theorem d_C_letter_0 : decode b_C_letter 0 = .ok (.iload_n 1, 1) := by decide +kernel
theorem d_C_letter_1 : decode b_C_letter 1 = .ok (.lookupswitch 71 #[(99, 64), (116, 57), (120, 43), (121, 50)], 43) := by decide +kernel
theorem d_C_letter_44 : decode b_C_letter 44 = .ok (.aload_n 0, 1) := by decide +kernel
theorem d_C_letter_45 : decode b_C_letter 45 = .ok (.iconst 0, 1) := by decide +kernel
theorem d_C_letter_46 : decode b_C_letter 46 = .ok (.iconst 1, 1) := by decide +kernel
theorem d_C_letter_47 : decode b_C_letter 47 = .ok (.invokevirtual 128, 3) := by decide +kernel
theorem d_C_letter_50 : decode b_C_letter 50 = .ok (.ireturn, 1) := by decide +kernel
theorem d_C_letter_51 : decode b_C_letter 51 = .ok (.aload_n 0, 1) := by decide +kernel
theorem d_C_letter_52 : decode b_C_letter 52 = .ok (.iconst 1, 1) := by decide +kernel
theorem d_C_letter_53 : decode b_C_letter 53 = .ok (.iconst 1, 1) := by decide +kernel
theorem d_C_letter_54 : decode b_C_letter 54 = .ok (.invokevirtual 128, 3) := by decide +kernel
theorem d_C_letter_57 : decode b_C_letter 57 = .ok (.ireturn, 1) := by decide +kernel
theorem d_C_letter_58 : decode b_C_letter 58 = .ok (.aload_n 0, 1) := by decide +kernel
theorem d_C_letter_59 : decode b_C_letter 59 = .ok (.iconst 2, 1) := by decide +kernel
theorem d_C_letter_60 : decode b_C_letter 60 = .ok (.iconst 1, 1) := by decide +kernel
theorem d_C_letter_61 : decode b_C_letter 61 = .ok (.invokevirtual 128, 3) := by decide +kernel
theorem d_C_letter_64 : decode b_C_letter 64 = .ok (.ireturn, 1) := by decide +kernel
theorem d_C_letter_65 : decode b_C_letter 65 = .ok (.aload_n 0, 1) := by decide +kernel
theorem d_C_letter_66 : decode b_C_letter 66 = .ok (.iconst 3, 1) := by decide +kernel
theorem d_C_letter_67 : decode b_C_letter 67 = .ok (.iconst 3, 1) := by decide +kernel
theorem d_C_letter_68 : decode b_C_letter 68 = .ok (.invokevirtual 128, 3) := by decide +kernel
theorem d_C_letter_71 : decode b_C_letter 71 = .ok (.ireturn, 1) := by decide +kernel
theorem d_C_letter_72 : decode b_C_letter 72 = .ok (.aload_n 0, 1) := by decide +kernel
theorem d_C_letter_73 : decode b_C_letter 73 = .ok (.getfield 9, 3) := by decide +kernel
theorem d_C_letter_76 : decode b_C_letter 76 = .ok (.iload_n 1, 1) := by decide +kernel
theorem d_C_letter_77 : decode b_C_letter 77 = .ok (.bipush 97, 2) := by decide +kernel
theorem d_C_letter_79 : decode b_C_letter 79 = .ok (.isub, 1) := by decide +kernel
theorem d_C_letter_80 : decode b_C_letter 80 = .ok (.iaload, 1) := by decide +kernel
theorem d_C_letter_81 : decode b_C_letter 81 = .ok (.ireturn, 1) := by decide +kernel
theorem d_C_input_0 : decode b_C_input 0 = .ok (.iload_n 2, 1) := by decide +kernel
theorem d_C_input_1 : decode b_C_input 1 = .ok (.invokestatic 131, 3) := by decide +kernel
theorem d_C_input_4 : decode b_C_input 4 = .ok (.istore_n 3, 1) := by decide +kernel
theorem d_C_input_5 : decode b_C_input 5 = .ok (.iconst 0, 1) := by decide +kernel
theorem d_C_input_6 : decode b_C_input 6 = .ok (.istore 4, 2) := by decide +kernel
theorem d_C_input_8 : decode b_C_input 8 = .ok (.iload 4, 2) := by decide +kernel
theorem d_C_input_10 : decode b_C_input 10 = .ok (.iload_n 2, 1) := by decide +kernel
theorem d_C_input_11 : decode b_C_input 11 = .ok (.if_icmp .ge 29, 3) := by decide +kernel
theorem d_C_input_14 : decode b_C_input 14 = .ok (.iload_n 3, 1) := by decide +kernel
theorem d_C_input_15 : decode b_C_input 15 = .ok (.iload 4, 2) := by decide +kernel
theorem d_C_input_17 : decode b_C_input 17 = .ok (.aload_n 0, 1) := by decide +kernel
theorem d_C_input_18 : decode b_C_input 18 = .ok (.getfield 29, 3) := by decide +kernel
theorem d_C_input_21 : decode b_C_input 21 = .ok (.iconst 1, 1) := by decide +kernel
theorem d_C_input_22 : decode b_C_input 22 = .ok (.iload_n 1, 1) := by decide +kernel
theorem d_C_input_23 : decode b_C_input 23 = .ok (.iload 4, 2) := by decide +kernel
theorem d_C_input_25 : decode b_C_input 25 = .ok (.iadd, 1) := by decide +kernel
theorem d_C_input_26 : decode b_C_input 26 = .ok (.iconst 0, 1) := by decide +kernel
theorem d_C_input_27 : decode b_C_input 27 = .ok (.invokevirtual 134, 3) := by decide +kernel
theorem d_C_input_30 : decode b_C_input 30 = .ok (.invokestatic 137, 3) := by decide +kernel
theorem d_C_input_33 : decode b_C_input 33 = .ok (.istore_n 3, 1) := by decide +kernel
theorem d_C_input_34 : decode b_C_input 34 = .ok (.iinc 4 1, 3) := by decide +kernel
theorem d_C_input_37 : decode b_C_input 37 = .ok (.goto (-29), 3) := by decide +kernel
theorem d_C_input_40 : decode b_C_input 40 = .ok (.iload_n 3, 1) := by decide +kernel
theorem d_C_input_41 : decode b_C_input 41 = .ok (.ireturn, 1) := by decide +kernel
theorem d_C_constant_0 : decode b_C_constant 0 = .ok (.iconst 0, 1) := by decide +kernel
theorem d_C_constant_1 : decode b_C_constant 1 = .ok (.istore_n 1, 1) := by decide +kernel
theorem d_C_constant_2 : decode b_C_constant 2 = .ok (.iconst 0, 1) := by decide +kernel
theorem d_C_constant_3 : decode b_C_constant 3 = .ok (.istore_n 2, 1) := by decide +kernel
theorem d_C_constant_4 : decode b_C_constant 4 = .ok (.iload_n 2, 1) := by decide +kernel
theorem d_C_constant_5 : decode b_C_constant 5 = .ok (.iconst 4, 1) := by decide +kernel
theorem d_C_constant_6 : decode b_C_constant 6 = .ok (.if_icmp .ge 29, 3) := by decide +kernel
theorem d_C_constant_9 : decode b_C_constant 9 = .ok (.aload_n 0, 1) := by decide +kernel
theorem d_C_constant_10 : decode b_C_constant 10 = .ok (.invokevirtual 74, 3) := by decide +kernel
theorem d_C_constant_13 : decode b_C_constant 13 = .ok (.invokestatic 104, 3) := by decide +kernel
theorem d_C_constant_16 : decode b_C_constant 16 = .ok (.ifCond .eq 19, 3) := by decide +kernel
theorem d_C_constant_19 : decode b_C_constant 19 = .ok (.iload_n 1, 1) := by decide +kernel
theorem d_C_constant_20 : decode b_C_constant 20 = .ok (.bipush 10, 2) := by decide +kernel
theorem d_C_constant_22 : decode b_C_constant 22 = .ok (.imul, 1) := by decide +kernel
theorem d_C_constant_23 : decode b_C_constant 23 = .ok (.aload_n 0, 1) := by decide +kernel
theorem d_C_constant_24 : decode b_C_constant 24 = .ok (.invokevirtual 140, 3) := by decide +kernel
theorem d_C_constant_27 : decode b_C_constant 27 = .ok (.iadd, 1) := by decide +kernel
theorem d_C_constant_28 : decode b_C_constant 28 = .ok (.istore_n 1, 1) := by decide +kernel
theorem d_C_constant_29 : decode b_C_constant 29 = .ok (.iinc 2 1, 3) := by decide +kernel
theorem d_C_constant_32 : decode b_C_constant 32 = .ok (.goto (-28), 3) := by decide +kernel
theorem d_C_constant_35 : decode b_C_constant 35 = .ok (.iconst 1, 1) := by decide +kernel
theorem d_C_constant_36 : decode b_C_constant 36 = .ok (.istore_n 2, 1) := by decide +kernel
theorem d_C_constant_37 : decode b_C_constant 37 = .ok (.iconst 0, 1) := by decide +kernel
theorem d_C_constant_38 : decode b_C_constant 38 = .ok (.istore_n 3, 1) := by decide +kernel
theorem d_C_constant_39 : decode b_C_constant 39 = .ok (.aload_n 0, 1) := by decide +kernel
theorem d_C_constant_40 : decode b_C_constant 40 = .ok (.bipush 46, 2) := by decide +kernel
theorem d_C_constant_42 : decode b_C_constant 42 = .ok (.invokevirtual 85, 3) := by decide +kernel
theorem d_C_constant_45 : decode b_C_constant 45 = .ok (.ifCond .eq 50, 3) := by decide +kernel
theorem d_C_constant_48 : decode b_C_constant 48 = .ok (.iconst 0, 1) := by decide +kernel
theorem d_C_constant_49 : decode b_C_constant 49 = .ok (.istore 4, 2) := by decide +kernel
theorem d_C_constant_51 : decode b_C_constant 51 = .ok (.iload 4, 2) := by decide +kernel
theorem d_C_constant_53 : decode b_C_constant 53 = .ok (.iconst 4, 1) := by decide +kernel
theorem d_C_constant_54 : decode b_C_constant 54 = .ok (.if_icmp .ge 34, 3) := by decide +kernel
theorem d_C_constant_57 : decode b_C_constant 57 = .ok (.aload_n 0, 1) := by decide +kernel
theorem d_C_constant_58 : decode b_C_constant 58 = .ok (.invokevirtual 74, 3) := by decide +kernel
theorem d_C_constant_61 : decode b_C_constant 61 = .ok (.invokestatic 104, 3) := by decide +kernel
theorem d_C_constant_64 : decode b_C_constant 64 = .ok (.ifCond .eq 24, 3) := by decide +kernel
theorem d_C_constant_67 : decode b_C_constant 67 = .ok (.iload_n 3, 1) := by decide +kernel
theorem d_C_constant_68 : decode b_C_constant 68 = .ok (.bipush 10, 2) := by decide +kernel
theorem d_C_constant_70 : decode b_C_constant 70 = .ok (.imul, 1) := by decide +kernel
theorem d_C_constant_71 : decode b_C_constant 71 = .ok (.aload_n 0, 1) := by decide +kernel
theorem d_C_constant_72 : decode b_C_constant 72 = .ok (.invokevirtual 140, 3) := by decide +kernel
theorem d_C_constant_75 : decode b_C_constant 75 = .ok (.iadd, 1) := by decide +kernel
theorem d_C_constant_76 : decode b_C_constant 76 = .ok (.istore_n 3, 1) := by decide +kernel
theorem d_C_constant_77 : decode b_C_constant 77 = .ok (.iload_n 2, 1) := by decide +kernel
theorem d_C_constant_78 : decode b_C_constant 78 = .ok (.bipush 10, 2) := by decide +kernel
theorem d_C_constant_80 : decode b_C_constant 80 = .ok (.imul, 1) := by decide +kernel
theorem d_C_constant_81 : decode b_C_constant 81 = .ok (.istore_n 2, 1) := by decide +kernel
theorem d_C_constant_82 : decode b_C_constant 82 = .ok (.iinc 4 1, 3) := by decide +kernel
theorem d_C_constant_85 : decode b_C_constant 85 = .ok (.goto (-34), 3) := by decide +kernel
theorem d_C_constant_88 : decode b_C_constant 88 = .ok (.iload_n 2, 1) := by decide +kernel
theorem d_C_constant_89 : decode b_C_constant 89 = .ok (.iconst 1, 1) := by decide +kernel
theorem d_C_constant_90 : decode b_C_constant 90 = .ok (.if_icmp .ne 5, 3) := by decide +kernel
theorem d_C_constant_93 : decode b_C_constant 93 = .ok (.iconst (-1), 1) := by decide +kernel
theorem d_C_constant_94 : decode b_C_constant 94 = .ok (.ireturn, 1) := by decide +kernel
theorem d_C_constant_95 : decode b_C_constant 95 = .ok (.iload_n 1, 1) := by decide +kernel
theorem d_C_constant_96 : decode b_C_constant 96 = .ok (.ldc 143, 2) := by decide +kernel
theorem d_C_constant_98 : decode b_C_constant 98 = .ok (.imul, 1) := by decide +kernel
theorem d_C_constant_99 : decode b_C_constant 99 = .ok (.iload_n 3, 1) := by decide +kernel
theorem d_C_constant_100 : decode b_C_constant 100 = .ok (.ldc 143, 2) := by decide +kernel
theorem d_C_constant_102 : decode b_C_constant 102 = .ok (.imul, 1) := by decide +kernel
theorem d_C_constant_103 : decode b_C_constant 103 = .ok (.iload_n 2, 1) := by decide +kernel
theorem d_C_constant_104 : decode b_C_constant 104 = .ok (.idiv, 1) := by decide +kernel
theorem d_C_constant_105 : decode b_C_constant 105 = .ok (.iadd, 1) := by decide +kernel
theorem d_C_constant_106 : decode b_C_constant 106 = .ok (.istore 4, 2) := by decide +kernel
theorem d_C_constant_108 : decode b_C_constant 108 = .ok (.iconst 1, 1) := by decide +kernel
theorem d_C_constant_109 : decode b_C_constant 109 = .ok (.invokestatic 131, 3) := by decide +kernel
theorem d_C_constant_112 : decode b_C_constant 112 = .ok (.iconst 0, 1) := by decide +kernel
theorem d_C_constant_113 : decode b_C_constant 113 = .ok (.aload_n 0, 1) := by decide +kernel
theorem d_C_constant_114 : decode b_C_constant 114 = .ok (.getfield 29, 3) := by decide +kernel
theorem d_C_constant_117 : decode b_C_constant 117 = .ok (.iconst 0, 1) := by decide +kernel
theorem d_C_constant_118 : decode b_C_constant 118 = .ok (.iload 4, 2) := by decide +kernel
theorem d_C_constant_120 : decode b_C_constant 120 = .ok (.iconst 0, 1) := by decide +kernel
theorem d_C_constant_121 : decode b_C_constant 121 = .ok (.invokevirtual 134, 3) := by decide +kernel
theorem d_C_constant_124 : decode b_C_constant 124 = .ok (.invokestatic 137, 3) := by decide +kernel
theorem d_C_constant_127 : decode b_C_constant 127 = .ok (.ireturn, 1) := by decide +kernel
theorem d_C_digit_0 : decode b_C_digit 0 = .ok (.aload_n 0, 1) := by decide +kernel
theorem d_C_digit_1 : decode b_C_digit 1 = .ok (.invokevirtual 74, 3) := by decide +kernel
theorem d_C_digit_4 : decode b_C_digit 4 = .ok (.bipush 48, 2) := by decide +kernel
theorem d_C_digit_6 : decode b_C_digit 6 = .ok (.isub, 1) := by decide +kernel
theorem d_C_digit_7 : decode b_C_digit 7 = .ok (.istore_n 1, 1) := by decide +kernel
theorem d_C_digit_8 : decode b_C_digit 8 = .ok (.aload_n 0, 1) := by decide +kernel
theorem d_C_digit_9 : decode b_C_digit 9 = .ok (.dup, 1) := by decide +kernel
theorem d_C_digit_10 : decode b_C_digit 10 = .ok (.getfield 23, 3) := by decide +kernel
theorem d_C_digit_13 : decode b_C_digit 13 = .ok (.iconst 1, 1) := by decide +kernel
theorem d_C_digit_14 : decode b_C_digit 14 = .ok (.iadd, 1) := by decide +kernel
theorem d_C_digit_15 : decode b_C_digit 15 = .ok (.putfield 23, 3) := by decide +kernel
theorem d_C_digit_18 : decode b_C_digit 18 = .ok (.iload_n 1, 1) := by decide +kernel
theorem d_C_digit_19 : decode b_C_digit 19 = .ok (.ireturn, 1) := by decide +kernel
theorem d_C_picked_0 : decode b_C_picked 0 = .ok (.iload_n 1, 1) := by decide +kernel
theorem d_C_picked_1 : decode b_C_picked 1 = .ok (.iconst (-1), 1) := by decide +kernel
theorem d_C_picked_2 : decode b_C_picked 2 = .ok (.if_icmp .eq 12, 3) := by decide +kernel
theorem d_C_picked_5 : decode b_C_picked 5 = .ok (.aload_n 0, 1) := by decide +kernel
theorem d_C_picked_6 : decode b_C_picked 6 = .ok (.bipush 46, 2) := by decide +kernel
theorem d_C_picked_8 : decode b_C_picked 8 = .ok (.invokevirtual 85, 3) := by decide +kernel
theorem d_C_picked_11 : decode b_C_picked 11 = .ok (.ifCond .ne 5, 3) := by decide +kernel
theorem d_C_picked_14 : decode b_C_picked 14 = .ok (.iload_n 1, 1) := by decide +kernel
theorem d_C_picked_15 : decode b_C_picked 15 = .ok (.ireturn, 1) := by decide +kernel
theorem d_C_picked_16 : decode b_C_picked 16 = .ok (.iconst 0, 1) := by decide +kernel
theorem d_C_picked_17 : decode b_C_picked 17 = .ok (.istore_n 2, 1) := by decide +kernel
theorem d_C_picked_18 : decode b_C_picked 18 = .ok (.iload_n 2, 1) := by decide +kernel
theorem d_C_picked_19 : decode b_C_picked 19 = .ok (.iconst 3, 1) := by decide +kernel
theorem d_C_picked_20 : decode b_C_picked 20 = .ok (.if_icmp .ge 39, 3) := by decide +kernel
theorem d_C_picked_23 : decode b_C_picked 23 = .ok (.aload_n 0, 1) := by decide +kernel
theorem d_C_picked_24 : decode b_C_picked 24 = .ok (.getfield 23, 3) := by decide +kernel
theorem d_C_picked_27 : decode b_C_picked 27 = .ok (.iload_n 2, 1) := by decide +kernel
theorem d_C_picked_28 : decode b_C_picked 28 = .ok (.iadd, 1) := by decide +kernel
theorem d_C_picked_29 : decode b_C_picked 29 = .ok (.aload_n 0, 1) := by decide +kernel
theorem d_C_picked_30 : decode b_C_picked 30 = .ok (.getfield 19, 3) := by decide +kernel
theorem d_C_picked_33 : decode b_C_picked 33 = .ok (.if_icmp .ge 26, 3) := by decide +kernel
theorem d_C_picked_36 : decode b_C_picked 36 = .ok (.aload_n 0, 1) := by decide +kernel
theorem d_C_picked_37 : decode b_C_picked 37 = .ok (.getfield 15, 3) := by decide +kernel
theorem d_C_picked_40 : decode b_C_picked 40 = .ok (.aload_n 0, 1) := by decide +kernel
theorem d_C_picked_41 : decode b_C_picked 41 = .ok (.getfield 23, 3) := by decide +kernel
theorem d_C_picked_44 : decode b_C_picked 44 = .ok (.iload_n 2, 1) := by decide +kernel
theorem d_C_picked_45 : decode b_C_picked 45 = .ok (.iadd, 1) := by decide +kernel
theorem d_C_picked_46 : decode b_C_picked 46 = .ok (.caload, 1) := by decide +kernel
theorem d_C_picked_47 : decode b_C_picked 47 = .ok (.invokestatic 144, 3) := by decide +kernel
theorem d_C_picked_50 : decode b_C_picked 50 = .ok (.ifCond .eq 9, 3) := by decide +kernel
theorem d_C_picked_53 : decode b_C_picked 53 = .ok (.iinc 2 1, 3) := by decide +kernel
theorem d_C_picked_56 : decode b_C_picked 56 = .ok (.goto (-38), 3) := by decide +kernel
theorem d_C_picked_59 : decode b_C_picked 59 = .ok (.iload_n 2, 1) := by decide +kernel
theorem d_C_picked_60 : decode b_C_picked 60 = .ok (.ifCond .eq 11, 3) := by decide +kernel
theorem d_C_picked_63 : decode b_C_picked 63 = .ok (.iload_n 1, 1) := by decide +kernel
theorem d_C_picked_64 : decode b_C_picked 64 = .ok (.invokestatic 48, 3) := by decide +kernel
theorem d_C_picked_67 : decode b_C_picked 67 = .ok (.iconst 4, 1) := by decide +kernel
theorem d_C_picked_68 : decode b_C_picked 68 = .ok (.if_icmp .ne 5, 3) := by decide +kernel
theorem d_C_picked_71 : decode b_C_picked 71 = .ok (.iconst (-1), 1) := by decide +kernel
theorem d_C_picked_72 : decode b_C_picked 72 = .ok (.ireturn, 1) := by decide +kernel
theorem d_C_picked_73 : decode b_C_picked 73 = .ok (.iload_n 2, 1) := by decide +kernel
theorem d_C_picked_74 : decode b_C_picked 74 = .ok (.invokestatic 131, 3) := by decide +kernel
theorem d_C_picked_77 : decode b_C_picked 77 = .ok (.istore_n 3, 1) := by decide +kernel
theorem d_C_picked_78 : decode b_C_picked 78 = .ok (.iconst 0, 1) := by decide +kernel
theorem d_C_picked_79 : decode b_C_picked 79 = .ok (.istore 4, 2) := by decide +kernel
theorem d_C_picked_81 : decode b_C_picked 81 = .ok (.iload 4, 2) := by decide +kernel
theorem d_C_picked_83 : decode b_C_picked 83 = .ok (.iload_n 2, 1) := by decide +kernel
theorem d_C_picked_84 : decode b_C_picked 84 = .ok (.if_icmp .ge 50, 3) := by decide +kernel
theorem d_C_picked_87 : decode b_C_picked 87 = .ok (.aload_n 0, 1) := by decide +kernel
theorem d_C_picked_88 : decode b_C_picked 88 = .ok (.getfield 15, 3) := by decide +kernel
theorem d_C_picked_91 : decode b_C_picked 91 = .ok (.aload_n 0, 1) := by decide +kernel
theorem d_C_picked_92 : decode b_C_picked 92 = .ok (.getfield 23, 3) := by decide +kernel
theorem d_C_picked_95 : decode b_C_picked 95 = .ok (.iload 4, 2) := by decide +kernel
theorem d_C_picked_97 : decode b_C_picked 97 = .ok (.iadd, 1) := by decide +kernel
theorem d_C_picked_98 : decode b_C_picked 98 = .ok (.caload, 1) := by decide +kernel
theorem d_C_picked_99 : decode b_C_picked 99 = .ok (.bipush 120, 2) := by decide +kernel
theorem d_C_picked_101 : decode b_C_picked 101 = .ok (.isub, 1) := by decide +kernel
theorem d_C_picked_102 : decode b_C_picked 102 = .ok (.istore 5, 2) := by decide +kernel
theorem d_C_picked_104 : decode b_C_picked 104 = .ok (.iload 5, 2) := by decide +kernel
theorem d_C_picked_106 : decode b_C_picked 106 = .ok (.iload_n 1, 1) := by decide +kernel
theorem d_C_picked_107 : decode b_C_picked 107 = .ok (.invokestatic 48, 3) := by decide +kernel
theorem d_C_picked_110 : decode b_C_picked 110 = .ok (.if_icmp .lt 5, 3) := by decide +kernel
theorem d_C_picked_113 : decode b_C_picked 113 = .ok (.iconst (-1), 1) := by decide +kernel
theorem d_C_picked_114 : decode b_C_picked 114 = .ok (.ireturn, 1) := by decide +kernel
theorem d_C_picked_115 : decode b_C_picked 115 = .ok (.iload_n 3, 1) := by decide +kernel
theorem d_C_picked_116 : decode b_C_picked 116 = .ok (.iload 4, 2) := by decide +kernel
theorem d_C_picked_118 : decode b_C_picked 118 = .ok (.iload_n 1, 1) := by decide +kernel
theorem d_C_picked_119 : decode b_C_picked 119 = .ok (.iload 5, 2) := by decide +kernel
theorem d_C_picked_121 : decode b_C_picked 121 = .ok (.invokestatic 67, 3) := by decide +kernel
theorem d_C_picked_124 : decode b_C_picked 124 = .ok (.invokestatic 137, 3) := by decide +kernel
theorem d_C_picked_127 : decode b_C_picked 127 = .ok (.istore_n 3, 1) := by decide +kernel
theorem d_C_picked_128 : decode b_C_picked 128 = .ok (.iinc 4 1, 3) := by decide +kernel
theorem d_C_picked_131 : decode b_C_picked 131 = .ok (.goto (-50), 3) := by decide +kernel
theorem d_C_picked_134 : decode b_C_picked 134 = .ok (.aload_n 0, 1) := by decide +kernel
theorem d_C_picked_135 : decode b_C_picked 135 = .ok (.dup, 1) := by decide +kernel
theorem d_C_picked_136 : decode b_C_picked 136 = .ok (.getfield 23, 3) := by decide +kernel
theorem d_C_picked_139 : decode b_C_picked 139 = .ok (.iload_n 2, 1) := by decide +kernel
theorem d_C_picked_140 : decode b_C_picked 140 = .ok (.iadd, 1) := by decide +kernel
theorem d_C_picked_141 : decode b_C_picked 141 = .ok (.putfield 23, 3) := by decide +kernel
theorem d_C_picked_144 : decode b_C_picked 144 = .ok (.iload_n 3, 1) := by decide +kernel
theorem d_C_picked_145 : decode b_C_picked 145 = .ok (.ireturn, 1) := by decide +kernel
theorem d_C_function_0 : decode b_C_function 0 = .ok (.iload_n 1, 1) := by decide +kernel
theorem d_C_function_1 : decode b_C_function 1 = .ok (.lookupswitch 65 #[(65, 35), (70, 47), (86, 59)], 35) := by decide +kernel
theorem d_C_function_36 : decode b_C_function 36 = .ok (.aload_n 0, 1) := by decide +kernel
theorem d_C_function_37 : decode b_C_function 37 = .ok (.bipush 10, 2) := by decide +kernel
theorem d_C_function_39 : decode b_C_function 39 = .ok (.aload_n 0, 1) := by decide +kernel
theorem d_C_function_40 : decode b_C_function 40 = .ok (.iload_n 2, 1) := by decide +kernel
theorem d_C_function_41 : decode b_C_function 41 = .ok (.invokevirtual 44, 3) := by decide +kernel
theorem d_C_function_44 : decode b_C_function 44 = .ok (.invokevirtual 117, 3) := by decide +kernel
theorem d_C_function_47 : decode b_C_function 47 = .ok (.ireturn, 1) := by decide +kernel
theorem d_C_function_48 : decode b_C_function 48 = .ok (.aload_n 0, 1) := by decide +kernel
theorem d_C_function_49 : decode b_C_function 49 = .ok (.bipush 11, 2) := by decide +kernel
theorem d_C_function_51 : decode b_C_function 51 = .ok (.aload_n 0, 1) := by decide +kernel
theorem d_C_function_52 : decode b_C_function 52 = .ok (.iload_n 2, 1) := by decide +kernel
theorem d_C_function_53 : decode b_C_function 53 = .ok (.invokevirtual 44, 3) := by decide +kernel
theorem d_C_function_56 : decode b_C_function 56 = .ok (.invokevirtual 117, 3) := by decide +kernel
theorem d_C_function_59 : decode b_C_function 59 = .ok (.ireturn, 1) := by decide +kernel
theorem d_C_function_60 : decode b_C_function 60 = .ok (.aload_n 0, 1) := by decide +kernel
theorem d_C_function_61 : decode b_C_function 61 = .ok (.iload_n 2, 1) := by decide +kernel
theorem d_C_function_62 : decode b_C_function 62 = .ok (.invokevirtual 147, 3) := by decide +kernel
theorem d_C_function_65 : decode b_C_function 65 = .ok (.ireturn, 1) := by decide +kernel
theorem d_C_function_66 : decode b_C_function 66 = .ok (.aload_n 0, 1) := by decide +kernel
theorem d_C_function_67 : decode b_C_function 67 = .ok (.iload_n 1, 1) := by decide +kernel
theorem d_C_function_68 : decode b_C_function 68 = .ok (.iload_n 2, 1) := by decide +kernel
theorem d_C_function_69 : decode b_C_function 69 = .ok (.invokevirtual 150, 3) := by decide +kernel
theorem d_C_function_72 : decode b_C_function 72 = .ok (.ireturn, 1) := by decide +kernel
theorem d_C_functionOfTwo_0 : decode b_C_functionOfTwo 0 = .ok (.aload_n 0, 1) := by decide +kernel
theorem d_C_functionOfTwo_1 : decode b_C_functionOfTwo 1 = .ok (.iload_n 2, 1) := by decide +kernel
theorem d_C_functionOfTwo_2 : decode b_C_functionOfTwo 2 = .ok (.invokevirtual 44, 3) := by decide +kernel
theorem d_C_functionOfTwo_5 : decode b_C_functionOfTwo 5 = .ok (.istore_n 3, 1) := by decide +kernel
theorem d_C_functionOfTwo_6 : decode b_C_functionOfTwo 6 = .ok (.aload_n 0, 1) := by decide +kernel
theorem d_C_functionOfTwo_7 : decode b_C_functionOfTwo 7 = .ok (.bipush 44, 2) := by decide +kernel
theorem d_C_functionOfTwo_9 : decode b_C_functionOfTwo 9 = .ok (.invokevirtual 85, 3) := by decide +kernel
theorem d_C_functionOfTwo_12 : decode b_C_functionOfTwo 12 = .ok (.ifCond .eq 11, 3) := by decide +kernel
theorem d_C_functionOfTwo_15 : decode b_C_functionOfTwo 15 = .ok (.aload_n 0, 1) := by decide +kernel
theorem d_C_functionOfTwo_16 : decode b_C_functionOfTwo 16 = .ok (.iload_n 2, 1) := by decide +kernel
theorem d_C_functionOfTwo_17 : decode b_C_functionOfTwo 17 = .ok (.invokevirtual 44, 3) := by decide +kernel
theorem d_C_functionOfTwo_20 : decode b_C_functionOfTwo 20 = .ok (.goto 4, 3) := by decide +kernel
theorem d_C_functionOfTwo_23 : decode b_C_functionOfTwo 23 = .ok (.iconst (-1), 1) := by decide +kernel
theorem d_C_functionOfTwo_24 : decode b_C_functionOfTwo 24 = .ok (.istore 4, 2) := by decide +kernel
theorem d_C_functionOfTwo_26 : decode b_C_functionOfTwo 26 = .ok (.iload_n 1, 1) := by decide +kernel
theorem d_C_functionOfTwo_27 : decode b_C_functionOfTwo 27 = .ok (.lookupswitch 95 #[(68, 79), (77, 87), (78, 49), (83, 69), (88, 59)], 49) := by decide +kernel
theorem d_C_functionOfTwo_76 : decode b_C_functionOfTwo 76 = .ok (.aload_n 0, 1) := by decide +kernel
theorem d_C_functionOfTwo_77 : decode b_C_functionOfTwo 77 = .ok (.bipush 6, 2) := by decide +kernel
theorem d_C_functionOfTwo_79 : decode b_C_functionOfTwo 79 = .ok (.iload_n 3, 1) := by decide +kernel
theorem d_C_functionOfTwo_80 : decode b_C_functionOfTwo 80 = .ok (.iload 4, 2) := by decide +kernel
theorem d_C_functionOfTwo_82 : decode b_C_functionOfTwo 82 = .ok (.invokevirtual 91, 3) := by decide +kernel
theorem d_C_functionOfTwo_85 : decode b_C_functionOfTwo 85 = .ok (.ireturn, 1) := by decide +kernel
theorem d_C_functionOfTwo_86 : decode b_C_functionOfTwo 86 = .ok (.aload_n 0, 1) := by decide +kernel
theorem d_C_functionOfTwo_87 : decode b_C_functionOfTwo 87 = .ok (.bipush 7, 2) := by decide +kernel
theorem d_C_functionOfTwo_89 : decode b_C_functionOfTwo 89 = .ok (.iload_n 3, 1) := by decide +kernel
theorem d_C_functionOfTwo_90 : decode b_C_functionOfTwo 90 = .ok (.iload 4, 2) := by decide +kernel
theorem d_C_functionOfTwo_92 : decode b_C_functionOfTwo 92 = .ok (.invokevirtual 91, 3) := by decide +kernel
theorem d_C_functionOfTwo_95 : decode b_C_functionOfTwo 95 = .ok (.ireturn, 1) := by decide +kernel
theorem d_C_functionOfTwo_96 : decode b_C_functionOfTwo 96 = .ok (.aload_n 0, 1) := by decide +kernel
theorem d_C_functionOfTwo_97 : decode b_C_functionOfTwo 97 = .ok (.bipush 8, 2) := by decide +kernel
theorem d_C_functionOfTwo_99 : decode b_C_functionOfTwo 99 = .ok (.iload_n 3, 1) := by decide +kernel
theorem d_C_functionOfTwo_100 : decode b_C_functionOfTwo 100 = .ok (.iload 4, 2) := by decide +kernel
theorem d_C_functionOfTwo_102 : decode b_C_functionOfTwo 102 = .ok (.invokevirtual 91, 3) := by decide +kernel
theorem d_C_functionOfTwo_105 : decode b_C_functionOfTwo 105 = .ok (.ireturn, 1) := by decide +kernel
theorem d_C_functionOfTwo_106 : decode b_C_functionOfTwo 106 = .ok (.aload_n 0, 1) := by decide +kernel
theorem d_C_functionOfTwo_107 : decode b_C_functionOfTwo 107 = .ok (.iload_n 3, 1) := by decide +kernel
theorem d_C_functionOfTwo_108 : decode b_C_functionOfTwo 108 = .ok (.iload 4, 2) := by decide +kernel
theorem d_C_functionOfTwo_110 : decode b_C_functionOfTwo 110 = .ok (.invokevirtual 153, 3) := by decide +kernel
theorem d_C_functionOfTwo_113 : decode b_C_functionOfTwo 113 = .ok (.ireturn, 1) := by decide +kernel
theorem d_C_functionOfTwo_114 : decode b_C_functionOfTwo 114 = .ok (.aload_n 0, 1) := by decide +kernel
theorem d_C_functionOfTwo_115 : decode b_C_functionOfTwo 115 = .ok (.iload_n 3, 1) := by decide +kernel
theorem d_C_functionOfTwo_116 : decode b_C_functionOfTwo 116 = .ok (.iload 4, 2) := by decide +kernel
theorem d_C_functionOfTwo_118 : decode b_C_functionOfTwo 118 = .ok (.invokevirtual 156, 3) := by decide +kernel
theorem d_C_functionOfTwo_121 : decode b_C_functionOfTwo 121 = .ok (.ireturn, 1) := by decide +kernel
theorem d_C_functionOfTwo_122 : decode b_C_functionOfTwo 122 = .ok (.iconst (-1), 1) := by decide +kernel
theorem d_C_functionOfTwo_123 : decode b_C_functionOfTwo 123 = .ok (.ireturn, 1) := by decide +kernel
theorem d_C_vector_0 : decode b_C_vector 0 = .ok (.aload_n 0, 1) := by decide +kernel
theorem d_C_vector_1 : decode b_C_vector 1 = .ok (.iload_n 1, 1) := by decide +kernel
theorem d_C_vector_2 : decode b_C_vector 2 = .ok (.invokevirtual 44, 3) := by decide +kernel
theorem d_C_vector_5 : decode b_C_vector 5 = .ok (.istore_n 2, 1) := by decide +kernel
theorem d_C_vector_6 : decode b_C_vector 6 = .ok (.iconst 0, 1) := by decide +kernel
theorem d_C_vector_7 : decode b_C_vector 7 = .ok (.istore_n 3, 1) := by decide +kernel
theorem d_C_vector_8 : decode b_C_vector 8 = .ok (.iload_n 3, 1) := by decide +kernel
theorem d_C_vector_9 : decode b_C_vector 9 = .ok (.iconst 2, 1) := by decide +kernel
theorem d_C_vector_10 : decode b_C_vector 10 = .ok (.if_icmp .ge 29, 3) := by decide +kernel
theorem d_C_vector_13 : decode b_C_vector 13 = .ok (.aload_n 0, 1) := by decide +kernel
theorem d_C_vector_14 : decode b_C_vector 14 = .ok (.bipush 44, 2) := by decide +kernel
theorem d_C_vector_16 : decode b_C_vector 16 = .ok (.invokevirtual 85, 3) := by decide +kernel
theorem d_C_vector_19 : decode b_C_vector 19 = .ok (.ifCond .eq 20, 3) := by decide +kernel
theorem d_C_vector_22 : decode b_C_vector 22 = .ok (.aload_n 0, 1) := by decide +kernel
theorem d_C_vector_23 : decode b_C_vector 23 = .ok (.iload_n 2, 1) := by decide +kernel
theorem d_C_vector_24 : decode b_C_vector 24 = .ok (.aload_n 0, 1) := by decide +kernel
theorem d_C_vector_25 : decode b_C_vector 25 = .ok (.iload_n 1, 1) := by decide +kernel
theorem d_C_vector_26 : decode b_C_vector 26 = .ok (.invokevirtual 44, 3) := by decide +kernel
theorem d_C_vector_29 : decode b_C_vector 29 = .ok (.invokevirtual 159, 3) := by decide +kernel
theorem d_C_vector_32 : decode b_C_vector 32 = .ok (.istore_n 2, 1) := by decide +kernel
theorem d_C_vector_33 : decode b_C_vector 33 = .ok (.iinc 3 1, 3) := by decide +kernel
theorem d_C_vector_36 : decode b_C_vector 36 = .ok (.goto (-28), 3) := by decide +kernel
theorem d_C_vector_39 : decode b_C_vector 39 = .ok (.iload_n 2, 1) := by decide +kernel
theorem d_C_vector_40 : decode b_C_vector 40 = .ok (.iconst (-1), 1) := by decide +kernel
theorem d_C_vector_41 : decode b_C_vector 41 = .ok (.if_icmp .eq 19, 3) := by decide +kernel
theorem d_C_vector_44 : decode b_C_vector 44 = .ok (.iload_n 2, 1) := by decide +kernel
theorem d_C_vector_45 : decode b_C_vector 45 = .ok (.invokestatic 48, 3) := by decide +kernel
theorem d_C_vector_48 : decode b_C_vector 48 = .ok (.iconst 1, 1) := by decide +kernel
theorem d_C_vector_49 : decode b_C_vector 49 = .ok (.if_icmp .eq 11, 3) := by decide +kernel
theorem d_C_vector_52 : decode b_C_vector 52 = .ok (.iload_n 2, 1) := by decide +kernel
theorem d_C_vector_53 : decode b_C_vector 53 = .ok (.invokestatic 48, 3) := by decide +kernel
theorem d_C_vector_56 : decode b_C_vector 56 = .ok (.iconst 4, 1) := by decide +kernel
theorem d_C_vector_57 : decode b_C_vector 57 = .ok (.if_icmp .ne 5, 3) := by decide +kernel
theorem d_C_vector_60 : decode b_C_vector 60 = .ok (.iconst (-1), 1) := by decide +kernel
theorem d_C_vector_61 : decode b_C_vector 61 = .ok (.ireturn, 1) := by decide +kernel
theorem d_C_vector_62 : decode b_C_vector 62 = .ok (.iload_n 2, 1) := by decide +kernel
theorem d_C_vector_63 : decode b_C_vector 63 = .ok (.ireturn, 1) := by decide +kernel
theorem d_C_matrix_0 : decode b_C_matrix 0 = .ok (.iload_n 1, 1) := by decide +kernel
theorem d_C_matrix_1 : decode b_C_matrix 1 = .ok (.iconst (-1), 1) := by decide +kernel
theorem d_C_matrix_2 : decode b_C_matrix 2 = .ok (.if_icmp .eq 8, 3) := by decide +kernel
theorem d_C_matrix_5 : decode b_C_matrix 5 = .ok (.iload_n 2, 1) := by decide +kernel
theorem d_C_matrix_6 : decode b_C_matrix 6 = .ok (.iconst (-1), 1) := by decide +kernel
theorem d_C_matrix_7 : decode b_C_matrix 7 = .ok (.if_icmp .ne 5, 3) := by decide +kernel
theorem d_C_matrix_10 : decode b_C_matrix 10 = .ok (.iconst (-1), 1) := by decide +kernel
theorem d_C_matrix_11 : decode b_C_matrix 11 = .ok (.ireturn, 1) := by decide +kernel
theorem d_C_matrix_12 : decode b_C_matrix 12 = .ok (.iload_n 1, 1) := by decide +kernel
theorem d_C_matrix_13 : decode b_C_matrix 13 = .ok (.invokestatic 48, 3) := by decide +kernel
theorem d_C_matrix_16 : decode b_C_matrix 16 = .ok (.iconst 2, 1) := by decide +kernel
theorem d_C_matrix_17 : decode b_C_matrix 17 = .ok (.if_icmp .ne 11, 3) := by decide +kernel
theorem d_C_matrix_20 : decode b_C_matrix 20 = .ok (.iload_n 2, 1) := by decide +kernel
theorem d_C_matrix_21 : decode b_C_matrix 21 = .ok (.invokestatic 48, 3) := by decide +kernel
theorem d_C_matrix_24 : decode b_C_matrix 24 = .ok (.iconst 2, 1) := by decide +kernel
theorem d_C_matrix_25 : decode b_C_matrix 25 = .ok (.if_icmp .eq 5, 3) := by decide +kernel
theorem d_C_matrix_28 : decode b_C_matrix 28 = .ok (.iconst (-1), 1) := by decide +kernel
theorem d_C_matrix_29 : decode b_C_matrix 29 = .ok (.ireturn, 1) := by decide +kernel
theorem d_C_matrix_30 : decode b_C_matrix 30 = .ok (.iload_n 1, 1) := by decide +kernel
theorem d_C_matrix_31 : decode b_C_matrix 31 = .ok (.iload_n 2, 1) := by decide +kernel
theorem d_C_matrix_32 : decode b_C_matrix 32 = .ok (.invokestatic 162, 3) := by decide +kernel
theorem d_C_matrix_35 : decode b_C_matrix 35 = .ok (.ireturn, 1) := by decide +kernel
theorem d_C_joined_0 : decode b_C_joined 0 = .ok (.iload_n 1, 1) := by decide +kernel
theorem d_C_joined_1 : decode b_C_joined 1 = .ok (.iconst (-1), 1) := by decide +kernel
theorem d_C_joined_2 : decode b_C_joined 2 = .ok (.if_icmp .eq 21, 3) := by decide +kernel
theorem d_C_joined_5 : decode b_C_joined 5 = .ok (.iload_n 2, 1) := by decide +kernel
theorem d_C_joined_6 : decode b_C_joined 6 = .ok (.iconst (-1), 1) := by decide +kernel
theorem d_C_joined_7 : decode b_C_joined 7 = .ok (.if_icmp .eq 16, 3) := by decide +kernel
theorem d_C_joined_10 : decode b_C_joined 10 = .ok (.iload_n 1, 1) := by decide +kernel
theorem d_C_joined_11 : decode b_C_joined 11 = .ok (.invokestatic 48, 3) := by decide +kernel
theorem d_C_joined_14 : decode b_C_joined 14 = .ok (.iload_n 2, 1) := by decide +kernel
theorem d_C_joined_15 : decode b_C_joined 15 = .ok (.invokestatic 48, 3) := by decide +kernel
theorem d_C_joined_18 : decode b_C_joined 18 = .ok (.iadd, 1) := by decide +kernel
theorem d_C_joined_19 : decode b_C_joined 19 = .ok (.iconst 3, 1) := by decide +kernel
theorem d_C_joined_20 : decode b_C_joined 20 = .ok (.if_icmp .le 5, 3) := by decide +kernel
theorem d_C_joined_23 : decode b_C_joined 23 = .ok (.iconst (-1), 1) := by decide +kernel
theorem d_C_joined_24 : decode b_C_joined 24 = .ok (.ireturn, 1) := by decide +kernel
theorem d_C_joined_25 : decode b_C_joined 25 = .ok (.iload_n 1, 1) := by decide +kernel
theorem d_C_joined_26 : decode b_C_joined 26 = .ok (.iload_n 2, 1) := by decide +kernel
theorem d_C_joined_27 : decode b_C_joined 27 = .ok (.invokestatic 162, 3) := by decide +kernel
theorem d_C_joined_30 : decode b_C_joined 30 = .ok (.ireturn, 1) := by decide +kernel
theorem d_C_behindEachOther_0 : decode b_C_behindEachOther 0 = .ok (.iload_n 0, 1) := by decide +kernel
theorem d_C_behindEachOther_1 : decode b_C_behindEachOther 1 = .ok (.invokestatic 48, 3) := by decide +kernel
theorem d_C_behindEachOther_4 : decode b_C_behindEachOther 4 = .ok (.istore_n 2, 1) := by decide +kernel
theorem d_C_behindEachOther_5 : decode b_C_behindEachOther 5 = .ok (.iload_n 1, 1) := by decide +kernel
theorem d_C_behindEachOther_6 : decode b_C_behindEachOther 6 = .ok (.invokestatic 48, 3) := by decide +kernel
theorem d_C_behindEachOther_9 : decode b_C_behindEachOther 9 = .ok (.istore_n 3, 1) := by decide +kernel
theorem d_C_behindEachOther_10 : decode b_C_behindEachOther 10 = .ok (.iload_n 2, 1) := by decide +kernel
theorem d_C_behindEachOther_11 : decode b_C_behindEachOther 11 = .ok (.iload_n 3, 1) := by decide +kernel
theorem d_C_behindEachOther_12 : decode b_C_behindEachOther 12 = .ok (.iadd, 1) := by decide +kernel
theorem d_C_behindEachOther_13 : decode b_C_behindEachOther 13 = .ok (.invokestatic 131, 3) := by decide +kernel
theorem d_C_behindEachOther_16 : decode b_C_behindEachOther 16 = .ok (.istore 4, 2) := by decide +kernel
theorem d_C_behindEachOther_18 : decode b_C_behindEachOther 18 = .ok (.iconst 0, 1) := by decide +kernel
theorem d_C_behindEachOther_19 : decode b_C_behindEachOther 19 = .ok (.istore 5, 2) := by decide +kernel
theorem d_C_behindEachOther_21 : decode b_C_behindEachOther 21 = .ok (.iload 5, 2) := by decide +kernel
theorem d_C_behindEachOther_23 : decode b_C_behindEachOther 23 = .ok (.iload_n 2, 1) := by decide +kernel
theorem d_C_behindEachOther_24 : decode b_C_behindEachOther 24 = .ok (.if_icmp .ge 24, 3) := by decide +kernel
theorem d_C_behindEachOther_27 : decode b_C_behindEachOther 27 = .ok (.iload 4, 2) := by decide +kernel
theorem d_C_behindEachOther_29 : decode b_C_behindEachOther 29 = .ok (.iload 5, 2) := by decide +kernel
theorem d_C_behindEachOther_31 : decode b_C_behindEachOther 31 = .ok (.iload_n 0, 1) := by decide +kernel
theorem d_C_behindEachOther_32 : decode b_C_behindEachOther 32 = .ok (.iload 5, 2) := by decide +kernel
theorem d_C_behindEachOther_34 : decode b_C_behindEachOther 34 = .ok (.invokestatic 67, 3) := by decide +kernel
theorem d_C_behindEachOther_37 : decode b_C_behindEachOther 37 = .ok (.invokestatic 137, 3) := by decide +kernel
theorem d_C_behindEachOther_40 : decode b_C_behindEachOther 40 = .ok (.istore 4, 2) := by decide +kernel
theorem d_C_behindEachOther_42 : decode b_C_behindEachOther 42 = .ok (.iinc 5 1, 3) := by decide +kernel
theorem d_C_behindEachOther_45 : decode b_C_behindEachOther 45 = .ok (.goto (-24), 3) := by decide +kernel
theorem d_C_behindEachOther_48 : decode b_C_behindEachOther 48 = .ok (.iconst 0, 1) := by decide +kernel
theorem d_C_behindEachOther_49 : decode b_C_behindEachOther 49 = .ok (.istore 5, 2) := by decide +kernel
theorem d_C_behindEachOther_51 : decode b_C_behindEachOther 51 = .ok (.iload 5, 2) := by decide +kernel
theorem d_C_behindEachOther_53 : decode b_C_behindEachOther 53 = .ok (.iload_n 3, 1) := by decide +kernel
theorem d_C_behindEachOther_54 : decode b_C_behindEachOther 54 = .ok (.if_icmp .ge 26, 3) := by decide +kernel
theorem d_C_behindEachOther_57 : decode b_C_behindEachOther 57 = .ok (.iload 4, 2) := by decide +kernel
theorem d_C_behindEachOther_59 : decode b_C_behindEachOther 59 = .ok (.iload_n 2, 1) := by decide +kernel
theorem d_C_behindEachOther_60 : decode b_C_behindEachOther 60 = .ok (.iload 5, 2) := by decide +kernel
theorem d_C_behindEachOther_62 : decode b_C_behindEachOther 62 = .ok (.iadd, 1) := by decide +kernel
theorem d_C_behindEachOther_63 : decode b_C_behindEachOther 63 = .ok (.iload_n 1, 1) := by decide +kernel
theorem d_C_behindEachOther_64 : decode b_C_behindEachOther 64 = .ok (.iload 5, 2) := by decide +kernel
theorem d_C_behindEachOther_66 : decode b_C_behindEachOther 66 = .ok (.invokestatic 67, 3) := by decide +kernel
theorem d_C_behindEachOther_69 : decode b_C_behindEachOther 69 = .ok (.invokestatic 137, 3) := by decide +kernel
theorem d_C_behindEachOther_72 : decode b_C_behindEachOther 72 = .ok (.istore 4, 2) := by decide +kernel
theorem d_C_behindEachOther_74 : decode b_C_behindEachOther 74 = .ok (.iinc 5 1, 3) := by decide +kernel
theorem d_C_behindEachOther_77 : decode b_C_behindEachOther 77 = .ok (.goto (-26), 3) := by decide +kernel
theorem d_C_behindEachOther_80 : decode b_C_behindEachOther 80 = .ok (.iload 4, 2) := by decide +kernel
theorem d_C_behindEachOther_82 : decode b_C_behindEachOther 82 = .ok (.ireturn, 1) := by decide +kernel
theorem d_C_each_0 : decode b_C_each 0 = .ok (.iload_n 2, 1) := by decide +kernel
theorem d_C_each_1 : decode b_C_each 1 = .ok (.iconst (-1), 1) := by decide +kernel
theorem d_C_each_2 : decode b_C_each 2 = .ok (.if_icmp .ne 5, 3) := by decide +kernel
theorem d_C_each_5 : decode b_C_each 5 = .ok (.iconst (-1), 1) := by decide +kernel
theorem d_C_each_6 : decode b_C_each 6 = .ok (.ireturn, 1) := by decide +kernel
theorem d_C_each_7 : decode b_C_each 7 = .ok (.iload_n 2, 1) := by decide +kernel
theorem d_C_each_8 : decode b_C_each 8 = .ok (.invokestatic 48, 3) := by decide +kernel
theorem d_C_each_11 : decode b_C_each 11 = .ok (.invokestatic 131, 3) := by decide +kernel
theorem d_C_each_14 : decode b_C_each 14 = .ok (.istore_n 3, 1) := by decide +kernel
theorem d_C_each_15 : decode b_C_each 15 = .ok (.iconst 0, 1) := by decide +kernel
theorem d_C_each_16 : decode b_C_each 16 = .ok (.istore 4, 2) := by decide +kernel
theorem d_C_each_18 : decode b_C_each 18 = .ok (.iload 4, 2) := by decide +kernel
theorem d_C_each_20 : decode b_C_each 20 = .ok (.iload_n 2, 1) := by decide +kernel
theorem d_C_each_21 : decode b_C_each 21 = .ok (.invokestatic 48, 3) := by decide +kernel
theorem d_C_each_24 : decode b_C_each 24 = .ok (.if_icmp .ge 31, 3) := by decide +kernel
theorem d_C_each_27 : decode b_C_each 27 = .ok (.iload_n 3, 1) := by decide +kernel
theorem d_C_each_28 : decode b_C_each 28 = .ok (.iload 4, 2) := by decide +kernel
theorem d_C_each_30 : decode b_C_each 30 = .ok (.aload_n 0, 1) := by decide +kernel
theorem d_C_each_31 : decode b_C_each 31 = .ok (.getfield 29, 3) := by decide +kernel
theorem d_C_each_34 : decode b_C_each 34 = .ok (.iload_n 1, 1) := by decide +kernel
theorem d_C_each_35 : decode b_C_each 35 = .ok (.iload_n 2, 1) := by decide +kernel
theorem d_C_each_36 : decode b_C_each 36 = .ok (.iload 4, 2) := by decide +kernel
theorem d_C_each_38 : decode b_C_each 38 = .ok (.invokestatic 67, 3) := by decide +kernel
theorem d_C_each_41 : decode b_C_each 41 = .ok (.iconst 0, 1) := by decide +kernel
theorem d_C_each_42 : decode b_C_each 42 = .ok (.invokevirtual 134, 3) := by decide +kernel
theorem d_C_each_45 : decode b_C_each 45 = .ok (.invokestatic 137, 3) := by decide +kernel
theorem d_C_each_48 : decode b_C_each 48 = .ok (.istore_n 3, 1) := by decide +kernel
theorem d_C_each_49 : decode b_C_each 49 = .ok (.iinc 4 1, 3) := by decide +kernel
theorem d_C_each_52 : decode b_C_each 52 = .ok (.goto (-34), 3) := by decide +kernel
theorem d_C_each_55 : decode b_C_each 55 = .ok (.iload_n 3, 1) := by decide +kernel
theorem d_C_each_56 : decode b_C_each 56 = .ok (.ireturn, 1) := by decide +kernel
theorem d_C_pairwise_0 : decode b_C_pairwise 0 = .ok (.iload_n 2, 1) := by decide +kernel
theorem d_C_pairwise_1 : decode b_C_pairwise 1 = .ok (.iconst (-1), 1) := by decide +kernel
theorem d_C_pairwise_2 : decode b_C_pairwise 2 = .ok (.if_icmp .eq 8, 3) := by decide +kernel
theorem d_C_pairwise_5 : decode b_C_pairwise 5 = .ok (.iload_n 3, 1) := by decide +kernel
theorem d_C_pairwise_6 : decode b_C_pairwise 6 = .ok (.iconst (-1), 1) := by decide +kernel
theorem d_C_pairwise_7 : decode b_C_pairwise 7 = .ok (.if_icmp .ne 5, 3) := by decide +kernel
theorem d_C_pairwise_10 : decode b_C_pairwise 10 = .ok (.iconst (-1), 1) := by decide +kernel
theorem d_C_pairwise_11 : decode b_C_pairwise 11 = .ok (.ireturn, 1) := by decide +kernel
theorem d_C_pairwise_12 : decode b_C_pairwise 12 = .ok (.iload_n 2, 1) := by decide +kernel
theorem d_C_pairwise_13 : decode b_C_pairwise 13 = .ok (.invokestatic 48, 3) := by decide +kernel
theorem d_C_pairwise_16 : decode b_C_pairwise 16 = .ok (.istore 4, 2) := by decide +kernel
theorem d_C_pairwise_18 : decode b_C_pairwise 18 = .ok (.iload_n 3, 1) := by decide +kernel
theorem d_C_pairwise_19 : decode b_C_pairwise 19 = .ok (.invokestatic 48, 3) := by decide +kernel
theorem d_C_pairwise_22 : decode b_C_pairwise 22 = .ok (.istore 5, 2) := by decide +kernel
theorem d_C_pairwise_24 : decode b_C_pairwise 24 = .ok (.iload 4, 2) := by decide +kernel
theorem d_C_pairwise_26 : decode b_C_pairwise 26 = .ok (.iload 5, 2) := by decide +kernel
theorem d_C_pairwise_28 : decode b_C_pairwise 28 = .ok (.if_icmp .eq 17, 3) := by decide +kernel
theorem d_C_pairwise_31 : decode b_C_pairwise 31 = .ok (.iload 4, 2) := by decide +kernel
theorem d_C_pairwise_33 : decode b_C_pairwise 33 = .ok (.iconst 1, 1) := by decide +kernel
theorem d_C_pairwise_34 : decode b_C_pairwise 34 = .ok (.if_icmp .eq 11, 3) := by decide +kernel
theorem d_C_pairwise_37 : decode b_C_pairwise 37 = .ok (.iload 5, 2) := by decide +kernel
theorem d_C_pairwise_39 : decode b_C_pairwise 39 = .ok (.iconst 1, 1) := by decide +kernel
theorem d_C_pairwise_40 : decode b_C_pairwise 40 = .ok (.if_icmp .eq 5, 3) := by decide +kernel
theorem d_C_pairwise_43 : decode b_C_pairwise 43 = .ok (.iconst (-1), 1) := by decide +kernel
theorem d_C_pairwise_44 : decode b_C_pairwise 44 = .ok (.ireturn, 1) := by decide +kernel
theorem d_C_pairwise_45 : decode b_C_pairwise 45 = .ok (.iload 4, 2) := by decide +kernel
theorem d_C_pairwise_47 : decode b_C_pairwise 47 = .ok (.iload 5, 2) := by decide +kernel
theorem d_C_pairwise_49 : decode b_C_pairwise 49 = .ok (.invokestatic 165, 3) := by decide +kernel
theorem d_C_pairwise_52 : decode b_C_pairwise 52 = .ok (.istore 6, 2) := by decide +kernel
theorem d_C_pairwise_54 : decode b_C_pairwise 54 = .ok (.iload 6, 2) := by decide +kernel
theorem d_C_pairwise_56 : decode b_C_pairwise 56 = .ok (.invokestatic 131, 3) := by decide +kernel
theorem d_C_pairwise_59 : decode b_C_pairwise 59 = .ok (.istore 7, 2) := by decide +kernel
theorem d_C_pairwise_61 : decode b_C_pairwise 61 = .ok (.iconst 0, 1) := by decide +kernel
theorem d_C_pairwise_62 : decode b_C_pairwise 62 = .ok (.istore 8, 2) := by decide +kernel
theorem d_C_pairwise_64 : decode b_C_pairwise 64 = .ok (.iload 8, 2) := by decide +kernel
theorem d_C_pairwise_66 : decode b_C_pairwise 66 = .ok (.iload 6, 2) := by decide +kernel
theorem d_C_pairwise_68 : decode b_C_pairwise 68 = .ok (.if_icmp .ge 42, 3) := by decide +kernel
theorem d_C_pairwise_71 : decode b_C_pairwise 71 = .ok (.aload_n 0, 1) := by decide +kernel
theorem d_C_pairwise_72 : decode b_C_pairwise 72 = .ok (.getfield 29, 3) := by decide +kernel
theorem d_C_pairwise_75 : decode b_C_pairwise 75 = .ok (.iload_n 1, 1) := by decide +kernel
theorem d_C_pairwise_76 : decode b_C_pairwise 76 = .ok (.iload_n 2, 1) := by decide +kernel
theorem d_C_pairwise_77 : decode b_C_pairwise 77 = .ok (.iload 8, 2) := by decide +kernel
theorem d_C_pairwise_79 : decode b_C_pairwise 79 = .ok (.invokestatic 170, 3) := by decide +kernel
theorem d_C_pairwise_82 : decode b_C_pairwise 82 = .ok (.iload_n 3, 1) := by decide +kernel
theorem d_C_pairwise_83 : decode b_C_pairwise 83 = .ok (.iload 8, 2) := by decide +kernel
theorem d_C_pairwise_85 : decode b_C_pairwise 85 = .ok (.invokestatic 170, 3) := by decide +kernel
theorem d_C_pairwise_88 : decode b_C_pairwise 88 = .ok (.invokevirtual 134, 3) := by decide +kernel
theorem d_C_pairwise_91 : decode b_C_pairwise 91 = .ok (.istore 9, 2) := by decide +kernel
theorem d_C_pairwise_93 : decode b_C_pairwise 93 = .ok (.iload 7, 2) := by decide +kernel
theorem d_C_pairwise_95 : decode b_C_pairwise 95 = .ok (.iload 8, 2) := by decide +kernel
theorem d_C_pairwise_97 : decode b_C_pairwise 97 = .ok (.iload 9, 2) := by decide +kernel
theorem d_C_pairwise_99 : decode b_C_pairwise 99 = .ok (.invokestatic 137, 3) := by decide +kernel
theorem d_C_pairwise_102 : decode b_C_pairwise 102 = .ok (.istore 7, 2) := by decide +kernel
theorem d_C_pairwise_104 : decode b_C_pairwise 104 = .ok (.iinc 8 1, 3) := by decide +kernel
theorem d_C_pairwise_107 : decode b_C_pairwise 107 = .ok (.goto (-43), 3) := by decide +kernel
theorem d_C_pairwise_110 : decode b_C_pairwise 110 = .ok (.iload 7, 2) := by decide +kernel
theorem d_C_pairwise_112 : decode b_C_pairwise 112 = .ok (.ireturn, 1) := by decide +kernel
theorem d_C_times_0 : decode b_C_times 0 = .ok (.iload_n 1, 1) := by decide +kernel
theorem d_C_times_1 : decode b_C_times 1 = .ok (.iconst (-1), 1) := by decide +kernel
theorem d_C_times_2 : decode b_C_times 2 = .ok (.if_icmp .eq 8, 3) := by decide +kernel
theorem d_C_times_5 : decode b_C_times 5 = .ok (.iload_n 2, 1) := by decide +kernel
theorem d_C_times_6 : decode b_C_times 6 = .ok (.iconst (-1), 1) := by decide +kernel
theorem d_C_times_7 : decode b_C_times 7 = .ok (.if_icmp .ne 5, 3) := by decide +kernel
theorem d_C_times_10 : decode b_C_times 10 = .ok (.iconst (-1), 1) := by decide +kernel
theorem d_C_times_11 : decode b_C_times 11 = .ok (.ireturn, 1) := by decide +kernel
theorem d_C_times_12 : decode b_C_times 12 = .ok (.iload_n 2, 1) := by decide +kernel
theorem d_C_times_13 : decode b_C_times 13 = .ok (.invokestatic 48, 3) := by decide +kernel
theorem d_C_times_16 : decode b_C_times 16 = .ok (.istore_n 3, 1) := by decide +kernel
theorem d_C_times_17 : decode b_C_times 17 = .ok (.iload_n 1, 1) := by decide +kernel
theorem d_C_times_18 : decode b_C_times 18 = .ok (.invokestatic 48, 3) := by decide +kernel
theorem d_C_times_21 : decode b_C_times 21 = .ok (.iconst 4, 1) := by decide +kernel
theorem d_C_times_22 : decode b_C_times 22 = .ok (.if_icmp .ne 20, 3) := by decide +kernel
theorem d_C_times_25 : decode b_C_times 25 = .ok (.iload_n 3, 1) := by decide +kernel
theorem d_C_times_26 : decode b_C_times 26 = .ok (.iconst 2, 1) := by decide +kernel
theorem d_C_times_27 : decode b_C_times 27 = .ok (.if_icmp .eq 8, 3) := by decide +kernel
theorem d_C_times_30 : decode b_C_times 30 = .ok (.iload_n 3, 1) := by decide +kernel
theorem d_C_times_31 : decode b_C_times 31 = .ok (.iconst 4, 1) := by decide +kernel
theorem d_C_times_32 : decode b_C_times 32 = .ok (.if_icmp .ne 10, 3) := by decide +kernel
theorem d_C_times_35 : decode b_C_times 35 = .ok (.aload_n 0, 1) := by decide +kernel
theorem d_C_times_36 : decode b_C_times 36 = .ok (.iload_n 1, 1) := by decide +kernel
theorem d_C_times_37 : decode b_C_times 37 = .ok (.iload_n 2, 1) := by decide +kernel
theorem d_C_times_38 : decode b_C_times 38 = .ok (.invokevirtual 173, 3) := by decide +kernel
theorem d_C_times_41 : decode b_C_times 41 = .ok (.ireturn, 1) := by decide +kernel
theorem d_C_times_42 : decode b_C_times 42 = .ok (.aload_n 0, 1) := by decide +kernel
theorem d_C_times_43 : decode b_C_times 43 = .ok (.iconst 4, 1) := by decide +kernel
theorem d_C_times_44 : decode b_C_times 44 = .ok (.iload_n 1, 1) := by decide +kernel
theorem d_C_times_45 : decode b_C_times 45 = .ok (.iload_n 2, 1) := by decide +kernel
theorem d_C_times_46 : decode b_C_times 46 = .ok (.invokevirtual 91, 3) := by decide +kernel
theorem d_C_times_49 : decode b_C_times 49 = .ok (.ireturn, 1) := by decide +kernel
theorem d_C_timesColumns_0 : decode b_C_timesColumns 0 = .ok (.iload_n 2, 1) := by decide +kernel
theorem d_C_timesColumns_1 : decode b_C_timesColumns 1 = .ok (.invokestatic 48, 3) := by decide +kernel
theorem d_C_timesColumns_4 : decode b_C_timesColumns 4 = .ok (.istore_n 3, 1) := by decide +kernel
theorem d_C_timesColumns_5 : decode b_C_timesColumns 5 = .ok (.iload_n 3, 1) := by decide +kernel
theorem d_C_timesColumns_6 : decode b_C_timesColumns 6 = .ok (.invokestatic 131, 3) := by decide +kernel
theorem d_C_timesColumns_9 : decode b_C_timesColumns 9 = .ok (.istore 4, 2) := by decide +kernel
theorem d_C_timesColumns_11 : decode b_C_timesColumns 11 = .ok (.iconst 0, 1) := by decide +kernel
theorem d_C_timesColumns_12 : decode b_C_timesColumns 12 = .ok (.istore 5, 2) := by decide +kernel
theorem d_C_timesColumns_14 : decode b_C_timesColumns 14 = .ok (.iload 5, 2) := by decide +kernel
theorem d_C_timesColumns_16 : decode b_C_timesColumns 16 = .ok (.iconst 1, 1) := by decide +kernel
theorem d_C_timesColumns_17 : decode b_C_timesColumns 17 = .ok (.iadd, 1) := by decide +kernel
theorem d_C_timesColumns_18 : decode b_C_timesColumns 18 = .ok (.iload_n 3, 1) := by decide +kernel
theorem d_C_timesColumns_19 : decode b_C_timesColumns 19 = .ok (.if_icmp .ge 96, 3) := by decide +kernel
theorem d_C_timesColumns_22 : decode b_C_timesColumns 22 = .ok (.iconst 0, 1) := by decide +kernel
theorem d_C_timesColumns_23 : decode b_C_timesColumns 23 = .ok (.istore 6, 2) := by decide +kernel
theorem d_C_timesColumns_25 : decode b_C_timesColumns 25 = .ok (.iload 6, 2) := by decide +kernel
theorem d_C_timesColumns_27 : decode b_C_timesColumns 27 = .ok (.iconst 2, 1) := by decide +kernel
theorem d_C_timesColumns_28 : decode b_C_timesColumns 28 = .ok (.if_icmp .ge 81, 3) := by decide +kernel
theorem d_C_timesColumns_31 : decode b_C_timesColumns 31 = .ok (.aload_n 0, 1) := by decide +kernel
theorem d_C_timesColumns_32 : decode b_C_timesColumns 32 = .ok (.getfield 29, 3) := by decide +kernel
theorem d_C_timesColumns_35 : decode b_C_timesColumns 35 = .ok (.iconst 4, 1) := by decide +kernel
theorem d_C_timesColumns_36 : decode b_C_timesColumns 36 = .ok (.iload_n 1, 1) := by decide +kernel
theorem d_C_timesColumns_37 : decode b_C_timesColumns 37 = .ok (.iload 6, 2) := by decide +kernel
theorem d_C_timesColumns_39 : decode b_C_timesColumns 39 = .ok (.invokestatic 67, 3) := by decide +kernel
theorem d_C_timesColumns_42 : decode b_C_timesColumns 42 = .ok (.iload_n 2, 1) := by decide +kernel
theorem d_C_timesColumns_43 : decode b_C_timesColumns 43 = .ok (.iload 5, 2) := by decide +kernel
theorem d_C_timesColumns_45 : decode b_C_timesColumns 45 = .ok (.invokestatic 67, 3) := by decide +kernel
theorem d_C_timesColumns_48 : decode b_C_timesColumns 48 = .ok (.invokevirtual 134, 3) := by decide +kernel
theorem d_C_timesColumns_51 : decode b_C_timesColumns 51 = .ok (.istore 7, 2) := by decide +kernel
theorem d_C_timesColumns_53 : decode b_C_timesColumns 53 = .ok (.aload_n 0, 1) := by decide +kernel
theorem d_C_timesColumns_54 : decode b_C_timesColumns 54 = .ok (.getfield 29, 3) := by decide +kernel
theorem d_C_timesColumns_57 : decode b_C_timesColumns 57 = .ok (.iconst 4, 1) := by decide +kernel
theorem d_C_timesColumns_58 : decode b_C_timesColumns 58 = .ok (.iload_n 1, 1) := by decide +kernel
theorem d_C_timesColumns_59 : decode b_C_timesColumns 59 = .ok (.iconst 2, 1) := by decide +kernel
theorem d_C_timesColumns_60 : decode b_C_timesColumns 60 = .ok (.iload 6, 2) := by decide +kernel
theorem d_C_timesColumns_62 : decode b_C_timesColumns 62 = .ok (.iadd, 1) := by decide +kernel
theorem d_C_timesColumns_63 : decode b_C_timesColumns 63 = .ok (.invokestatic 67, 3) := by decide +kernel
theorem d_C_timesColumns_66 : decode b_C_timesColumns 66 = .ok (.iload_n 2, 1) := by decide +kernel
theorem d_C_timesColumns_67 : decode b_C_timesColumns 67 = .ok (.iload 5, 2) := by decide +kernel
theorem d_C_timesColumns_69 : decode b_C_timesColumns 69 = .ok (.iconst 1, 1) := by decide +kernel
theorem d_C_timesColumns_70 : decode b_C_timesColumns 70 = .ok (.iadd, 1) := by decide +kernel
theorem d_C_timesColumns_71 : decode b_C_timesColumns 71 = .ok (.invokestatic 67, 3) := by decide +kernel
theorem d_C_timesColumns_74 : decode b_C_timesColumns 74 = .ok (.invokevirtual 134, 3) := by decide +kernel
theorem d_C_timesColumns_77 : decode b_C_timesColumns 77 = .ok (.istore 8, 2) := by decide +kernel
theorem d_C_timesColumns_79 : decode b_C_timesColumns 79 = .ok (.iload 4, 2) := by decide +kernel
theorem d_C_timesColumns_81 : decode b_C_timesColumns 81 = .ok (.iload 5, 2) := by decide +kernel
theorem d_C_timesColumns_83 : decode b_C_timesColumns 83 = .ok (.iload 6, 2) := by decide +kernel
theorem d_C_timesColumns_85 : decode b_C_timesColumns 85 = .ok (.iadd, 1) := by decide +kernel
theorem d_C_timesColumns_86 : decode b_C_timesColumns 86 = .ok (.aload_n 0, 1) := by decide +kernel
theorem d_C_timesColumns_87 : decode b_C_timesColumns 87 = .ok (.getfield 29, 3) := by decide +kernel
theorem d_C_timesColumns_90 : decode b_C_timesColumns 90 = .ok (.iconst 2, 1) := by decide +kernel
theorem d_C_timesColumns_91 : decode b_C_timesColumns 91 = .ok (.iload 7, 2) := by decide +kernel
theorem d_C_timesColumns_93 : decode b_C_timesColumns 93 = .ok (.iload 8, 2) := by decide +kernel
theorem d_C_timesColumns_95 : decode b_C_timesColumns 95 = .ok (.invokevirtual 134, 3) := by decide +kernel
theorem d_C_timesColumns_98 : decode b_C_timesColumns 98 = .ok (.invokestatic 137, 3) := by decide +kernel
theorem d_C_timesColumns_101 : decode b_C_timesColumns 101 = .ok (.istore 4, 2) := by decide +kernel
theorem d_C_timesColumns_103 : decode b_C_timesColumns 103 = .ok (.iinc 6 1, 3) := by decide +kernel
theorem d_C_timesColumns_106 : decode b_C_timesColumns 106 = .ok (.goto (-81), 3) := by decide +kernel
theorem d_C_timesColumns_109 : decode b_C_timesColumns 109 = .ok (.iinc 5 2, 3) := by decide +kernel
theorem d_C_timesColumns_112 : decode b_C_timesColumns 112 = .ok (.goto (-98), 3) := by decide +kernel
theorem d_C_timesColumns_115 : decode b_C_timesColumns 115 = .ok (.iload 4, 2) := by decide +kernel
theorem d_C_timesColumns_117 : decode b_C_timesColumns 117 = .ok (.ireturn, 1) := by decide +kernel
theorem d_C_dividedBy_0 : decode b_C_dividedBy 0 = .ok (.iload_n 2, 1) := by decide +kernel
theorem d_C_dividedBy_1 : decode b_C_dividedBy 1 = .ok (.iconst (-1), 1) := by decide +kernel
theorem d_C_dividedBy_2 : decode b_C_dividedBy 2 = .ok (.if_icmp .eq 11, 3) := by decide +kernel
theorem d_C_dividedBy_5 : decode b_C_dividedBy 5 = .ok (.iload_n 2, 1) := by decide +kernel
theorem d_C_dividedBy_6 : decode b_C_dividedBy 6 = .ok (.invokestatic 48, 3) := by decide +kernel
theorem d_C_dividedBy_9 : decode b_C_dividedBy 9 = .ok (.iconst 4, 1) := by decide +kernel
theorem d_C_dividedBy_10 : decode b_C_dividedBy 10 = .ok (.if_icmp .ne 5, 3) := by decide +kernel
theorem d_C_dividedBy_13 : decode b_C_dividedBy 13 = .ok (.iconst (-1), 1) := by decide +kernel
theorem d_C_dividedBy_14 : decode b_C_dividedBy 14 = .ok (.ireturn, 1) := by decide +kernel
theorem d_C_dividedBy_15 : decode b_C_dividedBy 15 = .ok (.aload_n 0, 1) := by decide +kernel
theorem d_C_dividedBy_16 : decode b_C_dividedBy 16 = .ok (.iconst 5, 1) := by decide +kernel
theorem d_C_dividedBy_17 : decode b_C_dividedBy 17 = .ok (.iload_n 1, 1) := by decide +kernel
theorem d_C_dividedBy_18 : decode b_C_dividedBy 18 = .ok (.iload_n 2, 1) := by decide +kernel
theorem d_C_dividedBy_19 : decode b_C_dividedBy 19 = .ok (.invokevirtual 91, 3) := by decide +kernel
theorem d_C_dividedBy_22 : decode b_C_dividedBy 22 = .ok (.ireturn, 1) := by decide +kernel
theorem d_C_dotted_0 : decode b_C_dotted 0 = .ok (.iload_n 1, 1) := by decide +kernel
theorem d_C_dotted_1 : decode b_C_dotted 1 = .ok (.iconst (-1), 1) := by decide +kernel
theorem d_C_dotted_2 : decode b_C_dotted 2 = .ok (.if_icmp .eq 8, 3) := by decide +kernel
theorem d_C_dotted_5 : decode b_C_dotted 5 = .ok (.iload_n 2, 1) := by decide +kernel
theorem d_C_dotted_6 : decode b_C_dotted 6 = .ok (.iconst (-1), 1) := by decide +kernel
theorem d_C_dotted_7 : decode b_C_dotted 7 = .ok (.if_icmp .ne 5, 3) := by decide +kernel
theorem d_C_dotted_10 : decode b_C_dotted 10 = .ok (.iconst (-1), 1) := by decide +kernel
theorem d_C_dotted_11 : decode b_C_dotted 11 = .ok (.ireturn, 1) := by decide +kernel
theorem d_C_dotted_12 : decode b_C_dotted 12 = .ok (.iload_n 1, 1) := by decide +kernel
theorem d_C_dotted_13 : decode b_C_dotted 13 = .ok (.invokestatic 48, 3) := by decide +kernel
theorem d_C_dotted_16 : decode b_C_dotted 16 = .ok (.istore_n 3, 1) := by decide +kernel
theorem d_C_dotted_17 : decode b_C_dotted 17 = .ok (.iload_n 3, 1) := by decide +kernel
theorem d_C_dotted_18 : decode b_C_dotted 18 = .ok (.iload_n 2, 1) := by decide +kernel
theorem d_C_dotted_19 : decode b_C_dotted 19 = .ok (.invokestatic 48, 3) := by decide +kernel
theorem d_C_dotted_22 : decode b_C_dotted 22 = .ok (.if_icmp .ne 8, 3) := by decide +kernel
theorem d_C_dotted_25 : decode b_C_dotted 25 = .ok (.iload_n 3, 1) := by decide +kernel
theorem d_C_dotted_26 : decode b_C_dotted 26 = .ok (.iconst 4, 1) := by decide +kernel
theorem d_C_dotted_27 : decode b_C_dotted 27 = .ok (.if_icmp .ne 5, 3) := by decide +kernel
theorem d_C_dotted_30 : decode b_C_dotted 30 = .ok (.iconst (-1), 1) := by decide +kernel
theorem d_C_dotted_31 : decode b_C_dotted 31 = .ok (.ireturn, 1) := by decide +kernel
theorem d_C_dotted_32 : decode b_C_dotted 32 = .ok (.aload_n 0, 1) := by decide +kernel
theorem d_C_dotted_33 : decode b_C_dotted 33 = .ok (.getfield 29, 3) := by decide +kernel
theorem d_C_dotted_36 : decode b_C_dotted 36 = .ok (.iconst 4, 1) := by decide +kernel
theorem d_C_dotted_37 : decode b_C_dotted 37 = .ok (.iload_n 1, 1) := by decide +kernel
theorem d_C_dotted_38 : decode b_C_dotted 38 = .ok (.iconst 0, 1) := by decide +kernel
theorem d_C_dotted_39 : decode b_C_dotted 39 = .ok (.invokestatic 67, 3) := by decide +kernel
theorem d_C_dotted_42 : decode b_C_dotted 42 = .ok (.iload_n 2, 1) := by decide +kernel
theorem d_C_dotted_43 : decode b_C_dotted 43 = .ok (.iconst 0, 1) := by decide +kernel
theorem d_C_dotted_44 : decode b_C_dotted 44 = .ok (.invokestatic 67, 3) := by decide +kernel
theorem d_C_dotted_47 : decode b_C_dotted 47 = .ok (.invokevirtual 134, 3) := by decide +kernel
theorem d_C_dotted_50 : decode b_C_dotted 50 = .ok (.istore 4, 2) := by decide +kernel
theorem d_C_dotted_52 : decode b_C_dotted 52 = .ok (.iconst 1, 1) := by decide +kernel
theorem d_C_dotted_53 : decode b_C_dotted 53 = .ok (.istore 5, 2) := by decide +kernel
theorem d_C_dotted_55 : decode b_C_dotted 55 = .ok (.iload 5, 2) := by decide +kernel
theorem d_C_dotted_57 : decode b_C_dotted 57 = .ok (.iload_n 3, 1) := by decide +kernel
theorem d_C_dotted_58 : decode b_C_dotted 58 = .ok (.if_icmp .ge 45, 3) := by decide +kernel
theorem d_C_dotted_61 : decode b_C_dotted 61 = .ok (.aload_n 0, 1) := by decide +kernel
theorem d_C_dotted_62 : decode b_C_dotted 62 = .ok (.getfield 29, 3) := by decide +kernel
theorem d_C_dotted_65 : decode b_C_dotted 65 = .ok (.iconst 4, 1) := by decide +kernel
theorem d_C_dotted_66 : decode b_C_dotted 66 = .ok (.iload_n 1, 1) := by decide +kernel
theorem d_C_dotted_67 : decode b_C_dotted 67 = .ok (.iload 5, 2) := by decide +kernel
theorem d_C_dotted_69 : decode b_C_dotted 69 = .ok (.invokestatic 67, 3) := by decide +kernel
theorem d_C_dotted_72 : decode b_C_dotted 72 = .ok (.iload_n 2, 1) := by decide +kernel
theorem d_C_dotted_73 : decode b_C_dotted 73 = .ok (.iload 5, 2) := by decide +kernel
theorem d_C_dotted_75 : decode b_C_dotted 75 = .ok (.invokestatic 67, 3) := by decide +kernel
theorem d_C_dotted_78 : decode b_C_dotted 78 = .ok (.invokevirtual 134, 3) := by decide +kernel
theorem d_C_dotted_81 : decode b_C_dotted 81 = .ok (.istore 6, 2) := by decide +kernel
theorem d_C_dotted_83 : decode b_C_dotted 83 = .ok (.aload_n 0, 1) := by decide +kernel
theorem d_C_dotted_84 : decode b_C_dotted 84 = .ok (.getfield 29, 3) := by decide +kernel
theorem d_C_dotted_87 : decode b_C_dotted 87 = .ok (.iconst 2, 1) := by decide +kernel
theorem d_C_dotted_88 : decode b_C_dotted 88 = .ok (.iload 4, 2) := by decide +kernel
theorem d_C_dotted_90 : decode b_C_dotted 90 = .ok (.iload 6, 2) := by decide +kernel
theorem d_C_dotted_92 : decode b_C_dotted 92 = .ok (.invokevirtual 134, 3) := by decide +kernel
theorem d_C_dotted_95 : decode b_C_dotted 95 = .ok (.istore 4, 2) := by decide +kernel
theorem d_C_dotted_97 : decode b_C_dotted 97 = .ok (.iinc 5 1, 3) := by decide +kernel
theorem d_C_dotted_100 : decode b_C_dotted 100 = .ok (.goto (-45), 3) := by decide +kernel
theorem d_C_dotted_103 : decode b_C_dotted 103 = .ok (.iconst 1, 1) := by decide +kernel
theorem d_C_dotted_104 : decode b_C_dotted 104 = .ok (.invokestatic 131, 3) := by decide +kernel
theorem d_C_dotted_107 : decode b_C_dotted 107 = .ok (.iconst 0, 1) := by decide +kernel
theorem d_C_dotted_108 : decode b_C_dotted 108 = .ok (.iload 4, 2) := by decide +kernel
theorem d_C_dotted_110 : decode b_C_dotted 110 = .ok (.invokestatic 137, 3) := by decide +kernel
theorem d_C_dotted_113 : decode b_C_dotted 113 = .ok (.ireturn, 1) := by decide +kernel
theorem d_C_isDigit_0 : decode b_C_isDigit 0 = .ok (.iload_n 0, 1) := by decide +kernel
theorem d_C_isDigit_1 : decode b_C_isDigit 1 = .ok (.bipush 48, 2) := by decide +kernel
theorem d_C_isDigit_3 : decode b_C_isDigit 3 = .ok (.if_icmp .lt 13, 3) := by decide +kernel
theorem d_C_isDigit_6 : decode b_C_isDigit 6 = .ok (.iload_n 0, 1) := by decide +kernel
theorem d_C_isDigit_7 : decode b_C_isDigit 7 = .ok (.bipush 57, 2) := by decide +kernel
theorem d_C_isDigit_9 : decode b_C_isDigit 9 = .ok (.if_icmp .gt 7, 3) := by decide +kernel
theorem d_C_isDigit_12 : decode b_C_isDigit 12 = .ok (.iconst 1, 1) := by decide +kernel
theorem d_C_isDigit_13 : decode b_C_isDigit 13 = .ok (.goto 4, 3) := by decide +kernel
theorem d_C_isDigit_16 : decode b_C_isDigit 16 = .ok (.iconst 0, 1) := by decide +kernel
theorem d_C_isDigit_17 : decode b_C_isDigit 17 = .ok (.ireturn, 1) := by decide +kernel
theorem d_C_isSmall_0 : decode b_C_isSmall 0 = .ok (.iload_n 0, 1) := by decide +kernel
theorem d_C_isSmall_1 : decode b_C_isSmall 1 = .ok (.bipush 97, 2) := by decide +kernel
theorem d_C_isSmall_3 : decode b_C_isSmall 3 = .ok (.if_icmp .lt 13, 3) := by decide +kernel
theorem d_C_isSmall_6 : decode b_C_isSmall 6 = .ok (.iload_n 0, 1) := by decide +kernel
theorem d_C_isSmall_7 : decode b_C_isSmall 7 = .ok (.bipush 122, 2) := by decide +kernel
theorem d_C_isSmall_9 : decode b_C_isSmall 9 = .ok (.if_icmp .gt 7, 3) := by decide +kernel
theorem d_C_isSmall_12 : decode b_C_isSmall 12 = .ok (.iconst 1, 1) := by decide +kernel
theorem d_C_isSmall_13 : decode b_C_isSmall 13 = .ok (.goto 4, 3) := by decide +kernel
theorem d_C_isSmall_16 : decode b_C_isSmall 16 = .ok (.iconst 0, 1) := by decide +kernel
theorem d_C_isSmall_17 : decode b_C_isSmall 17 = .ok (.ireturn, 1) := by decide +kernel
theorem d_C_isPlace_0 : decode b_C_isPlace 0 = .ok (.iload_n 0, 1) := by decide +kernel
theorem d_C_isPlace_1 : decode b_C_isPlace 1 = .ok (.bipush 120, 2) := by decide +kernel
theorem d_C_isPlace_3 : decode b_C_isPlace 3 = .ok (.if_icmp .lt 13, 3) := by decide +kernel
theorem d_C_isPlace_6 : decode b_C_isPlace 6 = .ok (.iload_n 0, 1) := by decide +kernel
theorem d_C_isPlace_7 : decode b_C_isPlace 7 = .ok (.bipush 122, 2) := by decide +kernel
theorem d_C_isPlace_9 : decode b_C_isPlace 9 = .ok (.if_icmp .gt 7, 3) := by decide +kernel
theorem d_C_isPlace_12 : decode b_C_isPlace 12 = .ok (.iconst 1, 1) := by decide +kernel
theorem d_C_isPlace_13 : decode b_C_isPlace 13 = .ok (.goto 4, 3) := by decide +kernel
theorem d_C_isPlace_16 : decode b_C_isPlace 16 = .ok (.iconst 0, 1) := by decide +kernel
theorem d_C_isPlace_17 : decode b_C_isPlace 17 = .ok (.ireturn, 1) := by decide +kernel
theorem d_C_isVariable_0 : decode b_C_isVariable 0 = .ok (.iload_n 0, 1) := by decide +kernel
theorem d_C_isVariable_1 : decode b_C_isVariable 1 = .ok (.invokestatic 144, 3) := by decide +kernel
theorem d_C_isVariable_4 : decode b_C_isVariable 4 = .ok (.ifCond .ne 19, 3) := by decide +kernel
theorem d_C_isVariable_7 : decode b_C_isVariable 7 = .ok (.iload_n 0, 1) := by decide +kernel
theorem d_C_isVariable_8 : decode b_C_isVariable 8 = .ok (.bipush 116, 2) := by decide +kernel
theorem d_C_isVariable_10 : decode b_C_isVariable 10 = .ok (.if_icmp .eq 13, 3) := by decide +kernel
theorem d_C_isVariable_13 : decode b_C_isVariable 13 = .ok (.iload_n 0, 1) := by decide +kernel
theorem d_C_isVariable_14 : decode b_C_isVariable 14 = .ok (.bipush 99, 2) := by decide +kernel
theorem d_C_isVariable_16 : decode b_C_isVariable 16 = .ok (.if_icmp .eq 7, 3) := by decide +kernel
theorem d_C_isVariable_19 : decode b_C_isVariable 19 = .ok (.iconst 1, 1) := by decide +kernel
theorem d_C_isVariable_20 : decode b_C_isVariable 20 = .ok (.goto 4, 3) := by decide +kernel
theorem d_C_isVariable_23 : decode b_C_isVariable 23 = .ok (.iconst 0, 1) := by decide +kernel
theorem d_C_isVariable_24 : decode b_C_isVariable 24 = .ok (.ireturn, 1) := by decide +kernel
