theorem d_K_init_0 : decode b_K_init 0 = .ok (.aload_n 0, 1) := by decide +kernel
theorem d_K_init_1 : decode b_K_init 1 = .ok (.invokespecial 3, 3) := by decide +kernel
theorem d_K_init_4 : decode b_K_init 4 = .ok (.aload_n 0, 1) := by decide +kernel
theorem d_K_init_5 : decode b_K_init 5 = .ok (.bipush 100, 2) := by decide +kernel
theorem d_K_init_7 : decode b_K_init 7 = .ok (.newarray .int, 2) := by decide +kernel
theorem d_K_init_9 : decode b_K_init 9 = .ok (.putfield 9, 3) := by decide +kernel
theorem d_K_init_12 : decode b_K_init 12 = .ok (.aload_n 0, 1) := by decide +kernel
theorem d_K_init_13 : decode b_K_init 13 = .ok (.bipush 100, 2) := by decide +kernel
theorem d_K_init_15 : decode b_K_init 15 = .ok (.newarray .int, 2) := by decide +kernel
theorem d_K_init_17 : decode b_K_init 17 = .ok (.putfield 15, 3) := by decide +kernel
theorem d_K_init_20 : decode b_K_init 20 = .ok (.aload_n 0, 1) := by decide +kernel
theorem d_K_init_21 : decode b_K_init 21 = .ok (.bipush 100, 2) := by decide +kernel
theorem d_K_init_23 : decode b_K_init 23 = .ok (.newarray .int, 2) := by decide +kernel
theorem d_K_init_25 : decode b_K_init 25 = .ok (.putfield 18, 3) := by decide +kernel
theorem d_K_init_28 : decode b_K_init 28 = .ok (.aload_n 0, 1) := by decide +kernel
theorem d_K_init_29 : decode b_K_init 29 = .ok (.iconst 3, 1) := by decide +kernel
theorem d_K_init_30 : decode b_K_init 30 = .ok (.newarray .int, 2) := by decide +kernel
theorem d_K_init_32 : decode b_K_init 32 = .ok (.putfield 21, 3) := by decide +kernel
theorem d_K_init_35 : decode b_K_init 35 = .ok (.aload_n 0, 1) := by decide +kernel
theorem d_K_init_36 : decode b_K_init 36 = .ok (.bipush 26, 2) := by decide +kernel
theorem d_K_init_38 : decode b_K_init 38 = .ok (.newarray .int, 2) := by decide +kernel
theorem d_K_init_40 : decode b_K_init 40 = .ok (.putfield 24, 3) := by decide +kernel
theorem d_K_init_43 : decode b_K_init 43 = .ok (.aload_n 0, 1) := by decide +kernel
theorem d_K_init_44 : decode b_K_init 44 = .ok (.iconst 0, 1) := by decide +kernel
theorem d_K_init_45 : decode b_K_init 45 = .ok (.putfield 27, 3) := by decide +kernel
theorem d_K_init_48 : decode b_K_init 48 = .ok (.aload_n 0, 1) := by decide +kernel
theorem d_K_init_49 : decode b_K_init 49 = .ok (.iconst 0, 1) := by decide +kernel
theorem d_K_init_50 : decode b_K_init 50 = .ok (.putfield 31, 3) := by decide +kernel
theorem d_K_init_53 : decode b_K_init 53 = .ok (.return_, 1) := by decide +kernel
theorem d_K_clear_0 : decode b_K_clear 0 = .ok (.aload_n 0, 1) := by decide +kernel
theorem d_K_clear_1 : decode b_K_clear 1 = .ok (.iconst 0, 1) := by decide +kernel
theorem d_K_clear_2 : decode b_K_clear 2 = .ok (.putfield 27, 3) := by decide +kernel
theorem d_K_clear_5 : decode b_K_clear 5 = .ok (.aload_n 0, 1) := by decide +kernel
theorem d_K_clear_6 : decode b_K_clear 6 = .ok (.iconst 0, 1) := by decide +kernel
theorem d_K_clear_7 : decode b_K_clear 7 = .ok (.putfield 31, 3) := by decide +kernel
theorem d_K_clear_10 : decode b_K_clear 10 = .ok (.return_, 1) := by decide +kernel
theorem d_K_put_0 : decode b_K_put 0 = .ok (.iconst 0, 1) := by decide +kernel
theorem d_K_put_1 : decode b_K_put 1 = .ok (.istore 4, 2) := by decide +kernel
theorem d_K_put_3 : decode b_K_put 3 = .ok (.iload 4, 2) := by decide +kernel
theorem d_K_put_5 : decode b_K_put 5 = .ok (.aload_n 0, 1) := by decide +kernel
theorem d_K_put_6 : decode b_K_put 6 = .ok (.getfield 27, 3) := by decide +kernel
theorem d_K_put_9 : decode b_K_put 9 = .ok (.if_icmp .ge 45, 3) := by decide +kernel
theorem d_K_put_12 : decode b_K_put 12 = .ok (.aload_n 0, 1) := by decide +kernel
theorem d_K_put_13 : decode b_K_put 13 = .ok (.getfield 9, 3) := by decide +kernel
theorem d_K_put_16 : decode b_K_put 16 = .ok (.iload 4, 2) := by decide +kernel
theorem d_K_put_18 : decode b_K_put 18 = .ok (.iaload, 1) := by decide +kernel
theorem d_K_put_19 : decode b_K_put 19 = .ok (.iload_n 1, 1) := by decide +kernel
theorem d_K_put_20 : decode b_K_put 20 = .ok (.if_icmp .ne 28, 3) := by decide +kernel
theorem d_K_put_23 : decode b_K_put 23 = .ok (.aload_n 0, 1) := by decide +kernel
theorem d_K_put_24 : decode b_K_put 24 = .ok (.getfield 15, 3) := by decide +kernel
theorem d_K_put_27 : decode b_K_put 27 = .ok (.iload 4, 2) := by decide +kernel
theorem d_K_put_29 : decode b_K_put 29 = .ok (.iaload, 1) := by decide +kernel
theorem d_K_put_30 : decode b_K_put 30 = .ok (.iload_n 2, 1) := by decide +kernel
theorem d_K_put_31 : decode b_K_put 31 = .ok (.if_icmp .ne 17, 3) := by decide +kernel
theorem d_K_put_34 : decode b_K_put 34 = .ok (.aload_n 0, 1) := by decide +kernel
theorem d_K_put_35 : decode b_K_put 35 = .ok (.getfield 18, 3) := by decide +kernel
theorem d_K_put_38 : decode b_K_put 38 = .ok (.iload 4, 2) := by decide +kernel
theorem d_K_put_40 : decode b_K_put 40 = .ok (.iaload, 1) := by decide +kernel
theorem d_K_put_41 : decode b_K_put 41 = .ok (.iload_n 3, 1) := by decide +kernel
theorem d_K_put_42 : decode b_K_put 42 = .ok (.if_icmp .ne 6, 3) := by decide +kernel
theorem d_K_put_45 : decode b_K_put 45 = .ok (.iload 4, 2) := by decide +kernel
theorem d_K_put_47 : decode b_K_put 47 = .ok (.ireturn, 1) := by decide +kernel
theorem d_K_put_48 : decode b_K_put 48 = .ok (.iinc 4 1, 3) := by decide +kernel
theorem d_K_put_51 : decode b_K_put 51 = .ok (.goto (-48), 3) := by decide +kernel
theorem d_K_put_54 : decode b_K_put 54 = .ok (.aload_n 0, 1) := by decide +kernel
theorem d_K_put_55 : decode b_K_put 55 = .ok (.getfield 27, 3) := by decide +kernel
theorem d_K_put_58 : decode b_K_put 58 = .ok (.bipush 100, 2) := by decide +kernel
theorem d_K_put_60 : decode b_K_put 60 = .ok (.if_icmp .ne 10, 3) := by decide +kernel
theorem d_K_put_63 : decode b_K_put 63 = .ok (.aload_n 0, 1) := by decide +kernel
theorem d_K_put_64 : decode b_K_put 64 = .ok (.iconst 1, 1) := by decide +kernel
theorem d_K_put_65 : decode b_K_put 65 = .ok (.putfield 31, 3) := by decide +kernel
theorem d_K_put_68 : decode b_K_put 68 = .ok (.iconst 0, 1) := by decide +kernel
theorem d_K_put_69 : decode b_K_put 69 = .ok (.ireturn, 1) := by decide +kernel
theorem d_K_put_70 : decode b_K_put 70 = .ok (.aload_n 0, 1) := by decide +kernel
theorem d_K_put_71 : decode b_K_put 71 = .ok (.getfield 9, 3) := by decide +kernel
theorem d_K_put_74 : decode b_K_put 74 = .ok (.aload_n 0, 1) := by decide +kernel
theorem d_K_put_75 : decode b_K_put 75 = .ok (.getfield 27, 3) := by decide +kernel
theorem d_K_put_78 : decode b_K_put 78 = .ok (.iload_n 1, 1) := by decide +kernel
theorem d_K_put_79 : decode b_K_put 79 = .ok (.iastore, 1) := by decide +kernel
theorem d_K_put_80 : decode b_K_put 80 = .ok (.aload_n 0, 1) := by decide +kernel
theorem d_K_put_81 : decode b_K_put 81 = .ok (.getfield 15, 3) := by decide +kernel
theorem d_K_put_84 : decode b_K_put 84 = .ok (.aload_n 0, 1) := by decide +kernel
theorem d_K_put_85 : decode b_K_put 85 = .ok (.getfield 27, 3) := by decide +kernel
theorem d_K_put_88 : decode b_K_put 88 = .ok (.iload_n 2, 1) := by decide +kernel
theorem d_K_put_89 : decode b_K_put 89 = .ok (.iastore, 1) := by decide +kernel
theorem d_K_put_90 : decode b_K_put 90 = .ok (.aload_n 0, 1) := by decide +kernel
theorem d_K_put_91 : decode b_K_put 91 = .ok (.getfield 18, 3) := by decide +kernel
theorem d_K_put_94 : decode b_K_put 94 = .ok (.aload_n 0, 1) := by decide +kernel
theorem d_K_put_95 : decode b_K_put 95 = .ok (.getfield 27, 3) := by decide +kernel
theorem d_K_put_98 : decode b_K_put 98 = .ok (.iload_n 3, 1) := by decide +kernel
theorem d_K_put_99 : decode b_K_put 99 = .ok (.iastore, 1) := by decide +kernel
theorem d_K_put_100 : decode b_K_put 100 = .ok (.aload_n 0, 1) := by decide +kernel
theorem d_K_put_101 : decode b_K_put 101 = .ok (.dup, 1) := by decide +kernel
theorem d_K_put_102 : decode b_K_put 102 = .ok (.getfield 27, 3) := by decide +kernel
theorem d_K_put_105 : decode b_K_put 105 = .ok (.iconst 1, 1) := by decide +kernel
theorem d_K_put_106 : decode b_K_put 106 = .ok (.iadd, 1) := by decide +kernel
theorem d_K_put_107 : decode b_K_put 107 = .ok (.putfield 27, 3) := by decide +kernel
theorem d_K_put_110 : decode b_K_put 110 = .ok (.aload_n 0, 1) := by decide +kernel
theorem d_K_put_111 : decode b_K_put 111 = .ok (.getfield 27, 3) := by decide +kernel
theorem d_K_put_114 : decode b_K_put 114 = .ok (.iconst 1, 1) := by decide +kernel
theorem d_K_put_115 : decode b_K_put 115 = .ok (.isub, 1) := by decide +kernel
theorem d_K_put_116 : decode b_K_put 116 = .ok (.ireturn, 1) := by decide +kernel
theorem d_V_ofType_0 : decode b_V_ofType 0 = .ok (.iload_n 0, 1) := by decide +kernel
theorem d_V_ofType_1 : decode b_V_ofType 1 = .ok (.bipush 28, 2) := by decide +kernel
theorem d_V_ofType_3 : decode b_V_ofType 3 = .ok (.ishl, 1) := by decide +kernel
theorem d_V_ofType_4 : decode b_V_ofType 4 = .ok (.ireturn, 1) := by decide +kernel
theorem d_V_typeIn_0 : decode b_V_typeIn 0 = .ok (.iload_n 0, 1) := by decide +kernel
theorem d_V_typeIn_1 : decode b_V_typeIn 1 = .ok (.bipush 28, 2) := by decide +kernel
theorem d_V_typeIn_3 : decode b_V_typeIn 3 = .ok (.ishr, 1) := by decide +kernel
theorem d_V_typeIn_4 : decode b_V_typeIn 4 = .ok (.ireturn, 1) := by decide +kernel
theorem d_V_withNumber_0 : decode b_V_withNumber 0 = .ok (.iload_n 0, 1) := by decide +kernel
theorem d_V_withNumber_1 : decode b_V_withNumber 1 = .ok (.iload_n 2, 1) := by decide +kernel
theorem d_V_withNumber_2 : decode b_V_withNumber 2 = .ok (.bipush 7, 2) := by decide +kernel
theorem d_V_withNumber_4 : decode b_V_withNumber 4 = .ok (.iload_n 1, 1) := by decide +kernel
theorem d_V_withNumber_5 : decode b_V_withNumber 5 = .ok (.imul, 1) := by decide +kernel
theorem d_V_withNumber_6 : decode b_V_withNumber 6 = .ok (.ishl, 1) := by decide +kernel
theorem d_V_withNumber_7 : decode b_V_withNumber 7 = .ok (.ior, 1) := by decide +kernel
theorem d_V_withNumber_8 : decode b_V_withNumber 8 = .ok (.ireturn, 1) := by decide +kernel
theorem d_V_number_0 : decode b_V_number 0 = .ok (.iload_n 0, 1) := by decide +kernel
theorem d_V_number_1 : decode b_V_number 1 = .ok (.bipush 7, 2) := by decide +kernel
theorem d_V_number_3 : decode b_V_number 3 = .ok (.iload_n 1, 1) := by decide +kernel
theorem d_V_number_4 : decode b_V_number 4 = .ok (.imul, 1) := by decide +kernel
theorem d_V_number_5 : decode b_V_number 5 = .ok (.ishr, 1) := by decide +kernel
theorem d_V_number_6 : decode b_V_number 6 = .ok (.bipush 127, 2) := by decide +kernel
theorem d_V_number_8 : decode b_V_number 8 = .ok (.iand, 1) := by decide +kernel
theorem d_V_number_9 : decode b_V_number 9 = .ok (.ireturn, 1) := by decide +kernel
theorem d_V_spread_0 : decode b_V_spread 0 = .ok (.iload_n 0, 1) := by decide +kernel
theorem d_V_spread_1 : decode b_V_spread 1 = .ok (.iload_n 0, 1) := by decide +kernel
theorem d_V_spread_2 : decode b_V_spread 2 = .ok (.invokestatic 11, 3) := by decide +kernel
theorem d_V_spread_5 : decode b_V_spread 5 = .ok (.iconst 1, 1) := by decide +kernel
theorem d_V_spread_6 : decode b_V_spread 6 = .ok (.if_icmp .ne 7, 3) := by decide +kernel
theorem d_V_spread_9 : decode b_V_spread 9 = .ok (.iconst 0, 1) := by decide +kernel
theorem d_V_spread_10 : decode b_V_spread 10 = .ok (.goto 4, 3) := by decide +kernel
theorem d_V_spread_13 : decode b_V_spread 13 = .ok (.iload_n 1, 1) := by decide +kernel
theorem d_V_spread_14 : decode b_V_spread 14 = .ok (.invokestatic 15, 3) := by decide +kernel
theorem d_V_spread_17 : decode b_V_spread 17 = .ok (.ireturn, 1) := by decide +kernel
theorem d_N_operate_0 : decode b_N_operate 0 = .ok (.iload_n 0, 1) := by decide +kernel
theorem d_N_operate_1 : decode b_N_operate 1 = .ok (.tableswitch 136 2 11 #[55, 64, 73, 85, 91, 97, 103, 115, 122, 131], 55) := by decide +kernel
theorem d_N_operate_56 : decode b_N_operate 56 = .ok (.iload_n 1, 1) := by decide +kernel
theorem d_N_operate_57 : decode b_N_operate 57 = .ok (.i2l, 1) := by decide +kernel
theorem d_N_operate_58 : decode b_N_operate 58 = .ok (.iload_n 2, 1) := by decide +kernel
theorem d_N_operate_59 : decode b_N_operate 59 = .ok (.i2l, 1) := by decide +kernel
theorem d_N_operate_60 : decode b_N_operate 60 = .ok (.ladd, 1) := by decide +kernel
theorem d_N_operate_61 : decode b_N_operate 61 = .ok (.invokestatic 9, 3) := by decide +kernel
theorem d_N_operate_64 : decode b_N_operate 64 = .ok (.ireturn, 1) := by decide +kernel
theorem d_N_operate_65 : decode b_N_operate 65 = .ok (.iload_n 1, 1) := by decide +kernel
theorem d_N_operate_66 : decode b_N_operate 66 = .ok (.i2l, 1) := by decide +kernel
theorem d_N_operate_67 : decode b_N_operate 67 = .ok (.iload_n 2, 1) := by decide +kernel
theorem d_N_operate_68 : decode b_N_operate 68 = .ok (.i2l, 1) := by decide +kernel
theorem d_N_operate_69 : decode b_N_operate 69 = .ok (.lsub, 1) := by decide +kernel
theorem d_N_operate_70 : decode b_N_operate 70 = .ok (.invokestatic 9, 3) := by decide +kernel
theorem d_N_operate_73 : decode b_N_operate 73 = .ok (.ireturn, 1) := by decide +kernel
theorem d_N_operate_74 : decode b_N_operate 74 = .ok (.iload_n 1, 1) := by decide +kernel
theorem d_N_operate_75 : decode b_N_operate 75 = .ok (.i2l, 1) := by decide +kernel
theorem d_N_operate_76 : decode b_N_operate 76 = .ok (.iload_n 2, 1) := by decide +kernel
theorem d_N_operate_77 : decode b_N_operate 77 = .ok (.i2l, 1) := by decide +kernel
theorem d_N_operate_78 : decode b_N_operate 78 = .ok (.lmul, 1) := by decide +kernel
theorem d_N_operate_79 : decode b_N_operate 79 = .ok (.bipush 16, 2) := by decide +kernel
theorem d_N_operate_81 : decode b_N_operate 81 = .ok (.lshr, 1) := by decide +kernel
theorem d_N_operate_82 : decode b_N_operate 82 = .ok (.invokestatic 9, 3) := by decide +kernel
theorem d_N_operate_85 : decode b_N_operate 85 = .ok (.ireturn, 1) := by decide +kernel
theorem d_N_operate_86 : decode b_N_operate 86 = .ok (.iload_n 1, 1) := by decide +kernel
theorem d_N_operate_87 : decode b_N_operate 87 = .ok (.iload_n 2, 1) := by decide +kernel
theorem d_N_operate_88 : decode b_N_operate 88 = .ok (.invokestatic 15, 3) := by decide +kernel
theorem d_N_operate_91 : decode b_N_operate 91 = .ok (.ireturn, 1) := by decide +kernel
theorem d_N_operate_92 : decode b_N_operate 92 = .ok (.iload_n 1, 1) := by decide +kernel
theorem d_N_operate_93 : decode b_N_operate 93 = .ok (.iload_n 2, 1) := by decide +kernel
theorem d_N_operate_94 : decode b_N_operate 94 = .ok (.invokestatic 19, 3) := by decide +kernel
theorem d_N_operate_97 : decode b_N_operate 97 = .ok (.ireturn, 1) := by decide +kernel
theorem d_N_operate_98 : decode b_N_operate 98 = .ok (.iload_n 1, 1) := by decide +kernel
theorem d_N_operate_99 : decode b_N_operate 99 = .ok (.iload_n 2, 1) := by decide +kernel
theorem d_N_operate_100 : decode b_N_operate 100 = .ok (.invokestatic 24, 3) := by decide +kernel
theorem d_N_operate_103 : decode b_N_operate 103 = .ok (.ireturn, 1) := by decide +kernel
theorem d_N_operate_104 : decode b_N_operate 104 = .ok (.iload_n 1, 1) := by decide +kernel
theorem d_N_operate_105 : decode b_N_operate 105 = .ok (.iload_n 2, 1) := by decide +kernel
theorem d_N_operate_106 : decode b_N_operate 106 = .ok (.if_icmp .gt 8, 3) := by decide +kernel
theorem d_N_operate_109 : decode b_N_operate 109 = .ok (.ldc 27, 2) := by decide +kernel
theorem d_N_operate_111 : decode b_N_operate 111 = .ok (.goto 4, 3) := by decide +kernel
theorem d_N_operate_114 : decode b_N_operate 114 = .ok (.iconst 0, 1) := by decide +kernel
theorem d_N_operate_115 : decode b_N_operate 115 = .ok (.ireturn, 1) := by decide +kernel
theorem d_N_operate_116 : decode b_N_operate 116 = .ok (.iload_n 1, 1) := by decide +kernel
theorem d_N_operate_117 : decode b_N_operate 117 = .ok (.i2l, 1) := by decide +kernel
theorem d_N_operate_118 : decode b_N_operate 118 = .ok (.lneg, 1) := by decide +kernel
theorem d_N_operate_119 : decode b_N_operate 119 = .ok (.invokestatic 9, 3) := by decide +kernel
theorem d_N_operate_122 : decode b_N_operate 122 = .ok (.ireturn, 1) := by decide +kernel
theorem d_N_operate_123 : decode b_N_operate 123 = .ok (.iload_n 1, 1) := by decide +kernel
theorem d_N_operate_124 : decode b_N_operate 124 = .ok (.i2l, 1) := by decide +kernel
theorem d_N_operate_125 : decode b_N_operate 125 = .ok (.invokestatic 28, 3) := by decide +kernel
theorem d_N_operate_128 : decode b_N_operate 128 = .ok (.invokestatic 9, 3) := by decide +kernel
theorem d_N_operate_131 : decode b_N_operate 131 = .ok (.ireturn, 1) := by decide +kernel
theorem d_N_operate_132 : decode b_N_operate 132 = .ok (.iload_n 1, 1) := by decide +kernel
theorem d_N_operate_133 : decode b_N_operate 133 = .ok (.ldc 32, 2) := by decide +kernel
theorem d_N_operate_135 : decode b_N_operate 135 = .ok (.iand, 1) := by decide +kernel
theorem d_N_operate_136 : decode b_N_operate 136 = .ok (.ireturn, 1) := by decide +kernel
theorem d_N_operate_137 : decode b_N_operate 137 = .ok (.iconst 0, 1) := by decide +kernel
theorem d_N_operate_138 : decode b_N_operate 138 = .ok (.ireturn, 1) := by decide +kernel
theorem d_N_divide_0 : decode b_N_divide 0 = .ok (.iload_n 1, 1) := by decide +kernel
theorem d_N_divide_1 : decode b_N_divide 1 = .ok (.ifCond .eq 16, 3) := by decide +kernel
theorem d_N_divide_4 : decode b_N_divide 4 = .ok (.iload_n 0, 1) := by decide +kernel
theorem d_N_divide_5 : decode b_N_divide 5 = .ok (.i2l, 1) := by decide +kernel
theorem d_N_divide_6 : decode b_N_divide 6 = .ok (.ldc2_w 33, 3) := by decide +kernel
theorem d_N_divide_9 : decode b_N_divide 9 = .ok (.lmul, 1) := by decide +kernel
theorem d_N_divide_10 : decode b_N_divide 10 = .ok (.iload_n 1, 1) := by decide +kernel
theorem d_N_divide_11 : decode b_N_divide 11 = .ok (.i2l, 1) := by decide +kernel
theorem d_N_divide_12 : decode b_N_divide 12 = .ok (.ldiv, 1) := by decide +kernel
theorem d_N_divide_13 : decode b_N_divide 13 = .ok (.invokestatic 9, 3) := by decide +kernel
theorem d_N_divide_16 : decode b_N_divide 16 = .ok (.ireturn, 1) := by decide +kernel
theorem d_N_divide_17 : decode b_N_divide 17 = .ok (.iload_n 0, 1) := by decide +kernel
theorem d_N_divide_18 : decode b_N_divide 18 = .ok (.ifCond .ne 5, 3) := by decide +kernel
theorem d_N_divide_21 : decode b_N_divide 21 = .ok (.iconst 0, 1) := by decide +kernel
theorem d_N_divide_22 : decode b_N_divide 22 = .ok (.ireturn, 1) := by decide +kernel
theorem d_N_divide_23 : decode b_N_divide 23 = .ok (.iload_n 0, 1) := by decide +kernel
theorem d_N_divide_24 : decode b_N_divide 24 = .ok (.ifCond .le 8, 3) := by decide +kernel
theorem d_N_divide_27 : decode b_N_divide 27 = .ok (.ldc 35, 2) := by decide +kernel
theorem d_N_divide_29 : decode b_N_divide 29 = .ok (.goto 5, 3) := by decide +kernel
theorem d_N_divide_32 : decode b_N_divide 32 = .ok (.ldc 36, 2) := by decide +kernel
theorem d_N_divide_34 : decode b_N_divide 34 = .ok (.ireturn, 1) := by decide +kernel
theorem d_N_saturate_0 : decode b_N_saturate 0 = .ok (.lload_n 0, 1) := by decide +kernel
theorem d_N_saturate_1 : decode b_N_saturate 1 = .ok (.ldc2_w 37, 3) := by decide +kernel
theorem d_N_saturate_4 : decode b_N_saturate 4 = .ok (.lcmp, 1) := by decide +kernel
theorem d_N_saturate_5 : decode b_N_saturate 5 = .ok (.ifCond .le 6, 3) := by decide +kernel
theorem d_N_saturate_8 : decode b_N_saturate 8 = .ok (.ldc 35, 2) := by decide +kernel
theorem d_N_saturate_10 : decode b_N_saturate 10 = .ok (.ireturn, 1) := by decide +kernel
theorem d_N_saturate_11 : decode b_N_saturate 11 = .ok (.lload_n 0, 1) := by decide +kernel
theorem d_N_saturate_12 : decode b_N_saturate 12 = .ok (.ldc2_w 39, 3) := by decide +kernel
theorem d_N_saturate_15 : decode b_N_saturate 15 = .ok (.lcmp, 1) := by decide +kernel
theorem d_N_saturate_16 : decode b_N_saturate 16 = .ok (.ifCond .ge 8, 3) := by decide +kernel
theorem d_N_saturate_19 : decode b_N_saturate 19 = .ok (.ldc 36, 2) := by decide +kernel
theorem d_N_saturate_21 : decode b_N_saturate 21 = .ok (.goto 5, 3) := by decide +kernel
theorem d_N_saturate_24 : decode b_N_saturate 24 = .ok (.lload_n 0, 1) := by decide +kernel
theorem d_N_saturate_25 : decode b_N_saturate 25 = .ok (.l2i, 1) := by decide +kernel
theorem d_N_saturate_26 : decode b_N_saturate 26 = .ok (.ireturn, 1) := by decide +kernel
theorem d_H_init_0 : decode b_H_init 0 = .ok (.aload_n 0, 1) := by decide +kernel
theorem d_H_init_1 : decode b_H_init 1 = .ok (.invokespecial 3, 3) := by decide +kernel
theorem d_H_init_4 : decode b_H_init 4 = .ok (.aload_n 0, 1) := by decide +kernel
theorem d_H_init_5 : decode b_H_init 5 = .ok (.bipush 100, 2) := by decide +kernel
theorem d_H_init_7 : decode b_H_init 7 = .ok (.newarray .int, 2) := by decide +kernel
theorem d_H_init_9 : decode b_H_init 9 = .ok (.putfield 9, 3) := by decide +kernel
theorem d_H_init_12 : decode b_H_init 12 = .ok (.aload_n 0, 1) := by decide +kernel
theorem d_H_init_13 : decode b_H_init 13 = .ok (.bipush 6, 2) := by decide +kernel
theorem d_H_init_15 : decode b_H_init 15 = .ok (.newarray .int, 2) := by decide +kernel
theorem d_H_init_17 : decode b_H_init 17 = .ok (.putfield 15, 3) := by decide +kernel
theorem d_H_init_20 : decode b_H_init 20 = .ok (.return_, 1) := by decide +kernel
theorem d_H_work_0 : decode b_H_work 0 = .ok (.aload_n 0, 1) := by decide +kernel
theorem d_H_work_1 : decode b_H_work 1 = .ok (.getfield 15, 3) := by decide +kernel
theorem d_H_work_4 : decode b_H_work 4 = .ok (.iconst 0, 1) := by decide +kernel
theorem d_H_work_5 : decode b_H_work 5 = .ok (.iload_n 2, 1) := by decide +kernel
theorem d_H_work_6 : decode b_H_work 6 = .ok (.iastore, 1) := by decide +kernel
theorem d_H_work_7 : decode b_H_work 7 = .ok (.aload_n 0, 1) := by decide +kernel
theorem d_H_work_8 : decode b_H_work 8 = .ok (.getfield 15, 3) := by decide +kernel
theorem d_H_work_11 : decode b_H_work 11 = .ok (.iconst 1, 1) := by decide +kernel
theorem d_H_work_12 : decode b_H_work 12 = .ok (.iload_n 3, 1) := by decide +kernel
theorem d_H_work_13 : decode b_H_work 13 = .ok (.iastore, 1) := by decide +kernel
theorem d_H_work_14 : decode b_H_work 14 = .ok (.aload_n 0, 1) := by decide +kernel
theorem d_H_work_15 : decode b_H_work 15 = .ok (.getfield 15, 3) := by decide +kernel
theorem d_H_work_18 : decode b_H_work 18 = .ok (.iconst 2, 1) := by decide +kernel
theorem d_H_work_19 : decode b_H_work 19 = .ok (.iload 4, 2) := by decide +kernel
theorem d_H_work_21 : decode b_H_work 21 = .ok (.iastore, 1) := by decide +kernel
theorem d_H_work_22 : decode b_H_work 22 = .ok (.iconst 0, 1) := by decide +kernel
theorem d_H_work_23 : decode b_H_work 23 = .ok (.istore 6, 2) := by decide +kernel
theorem d_H_work_25 : decode b_H_work 25 = .ok (.iload 6, 2) := by decide +kernel
theorem d_H_work_27 : decode b_H_work 27 = .ok (.iconst 3, 1) := by decide +kernel
theorem d_H_work_28 : decode b_H_work 28 = .ok (.if_icmp .ge 37, 3) := by decide +kernel
theorem d_H_work_31 : decode b_H_work 31 = .ok (.aload_n 0, 1) := by decide +kernel
theorem d_H_work_32 : decode b_H_work 32 = .ok (.getfield 15, 3) := by decide +kernel
theorem d_H_work_35 : decode b_H_work 35 = .ok (.iconst 3, 1) := by decide +kernel
theorem d_H_work_36 : decode b_H_work 36 = .ok (.iload 6, 2) := by decide +kernel
theorem d_H_work_38 : decode b_H_work 38 = .ok (.iadd, 1) := by decide +kernel
theorem d_H_work_39 : decode b_H_work 39 = .ok (.iload 5, 2) := by decide +kernel
theorem d_H_work_41 : decode b_H_work 41 = .ok (.bipush 16, 2) := by decide +kernel
theorem d_H_work_43 : decode b_H_work 43 = .ok (.bipush 8, 2) := by decide +kernel
theorem d_H_work_45 : decode b_H_work 45 = .ok (.iload 6, 2) := by decide +kernel
theorem d_H_work_47 : decode b_H_work 47 = .ok (.imul, 1) := by decide +kernel
theorem d_H_work_48 : decode b_H_work 48 = .ok (.isub, 1) := by decide +kernel
theorem d_H_work_49 : decode b_H_work 49 = .ok (.ishr, 1) := by decide +kernel
theorem d_H_work_50 : decode b_H_work 50 = .ok (.sipush 255, 3) := by decide +kernel
theorem d_H_work_53 : decode b_H_work 53 = .ok (.iand, 1) := by decide +kernel
theorem d_H_work_54 : decode b_H_work 54 = .ok (.sipush 256, 3) := by decide +kernel
theorem d_H_work_57 : decode b_H_work 57 = .ok (.imul, 1) := by decide +kernel
theorem d_H_work_58 : decode b_H_work 58 = .ok (.iastore, 1) := by decide +kernel
theorem d_H_work_59 : decode b_H_work 59 = .ok (.iinc 6 1, 3) := by decide +kernel
theorem d_H_work_62 : decode b_H_work 62 = .ok (.goto (-37), 3) := by decide +kernel
theorem d_H_work_65 : decode b_H_work 65 = .ok (.iconst 0, 1) := by decide +kernel
theorem d_H_work_66 : decode b_H_work 66 = .ok (.istore 6, 2) := by decide +kernel
theorem d_H_work_68 : decode b_H_work 68 = .ok (.iload 6, 2) := by decide +kernel
theorem d_H_work_70 : decode b_H_work 70 = .ok (.aload_n 1, 1) := by decide +kernel
theorem d_H_work_71 : decode b_H_work 71 = .ok (.getfield 18, 3) := by decide +kernel
theorem d_H_work_74 : decode b_H_work 74 = .ok (.if_icmp .ge 41, 3) := by decide +kernel
theorem d_H_work_77 : decode b_H_work 77 = .ok (.aload_n 0, 1) := by decide +kernel
theorem d_H_work_78 : decode b_H_work 78 = .ok (.getfield 9, 3) := by decide +kernel
theorem d_H_work_81 : decode b_H_work 81 = .ok (.iload 6, 2) := by decide +kernel
theorem d_H_work_83 : decode b_H_work 83 = .ok (.aload_n 0, 1) := by decide +kernel
theorem d_H_work_84 : decode b_H_work 84 = .ok (.aload_n 1, 1) := by decide +kernel
theorem d_H_work_85 : decode b_H_work 85 = .ok (.getfield 24, 3) := by decide +kernel
theorem d_H_work_88 : decode b_H_work 88 = .ok (.iload 6, 2) := by decide +kernel
theorem d_H_work_90 : decode b_H_work 90 = .ok (.iaload, 1) := by decide +kernel
theorem d_H_work_91 : decode b_H_work 91 = .ok (.aload_n 1, 1) := by decide +kernel
theorem d_H_work_92 : decode b_H_work 92 = .ok (.getfield 27, 3) := by decide +kernel
theorem d_H_work_95 : decode b_H_work 95 = .ok (.iload 6, 2) := by decide +kernel
theorem d_H_work_97 : decode b_H_work 97 = .ok (.iaload, 1) := by decide +kernel
theorem d_H_work_98 : decode b_H_work 98 = .ok (.aload_n 1, 1) := by decide +kernel
theorem d_H_work_99 : decode b_H_work 99 = .ok (.getfield 30, 3) := by decide +kernel
theorem d_H_work_102 : decode b_H_work 102 = .ok (.iload 6, 2) := by decide +kernel
theorem d_H_work_104 : decode b_H_work 104 = .ok (.iaload, 1) := by decide +kernel
theorem d_H_work_105 : decode b_H_work 105 = .ok (.invokevirtual 33, 3) := by decide +kernel
theorem d_H_work_108 : decode b_H_work 108 = .ok (.iastore, 1) := by decide +kernel
theorem d_H_work_109 : decode b_H_work 109 = .ok (.iinc 6 1, 3) := by decide +kernel
theorem d_H_work_112 : decode b_H_work 112 = .ok (.goto (-44), 3) := by decide +kernel
theorem d_H_work_115 : decode b_H_work 115 = .ok (.return_, 1) := by decide +kernel
theorem d_H_make_0 : decode b_H_make 0 = .ok (.iload_n 1, 1) := by decide +kernel
theorem d_H_make_1 : decode b_H_make 1 = .ok (.ifCond .ne 5, 3) := by decide +kernel
theorem d_H_make_4 : decode b_H_make 4 = .ok (.iload_n 2, 1) := by decide +kernel
theorem d_H_make_5 : decode b_H_make 5 = .ok (.ireturn, 1) := by decide +kernel
theorem d_H_make_6 : decode b_H_make 6 = .ok (.iload_n 1, 1) := by decide +kernel
theorem d_H_make_7 : decode b_H_make 7 = .ok (.iconst 1, 1) := by decide +kernel
theorem d_H_make_8 : decode b_H_make 8 = .ok (.if_icmp .ne 10, 3) := by decide +kernel
theorem d_H_make_11 : decode b_H_make 11 = .ok (.aload_n 0, 1) := by decide +kernel
theorem d_H_make_12 : decode b_H_make 12 = .ok (.getfield 15, 3) := by decide +kernel
theorem d_H_make_15 : decode b_H_make 15 = .ok (.iload_n 2, 1) := by decide +kernel
theorem d_H_make_16 : decode b_H_make 16 = .ok (.iaload, 1) := by decide +kernel
theorem d_H_make_17 : decode b_H_make 17 = .ok (.ireturn, 1) := by decide +kernel
theorem d_H_make_18 : decode b_H_make 18 = .ok (.iload_n 1, 1) := by decide +kernel
theorem d_H_make_19 : decode b_H_make 19 = .ok (.aload_n 0, 1) := by decide +kernel
theorem d_H_make_20 : decode b_H_make 20 = .ok (.getfield 9, 3) := by decide +kernel
theorem d_H_make_23 : decode b_H_make 23 = .ok (.iload_n 2, 1) := by decide +kernel
theorem d_H_make_24 : decode b_H_make 24 = .ok (.iaload, 1) := by decide +kernel
theorem d_H_make_25 : decode b_H_make 25 = .ok (.aload_n 0, 1) := by decide +kernel
theorem d_H_make_26 : decode b_H_make 26 = .ok (.getfield 9, 3) := by decide +kernel
theorem d_H_make_29 : decode b_H_make 29 = .ok (.iload_n 3, 1) := by decide +kernel
theorem d_H_make_30 : decode b_H_make 30 = .ok (.iaload, 1) := by decide +kernel
theorem d_H_make_31 : decode b_H_make 31 = .ok (.invokestatic 37, 3) := by decide +kernel
theorem d_H_make_34 : decode b_H_make 34 = .ok (.ireturn, 1) := by decide +kernel
theorem d_H_colorOf_0 : decode b_H_colorOf 0 = .ok (.iconst 0, 1) := by decide +kernel
theorem d_H_colorOf_1 : decode b_H_colorOf 1 = .ok (.istore_n 2, 1) := by decide +kernel
theorem d_H_colorOf_2 : decode b_H_colorOf 2 = .ok (.iconst 0, 1) := by decide +kernel
theorem d_H_colorOf_3 : decode b_H_colorOf 3 = .ok (.istore_n 3, 1) := by decide +kernel
theorem d_H_colorOf_4 : decode b_H_colorOf 4 = .ok (.iload_n 3, 1) := by decide +kernel
theorem d_H_colorOf_5 : decode b_H_colorOf 5 = .ok (.iconst 3, 1) := by decide +kernel
theorem d_H_colorOf_6 : decode b_H_colorOf 6 = .ok (.if_icmp .ge 43, 3) := by decide +kernel
theorem d_H_colorOf_9 : decode b_H_colorOf 9 = .ok (.aload_n 0, 1) := by decide +kernel
theorem d_H_colorOf_10 : decode b_H_colorOf 10 = .ok (.getfield 9, 3) := by decide +kernel
theorem d_H_colorOf_13 : decode b_H_colorOf 13 = .ok (.aload_n 1, 1) := by decide +kernel
theorem d_H_colorOf_14 : decode b_H_colorOf 14 = .ok (.getfield 42, 3) := by decide +kernel
theorem d_H_colorOf_17 : decode b_H_colorOf 17 = .ok (.iload_n 3, 1) := by decide +kernel
theorem d_H_colorOf_18 : decode b_H_colorOf 18 = .ok (.iaload, 1) := by decide +kernel
theorem d_H_colorOf_19 : decode b_H_colorOf 19 = .ok (.iaload, 1) := by decide +kernel
theorem d_H_colorOf_20 : decode b_H_colorOf 20 = .ok (.bipush 8, 2) := by decide +kernel
theorem d_H_colorOf_22 : decode b_H_colorOf 22 = .ok (.ishr, 1) := by decide +kernel
theorem d_H_colorOf_23 : decode b_H_colorOf 23 = .ok (.istore 4, 2) := by decide +kernel
theorem d_H_colorOf_25 : decode b_H_colorOf 25 = .ok (.iload_n 2, 1) := by decide +kernel
theorem d_H_colorOf_26 : decode b_H_colorOf 26 = .ok (.bipush 8, 2) := by decide +kernel
theorem d_H_colorOf_28 : decode b_H_colorOf 28 = .ok (.ishl, 1) := by decide +kernel
theorem d_H_colorOf_29 : decode b_H_colorOf 29 = .ok (.iconst 0, 1) := by decide +kernel
theorem d_H_colorOf_30 : decode b_H_colorOf 30 = .ok (.sipush 255, 3) := by decide +kernel
theorem d_H_colorOf_33 : decode b_H_colorOf 33 = .ok (.iload 4, 2) := by decide +kernel
theorem d_H_colorOf_35 : decode b_H_colorOf 35 = .ok (.invokestatic 45, 3) := by decide +kernel
theorem d_H_colorOf_38 : decode b_H_colorOf 38 = .ok (.invokestatic 51, 3) := by decide +kernel
theorem d_H_colorOf_41 : decode b_H_colorOf 41 = .ok (.ior, 1) := by decide +kernel
theorem d_H_colorOf_42 : decode b_H_colorOf 42 = .ok (.istore_n 2, 1) := by decide +kernel
theorem d_H_colorOf_43 : decode b_H_colorOf 43 = .ok (.iinc 3 1, 3) := by decide +kernel
theorem d_H_colorOf_46 : decode b_H_colorOf 46 = .ok (.goto (-42), 3) := by decide +kernel
theorem d_H_colorOf_49 : decode b_H_colorOf 49 = .ok (.iload_n 2, 1) := by decide +kernel
theorem d_H_colorOf_50 : decode b_H_colorOf 50 = .ok (.ireturn, 1) := by decide +kernel
