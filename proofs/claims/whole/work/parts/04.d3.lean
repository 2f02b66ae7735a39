theorem d_P_init_0 : decode b_P_init 0 = .ok (.aload_n 0, 1) := by decide +kernel
theorem d_P_init_1 : decode b_P_init 1 = .ok (.invokespecial 1, 3) := by decide +kernel
theorem d_P_init_4 : decode b_P_init 4 = .ok (.aload_n 0, 1) := by decide +kernel
theorem d_P_init_5 : decode b_P_init 5 = .ok (.sipush 160, 3) := by decide +kernel
theorem d_P_init_8 : decode b_P_init 8 = .ok (.newarray .char, 2) := by decide +kernel
theorem d_P_init_10 : decode b_P_init 10 = .ok (.putfield 9, 3) := by decide +kernel
theorem d_P_init_13 : decode b_P_init 13 = .ok (.aload_n 0, 1) := by decide +kernel
theorem d_P_init_14 : decode b_P_init 14 = .ok (.iconst 0, 1) := by decide +kernel
theorem d_P_init_15 : decode b_P_init 15 = .ok (.putfield 13, 3) := by decide +kernel
theorem d_P_init_18 : decode b_P_init 18 = .ok (.aload_n 0, 1) := by decide +kernel
theorem d_P_init_19 : decode b_P_init 19 = .ok (.new 17, 3) := by decide +kernel
theorem d_P_init_22 : decode b_P_init 22 = .ok (.dup, 1) := by decide +kernel
theorem d_P_init_23 : decode b_P_init 23 = .ok (.invokespecial 19, 3) := by decide +kernel
theorem d_P_init_26 : decode b_P_init 26 = .ok (.putfield 20, 3) := by decide +kernel
theorem d_P_init_29 : decode b_P_init 29 = .ok (.aload_n 0, 1) := by decide +kernel
theorem d_P_init_30 : decode b_P_init 30 = .ok (.new 24, 3) := by decide +kernel
theorem d_P_init_33 : decode b_P_init 33 = .ok (.dup, 1) := by decide +kernel
theorem d_P_init_34 : decode b_P_init 34 = .ok (.invokespecial 26, 3) := by decide +kernel
theorem d_P_init_37 : decode b_P_init 37 = .ok (.putfield 27, 3) := by decide +kernel
theorem d_P_init_40 : decode b_P_init 40 = .ok (.aload_n 0, 1) := by decide +kernel
theorem d_P_init_41 : decode b_P_init 41 = .ok (.new 31, 3) := by decide +kernel
theorem d_P_init_44 : decode b_P_init 44 = .ok (.dup, 1) := by decide +kernel
theorem d_P_init_45 : decode b_P_init 45 = .ok (.invokespecial 33, 3) := by decide +kernel
theorem d_P_init_48 : decode b_P_init 48 = .ok (.putfield 34, 3) := by decide +kernel
theorem d_P_init_51 : decode b_P_init 51 = .ok (.aload_n 0, 1) := by decide +kernel
theorem d_P_init_52 : decode b_P_init 52 = .ok (.bipush 32, 2) := by decide +kernel
theorem d_P_init_54 : decode b_P_init 54 = .ok (.newarray .int, 2) := by decide +kernel
theorem d_P_init_56 : decode b_P_init 56 = .ok (.putfield 38, 3) := by decide +kernel
theorem d_P_init_59 : decode b_P_init 59 = .ok (.return_, 1) := by decide +kernel
theorem d_P_type_0 : decode b_P_type 0 = .ok (.iconst 0, 1) := by decide +kernel
theorem d_P_type_1 : decode b_P_type 1 = .ok (.istore_n 2, 1) := by decide +kernel
theorem d_P_type_2 : decode b_P_type 2 = .ok (.bipush 24, 2) := by decide +kernel
theorem d_P_type_4 : decode b_P_type 4 = .ok (.istore_n 3, 1) := by decide +kernel
theorem d_P_type_5 : decode b_P_type 5 = .ok (.iload_n 3, 1) := by decide +kernel
theorem d_P_type_6 : decode b_P_type 6 = .ok (.ifCond .lt 48, 3) := by decide +kernel
theorem d_P_type_9 : decode b_P_type 9 = .ok (.iload_n 1, 1) := by decide +kernel
theorem d_P_type_10 : decode b_P_type 10 = .ok (.iload_n 3, 1) := by decide +kernel
theorem d_P_type_11 : decode b_P_type 11 = .ok (.iushr, 1) := by decide +kernel
theorem d_P_type_12 : decode b_P_type 12 = .ok (.sipush 255, 3) := by decide +kernel
theorem d_P_type_15 : decode b_P_type 15 = .ok (.iand, 1) := by decide +kernel
theorem d_P_type_16 : decode b_P_type 16 = .ok (.istore 4, 2) := by decide +kernel
theorem d_P_type_18 : decode b_P_type 18 = .ok (.iload 4, 2) := by decide +kernel
theorem d_P_type_20 : decode b_P_type 20 = .ok (.ifCond .eq 28, 3) := by decide +kernel
theorem d_P_type_23 : decode b_P_type 23 = .ok (.iload 4, 2) := by decide +kernel
theorem d_P_type_25 : decode b_P_type 25 = .ok (.bipush 33, 2) := by decide +kernel
theorem d_P_type_27 : decode b_P_type 27 = .ok (.if_icmp .lt 10, 3) := by decide +kernel
theorem d_P_type_30 : decode b_P_type 30 = .ok (.iload 4, 2) := by decide +kernel
theorem d_P_type_32 : decode b_P_type 32 = .ok (.bipush 126, 2) := by decide +kernel
theorem d_P_type_34 : decode b_P_type 34 = .ok (.if_icmp .le 11, 3) := by decide +kernel
theorem d_P_type_37 : decode b_P_type 37 = .ok (.new 42, 3) := by decide +kernel
theorem d_P_type_40 : decode b_P_type 40 = .ok (.dup, 1) := by decide +kernel
theorem d_P_type_41 : decode b_P_type 41 = .ok (.invokespecial 44, 3) := by decide +kernel
theorem d_P_type_44 : decode b_P_type 44 = .ok (.athrow, 1) := by decide +kernel
theorem d_P_type_45 : decode b_P_type 45 = .ok (.iinc 2 1, 3) := by decide +kernel
theorem d_P_type_48 : decode b_P_type 48 = .ok (.iinc 3 (-8), 3) := by decide +kernel
theorem d_P_type_51 : decode b_P_type 51 = .ok (.goto (-46), 3) := by decide +kernel
theorem d_P_type_54 : decode b_P_type 54 = .ok (.aload_n 0, 1) := by decide +kernel
theorem d_P_type_55 : decode b_P_type 55 = .ok (.getfield 13, 3) := by decide +kernel
theorem d_P_type_58 : decode b_P_type 58 = .ok (.iload_n 2, 1) := by decide +kernel
theorem d_P_type_59 : decode b_P_type 59 = .ok (.iadd, 1) := by decide +kernel
theorem d_P_type_60 : decode b_P_type 60 = .ok (.sipush 160, 3) := by decide +kernel
theorem d_P_type_63 : decode b_P_type 63 = .ok (.if_icmp .le 11, 3) := by decide +kernel
theorem d_P_type_66 : decode b_P_type 66 = .ok (.new 45, 3) := by decide +kernel
theorem d_P_type_69 : decode b_P_type 69 = .ok (.dup, 1) := by decide +kernel
theorem d_P_type_70 : decode b_P_type 70 = .ok (.invokespecial 47, 3) := by decide +kernel
theorem d_P_type_73 : decode b_P_type 73 = .ok (.athrow, 1) := by decide +kernel
theorem d_P_type_74 : decode b_P_type 74 = .ok (.bipush 24, 2) := by decide +kernel
theorem d_P_type_76 : decode b_P_type 76 = .ok (.istore_n 3, 1) := by decide +kernel
theorem d_P_type_77 : decode b_P_type 77 = .ok (.iload_n 3, 1) := by decide +kernel
theorem d_P_type_78 : decode b_P_type 78 = .ok (.ifCond .lt 45, 3) := by decide +kernel
theorem d_P_type_81 : decode b_P_type 81 = .ok (.iload_n 1, 1) := by decide +kernel
theorem d_P_type_82 : decode b_P_type 82 = .ok (.iload_n 3, 1) := by decide +kernel
theorem d_P_type_83 : decode b_P_type 83 = .ok (.iushr, 1) := by decide +kernel
theorem d_P_type_84 : decode b_P_type 84 = .ok (.sipush 255, 3) := by decide +kernel
theorem d_P_type_87 : decode b_P_type 87 = .ok (.iand, 1) := by decide +kernel
theorem d_P_type_88 : decode b_P_type 88 = .ok (.istore 4, 2) := by decide +kernel
theorem d_P_type_90 : decode b_P_type 90 = .ok (.iload 4, 2) := by decide +kernel
theorem d_P_type_92 : decode b_P_type 92 = .ok (.ifCond .eq 25, 3) := by decide +kernel
theorem d_P_type_95 : decode b_P_type 95 = .ok (.aload_n 0, 1) := by decide +kernel
theorem d_P_type_96 : decode b_P_type 96 = .ok (.getfield 9, 3) := by decide +kernel
theorem d_P_type_99 : decode b_P_type 99 = .ok (.aload_n 0, 1) := by decide +kernel
theorem d_P_type_100 : decode b_P_type 100 = .ok (.getfield 13, 3) := by decide +kernel
theorem d_P_type_103 : decode b_P_type 103 = .ok (.iload 4, 2) := by decide +kernel
theorem d_P_type_105 : decode b_P_type 105 = .ok (.i2c, 1) := by decide +kernel
theorem d_P_type_106 : decode b_P_type 106 = .ok (.castore, 1) := by decide +kernel
theorem d_P_type_107 : decode b_P_type 107 = .ok (.aload_n 0, 1) := by decide +kernel
theorem d_P_type_108 : decode b_P_type 108 = .ok (.dup, 1) := by decide +kernel
theorem d_P_type_109 : decode b_P_type 109 = .ok (.getfield 13, 3) := by decide +kernel
theorem d_P_type_112 : decode b_P_type 112 = .ok (.iconst 1, 1) := by decide +kernel
theorem d_P_type_113 : decode b_P_type 113 = .ok (.iadd, 1) := by decide +kernel
theorem d_P_type_114 : decode b_P_type 114 = .ok (.putfield 13, 3) := by decide +kernel
theorem d_P_type_117 : decode b_P_type 117 = .ok (.iinc 3 (-8), 3) := by decide +kernel
theorem d_P_type_120 : decode b_P_type 120 = .ok (.goto (-43), 3) := by decide +kernel
theorem d_P_type_123 : decode b_P_type 123 = .ok (.aload_n 0, 1) := by decide +kernel
theorem d_P_type_124 : decode b_P_type 124 = .ok (.getfield 13, 3) := by decide +kernel
theorem d_P_type_127 : decode b_P_type 127 = .ok (.ireturn, 1) := by decide +kernel
theorem d_P_erase_0 : decode b_P_erase 0 = .ok (.aload_n 0, 1) := by decide +kernel
theorem d_P_erase_1 : decode b_P_erase 1 = .ok (.iconst 0, 1) := by decide +kernel
theorem d_P_erase_2 : decode b_P_erase 2 = .ok (.putfield 13, 3) := by decide +kernel
theorem d_P_erase_5 : decode b_P_erase 5 = .ok (.return_, 1) := by decide +kernel
theorem d_P_compile_0 : decode b_P_compile 0 = .ok (.aload_n 0, 1) := by decide +kernel
theorem d_P_compile_1 : decode b_P_compile 1 = .ok (.getfield 27, 3) := by decide +kernel
theorem d_P_compile_4 : decode b_P_compile 4 = .ok (.aload_n 0, 1) := by decide +kernel
theorem d_P_compile_5 : decode b_P_compile 5 = .ok (.getfield 9, 3) := by decide +kernel
theorem d_P_compile_8 : decode b_P_compile 8 = .ok (.aload_n 0, 1) := by decide +kernel
theorem d_P_compile_9 : decode b_P_compile 9 = .ok (.getfield 13, 3) := by decide +kernel
theorem d_P_compile_12 : decode b_P_compile 12 = .ok (.invokevirtual 48, 3) := by decide +kernel
theorem d_P_compile_15 : decode b_P_compile 15 = .ok (.ifCond .ne 5, 3) := by decide +kernel
theorem d_P_compile_18 : decode b_P_compile 18 = .ok (.iconst 0, 1) := by decide +kernel
theorem d_P_compile_19 : decode b_P_compile 19 = .ok (.ireturn, 1) := by decide +kernel
theorem d_P_compile_20 : decode b_P_compile 20 = .ok (.aload_n 0, 1) := by decide +kernel
theorem d_P_compile_21 : decode b_P_compile 21 = .ok (.aload_n 0, 1) := by decide +kernel
theorem d_P_compile_22 : decode b_P_compile 22 = .ok (.getfield 27, 3) := by decide +kernel
theorem d_P_compile_25 : decode b_P_compile 25 = .ok (.aload_n 0, 1) := by decide +kernel
theorem d_P_compile_26 : decode b_P_compile 26 = .ok (.getfield 20, 3) := by decide +kernel
theorem d_P_compile_29 : decode b_P_compile 29 = .ok (.invokevirtual 52, 3) := by decide +kernel
theorem d_P_compile_32 : decode b_P_compile 32 = .ok (.putfield 20, 3) := by decide +kernel
theorem d_P_compile_35 : decode b_P_compile 35 = .ok (.iconst 1, 1) := by decide +kernel
theorem d_P_compile_36 : decode b_P_compile 36 = .ok (.ireturn, 1) := by decide +kernel
theorem d_P_size_0 : decode b_P_size 0 = .ok (.aload_n 0, 1) := by decide +kernel
theorem d_P_size_1 : decode b_P_size 1 = .ok (.getfield 20, 3) := by decide +kernel
theorem d_P_size_4 : decode b_P_size 4 = .ok (.getfield 56, 3) := by decide +kernel
theorem d_P_size_7 : decode b_P_size 7 = .ok (.ireturn, 1) := by decide +kernel
theorem d_P_instruction_0 : decode b_P_instruction 0 = .ok (.aload_n 0, 1) := by decide +kernel
theorem d_P_instruction_1 : decode b_P_instruction 1 = .ok (.iload_n 1, 1) := by decide +kernel
theorem d_P_instruction_2 : decode b_P_instruction 2 = .ok (.invokevirtual 59, 3) := by decide +kernel
theorem d_P_instruction_5 : decode b_P_instruction 5 = .ok (.ifCond .eq 12, 3) := by decide +kernel
theorem d_P_instruction_8 : decode b_P_instruction 8 = .ok (.iload_n 2, 1) := by decide +kernel
theorem d_P_instruction_9 : decode b_P_instruction 9 = .ok (.ifCond .lt 8, 3) := by decide +kernel
theorem d_P_instruction_12 : decode b_P_instruction 12 = .ok (.iload_n 2, 1) := by decide +kernel
theorem d_P_instruction_13 : decode b_P_instruction 13 = .ok (.iconst 2, 1) := by decide +kernel
theorem d_P_instruction_14 : decode b_P_instruction 14 = .ok (.if_icmp .le 11, 3) := by decide +kernel
theorem d_P_instruction_17 : decode b_P_instruction 17 = .ok (.new 63, 3) := by decide +kernel
theorem d_P_instruction_20 : decode b_P_instruction 20 = .ok (.dup, 1) := by decide +kernel
theorem d_P_instruction_21 : decode b_P_instruction 21 = .ok (.invokespecial 65, 3) := by decide +kernel
theorem d_P_instruction_24 : decode b_P_instruction 24 = .ok (.athrow, 1) := by decide +kernel
theorem d_P_instruction_25 : decode b_P_instruction 25 = .ok (.iload_n 2, 1) := by decide +kernel
theorem d_P_instruction_26 : decode b_P_instruction 26 = .ok (.ifCond .ne 13, 3) := by decide +kernel
theorem d_P_instruction_29 : decode b_P_instruction 29 = .ok (.aload_n 0, 1) := by decide +kernel
theorem d_P_instruction_30 : decode b_P_instruction 30 = .ok (.getfield 20, 3) := by decide +kernel
theorem d_P_instruction_33 : decode b_P_instruction 33 = .ok (.getfield 66, 3) := by decide +kernel
theorem d_P_instruction_36 : decode b_P_instruction 36 = .ok (.iload_n 1, 1) := by decide +kernel
theorem d_P_instruction_37 : decode b_P_instruction 37 = .ok (.iaload, 1) := by decide +kernel
theorem d_P_instruction_38 : decode b_P_instruction 38 = .ok (.ireturn, 1) := by decide +kernel
theorem d_P_instruction_39 : decode b_P_instruction 39 = .ok (.iload_n 2, 1) := by decide +kernel
theorem d_P_instruction_40 : decode b_P_instruction 40 = .ok (.iconst 1, 1) := by decide +kernel
theorem d_P_instruction_41 : decode b_P_instruction 41 = .ok (.if_icmp .ne 15, 3) := by decide +kernel
theorem d_P_instruction_44 : decode b_P_instruction 44 = .ok (.aload_n 0, 1) := by decide +kernel
theorem d_P_instruction_45 : decode b_P_instruction 45 = .ok (.getfield 20, 3) := by decide +kernel
theorem d_P_instruction_48 : decode b_P_instruction 48 = .ok (.getfield 69, 3) := by decide +kernel
theorem d_P_instruction_51 : decode b_P_instruction 51 = .ok (.iload_n 1, 1) := by decide +kernel
theorem d_P_instruction_52 : decode b_P_instruction 52 = .ok (.iaload, 1) := by decide +kernel
theorem d_P_instruction_53 : decode b_P_instruction 53 = .ok (.goto 12, 3) := by decide +kernel
theorem d_P_instruction_56 : decode b_P_instruction 56 = .ok (.aload_n 0, 1) := by decide +kernel
theorem d_P_instruction_57 : decode b_P_instruction 57 = .ok (.getfield 20, 3) := by decide +kernel
theorem d_P_instruction_60 : decode b_P_instruction 60 = .ok (.getfield 72, 3) := by decide +kernel
theorem d_P_instruction_63 : decode b_P_instruction 63 = .ok (.iload_n 1, 1) := by decide +kernel
theorem d_P_instruction_64 : decode b_P_instruction 64 = .ok (.iaload, 1) := by decide +kernel
theorem d_P_instruction_65 : decode b_P_instruction 65 = .ok (.ireturn, 1) := by decide +kernel
theorem d_P_result_0 : decode b_P_result 0 = .ok (.aload_n 0, 1) := by decide +kernel
theorem d_P_result_1 : decode b_P_result 1 = .ok (.invokevirtual 75, 3) := by decide +kernel
theorem d_P_result_4 : decode b_P_result 4 = .ok (.ifCond .ne 11, 3) := by decide +kernel
theorem d_P_result_7 : decode b_P_result 7 = .ok (.new 45, 3) := by decide +kernel
theorem d_P_result_10 : decode b_P_result 10 = .ok (.dup, 1) := by decide +kernel
theorem d_P_result_11 : decode b_P_result 11 = .ok (.invokespecial 47, 3) := by decide +kernel
theorem d_P_result_14 : decode b_P_result 14 = .ok (.athrow, 1) := by decide +kernel
theorem d_P_result_15 : decode b_P_result 15 = .ok (.iload_n 1, 1) := by decide +kernel
theorem d_P_result_16 : decode b_P_result 16 = .ok (.ifCond .lt 8, 3) := by decide +kernel
theorem d_P_result_19 : decode b_P_result 19 = .ok (.iload_n 1, 1) := by decide +kernel
theorem d_P_result_20 : decode b_P_result 20 = .ok (.iconst 3, 1) := by decide +kernel
theorem d_P_result_21 : decode b_P_result 21 = .ok (.if_icmp .lt 11, 3) := by decide +kernel
theorem d_P_result_24 : decode b_P_result 24 = .ok (.new 63, 3) := by decide +kernel
theorem d_P_result_27 : decode b_P_result 27 = .ok (.dup, 1) := by decide +kernel
theorem d_P_result_28 : decode b_P_result 28 = .ok (.invokespecial 65, 3) := by decide +kernel
theorem d_P_result_31 : decode b_P_result 31 = .ok (.athrow, 1) := by decide +kernel
theorem d_P_result_32 : decode b_P_result 32 = .ok (.aload_n 0, 1) := by decide +kernel
theorem d_P_result_33 : decode b_P_result 33 = .ok (.getfield 20, 3) := by decide +kernel
theorem d_P_result_36 : decode b_P_result 36 = .ok (.getfield 79, 3) := by decide +kernel
theorem d_P_result_39 : decode b_P_result 39 = .ok (.iload_n 1, 1) := by decide +kernel
theorem d_P_result_40 : decode b_P_result 40 = .ok (.iaload, 1) := by decide +kernel
theorem d_P_result_41 : decode b_P_result 41 = .ok (.ireturn, 1) := by decide +kernel
theorem d_P_typeOf_0 : decode b_P_typeOf 0 = .ok (.iload_n 1, 1) := by decide +kernel
theorem d_P_typeOf_1 : decode b_P_typeOf 1 = .ok (.ifCond .lt 9, 3) := by decide +kernel
theorem d_P_typeOf_4 : decode b_P_typeOf 4 = .ok (.iload_n 1, 1) := by decide +kernel
theorem d_P_typeOf_5 : decode b_P_typeOf 5 = .ok (.bipush 26, 2) := by decide +kernel
theorem d_P_typeOf_7 : decode b_P_typeOf 7 = .ok (.if_icmp .lt 11, 3) := by decide +kernel
theorem d_P_typeOf_10 : decode b_P_typeOf 10 = .ok (.new 63, 3) := by decide +kernel
theorem d_P_typeOf_13 : decode b_P_typeOf 13 = .ok (.dup, 1) := by decide +kernel
theorem d_P_typeOf_14 : decode b_P_typeOf 14 = .ok (.invokespecial 65, 3) := by decide +kernel
theorem d_P_typeOf_17 : decode b_P_typeOf 17 = .ok (.athrow, 1) := by decide +kernel
theorem d_P_typeOf_18 : decode b_P_typeOf 18 = .ok (.aload_n 0, 1) := by decide +kernel
theorem d_P_typeOf_19 : decode b_P_typeOf 19 = .ok (.getfield 20, 3) := by decide +kernel
theorem d_P_typeOf_22 : decode b_P_typeOf 22 = .ok (.getfield 82, 3) := by decide +kernel
theorem d_P_typeOf_25 : decode b_P_typeOf 25 = .ok (.iload_n 1, 1) := by decide +kernel
theorem d_P_typeOf_26 : decode b_P_typeOf 26 = .ok (.iaload, 1) := by decide +kernel
theorem d_P_typeOf_27 : decode b_P_typeOf 27 = .ok (.ireturn, 1) := by decide +kernel
theorem d_P_value_0 : decode b_P_value 0 = .ok (.aload_n 0, 1) := by decide +kernel
theorem d_P_value_1 : decode b_P_value 1 = .ok (.iload_n 1, 1) := by decide +kernel
theorem d_P_value_2 : decode b_P_value 2 = .ok (.invokevirtual 59, 3) := by decide +kernel
theorem d_P_value_5 : decode b_P_value 5 = .ok (.ifCond .ne 11, 3) := by decide +kernel
theorem d_P_value_8 : decode b_P_value 8 = .ok (.new 63, 3) := by decide +kernel
theorem d_P_value_11 : decode b_P_value 11 = .ok (.dup, 1) := by decide +kernel
theorem d_P_value_12 : decode b_P_value 12 = .ok (.invokespecial 65, 3) := by decide +kernel
theorem d_P_value_15 : decode b_P_value 15 = .ok (.athrow, 1) := by decide +kernel
theorem d_P_value_16 : decode b_P_value 16 = .ok (.iload 5, 2) := by decide +kernel
theorem d_P_value_18 : decode b_P_value 18 = .ok (.invokestatic 85, 3) := by decide +kernel
theorem d_P_value_21 : decode b_P_value 21 = .ok (.ifCond .ne 11, 3) := by decide +kernel
theorem d_P_value_24 : decode b_P_value 24 = .ok (.new 42, 3) := by decide +kernel
theorem d_P_value_27 : decode b_P_value 27 = .ok (.dup, 1) := by decide +kernel
theorem d_P_value_28 : decode b_P_value 28 = .ok (.invokespecial 44, 3) := by decide +kernel
theorem d_P_value_31 : decode b_P_value 31 = .ok (.athrow, 1) := by decide +kernel
theorem d_P_value_32 : decode b_P_value 32 = .ok (.aload_n 0, 1) := by decide +kernel
theorem d_P_value_33 : decode b_P_value 33 = .ok (.getfield 34, 3) := by decide +kernel
theorem d_P_value_36 : decode b_P_value 36 = .ok (.aload_n 0, 1) := by decide +kernel
theorem d_P_value_37 : decode b_P_value 37 = .ok (.getfield 20, 3) := by decide +kernel
theorem d_P_value_40 : decode b_P_value 40 = .ok (.iload_n 2, 1) := by decide +kernel
theorem d_P_value_41 : decode b_P_value 41 = .ok (.iload_n 3, 1) := by decide +kernel
theorem d_P_value_42 : decode b_P_value 42 = .ok (.iload 4, 2) := by decide +kernel
theorem d_P_value_44 : decode b_P_value 44 = .ok (.iload 5, 2) := by decide +kernel
theorem d_P_value_46 : decode b_P_value 46 = .ok (.invokevirtual 88, 3) := by decide +kernel
theorem d_P_value_49 : decode b_P_value 49 = .ok (.aload_n 0, 1) := by decide +kernel
theorem d_P_value_50 : decode b_P_value 50 = .ok (.getfield 34, 3) := by decide +kernel
theorem d_P_value_53 : decode b_P_value 53 = .ok (.getfield 92, 3) := by decide +kernel
theorem d_P_value_56 : decode b_P_value 56 = .ok (.iload_n 1, 1) := by decide +kernel
theorem d_P_value_57 : decode b_P_value 57 = .ok (.iaload, 1) := by decide +kernel
theorem d_P_value_58 : decode b_P_value 58 = .ok (.ireturn, 1) := by decide +kernel
theorem d_P_paint_0 : decode b_P_paint 0 = .ok (.iload_n 1, 1) := by decide +kernel
theorem d_P_paint_1 : decode b_P_paint 1 = .ok (.iload_n 2, 1) := by decide +kernel
theorem d_P_paint_2 : decode b_P_paint 2 = .ok (.invokestatic 95, 3) := by decide +kernel
theorem d_P_paint_5 : decode b_P_paint 5 = .ok (.ifCond .ne 11, 3) := by decide +kernel
theorem d_P_paint_8 : decode b_P_paint 8 = .ok (.new 63, 3) := by decide +kernel
theorem d_P_paint_11 : decode b_P_paint 11 = .ok (.dup, 1) := by decide +kernel
theorem d_P_paint_12 : decode b_P_paint 12 = .ok (.invokespecial 65, 3) := by decide +kernel
theorem d_P_paint_15 : decode b_P_paint 15 = .ok (.athrow, 1) := by decide +kernel
theorem d_P_paint_16 : decode b_P_paint 16 = .ok (.iload_n 3, 1) := by decide +kernel
theorem d_P_paint_17 : decode b_P_paint 17 = .ok (.invokestatic 85, 3) := by decide +kernel
theorem d_P_paint_20 : decode b_P_paint 20 = .ok (.ifCond .ne 11, 3) := by decide +kernel
theorem d_P_paint_23 : decode b_P_paint 23 = .ok (.new 42, 3) := by decide +kernel
theorem d_P_paint_26 : decode b_P_paint 26 = .ok (.dup, 1) := by decide +kernel
theorem d_P_paint_27 : decode b_P_paint 27 = .ok (.invokespecial 44, 3) := by decide +kernel
theorem d_P_paint_30 : decode b_P_paint 30 = .ok (.athrow, 1) := by decide +kernel
theorem d_P_paint_31 : decode b_P_paint 31 = .ok (.aload_n 0, 1) := by decide +kernel
theorem d_P_paint_32 : decode b_P_paint 32 = .ok (.getfield 38, 3) := by decide +kernel
theorem d_P_paint_35 : decode b_P_paint 35 = .ok (.iload_n 2, 1) := by decide +kernel
theorem d_P_paint_36 : decode b_P_paint 36 = .ok (.bipush 8, 2) := by decide +kernel
theorem d_P_paint_38 : decode b_P_paint 38 = .ok (.imul, 1) := by decide +kernel
theorem d_P_paint_39 : decode b_P_paint 39 = .ok (.iload_n 1, 1) := by decide +kernel
theorem d_P_paint_40 : decode b_P_paint 40 = .ok (.iadd, 1) := by decide +kernel
theorem d_P_paint_41 : decode b_P_paint 41 = .ok (.iload_n 3, 1) := by decide +kernel
theorem d_P_paint_42 : decode b_P_paint 42 = .ok (.iastore, 1) := by decide +kernel
theorem d_P_paint_43 : decode b_P_paint 43 = .ok (.return_, 1) := by decide +kernel
theorem d_P_run_0 : decode b_P_run 0 = .ok (.aload_n 0, 1) := by decide +kernel
theorem d_P_run_1 : decode b_P_run 1 = .ok (.invokevirtual 75, 3) := by decide +kernel
theorem d_P_run_4 : decode b_P_run 4 = .ok (.ifCond .ne 11, 3) := by decide +kernel
theorem d_P_run_7 : decode b_P_run 7 = .ok (.new 45, 3) := by decide +kernel
theorem d_P_run_10 : decode b_P_run 10 = .ok (.dup, 1) := by decide +kernel
theorem d_P_run_11 : decode b_P_run 11 = .ok (.invokespecial 47, 3) := by decide +kernel
theorem d_P_run_14 : decode b_P_run 14 = .ok (.athrow, 1) := by decide +kernel
theorem d_P_run_15 : decode b_P_run 15 = .ok (.iconst 0, 1) := by decide +kernel
theorem d_P_run_16 : decode b_P_run 16 = .ok (.istore_n 2, 1) := by decide +kernel
theorem d_P_run_17 : decode b_P_run 17 = .ok (.iload_n 2, 1) := by decide +kernel
theorem d_P_run_18 : decode b_P_run 18 = .ok (.iconst 4, 1) := by decide +kernel
theorem d_P_run_19 : decode b_P_run 19 = .ok (.if_icmp .ge 76, 3) := by decide +kernel
theorem d_P_run_22 : decode b_P_run 22 = .ok (.iconst 0, 1) := by decide +kernel
theorem d_P_run_23 : decode b_P_run 23 = .ok (.istore_n 3, 1) := by decide +kernel
theorem d_P_run_24 : decode b_P_run 24 = .ok (.iload_n 3, 1) := by decide +kernel
theorem d_P_run_25 : decode b_P_run 25 = .ok (.bipush 8, 2) := by decide +kernel
theorem d_P_run_27 : decode b_P_run 27 = .ok (.if_icmp .ge 62, 3) := by decide +kernel
theorem d_P_run_30 : decode b_P_run 30 = .ok (.iload_n 2, 1) := by decide +kernel
theorem d_P_run_31 : decode b_P_run 31 = .ok (.bipush 8, 2) := by decide +kernel
theorem d_P_run_33 : decode b_P_run 33 = .ok (.imul, 1) := by decide +kernel
theorem d_P_run_34 : decode b_P_run 34 = .ok (.iload_n 3, 1) := by decide +kernel
theorem d_P_run_35 : decode b_P_run 35 = .ok (.iadd, 1) := by decide +kernel
theorem d_P_run_36 : decode b_P_run 36 = .ok (.istore 4, 2) := by decide +kernel
theorem d_P_run_38 : decode b_P_run 38 = .ok (.aload_n 0, 1) := by decide +kernel
theorem d_P_run_39 : decode b_P_run 39 = .ok (.getfield 34, 3) := by decide +kernel
theorem d_P_run_42 : decode b_P_run 42 = .ok (.aload_n 0, 1) := by decide +kernel
theorem d_P_run_43 : decode b_P_run 43 = .ok (.getfield 20, 3) := by decide +kernel
theorem d_P_run_46 : decode b_P_run 46 = .ok (.iload_n 3, 1) := by decide +kernel
theorem d_P_run_47 : decode b_P_run 47 = .ok (.ldc 99, 2) := by decide +kernel
theorem d_P_run_49 : decode b_P_run 49 = .ok (.imul, 1) := by decide +kernel
theorem d_P_run_50 : decode b_P_run 50 = .ok (.iload_n 2, 1) := by decide +kernel
theorem d_P_run_51 : decode b_P_run 51 = .ok (.ldc 99, 2) := by decide +kernel
theorem d_P_run_53 : decode b_P_run 53 = .ok (.imul, 1) := by decide +kernel
theorem d_P_run_54 : decode b_P_run 54 = .ok (.iload_n 1, 1) := by decide +kernel
theorem d_P_run_55 : decode b_P_run 55 = .ok (.aload_n 0, 1) := by decide +kernel
theorem d_P_run_56 : decode b_P_run 56 = .ok (.getfield 38, 3) := by decide +kernel
theorem d_P_run_59 : decode b_P_run 59 = .ok (.iload 4, 2) := by decide +kernel
theorem d_P_run_61 : decode b_P_run 61 = .ok (.iaload, 1) := by decide +kernel
theorem d_P_run_62 : decode b_P_run 62 = .ok (.invokevirtual 88, 3) := by decide +kernel
theorem d_P_run_65 : decode b_P_run 65 = .ok (.aload_n 0, 1) := by decide +kernel
theorem d_P_run_66 : decode b_P_run 66 = .ok (.getfield 38, 3) := by decide +kernel
theorem d_P_run_69 : decode b_P_run 69 = .ok (.iload 4, 2) := by decide +kernel
theorem d_P_run_71 : decode b_P_run 71 = .ok (.aload_n 0, 1) := by decide +kernel
theorem d_P_run_72 : decode b_P_run 72 = .ok (.getfield 34, 3) := by decide +kernel
theorem d_P_run_75 : decode b_P_run 75 = .ok (.aload_n 0, 1) := by decide +kernel
theorem d_P_run_76 : decode b_P_run 76 = .ok (.getfield 20, 3) := by decide +kernel
theorem d_P_run_79 : decode b_P_run 79 = .ok (.invokevirtual 100, 3) := by decide +kernel
theorem d_P_run_82 : decode b_P_run 82 = .ok (.iastore, 1) := by decide +kernel
theorem d_P_run_83 : decode b_P_run 83 = .ok (.iinc 3 1, 3) := by decide +kernel
theorem d_P_run_86 : decode b_P_run 86 = .ok (.goto (-62), 3) := by decide +kernel
theorem d_P_run_89 : decode b_P_run 89 = .ok (.iinc 2 1, 3) := by decide +kernel
theorem d_P_run_92 : decode b_P_run 92 = .ok (.goto (-75), 3) := by decide +kernel
theorem d_P_run_95 : decode b_P_run 95 = .ok (.return_, 1) := by decide +kernel
theorem d_P_pixel_0 : decode b_P_pixel 0 = .ok (.iload_n 1, 1) := by decide +kernel
theorem d_P_pixel_1 : decode b_P_pixel 1 = .ok (.iload_n 2, 1) := by decide +kernel
theorem d_P_pixel_2 : decode b_P_pixel 2 = .ok (.invokestatic 95, 3) := by decide +kernel
theorem d_P_pixel_5 : decode b_P_pixel 5 = .ok (.ifCond .ne 11, 3) := by decide +kernel
theorem d_P_pixel_8 : decode b_P_pixel 8 = .ok (.new 63, 3) := by decide +kernel
theorem d_P_pixel_11 : decode b_P_pixel 11 = .ok (.dup, 1) := by decide +kernel
theorem d_P_pixel_12 : decode b_P_pixel 12 = .ok (.invokespecial 65, 3) := by decide +kernel
theorem d_P_pixel_15 : decode b_P_pixel 15 = .ok (.athrow, 1) := by decide +kernel
theorem d_P_pixel_16 : decode b_P_pixel 16 = .ok (.aload_n 0, 1) := by decide +kernel
theorem d_P_pixel_17 : decode b_P_pixel 17 = .ok (.getfield 38, 3) := by decide +kernel
theorem d_P_pixel_20 : decode b_P_pixel 20 = .ok (.iload_n 2, 1) := by decide +kernel
theorem d_P_pixel_21 : decode b_P_pixel 21 = .ok (.bipush 8, 2) := by decide +kernel
theorem d_P_pixel_23 : decode b_P_pixel 23 = .ok (.imul, 1) := by decide +kernel
theorem d_P_pixel_24 : decode b_P_pixel 24 = .ok (.iload_n 1, 1) := by decide +kernel
theorem d_P_pixel_25 : decode b_P_pixel 25 = .ok (.iadd, 1) := by decide +kernel
theorem d_P_pixel_26 : decode b_P_pixel 26 = .ok (.iaload, 1) := by decide +kernel
theorem d_P_pixel_27 : decode b_P_pixel 27 = .ok (.ireturn, 1) := by decide +kernel
theorem d_P_hasCode_0 : decode b_P_hasCode 0 = .ok (.aload_n 0, 1) := by decide +kernel
theorem d_P_hasCode_1 : decode b_P_hasCode 1 = .ok (.getfield 20, 3) := by decide +kernel
theorem d_P_hasCode_4 : decode b_P_hasCode 4 = .ok (.getfield 56, 3) := by decide +kernel
theorem d_P_hasCode_7 : decode b_P_hasCode 7 = .ok (.ifCond .le 7, 3) := by decide +kernel
theorem d_P_hasCode_10 : decode b_P_hasCode 10 = .ok (.iconst 1, 1) := by decide +kernel
theorem d_P_hasCode_11 : decode b_P_hasCode 11 = .ok (.goto 4, 3) := by decide +kernel
theorem d_P_hasCode_14 : decode b_P_hasCode 14 = .ok (.iconst 0, 1) := by decide +kernel
theorem d_P_hasCode_15 : decode b_P_hasCode 15 = .ok (.ireturn, 1) := by decide +kernel
theorem d_P_isInstruction_0 : decode b_P_isInstruction 0 = .ok (.iload_n 1, 1) := by decide +kernel
theorem d_P_isInstruction_1 : decode b_P_isInstruction 1 = .ok (.ifCond .lt 18, 3) := by decide +kernel
theorem d_P_isInstruction_4 : decode b_P_isInstruction 4 = .ok (.iload_n 1, 1) := by decide +kernel
theorem d_P_isInstruction_5 : decode b_P_isInstruction 5 = .ok (.aload_n 0, 1) := by decide +kernel
theorem d_P_isInstruction_6 : decode b_P_isInstruction 6 = .ok (.getfield 20, 3) := by decide +kernel
theorem d_P_isInstruction_9 : decode b_P_isInstruction 9 = .ok (.getfield 56, 3) := by decide +kernel
theorem d_P_isInstruction_12 : decode b_P_isInstruction 12 = .ok (.if_icmp .ge 7, 3) := by decide +kernel
theorem d_P_isInstruction_15 : decode b_P_isInstruction 15 = .ok (.iconst 1, 1) := by decide +kernel
theorem d_P_isInstruction_16 : decode b_P_isInstruction 16 = .ok (.goto 4, 3) := by decide +kernel
theorem d_P_isInstruction_19 : decode b_P_isInstruction 19 = .ok (.iconst 0, 1) := by decide +kernel
theorem d_P_isInstruction_20 : decode b_P_isInstruction 20 = .ok (.ireturn, 1) := by decide +kernel
theorem d_P_isPoint_0 : decode b_P_isPoint 0 = .ok (.iload_n 0, 1) := by decide +kernel
theorem d_P_isPoint_1 : decode b_P_isPoint 1 = .ok (.ifCond .lt 22, 3) := by decide +kernel
theorem d_P_isPoint_4 : decode b_P_isPoint 4 = .ok (.iload_n 0, 1) := by decide +kernel
theorem d_P_isPoint_5 : decode b_P_isPoint 5 = .ok (.bipush 8, 2) := by decide +kernel
theorem d_P_isPoint_7 : decode b_P_isPoint 7 = .ok (.if_icmp .ge 16, 3) := by decide +kernel
theorem d_P_isPoint_10 : decode b_P_isPoint 10 = .ok (.iload_n 1, 1) := by decide +kernel
theorem d_P_isPoint_11 : decode b_P_isPoint 11 = .ok (.ifCond .lt 12, 3) := by decide +kernel
theorem d_P_isPoint_14 : decode b_P_isPoint 14 = .ok (.iload_n 1, 1) := by decide +kernel
theorem d_P_isPoint_15 : decode b_P_isPoint 15 = .ok (.iconst 4, 1) := by decide +kernel
theorem d_P_isPoint_16 : decode b_P_isPoint 16 = .ok (.if_icmp .ge 7, 3) := by decide +kernel
theorem d_P_isPoint_19 : decode b_P_isPoint 19 = .ok (.iconst 1, 1) := by decide +kernel
theorem d_P_isPoint_20 : decode b_P_isPoint 20 = .ok (.goto 4, 3) := by decide +kernel
theorem d_P_isPoint_23 : decode b_P_isPoint 23 = .ok (.iconst 0, 1) := by decide +kernel
theorem d_P_isPoint_24 : decode b_P_isPoint 24 = .ok (.ireturn, 1) := by decide +kernel
theorem d_P_isColor_0 : decode b_P_isColor 0 = .ok (.iload_n 0, 1) := by decide +kernel
theorem d_P_isColor_1 : decode b_P_isColor 1 = .ok (.ifCond .lt 13, 3) := by decide +kernel
theorem d_P_isColor_4 : decode b_P_isColor 4 = .ok (.iload_n 0, 1) := by decide +kernel
theorem d_P_isColor_5 : decode b_P_isColor 5 = .ok (.ldc 104, 2) := by decide +kernel
theorem d_P_isColor_7 : decode b_P_isColor 7 = .ok (.if_icmp .gt 7, 3) := by decide +kernel
theorem d_P_isColor_10 : decode b_P_isColor 10 = .ok (.iconst 1, 1) := by decide +kernel
theorem d_P_isColor_11 : decode b_P_isColor 11 = .ok (.goto 4, 3) := by decide +kernel
theorem d_P_isColor_14 : decode b_P_isColor 14 = .ok (.iconst 0, 1) := by decide +kernel
theorem d_P_isColor_15 : decode b_P_isColor 15 = .ok (.ireturn, 1) := by decide +kernel
