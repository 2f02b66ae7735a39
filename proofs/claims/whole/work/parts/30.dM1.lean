theorem d_M_init_0 : decode b_M_init 0 = .ok (.aload_n 0, 1) := by decide +kernel
theorem d_M_init_1 : decode b_M_init 1 = .ok (.invokespecial 1, 3) := by decide +kernel
theorem d_M_init_4 : decode b_M_init 4 = .ok (.aload_n 0, 1) := by decide +kernel
theorem d_M_init_5 : decode b_M_init 5 = .ok (.sipush 160, 3) := by decide +kernel
theorem d_M_init_8 : decode b_M_init 8 = .ok (.newarray .int, 2) := by decide +kernel
theorem d_M_init_10 : decode b_M_init 10 = .ok (.putfield 7, 3) := by decide +kernel
theorem d_M_init_13 : decode b_M_init 13 = .ok (.aload_n 0, 1) := by decide +kernel
theorem d_M_init_14 : decode b_M_init 14 = .ok (.bipush 100, 2) := by decide +kernel
theorem d_M_init_16 : decode b_M_init 16 = .ok (.newarray .int, 2) := by decide +kernel
theorem d_M_init_18 : decode b_M_init 18 = .ok (.putfield 13, 3) := by decide +kernel
theorem d_M_init_21 : decode b_M_init 21 = .ok (.aload_n 0, 1) := by decide +kernel
theorem d_M_init_22 : decode b_M_init 22 = .ok (.bipush 100, 2) := by decide +kernel
theorem d_M_init_24 : decode b_M_init 24 = .ok (.newarray .int, 2) := by decide +kernel
theorem d_M_init_26 : decode b_M_init 26 = .ok (.putfield 16, 3) := by decide +kernel
theorem d_M_init_29 : decode b_M_init 29 = .ok (.aload_n 0, 1) := by decide +kernel
theorem d_M_init_30 : decode b_M_init 30 = .ok (.bipush 100, 2) := by decide +kernel
theorem d_M_init_32 : decode b_M_init 32 = .ok (.newarray .int, 2) := by decide +kernel
theorem d_M_init_34 : decode b_M_init 34 = .ok (.putfield 19, 3) := by decide +kernel
theorem d_M_init_37 : decode b_M_init 37 = .ok (.aload_n 0, 1) := by decide +kernel
theorem d_M_init_38 : decode b_M_init 38 = .ok (.iconst 3, 1) := by decide +kernel
theorem d_M_init_39 : decode b_M_init 39 = .ok (.newarray .int, 2) := by decide +kernel
theorem d_M_init_41 : decode b_M_init 41 = .ok (.putfield 22, 3) := by decide +kernel
theorem d_M_init_44 : decode b_M_init 44 = .ok (.aload_n 0, 1) := by decide +kernel
theorem d_M_init_45 : decode b_M_init 45 = .ok (.bipush 26, 2) := by decide +kernel
theorem d_M_init_47 : decode b_M_init 47 = .ok (.newarray .int, 2) := by decide +kernel
theorem d_M_init_49 : decode b_M_init 49 = .ok (.putfield 25, 3) := by decide +kernel
theorem d_M_init_52 : decode b_M_init 52 = .ok (.aload_n 0, 1) := by decide +kernel
theorem d_M_init_53 : decode b_M_init 53 = .ok (.bipush 100, 2) := by decide +kernel
theorem d_M_init_55 : decode b_M_init 55 = .ok (.newarray .int, 2) := by decide +kernel
theorem d_M_init_57 : decode b_M_init 57 = .ok (.putfield 28, 3) := by decide +kernel
theorem d_M_init_60 : decode b_M_init 60 = .ok (.aload_n 0, 1) := by decide +kernel
theorem d_M_init_61 : decode b_M_init 61 = .ok (.bipush 100, 2) := by decide +kernel
theorem d_M_init_63 : decode b_M_init 63 = .ok (.newarray .int, 2) := by decide +kernel
theorem d_M_init_65 : decode b_M_init 65 = .ok (.putfield 31, 3) := by decide +kernel
theorem d_M_init_68 : decode b_M_init 68 = .ok (.aload_n 0, 1) := by decide +kernel
theorem d_M_init_69 : decode b_M_init 69 = .ok (.bipush 100, 2) := by decide +kernel
theorem d_M_init_71 : decode b_M_init 71 = .ok (.newarray .int, 2) := by decide +kernel
theorem d_M_init_73 : decode b_M_init 73 = .ok (.putfield 34, 3) := by decide +kernel
theorem d_M_init_76 : decode b_M_init 76 = .ok (.aload_n 0, 1) := by decide +kernel
theorem d_M_init_77 : decode b_M_init 77 = .ok (.bipush 26, 2) := by decide +kernel
theorem d_M_init_79 : decode b_M_init 79 = .ok (.newarray .int, 2) := by decide +kernel
theorem d_M_init_81 : decode b_M_init 81 = .ok (.putfield 37, 3) := by decide +kernel
theorem d_M_init_84 : decode b_M_init 84 = .ok (.aload_n 0, 1) := by decide +kernel
theorem d_M_init_85 : decode b_M_init 85 = .ok (.bipush 104, 2) := by decide +kernel
theorem d_M_init_87 : decode b_M_init 87 = .ok (.newarray .int, 2) := by decide +kernel
theorem d_M_init_89 : decode b_M_init 89 = .ok (.putfield 40, 3) := by decide +kernel
theorem d_M_init_92 : decode b_M_init 92 = .ok (.aload_n 0, 1) := by decide +kernel
theorem d_M_init_93 : decode b_M_init 93 = .ok (.bipush 80, 2) := by decide +kernel
theorem d_M_init_95 : decode b_M_init 95 = .ok (.newarray .int, 2) := by decide +kernel
theorem d_M_init_97 : decode b_M_init 97 = .ok (.putfield 43, 3) := by decide +kernel
theorem d_M_init_100 : decode b_M_init 100 = .ok (.aload_n 0, 1) := by decide +kernel
theorem d_M_init_101 : decode b_M_init 101 = .ok (.sipush 320, 3) := by decide +kernel
theorem d_M_init_104 : decode b_M_init 104 = .ok (.newarray .int, 2) := by decide +kernel
theorem d_M_init_106 : decode b_M_init 106 = .ok (.putfield 46, 3) := by decide +kernel
theorem d_M_init_109 : decode b_M_init 109 = .ok (.aload_n 0, 1) := by decide +kernel
theorem d_M_init_110 : decode b_M_init 110 = .ok (.sipush 200, 3) := by decide +kernel
theorem d_M_init_113 : decode b_M_init 113 = .ok (.newarray .int, 2) := by decide +kernel
theorem d_M_init_115 : decode b_M_init 115 = .ok (.putfield 49, 3) := by decide +kernel
theorem d_M_init_118 : decode b_M_init 118 = .ok (.aload_n 0, 1) := by decide +kernel
theorem d_M_init_119 : decode b_M_init 119 = .ok (.sipush 200, 3) := by decide +kernel
theorem d_M_init_122 : decode b_M_init 122 = .ok (.newarray .int, 2) := by decide +kernel
theorem d_M_init_124 : decode b_M_init 124 = .ok (.putfield 52, 3) := by decide +kernel
theorem d_M_init_127 : decode b_M_init 127 = .ok (.aload_n 0, 1) := by decide +kernel
theorem d_M_init_128 : decode b_M_init 128 = .ok (.iconst 4, 1) := by decide +kernel
theorem d_M_init_129 : decode b_M_init 129 = .ok (.newarray .int, 2) := by decide +kernel
theorem d_M_init_131 : decode b_M_init 131 = .ok (.putfield 55, 3) := by decide +kernel
theorem d_M_init_134 : decode b_M_init 134 = .ok (.aload_n 0, 1) := by decide +kernel
theorem d_M_init_135 : decode b_M_init 135 = .ok (.bipush 32, 2) := by decide +kernel
theorem d_M_init_137 : decode b_M_init 137 = .ok (.newarray .int, 2) := by decide +kernel
theorem d_M_init_139 : decode b_M_init 139 = .ok (.putfield 58, 3) := by decide +kernel
theorem d_M_init_142 : decode b_M_init 142 = .ok (.aload_n 0, 1) := by decide +kernel
theorem d_M_init_143 : decode b_M_init 143 = .ok (.bipush 32, 2) := by decide +kernel
theorem d_M_init_145 : decode b_M_init 145 = .ok (.newarray .int, 2) := by decide +kernel
theorem d_M_init_147 : decode b_M_init 147 = .ok (.putfield 61, 3) := by decide +kernel
theorem d_M_init_150 : decode b_M_init 150 = .ok (.aload_n 0, 1) := by decide +kernel
theorem d_M_init_151 : decode b_M_init 151 = .ok (.bipush 100, 2) := by decide +kernel
theorem d_M_init_153 : decode b_M_init 153 = .ok (.newarray .int, 2) := by decide +kernel
theorem d_M_init_155 : decode b_M_init 155 = .ok (.putfield 64, 3) := by decide +kernel
theorem d_M_init_158 : decode b_M_init 158 = .ok (.return_, 1) := by decide +kernel
theorem d_M_thrown_0 : decode b_M_thrown 0 = .ok (.aload_n 0, 1) := by decide +kernel
theorem d_M_thrown_1 : decode b_M_thrown 1 = .ok (.getfield 67, 3) := by decide +kernel
theorem d_M_thrown_4 : decode b_M_thrown 4 = .ok (.ireturn, 1) := by decide +kernel
theorem d_M_type_0 : decode b_M_type 0 = .ok (.aload_n 0, 1) := by decide +kernel
theorem d_M_type_1 : decode b_M_type 1 = .ok (.iconst 0, 1) := by decide +kernel
theorem d_M_type_2 : decode b_M_type 2 = .ok (.putfield 67, 3) := by decide +kernel
theorem d_M_type_5 : decode b_M_type 5 = .ok (.iconst 0, 1) := by decide +kernel
theorem d_M_type_6 : decode b_M_type 6 = .ok (.istore_n 2, 1) := by decide +kernel
theorem d_M_type_7 : decode b_M_type 7 = .ok (.bipush 24, 2) := by decide +kernel
theorem d_M_type_9 : decode b_M_type 9 = .ok (.istore_n 3, 1) := by decide +kernel
theorem d_M_type_10 : decode b_M_type 10 = .ok (.iload_n 3, 1) := by decide +kernel
theorem d_M_type_11 : decode b_M_type 11 = .ok (.ifCond .lt 62, 3) := by decide +kernel
theorem d_M_type_14 : decode b_M_type 14 = .ok (.iload_n 1, 1) := by decide +kernel
theorem d_M_type_15 : decode b_M_type 15 = .ok (.iload_n 3, 1) := by decide +kernel
theorem d_M_type_16 : decode b_M_type 16 = .ok (.ishr, 1) := by decide +kernel
theorem d_M_type_17 : decode b_M_type 17 = .ok (.sipush 255, 3) := by decide +kernel
theorem d_M_type_20 : decode b_M_type 20 = .ok (.iand, 1) := by decide +kernel
theorem d_M_type_21 : decode b_M_type 21 = .ok (.istore 4, 2) := by decide +kernel
theorem d_M_type_23 : decode b_M_type 23 = .ok (.aload_n 0, 1) := by decide +kernel
theorem d_M_type_24 : decode b_M_type 24 = .ok (.iload 4, 2) := by decide +kernel
theorem d_M_type_26 : decode b_M_type 26 = .ok (.ifCond .le 21, 3) := by decide +kernel
theorem d_M_type_29 : decode b_M_type 29 = .ok (.iload 4, 2) := by decide +kernel
theorem d_M_type_31 : decode b_M_type 31 = .ok (.bipush 33, 2) := by decide +kernel
theorem d_M_type_33 : decode b_M_type 33 = .ok (.if_icmp .lt 10, 3) := by decide +kernel
theorem d_M_type_36 : decode b_M_type 36 = .ok (.iload 4, 2) := by decide +kernel
theorem d_M_type_38 : decode b_M_type 38 = .ok (.bipush 126, 2) := by decide +kernel
theorem d_M_type_40 : decode b_M_type 40 = .ok (.if_icmp .le 7, 3) := by decide +kernel
theorem d_M_type_43 : decode b_M_type 43 = .ok (.iconst 1, 1) := by decide +kernel
theorem d_M_type_44 : decode b_M_type 44 = .ok (.goto 7, 3) := by decide +kernel
theorem d_M_type_47 : decode b_M_type 47 = .ok (.aload_n 0, 1) := by decide +kernel
theorem d_M_type_48 : decode b_M_type 48 = .ok (.getfield 67, 3) := by decide +kernel
theorem d_M_type_51 : decode b_M_type 51 = .ok (.putfield 67, 3) := by decide +kernel
theorem d_M_type_54 : decode b_M_type 54 = .ok (.iload 4, 2) := by decide +kernel
theorem d_M_type_56 : decode b_M_type 56 = .ok (.ifCond .le 9, 3) := by decide +kernel
theorem d_M_type_59 : decode b_M_type 59 = .ok (.iload_n 2, 1) := by decide +kernel
theorem d_M_type_60 : decode b_M_type 60 = .ok (.iconst 1, 1) := by decide +kernel
theorem d_M_type_61 : decode b_M_type 61 = .ok (.iadd, 1) := by decide +kernel
theorem d_M_type_62 : decode b_M_type 62 = .ok (.goto 4, 3) := by decide +kernel
theorem d_M_type_65 : decode b_M_type 65 = .ok (.iload_n 2, 1) := by decide +kernel
theorem d_M_type_66 : decode b_M_type 66 = .ok (.istore_n 2, 1) := by decide +kernel
theorem d_M_type_67 : decode b_M_type 67 = .ok (.iinc 3 (-8), 3) := by decide +kernel
theorem d_M_type_70 : decode b_M_type 70 = .ok (.goto (-60), 3) := by decide +kernel
theorem d_M_type_73 : decode b_M_type 73 = .ok (.aload_n 0, 1) := by decide +kernel
theorem d_M_type_74 : decode b_M_type 74 = .ok (.aload_n 0, 1) := by decide +kernel
theorem d_M_type_75 : decode b_M_type 75 = .ok (.getfield 67, 3) := by decide +kernel
theorem d_M_type_78 : decode b_M_type 78 = .ok (.ifCond .ne 19, 3) := by decide +kernel
theorem d_M_type_81 : decode b_M_type 81 = .ok (.aload_n 0, 1) := by decide +kernel
theorem d_M_type_82 : decode b_M_type 82 = .ok (.getfield 71, 3) := by decide +kernel
theorem d_M_type_85 : decode b_M_type 85 = .ok (.iload_n 2, 1) := by decide +kernel
theorem d_M_type_86 : decode b_M_type 86 = .ok (.iadd, 1) := by decide +kernel
theorem d_M_type_87 : decode b_M_type 87 = .ok (.sipush 160, 3) := by decide +kernel
theorem d_M_type_90 : decode b_M_type 90 = .ok (.if_icmp .le 7, 3) := by decide +kernel
theorem d_M_type_93 : decode b_M_type 93 = .ok (.iconst 2, 1) := by decide +kernel
theorem d_M_type_94 : decode b_M_type 94 = .ok (.goto 7, 3) := by decide +kernel
theorem d_M_type_97 : decode b_M_type 97 = .ok (.aload_n 0, 1) := by decide +kernel
theorem d_M_type_98 : decode b_M_type 98 = .ok (.getfield 67, 3) := by decide +kernel
theorem d_M_type_101 : decode b_M_type 101 = .ok (.putfield 67, 3) := by decide +kernel
theorem d_M_type_104 : decode b_M_type 104 = .ok (.aload_n 0, 1) := by decide +kernel
theorem d_M_type_105 : decode b_M_type 105 = .ok (.getfield 67, 3) := by decide +kernel
theorem d_M_type_108 : decode b_M_type 108 = .ok (.ifCond .le 5, 3) := by decide +kernel
theorem d_M_type_111 : decode b_M_type 111 = .ok (.iconst 0, 1) := by decide +kernel
theorem d_M_type_112 : decode b_M_type 112 = .ok (.ireturn, 1) := by decide +kernel
theorem d_M_type_113 : decode b_M_type 113 = .ok (.bipush 24, 2) := by decide +kernel
theorem d_M_type_115 : decode b_M_type 115 = .ok (.istore_n 3, 1) := by decide +kernel
theorem d_M_type_116 : decode b_M_type 116 = .ok (.iload_n 3, 1) := by decide +kernel
theorem d_M_type_117 : decode b_M_type 117 = .ok (.ifCond .lt 44, 3) := by decide +kernel
theorem d_M_type_120 : decode b_M_type 120 = .ok (.iload_n 1, 1) := by decide +kernel
theorem d_M_type_121 : decode b_M_type 121 = .ok (.iload_n 3, 1) := by decide +kernel
theorem d_M_type_122 : decode b_M_type 122 = .ok (.ishr, 1) := by decide +kernel
theorem d_M_type_123 : decode b_M_type 123 = .ok (.sipush 255, 3) := by decide +kernel
theorem d_M_type_126 : decode b_M_type 126 = .ok (.iand, 1) := by decide +kernel
theorem d_M_type_127 : decode b_M_type 127 = .ok (.istore 4, 2) := by decide +kernel
theorem d_M_type_129 : decode b_M_type 129 = .ok (.iload 4, 2) := by decide +kernel
theorem d_M_type_131 : decode b_M_type 131 = .ok (.ifCond .le 24, 3) := by decide +kernel
theorem d_M_type_134 : decode b_M_type 134 = .ok (.aload_n 0, 1) := by decide +kernel
theorem d_M_type_135 : decode b_M_type 135 = .ok (.getfield 7, 3) := by decide +kernel
theorem d_M_type_138 : decode b_M_type 138 = .ok (.aload_n 0, 1) := by decide +kernel
theorem d_M_type_139 : decode b_M_type 139 = .ok (.getfield 71, 3) := by decide +kernel
theorem d_M_type_142 : decode b_M_type 142 = .ok (.iload 4, 2) := by decide +kernel
theorem d_M_type_144 : decode b_M_type 144 = .ok (.iastore, 1) := by decide +kernel
theorem d_M_type_145 : decode b_M_type 145 = .ok (.aload_n 0, 1) := by decide +kernel
theorem d_M_type_146 : decode b_M_type 146 = .ok (.dup, 1) := by decide +kernel
theorem d_M_type_147 : decode b_M_type 147 = .ok (.getfield 71, 3) := by decide +kernel
theorem d_M_type_150 : decode b_M_type 150 = .ok (.iconst 1, 1) := by decide +kernel
theorem d_M_type_151 : decode b_M_type 151 = .ok (.iadd, 1) := by decide +kernel
theorem d_M_type_152 : decode b_M_type 152 = .ok (.putfield 71, 3) := by decide +kernel
theorem d_M_type_155 : decode b_M_type 155 = .ok (.iinc 3 (-8), 3) := by decide +kernel
theorem d_M_type_158 : decode b_M_type 158 = .ok (.goto (-42), 3) := by decide +kernel
theorem d_M_type_161 : decode b_M_type 161 = .ok (.aload_n 0, 1) := by decide +kernel
theorem d_M_type_162 : decode b_M_type 162 = .ok (.getfield 71, 3) := by decide +kernel
theorem d_M_type_165 : decode b_M_type 165 = .ok (.ireturn, 1) := by decide +kernel
theorem d_M_erase_0 : decode b_M_erase 0 = .ok (.aload_n 0, 1) := by decide +kernel
theorem d_M_erase_1 : decode b_M_erase 1 = .ok (.iconst 0, 1) := by decide +kernel
theorem d_M_erase_2 : decode b_M_erase 2 = .ok (.putfield 67, 3) := by decide +kernel
theorem d_M_erase_5 : decode b_M_erase 5 = .ok (.aload_n 0, 1) := by decide +kernel
theorem d_M_erase_6 : decode b_M_erase 6 = .ok (.iconst 0, 1) := by decide +kernel
theorem d_M_erase_7 : decode b_M_erase 7 = .ok (.putfield 71, 3) := by decide +kernel
theorem d_M_erase_10 : decode b_M_erase 10 = .ok (.return_, 1) := by decide +kernel
theorem d_M_look_0 : decode b_M_look 0 = .ok (.iload_n 1, 1) := by decide +kernel
theorem d_M_look_1 : decode b_M_look 1 = .ok (.aload_n 0, 1) := by decide +kernel
theorem d_M_look_2 : decode b_M_look 2 = .ok (.getfield 71, 3) := by decide +kernel
theorem d_M_look_5 : decode b_M_look 5 = .ok (.if_icmp .ge 12, 3) := by decide +kernel
theorem d_M_look_8 : decode b_M_look 8 = .ok (.aload_n 0, 1) := by decide +kernel
theorem d_M_look_9 : decode b_M_look 9 = .ok (.getfield 7, 3) := by decide +kernel
theorem d_M_look_12 : decode b_M_look 12 = .ok (.iload_n 1, 1) := by decide +kernel
theorem d_M_look_13 : decode b_M_look 13 = .ok (.iaload, 1) := by decide +kernel
theorem d_M_look_14 : decode b_M_look 14 = .ok (.goto 4, 3) := by decide +kernel
theorem d_M_look_17 : decode b_M_look 17 = .ok (.iconst 0, 1) := by decide +kernel
theorem d_M_look_18 : decode b_M_look 18 = .ok (.ireturn, 1) := by decide +kernel
theorem d_M_put_0 : decode b_M_put 0 = .ok (.iconst 0, 1) := by decide +kernel
theorem d_M_put_1 : decode b_M_put 1 = .ok (.istore 4, 2) := by decide +kernel
theorem d_M_put_3 : decode b_M_put 3 = .ok (.iload 4, 2) := by decide +kernel
theorem d_M_put_5 : decode b_M_put 5 = .ok (.aload_n 0, 1) := by decide +kernel
theorem d_M_put_6 : decode b_M_put 6 = .ok (.getfield 74, 3) := by decide +kernel
theorem d_M_put_9 : decode b_M_put 9 = .ok (.if_icmp .ge 45, 3) := by decide +kernel
theorem d_M_put_12 : decode b_M_put 12 = .ok (.aload_n 0, 1) := by decide +kernel
theorem d_M_put_13 : decode b_M_put 13 = .ok (.getfield 28, 3) := by decide +kernel
theorem d_M_put_16 : decode b_M_put 16 = .ok (.iload 4, 2) := by decide +kernel
theorem d_M_put_18 : decode b_M_put 18 = .ok (.iaload, 1) := by decide +kernel
theorem d_M_put_19 : decode b_M_put 19 = .ok (.iload_n 1, 1) := by decide +kernel
theorem d_M_put_20 : decode b_M_put 20 = .ok (.if_icmp .ne 28, 3) := by decide +kernel
theorem d_M_put_23 : decode b_M_put 23 = .ok (.aload_n 0, 1) := by decide +kernel
theorem d_M_put_24 : decode b_M_put 24 = .ok (.getfield 31, 3) := by decide +kernel
theorem d_M_put_27 : decode b_M_put 27 = .ok (.iload 4, 2) := by decide +kernel
theorem d_M_put_29 : decode b_M_put 29 = .ok (.iaload, 1) := by decide +kernel
theorem d_M_put_30 : decode b_M_put 30 = .ok (.iload_n 2, 1) := by decide +kernel
theorem d_M_put_31 : decode b_M_put 31 = .ok (.if_icmp .ne 17, 3) := by decide +kernel
theorem d_M_put_34 : decode b_M_put 34 = .ok (.aload_n 0, 1) := by decide +kernel
theorem d_M_put_35 : decode b_M_put 35 = .ok (.getfield 34, 3) := by decide +kernel
theorem d_M_put_38 : decode b_M_put 38 = .ok (.iload 4, 2) := by decide +kernel
theorem d_M_put_40 : decode b_M_put 40 = .ok (.iaload, 1) := by decide +kernel
theorem d_M_put_41 : decode b_M_put 41 = .ok (.iload_n 3, 1) := by decide +kernel
theorem d_M_put_42 : decode b_M_put 42 = .ok (.if_icmp .ne 6, 3) := by decide +kernel
theorem d_M_put_45 : decode b_M_put 45 = .ok (.iload 4, 2) := by decide +kernel
theorem d_M_put_47 : decode b_M_put 47 = .ok (.ireturn, 1) := by decide +kernel
theorem d_M_put_48 : decode b_M_put 48 = .ok (.iinc 4 1, 3) := by decide +kernel
theorem d_M_put_51 : decode b_M_put 51 = .ok (.goto (-48), 3) := by decide +kernel
theorem d_M_put_54 : decode b_M_put 54 = .ok (.aload_n 0, 1) := by decide +kernel
theorem d_M_put_55 : decode b_M_put 55 = .ok (.getfield 74, 3) := by decide +kernel
theorem d_M_put_58 : decode b_M_put 58 = .ok (.bipush 100, 2) := by decide +kernel
theorem d_M_put_60 : decode b_M_put 60 = .ok (.if_icmp .ne 10, 3) := by decide +kernel
theorem d_M_put_63 : decode b_M_put 63 = .ok (.aload_n 0, 1) := by decide +kernel
theorem d_M_put_64 : decode b_M_put 64 = .ok (.iconst 1, 1) := by decide +kernel
theorem d_M_put_65 : decode b_M_put 65 = .ok (.putfield 77, 3) := by decide +kernel
theorem d_M_put_68 : decode b_M_put 68 = .ok (.iconst 0, 1) := by decide +kernel
theorem d_M_put_69 : decode b_M_put 69 = .ok (.ireturn, 1) := by decide +kernel
theorem d_M_put_70 : decode b_M_put 70 = .ok (.aload_n 0, 1) := by decide +kernel
theorem d_M_put_71 : decode b_M_put 71 = .ok (.getfield 28, 3) := by decide +kernel
theorem d_M_put_74 : decode b_M_put 74 = .ok (.aload_n 0, 1) := by decide +kernel
theorem d_M_put_75 : decode b_M_put 75 = .ok (.getfield 74, 3) := by decide +kernel
theorem d_M_put_78 : decode b_M_put 78 = .ok (.iload_n 1, 1) := by decide +kernel
theorem d_M_put_79 : decode b_M_put 79 = .ok (.iastore, 1) := by decide +kernel
theorem d_M_put_80 : decode b_M_put 80 = .ok (.aload_n 0, 1) := by decide +kernel
theorem d_M_put_81 : decode b_M_put 81 = .ok (.getfield 31, 3) := by decide +kernel
theorem d_M_put_84 : decode b_M_put 84 = .ok (.aload_n 0, 1) := by decide +kernel
theorem d_M_put_85 : decode b_M_put 85 = .ok (.getfield 74, 3) := by decide +kernel
theorem d_M_put_88 : decode b_M_put 88 = .ok (.iload_n 2, 1) := by decide +kernel
theorem d_M_put_89 : decode b_M_put 89 = .ok (.iastore, 1) := by decide +kernel
theorem d_M_put_90 : decode b_M_put 90 = .ok (.aload_n 0, 1) := by decide +kernel
theorem d_M_put_91 : decode b_M_put 91 = .ok (.getfield 34, 3) := by decide +kernel
theorem d_M_put_94 : decode b_M_put 94 = .ok (.aload_n 0, 1) := by decide +kernel
theorem d_M_put_95 : decode b_M_put 95 = .ok (.getfield 74, 3) := by decide +kernel
theorem d_M_put_98 : decode b_M_put 98 = .ok (.iload_n 3, 1) := by decide +kernel
theorem d_M_put_99 : decode b_M_put 99 = .ok (.iastore, 1) := by decide +kernel
theorem d_M_put_100 : decode b_M_put 100 = .ok (.aload_n 0, 1) := by decide +kernel
theorem d_M_put_101 : decode b_M_put 101 = .ok (.dup, 1) := by decide +kernel
theorem d_M_put_102 : decode b_M_put 102 = .ok (.getfield 74, 3) := by decide +kernel
theorem d_M_put_105 : decode b_M_put 105 = .ok (.iconst 1, 1) := by decide +kernel
theorem d_M_put_106 : decode b_M_put 106 = .ok (.iadd, 1) := by decide +kernel
theorem d_M_put_107 : decode b_M_put 107 = .ok (.putfield 74, 3) := by decide +kernel
theorem d_M_put_110 : decode b_M_put 110 = .ok (.aload_n 0, 1) := by decide +kernel
theorem d_M_put_111 : decode b_M_put 111 = .ok (.getfield 74, 3) := by decide +kernel
theorem d_M_put_114 : decode b_M_put 114 = .ok (.iconst 1, 1) := by decide +kernel
theorem d_M_put_115 : decode b_M_put 115 = .ok (.isub, 1) := by decide +kernel
theorem d_M_put_116 : decode b_M_put 116 = .ok (.ireturn, 1) := by decide +kernel
theorem d_M_push_0 : decode b_M_push 0 = .ok (.aload_n 0, 1) := by decide +kernel
theorem d_M_push_1 : decode b_M_push 1 = .ok (.getfield 43, 3) := by decide +kernel
theorem d_M_push_4 : decode b_M_push 4 = .ok (.aload_n 0, 1) := by decide +kernel
theorem d_M_push_5 : decode b_M_push 5 = .ok (.getfield 81, 3) := by decide +kernel
theorem d_M_push_8 : decode b_M_push 8 = .ok (.iload_n 1, 1) := by decide +kernel
theorem d_M_push_9 : decode b_M_push 9 = .ok (.iastore, 1) := by decide +kernel
theorem d_M_push_10 : decode b_M_push 10 = .ok (.aload_n 0, 1) := by decide +kernel
theorem d_M_push_11 : decode b_M_push 11 = .ok (.dup, 1) := by decide +kernel
theorem d_M_push_12 : decode b_M_push 12 = .ok (.getfield 81, 3) := by decide +kernel
theorem d_M_push_15 : decode b_M_push 15 = .ok (.iconst 1, 1) := by decide +kernel
theorem d_M_push_16 : decode b_M_push 16 = .ok (.iadd, 1) := by decide +kernel
theorem d_M_push_17 : decode b_M_push 17 = .ok (.putfield 81, 3) := by decide +kernel
theorem d_M_push_20 : decode b_M_push 20 = .ok (.return_, 1) := by decide +kernel
theorem d_M_pushMade_0 : decode b_M_pushMade 0 = .ok (.iconst 0, 1) := by decide +kernel
theorem d_M_pushMade_1 : decode b_M_pushMade 1 = .ok (.istore_n 2, 1) := by decide +kernel
theorem d_M_pushMade_2 : decode b_M_pushMade 2 = .ok (.iload_n 2, 1) := by decide +kernel
theorem d_M_pushMade_3 : decode b_M_pushMade 3 = .ok (.iload_n 1, 1) := by decide +kernel
theorem d_M_pushMade_4 : decode b_M_pushMade 4 = .ok (.if_icmp .ge 28, 3) := by decide +kernel
theorem d_M_pushMade_7 : decode b_M_pushMade 7 = .ok (.aload_n 0, 1) := by decide +kernel
theorem d_M_pushMade_8 : decode b_M_pushMade 8 = .ok (.getfield 46, 3) := by decide +kernel
theorem d_M_pushMade_11 : decode b_M_pushMade 11 = .ok (.iconst 4, 1) := by decide +kernel
theorem d_M_pushMade_12 : decode b_M_pushMade 12 = .ok (.aload_n 0, 1) := by decide +kernel
theorem d_M_pushMade_13 : decode b_M_pushMade 13 = .ok (.getfield 81, 3) := by decide +kernel
theorem d_M_pushMade_16 : decode b_M_pushMade 16 = .ok (.imul, 1) := by decide +kernel
theorem d_M_pushMade_17 : decode b_M_pushMade 17 = .ok (.iload_n 2, 1) := by decide +kernel
theorem d_M_pushMade_18 : decode b_M_pushMade 18 = .ok (.iadd, 1) := by decide +kernel
theorem d_M_pushMade_19 : decode b_M_pushMade 19 = .ok (.aload_n 0, 1) := by decide +kernel
theorem d_M_pushMade_20 : decode b_M_pushMade 20 = .ok (.getfield 55, 3) := by decide +kernel
theorem d_M_pushMade_23 : decode b_M_pushMade 23 = .ok (.iload_n 2, 1) := by decide +kernel
theorem d_M_pushMade_24 : decode b_M_pushMade 24 = .ok (.iaload, 1) := by decide +kernel
theorem d_M_pushMade_25 : decode b_M_pushMade 25 = .ok (.iastore, 1) := by decide +kernel
theorem d_M_pushMade_26 : decode b_M_pushMade 26 = .ok (.iinc 2 1, 3) := by decide +kernel
theorem d_M_pushMade_29 : decode b_M_pushMade 29 = .ok (.goto (-27), 3) := by decide +kernel
theorem d_M_pushMade_32 : decode b_M_pushMade 32 = .ok (.aload_n 0, 1) := by decide +kernel
theorem d_M_pushMade_33 : decode b_M_pushMade 33 = .ok (.iload_n 1, 1) := by decide +kernel
theorem d_M_pushMade_34 : decode b_M_pushMade 34 = .ok (.invokevirtual 84, 3) := by decide +kernel
theorem d_M_pushMade_37 : decode b_M_pushMade 37 = .ok (.return_, 1) := by decide +kernel
theorem d_M_number_0 : decode b_M_number 0 = .ok (.aload_n 0, 1) := by decide +kernel
theorem d_M_number_1 : decode b_M_number 1 = .ok (.getfield 46, 3) := by decide +kernel
theorem d_M_number_4 : decode b_M_number 4 = .ok (.iconst 4, 1) := by decide +kernel
theorem d_M_number_5 : decode b_M_number 5 = .ok (.iload_n 1, 1) := by decide +kernel
theorem d_M_number_6 : decode b_M_number 6 = .ok (.imul, 1) := by decide +kernel
theorem d_M_number_7 : decode b_M_number 7 = .ok (.iload_n 2, 1) := by decide +kernel
theorem d_M_number_8 : decode b_M_number 8 = .ok (.iadd, 1) := by decide +kernel
theorem d_M_number_9 : decode b_M_number 9 = .ok (.iaload, 1) := by decide +kernel
theorem d_M_number_10 : decode b_M_number 10 = .ok (.ireturn, 1) := by decide +kernel
theorem d_M_pairwise_0 : decode b_M_pairwise 0 = .ok (.aload_n 0, 1) := by decide +kernel
theorem d_M_pairwise_1 : decode b_M_pairwise 1 = .ok (.getfield 43, 3) := by decide +kernel
theorem d_M_pairwise_4 : decode b_M_pairwise 4 = .ok (.iload_n 2, 1) := by decide +kernel
theorem d_M_pairwise_5 : decode b_M_pairwise 5 = .ok (.iaload, 1) := by decide +kernel
theorem d_M_pairwise_6 : decode b_M_pairwise 6 = .ok (.istore 4, 2) := by decide +kernel
theorem d_M_pairwise_8 : decode b_M_pairwise 8 = .ok (.aload_n 0, 1) := by decide +kernel
theorem d_M_pairwise_9 : decode b_M_pairwise 9 = .ok (.getfield 43, 3) := by decide +kernel
theorem d_M_pairwise_12 : decode b_M_pairwise 12 = .ok (.iload_n 3, 1) := by decide +kernel
theorem d_M_pairwise_13 : decode b_M_pairwise 13 = .ok (.iaload, 1) := by decide +kernel
theorem d_M_pairwise_14 : decode b_M_pairwise 14 = .ok (.istore 5, 2) := by decide +kernel
theorem d_M_pairwise_16 : decode b_M_pairwise 16 = .ok (.iload 4, 2) := by decide +kernel
theorem d_M_pairwise_18 : decode b_M_pairwise 18 = .ok (.iload 5, 2) := by decide +kernel
theorem d_M_pairwise_20 : decode b_M_pairwise 20 = .ok (.if_icmp .eq 21, 3) := by decide +kernel
theorem d_M_pairwise_23 : decode b_M_pairwise 23 = .ok (.iload 4, 2) := by decide +kernel
theorem d_M_pairwise_25 : decode b_M_pairwise 25 = .ok (.iconst 1, 1) := by decide +kernel
theorem d_M_pairwise_26 : decode b_M_pairwise 26 = .ok (.if_icmp .eq 15, 3) := by decide +kernel
theorem d_M_pairwise_29 : decode b_M_pairwise 29 = .ok (.iload 5, 2) := by decide +kernel
theorem d_M_pairwise_31 : decode b_M_pairwise 31 = .ok (.iconst 1, 1) := by decide +kernel
theorem d_M_pairwise_32 : decode b_M_pairwise 32 = .ok (.if_icmp .eq 9, 3) := by decide +kernel
theorem d_M_pairwise_35 : decode b_M_pairwise 35 = .ok (.aload_n 0, 1) := by decide +kernel
theorem d_M_pairwise_36 : decode b_M_pairwise 36 = .ok (.iconst 1, 1) := by decide +kernel
theorem d_M_pairwise_37 : decode b_M_pairwise 37 = .ok (.putfield 77, 3) := by decide +kernel
theorem d_M_pairwise_40 : decode b_M_pairwise 40 = .ok (.return_, 1) := by decide +kernel
theorem d_M_pairwise_41 : decode b_M_pairwise 41 = .ok (.iload 4, 2) := by decide +kernel
theorem d_M_pairwise_43 : decode b_M_pairwise 43 = .ok (.iload 5, 2) := by decide +kernel
theorem d_M_pairwise_45 : decode b_M_pairwise 45 = .ok (.if_icmp .le 8, 3) := by decide +kernel
theorem d_M_pairwise_48 : decode b_M_pairwise 48 = .ok (.iload 4, 2) := by decide +kernel
theorem d_M_pairwise_50 : decode b_M_pairwise 50 = .ok (.goto 5, 3) := by decide +kernel
theorem d_M_pairwise_53 : decode b_M_pairwise 53 = .ok (.iload 5, 2) := by decide +kernel
theorem d_M_pairwise_55 : decode b_M_pairwise 55 = .ok (.istore 6, 2) := by decide +kernel
theorem d_M_pairwise_57 : decode b_M_pairwise 57 = .ok (.iconst 0, 1) := by decide +kernel
theorem d_M_pairwise_58 : decode b_M_pairwise 58 = .ok (.istore 7, 2) := by decide +kernel
theorem d_M_pairwise_60 : decode b_M_pairwise 60 = .ok (.iload 7, 2) := by decide +kernel
theorem d_M_pairwise_62 : decode b_M_pairwise 62 = .ok (.iload 6, 2) := by decide +kernel
theorem d_M_pairwise_64 : decode b_M_pairwise 64 = .ok (.if_icmp .ge 55, 3) := by decide +kernel
theorem d_M_pairwise_67 : decode b_M_pairwise 67 = .ok (.aload_n 0, 1) := by decide +kernel
theorem d_M_pairwise_68 : decode b_M_pairwise 68 = .ok (.getfield 55, 3) := by decide +kernel
theorem d_M_pairwise_71 : decode b_M_pairwise 71 = .ok (.iload 7, 2) := by decide +kernel
theorem d_M_pairwise_73 : decode b_M_pairwise 73 = .ok (.aload_n 0, 1) := by decide +kernel
theorem d_M_pairwise_74 : decode b_M_pairwise 74 = .ok (.iload_n 1, 1) := by decide +kernel
theorem d_M_pairwise_75 : decode b_M_pairwise 75 = .ok (.aload_n 0, 1) := by decide +kernel
theorem d_M_pairwise_76 : decode b_M_pairwise 76 = .ok (.iload_n 2, 1) := by decide +kernel
theorem d_M_pairwise_77 : decode b_M_pairwise 77 = .ok (.iload 4, 2) := by decide +kernel
theorem d_M_pairwise_79 : decode b_M_pairwise 79 = .ok (.iconst 1, 1) := by decide +kernel
theorem d_M_pairwise_80 : decode b_M_pairwise 80 = .ok (.if_icmp .ne 7, 3) := by decide +kernel
theorem d_M_pairwise_83 : decode b_M_pairwise 83 = .ok (.iconst 0, 1) := by decide +kernel
theorem d_M_pairwise_84 : decode b_M_pairwise 84 = .ok (.goto 5, 3) := by decide +kernel
theorem d_M_pairwise_87 : decode b_M_pairwise 87 = .ok (.iload 7, 2) := by decide +kernel
theorem d_M_pairwise_89 : decode b_M_pairwise 89 = .ok (.invokevirtual 88, 3) := by decide +kernel
theorem d_M_pairwise_92 : decode b_M_pairwise 92 = .ok (.aload_n 0, 1) := by decide +kernel
theorem d_M_pairwise_93 : decode b_M_pairwise 93 = .ok (.iload_n 3, 1) := by decide +kernel
theorem d_M_pairwise_94 : decode b_M_pairwise 94 = .ok (.iload 5, 2) := by decide +kernel
theorem d_M_pairwise_96 : decode b_M_pairwise 96 = .ok (.iconst 1, 1) := by decide +kernel
theorem d_M_pairwise_97 : decode b_M_pairwise 97 = .ok (.if_icmp .ne 7, 3) := by decide +kernel
theorem d_M_pairwise_100 : decode b_M_pairwise 100 = .ok (.iconst 0, 1) := by decide +kernel
theorem d_M_pairwise_101 : decode b_M_pairwise 101 = .ok (.goto 5, 3) := by decide +kernel
theorem d_M_pairwise_104 : decode b_M_pairwise 104 = .ok (.iload 7, 2) := by decide +kernel
theorem d_M_pairwise_106 : decode b_M_pairwise 106 = .ok (.invokevirtual 88, 3) := by decide +kernel
theorem d_M_pairwise_109 : decode b_M_pairwise 109 = .ok (.invokevirtual 92, 3) := by decide +kernel
theorem d_M_pairwise_112 : decode b_M_pairwise 112 = .ok (.iastore, 1) := by decide +kernel
theorem d_M_pairwise_113 : decode b_M_pairwise 113 = .ok (.iinc 7 1, 3) := by decide +kernel
theorem d_M_pairwise_116 : decode b_M_pairwise 116 = .ok (.goto (-56), 3) := by decide +kernel
theorem d_M_pairwise_119 : decode b_M_pairwise 119 = .ok (.aload_n 0, 1) := by decide +kernel
theorem d_M_pairwise_120 : decode b_M_pairwise 120 = .ok (.iload_n 2, 1) := by decide +kernel
theorem d_M_pairwise_121 : decode b_M_pairwise 121 = .ok (.putfield 81, 3) := by decide +kernel
theorem d_M_pairwise_124 : decode b_M_pairwise 124 = .ok (.aload_n 0, 1) := by decide +kernel
theorem d_M_pairwise_125 : decode b_M_pairwise 125 = .ok (.iload 6, 2) := by decide +kernel
theorem d_M_pairwise_127 : decode b_M_pairwise 127 = .ok (.invokevirtual 96, 3) := by decide +kernel
theorem d_M_pairwise_130 : decode b_M_pairwise 130 = .ok (.return_, 1) := by decide +kernel
theorem d_M_columns_0 : decode b_M_columns 0 = .ok (.iconst 0, 1) := by decide +kernel
theorem d_M_columns_1 : decode b_M_columns 1 = .ok (.istore 4, 2) := by decide +kernel
theorem d_M_columns_3 : decode b_M_columns 3 = .ok (.iload 4, 2) := by decide +kernel
theorem d_M_columns_5 : decode b_M_columns 5 = .ok (.iload_n 3, 1) := by decide +kernel
theorem d_M_columns_6 : decode b_M_columns 6 = .ok (.if_icmp .ge 95, 3) := by decide +kernel
theorem d_M_columns_9 : decode b_M_columns 9 = .ok (.iconst 0, 1) := by decide +kernel
theorem d_M_columns_10 : decode b_M_columns 10 = .ok (.istore 5, 2) := by decide +kernel
theorem d_M_columns_12 : decode b_M_columns 12 = .ok (.iload 5, 2) := by decide +kernel
theorem d_M_columns_14 : decode b_M_columns 14 = .ok (.iconst 2, 1) := by decide +kernel
theorem d_M_columns_15 : decode b_M_columns 15 = .ok (.if_icmp .ge 80, 3) := by decide +kernel
theorem d_M_columns_18 : decode b_M_columns 18 = .ok (.aload_n 0, 1) := by decide +kernel
theorem d_M_columns_19 : decode b_M_columns 19 = .ok (.iconst 4, 1) := by decide +kernel
theorem d_M_columns_20 : decode b_M_columns 20 = .ok (.aload_n 0, 1) := by decide +kernel
theorem d_M_columns_21 : decode b_M_columns 21 = .ok (.iload_n 1, 1) := by decide +kernel
theorem d_M_columns_22 : decode b_M_columns 22 = .ok (.iload 5, 2) := by decide +kernel
theorem d_M_columns_24 : decode b_M_columns 24 = .ok (.invokevirtual 88, 3) := by decide +kernel
theorem d_M_columns_27 : decode b_M_columns 27 = .ok (.aload_n 0, 1) := by decide +kernel
theorem d_M_columns_28 : decode b_M_columns 28 = .ok (.iload_n 2, 1) := by decide +kernel
theorem d_M_columns_29 : decode b_M_columns 29 = .ok (.iconst 2, 1) := by decide +kernel
theorem d_M_columns_30 : decode b_M_columns 30 = .ok (.iload 4, 2) := by decide +kernel
theorem d_M_columns_32 : decode b_M_columns 32 = .ok (.imul, 1) := by decide +kernel
theorem d_M_columns_33 : decode b_M_columns 33 = .ok (.invokevirtual 88, 3) := by decide +kernel
theorem d_M_columns_36 : decode b_M_columns 36 = .ok (.invokevirtual 92, 3) := by decide +kernel
theorem d_M_columns_39 : decode b_M_columns 39 = .ok (.istore 6, 2) := by decide +kernel
theorem d_M_columns_41 : decode b_M_columns 41 = .ok (.aload_n 0, 1) := by decide +kernel
theorem d_M_columns_42 : decode b_M_columns 42 = .ok (.iconst 4, 1) := by decide +kernel
theorem d_M_columns_43 : decode b_M_columns 43 = .ok (.aload_n 0, 1) := by decide +kernel
theorem d_M_columns_44 : decode b_M_columns 44 = .ok (.iload_n 1, 1) := by decide +kernel
theorem d_M_columns_45 : decode b_M_columns 45 = .ok (.iconst 2, 1) := by decide +kernel
theorem d_M_columns_46 : decode b_M_columns 46 = .ok (.iload 5, 2) := by decide +kernel
theorem d_M_columns_48 : decode b_M_columns 48 = .ok (.iadd, 1) := by decide +kernel
theorem d_M_columns_49 : decode b_M_columns 49 = .ok (.invokevirtual 88, 3) := by decide +kernel
theorem d_M_columns_52 : decode b_M_columns 52 = .ok (.aload_n 0, 1) := by decide +kernel
theorem d_M_columns_53 : decode b_M_columns 53 = .ok (.iload_n 2, 1) := by decide +kernel
theorem d_M_columns_54 : decode b_M_columns 54 = .ok (.iconst 2, 1) := by decide +kernel
theorem d_M_columns_55 : decode b_M_columns 55 = .ok (.iload 4, 2) := by decide +kernel
theorem d_M_columns_57 : decode b_M_columns 57 = .ok (.imul, 1) := by decide +kernel
theorem d_M_columns_58 : decode b_M_columns 58 = .ok (.iconst 1, 1) := by decide +kernel
theorem d_M_columns_59 : decode b_M_columns 59 = .ok (.iadd, 1) := by decide +kernel
theorem d_M_columns_60 : decode b_M_columns 60 = .ok (.invokevirtual 88, 3) := by decide +kernel
theorem d_M_columns_63 : decode b_M_columns 63 = .ok (.invokevirtual 92, 3) := by decide +kernel
theorem d_M_columns_66 : decode b_M_columns 66 = .ok (.istore 7, 2) := by decide +kernel
theorem d_M_columns_68 : decode b_M_columns 68 = .ok (.aload_n 0, 1) := by decide +kernel
theorem d_M_columns_69 : decode b_M_columns 69 = .ok (.getfield 55, 3) := by decide +kernel
theorem d_M_columns_72 : decode b_M_columns 72 = .ok (.iconst 2, 1) := by decide +kernel
theorem d_M_columns_73 : decode b_M_columns 73 = .ok (.iload 4, 2) := by decide +kernel
theorem d_M_columns_75 : decode b_M_columns 75 = .ok (.imul, 1) := by decide +kernel
theorem d_M_columns_76 : decode b_M_columns 76 = .ok (.iload 5, 2) := by decide +kernel
theorem d_M_columns_78 : decode b_M_columns 78 = .ok (.iadd, 1) := by decide +kernel
theorem d_M_columns_79 : decode b_M_columns 79 = .ok (.aload_n 0, 1) := by decide +kernel
theorem d_M_columns_80 : decode b_M_columns 80 = .ok (.iconst 2, 1) := by decide +kernel
theorem d_M_columns_81 : decode b_M_columns 81 = .ok (.iload 6, 2) := by decide +kernel
theorem d_M_columns_83 : decode b_M_columns 83 = .ok (.iload 7, 2) := by decide +kernel
theorem d_M_columns_85 : decode b_M_columns 85 = .ok (.invokevirtual 92, 3) := by decide +kernel
theorem d_M_columns_88 : decode b_M_columns 88 = .ok (.iastore, 1) := by decide +kernel
theorem d_M_columns_89 : decode b_M_columns 89 = .ok (.iinc 5 1, 3) := by decide +kernel
theorem d_M_columns_92 : decode b_M_columns 92 = .ok (.goto (-80), 3) := by decide +kernel
theorem d_M_columns_95 : decode b_M_columns 95 = .ok (.iinc 4 1, 3) := by decide +kernel
theorem d_M_columns_98 : decode b_M_columns 98 = .ok (.goto (-95), 3) := by decide +kernel
theorem d_M_columns_101 : decode b_M_columns 101 = .ok (.aload_n 0, 1) := by decide +kernel
theorem d_M_columns_102 : decode b_M_columns 102 = .ok (.iload_n 1, 1) := by decide +kernel
theorem d_M_columns_103 : decode b_M_columns 103 = .ok (.putfield 81, 3) := by decide +kernel
theorem d_M_columns_106 : decode b_M_columns 106 = .ok (.aload_n 0, 1) := by decide +kernel
theorem d_M_columns_107 : decode b_M_columns 107 = .ok (.iconst 2, 1) := by decide +kernel
theorem d_M_columns_108 : decode b_M_columns 108 = .ok (.iload_n 3, 1) := by decide +kernel
theorem d_M_columns_109 : decode b_M_columns 109 = .ok (.imul, 1) := by decide +kernel
theorem d_M_columns_110 : decode b_M_columns 110 = .ok (.invokevirtual 96, 3) := by decide +kernel
theorem d_M_columns_113 : decode b_M_columns 113 = .ok (.return_, 1) := by decide +kernel
theorem d_M_operate_0 : decode b_M_operate 0 = .ok (.aload_n 0, 1) := by decide +kernel
theorem d_M_operate_1 : decode b_M_operate 1 = .ok (.getfield 81, 3) := by decide +kernel
theorem d_M_operate_4 : decode b_M_operate 4 = .ok (.iconst 1, 1) := by decide +kernel
theorem d_M_operate_5 : decode b_M_operate 5 = .ok (.isub, 1) := by decide +kernel
theorem d_M_operate_6 : decode b_M_operate 6 = .ok (.istore_n 2, 1) := by decide +kernel
theorem d_M_operate_7 : decode b_M_operate 7 = .ok (.aload_n 0, 1) := by decide +kernel
theorem d_M_operate_8 : decode b_M_operate 8 = .ok (.getfield 81, 3) := by decide +kernel
theorem d_M_operate_11 : decode b_M_operate 11 = .ok (.iconst 2, 1) := by decide +kernel
theorem d_M_operate_12 : decode b_M_operate 12 = .ok (.isub, 1) := by decide +kernel
theorem d_M_operate_13 : decode b_M_operate 13 = .ok (.istore_n 3, 1) := by decide +kernel
theorem d_M_operate_14 : decode b_M_operate 14 = .ok (.aload_n 0, 1) := by decide +kernel
theorem d_M_operate_15 : decode b_M_operate 15 = .ok (.getfield 43, 3) := by decide +kernel
theorem d_M_operate_18 : decode b_M_operate 18 = .ok (.iload_n 3, 1) := by decide +kernel
theorem d_M_operate_19 : decode b_M_operate 19 = .ok (.iaload, 1) := by decide +kernel
theorem d_M_operate_20 : decode b_M_operate 20 = .ok (.istore 4, 2) := by decide +kernel
theorem d_M_operate_22 : decode b_M_operate 22 = .ok (.aload_n 0, 1) := by decide +kernel
theorem d_M_operate_23 : decode b_M_operate 23 = .ok (.getfield 43, 3) := by decide +kernel
theorem d_M_operate_26 : decode b_M_operate 26 = .ok (.iload_n 2, 1) := by decide +kernel
theorem d_M_operate_27 : decode b_M_operate 27 = .ok (.iaload, 1) := by decide +kernel
theorem d_M_operate_28 : decode b_M_operate 28 = .ok (.istore 5, 2) := by decide +kernel
theorem d_M_operate_30 : decode b_M_operate 30 = .ok (.iload_n 1, 1) := by decide +kernel
theorem d_M_operate_31 : decode b_M_operate 31 = .ok (.bipush 42, 2) := by decide +kernel
theorem d_M_operate_33 : decode b_M_operate 33 = .ok (.if_icmp .ne 34, 3) := by decide +kernel
theorem d_M_operate_36 : decode b_M_operate 36 = .ok (.iload 4, 2) := by decide +kernel
theorem d_M_operate_38 : decode b_M_operate 38 = .ok (.iconst 4, 1) := by decide +kernel
theorem d_M_operate_39 : decode b_M_operate 39 = .ok (.if_icmp .ne 28, 3) := by decide +kernel
theorem d_M_operate_42 : decode b_M_operate 42 = .ok (.iload 5, 2) := by decide +kernel
theorem d_M_operate_44 : decode b_M_operate 44 = .ok (.iconst 2, 1) := by decide +kernel
theorem d_M_operate_45 : decode b_M_operate 45 = .ok (.if_icmp .eq 9, 3) := by decide +kernel
theorem d_M_operate_48 : decode b_M_operate 48 = .ok (.iload 5, 2) := by decide +kernel
theorem d_M_operate_50 : decode b_M_operate 50 = .ok (.iconst 4, 1) := by decide +kernel
theorem d_M_operate_51 : decode b_M_operate 51 = .ok (.if_icmp .ne 16, 3) := by decide +kernel
theorem d_M_operate_54 : decode b_M_operate 54 = .ok (.aload_n 0, 1) := by decide +kernel
theorem d_M_operate_55 : decode b_M_operate 55 = .ok (.iload_n 3, 1) := by decide +kernel
theorem d_M_operate_56 : decode b_M_operate 56 = .ok (.iload_n 2, 1) := by decide +kernel
theorem d_M_operate_57 : decode b_M_operate 57 = .ok (.iload 5, 2) := by decide +kernel
theorem d_M_operate_59 : decode b_M_operate 59 = .ok (.iconst 2, 1) := by decide +kernel
theorem d_M_operate_60 : decode b_M_operate 60 = .ok (.idiv, 1) := by decide +kernel
theorem d_M_operate_61 : decode b_M_operate 61 = .ok (.invokevirtual 99, 3) := by decide +kernel
theorem d_M_operate_64 : decode b_M_operate 64 = .ok (.goto 60, 3) := by decide +kernel
theorem d_M_operate_67 : decode b_M_operate 67 = .ok (.iload_n 1, 1) := by decide +kernel
theorem d_M_operate_68 : decode b_M_operate 68 = .ok (.bipush 47, 2) := by decide +kernel
theorem d_M_operate_70 : decode b_M_operate 70 = .ok (.if_icmp .ne 17, 3) := by decide +kernel
theorem d_M_operate_73 : decode b_M_operate 73 = .ok (.iload 5, 2) := by decide +kernel
theorem d_M_operate_75 : decode b_M_operate 75 = .ok (.iconst 4, 1) := by decide +kernel
theorem d_M_operate_76 : decode b_M_operate 76 = .ok (.if_icmp .ne 11, 3) := by decide +kernel
theorem d_M_operate_79 : decode b_M_operate 79 = .ok (.aload_n 0, 1) := by decide +kernel
theorem d_M_operate_80 : decode b_M_operate 80 = .ok (.iconst 1, 1) := by decide +kernel
theorem d_M_operate_81 : decode b_M_operate 81 = .ok (.putfield 77, 3) := by decide +kernel
theorem d_M_operate_84 : decode b_M_operate 84 = .ok (.goto 40, 3) := by decide +kernel
theorem d_M_operate_87 : decode b_M_operate 87 = .ok (.aload_n 0, 1) := by decide +kernel
theorem d_M_operate_88 : decode b_M_operate 88 = .ok (.iload_n 1, 1) := by decide +kernel
theorem d_M_operate_89 : decode b_M_operate 89 = .ok (.bipush 43, 2) := by decide +kernel
theorem d_M_operate_91 : decode b_M_operate 91 = .ok (.if_icmp .ne 7, 3) := by decide +kernel
theorem d_M_operate_94 : decode b_M_operate 94 = .ok (.iconst 2, 1) := by decide +kernel
theorem d_M_operate_95 : decode b_M_operate 95 = .ok (.goto 24, 3) := by decide +kernel
theorem d_M_operate_98 : decode b_M_operate 98 = .ok (.iload_n 1, 1) := by decide +kernel
theorem d_M_operate_99 : decode b_M_operate 99 = .ok (.bipush 45, 2) := by decide +kernel
theorem d_M_operate_101 : decode b_M_operate 101 = .ok (.if_icmp .ne 7, 3) := by decide +kernel
theorem d_M_operate_104 : decode b_M_operate 104 = .ok (.iconst 3, 1) := by decide +kernel
theorem d_M_operate_105 : decode b_M_operate 105 = .ok (.goto 14, 3) := by decide +kernel
theorem d_M_operate_108 : decode b_M_operate 108 = .ok (.iload_n 1, 1) := by decide +kernel
theorem d_M_operate_109 : decode b_M_operate 109 = .ok (.bipush 42, 2) := by decide +kernel
theorem d_M_operate_111 : decode b_M_operate 111 = .ok (.if_icmp .ne 7, 3) := by decide +kernel
theorem d_M_operate_114 : decode b_M_operate 114 = .ok (.iconst 4, 1) := by decide +kernel
theorem d_M_operate_115 : decode b_M_operate 115 = .ok (.goto 4, 3) := by decide +kernel
theorem d_M_operate_118 : decode b_M_operate 118 = .ok (.iconst 5, 1) := by decide +kernel
theorem d_M_operate_119 : decode b_M_operate 119 = .ok (.iload_n 3, 1) := by decide +kernel
theorem d_M_operate_120 : decode b_M_operate 120 = .ok (.iload_n 2, 1) := by decide +kernel
theorem d_M_operate_121 : decode b_M_operate 121 = .ok (.invokevirtual 103, 3) := by decide +kernel
theorem d_M_operate_124 : decode b_M_operate 124 = .ok (.return_, 1) := by decide +kernel
theorem d_M_isBinary_0 : decode b_M_isBinary 0 = .ok (.iload_n 0, 1) := by decide +kernel
theorem d_M_isBinary_1 : decode b_M_isBinary 1 = .ok (.bipush 43, 2) := by decide +kernel
theorem d_M_isBinary_3 : decode b_M_isBinary 3 = .ok (.if_icmp .eq 21, 3) := by decide +kernel
theorem d_M_isBinary_6 : decode b_M_isBinary 6 = .ok (.iload_n 0, 1) := by decide +kernel
theorem d_M_isBinary_7 : decode b_M_isBinary 7 = .ok (.bipush 45, 2) := by decide +kernel
theorem d_M_isBinary_9 : decode b_M_isBinary 9 = .ok (.if_icmp .eq 15, 3) := by decide +kernel
theorem d_M_isBinary_12 : decode b_M_isBinary 12 = .ok (.iload_n 0, 1) := by decide +kernel
theorem d_M_isBinary_13 : decode b_M_isBinary 13 = .ok (.bipush 42, 2) := by decide +kernel
theorem d_M_isBinary_15 : decode b_M_isBinary 15 = .ok (.if_icmp .eq 9, 3) := by decide +kernel
theorem d_M_isBinary_18 : decode b_M_isBinary 18 = .ok (.iload_n 0, 1) := by decide +kernel
theorem d_M_isBinary_19 : decode b_M_isBinary 19 = .ok (.bipush 47, 2) := by decide +kernel
theorem d_M_isBinary_21 : decode b_M_isBinary 21 = .ok (.if_icmp .ne 7, 3) := by decide +kernel
theorem d_M_isBinary_24 : decode b_M_isBinary 24 = .ok (.iconst 1, 1) := by decide +kernel
theorem d_M_isBinary_25 : decode b_M_isBinary 25 = .ok (.goto 4, 3) := by decide +kernel
theorem d_M_isBinary_28 : decode b_M_isBinary 28 = .ok (.iconst 0, 1) := by decide +kernel
theorem d_M_isBinary_29 : decode b_M_isBinary 29 = .ok (.ireturn, 1) := by decide +kernel
theorem d_M_top_0 : decode b_M_top 0 = .ok (.aload_n 0, 1) := by decide +kernel
theorem d_M_top_1 : decode b_M_top 1 = .ok (.getfield 106, 3) := by decide +kernel
theorem d_M_top_4 : decode b_M_top 4 = .ok (.ifCond .ne 7, 3) := by decide +kernel
theorem d_M_top_7 : decode b_M_top 7 = .ok (.iconst 0, 1) := by decide +kernel
theorem d_M_top_8 : decode b_M_top 8 = .ok (.goto 14, 3) := by decide +kernel
theorem d_M_top_11 : decode b_M_top 11 = .ok (.aload_n 0, 1) := by decide +kernel
theorem d_M_top_12 : decode b_M_top 12 = .ok (.getfield 49, 3) := by decide +kernel
theorem d_M_top_15 : decode b_M_top 15 = .ok (.aload_n 0, 1) := by decide +kernel
theorem d_M_top_16 : decode b_M_top 16 = .ok (.getfield 106, 3) := by decide +kernel
theorem d_M_top_19 : decode b_M_top 19 = .ok (.iconst 1, 1) := by decide +kernel
theorem d_M_top_20 : decode b_M_top 20 = .ok (.isub, 1) := by decide +kernel
theorem d_M_top_21 : decode b_M_top 21 = .ok (.iaload, 1) := by decide +kernel
theorem d_M_top_22 : decode b_M_top 22 = .ok (.ireturn, 1) := by decide +kernel
theorem d_M_settle_0 : decode b_M_settle 0 = .ok (.aload_n 0, 1) := by decide +kernel
theorem d_M_settle_1 : decode b_M_settle 1 = .ok (.getfield 77, 3) := by decide +kernel
theorem d_M_settle_4 : decode b_M_settle 4 = .ok (.ifCond .ne 61, 3) := by decide +kernel
theorem d_M_settle_7 : decode b_M_settle 7 = .ok (.aload_n 0, 1) := by decide +kernel
theorem d_M_settle_8 : decode b_M_settle 8 = .ok (.invokevirtual 109, 3) := by decide +kernel
theorem d_M_settle_11 : decode b_M_settle 11 = .ok (.bipush 42, 2) := by decide +kernel
theorem d_M_settle_13 : decode b_M_settle 13 = .ok (.if_icmp .eq 26, 3) := by decide +kernel
theorem d_M_settle_16 : decode b_M_settle 16 = .ok (.aload_n 0, 1) := by decide +kernel
theorem d_M_settle_17 : decode b_M_settle 17 = .ok (.invokevirtual 109, 3) := by decide +kernel
theorem d_M_settle_20 : decode b_M_settle 20 = .ok (.bipush 47, 2) := by decide +kernel
theorem d_M_settle_22 : decode b_M_settle 22 = .ok (.if_icmp .eq 17, 3) := by decide +kernel
theorem d_M_settle_25 : decode b_M_settle 25 = .ok (.iload_n 1, 1) := by decide +kernel
theorem d_M_settle_26 : decode b_M_settle 26 = .ok (.ifCond .eq 39, 3) := by decide +kernel
theorem d_M_settle_29 : decode b_M_settle 29 = .ok (.aload_n 0, 1) := by decide +kernel
theorem d_M_settle_30 : decode b_M_settle 30 = .ok (.invokevirtual 109, 3) := by decide +kernel
theorem d_M_settle_33 : decode b_M_settle 33 = .ok (.invokestatic 113, 3) := by decide +kernel
theorem d_M_settle_36 : decode b_M_settle 36 = .ok (.ifCond .eq 29, 3) := by decide +kernel
theorem d_M_settle_39 : decode b_M_settle 39 = .ok (.aload_n 0, 1) := by decide +kernel
theorem d_M_settle_40 : decode b_M_settle 40 = .ok (.dup, 1) := by decide +kernel
theorem d_M_settle_41 : decode b_M_settle 41 = .ok (.getfield 106, 3) := by decide +kernel
theorem d_M_settle_44 : decode b_M_settle 44 = .ok (.iconst 1, 1) := by decide +kernel
theorem d_M_settle_45 : decode b_M_settle 45 = .ok (.isub, 1) := by decide +kernel
theorem d_M_settle_46 : decode b_M_settle 46 = .ok (.putfield 106, 3) := by decide +kernel
theorem d_M_settle_49 : decode b_M_settle 49 = .ok (.aload_n 0, 1) := by decide +kernel
theorem d_M_settle_50 : decode b_M_settle 50 = .ok (.aload_n 0, 1) := by decide +kernel
theorem d_M_settle_51 : decode b_M_settle 51 = .ok (.getfield 49, 3) := by decide +kernel
theorem d_M_settle_54 : decode b_M_settle 54 = .ok (.aload_n 0, 1) := by decide +kernel
theorem d_M_settle_55 : decode b_M_settle 55 = .ok (.getfield 106, 3) := by decide +kernel
theorem d_M_settle_58 : decode b_M_settle 58 = .ok (.iaload, 1) := by decide +kernel
theorem d_M_settle_59 : decode b_M_settle 59 = .ok (.invokevirtual 117, 3) := by decide +kernel
theorem d_M_settle_62 : decode b_M_settle 62 = .ok (.goto (-62), 3) := by decide +kernel
theorem d_M_settle_65 : decode b_M_settle 65 = .ok (.return_, 1) := by decide +kernel
theorem d_M_each_0 : decode b_M_each 0 = .ok (.aload_n 0, 1) := by decide +kernel
theorem d_M_each_1 : decode b_M_each 1 = .ok (.getfield 81, 3) := by decide +kernel
theorem d_M_each_4 : decode b_M_each 4 = .ok (.iconst 1, 1) := by decide +kernel
theorem d_M_each_5 : decode b_M_each 5 = .ok (.isub, 1) := by decide +kernel
theorem d_M_each_6 : decode b_M_each 6 = .ok (.istore_n 2, 1) := by decide +kernel
theorem d_M_each_7 : decode b_M_each 7 = .ok (.iconst 0, 1) := by decide +kernel
theorem d_M_each_8 : decode b_M_each 8 = .ok (.istore_n 3, 1) := by decide +kernel
theorem d_M_each_9 : decode b_M_each 9 = .ok (.iload_n 3, 1) := by decide +kernel
theorem d_M_each_10 : decode b_M_each 10 = .ok (.aload_n 0, 1) := by decide +kernel
theorem d_M_each_11 : decode b_M_each 11 = .ok (.getfield 43, 3) := by decide +kernel
theorem d_M_each_14 : decode b_M_each 14 = .ok (.iload_n 2, 1) := by decide +kernel
theorem d_M_each_15 : decode b_M_each 15 = .ok (.iaload, 1) := by decide +kernel
theorem d_M_each_16 : decode b_M_each 16 = .ok (.if_icmp .ge 31, 3) := by decide +kernel
theorem d_M_each_19 : decode b_M_each 19 = .ok (.aload_n 0, 1) := by decide +kernel
theorem d_M_each_20 : decode b_M_each 20 = .ok (.getfield 46, 3) := by decide +kernel
theorem d_M_each_23 : decode b_M_each 23 = .ok (.iconst 4, 1) := by decide +kernel
theorem d_M_each_24 : decode b_M_each 24 = .ok (.iload_n 2, 1) := by decide +kernel
theorem d_M_each_25 : decode b_M_each 25 = .ok (.imul, 1) := by decide +kernel
theorem d_M_each_26 : decode b_M_each 26 = .ok (.iload_n 3, 1) := by decide +kernel
theorem d_M_each_27 : decode b_M_each 27 = .ok (.iadd, 1) := by decide +kernel
theorem d_M_each_28 : decode b_M_each 28 = .ok (.aload_n 0, 1) := by decide +kernel
theorem d_M_each_29 : decode b_M_each 29 = .ok (.iload_n 1, 1) := by decide +kernel
theorem d_M_each_30 : decode b_M_each 30 = .ok (.aload_n 0, 1) := by decide +kernel
theorem d_M_each_31 : decode b_M_each 31 = .ok (.iload_n 2, 1) := by decide +kernel
theorem d_M_each_32 : decode b_M_each 32 = .ok (.iload_n 3, 1) := by decide +kernel
theorem d_M_each_33 : decode b_M_each 33 = .ok (.invokevirtual 88, 3) := by decide +kernel
theorem d_M_each_36 : decode b_M_each 36 = .ok (.iconst 0, 1) := by decide +kernel
theorem d_M_each_37 : decode b_M_each 37 = .ok (.invokevirtual 92, 3) := by decide +kernel
theorem d_M_each_40 : decode b_M_each 40 = .ok (.iastore, 1) := by decide +kernel
theorem d_M_each_41 : decode b_M_each 41 = .ok (.iinc 3 1, 3) := by decide +kernel
theorem d_M_each_44 : decode b_M_each 44 = .ok (.goto (-35), 3) := by decide +kernel
theorem d_M_each_47 : decode b_M_each 47 = .ok (.return_, 1) := by decide +kernel
theorem d_M_dot_0 : decode b_M_dot 0 = .ok (.aload_n 0, 1) := by decide +kernel
theorem d_M_dot_1 : decode b_M_dot 1 = .ok (.getfield 43, 3) := by decide +kernel
theorem d_M_dot_4 : decode b_M_dot 4 = .ok (.iload_n 1, 1) := by decide +kernel
theorem d_M_dot_5 : decode b_M_dot 5 = .ok (.iaload, 1) := by decide +kernel
theorem d_M_dot_6 : decode b_M_dot 6 = .ok (.istore_n 3, 1) := by decide +kernel
theorem d_M_dot_7 : decode b_M_dot 7 = .ok (.iload_n 3, 1) := by decide +kernel
theorem d_M_dot_8 : decode b_M_dot 8 = .ok (.aload_n 0, 1) := by decide +kernel
theorem d_M_dot_9 : decode b_M_dot 9 = .ok (.getfield 43, 3) := by decide +kernel
theorem d_M_dot_12 : decode b_M_dot 12 = .ok (.iload_n 2, 1) := by decide +kernel
theorem d_M_dot_13 : decode b_M_dot 13 = .ok (.iaload, 1) := by decide +kernel
theorem d_M_dot_14 : decode b_M_dot 14 = .ok (.if_icmp .ne 8, 3) := by decide +kernel
theorem d_M_dot_17 : decode b_M_dot 17 = .ok (.iload_n 3, 1) := by decide +kernel
theorem d_M_dot_18 : decode b_M_dot 18 = .ok (.iconst 3, 1) := by decide +kernel
theorem d_M_dot_19 : decode b_M_dot 19 = .ok (.if_icmp .le 9, 3) := by decide +kernel
theorem d_M_dot_22 : decode b_M_dot 22 = .ok (.aload_n 0, 1) := by decide +kernel
theorem d_M_dot_23 : decode b_M_dot 23 = .ok (.iconst 1, 1) := by decide +kernel
theorem d_M_dot_24 : decode b_M_dot 24 = .ok (.putfield 77, 3) := by decide +kernel
theorem d_M_dot_27 : decode b_M_dot 27 = .ok (.return_, 1) := by decide +kernel
theorem d_M_dot_28 : decode b_M_dot 28 = .ok (.iconst 0, 1) := by decide +kernel
theorem d_M_dot_29 : decode b_M_dot 29 = .ok (.istore 4, 2) := by decide +kernel
theorem d_M_dot_31 : decode b_M_dot 31 = .ok (.iconst 0, 1) := by decide +kernel
theorem d_M_dot_32 : decode b_M_dot 32 = .ok (.istore 5, 2) := by decide +kernel
theorem d_M_dot_34 : decode b_M_dot 34 = .ok (.iload 5, 2) := by decide +kernel
theorem d_M_dot_36 : decode b_M_dot 36 = .ok (.iload_n 3, 1) := by decide +kernel
theorem d_M_dot_37 : decode b_M_dot 37 = .ok (.if_icmp .ge 51, 3) := by decide +kernel
theorem d_M_dot_40 : decode b_M_dot 40 = .ok (.aload_n 0, 1) := by decide +kernel
theorem d_M_dot_41 : decode b_M_dot 41 = .ok (.iconst 4, 1) := by decide +kernel
theorem d_M_dot_42 : decode b_M_dot 42 = .ok (.aload_n 0, 1) := by decide +kernel
theorem d_M_dot_43 : decode b_M_dot 43 = .ok (.iload_n 1, 1) := by decide +kernel
theorem d_M_dot_44 : decode b_M_dot 44 = .ok (.iload 5, 2) := by decide +kernel
theorem d_M_dot_46 : decode b_M_dot 46 = .ok (.invokevirtual 88, 3) := by decide +kernel
theorem d_M_dot_49 : decode b_M_dot 49 = .ok (.aload_n 0, 1) := by decide +kernel
theorem d_M_dot_50 : decode b_M_dot 50 = .ok (.iload_n 2, 1) := by decide +kernel
theorem d_M_dot_51 : decode b_M_dot 51 = .ok (.iload 5, 2) := by decide +kernel
theorem d_M_dot_53 : decode b_M_dot 53 = .ok (.invokevirtual 88, 3) := by decide +kernel
theorem d_M_dot_56 : decode b_M_dot 56 = .ok (.invokevirtual 92, 3) := by decide +kernel
theorem d_M_dot_59 : decode b_M_dot 59 = .ok (.istore 6, 2) := by decide +kernel
theorem d_M_dot_61 : decode b_M_dot 61 = .ok (.iload 5, 2) := by decide +kernel
theorem d_M_dot_63 : decode b_M_dot 63 = .ok (.ifCond .ne 8, 3) := by decide +kernel
theorem d_M_dot_66 : decode b_M_dot 66 = .ok (.iload 6, 2) := by decide +kernel
theorem d_M_dot_68 : decode b_M_dot 68 = .ok (.goto 12, 3) := by decide +kernel
theorem d_M_dot_71 : decode b_M_dot 71 = .ok (.aload_n 0, 1) := by decide +kernel
theorem d_M_dot_72 : decode b_M_dot 72 = .ok (.iconst 2, 1) := by decide +kernel
theorem d_M_dot_73 : decode b_M_dot 73 = .ok (.iload 4, 2) := by decide +kernel
theorem d_M_dot_75 : decode b_M_dot 75 = .ok (.iload 6, 2) := by decide +kernel
theorem d_M_dot_77 : decode b_M_dot 77 = .ok (.invokevirtual 92, 3) := by decide +kernel
theorem d_M_dot_80 : decode b_M_dot 80 = .ok (.istore 4, 2) := by decide +kernel
theorem d_M_dot_82 : decode b_M_dot 82 = .ok (.iinc 5 1, 3) := by decide +kernel
theorem d_M_dot_85 : decode b_M_dot 85 = .ok (.goto (-51), 3) := by decide +kernel
theorem d_M_dot_88 : decode b_M_dot 88 = .ok (.aload_n 0, 1) := by decide +kernel
theorem d_M_dot_89 : decode b_M_dot 89 = .ok (.getfield 55, 3) := by decide +kernel
theorem d_M_dot_92 : decode b_M_dot 92 = .ok (.iconst 0, 1) := by decide +kernel
theorem d_M_dot_93 : decode b_M_dot 93 = .ok (.iload 4, 2) := by decide +kernel
theorem d_M_dot_95 : decode b_M_dot 95 = .ok (.iastore, 1) := by decide +kernel
theorem d_M_dot_96 : decode b_M_dot 96 = .ok (.aload_n 0, 1) := by decide +kernel
theorem d_M_dot_97 : decode b_M_dot 97 = .ok (.iload_n 1, 1) := by decide +kernel
theorem d_M_dot_98 : decode b_M_dot 98 = .ok (.putfield 81, 3) := by decide +kernel
theorem d_M_dot_101 : decode b_M_dot 101 = .ok (.aload_n 0, 1) := by decide +kernel
theorem d_M_dot_102 : decode b_M_dot 102 = .ok (.iconst 1, 1) := by decide +kernel
theorem d_M_dot_103 : decode b_M_dot 103 = .ok (.invokevirtual 96, 3) := by decide +kernel
theorem d_M_dot_106 : decode b_M_dot 106 = .ok (.return_, 1) := by decide +kernel
theorem d_M_join_0 : decode b_M_join 0 = .ok (.aload_n 0, 1) := by decide +kernel
theorem d_M_join_1 : decode b_M_join 1 = .ok (.getfield 81, 3) := by decide +kernel
theorem d_M_join_4 : decode b_M_join 4 = .ok (.iload_n 1, 1) := by decide +kernel
theorem d_M_join_5 : decode b_M_join 5 = .ok (.isub, 1) := by decide +kernel
theorem d_M_join_6 : decode b_M_join 6 = .ok (.istore_n 2, 1) := by decide +kernel
theorem d_M_join_7 : decode b_M_join 7 = .ok (.iconst 0, 1) := by decide +kernel
theorem d_M_join_8 : decode b_M_join 8 = .ok (.istore_n 3, 1) := by decide +kernel
theorem d_M_join_9 : decode b_M_join 9 = .ok (.iload_n 2, 1) := by decide +kernel
theorem d_M_join_10 : decode b_M_join 10 = .ok (.istore 4, 2) := by decide +kernel
theorem d_M_join_12 : decode b_M_join 12 = .ok (.iload 4, 2) := by decide +kernel
theorem d_M_join_14 : decode b_M_join 14 = .ok (.aload_n 0, 1) := by decide +kernel
theorem d_M_join_15 : decode b_M_join 15 = .ok (.getfield 81, 3) := by decide +kernel
theorem d_M_join_18 : decode b_M_join 18 = .ok (.if_icmp .ge 46, 3) := by decide +kernel
theorem d_M_join_21 : decode b_M_join 21 = .ok (.aload_n 0, 1) := by decide +kernel
theorem d_M_join_22 : decode b_M_join 22 = .ok (.aload_n 0, 1) := by decide +kernel
theorem d_M_join_23 : decode b_M_join 23 = .ok (.getfield 77, 3) := by decide +kernel
theorem d_M_join_26 : decode b_M_join 26 = .ok (.ifCond .ne 14, 3) := by decide +kernel
theorem d_M_join_29 : decode b_M_join 29 = .ok (.aload_n 0, 1) := by decide +kernel
theorem d_M_join_30 : decode b_M_join 30 = .ok (.getfield 43, 3) := by decide +kernel
theorem d_M_join_33 : decode b_M_join 33 = .ok (.iload 4, 2) := by decide +kernel
theorem d_M_join_35 : decode b_M_join 35 = .ok (.iaload, 1) := by decide +kernel
theorem d_M_join_36 : decode b_M_join 36 = .ok (.iconst 3, 1) := by decide +kernel
theorem d_M_join_37 : decode b_M_join 37 = .ok (.if_icmp .le 7, 3) := by decide +kernel
theorem d_M_join_40 : decode b_M_join 40 = .ok (.iconst 1, 1) := by decide +kernel
theorem d_M_join_41 : decode b_M_join 41 = .ok (.goto 4, 3) := by decide +kernel
theorem d_M_join_44 : decode b_M_join 44 = .ok (.iconst 0, 1) := by decide +kernel
theorem d_M_join_45 : decode b_M_join 45 = .ok (.putfield 77, 3) := by decide +kernel
theorem d_M_join_48 : decode b_M_join 48 = .ok (.iload_n 3, 1) := by decide +kernel
theorem d_M_join_49 : decode b_M_join 49 = .ok (.aload_n 0, 1) := by decide +kernel
theorem d_M_join_50 : decode b_M_join 50 = .ok (.getfield 43, 3) := by decide +kernel
theorem d_M_join_53 : decode b_M_join 53 = .ok (.iload 4, 2) := by decide +kernel
theorem d_M_join_55 : decode b_M_join 55 = .ok (.iaload, 1) := by decide +kernel
theorem d_M_join_56 : decode b_M_join 56 = .ok (.iadd, 1) := by decide +kernel
theorem d_M_join_57 : decode b_M_join 57 = .ok (.istore_n 3, 1) := by decide +kernel
theorem d_M_join_58 : decode b_M_join 58 = .ok (.iinc 4 1, 3) := by decide +kernel
theorem d_M_join_61 : decode b_M_join 61 = .ok (.goto (-49), 3) := by decide +kernel
theorem d_M_join_64 : decode b_M_join 64 = .ok (.aload_n 0, 1) := by decide +kernel
theorem d_M_join_65 : decode b_M_join 65 = .ok (.aload_n 0, 1) := by decide +kernel
theorem d_M_join_66 : decode b_M_join 66 = .ok (.getfield 77, 3) := by decide +kernel
theorem d_M_join_69 : decode b_M_join 69 = .ok (.ifCond .ne 13, 3) := by decide +kernel
theorem d_M_join_72 : decode b_M_join 72 = .ok (.iload_n 3, 1) := by decide +kernel
theorem d_M_join_73 : decode b_M_join 73 = .ok (.iconst 2, 1) := by decide +kernel
theorem d_M_join_74 : decode b_M_join 74 = .ok (.if_icmp .lt 8, 3) := by decide +kernel
theorem d_M_join_77 : decode b_M_join 77 = .ok (.iload_n 3, 1) := by decide +kernel
theorem d_M_join_78 : decode b_M_join 78 = .ok (.iconst 3, 1) := by decide +kernel
theorem d_M_join_79 : decode b_M_join 79 = .ok (.if_icmp .le 7, 3) := by decide +kernel
theorem d_M_join_82 : decode b_M_join 82 = .ok (.iconst 1, 1) := by decide +kernel
theorem d_M_join_83 : decode b_M_join 83 = .ok (.goto 4, 3) := by decide +kernel
theorem d_M_join_86 : decode b_M_join 86 = .ok (.iconst 0, 1) := by decide +kernel
theorem d_M_join_87 : decode b_M_join 87 = .ok (.putfield 77, 3) := by decide +kernel
theorem d_M_join_90 : decode b_M_join 90 = .ok (.aload_n 0, 1) := by decide +kernel
theorem d_M_join_91 : decode b_M_join 91 = .ok (.getfield 77, 3) := by decide +kernel
theorem d_M_join_94 : decode b_M_join 94 = .ok (.ifCond .eq 4, 3) := by decide +kernel
theorem d_M_join_97 : decode b_M_join 97 = .ok (.return_, 1) := by decide +kernel
theorem d_M_join_98 : decode b_M_join 98 = .ok (.iconst 0, 1) := by decide +kernel
theorem d_M_join_99 : decode b_M_join 99 = .ok (.istore 4, 2) := by decide +kernel
theorem d_M_join_101 : decode b_M_join 101 = .ok (.iload_n 2, 1) := by decide +kernel
theorem d_M_join_102 : decode b_M_join 102 = .ok (.istore 5, 2) := by decide +kernel
theorem d_M_join_104 : decode b_M_join 104 = .ok (.iload 5, 2) := by decide +kernel
theorem d_M_join_106 : decode b_M_join 106 = .ok (.aload_n 0, 1) := by decide +kernel
theorem d_M_join_107 : decode b_M_join 107 = .ok (.getfield 81, 3) := by decide +kernel
theorem d_M_join_110 : decode b_M_join 110 = .ok (.if_icmp .ge 48, 3) := by decide +kernel
theorem d_M_join_113 : decode b_M_join 113 = .ok (.iconst 0, 1) := by decide +kernel
theorem d_M_join_114 : decode b_M_join 114 = .ok (.istore 6, 2) := by decide +kernel
theorem d_M_join_116 : decode b_M_join 116 = .ok (.iload 6, 2) := by decide +kernel
theorem d_M_join_118 : decode b_M_join 118 = .ok (.aload_n 0, 1) := by decide +kernel
theorem d_M_join_119 : decode b_M_join 119 = .ok (.getfield 43, 3) := by decide +kernel
theorem d_M_join_122 : decode b_M_join 122 = .ok (.iload 5, 2) := by decide +kernel
theorem d_M_join_124 : decode b_M_join 124 = .ok (.iaload, 1) := by decide +kernel
theorem d_M_join_125 : decode b_M_join 125 = .ok (.if_icmp .ge 27, 3) := by decide +kernel
theorem d_M_join_128 : decode b_M_join 128 = .ok (.aload_n 0, 1) := by decide +kernel
theorem d_M_join_129 : decode b_M_join 129 = .ok (.getfield 55, 3) := by decide +kernel
theorem d_M_join_132 : decode b_M_join 132 = .ok (.iload 4, 2) := by decide +kernel
theorem d_M_join_134 : decode b_M_join 134 = .ok (.aload_n 0, 1) := by decide +kernel
theorem d_M_join_135 : decode b_M_join 135 = .ok (.iload 5, 2) := by decide +kernel
theorem d_M_join_137 : decode b_M_join 137 = .ok (.iload 6, 2) := by decide +kernel
theorem d_M_join_139 : decode b_M_join 139 = .ok (.invokevirtual 88, 3) := by decide +kernel
theorem d_M_join_142 : decode b_M_join 142 = .ok (.iastore, 1) := by decide +kernel
theorem d_M_join_143 : decode b_M_join 143 = .ok (.iinc 4 1, 3) := by decide +kernel
theorem d_M_join_146 : decode b_M_join 146 = .ok (.iinc 6 1, 3) := by decide +kernel
theorem d_M_join_149 : decode b_M_join 149 = .ok (.goto (-33), 3) := by decide +kernel
theorem d_M_join_152 : decode b_M_join 152 = .ok (.iinc 5 1, 3) := by decide +kernel
theorem d_M_join_155 : decode b_M_join 155 = .ok (.goto (-51), 3) := by decide +kernel
theorem d_M_join_158 : decode b_M_join 158 = .ok (.aload_n 0, 1) := by decide +kernel
theorem d_M_join_159 : decode b_M_join 159 = .ok (.iload_n 2, 1) := by decide +kernel
theorem d_M_join_160 : decode b_M_join 160 = .ok (.putfield 81, 3) := by decide +kernel
theorem d_M_join_163 : decode b_M_join 163 = .ok (.aload_n 0, 1) := by decide +kernel
theorem d_M_join_164 : decode b_M_join 164 = .ok (.iload_n 3, 1) := by decide +kernel
theorem d_M_join_165 : decode b_M_join 165 = .ok (.invokevirtual 96, 3) := by decide +kernel
theorem d_M_join_168 : decode b_M_join 168 = .ok (.return_, 1) := by decide +kernel
theorem d_M_matrix_0 : decode b_M_matrix 0 = .ok (.aload_n 0, 1) := by decide +kernel
theorem d_M_matrix_1 : decode b_M_matrix 1 = .ok (.getfield 43, 3) := by decide +kernel
theorem d_M_matrix_4 : decode b_M_matrix 4 = .ok (.iload_n 1, 1) := by decide +kernel
theorem d_M_matrix_5 : decode b_M_matrix 5 = .ok (.iaload, 1) := by decide +kernel
theorem d_M_matrix_6 : decode b_M_matrix 6 = .ok (.iconst 2, 1) := by decide +kernel
theorem d_M_matrix_7 : decode b_M_matrix 7 = .ok (.if_icmp .ne 13, 3) := by decide +kernel
theorem d_M_matrix_10 : decode b_M_matrix 10 = .ok (.aload_n 0, 1) := by decide +kernel
theorem d_M_matrix_11 : decode b_M_matrix 11 = .ok (.getfield 43, 3) := by decide +kernel
theorem d_M_matrix_14 : decode b_M_matrix 14 = .ok (.iload_n 2, 1) := by decide +kernel
theorem d_M_matrix_15 : decode b_M_matrix 15 = .ok (.iaload, 1) := by decide +kernel
theorem d_M_matrix_16 : decode b_M_matrix 16 = .ok (.iconst 2, 1) := by decide +kernel
theorem d_M_matrix_17 : decode b_M_matrix 17 = .ok (.if_icmp .eq 9, 3) := by decide +kernel
theorem d_M_matrix_20 : decode b_M_matrix 20 = .ok (.aload_n 0, 1) := by decide +kernel
theorem d_M_matrix_21 : decode b_M_matrix 21 = .ok (.iconst 1, 1) := by decide +kernel
theorem d_M_matrix_22 : decode b_M_matrix 22 = .ok (.putfield 77, 3) := by decide +kernel
theorem d_M_matrix_25 : decode b_M_matrix 25 = .ok (.return_, 1) := by decide +kernel
theorem d_M_matrix_26 : decode b_M_matrix 26 = .ok (.iconst 0, 1) := by decide +kernel
theorem d_M_matrix_27 : decode b_M_matrix 27 = .ok (.istore_n 3, 1) := by decide +kernel
theorem d_M_matrix_28 : decode b_M_matrix 28 = .ok (.iload_n 3, 1) := by decide +kernel
theorem d_M_matrix_29 : decode b_M_matrix 29 = .ok (.iconst 4, 1) := by decide +kernel
theorem d_M_matrix_30 : decode b_M_matrix 30 = .ok (.if_icmp .ge 32, 3) := by decide +kernel
theorem d_M_matrix_33 : decode b_M_matrix 33 = .ok (.aload_n 0, 1) := by decide +kernel
theorem d_M_matrix_34 : decode b_M_matrix 34 = .ok (.getfield 55, 3) := by decide +kernel
theorem d_M_matrix_37 : decode b_M_matrix 37 = .ok (.iload_n 3, 1) := by decide +kernel
theorem d_M_matrix_38 : decode b_M_matrix 38 = .ok (.aload_n 0, 1) := by decide +kernel
theorem d_M_matrix_39 : decode b_M_matrix 39 = .ok (.iload_n 3, 1) := by decide +kernel
theorem d_M_matrix_40 : decode b_M_matrix 40 = .ok (.iconst 2, 1) := by decide +kernel
theorem d_M_matrix_41 : decode b_M_matrix 41 = .ok (.if_icmp .ge 7, 3) := by decide +kernel
theorem d_M_matrix_44 : decode b_M_matrix 44 = .ok (.iload_n 1, 1) := by decide +kernel
theorem d_M_matrix_45 : decode b_M_matrix 45 = .ok (.goto 4, 3) := by decide +kernel
theorem d_M_matrix_48 : decode b_M_matrix 48 = .ok (.iload_n 2, 1) := by decide +kernel
theorem d_M_matrix_49 : decode b_M_matrix 49 = .ok (.iload_n 3, 1) := by decide +kernel
theorem d_M_matrix_50 : decode b_M_matrix 50 = .ok (.iconst 2, 1) := by decide +kernel
theorem d_M_matrix_51 : decode b_M_matrix 51 = .ok (.irem, 1) := by decide +kernel
theorem d_M_matrix_52 : decode b_M_matrix 52 = .ok (.invokevirtual 88, 3) := by decide +kernel
theorem d_M_matrix_55 : decode b_M_matrix 55 = .ok (.iastore, 1) := by decide +kernel
theorem d_M_matrix_56 : decode b_M_matrix 56 = .ok (.iinc 3 1, 3) := by decide +kernel
theorem d_M_matrix_59 : decode b_M_matrix 59 = .ok (.goto (-31), 3) := by decide +kernel
theorem d_M_matrix_62 : decode b_M_matrix 62 = .ok (.aload_n 0, 1) := by decide +kernel
theorem d_M_matrix_63 : decode b_M_matrix 63 = .ok (.iload_n 1, 1) := by decide +kernel
theorem d_M_matrix_64 : decode b_M_matrix 64 = .ok (.putfield 81, 3) := by decide +kernel
theorem d_M_matrix_67 : decode b_M_matrix 67 = .ok (.aload_n 0, 1) := by decide +kernel
theorem d_M_matrix_68 : decode b_M_matrix 68 = .ok (.iconst 4, 1) := by decide +kernel
theorem d_M_matrix_69 : decode b_M_matrix 69 = .ok (.invokevirtual 96, 3) := by decide +kernel
theorem d_M_matrix_72 : decode b_M_matrix 72 = .ok (.return_, 1) := by decide +kernel
theorem d_M_call_0 : decode b_M_call 0 = .ok (.iload_n 1, 1) := by decide +kernel
theorem d_M_call_1 : decode b_M_call 1 = .ok (.bipush 65, 2) := by decide +kernel
theorem d_M_call_3 : decode b_M_call 3 = .ok (.if_icmp .eq 9, 3) := by decide +kernel
theorem d_M_call_6 : decode b_M_call 6 = .ok (.iload_n 1, 1) := by decide +kernel
theorem d_M_call_7 : decode b_M_call 7 = .ok (.bipush 70, 2) := by decide +kernel
theorem d_M_call_9 : decode b_M_call 9 = .ok (.if_icmp .ne 7, 3) := by decide +kernel
theorem d_M_call_12 : decode b_M_call 12 = .ok (.iconst 1, 1) := by decide +kernel
theorem d_M_call_13 : decode b_M_call 13 = .ok (.goto 4, 3) := by decide +kernel
theorem d_M_call_16 : decode b_M_call 16 = .ok (.iconst 0, 1) := by decide +kernel
theorem d_M_call_17 : decode b_M_call 17 = .ok (.istore_n 3, 1) := by decide +kernel
theorem d_M_call_18 : decode b_M_call 18 = .ok (.iload_n 3, 1) := by decide +kernel
theorem d_M_call_19 : decode b_M_call 19 = .ok (.ifCond .eq 11, 3) := by decide +kernel
theorem d_M_call_22 : decode b_M_call 22 = .ok (.iload_n 2, 1) := by decide +kernel
theorem d_M_call_23 : decode b_M_call 23 = .ok (.iconst 1, 1) := by decide +kernel
theorem d_M_call_24 : decode b_M_call 24 = .ok (.if_icmp .eq 31, 3) := by decide +kernel
theorem d_M_call_27 : decode b_M_call 27 = .ok (.goto 22, 3) := by decide +kernel
theorem d_M_call_30 : decode b_M_call 30 = .ok (.iload_n 1, 1) := by decide +kernel
theorem d_M_call_31 : decode b_M_call 31 = .ok (.bipush 86, 2) := by decide +kernel
theorem d_M_call_33 : decode b_M_call 33 = .ok (.if_icmp .ne 11, 3) := by decide +kernel
theorem d_M_call_36 : decode b_M_call 36 = .ok (.iload_n 2, 1) := by decide +kernel
theorem d_M_call_37 : decode b_M_call 37 = .ok (.iconst 3, 1) := by decide +kernel
theorem d_M_call_38 : decode b_M_call 38 = .ok (.if_icmp .le 17, 3) := by decide +kernel
theorem d_M_call_41 : decode b_M_call 41 = .ok (.goto 8, 3) := by decide +kernel
theorem d_M_call_44 : decode b_M_call 44 = .ok (.iload_n 2, 1) := by decide +kernel
theorem d_M_call_45 : decode b_M_call 45 = .ok (.iconst 2, 1) := by decide +kernel
theorem d_M_call_46 : decode b_M_call 46 = .ok (.if_icmp .eq 9, 3) := by decide +kernel
theorem d_M_call_49 : decode b_M_call 49 = .ok (.aload_n 0, 1) := by decide +kernel
theorem d_M_call_50 : decode b_M_call 50 = .ok (.iconst 1, 1) := by decide +kernel
theorem d_M_call_51 : decode b_M_call 51 = .ok (.putfield 77, 3) := by decide +kernel
theorem d_M_call_54 : decode b_M_call 54 = .ok (.return_, 1) := by decide +kernel
theorem d_M_call_55 : decode b_M_call 55 = .ok (.aload_n 0, 1) := by decide +kernel
theorem d_M_call_56 : decode b_M_call 56 = .ok (.getfield 81, 3) := by decide +kernel
theorem d_M_call_59 : decode b_M_call 59 = .ok (.iload_n 2, 1) := by decide +kernel
theorem d_M_call_60 : decode b_M_call 60 = .ok (.isub, 1) := by decide +kernel
theorem d_M_call_61 : decode b_M_call 61 = .ok (.istore 4, 2) := by decide +kernel
theorem d_M_call_63 : decode b_M_call 63 = .ok (.iload_n 1, 1) := by decide +kernel
theorem d_M_call_64 : decode b_M_call 64 = .ok (.tableswitch 196 65 88 #[112, 196, 196, 175, 196, 121, 196, 196, 196, 196, 196, 196, 196, 130, 196, 196, 196, 196, 160, 196, 196, 188, 196, 145], 112) := by decide +kernel
theorem d_M_call_176 : decode b_M_call 176 = .ok (.aload_n 0, 1) := by decide +kernel
theorem d_M_call_177 : decode b_M_call 177 = .ok (.bipush 10, 2) := by decide +kernel
theorem d_M_call_179 : decode b_M_call 179 = .ok (.invokevirtual 120, 3) := by decide +kernel
theorem d_M_call_182 : decode b_M_call 182 = .ok (.goto 88, 3) := by decide +kernel
theorem d_M_call_185 : decode b_M_call 185 = .ok (.aload_n 0, 1) := by decide +kernel
theorem d_M_call_186 : decode b_M_call 186 = .ok (.bipush 11, 2) := by decide +kernel
theorem d_M_call_188 : decode b_M_call 188 = .ok (.invokevirtual 120, 3) := by decide +kernel
theorem d_M_call_191 : decode b_M_call 191 = .ok (.goto 79, 3) := by decide +kernel
theorem d_M_call_194 : decode b_M_call 194 = .ok (.aload_n 0, 1) := by decide +kernel
theorem d_M_call_195 : decode b_M_call 195 = .ok (.bipush 6, 2) := by decide +kernel
theorem d_M_call_197 : decode b_M_call 197 = .ok (.iload 4, 2) := by decide +kernel
theorem d_M_call_199 : decode b_M_call 199 = .ok (.iload 4, 2) := by decide +kernel
theorem d_M_call_201 : decode b_M_call 201 = .ok (.iconst 1, 1) := by decide +kernel
theorem d_M_call_202 : decode b_M_call 202 = .ok (.iadd, 1) := by decide +kernel
theorem d_M_call_203 : decode b_M_call 203 = .ok (.invokevirtual 103, 3) := by decide +kernel
theorem d_M_call_206 : decode b_M_call 206 = .ok (.goto 64, 3) := by decide +kernel
theorem d_M_call_209 : decode b_M_call 209 = .ok (.aload_n 0, 1) := by decide +kernel
theorem d_M_call_210 : decode b_M_call 210 = .ok (.bipush 7, 2) := by decide +kernel
theorem d_M_call_212 : decode b_M_call 212 = .ok (.iload 4, 2) := by decide +kernel
theorem d_M_call_214 : decode b_M_call 214 = .ok (.iload 4, 2) := by decide +kernel
theorem d_M_call_216 : decode b_M_call 216 = .ok (.iconst 1, 1) := by decide +kernel
theorem d_M_call_217 : decode b_M_call 217 = .ok (.iadd, 1) := by decide +kernel
theorem d_M_call_218 : decode b_M_call 218 = .ok (.invokevirtual 103, 3) := by decide +kernel
theorem d_M_call_221 : decode b_M_call 221 = .ok (.goto 49, 3) := by decide +kernel
theorem d_M_call_224 : decode b_M_call 224 = .ok (.aload_n 0, 1) := by decide +kernel
theorem d_M_call_225 : decode b_M_call 225 = .ok (.bipush 8, 2) := by decide +kernel
theorem d_M_call_227 : decode b_M_call 227 = .ok (.iload 4, 2) := by decide +kernel
theorem d_M_call_229 : decode b_M_call 229 = .ok (.iload 4, 2) := by decide +kernel
theorem d_M_call_231 : decode b_M_call 231 = .ok (.iconst 1, 1) := by decide +kernel
theorem d_M_call_232 : decode b_M_call 232 = .ok (.iadd, 1) := by decide +kernel
theorem d_M_call_233 : decode b_M_call 233 = .ok (.invokevirtual 103, 3) := by decide +kernel
theorem d_M_call_236 : decode b_M_call 236 = .ok (.goto 34, 3) := by decide +kernel
theorem d_M_call_239 : decode b_M_call 239 = .ok (.aload_n 0, 1) := by decide +kernel
theorem d_M_call_240 : decode b_M_call 240 = .ok (.iload 4, 2) := by decide +kernel
theorem d_M_call_242 : decode b_M_call 242 = .ok (.iload 4, 2) := by decide +kernel
theorem d_M_call_244 : decode b_M_call 244 = .ok (.iconst 1, 1) := by decide +kernel
theorem d_M_call_245 : decode b_M_call 245 = .ok (.iadd, 1) := by decide +kernel
theorem d_M_call_246 : decode b_M_call 246 = .ok (.invokevirtual 123, 3) := by decide +kernel
theorem d_M_call_249 : decode b_M_call 249 = .ok (.goto 21, 3) := by decide +kernel
theorem d_M_call_252 : decode b_M_call 252 = .ok (.aload_n 0, 1) := by decide +kernel
theorem d_M_call_253 : decode b_M_call 253 = .ok (.iload_n 2, 1) := by decide +kernel
theorem d_M_call_254 : decode b_M_call 254 = .ok (.invokevirtual 127, 3) := by decide +kernel
theorem d_M_call_257 : decode b_M_call 257 = .ok (.goto 13, 3) := by decide +kernel
theorem d_M_call_260 : decode b_M_call 260 = .ok (.aload_n 0, 1) := by decide +kernel
theorem d_M_call_261 : decode b_M_call 261 = .ok (.iload 4, 2) := by decide +kernel
theorem d_M_call_263 : decode b_M_call 263 = .ok (.iload 4, 2) := by decide +kernel
theorem d_M_call_265 : decode b_M_call 265 = .ok (.iconst 1, 1) := by decide +kernel
theorem d_M_call_266 : decode b_M_call 266 = .ok (.iadd, 1) := by decide +kernel
theorem d_M_call_267 : decode b_M_call 267 = .ok (.invokevirtual 130, 3) := by decide +kernel
theorem d_M_call_270 : decode b_M_call 270 = .ok (.return_, 1) := by decide +kernel
theorem d_M_isDigit_0 : decode b_M_isDigit 0 = .ok (.iload_n 0, 1) := by decide +kernel
theorem d_M_isDigit_1 : decode b_M_isDigit 1 = .ok (.bipush 48, 2) := by decide +kernel
theorem d_M_isDigit_3 : decode b_M_isDigit 3 = .ok (.if_icmp .lt 13, 3) := by decide +kernel
theorem d_M_isDigit_6 : decode b_M_isDigit 6 = .ok (.iload_n 0, 1) := by decide +kernel
theorem d_M_isDigit_7 : decode b_M_isDigit 7 = .ok (.bipush 57, 2) := by decide +kernel
theorem d_M_isDigit_9 : decode b_M_isDigit 9 = .ok (.if_icmp .gt 7, 3) := by decide +kernel
theorem d_M_isDigit_12 : decode b_M_isDigit 12 = .ok (.iconst 1, 1) := by decide +kernel
theorem d_M_isDigit_13 : decode b_M_isDigit 13 = .ok (.goto 4, 3) := by decide +kernel
theorem d_M_isDigit_16 : decode b_M_isDigit 16 = .ok (.iconst 0, 1) := by decide +kernel
theorem d_M_isDigit_17 : decode b_M_isDigit 17 = .ok (.ireturn, 1) := by decide +kernel
theorem d_M_isSmall_0 : decode b_M_isSmall 0 = .ok (.iload_n 0, 1) := by decide +kernel
theorem d_M_isSmall_1 : decode b_M_isSmall 1 = .ok (.bipush 97, 2) := by decide +kernel
theorem d_M_isSmall_3 : decode b_M_isSmall 3 = .ok (.if_icmp .lt 13, 3) := by decide +kernel
theorem d_M_isSmall_6 : decode b_M_isSmall 6 = .ok (.iload_n 0, 1) := by decide +kernel
theorem d_M_isSmall_7 : decode b_M_isSmall 7 = .ok (.bipush 122, 2) := by decide +kernel
theorem d_M_isSmall_9 : decode b_M_isSmall 9 = .ok (.if_icmp .gt 7, 3) := by decide +kernel
theorem d_M_isSmall_12 : decode b_M_isSmall 12 = .ok (.iconst 1, 1) := by decide +kernel
theorem d_M_isSmall_13 : decode b_M_isSmall 13 = .ok (.goto 4, 3) := by decide +kernel
theorem d_M_isSmall_16 : decode b_M_isSmall 16 = .ok (.iconst 0, 1) := by decide +kernel
theorem d_M_isSmall_17 : decode b_M_isSmall 17 = .ok (.ireturn, 1) := by decide +kernel
theorem d_M_isFunction_0 : decode b_M_isFunction 0 = .ok (.iload_n 0, 1) := by decide +kernel
theorem d_M_isFunction_1 : decode b_M_isFunction 1 = .ok (.bipush 65, 2) := by decide +kernel
theorem d_M_isFunction_3 : decode b_M_isFunction 3 = .ok (.if_icmp .eq 45, 3) := by decide +kernel
theorem d_M_isFunction_6 : decode b_M_isFunction 6 = .ok (.iload_n 0, 1) := by decide +kernel
theorem d_M_isFunction_7 : decode b_M_isFunction 7 = .ok (.bipush 70, 2) := by decide +kernel
theorem d_M_isFunction_9 : decode b_M_isFunction 9 = .ok (.if_icmp .eq 39, 3) := by decide +kernel
theorem d_M_isFunction_12 : decode b_M_isFunction 12 = .ok (.iload_n 0, 1) := by decide +kernel
theorem d_M_isFunction_13 : decode b_M_isFunction 13 = .ok (.bipush 78, 2) := by decide +kernel
theorem d_M_isFunction_15 : decode b_M_isFunction 15 = .ok (.if_icmp .eq 33, 3) := by decide +kernel
theorem d_M_isFunction_18 : decode b_M_isFunction 18 = .ok (.iload_n 0, 1) := by decide +kernel
theorem d_M_isFunction_19 : decode b_M_isFunction 19 = .ok (.bipush 88, 2) := by decide +kernel
theorem d_M_isFunction_21 : decode b_M_isFunction 21 = .ok (.if_icmp .eq 27, 3) := by decide +kernel
theorem d_M_isFunction_24 : decode b_M_isFunction 24 = .ok (.iload_n 0, 1) := by decide +kernel
theorem d_M_isFunction_25 : decode b_M_isFunction 25 = .ok (.bipush 83, 2) := by decide +kernel
theorem d_M_isFunction_27 : decode b_M_isFunction 27 = .ok (.if_icmp .eq 21, 3) := by decide +kernel
theorem d_M_isFunction_30 : decode b_M_isFunction 30 = .ok (.iload_n 0, 1) := by decide +kernel
theorem d_M_isFunction_31 : decode b_M_isFunction 31 = .ok (.bipush 68, 2) := by decide +kernel
theorem d_M_isFunction_33 : decode b_M_isFunction 33 = .ok (.if_icmp .eq 15, 3) := by decide +kernel
theorem d_M_isFunction_36 : decode b_M_isFunction 36 = .ok (.iload_n 0, 1) := by decide +kernel
theorem d_M_isFunction_37 : decode b_M_isFunction 37 = .ok (.bipush 86, 2) := by decide +kernel
theorem d_M_isFunction_39 : decode b_M_isFunction 39 = .ok (.if_icmp .eq 9, 3) := by decide +kernel
theorem d_M_isFunction_42 : decode b_M_isFunction 42 = .ok (.iload_n 0, 1) := by decide +kernel
theorem d_M_isFunction_43 : decode b_M_isFunction 43 = .ok (.bipush 77, 2) := by decide +kernel
theorem d_M_isFunction_45 : decode b_M_isFunction 45 = .ok (.if_icmp .ne 7, 3) := by decide +kernel
theorem d_M_isFunction_48 : decode b_M_isFunction 48 = .ok (.iconst 1, 1) := by decide +kernel
theorem d_M_isFunction_49 : decode b_M_isFunction 49 = .ok (.goto 4, 3) := by decide +kernel
theorem d_M_isFunction_52 : decode b_M_isFunction 52 = .ok (.iconst 0, 1) := by decide +kernel
theorem d_M_isFunction_53 : decode b_M_isFunction 53 = .ok (.ireturn, 1) := by decide +kernel
theorem d_M_isGiven_0 : decode b_M_isGiven 0 = .ok (.iload_n 0, 1) := by decide +kernel
theorem d_M_isGiven_1 : decode b_M_isGiven 1 = .ok (.bipush 120, 2) := by decide +kernel
theorem d_M_isGiven_3 : decode b_M_isGiven 3 = .ok (.if_icmp .eq 27, 3) := by decide +kernel
theorem d_M_isGiven_6 : decode b_M_isGiven 6 = .ok (.iload_n 0, 1) := by decide +kernel
theorem d_M_isGiven_7 : decode b_M_isGiven 7 = .ok (.bipush 121, 2) := by decide +kernel
theorem d_M_isGiven_9 : decode b_M_isGiven 9 = .ok (.if_icmp .eq 21, 3) := by decide +kernel
theorem d_M_isGiven_12 : decode b_M_isGiven 12 = .ok (.iload_n 0, 1) := by decide +kernel
theorem d_M_isGiven_13 : decode b_M_isGiven 13 = .ok (.bipush 122, 2) := by decide +kernel
theorem d_M_isGiven_15 : decode b_M_isGiven 15 = .ok (.if_icmp .eq 15, 3) := by decide +kernel
theorem d_M_isGiven_18 : decode b_M_isGiven 18 = .ok (.iload_n 0, 1) := by decide +kernel
theorem d_M_isGiven_19 : decode b_M_isGiven 19 = .ok (.bipush 116, 2) := by decide +kernel
theorem d_M_isGiven_21 : decode b_M_isGiven 21 = .ok (.if_icmp .eq 9, 3) := by decide +kernel
theorem d_M_isGiven_24 : decode b_M_isGiven 24 = .ok (.iload_n 0, 1) := by decide +kernel
theorem d_M_isGiven_25 : decode b_M_isGiven 25 = .ok (.bipush 99, 2) := by decide +kernel
theorem d_M_isGiven_27 : decode b_M_isGiven 27 = .ok (.if_icmp .ne 7, 3) := by decide +kernel
theorem d_M_isGiven_30 : decode b_M_isGiven 30 = .ok (.iconst 1, 1) := by decide +kernel
theorem d_M_isGiven_31 : decode b_M_isGiven 31 = .ok (.goto 4, 3) := by decide +kernel
theorem d_M_isGiven_34 : decode b_M_isGiven 34 = .ok (.iconst 0, 1) := by decide +kernel
theorem d_M_isGiven_35 : decode b_M_isGiven 35 = .ok (.ireturn, 1) := by decide +kernel
theorem d_M_constant_0 : decode b_M_constant 0 = .ok (.iconst 0, 1) := by decide +kernel
theorem d_M_constant_1 : decode b_M_constant 1 = .ok (.istore_n 1, 1) := by decide +kernel
theorem d_M_constant_2 : decode b_M_constant 2 = .ok (.iconst 0, 1) := by decide +kernel
theorem d_M_constant_3 : decode b_M_constant 3 = .ok (.istore_n 2, 1) := by decide +kernel
theorem d_M_constant_4 : decode b_M_constant 4 = .ok (.aload_n 0, 1) := by decide +kernel
theorem d_M_constant_5 : decode b_M_constant 5 = .ok (.aload_n 0, 1) := by decide +kernel
theorem d_M_constant_6 : decode b_M_constant 6 = .ok (.getfield 133, 3) := by decide +kernel
theorem d_M_constant_9 : decode b_M_constant 9 = .ok (.invokevirtual 136, 3) := by decide +kernel
theorem d_M_constant_12 : decode b_M_constant 12 = .ok (.invokestatic 140, 3) := by decide +kernel
theorem d_M_constant_15 : decode b_M_constant 15 = .ok (.ifCond .eq 41, 3) := by decide +kernel
theorem d_M_constant_18 : decode b_M_constant 18 = .ok (.iload_n 2, 1) := by decide +kernel
theorem d_M_constant_19 : decode b_M_constant 19 = .ok (.iconst 5, 1) := by decide +kernel
theorem d_M_constant_20 : decode b_M_constant 20 = .ok (.if_icmp .ge 36, 3) := by decide +kernel
theorem d_M_constant_23 : decode b_M_constant 23 = .ok (.bipush 10, 2) := by decide +kernel
theorem d_M_constant_25 : decode b_M_constant 25 = .ok (.iload_n 1, 1) := by decide +kernel
theorem d_M_constant_26 : decode b_M_constant 26 = .ok (.imul, 1) := by decide +kernel
theorem d_M_constant_27 : decode b_M_constant 27 = .ok (.aload_n 0, 1) := by decide +kernel
theorem d_M_constant_28 : decode b_M_constant 28 = .ok (.aload_n 0, 1) := by decide +kernel
theorem d_M_constant_29 : decode b_M_constant 29 = .ok (.getfield 133, 3) := by decide +kernel
theorem d_M_constant_32 : decode b_M_constant 32 = .ok (.invokevirtual 136, 3) := by decide +kernel
theorem d_M_constant_35 : decode b_M_constant 35 = .ok (.iadd, 1) := by decide +kernel
theorem d_M_constant_36 : decode b_M_constant 36 = .ok (.bipush 48, 2) := by decide +kernel
theorem d_M_constant_38 : decode b_M_constant 38 = .ok (.isub, 1) := by decide +kernel
theorem d_M_constant_39 : decode b_M_constant 39 = .ok (.istore_n 1, 1) := by decide +kernel
theorem d_M_constant_40 : decode b_M_constant 40 = .ok (.aload_n 0, 1) := by decide +kernel
theorem d_M_constant_41 : decode b_M_constant 41 = .ok (.dup, 1) := by decide +kernel
theorem d_M_constant_42 : decode b_M_constant 42 = .ok (.getfield 133, 3) := by decide +kernel
theorem d_M_constant_45 : decode b_M_constant 45 = .ok (.iconst 1, 1) := by decide +kernel
theorem d_M_constant_46 : decode b_M_constant 46 = .ok (.iadd, 1) := by decide +kernel
theorem d_M_constant_47 : decode b_M_constant 47 = .ok (.putfield 133, 3) := by decide +kernel
theorem d_M_constant_50 : decode b_M_constant 50 = .ok (.iinc 2 1, 3) := by decide +kernel
theorem d_M_constant_53 : decode b_M_constant 53 = .ok (.goto (-49), 3) := by decide +kernel
theorem d_M_constant_56 : decode b_M_constant 56 = .ok (.aload_n 0, 1) := by decide +kernel
theorem d_M_constant_57 : decode b_M_constant 57 = .ok (.iload_n 2, 1) := by decide +kernel
theorem d_M_constant_58 : decode b_M_constant 58 = .ok (.iconst 5, 1) := by decide +kernel
theorem d_M_constant_59 : decode b_M_constant 59 = .ok (.if_icmp .ne 7, 3) := by decide +kernel
theorem d_M_constant_62 : decode b_M_constant 62 = .ok (.iconst 1, 1) := by decide +kernel
theorem d_M_constant_63 : decode b_M_constant 63 = .ok (.goto 4, 3) := by decide +kernel
theorem d_M_constant_66 : decode b_M_constant 66 = .ok (.iconst 0, 1) := by decide +kernel
theorem d_M_constant_67 : decode b_M_constant 67 = .ok (.putfield 77, 3) := by decide +kernel
theorem d_M_constant_70 : decode b_M_constant 70 = .ok (.iconst 0, 1) := by decide +kernel
theorem d_M_constant_71 : decode b_M_constant 71 = .ok (.istore_n 3, 1) := by decide +kernel
theorem d_M_constant_72 : decode b_M_constant 72 = .ok (.iconst 1, 1) := by decide +kernel
theorem d_M_constant_73 : decode b_M_constant 73 = .ok (.istore 4, 2) := by decide +kernel
theorem d_M_constant_75 : decode b_M_constant 75 = .ok (.aload_n 0, 1) := by decide +kernel
theorem d_M_constant_76 : decode b_M_constant 76 = .ok (.aload_n 0, 1) := by decide +kernel
theorem d_M_constant_77 : decode b_M_constant 77 = .ok (.getfield 133, 3) := by decide +kernel
theorem d_M_constant_80 : decode b_M_constant 80 = .ok (.invokevirtual 136, 3) := by decide +kernel
theorem d_M_constant_83 : decode b_M_constant 83 = .ok (.bipush 46, 2) := by decide +kernel
theorem d_M_constant_85 : decode b_M_constant 85 = .ok (.if_icmp .ne 112, 3) := by decide +kernel
theorem d_M_constant_88 : decode b_M_constant 88 = .ok (.aload_n 0, 1) := by decide +kernel
theorem d_M_constant_89 : decode b_M_constant 89 = .ok (.dup, 1) := by decide +kernel
theorem d_M_constant_90 : decode b_M_constant 90 = .ok (.getfield 133, 3) := by decide +kernel
theorem d_M_constant_93 : decode b_M_constant 93 = .ok (.iconst 1, 1) := by decide +kernel
theorem d_M_constant_94 : decode b_M_constant 94 = .ok (.iadd, 1) := by decide +kernel
theorem d_M_constant_95 : decode b_M_constant 95 = .ok (.putfield 133, 3) := by decide +kernel
theorem d_M_constant_98 : decode b_M_constant 98 = .ok (.iconst 0, 1) := by decide +kernel
theorem d_M_constant_99 : decode b_M_constant 99 = .ok (.istore_n 2, 1) := by decide +kernel
theorem d_M_constant_100 : decode b_M_constant 100 = .ok (.aload_n 0, 1) := by decide +kernel
theorem d_M_constant_101 : decode b_M_constant 101 = .ok (.aload_n 0, 1) := by decide +kernel
theorem d_M_constant_102 : decode b_M_constant 102 = .ok (.getfield 133, 3) := by decide +kernel
theorem d_M_constant_105 : decode b_M_constant 105 = .ok (.invokevirtual 136, 3) := by decide +kernel
theorem d_M_constant_108 : decode b_M_constant 108 = .ok (.invokestatic 140, 3) := by decide +kernel
theorem d_M_constant_111 : decode b_M_constant 111 = .ok (.ifCond .eq 48, 3) := by decide +kernel
theorem d_M_constant_114 : decode b_M_constant 114 = .ok (.iload_n 2, 1) := by decide +kernel
theorem d_M_constant_115 : decode b_M_constant 115 = .ok (.iconst 5, 1) := by decide +kernel
theorem d_M_constant_116 : decode b_M_constant 116 = .ok (.if_icmp .ge 43, 3) := by decide +kernel
theorem d_M_constant_119 : decode b_M_constant 119 = .ok (.bipush 10, 2) := by decide +kernel
theorem d_M_constant_121 : decode b_M_constant 121 = .ok (.iload_n 3, 1) := by decide +kernel
theorem d_M_constant_122 : decode b_M_constant 122 = .ok (.imul, 1) := by decide +kernel
theorem d_M_constant_123 : decode b_M_constant 123 = .ok (.aload_n 0, 1) := by decide +kernel
theorem d_M_constant_124 : decode b_M_constant 124 = .ok (.aload_n 0, 1) := by decide +kernel
theorem d_M_constant_125 : decode b_M_constant 125 = .ok (.getfield 133, 3) := by decide +kernel
theorem d_M_constant_128 : decode b_M_constant 128 = .ok (.invokevirtual 136, 3) := by decide +kernel
theorem d_M_constant_131 : decode b_M_constant 131 = .ok (.iadd, 1) := by decide +kernel
theorem d_M_constant_132 : decode b_M_constant 132 = .ok (.bipush 48, 2) := by decide +kernel
theorem d_M_constant_134 : decode b_M_constant 134 = .ok (.isub, 1) := by decide +kernel
theorem d_M_constant_135 : decode b_M_constant 135 = .ok (.istore_n 3, 1) := by decide +kernel
theorem d_M_constant_136 : decode b_M_constant 136 = .ok (.iload 4, 2) := by decide +kernel
theorem d_M_constant_138 : decode b_M_constant 138 = .ok (.bipush 10, 2) := by decide +kernel
theorem d_M_constant_140 : decode b_M_constant 140 = .ok (.imul, 1) := by decide +kernel
theorem d_M_constant_141 : decode b_M_constant 141 = .ok (.istore 4, 2) := by decide +kernel
theorem d_M_constant_143 : decode b_M_constant 143 = .ok (.aload_n 0, 1) := by decide +kernel
theorem d_M_constant_144 : decode b_M_constant 144 = .ok (.dup, 1) := by decide +kernel
theorem d_M_constant_145 : decode b_M_constant 145 = .ok (.getfield 133, 3) := by decide +kernel
theorem d_M_constant_148 : decode b_M_constant 148 = .ok (.iconst 1, 1) := by decide +kernel
theorem d_M_constant_149 : decode b_M_constant 149 = .ok (.iadd, 1) := by decide +kernel
theorem d_M_constant_150 : decode b_M_constant 150 = .ok (.putfield 133, 3) := by decide +kernel
theorem d_M_constant_153 : decode b_M_constant 153 = .ok (.iinc 2 1, 3) := by decide +kernel
theorem d_M_constant_156 : decode b_M_constant 156 = .ok (.goto (-56), 3) := by decide +kernel
theorem d_M_constant_159 : decode b_M_constant 159 = .ok (.aload_n 0, 1) := by decide +kernel
theorem d_M_constant_160 : decode b_M_constant 160 = .ok (.aload_n 0, 1) := by decide +kernel
theorem d_M_constant_161 : decode b_M_constant 161 = .ok (.getfield 77, 3) := by decide +kernel
theorem d_M_constant_164 : decode b_M_constant 164 = .ok (.ifCond .ne 25, 3) := by decide +kernel
theorem d_M_constant_167 : decode b_M_constant 167 = .ok (.iload_n 2, 1) := by decide +kernel
theorem d_M_constant_168 : decode b_M_constant 168 = .ok (.ifCond .eq 21, 3) := by decide +kernel
theorem d_M_constant_171 : decode b_M_constant 171 = .ok (.iload_n 2, 1) := by decide +kernel
theorem d_M_constant_172 : decode b_M_constant 172 = .ok (.iconst 5, 1) := by decide +kernel
theorem d_M_constant_173 : decode b_M_constant 173 = .ok (.if_icmp .eq 16, 3) := by decide +kernel
theorem d_M_constant_176 : decode b_M_constant 176 = .ok (.aload_n 0, 1) := by decide +kernel
theorem d_M_constant_177 : decode b_M_constant 177 = .ok (.aload_n 0, 1) := by decide +kernel
theorem d_M_constant_178 : decode b_M_constant 178 = .ok (.getfield 133, 3) := by decide +kernel
theorem d_M_constant_181 : decode b_M_constant 181 = .ok (.invokevirtual 136, 3) := by decide +kernel
theorem d_M_constant_184 : decode b_M_constant 184 = .ok (.bipush 46, 2) := by decide +kernel
theorem d_M_constant_186 : decode b_M_constant 186 = .ok (.if_icmp .ne 7, 3) := by decide +kernel
theorem d_M_constant_189 : decode b_M_constant 189 = .ok (.iconst 1, 1) := by decide +kernel
theorem d_M_constant_190 : decode b_M_constant 190 = .ok (.goto 4, 3) := by decide +kernel
theorem d_M_constant_193 : decode b_M_constant 193 = .ok (.iconst 0, 1) := by decide +kernel
theorem d_M_constant_194 : decode b_M_constant 194 = .ok (.putfield 77, 3) := by decide +kernel
theorem d_M_constant_197 : decode b_M_constant 197 = .ok (.aload_n 0, 1) := by decide +kernel
theorem d_M_constant_198 : decode b_M_constant 198 = .ok (.getfield 77, 3) := by decide +kernel
theorem d_M_constant_201 : decode b_M_constant 201 = .ok (.ifCond .eq 4, 3) := by decide +kernel
theorem d_M_constant_204 : decode b_M_constant 204 = .ok (.return_, 1) := by decide +kernel
theorem d_M_constant_205 : decode b_M_constant 205 = .ok (.aload_n 0, 1) := by decide +kernel
theorem d_M_constant_206 : decode b_M_constant 206 = .ok (.getfield 55, 3) := by decide +kernel
theorem d_M_constant_209 : decode b_M_constant 209 = .ok (.iconst 0, 1) := by decide +kernel
theorem d_M_constant_210 : decode b_M_constant 210 = .ok (.aload_n 0, 1) := by decide +kernel
theorem d_M_constant_211 : decode b_M_constant 211 = .ok (.iconst 0, 1) := by decide +kernel
theorem d_M_constant_212 : decode b_M_constant 212 = .ok (.ldc 143, 2) := by decide +kernel
theorem d_M_constant_214 : decode b_M_constant 214 = .ok (.iload_n 1, 1) := by decide +kernel
theorem d_M_constant_215 : decode b_M_constant 215 = .ok (.imul, 1) := by decide +kernel
theorem d_M_constant_216 : decode b_M_constant 216 = .ok (.iload_n 3, 1) := by decide +kernel
theorem d_M_constant_217 : decode b_M_constant 217 = .ok (.i2l, 1) := by decide +kernel
theorem d_M_constant_218 : decode b_M_constant 218 = .ok (.ldc2_w 144, 3) := by decide +kernel
theorem d_M_constant_221 : decode b_M_constant 221 = .ok (.lmul, 1) := by decide +kernel
theorem d_M_constant_222 : decode b_M_constant 222 = .ok (.iload 4, 2) := by decide +kernel
theorem d_M_constant_224 : decode b_M_constant 224 = .ok (.i2l, 1) := by decide +kernel
theorem d_M_constant_225 : decode b_M_constant 225 = .ok (.ldiv, 1) := by decide +kernel
theorem d_M_constant_226 : decode b_M_constant 226 = .ok (.l2i, 1) := by decide +kernel
theorem d_M_constant_227 : decode b_M_constant 227 = .ok (.iadd, 1) := by decide +kernel
theorem d_M_constant_228 : decode b_M_constant 228 = .ok (.iconst 0, 1) := by decide +kernel
theorem d_M_constant_229 : decode b_M_constant 229 = .ok (.invokevirtual 92, 3) := by decide +kernel
theorem d_M_constant_232 : decode b_M_constant 232 = .ok (.iastore, 1) := by decide +kernel
theorem d_M_constant_233 : decode b_M_constant 233 = .ok (.aload_n 0, 1) := by decide +kernel
theorem d_M_constant_234 : decode b_M_constant 234 = .ok (.iconst 1, 1) := by decide +kernel
theorem d_M_constant_235 : decode b_M_constant 235 = .ok (.invokevirtual 96, 3) := by decide +kernel
theorem d_M_constant_238 : decode b_M_constant 238 = .ok (.return_, 1) := by decide +kernel
