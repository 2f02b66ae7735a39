theorem d_M_letter_0 : decode b_M_letter 0 = .ok (.aload_n 0, 1) := by decide +kernel
theorem d_M_letter_1 : decode b_M_letter 1 = .ok (.aload_n 0, 1) := by decide +kernel
theorem d_M_letter_2 : decode b_M_letter 2 = .ok (.getfield 133, 3) := by decide +kernel
theorem d_M_letter_5 : decode b_M_letter 5 = .ok (.invokevirtual 136, 3) := by decide +kernel
theorem d_M_letter_8 : decode b_M_letter 8 = .ok (.istore_n 1, 1) := by decide +kernel
theorem d_M_letter_9 : decode b_M_letter 9 = .ok (.aload_n 0, 1) := by decide +kernel
theorem d_M_letter_10 : decode b_M_letter 10 = .ok (.dup, 1) := by decide +kernel
theorem d_M_letter_11 : decode b_M_letter 11 = .ok (.getfield 133, 3) := by decide +kernel
theorem d_M_letter_14 : decode b_M_letter 14 = .ok (.iconst 1, 1) := by decide +kernel
theorem d_M_letter_15 : decode b_M_letter 15 = .ok (.iadd, 1) := by decide +kernel
theorem d_M_letter_16 : decode b_M_letter 16 = .ok (.putfield 133, 3) := by decide +kernel
theorem d_M_letter_19 : decode b_M_letter 19 = .ok (.iload_n 1, 1) := by decide +kernel
theorem d_M_letter_20 : decode b_M_letter 20 = .ok (.bipush 120, 2) := by decide +kernel
theorem d_M_letter_22 : decode b_M_letter 22 = .ok (.if_icmp .eq 15, 3) := by decide +kernel
theorem d_M_letter_25 : decode b_M_letter 25 = .ok (.iload_n 1, 1) := by decide +kernel
theorem d_M_letter_26 : decode b_M_letter 26 = .ok (.bipush 121, 2) := by decide +kernel
theorem d_M_letter_28 : decode b_M_letter 28 = .ok (.if_icmp .eq 9, 3) := by decide +kernel
theorem d_M_letter_31 : decode b_M_letter 31 = .ok (.iload_n 1, 1) := by decide +kernel
theorem d_M_letter_32 : decode b_M_letter 32 = .ok (.bipush 116, 2) := by decide +kernel
theorem d_M_letter_34 : decode b_M_letter 34 = .ok (.if_icmp .ne 44, 3) := by decide +kernel
theorem d_M_letter_37 : decode b_M_letter 37 = .ok (.aload_n 0, 1) := by decide +kernel
theorem d_M_letter_38 : decode b_M_letter 38 = .ok (.getfield 55, 3) := by decide +kernel
theorem d_M_letter_41 : decode b_M_letter 41 = .ok (.iconst 0, 1) := by decide +kernel
theorem d_M_letter_42 : decode b_M_letter 42 = .ok (.aload_n 0, 1) := by decide +kernel
theorem d_M_letter_43 : decode b_M_letter 43 = .ok (.iconst 1, 1) := by decide +kernel
theorem d_M_letter_44 : decode b_M_letter 44 = .ok (.iload_n 1, 1) := by decide +kernel
theorem d_M_letter_45 : decode b_M_letter 45 = .ok (.bipush 120, 2) := by decide +kernel
theorem d_M_letter_47 : decode b_M_letter 47 = .ok (.if_icmp .ne 7, 3) := by decide +kernel
theorem d_M_letter_50 : decode b_M_letter 50 = .ok (.iconst 0, 1) := by decide +kernel
theorem d_M_letter_51 : decode b_M_letter 51 = .ok (.goto 14, 3) := by decide +kernel
theorem d_M_letter_54 : decode b_M_letter 54 = .ok (.iload_n 1, 1) := by decide +kernel
theorem d_M_letter_55 : decode b_M_letter 55 = .ok (.bipush 121, 2) := by decide +kernel
theorem d_M_letter_57 : decode b_M_letter 57 = .ok (.if_icmp .ne 7, 3) := by decide +kernel
theorem d_M_letter_60 : decode b_M_letter 60 = .ok (.iconst 1, 1) := by decide +kernel
theorem d_M_letter_61 : decode b_M_letter 61 = .ok (.goto 4, 3) := by decide +kernel
theorem d_M_letter_64 : decode b_M_letter 64 = .ok (.iconst 2, 1) := by decide +kernel
theorem d_M_letter_65 : decode b_M_letter 65 = .ok (.iconst 0, 1) := by decide +kernel
theorem d_M_letter_66 : decode b_M_letter 66 = .ok (.invokevirtual 92, 3) := by decide +kernel
theorem d_M_letter_69 : decode b_M_letter 69 = .ok (.iastore, 1) := by decide +kernel
theorem d_M_letter_70 : decode b_M_letter 70 = .ok (.aload_n 0, 1) := by decide +kernel
theorem d_M_letter_71 : decode b_M_letter 71 = .ok (.iconst 1, 1) := by decide +kernel
theorem d_M_letter_72 : decode b_M_letter 72 = .ok (.invokevirtual 96, 3) := by decide +kernel
theorem d_M_letter_75 : decode b_M_letter 75 = .ok (.goto 116, 3) := by decide +kernel
theorem d_M_letter_78 : decode b_M_letter 78 = .ok (.iload_n 1, 1) := by decide +kernel
theorem d_M_letter_79 : decode b_M_letter 79 = .ok (.bipush 99, 2) := by decide +kernel
theorem d_M_letter_81 : decode b_M_letter 81 = .ok (.if_icmp .ne 39, 3) := by decide +kernel
theorem d_M_letter_84 : decode b_M_letter 84 = .ok (.iconst 0, 1) := by decide +kernel
theorem d_M_letter_85 : decode b_M_letter 85 = .ok (.istore_n 2, 1) := by decide +kernel
theorem d_M_letter_86 : decode b_M_letter 86 = .ok (.iload_n 2, 1) := by decide +kernel
theorem d_M_letter_87 : decode b_M_letter 87 = .ok (.iconst 3, 1) := by decide +kernel
theorem d_M_letter_88 : decode b_M_letter 88 = .ok (.if_icmp .ge 24, 3) := by decide +kernel
theorem d_M_letter_91 : decode b_M_letter 91 = .ok (.aload_n 0, 1) := by decide +kernel
theorem d_M_letter_92 : decode b_M_letter 92 = .ok (.getfield 55, 3) := by decide +kernel
theorem d_M_letter_95 : decode b_M_letter 95 = .ok (.iload_n 2, 1) := by decide +kernel
theorem d_M_letter_96 : decode b_M_letter 96 = .ok (.aload_n 0, 1) := by decide +kernel
theorem d_M_letter_97 : decode b_M_letter 97 = .ok (.iconst 1, 1) := by decide +kernel
theorem d_M_letter_98 : decode b_M_letter 98 = .ok (.iconst 3, 1) := by decide +kernel
theorem d_M_letter_99 : decode b_M_letter 99 = .ok (.iload_n 2, 1) := by decide +kernel
theorem d_M_letter_100 : decode b_M_letter 100 = .ok (.iadd, 1) := by decide +kernel
theorem d_M_letter_101 : decode b_M_letter 101 = .ok (.iconst 0, 1) := by decide +kernel
theorem d_M_letter_102 : decode b_M_letter 102 = .ok (.invokevirtual 92, 3) := by decide +kernel
theorem d_M_letter_105 : decode b_M_letter 105 = .ok (.iastore, 1) := by decide +kernel
theorem d_M_letter_106 : decode b_M_letter 106 = .ok (.iinc 2 1, 3) := by decide +kernel
theorem d_M_letter_109 : decode b_M_letter 109 = .ok (.goto (-23), 3) := by decide +kernel
theorem d_M_letter_112 : decode b_M_letter 112 = .ok (.aload_n 0, 1) := by decide +kernel
theorem d_M_letter_113 : decode b_M_letter 113 = .ok (.iconst 3, 1) := by decide +kernel
theorem d_M_letter_114 : decode b_M_letter 114 = .ok (.invokevirtual 96, 3) := by decide +kernel
theorem d_M_letter_117 : decode b_M_letter 117 = .ok (.goto 74, 3) := by decide +kernel
theorem d_M_letter_120 : decode b_M_letter 120 = .ok (.iload_n 1, 1) := by decide +kernel
theorem d_M_letter_121 : decode b_M_letter 121 = .ok (.bipush 122, 2) := by decide +kernel
theorem d_M_letter_123 : decode b_M_letter 123 = .ok (.if_icmp .eq 15, 3) := by decide +kernel
theorem d_M_letter_126 : decode b_M_letter 126 = .ok (.aload_n 0, 1) := by decide +kernel
theorem d_M_letter_127 : decode b_M_letter 127 = .ok (.getfield 37, 3) := by decide +kernel
theorem d_M_letter_130 : decode b_M_letter 130 = .ok (.iload_n 1, 1) := by decide +kernel
theorem d_M_letter_131 : decode b_M_letter 131 = .ok (.bipush 97, 2) := by decide +kernel
theorem d_M_letter_133 : decode b_M_letter 133 = .ok (.isub, 1) := by decide +kernel
theorem d_M_letter_134 : decode b_M_letter 134 = .ok (.iaload, 1) := by decide +kernel
theorem d_M_letter_135 : decode b_M_letter 135 = .ok (.ifCond .ne 11, 3) := by decide +kernel
theorem d_M_letter_138 : decode b_M_letter 138 = .ok (.aload_n 0, 1) := by decide +kernel
theorem d_M_letter_139 : decode b_M_letter 139 = .ok (.iconst 1, 1) := by decide +kernel
theorem d_M_letter_140 : decode b_M_letter 140 = .ok (.putfield 77, 3) := by decide +kernel
theorem d_M_letter_143 : decode b_M_letter 143 = .ok (.goto 48, 3) := by decide +kernel
theorem d_M_letter_146 : decode b_M_letter 146 = .ok (.iconst 0, 1) := by decide +kernel
theorem d_M_letter_147 : decode b_M_letter 147 = .ok (.istore_n 2, 1) := by decide +kernel
theorem d_M_letter_148 : decode b_M_letter 148 = .ok (.iload_n 2, 1) := by decide +kernel
theorem d_M_letter_149 : decode b_M_letter 149 = .ok (.iconst 4, 1) := by decide +kernel
theorem d_M_letter_150 : decode b_M_letter 150 = .ok (.if_icmp .ge 28, 3) := by decide +kernel
theorem d_M_letter_153 : decode b_M_letter 153 = .ok (.aload_n 0, 1) := by decide +kernel
theorem d_M_letter_154 : decode b_M_letter 154 = .ok (.getfield 55, 3) := by decide +kernel
theorem d_M_letter_157 : decode b_M_letter 157 = .ok (.iload_n 2, 1) := by decide +kernel
theorem d_M_letter_158 : decode b_M_letter 158 = .ok (.aload_n 0, 1) := by decide +kernel
theorem d_M_letter_159 : decode b_M_letter 159 = .ok (.getfield 40, 3) := by decide +kernel
theorem d_M_letter_162 : decode b_M_letter 162 = .ok (.iconst 4, 1) := by decide +kernel
theorem d_M_letter_163 : decode b_M_letter 163 = .ok (.iload_n 1, 1) := by decide +kernel
theorem d_M_letter_164 : decode b_M_letter 164 = .ok (.bipush 97, 2) := by decide +kernel
theorem d_M_letter_166 : decode b_M_letter 166 = .ok (.isub, 1) := by decide +kernel
theorem d_M_letter_167 : decode b_M_letter 167 = .ok (.imul, 1) := by decide +kernel
theorem d_M_letter_168 : decode b_M_letter 168 = .ok (.iload_n 2, 1) := by decide +kernel
theorem d_M_letter_169 : decode b_M_letter 169 = .ok (.iadd, 1) := by decide +kernel
theorem d_M_letter_170 : decode b_M_letter 170 = .ok (.iaload, 1) := by decide +kernel
theorem d_M_letter_171 : decode b_M_letter 171 = .ok (.iastore, 1) := by decide +kernel
theorem d_M_letter_172 : decode b_M_letter 172 = .ok (.iinc 2 1, 3) := by decide +kernel
theorem d_M_letter_175 : decode b_M_letter 175 = .ok (.goto (-27), 3) := by decide +kernel
theorem d_M_letter_178 : decode b_M_letter 178 = .ok (.aload_n 0, 1) := by decide +kernel
theorem d_M_letter_179 : decode b_M_letter 179 = .ok (.aload_n 0, 1) := by decide +kernel
theorem d_M_letter_180 : decode b_M_letter 180 = .ok (.getfield 37, 3) := by decide +kernel
theorem d_M_letter_183 : decode b_M_letter 183 = .ok (.iload_n 1, 1) := by decide +kernel
theorem d_M_letter_184 : decode b_M_letter 184 = .ok (.bipush 97, 2) := by decide +kernel
theorem d_M_letter_186 : decode b_M_letter 186 = .ok (.isub, 1) := by decide +kernel
theorem d_M_letter_187 : decode b_M_letter 187 = .ok (.iaload, 1) := by decide +kernel
theorem d_M_letter_188 : decode b_M_letter 188 = .ok (.invokevirtual 96, 3) := by decide +kernel
theorem d_M_letter_191 : decode b_M_letter 191 = .ok (.return_, 1) := by decide +kernel
theorem d_M_finish_0 : decode b_M_finish 0 = .ok (.aload_n 0, 1) := by decide +kernel
theorem d_M_finish_1 : decode b_M_finish 1 = .ok (.getfield 77, 3) := by decide +kernel
theorem d_M_finish_4 : decode b_M_finish 4 = .ok (.ifCond .ne 205, 3) := by decide +kernel
theorem d_M_finish_7 : decode b_M_finish 7 = .ok (.aload_n 0, 1) := by decide +kernel
theorem d_M_finish_8 : decode b_M_finish 8 = .ok (.aload_n 0, 1) := by decide +kernel
theorem d_M_finish_9 : decode b_M_finish 9 = .ok (.getfield 133, 3) := by decide +kernel
theorem d_M_finish_12 : decode b_M_finish 12 = .ok (.invokevirtual 136, 3) := by decide +kernel
theorem d_M_finish_15 : decode b_M_finish 15 = .ok (.bipush 46, 2) := by decide +kernel
theorem d_M_finish_17 : decode b_M_finish 17 = .ok (.if_icmp .ne 192, 3) := by decide +kernel
theorem d_M_finish_20 : decode b_M_finish 20 = .ok (.aload_n 0, 1) := by decide +kernel
theorem d_M_finish_21 : decode b_M_finish 21 = .ok (.dup, 1) := by decide +kernel
theorem d_M_finish_22 : decode b_M_finish 22 = .ok (.getfield 133, 3) := by decide +kernel
theorem d_M_finish_25 : decode b_M_finish 25 = .ok (.iconst 1, 1) := by decide +kernel
theorem d_M_finish_26 : decode b_M_finish 26 = .ok (.iadd, 1) := by decide +kernel
theorem d_M_finish_27 : decode b_M_finish 27 = .ok (.putfield 133, 3) := by decide +kernel
theorem d_M_finish_30 : decode b_M_finish 30 = .ok (.aload_n 0, 1) := by decide +kernel
theorem d_M_finish_31 : decode b_M_finish 31 = .ok (.getfield 81, 3) := by decide +kernel
theorem d_M_finish_34 : decode b_M_finish 34 = .ok (.iconst 1, 1) := by decide +kernel
theorem d_M_finish_35 : decode b_M_finish 35 = .ok (.isub, 1) := by decide +kernel
theorem d_M_finish_36 : decode b_M_finish 36 = .ok (.istore_n 2, 1) := by decide +kernel
theorem d_M_finish_37 : decode b_M_finish 37 = .ok (.iconst 0, 1) := by decide +kernel
theorem d_M_finish_38 : decode b_M_finish 38 = .ok (.istore_n 3, 1) := by decide +kernel
theorem d_M_finish_39 : decode b_M_finish 39 = .ok (.aload_n 0, 1) := by decide +kernel
theorem d_M_finish_40 : decode b_M_finish 40 = .ok (.iload_n 1, 1) := by decide +kernel
theorem d_M_finish_41 : decode b_M_finish 41 = .ok (.ifCond .ne 13, 3) := by decide +kernel
theorem d_M_finish_44 : decode b_M_finish 44 = .ok (.aload_n 0, 1) := by decide +kernel
theorem d_M_finish_45 : decode b_M_finish 45 = .ok (.getfield 43, 3) := by decide +kernel
theorem d_M_finish_48 : decode b_M_finish 48 = .ok (.iload_n 2, 1) := by decide +kernel
theorem d_M_finish_49 : decode b_M_finish 49 = .ok (.iaload, 1) := by decide +kernel
theorem d_M_finish_50 : decode b_M_finish 50 = .ok (.iconst 4, 1) := by decide +kernel
theorem d_M_finish_51 : decode b_M_finish 51 = .ok (.if_icmp .ne 7, 3) := by decide +kernel
theorem d_M_finish_54 : decode b_M_finish 54 = .ok (.iconst 1, 1) := by decide +kernel
theorem d_M_finish_55 : decode b_M_finish 55 = .ok (.goto 4, 3) := by decide +kernel
theorem d_M_finish_58 : decode b_M_finish 58 = .ok (.iconst 0, 1) := by decide +kernel
theorem d_M_finish_59 : decode b_M_finish 59 = .ok (.putfield 77, 3) := by decide +kernel
theorem d_M_finish_62 : decode b_M_finish 62 = .ok (.aload_n 0, 1) := by decide +kernel
theorem d_M_finish_63 : decode b_M_finish 63 = .ok (.getfield 77, 3) := by decide +kernel
theorem d_M_finish_66 : decode b_M_finish 66 = .ok (.ifCond .ne 106, 3) := by decide +kernel
theorem d_M_finish_69 : decode b_M_finish 69 = .ok (.iload_n 3, 1) := by decide +kernel
theorem d_M_finish_70 : decode b_M_finish 70 = .ok (.iconst 3, 1) := by decide +kernel
theorem d_M_finish_71 : decode b_M_finish 71 = .ok (.if_icmp .ge 101, 3) := by decide +kernel
theorem d_M_finish_74 : decode b_M_finish 74 = .ok (.aload_n 0, 1) := by decide +kernel
theorem d_M_finish_75 : decode b_M_finish 75 = .ok (.aload_n 0, 1) := by decide +kernel
theorem d_M_finish_76 : decode b_M_finish 76 = .ok (.getfield 133, 3) := by decide +kernel
theorem d_M_finish_79 : decode b_M_finish 79 = .ok (.invokevirtual 136, 3) := by decide +kernel
theorem d_M_finish_82 : decode b_M_finish 82 = .ok (.bipush 120, 2) := by decide +kernel
theorem d_M_finish_84 : decode b_M_finish 84 = .ok (.if_icmp .lt 88, 3) := by decide +kernel
theorem d_M_finish_87 : decode b_M_finish 87 = .ok (.aload_n 0, 1) := by decide +kernel
theorem d_M_finish_88 : decode b_M_finish 88 = .ok (.aload_n 0, 1) := by decide +kernel
theorem d_M_finish_89 : decode b_M_finish 89 = .ok (.getfield 133, 3) := by decide +kernel
theorem d_M_finish_92 : decode b_M_finish 92 = .ok (.invokevirtual 136, 3) := by decide +kernel
theorem d_M_finish_95 : decode b_M_finish 95 = .ok (.bipush 122, 2) := by decide +kernel
theorem d_M_finish_97 : decode b_M_finish 97 = .ok (.if_icmp .gt 75, 3) := by decide +kernel
theorem d_M_finish_100 : decode b_M_finish 100 = .ok (.aload_n 0, 1) := by decide +kernel
theorem d_M_finish_101 : decode b_M_finish 101 = .ok (.aload_n 0, 1) := by decide +kernel
theorem d_M_finish_102 : decode b_M_finish 102 = .ok (.getfield 133, 3) := by decide +kernel
theorem d_M_finish_105 : decode b_M_finish 105 = .ok (.invokevirtual 136, 3) := by decide +kernel
theorem d_M_finish_108 : decode b_M_finish 108 = .ok (.bipush 120, 2) := by decide +kernel
theorem d_M_finish_110 : decode b_M_finish 110 = .ok (.isub, 1) := by decide +kernel
theorem d_M_finish_111 : decode b_M_finish 111 = .ok (.istore 4, 2) := by decide +kernel
theorem d_M_finish_113 : decode b_M_finish 113 = .ok (.aload_n 0, 1) := by decide +kernel
theorem d_M_finish_114 : decode b_M_finish 114 = .ok (.iload 4, 2) := by decide +kernel
theorem d_M_finish_116 : decode b_M_finish 116 = .ok (.aload_n 0, 1) := by decide +kernel
theorem d_M_finish_117 : decode b_M_finish 117 = .ok (.getfield 43, 3) := by decide +kernel
theorem d_M_finish_120 : decode b_M_finish 120 = .ok (.iload_n 2, 1) := by decide +kernel
theorem d_M_finish_121 : decode b_M_finish 121 = .ok (.iaload, 1) := by decide +kernel
theorem d_M_finish_122 : decode b_M_finish 122 = .ok (.if_icmp .lt 7, 3) := by decide +kernel
theorem d_M_finish_125 : decode b_M_finish 125 = .ok (.iconst 1, 1) := by decide +kernel
theorem d_M_finish_126 : decode b_M_finish 126 = .ok (.goto 4, 3) := by decide +kernel
theorem d_M_finish_129 : decode b_M_finish 129 = .ok (.iconst 0, 1) := by decide +kernel
theorem d_M_finish_130 : decode b_M_finish 130 = .ok (.putfield 77, 3) := by decide +kernel
theorem d_M_finish_133 : decode b_M_finish 133 = .ok (.aload_n 0, 1) := by decide +kernel
theorem d_M_finish_134 : decode b_M_finish 134 = .ok (.getfield 55, 3) := by decide +kernel
theorem d_M_finish_137 : decode b_M_finish 137 = .ok (.iload_n 3, 1) := by decide +kernel
theorem d_M_finish_138 : decode b_M_finish 138 = .ok (.aload_n 0, 1) := by decide +kernel
theorem d_M_finish_139 : decode b_M_finish 139 = .ok (.iload_n 2, 1) := by decide +kernel
theorem d_M_finish_140 : decode b_M_finish 140 = .ok (.iload 4, 2) := by decide +kernel
theorem d_M_finish_142 : decode b_M_finish 142 = .ok (.iconst 3, 1) := by decide +kernel
theorem d_M_finish_143 : decode b_M_finish 143 = .ok (.if_icmp .ge 8, 3) := by decide +kernel
theorem d_M_finish_146 : decode b_M_finish 146 = .ok (.iload 4, 2) := by decide +kernel
theorem d_M_finish_148 : decode b_M_finish 148 = .ok (.goto 4, 3) := by decide +kernel
theorem d_M_finish_151 : decode b_M_finish 151 = .ok (.iconst 0, 1) := by decide +kernel
theorem d_M_finish_152 : decode b_M_finish 152 = .ok (.invokevirtual 88, 3) := by decide +kernel
theorem d_M_finish_155 : decode b_M_finish 155 = .ok (.iastore, 1) := by decide +kernel
theorem d_M_finish_156 : decode b_M_finish 156 = .ok (.iinc 3 1, 3) := by decide +kernel
theorem d_M_finish_159 : decode b_M_finish 159 = .ok (.aload_n 0, 1) := by decide +kernel
theorem d_M_finish_160 : decode b_M_finish 160 = .ok (.dup, 1) := by decide +kernel
theorem d_M_finish_161 : decode b_M_finish 161 = .ok (.getfield 133, 3) := by decide +kernel
theorem d_M_finish_164 : decode b_M_finish 164 = .ok (.iconst 1, 1) := by decide +kernel
theorem d_M_finish_165 : decode b_M_finish 165 = .ok (.iadd, 1) := by decide +kernel
theorem d_M_finish_166 : decode b_M_finish 166 = .ok (.putfield 133, 3) := by decide +kernel
theorem d_M_finish_169 : decode b_M_finish 169 = .ok (.goto (-107), 3) := by decide +kernel
theorem d_M_finish_172 : decode b_M_finish 172 = .ok (.aload_n 0, 1) := by decide +kernel
theorem d_M_finish_173 : decode b_M_finish 173 = .ok (.aload_n 0, 1) := by decide +kernel
theorem d_M_finish_174 : decode b_M_finish 174 = .ok (.getfield 77, 3) := by decide +kernel
theorem d_M_finish_177 : decode b_M_finish 177 = .ok (.ifCond .ne 7, 3) := by decide +kernel
theorem d_M_finish_180 : decode b_M_finish 180 = .ok (.iload_n 3, 1) := by decide +kernel
theorem d_M_finish_181 : decode b_M_finish 181 = .ok (.ifCond .ne 7, 3) := by decide +kernel
theorem d_M_finish_184 : decode b_M_finish 184 = .ok (.iconst 1, 1) := by decide +kernel
theorem d_M_finish_185 : decode b_M_finish 185 = .ok (.goto 4, 3) := by decide +kernel
theorem d_M_finish_188 : decode b_M_finish 188 = .ok (.iconst 0, 1) := by decide +kernel
theorem d_M_finish_189 : decode b_M_finish 189 = .ok (.putfield 77, 3) := by decide +kernel
theorem d_M_finish_192 : decode b_M_finish 192 = .ok (.aload_n 0, 1) := by decide +kernel
theorem d_M_finish_193 : decode b_M_finish 193 = .ok (.getfield 77, 3) := by decide +kernel
theorem d_M_finish_196 : decode b_M_finish 196 = .ok (.ifCond .ne 13, 3) := by decide +kernel
theorem d_M_finish_199 : decode b_M_finish 199 = .ok (.aload_n 0, 1) := by decide +kernel
theorem d_M_finish_200 : decode b_M_finish 200 = .ok (.iload_n 2, 1) := by decide +kernel
theorem d_M_finish_201 : decode b_M_finish 201 = .ok (.putfield 81, 3) := by decide +kernel
theorem d_M_finish_204 : decode b_M_finish 204 = .ok (.aload_n 0, 1) := by decide +kernel
theorem d_M_finish_205 : decode b_M_finish 205 = .ok (.iload_n 3, 1) := by decide +kernel
theorem d_M_finish_206 : decode b_M_finish 206 = .ok (.invokevirtual 96, 3) := by decide +kernel
theorem d_M_finish_209 : decode b_M_finish 209 = .ok (.aload_n 0, 1) := by decide +kernel
theorem d_M_finish_210 : decode b_M_finish 210 = .ok (.getfield 77, 3) := by decide +kernel
theorem d_M_finish_213 : decode b_M_finish 213 = .ok (.ifCond .ne 31, 3) := by decide +kernel
theorem d_M_finish_216 : decode b_M_finish 216 = .ok (.aload_n 0, 1) := by decide +kernel
theorem d_M_finish_217 : decode b_M_finish 217 = .ok (.invokevirtual 109, 3) := by decide +kernel
theorem d_M_finish_220 : decode b_M_finish 220 = .ok (.bipush 126, 2) := by decide +kernel
theorem d_M_finish_222 : decode b_M_finish 222 = .ok (.if_icmp .ne 22, 3) := by decide +kernel
theorem d_M_finish_225 : decode b_M_finish 225 = .ok (.aload_n 0, 1) := by decide +kernel
theorem d_M_finish_226 : decode b_M_finish 226 = .ok (.dup, 1) := by decide +kernel
theorem d_M_finish_227 : decode b_M_finish 227 = .ok (.getfield 106, 3) := by decide +kernel
theorem d_M_finish_230 : decode b_M_finish 230 = .ok (.iconst 1, 1) := by decide +kernel
theorem d_M_finish_231 : decode b_M_finish 231 = .ok (.isub, 1) := by decide +kernel
theorem d_M_finish_232 : decode b_M_finish 232 = .ok (.putfield 106, 3) := by decide +kernel
theorem d_M_finish_235 : decode b_M_finish 235 = .ok (.aload_n 0, 1) := by decide +kernel
theorem d_M_finish_236 : decode b_M_finish 236 = .ok (.bipush 9, 2) := by decide +kernel
theorem d_M_finish_238 : decode b_M_finish 238 = .ok (.invokevirtual 120, 3) := by decide +kernel
theorem d_M_finish_241 : decode b_M_finish 241 = .ok (.goto (-32), 3) := by decide +kernel
theorem d_M_finish_244 : decode b_M_finish 244 = .ok (.return_, 1) := by decide +kernel
theorem d_M_hold_0 : decode b_M_hold 0 = .ok (.aload_n 0, 1) := by decide +kernel
theorem d_M_hold_1 : decode b_M_hold 1 = .ok (.getfield 49, 3) := by decide +kernel
theorem d_M_hold_4 : decode b_M_hold 4 = .ok (.aload_n 0, 1) := by decide +kernel
theorem d_M_hold_5 : decode b_M_hold 5 = .ok (.getfield 106, 3) := by decide +kernel
theorem d_M_hold_8 : decode b_M_hold 8 = .ok (.iload_n 1, 1) := by decide +kernel
theorem d_M_hold_9 : decode b_M_hold 9 = .ok (.iastore, 1) := by decide +kernel
theorem d_M_hold_10 : decode b_M_hold 10 = .ok (.aload_n 0, 1) := by decide +kernel
theorem d_M_hold_11 : decode b_M_hold 11 = .ok (.getfield 52, 3) := by decide +kernel
theorem d_M_hold_14 : decode b_M_hold 14 = .ok (.aload_n 0, 1) := by decide +kernel
theorem d_M_hold_15 : decode b_M_hold 15 = .ok (.getfield 106, 3) := by decide +kernel
theorem d_M_hold_18 : decode b_M_hold 18 = .ok (.iconst 1, 1) := by decide +kernel
theorem d_M_hold_19 : decode b_M_hold 19 = .ok (.iastore, 1) := by decide +kernel
theorem d_M_hold_20 : decode b_M_hold 20 = .ok (.aload_n 0, 1) := by decide +kernel
theorem d_M_hold_21 : decode b_M_hold 21 = .ok (.dup, 1) := by decide +kernel
theorem d_M_hold_22 : decode b_M_hold 22 = .ok (.getfield 106, 3) := by decide +kernel
theorem d_M_hold_25 : decode b_M_hold 25 = .ok (.iconst 1, 1) := by decide +kernel
theorem d_M_hold_26 : decode b_M_hold 26 = .ok (.iadd, 1) := by decide +kernel
theorem d_M_hold_27 : decode b_M_hold 27 = .ok (.putfield 106, 3) := by decide +kernel
theorem d_M_hold_30 : decode b_M_hold 30 = .ok (.return_, 1) := by decide +kernel
theorem d_M_bracket_0 : decode b_M_bracket 0 = .ok (.aload_n 0, 1) := by decide +kernel
theorem d_M_bracket_1 : decode b_M_bracket 1 = .ok (.dup, 1) := by decide +kernel
theorem d_M_bracket_2 : decode b_M_bracket 2 = .ok (.getfield 146, 3) := by decide +kernel
theorem d_M_bracket_5 : decode b_M_bracket 5 = .ok (.iconst 1, 1) := by decide +kernel
theorem d_M_bracket_6 : decode b_M_bracket 6 = .ok (.iadd, 1) := by decide +kernel
theorem d_M_bracket_7 : decode b_M_bracket 7 = .ok (.putfield 146, 3) := by decide +kernel
theorem d_M_bracket_10 : decode b_M_bracket 10 = .ok (.aload_n 0, 1) := by decide +kernel
theorem d_M_bracket_11 : decode b_M_bracket 11 = .ok (.aload_n 0, 1) := by decide +kernel
theorem d_M_bracket_12 : decode b_M_bracket 12 = .ok (.getfield 77, 3) := by decide +kernel
theorem d_M_bracket_15 : decode b_M_bracket 15 = .ok (.ifCond .ne 11, 3) := by decide +kernel
theorem d_M_bracket_18 : decode b_M_bracket 18 = .ok (.aload_n 0, 1) := by decide +kernel
theorem d_M_bracket_19 : decode b_M_bracket 19 = .ok (.getfield 146, 3) := by decide +kernel
theorem d_M_bracket_22 : decode b_M_bracket 22 = .ok (.iconst 5, 1) := by decide +kernel
theorem d_M_bracket_23 : decode b_M_bracket 23 = .ok (.if_icmp .le 7, 3) := by decide +kernel
theorem d_M_bracket_26 : decode b_M_bracket 26 = .ok (.iconst 1, 1) := by decide +kernel
theorem d_M_bracket_27 : decode b_M_bracket 27 = .ok (.goto 4, 3) := by decide +kernel
theorem d_M_bracket_30 : decode b_M_bracket 30 = .ok (.iconst 0, 1) := by decide +kernel
theorem d_M_bracket_31 : decode b_M_bracket 31 = .ok (.putfield 77, 3) := by decide +kernel
theorem d_M_bracket_34 : decode b_M_bracket 34 = .ok (.aload_n 0, 1) := by decide +kernel
theorem d_M_bracket_35 : decode b_M_bracket 35 = .ok (.iload_n 1, 1) := by decide +kernel
theorem d_M_bracket_36 : decode b_M_bracket 36 = .ok (.invokevirtual 149, 3) := by decide +kernel
theorem d_M_bracket_39 : decode b_M_bracket 39 = .ok (.return_, 1) := by decide +kernel
theorem d_M_operand_0 : decode b_M_operand 0 = .ok (.aload_n 0, 1) := by decide +kernel
theorem d_M_operand_1 : decode b_M_operand 1 = .ok (.aload_n 0, 1) := by decide +kernel
theorem d_M_operand_2 : decode b_M_operand 2 = .ok (.getfield 133, 3) := by decide +kernel
theorem d_M_operand_5 : decode b_M_operand 5 = .ok (.invokevirtual 136, 3) := by decide +kernel
theorem d_M_operand_8 : decode b_M_operand 8 = .ok (.istore_n 1, 1) := by decide +kernel
theorem d_M_operand_9 : decode b_M_operand 9 = .ok (.iload_n 1, 1) := by decide +kernel
theorem d_M_operand_10 : decode b_M_operand 10 = .ok (.bipush 45, 2) := by decide +kernel
theorem d_M_operand_12 : decode b_M_operand 12 = .ok (.if_icmp .ne 21, 3) := by decide +kernel
theorem d_M_operand_15 : decode b_M_operand 15 = .ok (.aload_n 0, 1) := by decide +kernel
theorem d_M_operand_16 : decode b_M_operand 16 = .ok (.dup, 1) := by decide +kernel
theorem d_M_operand_17 : decode b_M_operand 17 = .ok (.getfield 133, 3) := by decide +kernel
theorem d_M_operand_20 : decode b_M_operand 20 = .ok (.iconst 1, 1) := by decide +kernel
theorem d_M_operand_21 : decode b_M_operand 21 = .ok (.iadd, 1) := by decide +kernel
theorem d_M_operand_22 : decode b_M_operand 22 = .ok (.putfield 133, 3) := by decide +kernel
theorem d_M_operand_25 : decode b_M_operand 25 = .ok (.aload_n 0, 1) := by decide +kernel
theorem d_M_operand_26 : decode b_M_operand 26 = .ok (.bipush 126, 2) := by decide +kernel
theorem d_M_operand_28 : decode b_M_operand 28 = .ok (.invokevirtual 149, 3) := by decide +kernel
theorem d_M_operand_31 : decode b_M_operand 31 = .ok (.iconst 0, 1) := by decide +kernel
theorem d_M_operand_32 : decode b_M_operand 32 = .ok (.ireturn, 1) := by decide +kernel
theorem d_M_operand_33 : decode b_M_operand 33 = .ok (.iload_n 1, 1) := by decide +kernel
theorem d_M_operand_34 : decode b_M_operand 34 = .ok (.bipush 40, 2) := by decide +kernel
theorem d_M_operand_36 : decode b_M_operand 36 = .ok (.if_icmp .ne 21, 3) := by decide +kernel
theorem d_M_operand_39 : decode b_M_operand 39 = .ok (.aload_n 0, 1) := by decide +kernel
theorem d_M_operand_40 : decode b_M_operand 40 = .ok (.dup, 1) := by decide +kernel
theorem d_M_operand_41 : decode b_M_operand 41 = .ok (.getfield 133, 3) := by decide +kernel
theorem d_M_operand_44 : decode b_M_operand 44 = .ok (.iconst 1, 1) := by decide +kernel
theorem d_M_operand_45 : decode b_M_operand 45 = .ok (.iadd, 1) := by decide +kernel
theorem d_M_operand_46 : decode b_M_operand 46 = .ok (.putfield 133, 3) := by decide +kernel
theorem d_M_operand_49 : decode b_M_operand 49 = .ok (.aload_n 0, 1) := by decide +kernel
theorem d_M_operand_50 : decode b_M_operand 50 = .ok (.bipush 40, 2) := by decide +kernel
theorem d_M_operand_52 : decode b_M_operand 52 = .ok (.invokevirtual 152, 3) := by decide +kernel
theorem d_M_operand_55 : decode b_M_operand 55 = .ok (.iconst 0, 1) := by decide +kernel
theorem d_M_operand_56 : decode b_M_operand 56 = .ok (.ireturn, 1) := by decide +kernel
theorem d_M_operand_57 : decode b_M_operand 57 = .ok (.iload_n 1, 1) := by decide +kernel
theorem d_M_operand_58 : decode b_M_operand 58 = .ok (.invokestatic 155, 3) := by decide +kernel
theorem d_M_operand_61 : decode b_M_operand 61 = .ok (.ifCond .eq 35, 3) := by decide +kernel
theorem d_M_operand_64 : decode b_M_operand 64 = .ok (.aload_n 0, 1) := by decide +kernel
theorem d_M_operand_65 : decode b_M_operand 65 = .ok (.aload_n 0, 1) := by decide +kernel
theorem d_M_operand_66 : decode b_M_operand 66 = .ok (.getfield 133, 3) := by decide +kernel
theorem d_M_operand_69 : decode b_M_operand 69 = .ok (.iconst 1, 1) := by decide +kernel
theorem d_M_operand_70 : decode b_M_operand 70 = .ok (.iadd, 1) := by decide +kernel
theorem d_M_operand_71 : decode b_M_operand 71 = .ok (.invokevirtual 136, 3) := by decide +kernel
theorem d_M_operand_74 : decode b_M_operand 74 = .ok (.bipush 40, 2) := by decide +kernel
theorem d_M_operand_76 : decode b_M_operand 76 = .ok (.if_icmp .ne 20, 3) := by decide +kernel
theorem d_M_operand_79 : decode b_M_operand 79 = .ok (.aload_n 0, 1) := by decide +kernel
theorem d_M_operand_80 : decode b_M_operand 80 = .ok (.dup, 1) := by decide +kernel
theorem d_M_operand_81 : decode b_M_operand 81 = .ok (.getfield 133, 3) := by decide +kernel
theorem d_M_operand_84 : decode b_M_operand 84 = .ok (.iconst 2, 1) := by decide +kernel
theorem d_M_operand_85 : decode b_M_operand 85 = .ok (.iadd, 1) := by decide +kernel
theorem d_M_operand_86 : decode b_M_operand 86 = .ok (.putfield 133, 3) := by decide +kernel
theorem d_M_operand_89 : decode b_M_operand 89 = .ok (.aload_n 0, 1) := by decide +kernel
theorem d_M_operand_90 : decode b_M_operand 90 = .ok (.iload_n 1, 1) := by decide +kernel
theorem d_M_operand_91 : decode b_M_operand 91 = .ok (.invokevirtual 152, 3) := by decide +kernel
theorem d_M_operand_94 : decode b_M_operand 94 = .ok (.iconst 0, 1) := by decide +kernel
theorem d_M_operand_95 : decode b_M_operand 95 = .ok (.ireturn, 1) := by decide +kernel
theorem d_M_operand_96 : decode b_M_operand 96 = .ok (.iload_n 1, 1) := by decide +kernel
theorem d_M_operand_97 : decode b_M_operand 97 = .ok (.invokestatic 140, 3) := by decide +kernel
theorem d_M_operand_100 : decode b_M_operand 100 = .ok (.ifCond .eq 15, 3) := by decide +kernel
theorem d_M_operand_103 : decode b_M_operand 103 = .ok (.aload_n 0, 1) := by decide +kernel
theorem d_M_operand_104 : decode b_M_operand 104 = .ok (.invokevirtual 158, 3) := by decide +kernel
theorem d_M_operand_107 : decode b_M_operand 107 = .ok (.aload_n 0, 1) := by decide +kernel
theorem d_M_operand_108 : decode b_M_operand 108 = .ok (.iconst 1, 1) := by decide +kernel
theorem d_M_operand_109 : decode b_M_operand 109 = .ok (.invokevirtual 161, 3) := by decide +kernel
theorem d_M_operand_112 : decode b_M_operand 112 = .ok (.goto 27, 3) := by decide +kernel
theorem d_M_operand_115 : decode b_M_operand 115 = .ok (.iload_n 1, 1) := by decide +kernel
theorem d_M_operand_116 : decode b_M_operand 116 = .ok (.invokestatic 165, 3) := by decide +kernel
theorem d_M_operand_119 : decode b_M_operand 119 = .ok (.ifCond .eq 15, 3) := by decide +kernel
theorem d_M_operand_122 : decode b_M_operand 122 = .ok (.aload_n 0, 1) := by decide +kernel
theorem d_M_operand_123 : decode b_M_operand 123 = .ok (.invokevirtual 168, 3) := by decide +kernel
theorem d_M_operand_126 : decode b_M_operand 126 = .ok (.aload_n 0, 1) := by decide +kernel
theorem d_M_operand_127 : decode b_M_operand 127 = .ok (.iconst 0, 1) := by decide +kernel
theorem d_M_operand_128 : decode b_M_operand 128 = .ok (.invokevirtual 161, 3) := by decide +kernel
theorem d_M_operand_131 : decode b_M_operand 131 = .ok (.goto 8, 3) := by decide +kernel
theorem d_M_operand_134 : decode b_M_operand 134 = .ok (.aload_n 0, 1) := by decide +kernel
theorem d_M_operand_135 : decode b_M_operand 135 = .ok (.iconst 1, 1) := by decide +kernel
theorem d_M_operand_136 : decode b_M_operand 136 = .ok (.putfield 77, 3) := by decide +kernel
theorem d_M_operand_139 : decode b_M_operand 139 = .ok (.iconst 1, 1) := by decide +kernel
theorem d_M_operand_140 : decode b_M_operand 140 = .ok (.ireturn, 1) := by decide +kernel
theorem d_M_close_0 : decode b_M_close 0 = .ok (.aload_n 0, 1) := by decide +kernel
theorem d_M_close_1 : decode b_M_close 1 = .ok (.iconst 1, 1) := by decide +kernel
theorem d_M_close_2 : decode b_M_close 2 = .ok (.invokevirtual 171, 3) := by decide +kernel
theorem d_M_close_5 : decode b_M_close 5 = .ok (.aload_n 0, 1) := by decide +kernel
theorem d_M_close_6 : decode b_M_close 6 = .ok (.invokevirtual 109, 3) := by decide +kernel
theorem d_M_close_9 : decode b_M_close 9 = .ok (.istore_n 1, 1) := by decide +kernel
theorem d_M_close_10 : decode b_M_close 10 = .ok (.aload_n 0, 1) := by decide +kernel
theorem d_M_close_11 : decode b_M_close 11 = .ok (.getfield 77, 3) := by decide +kernel
theorem d_M_close_14 : decode b_M_close 14 = .ok (.ifCond .ne 16, 3) := by decide +kernel
theorem d_M_close_17 : decode b_M_close 17 = .ok (.iload_n 1, 1) := by decide +kernel
theorem d_M_close_18 : decode b_M_close 18 = .ok (.bipush 40, 2) := by decide +kernel
theorem d_M_close_20 : decode b_M_close 20 = .ok (.if_icmp .eq 16, 3) := by decide +kernel
theorem d_M_close_23 : decode b_M_close 23 = .ok (.iload_n 1, 1) := by decide +kernel
theorem d_M_close_24 : decode b_M_close 24 = .ok (.invokestatic 155, 3) := by decide +kernel
theorem d_M_close_27 : decode b_M_close 27 = .ok (.ifCond .ne 9, 3) := by decide +kernel
theorem d_M_close_30 : decode b_M_close 30 = .ok (.aload_n 0, 1) := by decide +kernel
theorem d_M_close_31 : decode b_M_close 31 = .ok (.iconst 1, 1) := by decide +kernel
theorem d_M_close_32 : decode b_M_close 32 = .ok (.putfield 77, 3) := by decide +kernel
theorem d_M_close_35 : decode b_M_close 35 = .ok (.return_, 1) := by decide +kernel
theorem d_M_close_36 : decode b_M_close 36 = .ok (.aload_n 0, 1) := by decide +kernel
theorem d_M_close_37 : decode b_M_close 37 = .ok (.dup, 1) := by decide +kernel
theorem d_M_close_38 : decode b_M_close 38 = .ok (.getfield 106, 3) := by decide +kernel
theorem d_M_close_41 : decode b_M_close 41 = .ok (.iconst 1, 1) := by decide +kernel
theorem d_M_close_42 : decode b_M_close 42 = .ok (.isub, 1) := by decide +kernel
theorem d_M_close_43 : decode b_M_close 43 = .ok (.putfield 106, 3) := by decide +kernel
theorem d_M_close_46 : decode b_M_close 46 = .ok (.aload_n 0, 1) := by decide +kernel
theorem d_M_close_47 : decode b_M_close 47 = .ok (.dup, 1) := by decide +kernel
theorem d_M_close_48 : decode b_M_close 48 = .ok (.getfield 146, 3) := by decide +kernel
theorem d_M_close_51 : decode b_M_close 51 = .ok (.iconst 1, 1) := by decide +kernel
theorem d_M_close_52 : decode b_M_close 52 = .ok (.isub, 1) := by decide +kernel
theorem d_M_close_53 : decode b_M_close 53 = .ok (.putfield 146, 3) := by decide +kernel
theorem d_M_close_56 : decode b_M_close 56 = .ok (.iload_n 1, 1) := by decide +kernel
theorem d_M_close_57 : decode b_M_close 57 = .ok (.bipush 40, 2) := by decide +kernel
theorem d_M_close_59 : decode b_M_close 59 = .ok (.if_icmp .eq 17, 3) := by decide +kernel
theorem d_M_close_62 : decode b_M_close 62 = .ok (.aload_n 0, 1) := by decide +kernel
theorem d_M_close_63 : decode b_M_close 63 = .ok (.iload_n 1, 1) := by decide +kernel
theorem d_M_close_64 : decode b_M_close 64 = .ok (.aload_n 0, 1) := by decide +kernel
theorem d_M_close_65 : decode b_M_close 65 = .ok (.getfield 52, 3) := by decide +kernel
theorem d_M_close_68 : decode b_M_close 68 = .ok (.aload_n 0, 1) := by decide +kernel
theorem d_M_close_69 : decode b_M_close 69 = .ok (.getfield 106, 3) := by decide +kernel
theorem d_M_close_72 : decode b_M_close 72 = .ok (.iaload, 1) := by decide +kernel
theorem d_M_close_73 : decode b_M_close 73 = .ok (.invokevirtual 174, 3) := by decide +kernel
theorem d_M_close_76 : decode b_M_close 76 = .ok (.aload_n 0, 1) := by decide +kernel
theorem d_M_close_77 : decode b_M_close 77 = .ok (.iconst 0, 1) := by decide +kernel
theorem d_M_close_78 : decode b_M_close 78 = .ok (.invokevirtual 161, 3) := by decide +kernel
theorem d_M_close_81 : decode b_M_close 81 = .ok (.return_, 1) := by decide +kernel
theorem d_M_operator_0 : decode b_M_operator 0 = .ok (.aload_n 0, 1) := by decide +kernel
theorem d_M_operator_1 : decode b_M_operator 1 = .ok (.aload_n 0, 1) := by decide +kernel
theorem d_M_operator_2 : decode b_M_operator 2 = .ok (.getfield 133, 3) := by decide +kernel
theorem d_M_operator_5 : decode b_M_operator 5 = .ok (.invokevirtual 136, 3) := by decide +kernel
theorem d_M_operator_8 : decode b_M_operator 8 = .ok (.istore_n 1, 1) := by decide +kernel
theorem d_M_operator_9 : decode b_M_operator 9 = .ok (.aload_n 0, 1) := by decide +kernel
theorem d_M_operator_10 : decode b_M_operator 10 = .ok (.dup, 1) := by decide +kernel
theorem d_M_operator_11 : decode b_M_operator 11 = .ok (.getfield 133, 3) := by decide +kernel
theorem d_M_operator_14 : decode b_M_operator 14 = .ok (.iconst 1, 1) := by decide +kernel
theorem d_M_operator_15 : decode b_M_operator 15 = .ok (.iadd, 1) := by decide +kernel
theorem d_M_operator_16 : decode b_M_operator 16 = .ok (.putfield 133, 3) := by decide +kernel
theorem d_M_operator_19 : decode b_M_operator 19 = .ok (.iload_n 1, 1) := by decide +kernel
theorem d_M_operator_20 : decode b_M_operator 20 = .ok (.bipush 41, 2) := by decide +kernel
theorem d_M_operator_22 : decode b_M_operator 22 = .ok (.if_icmp .ne 9, 3) := by decide +kernel
theorem d_M_operator_25 : decode b_M_operator 25 = .ok (.aload_n 0, 1) := by decide +kernel
theorem d_M_operator_26 : decode b_M_operator 26 = .ok (.invokevirtual 177, 3) := by decide +kernel
theorem d_M_operator_29 : decode b_M_operator 29 = .ok (.iconst 1, 1) := by decide +kernel
theorem d_M_operator_30 : decode b_M_operator 30 = .ok (.ireturn, 1) := by decide +kernel
theorem d_M_operator_31 : decode b_M_operator 31 = .ok (.iload_n 1, 1) := by decide +kernel
theorem d_M_operator_32 : decode b_M_operator 32 = .ok (.invokestatic 113, 3) := by decide +kernel
theorem d_M_operator_35 : decode b_M_operator 35 = .ok (.ifCond .eq 32, 3) := by decide +kernel
theorem d_M_operator_38 : decode b_M_operator 38 = .ok (.aload_n 0, 1) := by decide +kernel
theorem d_M_operator_39 : decode b_M_operator 39 = .ok (.iload_n 1, 1) := by decide +kernel
theorem d_M_operator_40 : decode b_M_operator 40 = .ok (.bipush 43, 2) := by decide +kernel
theorem d_M_operator_42 : decode b_M_operator 42 = .ok (.if_icmp .eq 9, 3) := by decide +kernel
theorem d_M_operator_45 : decode b_M_operator 45 = .ok (.iload_n 1, 1) := by decide +kernel
theorem d_M_operator_46 : decode b_M_operator 46 = .ok (.bipush 45, 2) := by decide +kernel
theorem d_M_operator_48 : decode b_M_operator 48 = .ok (.if_icmp .ne 7, 3) := by decide +kernel
theorem d_M_operator_51 : decode b_M_operator 51 = .ok (.iconst 1, 1) := by decide +kernel
theorem d_M_operator_52 : decode b_M_operator 52 = .ok (.goto 4, 3) := by decide +kernel
theorem d_M_operator_55 : decode b_M_operator 55 = .ok (.iconst 0, 1) := by decide +kernel
theorem d_M_operator_56 : decode b_M_operator 56 = .ok (.invokevirtual 171, 3) := by decide +kernel
theorem d_M_operator_59 : decode b_M_operator 59 = .ok (.aload_n 0, 1) := by decide +kernel
theorem d_M_operator_60 : decode b_M_operator 60 = .ok (.iload_n 1, 1) := by decide +kernel
theorem d_M_operator_61 : decode b_M_operator 61 = .ok (.invokevirtual 149, 3) := by decide +kernel
theorem d_M_operator_64 : decode b_M_operator 64 = .ok (.goto 118, 3) := by decide +kernel
theorem d_M_operator_67 : decode b_M_operator 67 = .ok (.iload_n 1, 1) := by decide +kernel
theorem d_M_operator_68 : decode b_M_operator 68 = .ok (.bipush 44, 2) := by decide +kernel
theorem d_M_operator_70 : decode b_M_operator 70 = .ok (.if_icmp .ne 59, 3) := by decide +kernel
theorem d_M_operator_73 : decode b_M_operator 73 = .ok (.aload_n 0, 1) := by decide +kernel
theorem d_M_operator_74 : decode b_M_operator 74 = .ok (.iconst 1, 1) := by decide +kernel
theorem d_M_operator_75 : decode b_M_operator 75 = .ok (.invokevirtual 171, 3) := by decide +kernel
theorem d_M_operator_78 : decode b_M_operator 78 = .ok (.aload_n 0, 1) := by decide +kernel
theorem d_M_operator_79 : decode b_M_operator 79 = .ok (.aload_n 0, 1) := by decide +kernel
theorem d_M_operator_80 : decode b_M_operator 80 = .ok (.getfield 77, 3) := by decide +kernel
theorem d_M_operator_83 : decode b_M_operator 83 = .ok (.ifCond .ne 13, 3) := by decide +kernel
theorem d_M_operator_86 : decode b_M_operator 86 = .ok (.aload_n 0, 1) := by decide +kernel
theorem d_M_operator_87 : decode b_M_operator 87 = .ok (.invokevirtual 109, 3) := by decide +kernel
theorem d_M_operator_90 : decode b_M_operator 90 = .ok (.invokestatic 155, 3) := by decide +kernel
theorem d_M_operator_93 : decode b_M_operator 93 = .ok (.ifCond .ne 7, 3) := by decide +kernel
theorem d_M_operator_96 : decode b_M_operator 96 = .ok (.iconst 1, 1) := by decide +kernel
theorem d_M_operator_97 : decode b_M_operator 97 = .ok (.goto 4, 3) := by decide +kernel
theorem d_M_operator_100 : decode b_M_operator 100 = .ok (.iconst 0, 1) := by decide +kernel
theorem d_M_operator_101 : decode b_M_operator 101 = .ok (.putfield 77, 3) := by decide +kernel
theorem d_M_operator_104 : decode b_M_operator 104 = .ok (.aload_n 0, 1) := by decide +kernel
theorem d_M_operator_105 : decode b_M_operator 105 = .ok (.getfield 77, 3) := by decide +kernel
theorem d_M_operator_108 : decode b_M_operator 108 = .ok (.ifCond .ne 74, 3) := by decide +kernel
theorem d_M_operator_111 : decode b_M_operator 111 = .ok (.aload_n 0, 1) := by decide +kernel
theorem d_M_operator_112 : decode b_M_operator 112 = .ok (.getfield 52, 3) := by decide +kernel
theorem d_M_operator_115 : decode b_M_operator 115 = .ok (.aload_n 0, 1) := by decide +kernel
theorem d_M_operator_116 : decode b_M_operator 116 = .ok (.getfield 106, 3) := by decide +kernel
theorem d_M_operator_119 : decode b_M_operator 119 = .ok (.iconst 1, 1) := by decide +kernel
theorem d_M_operator_120 : decode b_M_operator 120 = .ok (.isub, 1) := by decide +kernel
theorem d_M_operator_121 : decode b_M_operator 121 = .ok (.dup2, 1) := by decide +kernel
theorem d_M_operator_122 : decode b_M_operator 122 = .ok (.iaload, 1) := by decide +kernel
theorem d_M_operator_123 : decode b_M_operator 123 = .ok (.iconst 1, 1) := by decide +kernel
theorem d_M_operator_124 : decode b_M_operator 124 = .ok (.iadd, 1) := by decide +kernel
theorem d_M_operator_125 : decode b_M_operator 125 = .ok (.iastore, 1) := by decide +kernel
theorem d_M_operator_126 : decode b_M_operator 126 = .ok (.goto 56, 3) := by decide +kernel
theorem d_M_operator_129 : decode b_M_operator 129 = .ok (.iload_n 1, 1) := by decide +kernel
theorem d_M_operator_130 : decode b_M_operator 130 = .ok (.bipush 59, 2) := by decide +kernel
theorem d_M_operator_132 : decode b_M_operator 132 = .ok (.if_icmp .ne 45, 3) := by decide +kernel
theorem d_M_operator_135 : decode b_M_operator 135 = .ok (.aload_n 0, 1) := by decide +kernel
theorem d_M_operator_136 : decode b_M_operator 136 = .ok (.getfield 180, 3) := by decide +kernel
theorem d_M_operator_139 : decode b_M_operator 139 = .ok (.ifCond .lt 38, 3) := by decide +kernel
theorem d_M_operator_142 : decode b_M_operator 142 = .ok (.aload_n 0, 1) := by decide +kernel
theorem d_M_operator_143 : decode b_M_operator 143 = .ok (.iconst 1, 1) := by decide +kernel
theorem d_M_operator_144 : decode b_M_operator 144 = .ok (.invokevirtual 171, 3) := by decide +kernel
theorem d_M_operator_147 : decode b_M_operator 147 = .ok (.aload_n 0, 1) := by decide +kernel
theorem d_M_operator_148 : decode b_M_operator 148 = .ok (.aload_n 0, 1) := by decide +kernel
theorem d_M_operator_149 : decode b_M_operator 149 = .ok (.getfield 77, 3) := by decide +kernel
theorem d_M_operator_152 : decode b_M_operator 152 = .ok (.ifCond .ne 10, 3) := by decide +kernel
theorem d_M_operator_155 : decode b_M_operator 155 = .ok (.aload_n 0, 1) := by decide +kernel
theorem d_M_operator_156 : decode b_M_operator 156 = .ok (.getfield 106, 3) := by decide +kernel
theorem d_M_operator_159 : decode b_M_operator 159 = .ok (.ifCond .le 7, 3) := by decide +kernel
theorem d_M_operator_162 : decode b_M_operator 162 = .ok (.iconst 1, 1) := by decide +kernel
theorem d_M_operator_163 : decode b_M_operator 163 = .ok (.goto 4, 3) := by decide +kernel
theorem d_M_operator_166 : decode b_M_operator 166 = .ok (.iconst 0, 1) := by decide +kernel
theorem d_M_operator_167 : decode b_M_operator 167 = .ok (.putfield 77, 3) := by decide +kernel
theorem d_M_operator_170 : decode b_M_operator 170 = .ok (.aload_n 0, 1) := by decide +kernel
theorem d_M_operator_171 : decode b_M_operator 171 = .ok (.invokevirtual 183, 3) := by decide +kernel
theorem d_M_operator_174 : decode b_M_operator 174 = .ok (.goto 8, 3) := by decide +kernel
theorem d_M_operator_177 : decode b_M_operator 177 = .ok (.aload_n 0, 1) := by decide +kernel
theorem d_M_operator_178 : decode b_M_operator 178 = .ok (.iconst 1, 1) := by decide +kernel
theorem d_M_operator_179 : decode b_M_operator 179 = .ok (.putfield 77, 3) := by decide +kernel
theorem d_M_operator_182 : decode b_M_operator 182 = .ok (.iconst 0, 1) := by decide +kernel
theorem d_M_operator_183 : decode b_M_operator 183 = .ok (.ireturn, 1) := by decide +kernel
theorem d_M_assign_0 : decode b_M_assign 0 = .ok (.aload_n 0, 1) := by decide +kernel
theorem d_M_assign_1 : decode b_M_assign 1 = .ok (.getfield 77, 3) := by decide +kernel
theorem d_M_assign_4 : decode b_M_assign 4 = .ok (.ifCond .eq 4, 3) := by decide +kernel
theorem d_M_assign_7 : decode b_M_assign 7 = .ok (.return_, 1) := by decide +kernel
theorem d_M_assign_8 : decode b_M_assign 8 = .ok (.aload_n 0, 1) := by decide +kernel
theorem d_M_assign_9 : decode b_M_assign 9 = .ok (.dup, 1) := by decide +kernel
theorem d_M_assign_10 : decode b_M_assign 10 = .ok (.getfield 81, 3) := by decide +kernel
theorem d_M_assign_13 : decode b_M_assign 13 = .ok (.iconst 1, 1) := by decide +kernel
theorem d_M_assign_14 : decode b_M_assign 14 = .ok (.isub, 1) := by decide +kernel
theorem d_M_assign_15 : decode b_M_assign 15 = .ok (.putfield 81, 3) := by decide +kernel
theorem d_M_assign_18 : decode b_M_assign 18 = .ok (.aload_n 0, 1) := by decide +kernel
theorem d_M_assign_19 : decode b_M_assign 19 = .ok (.getfield 37, 3) := by decide +kernel
theorem d_M_assign_22 : decode b_M_assign 22 = .ok (.aload_n 0, 1) := by decide +kernel
theorem d_M_assign_23 : decode b_M_assign 23 = .ok (.getfield 180, 3) := by decide +kernel
theorem d_M_assign_26 : decode b_M_assign 26 = .ok (.aload_n 0, 1) := by decide +kernel
theorem d_M_assign_27 : decode b_M_assign 27 = .ok (.getfield 43, 3) := by decide +kernel
theorem d_M_assign_30 : decode b_M_assign 30 = .ok (.aload_n 0, 1) := by decide +kernel
theorem d_M_assign_31 : decode b_M_assign 31 = .ok (.getfield 81, 3) := by decide +kernel
theorem d_M_assign_34 : decode b_M_assign 34 = .ok (.iaload, 1) := by decide +kernel
theorem d_M_assign_35 : decode b_M_assign 35 = .ok (.iastore, 1) := by decide +kernel
theorem d_M_assign_36 : decode b_M_assign 36 = .ok (.iconst 0, 1) := by decide +kernel
theorem d_M_assign_37 : decode b_M_assign 37 = .ok (.istore_n 1, 1) := by decide +kernel
theorem d_M_assign_38 : decode b_M_assign 38 = .ok (.iload_n 1, 1) := by decide +kernel
theorem d_M_assign_39 : decode b_M_assign 39 = .ok (.iconst 4, 1) := by decide +kernel
theorem d_M_assign_40 : decode b_M_assign 40 = .ok (.if_icmp .ge 31, 3) := by decide +kernel
theorem d_M_assign_43 : decode b_M_assign 43 = .ok (.aload_n 0, 1) := by decide +kernel
theorem d_M_assign_44 : decode b_M_assign 44 = .ok (.getfield 40, 3) := by decide +kernel
theorem d_M_assign_47 : decode b_M_assign 47 = .ok (.iconst 4, 1) := by decide +kernel
theorem d_M_assign_48 : decode b_M_assign 48 = .ok (.aload_n 0, 1) := by decide +kernel
theorem d_M_assign_49 : decode b_M_assign 49 = .ok (.getfield 180, 3) := by decide +kernel
theorem d_M_assign_52 : decode b_M_assign 52 = .ok (.imul, 1) := by decide +kernel
theorem d_M_assign_53 : decode b_M_assign 53 = .ok (.iload_n 1, 1) := by decide +kernel
theorem d_M_assign_54 : decode b_M_assign 54 = .ok (.iadd, 1) := by decide +kernel
theorem d_M_assign_55 : decode b_M_assign 55 = .ok (.aload_n 0, 1) := by decide +kernel
theorem d_M_assign_56 : decode b_M_assign 56 = .ok (.aload_n 0, 1) := by decide +kernel
theorem d_M_assign_57 : decode b_M_assign 57 = .ok (.getfield 81, 3) := by decide +kernel
theorem d_M_assign_60 : decode b_M_assign 60 = .ok (.iload_n 1, 1) := by decide +kernel
theorem d_M_assign_61 : decode b_M_assign 61 = .ok (.invokevirtual 88, 3) := by decide +kernel
theorem d_M_assign_64 : decode b_M_assign 64 = .ok (.iastore, 1) := by decide +kernel
theorem d_M_assign_65 : decode b_M_assign 65 = .ok (.iinc 1 1, 3) := by decide +kernel
theorem d_M_assign_68 : decode b_M_assign 68 = .ok (.goto (-30), 3) := by decide +kernel
theorem d_M_assign_71 : decode b_M_assign 71 = .ok (.aload_n 0, 1) := by decide +kernel
theorem d_M_assign_72 : decode b_M_assign 72 = .ok (.invokevirtual 186, 3) := by decide +kernel
theorem d_M_assign_75 : decode b_M_assign 75 = .ok (.return_, 1) := by decide +kernel
theorem d_M_begin_0 : decode b_M_begin 0 = .ok (.aload_n 0, 1) := by decide +kernel
theorem d_M_begin_1 : decode b_M_begin 1 = .ok (.iconst (-1), 1) := by decide +kernel
theorem d_M_begin_2 : decode b_M_begin 2 = .ok (.putfield 180, 3) := by decide +kernel
theorem d_M_begin_5 : decode b_M_begin 5 = .ok (.aload_n 0, 1) := by decide +kernel
theorem d_M_begin_6 : decode b_M_begin 6 = .ok (.aload_n 0, 1) := by decide +kernel
theorem d_M_begin_7 : decode b_M_begin 7 = .ok (.getfield 133, 3) := by decide +kernel
theorem d_M_begin_10 : decode b_M_begin 10 = .ok (.invokevirtual 136, 3) := by decide +kernel
theorem d_M_begin_13 : decode b_M_begin 13 = .ok (.istore_n 1, 1) := by decide +kernel
theorem d_M_begin_14 : decode b_M_begin 14 = .ok (.iload_n 1, 1) := by decide +kernel
theorem d_M_begin_15 : decode b_M_begin 15 = .ok (.invokestatic 165, 3) := by decide +kernel
theorem d_M_begin_18 : decode b_M_begin 18 = .ok (.ifCond .eq 44, 3) := by decide +kernel
theorem d_M_begin_21 : decode b_M_begin 21 = .ok (.aload_n 0, 1) := by decide +kernel
theorem d_M_begin_22 : decode b_M_begin 22 = .ok (.aload_n 0, 1) := by decide +kernel
theorem d_M_begin_23 : decode b_M_begin 23 = .ok (.getfield 133, 3) := by decide +kernel
theorem d_M_begin_26 : decode b_M_begin 26 = .ok (.iconst 1, 1) := by decide +kernel
theorem d_M_begin_27 : decode b_M_begin 27 = .ok (.iadd, 1) := by decide +kernel
theorem d_M_begin_28 : decode b_M_begin 28 = .ok (.invokevirtual 136, 3) := by decide +kernel
theorem d_M_begin_31 : decode b_M_begin 31 = .ok (.bipush 61, 2) := by decide +kernel
theorem d_M_begin_33 : decode b_M_begin 33 = .ok (.if_icmp .ne 29, 3) := by decide +kernel
theorem d_M_begin_36 : decode b_M_begin 36 = .ok (.aload_n 0, 1) := by decide +kernel
theorem d_M_begin_37 : decode b_M_begin 37 = .ok (.iload_n 1, 1) := by decide +kernel
theorem d_M_begin_38 : decode b_M_begin 38 = .ok (.invokestatic 189, 3) := by decide +kernel
theorem d_M_begin_41 : decode b_M_begin 41 = .ok (.putfield 77, 3) := by decide +kernel
theorem d_M_begin_44 : decode b_M_begin 44 = .ok (.aload_n 0, 1) := by decide +kernel
theorem d_M_begin_45 : decode b_M_begin 45 = .ok (.iload_n 1, 1) := by decide +kernel
theorem d_M_begin_46 : decode b_M_begin 46 = .ok (.bipush 97, 2) := by decide +kernel
theorem d_M_begin_48 : decode b_M_begin 48 = .ok (.isub, 1) := by decide +kernel
theorem d_M_begin_49 : decode b_M_begin 49 = .ok (.putfield 180, 3) := by decide +kernel
theorem d_M_begin_52 : decode b_M_begin 52 = .ok (.aload_n 0, 1) := by decide +kernel
theorem d_M_begin_53 : decode b_M_begin 53 = .ok (.dup, 1) := by decide +kernel
theorem d_M_begin_54 : decode b_M_begin 54 = .ok (.getfield 133, 3) := by decide +kernel
theorem d_M_begin_57 : decode b_M_begin 57 = .ok (.iconst 2, 1) := by decide +kernel
theorem d_M_begin_58 : decode b_M_begin 58 = .ok (.iadd, 1) := by decide +kernel
theorem d_M_begin_59 : decode b_M_begin 59 = .ok (.putfield 133, 3) := by decide +kernel
theorem d_M_begin_62 : decode b_M_begin 62 = .ok (.return_, 1) := by decide +kernel
theorem d_M_keep_0 : decode b_M_keep 0 = .ok (.aload_n 0, 1) := by decide +kernel
theorem d_M_keep_1 : decode b_M_keep 1 = .ok (.aload_n 0, 1) := by decide +kernel
theorem d_M_keep_2 : decode b_M_keep 2 = .ok (.getfield 74, 3) := by decide +kernel
theorem d_M_keep_5 : decode b_M_keep 5 = .ok (.putfield 192, 3) := by decide +kernel
theorem d_M_keep_8 : decode b_M_keep 8 = .ok (.iconst 0, 1) := by decide +kernel
theorem d_M_keep_9 : decode b_M_keep 9 = .ok (.istore_n 1, 1) := by decide +kernel
theorem d_M_keep_10 : decode b_M_keep 10 = .ok (.iload_n 1, 1) := by decide +kernel
theorem d_M_keep_11 : decode b_M_keep 11 = .ok (.aload_n 0, 1) := by decide +kernel
theorem d_M_keep_12 : decode b_M_keep 12 = .ok (.getfield 192, 3) := by decide +kernel
theorem d_M_keep_15 : decode b_M_keep 15 = .ok (.if_icmp .ge 45, 3) := by decide +kernel
theorem d_M_keep_18 : decode b_M_keep 18 = .ok (.aload_n 0, 1) := by decide +kernel
theorem d_M_keep_19 : decode b_M_keep 19 = .ok (.getfield 13, 3) := by decide +kernel
theorem d_M_keep_22 : decode b_M_keep 22 = .ok (.iload_n 1, 1) := by decide +kernel
theorem d_M_keep_23 : decode b_M_keep 23 = .ok (.aload_n 0, 1) := by decide +kernel
theorem d_M_keep_24 : decode b_M_keep 24 = .ok (.getfield 28, 3) := by decide +kernel
theorem d_M_keep_27 : decode b_M_keep 27 = .ok (.iload_n 1, 1) := by decide +kernel
theorem d_M_keep_28 : decode b_M_keep 28 = .ok (.iaload, 1) := by decide +kernel
theorem d_M_keep_29 : decode b_M_keep 29 = .ok (.iastore, 1) := by decide +kernel
theorem d_M_keep_30 : decode b_M_keep 30 = .ok (.aload_n 0, 1) := by decide +kernel
theorem d_M_keep_31 : decode b_M_keep 31 = .ok (.getfield 16, 3) := by decide +kernel
theorem d_M_keep_34 : decode b_M_keep 34 = .ok (.iload_n 1, 1) := by decide +kernel
theorem d_M_keep_35 : decode b_M_keep 35 = .ok (.aload_n 0, 1) := by decide +kernel
theorem d_M_keep_36 : decode b_M_keep 36 = .ok (.getfield 31, 3) := by decide +kernel
theorem d_M_keep_39 : decode b_M_keep 39 = .ok (.iload_n 1, 1) := by decide +kernel
theorem d_M_keep_40 : decode b_M_keep 40 = .ok (.iaload, 1) := by decide +kernel
theorem d_M_keep_41 : decode b_M_keep 41 = .ok (.iastore, 1) := by decide +kernel
theorem d_M_keep_42 : decode b_M_keep 42 = .ok (.aload_n 0, 1) := by decide +kernel
theorem d_M_keep_43 : decode b_M_keep 43 = .ok (.getfield 19, 3) := by decide +kernel
theorem d_M_keep_46 : decode b_M_keep 46 = .ok (.iload_n 1, 1) := by decide +kernel
theorem d_M_keep_47 : decode b_M_keep 47 = .ok (.aload_n 0, 1) := by decide +kernel
theorem d_M_keep_48 : decode b_M_keep 48 = .ok (.getfield 34, 3) := by decide +kernel
theorem d_M_keep_51 : decode b_M_keep 51 = .ok (.iload_n 1, 1) := by decide +kernel
theorem d_M_keep_52 : decode b_M_keep 52 = .ok (.iaload, 1) := by decide +kernel
theorem d_M_keep_53 : decode b_M_keep 53 = .ok (.iastore, 1) := by decide +kernel
theorem d_M_keep_54 : decode b_M_keep 54 = .ok (.iinc 1 1, 3) := by decide +kernel
theorem d_M_keep_57 : decode b_M_keep 57 = .ok (.goto (-47), 3) := by decide +kernel
theorem d_M_keep_60 : decode b_M_keep 60 = .ok (.iconst 0, 1) := by decide +kernel
theorem d_M_keep_61 : decode b_M_keep 61 = .ok (.istore_n 1, 1) := by decide +kernel
theorem d_M_keep_62 : decode b_M_keep 62 = .ok (.iload_n 1, 1) := by decide +kernel
theorem d_M_keep_63 : decode b_M_keep 63 = .ok (.iconst 3, 1) := by decide +kernel
theorem d_M_keep_64 : decode b_M_keep 64 = .ok (.if_icmp .ge 21, 3) := by decide +kernel
theorem d_M_keep_67 : decode b_M_keep 67 = .ok (.aload_n 0, 1) := by decide +kernel
theorem d_M_keep_68 : decode b_M_keep 68 = .ok (.getfield 22, 3) := by decide +kernel
theorem d_M_keep_71 : decode b_M_keep 71 = .ok (.iload_n 1, 1) := by decide +kernel
theorem d_M_keep_72 : decode b_M_keep 72 = .ok (.aload_n 0, 1) := by decide +kernel
theorem d_M_keep_73 : decode b_M_keep 73 = .ok (.iconst 0, 1) := by decide +kernel
theorem d_M_keep_74 : decode b_M_keep 74 = .ok (.iload_n 1, 1) := by decide +kernel
theorem d_M_keep_75 : decode b_M_keep 75 = .ok (.invokevirtual 88, 3) := by decide +kernel
theorem d_M_keep_78 : decode b_M_keep 78 = .ok (.iastore, 1) := by decide +kernel
theorem d_M_keep_79 : decode b_M_keep 79 = .ok (.iinc 1 1, 3) := by decide +kernel
theorem d_M_keep_82 : decode b_M_keep 82 = .ok (.goto (-20), 3) := by decide +kernel
theorem d_M_keep_85 : decode b_M_keep 85 = .ok (.iconst 0, 1) := by decide +kernel
theorem d_M_keep_86 : decode b_M_keep 86 = .ok (.istore_n 1, 1) := by decide +kernel
theorem d_M_keep_87 : decode b_M_keep 87 = .ok (.iload_n 1, 1) := by decide +kernel
theorem d_M_keep_88 : decode b_M_keep 88 = .ok (.bipush 26, 2) := by decide +kernel
theorem d_M_keep_90 : decode b_M_keep 90 = .ok (.if_icmp .ge 21, 3) := by decide +kernel
theorem d_M_keep_93 : decode b_M_keep 93 = .ok (.aload_n 0, 1) := by decide +kernel
theorem d_M_keep_94 : decode b_M_keep 94 = .ok (.getfield 25, 3) := by decide +kernel
theorem d_M_keep_97 : decode b_M_keep 97 = .ok (.iload_n 1, 1) := by decide +kernel
theorem d_M_keep_98 : decode b_M_keep 98 = .ok (.aload_n 0, 1) := by decide +kernel
theorem d_M_keep_99 : decode b_M_keep 99 = .ok (.getfield 37, 3) := by decide +kernel
theorem d_M_keep_102 : decode b_M_keep 102 = .ok (.iload_n 1, 1) := by decide +kernel
theorem d_M_keep_103 : decode b_M_keep 103 = .ok (.iaload, 1) := by decide +kernel
theorem d_M_keep_104 : decode b_M_keep 104 = .ok (.iastore, 1) := by decide +kernel
theorem d_M_keep_105 : decode b_M_keep 105 = .ok (.iinc 1 1, 3) := by decide +kernel
theorem d_M_keep_108 : decode b_M_keep 108 = .ok (.goto (-21), 3) := by decide +kernel
theorem d_M_keep_111 : decode b_M_keep 111 = .ok (.return_, 1) := by decide +kernel
theorem d_M_compile_0 : decode b_M_compile 0 = .ok (.aload_n 0, 1) := by decide +kernel
theorem d_M_compile_1 : decode b_M_compile 1 = .ok (.iconst 0, 1) := by decide +kernel
theorem d_M_compile_2 : decode b_M_compile 2 = .ok (.putfield 67, 3) := by decide +kernel
theorem d_M_compile_5 : decode b_M_compile 5 = .ok (.aload_n 0, 1) := by decide +kernel
theorem d_M_compile_6 : decode b_M_compile 6 = .ok (.iconst 0, 1) := by decide +kernel
theorem d_M_compile_7 : decode b_M_compile 7 = .ok (.putfield 133, 3) := by decide +kernel
theorem d_M_compile_10 : decode b_M_compile 10 = .ok (.aload_n 0, 1) := by decide +kernel
theorem d_M_compile_11 : decode b_M_compile 11 = .ok (.iconst 0, 1) := by decide +kernel
theorem d_M_compile_12 : decode b_M_compile 12 = .ok (.putfield 77, 3) := by decide +kernel
theorem d_M_compile_15 : decode b_M_compile 15 = .ok (.aload_n 0, 1) := by decide +kernel
theorem d_M_compile_16 : decode b_M_compile 16 = .ok (.iconst 0, 1) := by decide +kernel
theorem d_M_compile_17 : decode b_M_compile 17 = .ok (.putfield 81, 3) := by decide +kernel
theorem d_M_compile_20 : decode b_M_compile 20 = .ok (.aload_n 0, 1) := by decide +kernel
theorem d_M_compile_21 : decode b_M_compile 21 = .ok (.iconst 0, 1) := by decide +kernel
theorem d_M_compile_22 : decode b_M_compile 22 = .ok (.putfield 106, 3) := by decide +kernel
theorem d_M_compile_25 : decode b_M_compile 25 = .ok (.aload_n 0, 1) := by decide +kernel
theorem d_M_compile_26 : decode b_M_compile 26 = .ok (.iconst 0, 1) := by decide +kernel
theorem d_M_compile_27 : decode b_M_compile 27 = .ok (.putfield 146, 3) := by decide +kernel
theorem d_M_compile_30 : decode b_M_compile 30 = .ok (.aload_n 0, 1) := by decide +kernel
theorem d_M_compile_31 : decode b_M_compile 31 = .ok (.iconst 0, 1) := by decide +kernel
theorem d_M_compile_32 : decode b_M_compile 32 = .ok (.putfield 74, 3) := by decide +kernel
theorem d_M_compile_35 : decode b_M_compile 35 = .ok (.iconst 0, 1) := by decide +kernel
theorem d_M_compile_36 : decode b_M_compile 36 = .ok (.istore_n 1, 1) := by decide +kernel
theorem d_M_compile_37 : decode b_M_compile 37 = .ok (.iload_n 1, 1) := by decide +kernel
theorem d_M_compile_38 : decode b_M_compile 38 = .ok (.bipush 26, 2) := by decide +kernel
theorem d_M_compile_40 : decode b_M_compile 40 = .ok (.if_icmp .ge 16, 3) := by decide +kernel
theorem d_M_compile_43 : decode b_M_compile 43 = .ok (.aload_n 0, 1) := by decide +kernel
theorem d_M_compile_44 : decode b_M_compile 44 = .ok (.getfield 37, 3) := by decide +kernel
theorem d_M_compile_47 : decode b_M_compile 47 = .ok (.iload_n 1, 1) := by decide +kernel
theorem d_M_compile_48 : decode b_M_compile 48 = .ok (.iconst 0, 1) := by decide +kernel
theorem d_M_compile_49 : decode b_M_compile 49 = .ok (.iastore, 1) := by decide +kernel
theorem d_M_compile_50 : decode b_M_compile 50 = .ok (.iinc 1 1, 3) := by decide +kernel
theorem d_M_compile_53 : decode b_M_compile 53 = .ok (.goto (-16), 3) := by decide +kernel
theorem d_M_compile_56 : decode b_M_compile 56 = .ok (.aload_n 0, 1) := by decide +kernel
theorem d_M_compile_57 : decode b_M_compile 57 = .ok (.invokevirtual 186, 3) := by decide +kernel
theorem d_M_compile_60 : decode b_M_compile 60 = .ok (.iconst 0, 1) := by decide +kernel
theorem d_M_compile_61 : decode b_M_compile 61 = .ok (.istore_n 1, 1) := by decide +kernel
theorem d_M_compile_62 : decode b_M_compile 62 = .ok (.aload_n 0, 1) := by decide +kernel
theorem d_M_compile_63 : decode b_M_compile 63 = .ok (.getfield 77, 3) := by decide +kernel
theorem d_M_compile_66 : decode b_M_compile 66 = .ok (.ifCond .ne 37, 3) := by decide +kernel
theorem d_M_compile_69 : decode b_M_compile 69 = .ok (.iload_n 1, 1) := by decide +kernel
theorem d_M_compile_70 : decode b_M_compile 70 = .ok (.ifCond .eq 14, 3) := by decide +kernel
theorem d_M_compile_73 : decode b_M_compile 73 = .ok (.aload_n 0, 1) := by decide +kernel
theorem d_M_compile_74 : decode b_M_compile 74 = .ok (.getfield 133, 3) := by decide +kernel
theorem d_M_compile_77 : decode b_M_compile 77 = .ok (.aload_n 0, 1) := by decide +kernel
theorem d_M_compile_78 : decode b_M_compile 78 = .ok (.getfield 71, 3) := by decide +kernel
theorem d_M_compile_81 : decode b_M_compile 81 = .ok (.if_icmp .ge 22, 3) := by decide +kernel
theorem d_M_compile_84 : decode b_M_compile 84 = .ok (.iload_n 1, 1) := by decide +kernel
theorem d_M_compile_85 : decode b_M_compile 85 = .ok (.ifCond .eq 10, 3) := by decide +kernel
theorem d_M_compile_88 : decode b_M_compile 88 = .ok (.aload_n 0, 1) := by decide +kernel
theorem d_M_compile_89 : decode b_M_compile 89 = .ok (.invokevirtual 195, 3) := by decide +kernel
theorem d_M_compile_92 : decode b_M_compile 92 = .ok (.goto 7, 3) := by decide +kernel
theorem d_M_compile_95 : decode b_M_compile 95 = .ok (.aload_n 0, 1) := by decide +kernel
theorem d_M_compile_96 : decode b_M_compile 96 = .ok (.invokevirtual 199, 3) := by decide +kernel
theorem d_M_compile_99 : decode b_M_compile 99 = .ok (.istore_n 1, 1) := by decide +kernel
theorem d_M_compile_100 : decode b_M_compile 100 = .ok (.goto (-38), 3) := by decide +kernel
theorem d_M_compile_103 : decode b_M_compile 103 = .ok (.aload_n 0, 1) := by decide +kernel
theorem d_M_compile_104 : decode b_M_compile 104 = .ok (.getfield 77, 3) := by decide +kernel
theorem d_M_compile_107 : decode b_M_compile 107 = .ok (.ifCond .ne 8, 3) := by decide +kernel
theorem d_M_compile_110 : decode b_M_compile 110 = .ok (.aload_n 0, 1) := by decide +kernel
theorem d_M_compile_111 : decode b_M_compile 111 = .ok (.iconst 1, 1) := by decide +kernel
theorem d_M_compile_112 : decode b_M_compile 112 = .ok (.invokevirtual 171, 3) := by decide +kernel
theorem d_M_compile_115 : decode b_M_compile 115 = .ok (.aload_n 0, 1) := by decide +kernel
theorem d_M_compile_116 : decode b_M_compile 116 = .ok (.aload_n 0, 1) := by decide +kernel
theorem d_M_compile_117 : decode b_M_compile 117 = .ok (.getfield 77, 3) := by decide +kernel
theorem d_M_compile_120 : decode b_M_compile 120 = .ok (.ifCond .ne 27, 3) := by decide +kernel
theorem d_M_compile_123 : decode b_M_compile 123 = .ok (.aload_n 0, 1) := by decide +kernel
theorem d_M_compile_124 : decode b_M_compile 124 = .ok (.getfield 106, 3) := by decide +kernel
theorem d_M_compile_127 : decode b_M_compile 127 = .ok (.ifCond .gt 20, 3) := by decide +kernel
theorem d_M_compile_130 : decode b_M_compile 130 = .ok (.aload_n 0, 1) := by decide +kernel
theorem d_M_compile_131 : decode b_M_compile 131 = .ok (.getfield 180, 3) := by decide +kernel
theorem d_M_compile_134 : decode b_M_compile 134 = .ok (.ifCond .ge 13, 3) := by decide +kernel
theorem d_M_compile_137 : decode b_M_compile 137 = .ok (.aload_n 0, 1) := by decide +kernel
theorem d_M_compile_138 : decode b_M_compile 138 = .ok (.getfield 43, 3) := by decide +kernel
theorem d_M_compile_141 : decode b_M_compile 141 = .ok (.iconst 0, 1) := by decide +kernel
theorem d_M_compile_142 : decode b_M_compile 142 = .ok (.iaload, 1) := by decide +kernel
theorem d_M_compile_143 : decode b_M_compile 143 = .ok (.iconst 3, 1) := by decide +kernel
theorem d_M_compile_144 : decode b_M_compile 144 = .ok (.if_icmp .eq 7, 3) := by decide +kernel
theorem d_M_compile_147 : decode b_M_compile 147 = .ok (.iconst 1, 1) := by decide +kernel
theorem d_M_compile_148 : decode b_M_compile 148 = .ok (.goto 4, 3) := by decide +kernel
theorem d_M_compile_151 : decode b_M_compile 151 = .ok (.iconst 0, 1) := by decide +kernel
theorem d_M_compile_152 : decode b_M_compile 152 = .ok (.putfield 77, 3) := by decide +kernel
theorem d_M_compile_155 : decode b_M_compile 155 = .ok (.aload_n 0, 1) := by decide +kernel
theorem d_M_compile_156 : decode b_M_compile 156 = .ok (.getfield 77, 3) := by decide +kernel
theorem d_M_compile_159 : decode b_M_compile 159 = .ok (.ifCond .ne 7, 3) := by decide +kernel
theorem d_M_compile_162 : decode b_M_compile 162 = .ok (.aload_n 0, 1) := by decide +kernel
theorem d_M_compile_163 : decode b_M_compile 163 = .ok (.invokevirtual 202, 3) := by decide +kernel
theorem d_M_compile_166 : decode b_M_compile 166 = .ok (.aload_n 0, 1) := by decide +kernel
theorem d_M_compile_167 : decode b_M_compile 167 = .ok (.getfield 77, 3) := by decide +kernel
theorem d_M_compile_170 : decode b_M_compile 170 = .ok (.ifCond .ne 7, 3) := by decide +kernel
theorem d_M_compile_173 : decode b_M_compile 173 = .ok (.iconst 1, 1) := by decide +kernel
theorem d_M_compile_174 : decode b_M_compile 174 = .ok (.goto 4, 3) := by decide +kernel
theorem d_M_compile_177 : decode b_M_compile 177 = .ok (.iconst 0, 1) := by decide +kernel
theorem d_M_compile_178 : decode b_M_compile 178 = .ok (.ireturn, 1) := by decide +kernel
theorem d_M_size_0 : decode b_M_size 0 = .ok (.aload_n 0, 1) := by decide +kernel
theorem d_M_size_1 : decode b_M_size 1 = .ok (.iconst 0, 1) := by decide +kernel
theorem d_M_size_2 : decode b_M_size 2 = .ok (.putfield 67, 3) := by decide +kernel
theorem d_M_size_5 : decode b_M_size 5 = .ok (.aload_n 0, 1) := by decide +kernel
theorem d_M_size_6 : decode b_M_size 6 = .ok (.getfield 192, 3) := by decide +kernel
theorem d_M_size_9 : decode b_M_size 9 = .ok (.ireturn, 1) := by decide +kernel
theorem d_M_instruction_0 : decode b_M_instruction 0 = .ok (.aload_n 0, 1) := by decide +kernel
theorem d_M_instruction_1 : decode b_M_instruction 1 = .ok (.iload_n 1, 1) := by decide +kernel
theorem d_M_instruction_2 : decode b_M_instruction 2 = .ok (.ifCond .lt 20, 3) := by decide +kernel
theorem d_M_instruction_5 : decode b_M_instruction 5 = .ok (.iload_n 1, 1) := by decide +kernel
theorem d_M_instruction_6 : decode b_M_instruction 6 = .ok (.aload_n 0, 1) := by decide +kernel
theorem d_M_instruction_7 : decode b_M_instruction 7 = .ok (.getfield 192, 3) := by decide +kernel
theorem d_M_instruction_10 : decode b_M_instruction 10 = .ok (.if_icmp .ge 12, 3) := by decide +kernel
theorem d_M_instruction_13 : decode b_M_instruction 13 = .ok (.iload_n 2, 1) := by decide +kernel
theorem d_M_instruction_14 : decode b_M_instruction 14 = .ok (.ifCond .lt 8, 3) := by decide +kernel
theorem d_M_instruction_17 : decode b_M_instruction 17 = .ok (.iload_n 2, 1) := by decide +kernel
theorem d_M_instruction_18 : decode b_M_instruction 18 = .ok (.iconst 2, 1) := by decide +kernel
theorem d_M_instruction_19 : decode b_M_instruction 19 = .ok (.if_icmp .le 7, 3) := by decide +kernel
theorem d_M_instruction_22 : decode b_M_instruction 22 = .ok (.iconst 1, 1) := by decide +kernel
theorem d_M_instruction_23 : decode b_M_instruction 23 = .ok (.goto 4, 3) := by decide +kernel
theorem d_M_instruction_26 : decode b_M_instruction 26 = .ok (.iconst 0, 1) := by decide +kernel
theorem d_M_instruction_27 : decode b_M_instruction 27 = .ok (.putfield 67, 3) := by decide +kernel
theorem d_M_instruction_30 : decode b_M_instruction 30 = .ok (.aload_n 0, 1) := by decide +kernel
theorem d_M_instruction_31 : decode b_M_instruction 31 = .ok (.getfield 67, 3) := by decide +kernel
theorem d_M_instruction_34 : decode b_M_instruction 34 = .ok (.ifCond .le 7, 3) := by decide +kernel
theorem d_M_instruction_37 : decode b_M_instruction 37 = .ok (.iconst 0, 1) := by decide +kernel
theorem d_M_instruction_38 : decode b_M_instruction 38 = .ok (.goto 36, 3) := by decide +kernel
theorem d_M_instruction_41 : decode b_M_instruction 41 = .ok (.iload_n 2, 1) := by decide +kernel
theorem d_M_instruction_42 : decode b_M_instruction 42 = .ok (.ifCond .ne 12, 3) := by decide +kernel
theorem d_M_instruction_45 : decode b_M_instruction 45 = .ok (.aload_n 0, 1) := by decide +kernel
theorem d_M_instruction_46 : decode b_M_instruction 46 = .ok (.getfield 13, 3) := by decide +kernel
theorem d_M_instruction_49 : decode b_M_instruction 49 = .ok (.iload_n 1, 1) := by decide +kernel
theorem d_M_instruction_50 : decode b_M_instruction 50 = .ok (.iaload, 1) := by decide +kernel
theorem d_M_instruction_51 : decode b_M_instruction 51 = .ok (.goto 23, 3) := by decide +kernel
theorem d_M_instruction_54 : decode b_M_instruction 54 = .ok (.iload_n 2, 1) := by decide +kernel
theorem d_M_instruction_55 : decode b_M_instruction 55 = .ok (.iconst 1, 1) := by decide +kernel
theorem d_M_instruction_56 : decode b_M_instruction 56 = .ok (.if_icmp .ne 12, 3) := by decide +kernel
theorem d_M_instruction_59 : decode b_M_instruction 59 = .ok (.aload_n 0, 1) := by decide +kernel
theorem d_M_instruction_60 : decode b_M_instruction 60 = .ok (.getfield 16, 3) := by decide +kernel
theorem d_M_instruction_63 : decode b_M_instruction 63 = .ok (.iload_n 1, 1) := by decide +kernel
theorem d_M_instruction_64 : decode b_M_instruction 64 = .ok (.iaload, 1) := by decide +kernel
theorem d_M_instruction_65 : decode b_M_instruction 65 = .ok (.goto 9, 3) := by decide +kernel
theorem d_M_instruction_68 : decode b_M_instruction 68 = .ok (.aload_n 0, 1) := by decide +kernel
theorem d_M_instruction_69 : decode b_M_instruction 69 = .ok (.getfield 19, 3) := by decide +kernel
theorem d_M_instruction_72 : decode b_M_instruction 72 = .ok (.iload_n 1, 1) := by decide +kernel
theorem d_M_instruction_73 : decode b_M_instruction 73 = .ok (.iaload, 1) := by decide +kernel
theorem d_M_instruction_74 : decode b_M_instruction 74 = .ok (.ireturn, 1) := by decide +kernel
theorem d_M_result_0 : decode b_M_result 0 = .ok (.aload_n 0, 1) := by decide +kernel
theorem d_M_result_1 : decode b_M_result 1 = .ok (.aload_n 0, 1) := by decide +kernel
theorem d_M_result_2 : decode b_M_result 2 = .ok (.getfield 192, 3) := by decide +kernel
theorem d_M_result_5 : decode b_M_result 5 = .ok (.ifCond .ne 7, 3) := by decide +kernel
theorem d_M_result_8 : decode b_M_result 8 = .ok (.iconst 1, 1) := by decide +kernel
theorem d_M_result_9 : decode b_M_result 9 = .ok (.goto 17, 3) := by decide +kernel
theorem d_M_result_12 : decode b_M_result 12 = .ok (.iload_n 1, 1) := by decide +kernel
theorem d_M_result_13 : decode b_M_result 13 = .ok (.ifCond .lt 8, 3) := by decide +kernel
theorem d_M_result_16 : decode b_M_result 16 = .ok (.iload_n 1, 1) := by decide +kernel
theorem d_M_result_17 : decode b_M_result 17 = .ok (.iconst 2, 1) := by decide +kernel
theorem d_M_result_18 : decode b_M_result 18 = .ok (.if_icmp .le 7, 3) := by decide +kernel
theorem d_M_result_21 : decode b_M_result 21 = .ok (.iconst 2, 1) := by decide +kernel
theorem d_M_result_22 : decode b_M_result 22 = .ok (.goto 4, 3) := by decide +kernel
theorem d_M_result_25 : decode b_M_result 25 = .ok (.iconst 0, 1) := by decide +kernel
theorem d_M_result_26 : decode b_M_result 26 = .ok (.putfield 67, 3) := by decide +kernel
theorem d_M_result_29 : decode b_M_result 29 = .ok (.aload_n 0, 1) := by decide +kernel
theorem d_M_result_30 : decode b_M_result 30 = .ok (.getfield 67, 3) := by decide +kernel
theorem d_M_result_33 : decode b_M_result 33 = .ok (.ifCond .le 7, 3) := by decide +kernel
theorem d_M_result_36 : decode b_M_result 36 = .ok (.iconst 0, 1) := by decide +kernel
theorem d_M_result_37 : decode b_M_result 37 = .ok (.goto 9, 3) := by decide +kernel
theorem d_M_result_40 : decode b_M_result 40 = .ok (.aload_n 0, 1) := by decide +kernel
theorem d_M_result_41 : decode b_M_result 41 = .ok (.getfield 22, 3) := by decide +kernel
theorem d_M_result_44 : decode b_M_result 44 = .ok (.iload_n 1, 1) := by decide +kernel
theorem d_M_result_45 : decode b_M_result 45 = .ok (.iaload, 1) := by decide +kernel
theorem d_M_result_46 : decode b_M_result 46 = .ok (.ireturn, 1) := by decide +kernel
theorem d_M_typeOf_0 : decode b_M_typeOf 0 = .ok (.aload_n 0, 1) := by decide +kernel
theorem d_M_typeOf_1 : decode b_M_typeOf 1 = .ok (.iload_n 1, 1) := by decide +kernel
theorem d_M_typeOf_2 : decode b_M_typeOf 2 = .ok (.ifCond .lt 9, 3) := by decide +kernel
theorem d_M_typeOf_5 : decode b_M_typeOf 5 = .ok (.iload_n 1, 1) := by decide +kernel
theorem d_M_typeOf_6 : decode b_M_typeOf 6 = .ok (.bipush 25, 2) := by decide +kernel
theorem d_M_typeOf_8 : decode b_M_typeOf 8 = .ok (.if_icmp .le 7, 3) := by decide +kernel
theorem d_M_typeOf_11 : decode b_M_typeOf 11 = .ok (.iconst 1, 1) := by decide +kernel
theorem d_M_typeOf_12 : decode b_M_typeOf 12 = .ok (.goto 4, 3) := by decide +kernel
theorem d_M_typeOf_15 : decode b_M_typeOf 15 = .ok (.iconst 0, 1) := by decide +kernel
theorem d_M_typeOf_16 : decode b_M_typeOf 16 = .ok (.putfield 67, 3) := by decide +kernel
theorem d_M_typeOf_19 : decode b_M_typeOf 19 = .ok (.aload_n 0, 1) := by decide +kernel
theorem d_M_typeOf_20 : decode b_M_typeOf 20 = .ok (.getfield 67, 3) := by decide +kernel
theorem d_M_typeOf_23 : decode b_M_typeOf 23 = .ok (.ifCond .le 7, 3) := by decide +kernel
theorem d_M_typeOf_26 : decode b_M_typeOf 26 = .ok (.iconst 0, 1) := by decide +kernel
theorem d_M_typeOf_27 : decode b_M_typeOf 27 = .ok (.goto 9, 3) := by decide +kernel
theorem d_M_typeOf_30 : decode b_M_typeOf 30 = .ok (.aload_n 0, 1) := by decide +kernel
theorem d_M_typeOf_31 : decode b_M_typeOf 31 = .ok (.getfield 25, 3) := by decide +kernel
theorem d_M_typeOf_34 : decode b_M_typeOf 34 = .ok (.iload_n 1, 1) := by decide +kernel
theorem d_M_typeOf_35 : decode b_M_typeOf 35 = .ok (.iaload, 1) := by decide +kernel
theorem d_M_typeOf_36 : decode b_M_typeOf 36 = .ok (.ireturn, 1) := by decide +kernel
theorem d_M_saturated_0 : decode b_M_saturated 0 = .ok (.lload_n 0, 1) := by decide +kernel
theorem d_M_saturated_1 : decode b_M_saturated 1 = .ok (.ldc2_w 205, 3) := by decide +kernel
theorem d_M_saturated_4 : decode b_M_saturated 4 = .ok (.lcmp, 1) := by decide +kernel
theorem d_M_saturated_5 : decode b_M_saturated 5 = .ok (.ifCond .le 8, 3) := by decide +kernel
theorem d_M_saturated_8 : decode b_M_saturated 8 = .ok (.ldc 207, 2) := by decide +kernel
theorem d_M_saturated_10 : decode b_M_saturated 10 = .ok (.goto 18, 3) := by decide +kernel
theorem d_M_saturated_13 : decode b_M_saturated 13 = .ok (.lload_n 0, 1) := by decide +kernel
theorem d_M_saturated_14 : decode b_M_saturated 14 = .ok (.ldc2_w 208, 3) := by decide +kernel
theorem d_M_saturated_17 : decode b_M_saturated 17 = .ok (.lcmp, 1) := by decide +kernel
theorem d_M_saturated_18 : decode b_M_saturated 18 = .ok (.ifCond .ge 8, 3) := by decide +kernel
theorem d_M_saturated_21 : decode b_M_saturated 21 = .ok (.ldc 210, 2) := by decide +kernel
theorem d_M_saturated_23 : decode b_M_saturated 23 = .ok (.goto 5, 3) := by decide +kernel
theorem d_M_saturated_26 : decode b_M_saturated 26 = .ok (.lload_n 0, 1) := by decide +kernel
theorem d_M_saturated_27 : decode b_M_saturated 27 = .ok (.l2i, 1) := by decide +kernel
theorem d_M_saturated_28 : decode b_M_saturated 28 = .ok (.ireturn, 1) := by decide +kernel
theorem d_M_divided_0 : decode b_M_divided 0 = .ok (.iload_n 1, 1) := by decide +kernel
theorem d_M_divided_1 : decode b_M_divided 1 = .ok (.ifCond .ne 23, 3) := by decide +kernel
theorem d_M_divided_4 : decode b_M_divided 4 = .ok (.iload_n 0, 1) := by decide +kernel
theorem d_M_divided_5 : decode b_M_divided 5 = .ok (.ifCond .le 8, 3) := by decide +kernel
theorem d_M_divided_8 : decode b_M_divided 8 = .ok (.ldc 207, 2) := by decide +kernel
theorem d_M_divided_10 : decode b_M_divided 10 = .ok (.goto 13, 3) := by decide +kernel
theorem d_M_divided_13 : decode b_M_divided 13 = .ok (.iload_n 0, 1) := by decide +kernel
theorem d_M_divided_14 : decode b_M_divided 14 = .ok (.ifCond .ge 8, 3) := by decide +kernel
theorem d_M_divided_17 : decode b_M_divided 17 = .ok (.ldc 210, 2) := by decide +kernel
theorem d_M_divided_19 : decode b_M_divided 19 = .ok (.goto 4, 3) := by decide +kernel
theorem d_M_divided_22 : decode b_M_divided 22 = .ok (.iconst 0, 1) := by decide +kernel
theorem d_M_divided_23 : decode b_M_divided 23 = .ok (.ireturn, 1) := by decide +kernel
theorem d_M_divided_24 : decode b_M_divided 24 = .ok (.iload_n 0, 1) := by decide +kernel
theorem d_M_divided_25 : decode b_M_divided 25 = .ok (.i2l, 1) := by decide +kernel
theorem d_M_divided_26 : decode b_M_divided 26 = .ok (.ldc2_w 144, 3) := by decide +kernel
theorem d_M_divided_29 : decode b_M_divided 29 = .ok (.lmul, 1) := by decide +kernel
theorem d_M_divided_30 : decode b_M_divided 30 = .ok (.iload_n 1, 1) := by decide +kernel
theorem d_M_divided_31 : decode b_M_divided 31 = .ok (.i2l, 1) := by decide +kernel
theorem d_M_divided_32 : decode b_M_divided 32 = .ok (.ldiv, 1) := by decide +kernel
theorem d_M_divided_33 : decode b_M_divided 33 = .ok (.invokestatic 211, 3) := by decide +kernel
theorem d_M_divided_36 : decode b_M_divided 36 = .ok (.ireturn, 1) := by decide +kernel
theorem d_M_done_0 : decode b_M_done 0 = .ok (.iload_n 0, 1) := by decide +kernel
theorem d_M_done_1 : decode b_M_done 1 = .ok (.tableswitch 144 2 10 #[51, 60, 69, 81, 87, 98, 109, 121, 128], 51) := by decide +kernel
theorem d_M_done_52 : decode b_M_done 52 = .ok (.iload_n 1, 1) := by decide +kernel
theorem d_M_done_53 : decode b_M_done 53 = .ok (.i2l, 1) := by decide +kernel
theorem d_M_done_54 : decode b_M_done 54 = .ok (.iload_n 2, 1) := by decide +kernel
theorem d_M_done_55 : decode b_M_done 55 = .ok (.i2l, 1) := by decide +kernel
theorem d_M_done_56 : decode b_M_done 56 = .ok (.ladd, 1) := by decide +kernel
theorem d_M_done_57 : decode b_M_done 57 = .ok (.invokestatic 211, 3) := by decide +kernel
theorem d_M_done_60 : decode b_M_done 60 = .ok (.ireturn, 1) := by decide +kernel
theorem d_M_done_61 : decode b_M_done 61 = .ok (.iload_n 1, 1) := by decide +kernel
theorem d_M_done_62 : decode b_M_done 62 = .ok (.i2l, 1) := by decide +kernel
theorem d_M_done_63 : decode b_M_done 63 = .ok (.iload_n 2, 1) := by decide +kernel
theorem d_M_done_64 : decode b_M_done 64 = .ok (.i2l, 1) := by decide +kernel
theorem d_M_done_65 : decode b_M_done 65 = .ok (.lsub, 1) := by decide +kernel
theorem d_M_done_66 : decode b_M_done 66 = .ok (.invokestatic 211, 3) := by decide +kernel
theorem d_M_done_69 : decode b_M_done 69 = .ok (.ireturn, 1) := by decide +kernel
theorem d_M_done_70 : decode b_M_done 70 = .ok (.iload_n 1, 1) := by decide +kernel
theorem d_M_done_71 : decode b_M_done 71 = .ok (.i2l, 1) := by decide +kernel
theorem d_M_done_72 : decode b_M_done 72 = .ok (.iload_n 2, 1) := by decide +kernel
theorem d_M_done_73 : decode b_M_done 73 = .ok (.i2l, 1) := by decide +kernel
theorem d_M_done_74 : decode b_M_done 74 = .ok (.lmul, 1) := by decide +kernel
theorem d_M_done_75 : decode b_M_done 75 = .ok (.bipush 16, 2) := by decide +kernel
theorem d_M_done_77 : decode b_M_done 77 = .ok (.lshr, 1) := by decide +kernel
theorem d_M_done_78 : decode b_M_done 78 = .ok (.invokestatic 211, 3) := by decide +kernel
theorem d_M_done_81 : decode b_M_done 81 = .ok (.ireturn, 1) := by decide +kernel
theorem d_M_done_82 : decode b_M_done 82 = .ok (.iload_n 1, 1) := by decide +kernel
theorem d_M_done_83 : decode b_M_done 83 = .ok (.iload_n 2, 1) := by decide +kernel
theorem d_M_done_84 : decode b_M_done 84 = .ok (.invokestatic 215, 3) := by decide +kernel
theorem d_M_done_87 : decode b_M_done 87 = .ok (.ireturn, 1) := by decide +kernel
theorem d_M_done_88 : decode b_M_done 88 = .ok (.iload_n 1, 1) := by decide +kernel
theorem d_M_done_89 : decode b_M_done 89 = .ok (.iload_n 2, 1) := by decide +kernel
theorem d_M_done_90 : decode b_M_done 90 = .ok (.if_icmp .ge 7, 3) := by decide +kernel
theorem d_M_done_93 : decode b_M_done 93 = .ok (.iload_n 1, 1) := by decide +kernel
theorem d_M_done_94 : decode b_M_done 94 = .ok (.goto 4, 3) := by decide +kernel
theorem d_M_done_97 : decode b_M_done 97 = .ok (.iload_n 2, 1) := by decide +kernel
theorem d_M_done_98 : decode b_M_done 98 = .ok (.ireturn, 1) := by decide +kernel
theorem d_M_done_99 : decode b_M_done 99 = .ok (.iload_n 1, 1) := by decide +kernel
theorem d_M_done_100 : decode b_M_done 100 = .ok (.iload_n 2, 1) := by decide +kernel
theorem d_M_done_101 : decode b_M_done 101 = .ok (.if_icmp .le 7, 3) := by decide +kernel
theorem d_M_done_104 : decode b_M_done 104 = .ok (.iload_n 1, 1) := by decide +kernel
theorem d_M_done_105 : decode b_M_done 105 = .ok (.goto 4, 3) := by decide +kernel
theorem d_M_done_108 : decode b_M_done 108 = .ok (.iload_n 2, 1) := by decide +kernel
theorem d_M_done_109 : decode b_M_done 109 = .ok (.ireturn, 1) := by decide +kernel
theorem d_M_done_110 : decode b_M_done 110 = .ok (.iload_n 1, 1) := by decide +kernel
theorem d_M_done_111 : decode b_M_done 111 = .ok (.iload_n 2, 1) := by decide +kernel
theorem d_M_done_112 : decode b_M_done 112 = .ok (.if_icmp .gt 8, 3) := by decide +kernel
theorem d_M_done_115 : decode b_M_done 115 = .ok (.ldc 143, 2) := by decide +kernel
theorem d_M_done_117 : decode b_M_done 117 = .ok (.goto 4, 3) := by decide +kernel
theorem d_M_done_120 : decode b_M_done 120 = .ok (.iconst 0, 1) := by decide +kernel
theorem d_M_done_121 : decode b_M_done 121 = .ok (.ireturn, 1) := by decide +kernel
theorem d_M_done_122 : decode b_M_done 122 = .ok (.iload_n 1, 1) := by decide +kernel
theorem d_M_done_123 : decode b_M_done 123 = .ok (.i2l, 1) := by decide +kernel
theorem d_M_done_124 : decode b_M_done 124 = .ok (.lneg, 1) := by decide +kernel
theorem d_M_done_125 : decode b_M_done 125 = .ok (.invokestatic 211, 3) := by decide +kernel
theorem d_M_done_128 : decode b_M_done 128 = .ok (.ireturn, 1) := by decide +kernel
theorem d_M_done_129 : decode b_M_done 129 = .ok (.iload_n 1, 1) := by decide +kernel
theorem d_M_done_130 : decode b_M_done 130 = .ok (.ifCond .ge 9, 3) := by decide +kernel
theorem d_M_done_133 : decode b_M_done 133 = .ok (.iload_n 1, 1) := by decide +kernel
theorem d_M_done_134 : decode b_M_done 134 = .ok (.i2l, 1) := by decide +kernel
theorem d_M_done_135 : decode b_M_done 135 = .ok (.lneg, 1) := by decide +kernel
theorem d_M_done_136 : decode b_M_done 136 = .ok (.goto 5, 3) := by decide +kernel
theorem d_M_done_139 : decode b_M_done 139 = .ok (.iload_n 1, 1) := by decide +kernel
theorem d_M_done_140 : decode b_M_done 140 = .ok (.i2l, 1) := by decide +kernel
theorem d_M_done_141 : decode b_M_done 141 = .ok (.invokestatic 211, 3) := by decide +kernel
theorem d_M_done_144 : decode b_M_done 144 = .ok (.ireturn, 1) := by decide +kernel
theorem d_M_done_145 : decode b_M_done 145 = .ok (.iload_n 1, 1) := by decide +kernel
theorem d_M_done_146 : decode b_M_done 146 = .ok (.bipush 16, 2) := by decide +kernel
theorem d_M_done_148 : decode b_M_done 148 = .ok (.ishr, 1) := by decide +kernel
theorem d_M_done_149 : decode b_M_done 149 = .ok (.bipush 16, 2) := by decide +kernel
theorem d_M_done_151 : decode b_M_done 151 = .ok (.ishl, 1) := by decide +kernel
theorem d_M_done_152 : decode b_M_done 152 = .ok (.ireturn, 1) := by decide +kernel
theorem d_M_evaluate_0 : decode b_M_evaluate 0 = .ok (.iconst 0, 1) := by decide +kernel
theorem d_M_evaluate_1 : decode b_M_evaluate 1 = .ok (.istore 6, 2) := by decide +kernel
theorem d_M_evaluate_3 : decode b_M_evaluate 3 = .ok (.iload 6, 2) := by decide +kernel
theorem d_M_evaluate_5 : decode b_M_evaluate 5 = .ok (.iload_n 1, 1) := by decide +kernel
theorem d_M_evaluate_6 : decode b_M_evaluate 6 = .ok (.if_icmp .gt 146, 3) := by decide +kernel
theorem d_M_evaluate_9 : decode b_M_evaluate 9 = .ok (.aload_n 0, 1) := by decide +kernel
theorem d_M_evaluate_10 : decode b_M_evaluate 10 = .ok (.getfield 16, 3) := by decide +kernel
theorem d_M_evaluate_13 : decode b_M_evaluate 13 = .ok (.iload 6, 2) := by decide +kernel
theorem d_M_evaluate_15 : decode b_M_evaluate 15 = .ok (.iaload, 1) := by decide +kernel
theorem d_M_evaluate_16 : decode b_M_evaluate 16 = .ok (.istore 7, 2) := by decide +kernel
theorem d_M_evaluate_18 : decode b_M_evaluate 18 = .ok (.aload_n 0, 1) := by decide +kernel
theorem d_M_evaluate_19 : decode b_M_evaluate 19 = .ok (.getfield 13, 3) := by decide +kernel
theorem d_M_evaluate_22 : decode b_M_evaluate 22 = .ok (.iload 6, 2) := by decide +kernel
theorem d_M_evaluate_24 : decode b_M_evaluate 24 = .ok (.iaload, 1) := by decide +kernel
theorem d_M_evaluate_25 : decode b_M_evaluate 25 = .ok (.ifCond .ne 15, 3) := by decide +kernel
theorem d_M_evaluate_28 : decode b_M_evaluate 28 = .ok (.aload_n 0, 1) := by decide +kernel
theorem d_M_evaluate_29 : decode b_M_evaluate 29 = .ok (.getfield 64, 3) := by decide +kernel
theorem d_M_evaluate_32 : decode b_M_evaluate 32 = .ok (.iload 6, 2) := by decide +kernel
theorem d_M_evaluate_34 : decode b_M_evaluate 34 = .ok (.iload 7, 2) := by decide +kernel
theorem d_M_evaluate_36 : decode b_M_evaluate 36 = .ok (.iastore, 1) := by decide +kernel
theorem d_M_evaluate_37 : decode b_M_evaluate 37 = .ok (.goto 109, 3) := by decide +kernel
theorem d_M_evaluate_40 : decode b_M_evaluate 40 = .ok (.aload_n 0, 1) := by decide +kernel
theorem d_M_evaluate_41 : decode b_M_evaluate 41 = .ok (.getfield 13, 3) := by decide +kernel
theorem d_M_evaluate_44 : decode b_M_evaluate 44 = .ok (.iload 6, 2) := by decide +kernel
theorem d_M_evaluate_46 : decode b_M_evaluate 46 = .ok (.iaload, 1) := by decide +kernel
theorem d_M_evaluate_47 : decode b_M_evaluate 47 = .ok (.iconst 1, 1) := by decide +kernel
theorem d_M_evaluate_48 : decode b_M_evaluate 48 = .ok (.if_icmp .ne 62, 3) := by decide +kernel
theorem d_M_evaluate_51 : decode b_M_evaluate 51 = .ok (.aload_n 0, 1) := by decide +kernel
theorem d_M_evaluate_52 : decode b_M_evaluate 52 = .ok (.getfield 64, 3) := by decide +kernel
theorem d_M_evaluate_55 : decode b_M_evaluate 55 = .ok (.iload 6, 2) := by decide +kernel
theorem d_M_evaluate_57 : decode b_M_evaluate 57 = .ok (.iload 7, 2) := by decide +kernel
theorem d_M_evaluate_59 : decode b_M_evaluate 59 = .ok (.ifCond .ne 7, 3) := by decide +kernel
theorem d_M_evaluate_62 : decode b_M_evaluate 62 = .ok (.iload_n 2, 1) := by decide +kernel
theorem d_M_evaluate_63 : decode b_M_evaluate 63 = .ok (.goto 43, 3) := by decide +kernel
theorem d_M_evaluate_66 : decode b_M_evaluate 66 = .ok (.iload 7, 2) := by decide +kernel
theorem d_M_evaluate_68 : decode b_M_evaluate 68 = .ok (.iconst 1, 1) := by decide +kernel
theorem d_M_evaluate_69 : decode b_M_evaluate 69 = .ok (.if_icmp .ne 7, 3) := by decide +kernel
theorem d_M_evaluate_72 : decode b_M_evaluate 72 = .ok (.iload_n 3, 1) := by decide +kernel
theorem d_M_evaluate_73 : decode b_M_evaluate 73 = .ok (.goto 33, 3) := by decide +kernel
theorem d_M_evaluate_76 : decode b_M_evaluate 76 = .ok (.iload 7, 2) := by decide +kernel
theorem d_M_evaluate_78 : decode b_M_evaluate 78 = .ok (.iconst 2, 1) := by decide +kernel
theorem d_M_evaluate_79 : decode b_M_evaluate 79 = .ok (.if_icmp .ne 8, 3) := by decide +kernel
theorem d_M_evaluate_82 : decode b_M_evaluate 82 = .ok (.iload 4, 2) := by decide +kernel
theorem d_M_evaluate_84 : decode b_M_evaluate 84 = .ok (.goto 22, 3) := by decide +kernel
theorem d_M_evaluate_87 : decode b_M_evaluate 87 = .ok (.iload 5, 2) := by decide +kernel
theorem d_M_evaluate_89 : decode b_M_evaluate 89 = .ok (.bipush 40, 2) := by decide +kernel
theorem d_M_evaluate_91 : decode b_M_evaluate 91 = .ok (.bipush 8, 2) := by decide +kernel
theorem d_M_evaluate_93 : decode b_M_evaluate 93 = .ok (.iload 7, 2) := by decide +kernel
theorem d_M_evaluate_95 : decode b_M_evaluate 95 = .ok (.imul, 1) := by decide +kernel
theorem d_M_evaluate_96 : decode b_M_evaluate 96 = .ok (.isub, 1) := by decide +kernel
theorem d_M_evaluate_97 : decode b_M_evaluate 97 = .ok (.ishr, 1) := by decide +kernel
theorem d_M_evaluate_98 : decode b_M_evaluate 98 = .ok (.sipush 255, 3) := by decide +kernel
theorem d_M_evaluate_101 : decode b_M_evaluate 101 = .ok (.iand, 1) := by decide +kernel
theorem d_M_evaluate_102 : decode b_M_evaluate 102 = .ok (.sipush 256, 3) := by decide +kernel
theorem d_M_evaluate_105 : decode b_M_evaluate 105 = .ok (.imul, 1) := by decide +kernel
theorem d_M_evaluate_106 : decode b_M_evaluate 106 = .ok (.iastore, 1) := by decide +kernel
theorem d_M_evaluate_107 : decode b_M_evaluate 107 = .ok (.goto 39, 3) := by decide +kernel
theorem d_M_evaluate_110 : decode b_M_evaluate 110 = .ok (.aload_n 0, 1) := by decide +kernel
theorem d_M_evaluate_111 : decode b_M_evaluate 111 = .ok (.getfield 64, 3) := by decide +kernel
theorem d_M_evaluate_114 : decode b_M_evaluate 114 = .ok (.iload 6, 2) := by decide +kernel
theorem d_M_evaluate_116 : decode b_M_evaluate 116 = .ok (.aload_n 0, 1) := by decide +kernel
theorem d_M_evaluate_117 : decode b_M_evaluate 117 = .ok (.getfield 13, 3) := by decide +kernel
theorem d_M_evaluate_120 : decode b_M_evaluate 120 = .ok (.iload 6, 2) := by decide +kernel
theorem d_M_evaluate_122 : decode b_M_evaluate 122 = .ok (.iaload, 1) := by decide +kernel
theorem d_M_evaluate_123 : decode b_M_evaluate 123 = .ok (.aload_n 0, 1) := by decide +kernel
theorem d_M_evaluate_124 : decode b_M_evaluate 124 = .ok (.getfield 64, 3) := by decide +kernel
theorem d_M_evaluate_127 : decode b_M_evaluate 127 = .ok (.iload 7, 2) := by decide +kernel
theorem d_M_evaluate_129 : decode b_M_evaluate 129 = .ok (.iaload, 1) := by decide +kernel
theorem d_M_evaluate_130 : decode b_M_evaluate 130 = .ok (.aload_n 0, 1) := by decide +kernel
theorem d_M_evaluate_131 : decode b_M_evaluate 131 = .ok (.getfield 64, 3) := by decide +kernel
theorem d_M_evaluate_134 : decode b_M_evaluate 134 = .ok (.aload_n 0, 1) := by decide +kernel
theorem d_M_evaluate_135 : decode b_M_evaluate 135 = .ok (.getfield 19, 3) := by decide +kernel
theorem d_M_evaluate_138 : decode b_M_evaluate 138 = .ok (.iload 6, 2) := by decide +kernel
theorem d_M_evaluate_140 : decode b_M_evaluate 140 = .ok (.iaload, 1) := by decide +kernel
theorem d_M_evaluate_141 : decode b_M_evaluate 141 = .ok (.iaload, 1) := by decide +kernel
theorem d_M_evaluate_142 : decode b_M_evaluate 142 = .ok (.invokestatic 218, 3) := by decide +kernel
theorem d_M_evaluate_145 : decode b_M_evaluate 145 = .ok (.iastore, 1) := by decide +kernel
theorem d_M_evaluate_146 : decode b_M_evaluate 146 = .ok (.iinc 6 1, 3) := by decide +kernel
theorem d_M_evaluate_149 : decode b_M_evaluate 149 = .ok (.goto (-146), 3) := by decide +kernel
theorem d_M_evaluate_152 : decode b_M_evaluate 152 = .ok (.return_, 1) := by decide +kernel
theorem d_M_noColor_0 : decode b_M_noColor 0 = .ok (.iload_n 0, 1) := by decide +kernel
theorem d_M_noColor_1 : decode b_M_noColor 1 = .ok (.ifCond .lt 9, 3) := by decide +kernel
theorem d_M_noColor_4 : decode b_M_noColor 4 = .ok (.iload_n 0, 1) := by decide +kernel
theorem d_M_noColor_5 : decode b_M_noColor 5 = .ok (.ldc 221, 2) := by decide +kernel
theorem d_M_noColor_7 : decode b_M_noColor 7 = .ok (.if_icmp .le 7, 3) := by decide +kernel
theorem d_M_noColor_10 : decode b_M_noColor 10 = .ok (.iconst 1, 1) := by decide +kernel
theorem d_M_noColor_11 : decode b_M_noColor 11 = .ok (.goto 4, 3) := by decide +kernel
theorem d_M_noColor_14 : decode b_M_noColor 14 = .ok (.iconst 0, 1) := by decide +kernel
theorem d_M_noColor_15 : decode b_M_noColor 15 = .ok (.ireturn, 1) := by decide +kernel
theorem d_M_value_0 : decode b_M_value 0 = .ok (.aload_n 0, 1) := by decide +kernel
theorem d_M_value_1 : decode b_M_value 1 = .ok (.iload_n 1, 1) := by decide +kernel
theorem d_M_value_2 : decode b_M_value 2 = .ok (.ifCond .lt 11, 3) := by decide +kernel
theorem d_M_value_5 : decode b_M_value 5 = .ok (.iload_n 1, 1) := by decide +kernel
theorem d_M_value_6 : decode b_M_value 6 = .ok (.aload_n 0, 1) := by decide +kernel
theorem d_M_value_7 : decode b_M_value 7 = .ok (.getfield 192, 3) := by decide +kernel
theorem d_M_value_10 : decode b_M_value 10 = .ok (.if_icmp .lt 7, 3) := by decide +kernel
theorem d_M_value_13 : decode b_M_value 13 = .ok (.iconst 1, 1) := by decide +kernel
theorem d_M_value_14 : decode b_M_value 14 = .ok (.goto 16, 3) := by decide +kernel
theorem d_M_value_17 : decode b_M_value 17 = .ok (.iload 5, 2) := by decide +kernel
theorem d_M_value_19 : decode b_M_value 19 = .ok (.invokestatic 222, 3) := by decide +kernel
theorem d_M_value_22 : decode b_M_value 22 = .ok (.ifCond .eq 7, 3) := by decide +kernel
theorem d_M_value_25 : decode b_M_value 25 = .ok (.iconst 2, 1) := by decide +kernel
theorem d_M_value_26 : decode b_M_value 26 = .ok (.goto 4, 3) := by decide +kernel
theorem d_M_value_29 : decode b_M_value 29 = .ok (.iconst 0, 1) := by decide +kernel
theorem d_M_value_30 : decode b_M_value 30 = .ok (.putfield 67, 3) := by decide +kernel
theorem d_M_value_33 : decode b_M_value 33 = .ok (.aload_n 0, 1) := by decide +kernel
theorem d_M_value_34 : decode b_M_value 34 = .ok (.getfield 67, 3) := by decide +kernel
theorem d_M_value_37 : decode b_M_value 37 = .ok (.ifCond .le 5, 3) := by decide +kernel
theorem d_M_value_40 : decode b_M_value 40 = .ok (.iconst 0, 1) := by decide +kernel
theorem d_M_value_41 : decode b_M_value 41 = .ok (.ireturn, 1) := by decide +kernel
theorem d_M_value_42 : decode b_M_value 42 = .ok (.aload_n 0, 1) := by decide +kernel
theorem d_M_value_43 : decode b_M_value 43 = .ok (.iload_n 1, 1) := by decide +kernel
theorem d_M_value_44 : decode b_M_value 44 = .ok (.iload_n 2, 1) := by decide +kernel
theorem d_M_value_45 : decode b_M_value 45 = .ok (.iload_n 3, 1) := by decide +kernel
theorem d_M_value_46 : decode b_M_value 46 = .ok (.iload 4, 2) := by decide +kernel
theorem d_M_value_48 : decode b_M_value 48 = .ok (.iload 5, 2) := by decide +kernel
theorem d_M_value_50 : decode b_M_value 50 = .ok (.invokevirtual 225, 3) := by decide +kernel
theorem d_M_value_53 : decode b_M_value 53 = .ok (.aload_n 0, 1) := by decide +kernel
theorem d_M_value_54 : decode b_M_value 54 = .ok (.getfield 64, 3) := by decide +kernel
theorem d_M_value_57 : decode b_M_value 57 = .ok (.iload_n 1, 1) := by decide +kernel
theorem d_M_value_58 : decode b_M_value 58 = .ok (.iaload, 1) := by decide +kernel
theorem d_M_value_59 : decode b_M_value 59 = .ok (.ireturn, 1) := by decide +kernel
theorem d_M_noPoint_0 : decode b_M_noPoint 0 = .ok (.iload_n 0, 1) := by decide +kernel
theorem d_M_noPoint_1 : decode b_M_noPoint 1 = .ok (.ifCond .lt 18, 3) := by decide +kernel
theorem d_M_noPoint_4 : decode b_M_noPoint 4 = .ok (.iload_n 0, 1) := by decide +kernel
theorem d_M_noPoint_5 : decode b_M_noPoint 5 = .ok (.bipush 7, 2) := by decide +kernel
theorem d_M_noPoint_7 : decode b_M_noPoint 7 = .ok (.if_icmp .gt 12, 3) := by decide +kernel
theorem d_M_noPoint_10 : decode b_M_noPoint 10 = .ok (.iload_n 1, 1) := by decide +kernel
theorem d_M_noPoint_11 : decode b_M_noPoint 11 = .ok (.ifCond .lt 8, 3) := by decide +kernel
theorem d_M_noPoint_14 : decode b_M_noPoint 14 = .ok (.iload_n 1, 1) := by decide +kernel
theorem d_M_noPoint_15 : decode b_M_noPoint 15 = .ok (.iconst 3, 1) := by decide +kernel
theorem d_M_noPoint_16 : decode b_M_noPoint 16 = .ok (.if_icmp .le 7, 3) := by decide +kernel
theorem d_M_noPoint_19 : decode b_M_noPoint 19 = .ok (.iconst 1, 1) := by decide +kernel
theorem d_M_noPoint_20 : decode b_M_noPoint 20 = .ok (.goto 4, 3) := by decide +kernel
theorem d_M_noPoint_23 : decode b_M_noPoint 23 = .ok (.iconst 0, 1) := by decide +kernel
theorem d_M_noPoint_24 : decode b_M_noPoint 24 = .ok (.ireturn, 1) := by decide +kernel
theorem d_M_paint_0 : decode b_M_paint 0 = .ok (.aload_n 0, 1) := by decide +kernel
theorem d_M_paint_1 : decode b_M_paint 1 = .ok (.iload_n 1, 1) := by decide +kernel
theorem d_M_paint_2 : decode b_M_paint 2 = .ok (.iload_n 2, 1) := by decide +kernel
theorem d_M_paint_3 : decode b_M_paint 3 = .ok (.invokestatic 229, 3) := by decide +kernel
theorem d_M_paint_6 : decode b_M_paint 6 = .ok (.ifCond .eq 7, 3) := by decide +kernel
theorem d_M_paint_9 : decode b_M_paint 9 = .ok (.iconst 1, 1) := by decide +kernel
theorem d_M_paint_10 : decode b_M_paint 10 = .ok (.goto 15, 3) := by decide +kernel
theorem d_M_paint_13 : decode b_M_paint 13 = .ok (.iload_n 3, 1) := by decide +kernel
theorem d_M_paint_14 : decode b_M_paint 14 = .ok (.invokestatic 222, 3) := by decide +kernel
theorem d_M_paint_17 : decode b_M_paint 17 = .ok (.ifCond .eq 7, 3) := by decide +kernel
theorem d_M_paint_20 : decode b_M_paint 20 = .ok (.iconst 2, 1) := by decide +kernel
theorem d_M_paint_21 : decode b_M_paint 21 = .ok (.goto 4, 3) := by decide +kernel
theorem d_M_paint_24 : decode b_M_paint 24 = .ok (.iconst 0, 1) := by decide +kernel
theorem d_M_paint_25 : decode b_M_paint 25 = .ok (.putfield 67, 3) := by decide +kernel
theorem d_M_paint_28 : decode b_M_paint 28 = .ok (.aload_n 0, 1) := by decide +kernel
theorem d_M_paint_29 : decode b_M_paint 29 = .ok (.getfield 67, 3) := by decide +kernel
theorem d_M_paint_32 : decode b_M_paint 32 = .ok (.ifCond .ne 15, 3) := by decide +kernel
theorem d_M_paint_35 : decode b_M_paint 35 = .ok (.aload_n 0, 1) := by decide +kernel
theorem d_M_paint_36 : decode b_M_paint 36 = .ok (.getfield 58, 3) := by decide +kernel
theorem d_M_paint_39 : decode b_M_paint 39 = .ok (.bipush 8, 2) := by decide +kernel
theorem d_M_paint_41 : decode b_M_paint 41 = .ok (.iload_n 2, 1) := by decide +kernel
theorem d_M_paint_42 : decode b_M_paint 42 = .ok (.imul, 1) := by decide +kernel
theorem d_M_paint_43 : decode b_M_paint 43 = .ok (.iload_n 1, 1) := by decide +kernel
theorem d_M_paint_44 : decode b_M_paint 44 = .ok (.iadd, 1) := by decide +kernel
theorem d_M_paint_45 : decode b_M_paint 45 = .ok (.iload_n 3, 1) := by decide +kernel
theorem d_M_paint_46 : decode b_M_paint 46 = .ok (.iastore, 1) := by decide +kernel
theorem d_M_paint_47 : decode b_M_paint 47 = .ok (.return_, 1) := by decide +kernel
theorem d_M_channel_0 : decode b_M_channel 0 = .ok (.iload_n 0, 1) := by decide +kernel
theorem d_M_channel_1 : decode b_M_channel 1 = .ok (.bipush 8, 2) := by decide +kernel
theorem d_M_channel_3 : decode b_M_channel 3 = .ok (.ishr, 1) := by decide +kernel
theorem d_M_channel_4 : decode b_M_channel 4 = .ok (.istore_n 1, 1) := by decide +kernel
theorem d_M_channel_5 : decode b_M_channel 5 = .ok (.iload_n 1, 1) := by decide +kernel
theorem d_M_channel_6 : decode b_M_channel 6 = .ok (.ifCond .ge 7, 3) := by decide +kernel
theorem d_M_channel_9 : decode b_M_channel 9 = .ok (.iconst 0, 1) := by decide +kernel
theorem d_M_channel_10 : decode b_M_channel 10 = .ok (.goto 17, 3) := by decide +kernel
theorem d_M_channel_13 : decode b_M_channel 13 = .ok (.iload_n 1, 1) := by decide +kernel
theorem d_M_channel_14 : decode b_M_channel 14 = .ok (.sipush 255, 3) := by decide +kernel
theorem d_M_channel_17 : decode b_M_channel 17 = .ok (.if_icmp .le 9, 3) := by decide +kernel
theorem d_M_channel_20 : decode b_M_channel 20 = .ok (.sipush 255, 3) := by decide +kernel
theorem d_M_channel_23 : decode b_M_channel 23 = .ok (.goto 4, 3) := by decide +kernel
theorem d_M_channel_26 : decode b_M_channel 26 = .ok (.iload_n 1, 1) := by decide +kernel
theorem d_M_channel_27 : decode b_M_channel 27 = .ok (.ireturn, 1) := by decide +kernel
theorem d_M_run_0 : decode b_M_run 0 = .ok (.aload_n 0, 1) := by decide +kernel
theorem d_M_run_1 : decode b_M_run 1 = .ok (.aload_n 0, 1) := by decide +kernel
theorem d_M_run_2 : decode b_M_run 2 = .ok (.getfield 192, 3) := by decide +kernel
theorem d_M_run_5 : decode b_M_run 5 = .ok (.ifCond .ne 7, 3) := by decide +kernel
theorem d_M_run_8 : decode b_M_run 8 = .ok (.iconst 1, 1) := by decide +kernel
theorem d_M_run_9 : decode b_M_run 9 = .ok (.goto 4, 3) := by decide +kernel
theorem d_M_run_12 : decode b_M_run 12 = .ok (.iconst 0, 1) := by decide +kernel
theorem d_M_run_13 : decode b_M_run 13 = .ok (.putfield 67, 3) := by decide +kernel
theorem d_M_run_16 : decode b_M_run 16 = .ok (.aload_n 0, 1) := by decide +kernel
theorem d_M_run_17 : decode b_M_run 17 = .ok (.getfield 67, 3) := by decide +kernel
theorem d_M_run_20 : decode b_M_run 20 = .ok (.ifCond .le 4, 3) := by decide +kernel
theorem d_M_run_23 : decode b_M_run 23 = .ok (.return_, 1) := by decide +kernel
theorem d_M_run_24 : decode b_M_run 24 = .ok (.iconst 0, 1) := by decide +kernel
theorem d_M_run_25 : decode b_M_run 25 = .ok (.istore_n 2, 1) := by decide +kernel
theorem d_M_run_26 : decode b_M_run 26 = .ok (.iload_n 2, 1) := by decide +kernel
theorem d_M_run_27 : decode b_M_run 27 = .ok (.bipush 32, 2) := by decide +kernel
theorem d_M_run_29 : decode b_M_run 29 = .ok (.if_icmp .ge 96, 3) := by decide +kernel
theorem d_M_run_32 : decode b_M_run 32 = .ok (.aload_n 0, 1) := by decide +kernel
theorem d_M_run_33 : decode b_M_run 33 = .ok (.aload_n 0, 1) := by decide +kernel
theorem d_M_run_34 : decode b_M_run 34 = .ok (.getfield 192, 3) := by decide +kernel
theorem d_M_run_37 : decode b_M_run 37 = .ok (.iconst 1, 1) := by decide +kernel
theorem d_M_run_38 : decode b_M_run 38 = .ok (.isub, 1) := by decide +kernel
theorem d_M_run_39 : decode b_M_run 39 = .ok (.iload_n 2, 1) := by decide +kernel
theorem d_M_run_40 : decode b_M_run 40 = .ok (.bipush 8, 2) := by decide +kernel
theorem d_M_run_42 : decode b_M_run 42 = .ok (.irem, 1) := by decide +kernel
theorem d_M_run_43 : decode b_M_run 43 = .ok (.ldc 143, 2) := by decide +kernel
theorem d_M_run_45 : decode b_M_run 45 = .ok (.imul, 1) := by decide +kernel
theorem d_M_run_46 : decode b_M_run 46 = .ok (.iload_n 2, 1) := by decide +kernel
theorem d_M_run_47 : decode b_M_run 47 = .ok (.bipush 8, 2) := by decide +kernel
theorem d_M_run_49 : decode b_M_run 49 = .ok (.idiv, 1) := by decide +kernel
theorem d_M_run_50 : decode b_M_run 50 = .ok (.ldc 143, 2) := by decide +kernel
theorem d_M_run_52 : decode b_M_run 52 = .ok (.imul, 1) := by decide +kernel
theorem d_M_run_53 : decode b_M_run 53 = .ok (.iload_n 1, 1) := by decide +kernel
theorem d_M_run_54 : decode b_M_run 54 = .ok (.aload_n 0, 1) := by decide +kernel
theorem d_M_run_55 : decode b_M_run 55 = .ok (.getfield 58, 3) := by decide +kernel
theorem d_M_run_58 : decode b_M_run 58 = .ok (.iload_n 2, 1) := by decide +kernel
theorem d_M_run_59 : decode b_M_run 59 = .ok (.iaload, 1) := by decide +kernel
theorem d_M_run_60 : decode b_M_run 60 = .ok (.invokevirtual 225, 3) := by decide +kernel
theorem d_M_run_63 : decode b_M_run 63 = .ok (.aload_n 0, 1) := by decide +kernel
theorem d_M_run_64 : decode b_M_run 64 = .ok (.getfield 61, 3) := by decide +kernel
theorem d_M_run_67 : decode b_M_run 67 = .ok (.iload_n 2, 1) := by decide +kernel
theorem d_M_run_68 : decode b_M_run 68 = .ok (.aload_n 0, 1) := by decide +kernel
theorem d_M_run_69 : decode b_M_run 69 = .ok (.getfield 64, 3) := by decide +kernel
theorem d_M_run_72 : decode b_M_run 72 = .ok (.aload_n 0, 1) := by decide +kernel
theorem d_M_run_73 : decode b_M_run 73 = .ok (.getfield 22, 3) := by decide +kernel
theorem d_M_run_76 : decode b_M_run 76 = .ok (.iconst 0, 1) := by decide +kernel
theorem d_M_run_77 : decode b_M_run 77 = .ok (.iaload, 1) := by decide +kernel
theorem d_M_run_78 : decode b_M_run 78 = .ok (.iaload, 1) := by decide +kernel
theorem d_M_run_79 : decode b_M_run 79 = .ok (.invokestatic 233, 3) := by decide +kernel
theorem d_M_run_82 : decode b_M_run 82 = .ok (.bipush 16, 2) := by decide +kernel
theorem d_M_run_84 : decode b_M_run 84 = .ok (.ishl, 1) := by decide +kernel
theorem d_M_run_85 : decode b_M_run 85 = .ok (.aload_n 0, 1) := by decide +kernel
theorem d_M_run_86 : decode b_M_run 86 = .ok (.getfield 64, 3) := by decide +kernel
theorem d_M_run_89 : decode b_M_run 89 = .ok (.aload_n 0, 1) := by decide +kernel
theorem d_M_run_90 : decode b_M_run 90 = .ok (.getfield 22, 3) := by decide +kernel
theorem d_M_run_93 : decode b_M_run 93 = .ok (.iconst 1, 1) := by decide +kernel
theorem d_M_run_94 : decode b_M_run 94 = .ok (.iaload, 1) := by decide +kernel
theorem d_M_run_95 : decode b_M_run 95 = .ok (.iaload, 1) := by decide +kernel
theorem d_M_run_96 : decode b_M_run 96 = .ok (.invokestatic 233, 3) := by decide +kernel
theorem d_M_run_99 : decode b_M_run 99 = .ok (.bipush 8, 2) := by decide +kernel
theorem d_M_run_101 : decode b_M_run 101 = .ok (.ishl, 1) := by decide +kernel
theorem d_M_run_102 : decode b_M_run 102 = .ok (.ior, 1) := by decide +kernel
theorem d_M_run_103 : decode b_M_run 103 = .ok (.aload_n 0, 1) := by decide +kernel
theorem d_M_run_104 : decode b_M_run 104 = .ok (.getfield 64, 3) := by decide +kernel
theorem d_M_run_107 : decode b_M_run 107 = .ok (.aload_n 0, 1) := by decide +kernel
theorem d_M_run_108 : decode b_M_run 108 = .ok (.getfield 22, 3) := by decide +kernel
theorem d_M_run_111 : decode b_M_run 111 = .ok (.iconst 2, 1) := by decide +kernel
theorem d_M_run_112 : decode b_M_run 112 = .ok (.iaload, 1) := by decide +kernel
theorem d_M_run_113 : decode b_M_run 113 = .ok (.iaload, 1) := by decide +kernel
theorem d_M_run_114 : decode b_M_run 114 = .ok (.invokestatic 233, 3) := by decide +kernel
theorem d_M_run_117 : decode b_M_run 117 = .ok (.ior, 1) := by decide +kernel
theorem d_M_run_118 : decode b_M_run 118 = .ok (.iastore, 1) := by decide +kernel
theorem d_M_run_119 : decode b_M_run 119 = .ok (.iinc 2 1, 3) := by decide +kernel
theorem d_M_run_122 : decode b_M_run 122 = .ok (.goto (-96), 3) := by decide +kernel
theorem d_M_run_125 : decode b_M_run 125 = .ok (.iconst 0, 1) := by decide +kernel
theorem d_M_run_126 : decode b_M_run 126 = .ok (.istore_n 2, 1) := by decide +kernel
theorem d_M_run_127 : decode b_M_run 127 = .ok (.iload_n 2, 1) := by decide +kernel
theorem d_M_run_128 : decode b_M_run 128 = .ok (.bipush 32, 2) := by decide +kernel
theorem d_M_run_130 : decode b_M_run 130 = .ok (.if_icmp .ge 21, 3) := by decide +kernel
theorem d_M_run_133 : decode b_M_run 133 = .ok (.aload_n 0, 1) := by decide +kernel
theorem d_M_run_134 : decode b_M_run 134 = .ok (.getfield 58, 3) := by decide +kernel
theorem d_M_run_137 : decode b_M_run 137 = .ok (.iload_n 2, 1) := by decide +kernel
theorem d_M_run_138 : decode b_M_run 138 = .ok (.aload_n 0, 1) := by decide +kernel
theorem d_M_run_139 : decode b_M_run 139 = .ok (.getfield 61, 3) := by decide +kernel
theorem d_M_run_142 : decode b_M_run 142 = .ok (.iload_n 2, 1) := by decide +kernel
theorem d_M_run_143 : decode b_M_run 143 = .ok (.iaload, 1) := by decide +kernel
theorem d_M_run_144 : decode b_M_run 144 = .ok (.iastore, 1) := by decide +kernel
theorem d_M_run_145 : decode b_M_run 145 = .ok (.iinc 2 1, 3) := by decide +kernel
theorem d_M_run_148 : decode b_M_run 148 = .ok (.goto (-21), 3) := by decide +kernel
theorem d_M_run_151 : decode b_M_run 151 = .ok (.return_, 1) := by decide +kernel
theorem d_M_pixel_0 : decode b_M_pixel 0 = .ok (.aload_n 0, 1) := by decide +kernel
theorem d_M_pixel_1 : decode b_M_pixel 1 = .ok (.iload_n 1, 1) := by decide +kernel
theorem d_M_pixel_2 : decode b_M_pixel 2 = .ok (.iload_n 2, 1) := by decide +kernel
theorem d_M_pixel_3 : decode b_M_pixel 3 = .ok (.invokestatic 229, 3) := by decide +kernel
theorem d_M_pixel_6 : decode b_M_pixel 6 = .ok (.ifCond .eq 7, 3) := by decide +kernel
theorem d_M_pixel_9 : decode b_M_pixel 9 = .ok (.iconst 1, 1) := by decide +kernel
theorem d_M_pixel_10 : decode b_M_pixel 10 = .ok (.goto 4, 3) := by decide +kernel
theorem d_M_pixel_13 : decode b_M_pixel 13 = .ok (.iconst 0, 1) := by decide +kernel
theorem d_M_pixel_14 : decode b_M_pixel 14 = .ok (.putfield 67, 3) := by decide +kernel
theorem d_M_pixel_17 : decode b_M_pixel 17 = .ok (.aload_n 0, 1) := by decide +kernel
theorem d_M_pixel_18 : decode b_M_pixel 18 = .ok (.getfield 67, 3) := by decide +kernel
theorem d_M_pixel_21 : decode b_M_pixel 21 = .ok (.ifCond .le 7, 3) := by decide +kernel
theorem d_M_pixel_24 : decode b_M_pixel 24 = .ok (.iconst 0, 1) := by decide +kernel
theorem d_M_pixel_25 : decode b_M_pixel 25 = .ok (.goto 14, 3) := by decide +kernel
theorem d_M_pixel_28 : decode b_M_pixel 28 = .ok (.aload_n 0, 1) := by decide +kernel
theorem d_M_pixel_29 : decode b_M_pixel 29 = .ok (.getfield 58, 3) := by decide +kernel
theorem d_M_pixel_32 : decode b_M_pixel 32 = .ok (.bipush 8, 2) := by decide +kernel
theorem d_M_pixel_34 : decode b_M_pixel 34 = .ok (.iload_n 2, 1) := by decide +kernel
theorem d_M_pixel_35 : decode b_M_pixel 35 = .ok (.imul, 1) := by decide +kernel
theorem d_M_pixel_36 : decode b_M_pixel 36 = .ok (.iload_n 1, 1) := by decide +kernel
theorem d_M_pixel_37 : decode b_M_pixel 37 = .ok (.iadd, 1) := by decide +kernel
theorem d_M_pixel_38 : decode b_M_pixel 38 = .ok (.iaload, 1) := by decide +kernel
theorem d_M_pixel_39 : decode b_M_pixel 39 = .ok (.ireturn, 1) := by decide +kernel
