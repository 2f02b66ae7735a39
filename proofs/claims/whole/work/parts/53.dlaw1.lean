theorem d_L_law_0 : decode code 0 = .ok (.new 8, 3) := by decide +kernel
theorem d_L_law_3 : decode code 3 = .ok (.dup, 1) := by decide +kernel
theorem d_L_law_4 : decode code 4 = .ok (.invokespecial 44, 3) := by decide +kernel
theorem d_L_law_7 : decode code 7 = .ok (.astore_n 1, 1) := by decide +kernel
theorem d_L_law_8 : decode code 8 = .ok (.new 45, 3) := by decide +kernel
theorem d_L_law_11 : decode code 11 = .ok (.dup, 1) := by decide +kernel
theorem d_L_law_12 : decode code 12 = .ok (.invokespecial 47, 3) := by decide +kernel
theorem d_L_law_15 : decode code 15 = .ok (.astore_n 2, 1) := by decide +kernel
theorem d_L_law_16 : decode code 16 = .ok (.iconst 1, 1) := by decide +kernel
theorem d_L_law_17 : decode code 17 = .ok (.newarray .long, 2) := by decide +kernel
theorem d_L_law_19 : decode code 19 = .ok (.astore_n 3, 1) := by decide +kernel
theorem d_L_law_20 : decode code 20 = .ok (.iconst 0, 1) := by decide +kernel
theorem d_L_law_21 : decode code 21 = .ok (.istore 4, 2) := by decide +kernel
theorem d_L_law_23 : decode code 23 = .ok (.iload 4, 2) := by decide +kernel
theorem d_L_law_25 : decode code 25 = .ok (.aload_n 0, 1) := by decide +kernel
theorem d_L_law_26 : decode code 26 = .ok (.arraylength, 1) := by decide +kernel
theorem d_L_law_27 : decode code 27 = .ok (.bipush 6, 2) := by decide +kernel
theorem d_L_law_29 : decode code 29 = .ok (.isub, 1) := by decide +kernel
theorem d_L_law_30 : decode code 30 = .ok (.if_icmp .gt 617, 3) := by decide +kernel
theorem d_L_law_33 : decode code 33 = .ok (.aload_n 0, 1) := by decide +kernel
theorem d_L_law_34 : decode code 34 = .ok (.iload 4, 2) := by decide +kernel
theorem d_L_law_36 : decode code 36 = .ok (.iaload, 1) := by decide +kernel
theorem d_L_law_37 : decode code 37 = .ok (.bipush 15, 2) := by decide +kernel
theorem d_L_law_39 : decode code 39 = .ok (.iand, 1) := by decide +kernel
theorem d_L_law_40 : decode code 40 = .ok (.tableswitch 601 0 10 #[60, 116, 127, 140, 153, 221, 277, 333, 437, 497, 533], 60) := by decide +kernel
theorem d_L_law_100 : decode code 100 = .ok (.aload_n 1, 1) := by decide +kernel
theorem d_L_law_101 : decode code 101 = .ok (.aload_n 0, 1) := by decide +kernel
theorem d_L_law_102 : decode code 102 = .ok (.iload 4, 2) := by decide +kernel
theorem d_L_law_104 : decode code 104 = .ok (.iconst 1, 1) := by decide +kernel
theorem d_L_law_105 : decode code 105 = .ok (.iadd, 1) := by decide +kernel
theorem d_L_law_106 : decode code 106 = .ok (.iaload, 1) := by decide +kernel
theorem d_L_law_107 : decode code 107 = .ok (.aload_n 3, 1) := by decide +kernel
theorem d_L_law_108 : decode code 108 = .ok (.invokestatic 48, 3) := by decide +kernel
theorem d_L_law_111 : decode code 111 = .ok (.istore 5, 2) := by decide +kernel
theorem d_L_law_113 : decode code 113 = .ok (.aload_n 2, 1) := by decide +kernel
theorem d_L_law_114 : decode code 114 = .ok (.aload_n 0, 1) := by decide +kernel
theorem d_L_law_115 : decode code 115 = .ok (.iload 4, 2) := by decide +kernel
theorem d_L_law_117 : decode code 117 = .ok (.iconst 1, 1) := by decide +kernel
theorem d_L_law_118 : decode code 118 = .ok (.iadd, 1) := by decide +kernel
theorem d_L_law_119 : decode code 119 = .ok (.iaload, 1) := by decide +kernel
theorem d_L_law_120 : decode code 120 = .ok (.invokevirtual 53, 3) := by decide +kernel
theorem d_L_law_123 : decode code 123 = .ok (.istore 6, 2) := by decide +kernel
theorem d_L_law_125 : decode code 125 = .ok (.aload_n 2, 1) := by decide +kernel
theorem d_L_law_126 : decode code 126 = .ok (.invokevirtual 54, 3) := by decide +kernel
theorem d_L_law_129 : decode code 129 = .ok (.iload 5, 2) := by decide +kernel
theorem d_L_law_131 : decode code 131 = .ok (.if_icmp .eq 5, 3) := by decide +kernel
theorem d_L_law_134 : decode code 134 = .ok (.iconst 0, 1) := by decide +kernel
theorem d_L_law_135 : decode code 135 = .ok (.ireturn, 1) := by decide +kernel
theorem d_L_law_136 : decode code 136 = .ok (.iload 5, 2) := by decide +kernel
theorem d_L_law_138 : decode code 138 = .ok (.ifCond .ne 15, 3) := by decide +kernel
theorem d_L_law_141 : decode code 141 = .ok (.aload_n 3, 1) := by decide +kernel
theorem d_L_law_142 : decode code 142 = .ok (.iconst 0, 1) := by decide +kernel
theorem d_L_law_143 : decode code 143 = .ok (.laload, 1) := by decide +kernel
theorem d_L_law_144 : decode code 144 = .ok (.iload 6, 2) := by decide +kernel
theorem d_L_law_146 : decode code 146 = .ok (.i2l, 1) := by decide +kernel
theorem d_L_law_147 : decode code 147 = .ok (.lcmp, 1) := by decide +kernel
theorem d_L_law_148 : decode code 148 = .ok (.ifCond .eq 5, 3) := by decide +kernel
theorem d_L_law_151 : decode code 151 = .ok (.iconst 0, 1) := by decide +kernel
theorem d_L_law_152 : decode code 152 = .ok (.ireturn, 1) := by decide +kernel
theorem d_L_law_153 : decode code 153 = .ok (.goto 488, 3) := by decide +kernel
theorem d_L_law_156 : decode code 156 = .ok (.aload_n 1, 1) := by decide +kernel
theorem d_L_law_157 : decode code 157 = .ok (.invokevirtual 58, 3) := by decide +kernel
theorem d_L_law_160 : decode code 160 = .ok (.aload_n 2, 1) := by decide +kernel
theorem d_L_law_161 : decode code 161 = .ok (.invokevirtual 61, 3) := by decide +kernel
theorem d_L_law_164 : decode code 164 = .ok (.goto 477, 3) := by decide +kernel
theorem d_L_law_167 : decode code 167 = .ok (.aload_n 1, 1) := by decide +kernel
theorem d_L_law_168 : decode code 168 = .ok (.invokevirtual 62, 3) := by decide +kernel
theorem d_L_law_171 : decode code 171 = .ok (.aload_n 2, 1) := by decide +kernel
theorem d_L_law_172 : decode code 172 = .ok (.invokevirtual 66, 3) := by decide +kernel
theorem d_L_law_175 : decode code 175 = .ok (.if_icmp .eq 466, 3) := by decide +kernel
theorem d_L_law_178 : decode code 178 = .ok (.iconst 0, 1) := by decide +kernel
theorem d_L_law_179 : decode code 179 = .ok (.ireturn, 1) := by decide +kernel
theorem d_L_law_180 : decode code 180 = .ok (.aload_n 1, 1) := by decide +kernel
theorem d_L_law_181 : decode code 181 = .ok (.invokevirtual 67, 3) := by decide +kernel
theorem d_L_law_184 : decode code 184 = .ok (.aload_n 2, 1) := by decide +kernel
theorem d_L_law_185 : decode code 185 = .ok (.invokevirtual 70, 3) := by decide +kernel
theorem d_L_law_188 : decode code 188 = .ok (.if_icmp .eq 453, 3) := by decide +kernel
theorem d_L_law_191 : decode code 191 = .ok (.iconst 0, 1) := by decide +kernel
theorem d_L_law_192 : decode code 192 = .ok (.ireturn, 1) := by decide +kernel
theorem d_L_law_193 : decode code 193 = .ok (.aload_n 1, 1) := by decide +kernel
theorem d_L_law_194 : decode code 194 = .ok (.aload_n 0, 1) := by decide +kernel
theorem d_L_law_195 : decode code 195 = .ok (.iload 4, 2) := by decide +kernel
theorem d_L_law_197 : decode code 197 = .ok (.iconst 1, 1) := by decide +kernel
theorem d_L_law_198 : decode code 198 = .ok (.iadd, 1) := by decide +kernel
theorem d_L_law_199 : decode code 199 = .ok (.iaload, 1) := by decide +kernel
theorem d_L_law_200 : decode code 200 = .ok (.aload_n 0, 1) := by decide +kernel
theorem d_L_law_201 : decode code 201 = .ok (.iload 4, 2) := by decide +kernel
theorem d_L_law_203 : decode code 203 = .ok (.iconst 2, 1) := by decide +kernel
theorem d_L_law_204 : decode code 204 = .ok (.iadd, 1) := by decide +kernel
theorem d_L_law_205 : decode code 205 = .ok (.iaload, 1) := by decide +kernel
theorem d_L_law_206 : decode code 206 = .ok (.aload_n 3, 1) := by decide +kernel
theorem d_L_law_207 : decode code 207 = .ok (.invokestatic 71, 3) := by decide +kernel
theorem d_L_law_210 : decode code 210 = .ok (.istore 5, 2) := by decide +kernel
theorem d_L_law_212 : decode code 212 = .ok (.aload_n 2, 1) := by decide +kernel
theorem d_L_law_213 : decode code 213 = .ok (.aload_n 0, 1) := by decide +kernel
theorem d_L_law_214 : decode code 214 = .ok (.iload 4, 2) := by decide +kernel
theorem d_L_law_216 : decode code 216 = .ok (.iconst 1, 1) := by decide +kernel
theorem d_L_law_217 : decode code 217 = .ok (.iadd, 1) := by decide +kernel
theorem d_L_law_218 : decode code 218 = .ok (.iaload, 1) := by decide +kernel
theorem d_L_law_219 : decode code 219 = .ok (.aload_n 0, 1) := by decide +kernel
theorem d_L_law_220 : decode code 220 = .ok (.iload 4, 2) := by decide +kernel
theorem d_L_law_222 : decode code 222 = .ok (.iconst 2, 1) := by decide +kernel
theorem d_L_law_223 : decode code 223 = .ok (.iadd, 1) := by decide +kernel
theorem d_L_law_224 : decode code 224 = .ok (.iaload, 1) := by decide +kernel
theorem d_L_law_225 : decode code 225 = .ok (.invokevirtual 74, 3) := by decide +kernel
theorem d_L_law_228 : decode code 228 = .ok (.istore 6, 2) := by decide +kernel
theorem d_L_law_230 : decode code 230 = .ok (.aload_n 2, 1) := by decide +kernel
theorem d_L_law_231 : decode code 231 = .ok (.invokevirtual 54, 3) := by decide +kernel
theorem d_L_law_234 : decode code 234 = .ok (.iload 5, 2) := by decide +kernel
theorem d_L_law_236 : decode code 236 = .ok (.if_icmp .eq 5, 3) := by decide +kernel
theorem d_L_law_239 : decode code 239 = .ok (.iconst 0, 1) := by decide +kernel
theorem d_L_law_240 : decode code 240 = .ok (.ireturn, 1) := by decide +kernel
theorem d_L_law_241 : decode code 241 = .ok (.iload 5, 2) := by decide +kernel
theorem d_L_law_243 : decode code 243 = .ok (.ifCond .ne 15, 3) := by decide +kernel
theorem d_L_law_246 : decode code 246 = .ok (.aload_n 3, 1) := by decide +kernel
theorem d_L_law_247 : decode code 247 = .ok (.iconst 0, 1) := by decide +kernel
theorem d_L_law_248 : decode code 248 = .ok (.laload, 1) := by decide +kernel
theorem d_L_law_249 : decode code 249 = .ok (.iload 6, 2) := by decide +kernel
theorem d_L_law_251 : decode code 251 = .ok (.i2l, 1) := by decide +kernel
theorem d_L_law_252 : decode code 252 = .ok (.lcmp, 1) := by decide +kernel
theorem d_L_law_253 : decode code 253 = .ok (.ifCond .eq 5, 3) := by decide +kernel
theorem d_L_law_256 : decode code 256 = .ok (.iconst 0, 1) := by decide +kernel
theorem d_L_law_257 : decode code 257 = .ok (.ireturn, 1) := by decide +kernel
theorem d_L_law_258 : decode code 258 = .ok (.goto 383, 3) := by decide +kernel
theorem d_L_law_261 : decode code 261 = .ok (.aload_n 1, 1) := by decide +kernel
theorem d_L_law_262 : decode code 262 = .ok (.aload_n 0, 1) := by decide +kernel
theorem d_L_law_263 : decode code 263 = .ok (.iload 4, 2) := by decide +kernel
theorem d_L_law_265 : decode code 265 = .ok (.iconst 1, 1) := by decide +kernel
theorem d_L_law_266 : decode code 266 = .ok (.iadd, 1) := by decide +kernel
theorem d_L_law_267 : decode code 267 = .ok (.iaload, 1) := by decide +kernel
