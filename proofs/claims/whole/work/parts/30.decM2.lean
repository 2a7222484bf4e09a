theorem d_Mo_gcd_0 : decode c_Mo_gcd 0 = .ok (.lload_n 0, 1) := by decide +kernel
theorem d_Mo_gcd_1 : decode c_Mo_gcd 1 = .ok (.lstore 4, 2) := by decide +kernel
theorem d_Mo_gcd_3 : decode c_Mo_gcd 3 = .ok (.lload_n 2, 1) := by decide +kernel
theorem d_Mo_gcd_4 : decode c_Mo_gcd 4 = .ok (.lstore 6, 2) := by decide +kernel
theorem d_Mo_gcd_6 : decode c_Mo_gcd 6 = .ok (.lload 6, 2) := by decide +kernel
theorem d_Mo_gcd_8 : decode c_Mo_gcd 8 = .ok (.lconst 0, 1) := by decide +kernel
theorem d_Mo_gcd_9 : decode c_Mo_gcd 9 = .ok (.lcmp, 1) := by decide +kernel
theorem d_Mo_gcd_10 : decode c_Mo_gcd 10 = .ok (.ifCond .eq 21, 3) := by decide +kernel
theorem d_Mo_gcd_13 : decode c_Mo_gcd 13 = .ok (.lload 4, 2) := by decide +kernel
theorem d_Mo_gcd_15 : decode c_Mo_gcd 15 = .ok (.lload 6, 2) := by decide +kernel
theorem d_Mo_gcd_17 : decode c_Mo_gcd 17 = .ok (.lrem, 1) := by decide +kernel
theorem d_Mo_gcd_18 : decode c_Mo_gcd 18 = .ok (.lstore 8, 2) := by decide +kernel
theorem d_Mo_gcd_20 : decode c_Mo_gcd 20 = .ok (.lload 6, 2) := by decide +kernel
theorem d_Mo_gcd_22 : decode c_Mo_gcd 22 = .ok (.lstore 4, 2) := by decide +kernel
theorem d_Mo_gcd_24 : decode c_Mo_gcd 24 = .ok (.lload 8, 2) := by decide +kernel
theorem d_Mo_gcd_26 : decode c_Mo_gcd 26 = .ok (.lstore 6, 2) := by decide +kernel
theorem d_Mo_gcd_28 : decode c_Mo_gcd 28 = .ok (.goto (-22), 3) := by decide +kernel
theorem d_Mo_gcd_31 : decode c_Mo_gcd 31 = .ok (.lload 4, 2) := by decide +kernel
theorem d_Mo_gcd_33 : decode c_Mo_gcd 33 = .ok (.lreturn, 1) := by decide +kernel
theorem d_Mo_lowest_0 : decode c_Mo_lowest 0 = .ok (.lload_n 0, 1) := by decide +kernel
theorem d_Mo_lowest_1 : decode c_Mo_lowest 1 = .ok (.lload_n 2, 1) := by decide +kernel
theorem d_Mo_lowest_2 : decode c_Mo_lowest 2 = .ok (.invokestatic 141, 3) := by decide +kernel
theorem d_Mo_lowest_5 : decode c_Mo_lowest 5 = .ok (.lstore 5, 2) := by decide +kernel
theorem d_Mo_lowest_7 : decode c_Mo_lowest 7 = .ok (.iload 4, 2) := by decide +kernel
theorem d_Mo_lowest_9 : decode c_Mo_lowest 9 = .ok (.ifCond .ne 10, 3) := by decide +kernel
theorem d_Mo_lowest_12 : decode c_Mo_lowest 12 = .ok (.lload_n 0, 1) := by decide +kernel
theorem d_Mo_lowest_13 : decode c_Mo_lowest 13 = .ok (.lload 5, 2) := by decide +kernel
theorem d_Mo_lowest_15 : decode c_Mo_lowest 15 = .ok (.ldiv, 1) := by decide +kernel
theorem d_Mo_lowest_16 : decode c_Mo_lowest 16 = .ok (.goto 7, 3) := by decide +kernel
theorem d_Mo_lowest_19 : decode c_Mo_lowest 19 = .ok (.lload_n 2, 1) := by decide +kernel
theorem d_Mo_lowest_20 : decode c_Mo_lowest 20 = .ok (.lload 5, 2) := by decide +kernel
theorem d_Mo_lowest_22 : decode c_Mo_lowest 22 = .ok (.ldiv, 1) := by decide +kernel
theorem d_Mo_lowest_23 : decode c_Mo_lowest 23 = .ok (.lreturn, 1) := by decide +kernel
theorem d_Mo_bitsOf_0 : decode c_Mo_bitsOf 0 = .ok (.iconst 0, 1) := by decide +kernel
theorem d_Mo_bitsOf_1 : decode c_Mo_bitsOf 1 = .ok (.istore_n 2, 1) := by decide +kernel
theorem d_Mo_bitsOf_2 : decode c_Mo_bitsOf 2 = .ok (.iconst 0, 1) := by decide +kernel
theorem d_Mo_bitsOf_3 : decode c_Mo_bitsOf 3 = .ok (.istore_n 3, 1) := by decide +kernel
theorem d_Mo_bitsOf_4 : decode c_Mo_bitsOf 4 = .ok (.iload_n 3, 1) := by decide +kernel
theorem d_Mo_bitsOf_5 : decode c_Mo_bitsOf 5 = .ok (.aload_n 0, 1) := by decide +kernel
theorem d_Mo_bitsOf_6 : decode c_Mo_bitsOf 6 = .ok (.getfield 110, 3) := by decide +kernel
theorem d_Mo_bitsOf_9 : decode c_Mo_bitsOf 9 = .ok (.if_icmp .ge 31, 3) := by decide +kernel
theorem d_Mo_bitsOf_12 : decode c_Mo_bitsOf 12 = .ok (.aload_n 0, 1) := by decide +kernel
theorem d_Mo_bitsOf_13 : decode c_Mo_bitsOf 13 = .ok (.getfield 44, 3) := by decide +kernel
theorem d_Mo_bitsOf_16 : decode c_Mo_bitsOf 16 = .ok (.iload_n 3, 1) := by decide +kernel
theorem d_Mo_bitsOf_17 : decode c_Mo_bitsOf 17 = .ok (.iaload, 1) := by decide +kernel
theorem d_Mo_bitsOf_18 : decode c_Mo_bitsOf 18 = .ok (.iload_n 1, 1) := by decide +kernel
theorem d_Mo_bitsOf_19 : decode c_Mo_bitsOf 19 = .ok (.if_icmp .ne 13, 3) := by decide +kernel
theorem d_Mo_bitsOf_22 : decode c_Mo_bitsOf 22 = .ok (.iload_n 2, 1) := by decide +kernel
theorem d_Mo_bitsOf_23 : decode c_Mo_bitsOf 23 = .ok (.aload_n 0, 1) := by decide +kernel
theorem d_Mo_bitsOf_24 : decode c_Mo_bitsOf 24 = .ok (.iload_n 3, 1) := by decide +kernel
theorem d_Mo_bitsOf_25 : decode c_Mo_bitsOf 25 = .ok (.invokevirtual 122, 3) := by decide +kernel
theorem d_Mo_bitsOf_28 : decode c_Mo_bitsOf 28 = .ok (.ior, 1) := by decide +kernel
theorem d_Mo_bitsOf_29 : decode c_Mo_bitsOf 29 = .ok (.goto 4, 3) := by decide +kernel
theorem d_Mo_bitsOf_32 : decode c_Mo_bitsOf 32 = .ok (.iload_n 2, 1) := by decide +kernel
theorem d_Mo_bitsOf_33 : decode c_Mo_bitsOf 33 = .ok (.istore_n 2, 1) := by decide +kernel
theorem d_Mo_bitsOf_34 : decode c_Mo_bitsOf 34 = .ok (.iinc 3 1, 3) := by decide +kernel
theorem d_Mo_bitsOf_37 : decode c_Mo_bitsOf 37 = .ok (.goto (-33), 3) := by decide +kernel
theorem d_Mo_bitsOf_40 : decode c_Mo_bitsOf 40 = .ok (.iload_n 2, 1) := by decide +kernel
theorem d_Mo_bitsOf_41 : decode c_Mo_bitsOf 41 = .ok (.ireturn, 1) := by decide +kernel
theorem d_Mo_exactChance_0 : decode c_Mo_exactChance 0 = .ok (.aload_n 0, 1) := by decide +kernel
theorem d_Mo_exactChance_1 : decode c_Mo_exactChance 1 = .ok (.iload_n 1, 1) := by decide +kernel
theorem d_Mo_exactChance_2 : decode c_Mo_exactChance 2 = .ok (.invokevirtual 132, 3) := by decide +kernel
theorem d_Mo_exactChance_5 : decode c_Mo_exactChance 5 = .ok (.lconst 1, 1) := by decide +kernel
theorem d_Mo_exactChance_6 : decode c_Mo_exactChance 6 = .ok (.lstore_n 3, 1) := by decide +kernel
theorem d_Mo_exactChance_7 : decode c_Mo_exactChance 7 = .ok (.iconst 0, 1) := by decide +kernel
theorem d_Mo_exactChance_8 : decode c_Mo_exactChance 8 = .ok (.istore 5, 2) := by decide +kernel
theorem d_Mo_exactChance_10 : decode c_Mo_exactChance 10 = .ok (.iload 5, 2) := by decide +kernel
theorem d_Mo_exactChance_12 : decode c_Mo_exactChance 12 = .ok (.iconst 1, 1) := by decide +kernel
theorem d_Mo_exactChance_13 : decode c_Mo_exactChance 13 = .ok (.aload_n 0, 1) := by decide +kernel
theorem d_Mo_exactChance_14 : decode c_Mo_exactChance 14 = .ok (.getfield 110, 3) := by decide +kernel
theorem d_Mo_exactChance_17 : decode c_Mo_exactChance 17 = .ok (.ishl, 1) := by decide +kernel
theorem d_Mo_exactChance_18 : decode c_Mo_exactChance 18 = .ok (.if_icmp .ge 26, 3) := by decide +kernel
theorem d_Mo_exactChance_21 : decode c_Mo_exactChance 21 = .ok (.aload_n 0, 1) := by decide +kernel
theorem d_Mo_exactChance_22 : decode c_Mo_exactChance 22 = .ok (.getfield 59, 3) := by decide +kernel
theorem d_Mo_exactChance_25 : decode c_Mo_exactChance 25 = .ok (.iload 5, 2) := by decide +kernel
theorem d_Mo_exactChance_27 : decode c_Mo_exactChance 27 = .ok (.iload 5, 2) := by decide +kernel
theorem d_Mo_exactChance_29 : decode c_Mo_exactChance 29 = .ok (.ifCond .ne 7, 3) := by decide +kernel
theorem d_Mo_exactChance_32 : decode c_Mo_exactChance 32 = .ok (.lconst 1, 1) := by decide +kernel
theorem d_Mo_exactChance_33 : decode c_Mo_exactChance 33 = .ok (.goto 4, 3) := by decide +kernel
theorem d_Mo_exactChance_36 : decode c_Mo_exactChance 36 = .ok (.lconst 0, 1) := by decide +kernel
theorem d_Mo_exactChance_37 : decode c_Mo_exactChance 37 = .ok (.lastore, 1) := by decide +kernel
theorem d_Mo_exactChance_38 : decode c_Mo_exactChance 38 = .ok (.iinc 5 1, 3) := by decide +kernel
theorem d_Mo_exactChance_41 : decode c_Mo_exactChance 41 = .ok (.goto (-31), 3) := by decide +kernel
theorem d_Mo_exactChance_44 : decode c_Mo_exactChance 44 = .ok (.iconst 0, 1) := by decide +kernel
theorem d_Mo_exactChance_45 : decode c_Mo_exactChance 45 = .ok (.istore 5, 2) := by decide +kernel
theorem d_Mo_exactChance_47 : decode c_Mo_exactChance 47 = .ok (.iload 5, 2) := by decide +kernel
theorem d_Mo_exactChance_49 : decode c_Mo_exactChance 49 = .ok (.aload_n 0, 1) := by decide +kernel
theorem d_Mo_exactChance_50 : decode c_Mo_exactChance 50 = .ok (.getfield 110, 3) := by decide +kernel
theorem d_Mo_exactChance_53 : decode c_Mo_exactChance 53 = .ok (.if_icmp .ge 61, 3) := by decide +kernel
theorem d_Mo_exactChance_56 : decode c_Mo_exactChance 56 = .ok (.aload_n 0, 1) := by decide +kernel
theorem d_Mo_exactChance_57 : decode c_Mo_exactChance 57 = .ok (.aload_n 0, 1) := by decide +kernel
theorem d_Mo_exactChance_58 : decode c_Mo_exactChance 58 = .ok (.iload 5, 2) := by decide +kernel
theorem d_Mo_exactChance_60 : decode c_Mo_exactChance 60 = .ok (.invokevirtual 122, 3) := by decide +kernel
theorem d_Mo_exactChance_63 : decode c_Mo_exactChance 63 = .ok (.aload_n 0, 1) := by decide +kernel
theorem d_Mo_exactChance_64 : decode c_Mo_exactChance 64 = .ok (.getfield 16, 3) := by decide +kernel
theorem d_Mo_exactChance_67 : decode c_Mo_exactChance 67 = .ok (.aload_n 0, 1) := by decide +kernel
theorem d_Mo_exactChance_68 : decode c_Mo_exactChance 68 = .ok (.getfield 44, 3) := by decide +kernel
theorem d_Mo_exactChance_71 : decode c_Mo_exactChance 71 = .ok (.iload 5, 2) := by decide +kernel
theorem d_Mo_exactChance_73 : decode c_Mo_exactChance 73 = .ok (.iaload, 1) := by decide +kernel
theorem d_Mo_exactChance_74 : decode c_Mo_exactChance 74 = .ok (.iaload, 1) := by decide +kernel
theorem d_Mo_exactChance_75 : decode c_Mo_exactChance 75 = .ok (.i2l, 1) := by decide +kernel
theorem d_Mo_exactChance_76 : decode c_Mo_exactChance 76 = .ok (.aload_n 0, 1) := by decide +kernel
theorem d_Mo_exactChance_77 : decode c_Mo_exactChance 77 = .ok (.getfield 19, 3) := by decide +kernel
theorem d_Mo_exactChance_80 : decode c_Mo_exactChance 80 = .ok (.aload_n 0, 1) := by decide +kernel
theorem d_Mo_exactChance_81 : decode c_Mo_exactChance 81 = .ok (.getfield 44, 3) := by decide +kernel
theorem d_Mo_exactChance_84 : decode c_Mo_exactChance 84 = .ok (.iload 5, 2) := by decide +kernel
theorem d_Mo_exactChance_86 : decode c_Mo_exactChance 86 = .ok (.iaload, 1) := by decide +kernel
theorem d_Mo_exactChance_87 : decode c_Mo_exactChance 87 = .ok (.iaload, 1) := by decide +kernel
theorem d_Mo_exactChance_88 : decode c_Mo_exactChance 88 = .ok (.i2l, 1) := by decide +kernel
theorem d_Mo_exactChance_89 : decode c_Mo_exactChance 89 = .ok (.invokevirtual 145, 3) := by decide +kernel
theorem d_Mo_exactChance_92 : decode c_Mo_exactChance 92 = .ok (.lload_n 3, 1) := by decide +kernel
theorem d_Mo_exactChance_93 : decode c_Mo_exactChance 93 = .ok (.aload_n 0, 1) := by decide +kernel
theorem d_Mo_exactChance_94 : decode c_Mo_exactChance 94 = .ok (.getfield 19, 3) := by decide +kernel
theorem d_Mo_exactChance_97 : decode c_Mo_exactChance 97 = .ok (.aload_n 0, 1) := by decide +kernel
theorem d_Mo_exactChance_98 : decode c_Mo_exactChance 98 = .ok (.getfield 44, 3) := by decide +kernel
theorem d_Mo_exactChance_101 : decode c_Mo_exactChance 101 = .ok (.iload 5, 2) := by decide +kernel
theorem d_Mo_exactChance_103 : decode c_Mo_exactChance 103 = .ok (.iaload, 1) := by decide +kernel
theorem d_Mo_exactChance_104 : decode c_Mo_exactChance 104 = .ok (.iaload, 1) := by decide +kernel
theorem d_Mo_exactChance_105 : decode c_Mo_exactChance 105 = .ok (.i2l, 1) := by decide +kernel
theorem d_Mo_exactChance_106 : decode c_Mo_exactChance 106 = .ok (.lmul, 1) := by decide +kernel
theorem d_Mo_exactChance_107 : decode c_Mo_exactChance 107 = .ok (.lstore_n 3, 1) := by decide +kernel
theorem d_Mo_exactChance_108 : decode c_Mo_exactChance 108 = .ok (.iinc 5 1, 3) := by decide +kernel
theorem d_Mo_exactChance_111 : decode c_Mo_exactChance 111 = .ok (.goto (-64), 3) := by decide +kernel
theorem d_Mo_exactChance_114 : decode c_Mo_exactChance 114 = .ok (.iconst 0, 1) := by decide +kernel
theorem d_Mo_exactChance_115 : decode c_Mo_exactChance 115 = .ok (.istore 5, 2) := by decide +kernel
theorem d_Mo_exactChance_117 : decode c_Mo_exactChance 117 = .ok (.iload 5, 2) := by decide +kernel
theorem d_Mo_exactChance_119 : decode c_Mo_exactChance 119 = .ok (.aload_n 0, 1) := by decide +kernel
theorem d_Mo_exactChance_120 : decode c_Mo_exactChance 120 = .ok (.getfield 149, 3) := by decide +kernel
theorem d_Mo_exactChance_123 : decode c_Mo_exactChance 123 = .ok (.if_icmp .ge 72, 3) := by decide +kernel
theorem d_Mo_exactChance_126 : decode c_Mo_exactChance 126 = .ok (.aload_n 0, 1) := by decide +kernel
theorem d_Mo_exactChance_127 : decode c_Mo_exactChance 127 = .ok (.aload_n 0, 1) := by decide +kernel
theorem d_Mo_exactChance_128 : decode c_Mo_exactChance 128 = .ok (.getfield 28, 3) := by decide +kernel
theorem d_Mo_exactChance_131 : decode c_Mo_exactChance 131 = .ok (.iload 5, 2) := by decide +kernel
theorem d_Mo_exactChance_133 : decode c_Mo_exactChance 133 = .ok (.iaload, 1) := by decide +kernel
theorem d_Mo_exactChance_134 : decode c_Mo_exactChance 134 = .ok (.invokevirtual 152, 3) := by decide +kernel
theorem d_Mo_exactChance_137 : decode c_Mo_exactChance 137 = .ok (.aload_n 0, 1) := by decide +kernel
theorem d_Mo_exactChance_138 : decode c_Mo_exactChance 138 = .ok (.aload_n 0, 1) := by decide +kernel
theorem d_Mo_exactChance_139 : decode c_Mo_exactChance 139 = .ok (.getfield 31, 3) := by decide +kernel
theorem d_Mo_exactChance_142 : decode c_Mo_exactChance 142 = .ok (.iload 5, 2) := by decide +kernel
theorem d_Mo_exactChance_144 : decode c_Mo_exactChance 144 = .ok (.iaload, 1) := by decide +kernel
theorem d_Mo_exactChance_145 : decode c_Mo_exactChance 145 = .ok (.invokevirtual 152, 3) := by decide +kernel
theorem d_Mo_exactChance_148 : decode c_Mo_exactChance 148 = .ok (.ior, 1) := by decide +kernel
theorem d_Mo_exactChance_149 : decode c_Mo_exactChance 149 = .ok (.istore 6, 2) := by decide +kernel
theorem d_Mo_exactChance_151 : decode c_Mo_exactChance 151 = .ok (.iload 6, 2) := by decide +kernel
theorem d_Mo_exactChance_153 : decode c_Mo_exactChance 153 = .ok (.ifCond .eq 36, 3) := by decide +kernel
theorem d_Mo_exactChance_156 : decode c_Mo_exactChance 156 = .ok (.aload_n 0, 1) := by decide +kernel
theorem d_Mo_exactChance_157 : decode c_Mo_exactChance 157 = .ok (.iload 6, 2) := by decide +kernel
theorem d_Mo_exactChance_159 : decode c_Mo_exactChance 159 = .ok (.aload_n 0, 1) := by decide +kernel
theorem d_Mo_exactChance_160 : decode c_Mo_exactChance 160 = .ok (.getfield 34, 3) := by decide +kernel
theorem d_Mo_exactChance_163 : decode c_Mo_exactChance 163 = .ok (.iload 5, 2) := by decide +kernel
theorem d_Mo_exactChance_165 : decode c_Mo_exactChance 165 = .ok (.iaload, 1) := by decide +kernel
theorem d_Mo_exactChance_166 : decode c_Mo_exactChance 166 = .ok (.i2l, 1) := by decide +kernel
theorem d_Mo_exactChance_167 : decode c_Mo_exactChance 167 = .ok (.aload_n 0, 1) := by decide +kernel
theorem d_Mo_exactChance_168 : decode c_Mo_exactChance 168 = .ok (.getfield 37, 3) := by decide +kernel
theorem d_Mo_exactChance_171 : decode c_Mo_exactChance 171 = .ok (.iload 5, 2) := by decide +kernel
theorem d_Mo_exactChance_173 : decode c_Mo_exactChance 173 = .ok (.iaload, 1) := by decide +kernel
theorem d_Mo_exactChance_174 : decode c_Mo_exactChance 174 = .ok (.i2l, 1) := by decide +kernel
theorem d_Mo_exactChance_175 : decode c_Mo_exactChance 175 = .ok (.invokevirtual 145, 3) := by decide +kernel
theorem d_Mo_exactChance_178 : decode c_Mo_exactChance 178 = .ok (.lload_n 3, 1) := by decide +kernel
theorem d_Mo_exactChance_179 : decode c_Mo_exactChance 179 = .ok (.aload_n 0, 1) := by decide +kernel
theorem d_Mo_exactChance_180 : decode c_Mo_exactChance 180 = .ok (.getfield 37, 3) := by decide +kernel
theorem d_Mo_exactChance_183 : decode c_Mo_exactChance 183 = .ok (.iload 5, 2) := by decide +kernel
theorem d_Mo_exactChance_185 : decode c_Mo_exactChance 185 = .ok (.iaload, 1) := by decide +kernel
theorem d_Mo_exactChance_186 : decode c_Mo_exactChance 186 = .ok (.i2l, 1) := by decide +kernel
theorem d_Mo_exactChance_187 : decode c_Mo_exactChance 187 = .ok (.lmul, 1) := by decide +kernel
theorem d_Mo_exactChance_188 : decode c_Mo_exactChance 188 = .ok (.lstore_n 3, 1) := by decide +kernel
theorem d_Mo_exactChance_189 : decode c_Mo_exactChance 189 = .ok (.iinc 5 1, 3) := by decide +kernel
theorem d_Mo_exactChance_192 : decode c_Mo_exactChance 192 = .ok (.goto (-75), 3) := by decide +kernel
theorem d_Mo_exactChance_195 : decode c_Mo_exactChance 195 = .ok (.lconst 0, 1) := by decide +kernel
theorem d_Mo_exactChance_196 : decode c_Mo_exactChance 196 = .ok (.lstore 5, 2) := by decide +kernel
theorem d_Mo_exactChance_198 : decode c_Mo_exactChance 198 = .ok (.iconst 0, 1) := by decide +kernel
theorem d_Mo_exactChance_199 : decode c_Mo_exactChance 199 = .ok (.istore 7, 2) := by decide +kernel
theorem d_Mo_exactChance_201 : decode c_Mo_exactChance 201 = .ok (.iload 7, 2) := by decide +kernel
theorem d_Mo_exactChance_203 : decode c_Mo_exactChance 203 = .ok (.iconst 1, 1) := by decide +kernel
theorem d_Mo_exactChance_204 : decode c_Mo_exactChance 204 = .ok (.aload_n 0, 1) := by decide +kernel
theorem d_Mo_exactChance_205 : decode c_Mo_exactChance 205 = .ok (.getfield 110, 3) := by decide +kernel
theorem d_Mo_exactChance_208 : decode c_Mo_exactChance 208 = .ok (.ishl, 1) := by decide +kernel
theorem d_Mo_exactChance_209 : decode c_Mo_exactChance 209 = .ok (.if_icmp .ge 36, 3) := by decide +kernel
theorem d_Mo_exactChance_212 : decode c_Mo_exactChance 212 = .ok (.aload_n 0, 1) := by decide +kernel
theorem d_Mo_exactChance_213 : decode c_Mo_exactChance 213 = .ok (.getfield 56, 3) := by decide +kernel
theorem d_Mo_exactChance_216 : decode c_Mo_exactChance 216 = .ok (.iload 7, 2) := by decide +kernel
theorem d_Mo_exactChance_218 : decode c_Mo_exactChance 218 = .ok (.baload, 1) := by decide +kernel
theorem d_Mo_exactChance_219 : decode c_Mo_exactChance 219 = .ok (.ifCond .eq 16, 3) := by decide +kernel
theorem d_Mo_exactChance_222 : decode c_Mo_exactChance 222 = .ok (.lload 5, 2) := by decide +kernel
theorem d_Mo_exactChance_224 : decode c_Mo_exactChance 224 = .ok (.aload_n 0, 1) := by decide +kernel
theorem d_Mo_exactChance_225 : decode c_Mo_exactChance 225 = .ok (.getfield 59, 3) := by decide +kernel
theorem d_Mo_exactChance_228 : decode c_Mo_exactChance 228 = .ok (.iload 7, 2) := by decide +kernel
theorem d_Mo_exactChance_230 : decode c_Mo_exactChance 230 = .ok (.laload, 1) := by decide +kernel
theorem d_Mo_exactChance_231 : decode c_Mo_exactChance 231 = .ok (.ladd, 1) := by decide +kernel
theorem d_Mo_exactChance_232 : decode c_Mo_exactChance 232 = .ok (.goto 5, 3) := by decide +kernel
theorem d_Mo_exactChance_235 : decode c_Mo_exactChance 235 = .ok (.lload 5, 2) := by decide +kernel
theorem d_Mo_exactChance_237 : decode c_Mo_exactChance 237 = .ok (.lstore 5, 2) := by decide +kernel
theorem d_Mo_exactChance_239 : decode c_Mo_exactChance 239 = .ok (.iinc 7 1, 3) := by decide +kernel
theorem d_Mo_exactChance_242 : decode c_Mo_exactChance 242 = .ok (.goto (-41), 3) := by decide +kernel
theorem d_Mo_exactChance_245 : decode c_Mo_exactChance 245 = .ok (.lload 5, 2) := by decide +kernel
theorem d_Mo_exactChance_247 : decode c_Mo_exactChance 247 = .ok (.lload_n 3, 1) := by decide +kernel
theorem d_Mo_exactChance_248 : decode c_Mo_exactChance 248 = .ok (.iload_n 2, 1) := by decide +kernel
theorem d_Mo_exactChance_249 : decode c_Mo_exactChance 249 = .ok (.invokestatic 155, 3) := by decide +kernel
theorem d_Mo_exactChance_252 : decode c_Mo_exactChance 252 = .ok (.lreturn, 1) := by decide +kernel
theorem d_Mo_spread_0 : decode c_Mo_spread 0 = .ok (.iconst 1, 1) := by decide +kernel
theorem d_Mo_spread_1 : decode c_Mo_spread 1 = .ok (.aload_n 0, 1) := by decide +kernel
theorem d_Mo_spread_2 : decode c_Mo_spread 2 = .ok (.getfield 110, 3) := by decide +kernel
theorem d_Mo_spread_5 : decode c_Mo_spread 5 = .ok (.ishl, 1) := by decide +kernel
theorem d_Mo_spread_6 : decode c_Mo_spread 6 = .ok (.iconst 1, 1) := by decide +kernel
theorem d_Mo_spread_7 : decode c_Mo_spread 7 = .ok (.isub, 1) := by decide +kernel
theorem d_Mo_spread_8 : decode c_Mo_spread 8 = .ok (.istore 6, 2) := by decide +kernel
theorem d_Mo_spread_10 : decode c_Mo_spread 10 = .ok (.iload 6, 2) := by decide +kernel
theorem d_Mo_spread_12 : decode c_Mo_spread 12 = .ok (.ifCond .lt 39, 3) := by decide +kernel
theorem d_Mo_spread_15 : decode c_Mo_spread 15 = .ok (.aload_n 0, 1) := by decide +kernel
theorem d_Mo_spread_16 : decode c_Mo_spread 16 = .ok (.getfield 59, 3) := by decide +kernel
theorem d_Mo_spread_19 : decode c_Mo_spread 19 = .ok (.iload 6, 2) := by decide +kernel
theorem d_Mo_spread_21 : decode c_Mo_spread 21 = .ok (.laload, 1) := by decide +kernel
theorem d_Mo_spread_22 : decode c_Mo_spread 22 = .ok (.lstore 7, 2) := by decide +kernel
theorem d_Mo_spread_24 : decode c_Mo_spread 24 = .ok (.iload 6, 2) := by decide +kernel
theorem d_Mo_spread_26 : decode c_Mo_spread 26 = .ok (.iload_n 1, 1) := by decide +kernel
theorem d_Mo_spread_27 : decode c_Mo_spread 27 = .ok (.ior, 1) := by decide +kernel
theorem d_Mo_spread_28 : decode c_Mo_spread 28 = .ok (.iload 6, 2) := by decide +kernel
theorem d_Mo_spread_30 : decode c_Mo_spread 30 = .ok (.if_icmp .ne 15, 3) := by decide +kernel
theorem d_Mo_spread_33 : decode c_Mo_spread 33 = .ok (.aload_n 0, 1) := by decide +kernel
theorem d_Mo_spread_34 : decode c_Mo_spread 34 = .ok (.getfield 59, 3) := by decide +kernel
theorem d_Mo_spread_37 : decode c_Mo_spread 37 = .ok (.iload 6, 2) := by decide +kernel
theorem d_Mo_spread_39 : decode c_Mo_spread 39 = .ok (.lload 7, 2) := by decide +kernel
theorem d_Mo_spread_41 : decode c_Mo_spread 41 = .ok (.lload 4, 2) := by decide +kernel
theorem d_Mo_spread_43 : decode c_Mo_spread 43 = .ok (.lmul, 1) := by decide +kernel
theorem d_Mo_spread_44 : decode c_Mo_spread 44 = .ok (.lastore, 1) := by decide +kernel
theorem d_Mo_spread_45 : decode c_Mo_spread 45 = .ok (.iinc 6 (-1), 3) := by decide +kernel
theorem d_Mo_spread_48 : decode c_Mo_spread 48 = .ok (.goto (-38), 3) := by decide +kernel
theorem d_Mo_spread_51 : decode c_Mo_spread 51 = .ok (.iconst 1, 1) := by decide +kernel
theorem d_Mo_spread_52 : decode c_Mo_spread 52 = .ok (.aload_n 0, 1) := by decide +kernel
theorem d_Mo_spread_53 : decode c_Mo_spread 53 = .ok (.getfield 110, 3) := by decide +kernel
theorem d_Mo_spread_56 : decode c_Mo_spread 56 = .ok (.ishl, 1) := by decide +kernel
theorem d_Mo_spread_57 : decode c_Mo_spread 57 = .ok (.iconst 1, 1) := by decide +kernel
theorem d_Mo_spread_58 : decode c_Mo_spread 58 = .ok (.isub, 1) := by decide +kernel
theorem d_Mo_spread_59 : decode c_Mo_spread 59 = .ok (.istore 6, 2) := by decide +kernel
theorem d_Mo_spread_61 : decode c_Mo_spread 61 = .ok (.iload 6, 2) := by decide +kernel
theorem d_Mo_spread_63 : decode c_Mo_spread 63 = .ok (.ifCond .lt 65, 3) := by decide +kernel
theorem d_Mo_spread_66 : decode c_Mo_spread 66 = .ok (.iload 6, 2) := by decide +kernel
theorem d_Mo_spread_68 : decode c_Mo_spread 68 = .ok (.iload_n 1, 1) := by decide +kernel
theorem d_Mo_spread_69 : decode c_Mo_spread 69 = .ok (.ior, 1) := by decide +kernel
theorem d_Mo_spread_70 : decode c_Mo_spread 70 = .ok (.iload 6, 2) := by decide +kernel
theorem d_Mo_spread_72 : decode c_Mo_spread 72 = .ok (.if_icmp .eq 50, 3) := by decide +kernel
theorem d_Mo_spread_75 : decode c_Mo_spread 75 = .ok (.aload_n 0, 1) := by decide +kernel
theorem d_Mo_spread_76 : decode c_Mo_spread 76 = .ok (.getfield 59, 3) := by decide +kernel
theorem d_Mo_spread_79 : decode c_Mo_spread 79 = .ok (.iload 6, 2) := by decide +kernel
theorem d_Mo_spread_81 : decode c_Mo_spread 81 = .ok (.iload_n 1, 1) := by decide +kernel
theorem d_Mo_spread_82 : decode c_Mo_spread 82 = .ok (.ior, 1) := by decide +kernel
theorem d_Mo_spread_83 : decode c_Mo_spread 83 = .ok (.aload_n 0, 1) := by decide +kernel
theorem d_Mo_spread_84 : decode c_Mo_spread 84 = .ok (.getfield 59, 3) := by decide +kernel
theorem d_Mo_spread_87 : decode c_Mo_spread 87 = .ok (.iload 6, 2) := by decide +kernel
theorem d_Mo_spread_89 : decode c_Mo_spread 89 = .ok (.iload_n 1, 1) := by decide +kernel
theorem d_Mo_spread_90 : decode c_Mo_spread 90 = .ok (.ior, 1) := by decide +kernel
theorem d_Mo_spread_91 : decode c_Mo_spread 91 = .ok (.laload, 1) := by decide +kernel
theorem d_Mo_spread_92 : decode c_Mo_spread 92 = .ok (.aload_n 0, 1) := by decide +kernel
theorem d_Mo_spread_93 : decode c_Mo_spread 93 = .ok (.getfield 59, 3) := by decide +kernel
theorem d_Mo_spread_96 : decode c_Mo_spread 96 = .ok (.iload 6, 2) := by decide +kernel
theorem d_Mo_spread_98 : decode c_Mo_spread 98 = .ok (.laload, 1) := by decide +kernel
theorem d_Mo_spread_99 : decode c_Mo_spread 99 = .ok (.lload_n 2, 1) := by decide +kernel
theorem d_Mo_spread_100 : decode c_Mo_spread 100 = .ok (.lmul, 1) := by decide +kernel
theorem d_Mo_spread_101 : decode c_Mo_spread 101 = .ok (.ladd, 1) := by decide +kernel
theorem d_Mo_spread_102 : decode c_Mo_spread 102 = .ok (.lastore, 1) := by decide +kernel
theorem d_Mo_spread_103 : decode c_Mo_spread 103 = .ok (.aload_n 0, 1) := by decide +kernel
theorem d_Mo_spread_104 : decode c_Mo_spread 104 = .ok (.getfield 59, 3) := by decide +kernel
theorem d_Mo_spread_107 : decode c_Mo_spread 107 = .ok (.iload 6, 2) := by decide +kernel
theorem d_Mo_spread_109 : decode c_Mo_spread 109 = .ok (.aload_n 0, 1) := by decide +kernel
theorem d_Mo_spread_110 : decode c_Mo_spread 110 = .ok (.getfield 59, 3) := by decide +kernel
theorem d_Mo_spread_113 : decode c_Mo_spread 113 = .ok (.iload 6, 2) := by decide +kernel
theorem d_Mo_spread_115 : decode c_Mo_spread 115 = .ok (.laload, 1) := by decide +kernel
theorem d_Mo_spread_116 : decode c_Mo_spread 116 = .ok (.lload 4, 2) := by decide +kernel
theorem d_Mo_spread_118 : decode c_Mo_spread 118 = .ok (.lload_n 2, 1) := by decide +kernel
theorem d_Mo_spread_119 : decode c_Mo_spread 119 = .ok (.lsub, 1) := by decide +kernel
theorem d_Mo_spread_120 : decode c_Mo_spread 120 = .ok (.lmul, 1) := by decide +kernel
theorem d_Mo_spread_121 : decode c_Mo_spread 121 = .ok (.lastore, 1) := by decide +kernel
theorem d_Mo_spread_122 : decode c_Mo_spread 122 = .ok (.iinc 6 (-1), 3) := by decide +kernel
theorem d_Mo_spread_125 : decode c_Mo_spread 125 = .ok (.goto (-64), 3) := by decide +kernel
theorem d_Mo_spread_128 : decode c_Mo_spread 128 = .ok (.return_, 1) := by decide +kernel
theorem d_Mo_boundOfEvent_0 : decode c_Mo_boundOfEvent 0 = .ok (.aload_n 0, 1) := by decide +kernel
theorem d_Mo_boundOfEvent_1 : decode c_Mo_boundOfEvent 1 = .ok (.getfield 16, 3) := by decide +kernel
theorem d_Mo_boundOfEvent_4 : decode c_Mo_boundOfEvent 4 = .ok (.iload_n 1, 1) := by decide +kernel
theorem d_Mo_boundOfEvent_5 : decode c_Mo_boundOfEvent 5 = .ok (.iaload, 1) := by decide +kernel
theorem d_Mo_boundOfEvent_6 : decode c_Mo_boundOfEvent 6 = .ok (.sipush 2520, 3) := by decide +kernel
theorem d_Mo_boundOfEvent_9 : decode c_Mo_boundOfEvent 9 = .ok (.aload_n 0, 1) := by decide +kernel
theorem d_Mo_boundOfEvent_10 : decode c_Mo_boundOfEvent 10 = .ok (.getfield 19, 3) := by decide +kernel
theorem d_Mo_boundOfEvent_13 : decode c_Mo_boundOfEvent 13 = .ok (.iload_n 1, 1) := by decide +kernel
theorem d_Mo_boundOfEvent_14 : decode c_Mo_boundOfEvent 14 = .ok (.iaload, 1) := by decide +kernel
theorem d_Mo_boundOfEvent_15 : decode c_Mo_boundOfEvent 15 = .ok (.idiv, 1) := by decide +kernel
theorem d_Mo_boundOfEvent_16 : decode c_Mo_boundOfEvent 16 = .ok (.imul, 1) := by decide +kernel
theorem d_Mo_boundOfEvent_17 : decode c_Mo_boundOfEvent 17 = .ok (.istore_n 2, 1) := by decide +kernel
theorem d_Mo_boundOfEvent_18 : decode c_Mo_boundOfEvent 18 = .ok (.iconst 0, 1) := by decide +kernel
theorem d_Mo_boundOfEvent_19 : decode c_Mo_boundOfEvent 19 = .ok (.istore_n 3, 1) := by decide +kernel
theorem d_Mo_boundOfEvent_20 : decode c_Mo_boundOfEvent 20 = .ok (.iload_n 3, 1) := by decide +kernel
theorem d_Mo_boundOfEvent_21 : decode c_Mo_boundOfEvent 21 = .ok (.aload_n 0, 1) := by decide +kernel
theorem d_Mo_boundOfEvent_22 : decode c_Mo_boundOfEvent 22 = .ok (.getfield 149, 3) := by decide +kernel
theorem d_Mo_boundOfEvent_25 : decode c_Mo_boundOfEvent 25 = .ok (.if_icmp .ge 49, 3) := by decide +kernel
theorem d_Mo_boundOfEvent_28 : decode c_Mo_boundOfEvent 28 = .ok (.aload_n 0, 1) := by decide +kernel
theorem d_Mo_boundOfEvent_29 : decode c_Mo_boundOfEvent 29 = .ok (.getfield 28, 3) := by decide +kernel
theorem d_Mo_boundOfEvent_32 : decode c_Mo_boundOfEvent 32 = .ok (.iload_n 3, 1) := by decide +kernel
theorem d_Mo_boundOfEvent_33 : decode c_Mo_boundOfEvent 33 = .ok (.iaload, 1) := by decide +kernel
theorem d_Mo_boundOfEvent_34 : decode c_Mo_boundOfEvent 34 = .ok (.iload_n 1, 1) := by decide +kernel
theorem d_Mo_boundOfEvent_35 : decode c_Mo_boundOfEvent 35 = .ok (.if_icmp .eq 13, 3) := by decide +kernel
theorem d_Mo_boundOfEvent_38 : decode c_Mo_boundOfEvent 38 = .ok (.aload_n 0, 1) := by decide +kernel
theorem d_Mo_boundOfEvent_39 : decode c_Mo_boundOfEvent 39 = .ok (.getfield 31, 3) := by decide +kernel
theorem d_Mo_boundOfEvent_42 : decode c_Mo_boundOfEvent 42 = .ok (.iload_n 3, 1) := by decide +kernel
theorem d_Mo_boundOfEvent_43 : decode c_Mo_boundOfEvent 43 = .ok (.iaload, 1) := by decide +kernel
theorem d_Mo_boundOfEvent_44 : decode c_Mo_boundOfEvent 44 = .ok (.iload_n 1, 1) := by decide +kernel
theorem d_Mo_boundOfEvent_45 : decode c_Mo_boundOfEvent 45 = .ok (.if_icmp .ne 23, 3) := by decide +kernel
theorem d_Mo_boundOfEvent_48 : decode c_Mo_boundOfEvent 48 = .ok (.iload_n 2, 1) := by decide +kernel
theorem d_Mo_boundOfEvent_49 : decode c_Mo_boundOfEvent 49 = .ok (.aload_n 0, 1) := by decide +kernel
theorem d_Mo_boundOfEvent_50 : decode c_Mo_boundOfEvent 50 = .ok (.getfield 34, 3) := by decide +kernel
theorem d_Mo_boundOfEvent_53 : decode c_Mo_boundOfEvent 53 = .ok (.iload_n 3, 1) := by decide +kernel
theorem d_Mo_boundOfEvent_54 : decode c_Mo_boundOfEvent 54 = .ok (.iaload, 1) := by decide +kernel
theorem d_Mo_boundOfEvent_55 : decode c_Mo_boundOfEvent 55 = .ok (.sipush 2520, 3) := by decide +kernel
theorem d_Mo_boundOfEvent_58 : decode c_Mo_boundOfEvent 58 = .ok (.aload_n 0, 1) := by decide +kernel
theorem d_Mo_boundOfEvent_59 : decode c_Mo_boundOfEvent 59 = .ok (.getfield 37, 3) := by decide +kernel
theorem d_Mo_boundOfEvent_62 : decode c_Mo_boundOfEvent 62 = .ok (.iload_n 3, 1) := by decide +kernel
theorem d_Mo_boundOfEvent_63 : decode c_Mo_boundOfEvent 63 = .ok (.iaload, 1) := by decide +kernel
theorem d_Mo_boundOfEvent_64 : decode c_Mo_boundOfEvent 64 = .ok (.idiv, 1) := by decide +kernel
theorem d_Mo_boundOfEvent_65 : decode c_Mo_boundOfEvent 65 = .ok (.imul, 1) := by decide +kernel
theorem d_Mo_boundOfEvent_66 : decode c_Mo_boundOfEvent 66 = .ok (.iadd, 1) := by decide +kernel
theorem d_Mo_boundOfEvent_67 : decode c_Mo_boundOfEvent 67 = .ok (.istore_n 2, 1) := by decide +kernel
theorem d_Mo_boundOfEvent_68 : decode c_Mo_boundOfEvent 68 = .ok (.iinc 3 1, 3) := by decide +kernel
theorem d_Mo_boundOfEvent_71 : decode c_Mo_boundOfEvent 71 = .ok (.goto (-51), 3) := by decide +kernel
theorem d_Mo_boundOfEvent_74 : decode c_Mo_boundOfEvent 74 = .ok (.iload_n 2, 1) := by decide +kernel
theorem d_Mo_boundOfEvent_75 : decode c_Mo_boundOfEvent 75 = .ok (.sipush 2520, 3) := by decide +kernel
theorem d_Mo_boundOfEvent_78 : decode c_Mo_boundOfEvent 78 = .ok (.if_icmp .ge 7, 3) := by decide +kernel
theorem d_Mo_boundOfEvent_81 : decode c_Mo_boundOfEvent 81 = .ok (.iload_n 2, 1) := by decide +kernel
theorem d_Mo_boundOfEvent_82 : decode c_Mo_boundOfEvent 82 = .ok (.goto 6, 3) := by decide +kernel
theorem d_Mo_boundOfEvent_85 : decode c_Mo_boundOfEvent 85 = .ok (.sipush 2520, 3) := by decide +kernel
theorem d_Mo_boundOfEvent_88 : decode c_Mo_boundOfEvent 88 = .ok (.ireturn, 1) := by decide +kernel
theorem d_Mo_boundChance_0 : decode c_Mo_boundChance 0 = .ok (.aload_n 0, 1) := by decide +kernel
theorem d_Mo_boundChance_1 : decode c_Mo_boundChance 1 = .ok (.iload_n 1, 1) := by decide +kernel
theorem d_Mo_boundChance_2 : decode c_Mo_boundChance 2 = .ok (.invokevirtual 119, 3) := by decide +kernel
theorem d_Mo_boundChance_5 : decode c_Mo_boundChance 5 = .ok (.iconst 0, 1) := by decide +kernel
theorem d_Mo_boundChance_6 : decode c_Mo_boundChance 6 = .ok (.istore_n 3, 1) := by decide +kernel
theorem d_Mo_boundChance_7 : decode c_Mo_boundChance 7 = .ok (.iload_n 3, 1) := by decide +kernel
theorem d_Mo_boundChance_8 : decode c_Mo_boundChance 8 = .ok (.aload_n 0, 1) := by decide +kernel
theorem d_Mo_boundChance_9 : decode c_Mo_boundChance 9 = .ok (.getfield 110, 3) := by decide +kernel
theorem d_Mo_boundChance_12 : decode c_Mo_boundChance 12 = .ok (.if_icmp .ge 30, 3) := by decide +kernel
theorem d_Mo_boundChance_15 : decode c_Mo_boundChance 15 = .ok (.aload_n 0, 1) := by decide +kernel
theorem d_Mo_boundChance_16 : decode c_Mo_boundChance 16 = .ok (.getfield 53, 3) := by decide +kernel
theorem d_Mo_boundChance_19 : decode c_Mo_boundChance 19 = .ok (.aload_n 0, 1) := by decide +kernel
theorem d_Mo_boundChance_20 : decode c_Mo_boundChance 20 = .ok (.getfield 44, 3) := by decide +kernel
theorem d_Mo_boundChance_23 : decode c_Mo_boundChance 23 = .ok (.iload_n 3, 1) := by decide +kernel
theorem d_Mo_boundChance_24 : decode c_Mo_boundChance 24 = .ok (.iaload, 1) := by decide +kernel
theorem d_Mo_boundChance_25 : decode c_Mo_boundChance 25 = .ok (.aload_n 0, 1) := by decide +kernel
theorem d_Mo_boundChance_26 : decode c_Mo_boundChance 26 = .ok (.aload_n 0, 1) := by decide +kernel
theorem d_Mo_boundChance_27 : decode c_Mo_boundChance 27 = .ok (.getfield 44, 3) := by decide +kernel
theorem d_Mo_boundChance_30 : decode c_Mo_boundChance 30 = .ok (.iload_n 3, 1) := by decide +kernel
theorem d_Mo_boundChance_31 : decode c_Mo_boundChance 31 = .ok (.iaload, 1) := by decide +kernel
theorem d_Mo_boundChance_32 : decode c_Mo_boundChance 32 = .ok (.invokevirtual 159, 3) := by decide +kernel
theorem d_Mo_boundChance_35 : decode c_Mo_boundChance 35 = .ok (.iastore, 1) := by decide +kernel
theorem d_Mo_boundChance_36 : decode c_Mo_boundChance 36 = .ok (.iinc 3 1, 3) := by decide +kernel
theorem d_Mo_boundChance_39 : decode c_Mo_boundChance 39 = .ok (.goto (-32), 3) := by decide +kernel
theorem d_Mo_boundChance_42 : decode c_Mo_boundChance 42 = .ok (.iconst 0, 1) := by decide +kernel
theorem d_Mo_boundChance_43 : decode c_Mo_boundChance 43 = .ok (.istore_n 3, 1) := by decide +kernel
theorem d_Mo_boundChance_44 : decode c_Mo_boundChance 44 = .ok (.iload_n 3, 1) := by decide +kernel
theorem d_Mo_boundChance_45 : decode c_Mo_boundChance 45 = .ok (.aload_n 0, 1) := by decide +kernel
theorem d_Mo_boundChance_46 : decode c_Mo_boundChance 46 = .ok (.getfield 113, 3) := by decide +kernel
theorem d_Mo_boundChance_49 : decode c_Mo_boundChance 49 = .ok (.if_icmp .ge 166, 3) := by decide +kernel
theorem d_Mo_boundChance_52 : decode c_Mo_boundChance 52 = .ok (.aload_n 0, 1) := by decide +kernel
theorem d_Mo_boundChance_53 : decode c_Mo_boundChance 53 = .ok (.getfield 47, 3) := by decide +kernel
theorem d_Mo_boundChance_56 : decode c_Mo_boundChance 56 = .ok (.iload_n 3, 1) := by decide +kernel
theorem d_Mo_boundChance_57 : decode c_Mo_boundChance 57 = .ok (.iaload, 1) := by decide +kernel
theorem d_Mo_boundChance_58 : decode c_Mo_boundChance 58 = .ok (.istore 4, 2) := by decide +kernel
theorem d_Mo_boundChance_60 : decode c_Mo_boundChance 60 = .ok (.sipush 2520, 3) := by decide +kernel
theorem d_Mo_boundChance_63 : decode c_Mo_boundChance 63 = .ok (.istore 5, 2) := by decide +kernel
theorem d_Mo_boundChance_65 : decode c_Mo_boundChance 65 = .ok (.iconst 0, 1) := by decide +kernel
theorem d_Mo_boundChance_66 : decode c_Mo_boundChance 66 = .ok (.istore 6, 2) := by decide +kernel
theorem d_Mo_boundChance_68 : decode c_Mo_boundChance 68 = .ok (.iconst 0, 1) := by decide +kernel
theorem d_Mo_boundChance_69 : decode c_Mo_boundChance 69 = .ok (.istore 7, 2) := by decide +kernel
theorem d_Mo_boundChance_71 : decode c_Mo_boundChance 71 = .ok (.iload 7, 2) := by decide +kernel
theorem d_Mo_boundChance_73 : decode c_Mo_boundChance 73 = .ok (.aload_n 0, 1) := by decide +kernel
theorem d_Mo_boundChance_74 : decode c_Mo_boundChance 74 = .ok (.getfield 22, 3) := by decide +kernel
theorem d_Mo_boundChance_77 : decode c_Mo_boundChance 77 = .ok (.iload 4, 2) := by decide +kernel
theorem d_Mo_boundChance_79 : decode c_Mo_boundChance 79 = .ok (.iaload, 1) := by decide +kernel
theorem d_Mo_boundChance_80 : decode c_Mo_boundChance 80 = .ok (.if_icmp .ge 52, 3) := by decide +kernel
theorem d_Mo_boundChance_83 : decode c_Mo_boundChance 83 = .ok (.aload_n 0, 1) := by decide +kernel
theorem d_Mo_boundChance_84 : decode c_Mo_boundChance 84 = .ok (.getfield 53, 3) := by decide +kernel
theorem d_Mo_boundChance_87 : decode c_Mo_boundChance 87 = .ok (.aload_n 0, 1) := by decide +kernel
theorem d_Mo_boundChance_88 : decode c_Mo_boundChance 88 = .ok (.getfield 25, 3) := by decide +kernel
theorem d_Mo_boundChance_91 : decode c_Mo_boundChance 91 = .ok (.bipush 10, 2) := by decide +kernel
theorem d_Mo_boundChance_93 : decode c_Mo_boundChance 93 = .ok (.iload 4, 2) := by decide +kernel
theorem d_Mo_boundChance_95 : decode c_Mo_boundChance 95 = .ok (.imul, 1) := by decide +kernel
theorem d_Mo_boundChance_96 : decode c_Mo_boundChance 96 = .ok (.iload 7, 2) := by decide +kernel
theorem d_Mo_boundChance_98 : decode c_Mo_boundChance 98 = .ok (.iadd, 1) := by decide +kernel
theorem d_Mo_boundChance_99 : decode c_Mo_boundChance 99 = .ok (.iaload, 1) := by decide +kernel
theorem d_Mo_boundChance_100 : decode c_Mo_boundChance 100 = .ok (.iaload, 1) := by decide +kernel
theorem d_Mo_boundChance_101 : decode c_Mo_boundChance 101 = .ok (.istore 8, 2) := by decide +kernel
theorem d_Mo_boundChance_103 : decode c_Mo_boundChance 103 = .ok (.iload 8, 2) := by decide +kernel
theorem d_Mo_boundChance_105 : decode c_Mo_boundChance 105 = .ok (.iload 5, 2) := by decide +kernel
theorem d_Mo_boundChance_107 : decode c_Mo_boundChance 107 = .ok (.if_icmp .ge 8, 3) := by decide +kernel
theorem d_Mo_boundChance_110 : decode c_Mo_boundChance 110 = .ok (.iload 8, 2) := by decide +kernel
theorem d_Mo_boundChance_112 : decode c_Mo_boundChance 112 = .ok (.goto 5, 3) := by decide +kernel
theorem d_Mo_boundChance_115 : decode c_Mo_boundChance 115 = .ok (.iload 5, 2) := by decide +kernel
theorem d_Mo_boundChance_117 : decode c_Mo_boundChance 117 = .ok (.istore 5, 2) := by decide +kernel
theorem d_Mo_boundChance_119 : decode c_Mo_boundChance 119 = .ok (.iload 6, 2) := by decide +kernel
theorem d_Mo_boundChance_121 : decode c_Mo_boundChance 121 = .ok (.iload 8, 2) := by decide +kernel
theorem d_Mo_boundChance_123 : decode c_Mo_boundChance 123 = .ok (.iadd, 1) := by decide +kernel
theorem d_Mo_boundChance_124 : decode c_Mo_boundChance 124 = .ok (.istore 6, 2) := by decide +kernel
theorem d_Mo_boundChance_126 : decode c_Mo_boundChance 126 = .ok (.iinc 7 1, 3) := by decide +kernel
theorem d_Mo_boundChance_129 : decode c_Mo_boundChance 129 = .ok (.goto (-58), 3) := by decide +kernel
theorem d_Mo_boundChance_132 : decode c_Mo_boundChance 132 = .ok (.aload_n 0, 1) := by decide +kernel
theorem d_Mo_boundChance_133 : decode c_Mo_boundChance 133 = .ok (.getfield 7, 3) := by decide +kernel
theorem d_Mo_boundChance_136 : decode c_Mo_boundChance 136 = .ok (.iload 4, 2) := by decide +kernel
theorem d_Mo_boundChance_138 : decode c_Mo_boundChance 138 = .ok (.iaload, 1) := by decide +kernel
theorem d_Mo_boundChance_139 : decode c_Mo_boundChance 139 = .ok (.iconst 1, 1) := by decide +kernel
theorem d_Mo_boundChance_140 : decode c_Mo_boundChance 140 = .ok (.if_icmp .ne 8, 3) := by decide +kernel
theorem d_Mo_boundChance_143 : decode c_Mo_boundChance 143 = .ok (.iload 5, 2) := by decide +kernel
theorem d_Mo_boundChance_145 : decode c_Mo_boundChance 145 = .ok (.goto 39, 3) := by decide +kernel
theorem d_Mo_boundChance_148 : decode c_Mo_boundChance 148 = .ok (.aload_n 0, 1) := by decide +kernel
theorem d_Mo_boundChance_149 : decode c_Mo_boundChance 149 = .ok (.getfield 7, 3) := by decide +kernel
theorem d_Mo_boundChance_152 : decode c_Mo_boundChance 152 = .ok (.iload 4, 2) := by decide +kernel
theorem d_Mo_boundChance_154 : decode c_Mo_boundChance 154 = .ok (.iaload, 1) := by decide +kernel
theorem d_Mo_boundChance_155 : decode c_Mo_boundChance 155 = .ok (.iconst 2, 1) := by decide +kernel
theorem d_Mo_boundChance_156 : decode c_Mo_boundChance 156 = .ok (.if_icmp .ne 8, 3) := by decide +kernel
theorem d_Mo_boundChance_159 : decode c_Mo_boundChance 159 = .ok (.iload 6, 2) := by decide +kernel
theorem d_Mo_boundChance_161 : decode c_Mo_boundChance 161 = .ok (.goto 23, 3) := by decide +kernel
theorem d_Mo_boundChance_164 : decode c_Mo_boundChance 164 = .ok (.iload 6, 2) := by decide +kernel
theorem d_Mo_boundChance_166 : decode c_Mo_boundChance 166 = .ok (.aload_n 0, 1) := by decide +kernel
theorem d_Mo_boundChance_167 : decode c_Mo_boundChance 167 = .ok (.getfield 13, 3) := by decide +kernel
theorem d_Mo_boundChance_170 : decode c_Mo_boundChance 170 = .ok (.iload 4, 2) := by decide +kernel
theorem d_Mo_boundChance_172 : decode c_Mo_boundChance 172 = .ok (.iaload, 1) := by decide +kernel
theorem d_Mo_boundChance_173 : decode c_Mo_boundChance 173 = .ok (.iadd, 1) := by decide +kernel
theorem d_Mo_boundChance_174 : decode c_Mo_boundChance 174 = .ok (.iconst 1, 1) := by decide +kernel
theorem d_Mo_boundChance_175 : decode c_Mo_boundChance 175 = .ok (.isub, 1) := by decide +kernel
theorem d_Mo_boundChance_176 : decode c_Mo_boundChance 176 = .ok (.aload_n 0, 1) := by decide +kernel
theorem d_Mo_boundChance_177 : decode c_Mo_boundChance 177 = .ok (.getfield 13, 3) := by decide +kernel
theorem d_Mo_boundChance_180 : decode c_Mo_boundChance 180 = .ok (.iload 4, 2) := by decide +kernel
theorem d_Mo_boundChance_182 : decode c_Mo_boundChance 182 = .ok (.iaload, 1) := by decide +kernel
theorem d_Mo_boundChance_183 : decode c_Mo_boundChance 183 = .ok (.idiv, 1) := by decide +kernel
theorem d_Mo_boundChance_184 : decode c_Mo_boundChance 184 = .ok (.istore 7, 2) := by decide +kernel
theorem d_Mo_boundChance_186 : decode c_Mo_boundChance 186 = .ok (.aload_n 0, 1) := by decide +kernel
theorem d_Mo_boundChance_187 : decode c_Mo_boundChance 187 = .ok (.getfield 53, 3) := by decide +kernel
theorem d_Mo_boundChance_190 : decode c_Mo_boundChance 190 = .ok (.iload 4, 2) := by decide +kernel
theorem d_Mo_boundChance_192 : decode c_Mo_boundChance 192 = .ok (.iload 7, 2) := by decide +kernel
theorem d_Mo_boundChance_194 : decode c_Mo_boundChance 194 = .ok (.sipush 2520, 3) := by decide +kernel
theorem d_Mo_boundChance_197 : decode c_Mo_boundChance 197 = .ok (.if_icmp .ge 8, 3) := by decide +kernel
theorem d_Mo_boundChance_200 : decode c_Mo_boundChance 200 = .ok (.iload 7, 2) := by decide +kernel
theorem d_Mo_boundChance_202 : decode c_Mo_boundChance 202 = .ok (.goto 6, 3) := by decide +kernel
theorem d_Mo_boundChance_205 : decode c_Mo_boundChance 205 = .ok (.sipush 2520, 3) := by decide +kernel
theorem d_Mo_boundChance_208 : decode c_Mo_boundChance 208 = .ok (.iastore, 1) := by decide +kernel
theorem d_Mo_boundChance_209 : decode c_Mo_boundChance 209 = .ok (.iinc 3 1, 3) := by decide +kernel
theorem d_Mo_boundChance_212 : decode c_Mo_boundChance 212 = .ok (.goto (-168), 3) := by decide +kernel
theorem d_Mo_boundChance_215 : decode c_Mo_boundChance 215 = .ok (.aload_n 0, 1) := by decide +kernel
theorem d_Mo_boundChance_216 : decode c_Mo_boundChance 216 = .ok (.getfield 53, 3) := by decide +kernel
theorem d_Mo_boundChance_219 : decode c_Mo_boundChance 219 = .ok (.iload_n 1, 1) := by decide +kernel
theorem d_Mo_boundChance_220 : decode c_Mo_boundChance 220 = .ok (.iaload, 1) := by decide +kernel
theorem d_Mo_boundChance_221 : decode c_Mo_boundChance 221 = .ok (.i2l, 1) := by decide +kernel
theorem d_Mo_boundChance_222 : decode c_Mo_boundChance 222 = .ok (.ldc2_w 162, 3) := by decide +kernel
theorem d_Mo_boundChance_225 : decode c_Mo_boundChance 225 = .ok (.iload_n 2, 1) := by decide +kernel
theorem d_Mo_boundChance_226 : decode c_Mo_boundChance 226 = .ok (.invokestatic 155, 3) := by decide +kernel
theorem d_Mo_boundChance_229 : decode c_Mo_boundChance 229 = .ok (.lreturn, 1) := by decide +kernel
theorem d_Mo_chance_0 : decode c_Mo_chance 0 = .ok (.aload_n 0, 1) := by decide +kernel
theorem d_Mo_chance_1 : decode c_Mo_chance 1 = .ok (.iconst 0, 1) := by decide +kernel
theorem d_Mo_chance_2 : decode c_Mo_chance 2 = .ok (.putfield 81, 3) := by decide +kernel
theorem d_Mo_chance_5 : decode c_Mo_chance 5 = .ok (.aload_n 0, 1) := by decide +kernel
theorem d_Mo_chance_6 : decode c_Mo_chance 6 = .ok (.iload_n 1, 1) := by decide +kernel
theorem d_Mo_chance_7 : decode c_Mo_chance 7 = .ok (.invokevirtual 102, 3) := by decide +kernel
theorem d_Mo_chance_10 : decode c_Mo_chance 10 = .ok (.ifCond .ne 7, 3) := by decide +kernel
theorem d_Mo_chance_13 : decode c_Mo_chance 13 = .ok (.ldc2_w 164, 3) := by decide +kernel
theorem d_Mo_chance_16 : decode c_Mo_chance 16 = .ok (.lreturn, 1) := by decide +kernel
theorem d_Mo_chance_17 : decode c_Mo_chance 17 = .ok (.aload_n 0, 1) := by decide +kernel
theorem d_Mo_chance_18 : decode c_Mo_chance 18 = .ok (.iload_n 1, 1) := by decide +kernel
theorem d_Mo_chance_19 : decode c_Mo_chance 19 = .ok (.invokevirtual 119, 3) := by decide +kernel
theorem d_Mo_chance_22 : decode c_Mo_chance 22 = .ok (.aload_n 0, 1) := by decide +kernel
theorem d_Mo_chance_23 : decode c_Mo_chance 23 = .ok (.getfield 110, 3) := by decide +kernel
theorem d_Mo_chance_26 : decode c_Mo_chance 26 = .ok (.istore_n 3, 1) := by decide +kernel
theorem d_Mo_chance_27 : decode c_Mo_chance 27 = .ok (.iconst 0, 1) := by decide +kernel
theorem d_Mo_chance_28 : decode c_Mo_chance 28 = .ok (.istore 4, 2) := by decide +kernel
theorem d_Mo_chance_30 : decode c_Mo_chance 30 = .ok (.iload 4, 2) := by decide +kernel
theorem d_Mo_chance_32 : decode c_Mo_chance 32 = .ok (.aload_n 0, 1) := by decide +kernel
theorem d_Mo_chance_33 : decode c_Mo_chance 33 = .ok (.getfield 149, 3) := by decide +kernel
theorem d_Mo_chance_36 : decode c_Mo_chance 36 = .ok (.if_icmp .ge 47, 3) := by decide +kernel
theorem d_Mo_chance_39 : decode c_Mo_chance 39 = .ok (.aload_n 0, 1) := by decide +kernel
theorem d_Mo_chance_40 : decode c_Mo_chance 40 = .ok (.getfield 40, 3) := by decide +kernel
theorem d_Mo_chance_43 : decode c_Mo_chance 43 = .ok (.aload_n 0, 1) := by decide +kernel
theorem d_Mo_chance_44 : decode c_Mo_chance 44 = .ok (.getfield 28, 3) := by decide +kernel
theorem d_Mo_chance_47 : decode c_Mo_chance 47 = .ok (.iload 4, 2) := by decide +kernel
theorem d_Mo_chance_49 : decode c_Mo_chance 49 = .ok (.iaload, 1) := by decide +kernel
theorem d_Mo_chance_50 : decode c_Mo_chance 50 = .ok (.baload, 1) := by decide +kernel
theorem d_Mo_chance_51 : decode c_Mo_chance 51 = .ok (.ifCond .ne 18, 3) := by decide +kernel
theorem d_Mo_chance_54 : decode c_Mo_chance 54 = .ok (.aload_n 0, 1) := by decide +kernel
theorem d_Mo_chance_55 : decode c_Mo_chance 55 = .ok (.getfield 40, 3) := by decide +kernel
theorem d_Mo_chance_58 : decode c_Mo_chance 58 = .ok (.aload_n 0, 1) := by decide +kernel
theorem d_Mo_chance_59 : decode c_Mo_chance 59 = .ok (.getfield 31, 3) := by decide +kernel
theorem d_Mo_chance_62 : decode c_Mo_chance 62 = .ok (.iload 4, 2) := by decide +kernel
theorem d_Mo_chance_64 : decode c_Mo_chance 64 = .ok (.iaload, 1) := by decide +kernel
theorem d_Mo_chance_65 : decode c_Mo_chance 65 = .ok (.baload, 1) := by decide +kernel
theorem d_Mo_chance_66 : decode c_Mo_chance 66 = .ok (.ifCond .eq 9, 3) := by decide +kernel
theorem d_Mo_chance_69 : decode c_Mo_chance 69 = .ok (.iload_n 3, 1) := by decide +kernel
theorem d_Mo_chance_70 : decode c_Mo_chance 70 = .ok (.iconst 1, 1) := by decide +kernel
theorem d_Mo_chance_71 : decode c_Mo_chance 71 = .ok (.iadd, 1) := by decide +kernel
theorem d_Mo_chance_72 : decode c_Mo_chance 72 = .ok (.goto 4, 3) := by decide +kernel
theorem d_Mo_chance_75 : decode c_Mo_chance 75 = .ok (.iload_n 3, 1) := by decide +kernel
theorem d_Mo_chance_76 : decode c_Mo_chance 76 = .ok (.istore_n 3, 1) := by decide +kernel
theorem d_Mo_chance_77 : decode c_Mo_chance 77 = .ok (.iinc 4 1, 3) := by decide +kernel
theorem d_Mo_chance_80 : decode c_Mo_chance 80 = .ok (.goto (-50), 3) := by decide +kernel
theorem d_Mo_chance_83 : decode c_Mo_chance 83 = .ok (.aload_n 0, 1) := by decide +kernel
theorem d_Mo_chance_84 : decode c_Mo_chance 84 = .ok (.iload_n 3, 1) := by decide +kernel
theorem d_Mo_chance_85 : decode c_Mo_chance 85 = .ok (.bipush 14, 2) := by decide +kernel
theorem d_Mo_chance_87 : decode c_Mo_chance 87 = .ok (.if_icmp .gt 7, 3) := by decide +kernel
theorem d_Mo_chance_90 : decode c_Mo_chance 90 = .ok (.iconst 1, 1) := by decide +kernel
theorem d_Mo_chance_91 : decode c_Mo_chance 91 = .ok (.goto 4, 3) := by decide +kernel
theorem d_Mo_chance_94 : decode c_Mo_chance 94 = .ok (.iconst 0, 1) := by decide +kernel
theorem d_Mo_chance_95 : decode c_Mo_chance 95 = .ok (.putfield 166, 3) := by decide +kernel
theorem d_Mo_chance_98 : decode c_Mo_chance 98 = .ok (.aload_n 0, 1) := by decide +kernel
theorem d_Mo_chance_99 : decode c_Mo_chance 99 = .ok (.getfield 166, 3) := by decide +kernel
theorem d_Mo_chance_102 : decode c_Mo_chance 102 = .ok (.ifCond .eq 12, 3) := by decide +kernel
theorem d_Mo_chance_105 : decode c_Mo_chance 105 = .ok (.aload_n 0, 1) := by decide +kernel
theorem d_Mo_chance_106 : decode c_Mo_chance 106 = .ok (.iload_n 1, 1) := by decide +kernel
theorem d_Mo_chance_107 : decode c_Mo_chance 107 = .ok (.iload_n 2, 1) := by decide +kernel
theorem d_Mo_chance_108 : decode c_Mo_chance 108 = .ok (.invokevirtual 170, 3) := by decide +kernel
theorem d_Mo_chance_111 : decode c_Mo_chance 111 = .ok (.goto 9, 3) := by decide +kernel
theorem d_Mo_chance_114 : decode c_Mo_chance 114 = .ok (.aload_n 0, 1) := by decide +kernel
theorem d_Mo_chance_115 : decode c_Mo_chance 115 = .ok (.iload_n 1, 1) := by decide +kernel
theorem d_Mo_chance_116 : decode c_Mo_chance 116 = .ok (.iload_n 2, 1) := by decide +kernel
theorem d_Mo_chance_117 : decode c_Mo_chance 117 = .ok (.invokevirtual 174, 3) := by decide +kernel
theorem d_Mo_chance_120 : decode c_Mo_chance 120 = .ok (.lreturn, 1) := by decide +kernel
theorem d_Mo_exact_0 : decode c_Mo_exact 0 = .ok (.aload_n 0, 1) := by decide +kernel
theorem d_Mo_exact_1 : decode c_Mo_exact 1 = .ok (.iconst 0, 1) := by decide +kernel
theorem d_Mo_exact_2 : decode c_Mo_exact 2 = .ok (.putfield 81, 3) := by decide +kernel
theorem d_Mo_exact_5 : decode c_Mo_exact 5 = .ok (.aload_n 0, 1) := by decide +kernel
theorem d_Mo_exact_6 : decode c_Mo_exact 6 = .ok (.getfield 166, 3) := by decide +kernel
theorem d_Mo_exact_9 : decode c_Mo_exact 9 = .ok (.ireturn, 1) := by decide +kernel
theorem d_Mo_common_0 : decode c_Mo_common 0 = .ok (.aload_n 0, 1) := by decide +kernel
theorem d_Mo_common_1 : decode c_Mo_common 1 = .ok (.iconst 0, 1) := by decide +kernel
theorem d_Mo_common_2 : decode c_Mo_common 2 = .ok (.putfield 81, 3) := by decide +kernel
theorem d_Mo_common_5 : decode c_Mo_common 5 = .ok (.aload_n 0, 1) := by decide +kernel
theorem d_Mo_common_6 : decode c_Mo_common 6 = .ok (.iload_n 1, 1) := by decide +kernel
theorem d_Mo_common_7 : decode c_Mo_common 7 = .ok (.invokevirtual 177, 3) := by decide +kernel
theorem d_Mo_common_10 : decode c_Mo_common 10 = .ok (.ifCond .eq 11, 3) := by decide +kernel
theorem d_Mo_common_13 : decode c_Mo_common 13 = .ok (.aload_n 0, 1) := by decide +kernel
theorem d_Mo_common_14 : decode c_Mo_common 14 = .ok (.iload_n 2, 1) := by decide +kernel
theorem d_Mo_common_15 : decode c_Mo_common 15 = .ok (.invokevirtual 177, 3) := by decide +kernel
theorem d_Mo_common_18 : decode c_Mo_common 18 = .ok (.ifCond .ne 5, 3) := by decide +kernel
theorem d_Mo_common_21 : decode c_Mo_common 21 = .ok (.iconst (-1), 1) := by decide +kernel
theorem d_Mo_common_22 : decode c_Mo_common 22 = .ok (.ireturn, 1) := by decide +kernel
theorem d_Mo_common_23 : decode c_Mo_common 23 = .ok (.iload_n 1, 1) := by decide +kernel
theorem d_Mo_common_24 : decode c_Mo_common 24 = .ok (.iload_n 2, 1) := by decide +kernel
theorem d_Mo_common_25 : decode c_Mo_common 25 = .ok (.if_icmp .eq 25, 3) := by decide +kernel
theorem d_Mo_common_28 : decode c_Mo_common 28 = .ok (.lload 5, 2) := by decide +kernel
theorem d_Mo_common_30 : decode c_Mo_common 30 = .ok (.lconst 1, 1) := by decide +kernel
theorem d_Mo_common_31 : decode c_Mo_common 31 = .ok (.ldc2_w 92, 3) := by decide +kernel
theorem d_Mo_common_34 : decode c_Mo_common 34 = .ok (.invokestatic 88, 3) := by decide +kernel
theorem d_Mo_common_37 : decode c_Mo_common 37 = .ok (.ifCond .eq 13, 3) := by decide +kernel
theorem d_Mo_common_40 : decode c_Mo_common 40 = .ok (.lload_n 3, 1) := by decide +kernel
theorem d_Mo_common_41 : decode c_Mo_common 41 = .ok (.lconst 0, 1) := by decide +kernel
theorem d_Mo_common_42 : decode c_Mo_common 42 = .ok (.lload 5, 2) := by decide +kernel
theorem d_Mo_common_44 : decode c_Mo_common 44 = .ok (.invokestatic 88, 3) := by decide +kernel
theorem d_Mo_common_47 : decode c_Mo_common 47 = .ok (.ifCond .ne 6, 3) := by decide +kernel
theorem d_Mo_common_50 : decode c_Mo_common 50 = .ok (.bipush (-2), 2) := by decide +kernel
theorem d_Mo_common_52 : decode c_Mo_common 52 = .ok (.ireturn, 1) := by decide +kernel
theorem d_Mo_common_53 : decode c_Mo_common 53 = .ok (.aload_n 0, 1) := by decide +kernel
theorem d_Mo_common_54 : decode c_Mo_common 54 = .ok (.getfield 149, 3) := by decide +kernel
theorem d_Mo_common_57 : decode c_Mo_common 57 = .ok (.iconst 4, 1) := by decide +kernel
theorem d_Mo_common_58 : decode c_Mo_common 58 = .ok (.if_icmp .ne 6, 3) := by decide +kernel
theorem d_Mo_common_61 : decode c_Mo_common 61 = .ok (.bipush (-4), 2) := by decide +kernel
theorem d_Mo_common_63 : decode c_Mo_common 63 = .ok (.ireturn, 1) := by decide +kernel
theorem d_Mo_common_64 : decode c_Mo_common 64 = .ok (.aload_n 0, 1) := by decide +kernel
theorem d_Mo_common_65 : decode c_Mo_common 65 = .ok (.getfield 28, 3) := by decide +kernel
theorem d_Mo_common_68 : decode c_Mo_common 68 = .ok (.aload_n 0, 1) := by decide +kernel
theorem d_Mo_common_69 : decode c_Mo_common 69 = .ok (.getfield 149, 3) := by decide +kernel
theorem d_Mo_common_72 : decode c_Mo_common 72 = .ok (.iload_n 1, 1) := by decide +kernel
theorem d_Mo_common_73 : decode c_Mo_common 73 = .ok (.iastore, 1) := by decide +kernel
theorem d_Mo_common_74 : decode c_Mo_common 74 = .ok (.aload_n 0, 1) := by decide +kernel
theorem d_Mo_common_75 : decode c_Mo_common 75 = .ok (.getfield 31, 3) := by decide +kernel
theorem d_Mo_common_78 : decode c_Mo_common 78 = .ok (.aload_n 0, 1) := by decide +kernel
theorem d_Mo_common_79 : decode c_Mo_common 79 = .ok (.getfield 149, 3) := by decide +kernel
theorem d_Mo_common_82 : decode c_Mo_common 82 = .ok (.iload_n 2, 1) := by decide +kernel
theorem d_Mo_common_83 : decode c_Mo_common 83 = .ok (.iastore, 1) := by decide +kernel
theorem d_Mo_common_84 : decode c_Mo_common 84 = .ok (.aload_n 0, 1) := by decide +kernel
theorem d_Mo_common_85 : decode c_Mo_common 85 = .ok (.getfield 34, 3) := by decide +kernel
theorem d_Mo_common_88 : decode c_Mo_common 88 = .ok (.aload_n 0, 1) := by decide +kernel
theorem d_Mo_common_89 : decode c_Mo_common 89 = .ok (.getfield 149, 3) := by decide +kernel
theorem d_Mo_common_92 : decode c_Mo_common 92 = .ok (.lload_n 3, 1) := by decide +kernel
theorem d_Mo_common_93 : decode c_Mo_common 93 = .ok (.l2i, 1) := by decide +kernel
theorem d_Mo_common_94 : decode c_Mo_common 94 = .ok (.iastore, 1) := by decide +kernel
theorem d_Mo_common_95 : decode c_Mo_common 95 = .ok (.aload_n 0, 1) := by decide +kernel
theorem d_Mo_common_96 : decode c_Mo_common 96 = .ok (.getfield 37, 3) := by decide +kernel
theorem d_Mo_common_99 : decode c_Mo_common 99 = .ok (.aload_n 0, 1) := by decide +kernel
theorem d_Mo_common_100 : decode c_Mo_common 100 = .ok (.getfield 149, 3) := by decide +kernel
theorem d_Mo_common_103 : decode c_Mo_common 103 = .ok (.lload 5, 2) := by decide +kernel
theorem d_Mo_common_105 : decode c_Mo_common 105 = .ok (.l2i, 1) := by decide +kernel
theorem d_Mo_common_106 : decode c_Mo_common 106 = .ok (.iastore, 1) := by decide +kernel
theorem d_Mo_common_107 : decode c_Mo_common 107 = .ok (.aload_n 0, 1) := by decide +kernel
theorem d_Mo_common_108 : decode c_Mo_common 108 = .ok (.dup, 1) := by decide +kernel
theorem d_Mo_common_109 : decode c_Mo_common 109 = .ok (.getfield 149, 3) := by decide +kernel
theorem d_Mo_common_112 : decode c_Mo_common 112 = .ok (.iconst 1, 1) := by decide +kernel
theorem d_Mo_common_113 : decode c_Mo_common 113 = .ok (.iadd, 1) := by decide +kernel
theorem d_Mo_common_114 : decode c_Mo_common 114 = .ok (.putfield 149, 3) := by decide +kernel
theorem d_Mo_common_117 : decode c_Mo_common 117 = .ok (.aload_n 0, 1) := by decide +kernel
theorem d_Mo_common_118 : decode c_Mo_common 118 = .ok (.getfield 149, 3) := by decide +kernel
theorem d_Mo_common_121 : decode c_Mo_common 121 = .ok (.ireturn, 1) := by decide +kernel
theorem d_Mo_grade_0 : decode c_Mo_grade 0 = .ok (.aload_n 0, 1) := by decide +kernel
theorem d_Mo_grade_1 : decode c_Mo_grade 1 = .ok (.iconst 0, 1) := by decide +kernel
theorem d_Mo_grade_2 : decode c_Mo_grade 2 = .ok (.putfield 81, 3) := by decide +kernel
theorem d_Mo_grade_5 : decode c_Mo_grade 5 = .ok (.iload_n 1, 1) := by decide +kernel
theorem d_Mo_grade_6 : decode c_Mo_grade 6 = .ok (.i2l, 1) := by decide +kernel
theorem d_Mo_grade_7 : decode c_Mo_grade 7 = .ok (.lconst 0, 1) := by decide +kernel
theorem d_Mo_grade_8 : decode c_Mo_grade 8 = .ok (.ldc2_w 180, 3) := by decide +kernel
theorem d_Mo_grade_11 : decode c_Mo_grade 11 = .ok (.invokestatic 88, 3) := by decide +kernel
theorem d_Mo_grade_14 : decode c_Mo_grade 14 = .ok (.ifCond .eq 27, 3) := by decide +kernel
theorem d_Mo_grade_17 : decode c_Mo_grade 17 = .ok (.iload_n 2, 1) := by decide +kernel
theorem d_Mo_grade_18 : decode c_Mo_grade 18 = .ok (.i2l, 1) := by decide +kernel
theorem d_Mo_grade_19 : decode c_Mo_grade 19 = .ok (.lconst 0, 1) := by decide +kernel
theorem d_Mo_grade_20 : decode c_Mo_grade 20 = .ok (.ldc2_w 182, 3) := by decide +kernel
theorem d_Mo_grade_23 : decode c_Mo_grade 23 = .ok (.invokestatic 88, 3) := by decide +kernel
theorem d_Mo_grade_26 : decode c_Mo_grade 26 = .ok (.ifCond .eq 15, 3) := by decide +kernel
theorem d_Mo_grade_29 : decode c_Mo_grade 29 = .ok (.iload_n 3, 1) := by decide +kernel
theorem d_Mo_grade_30 : decode c_Mo_grade 30 = .ok (.i2l, 1) := by decide +kernel
theorem d_Mo_grade_31 : decode c_Mo_grade 31 = .ok (.lconst 0, 1) := by decide +kernel
theorem d_Mo_grade_32 : decode c_Mo_grade 32 = .ok (.ldc2_w 180, 3) := by decide +kernel
theorem d_Mo_grade_35 : decode c_Mo_grade 35 = .ok (.invokestatic 88, 3) := by decide +kernel
theorem d_Mo_grade_38 : decode c_Mo_grade 38 = .ok (.ifCond .ne 6, 3) := by decide +kernel
theorem d_Mo_grade_41 : decode c_Mo_grade 41 = .ok (.bipush (-2), 2) := by decide +kernel
theorem d_Mo_grade_43 : decode c_Mo_grade 43 = .ok (.ireturn, 1) := by decide +kernel
theorem d_Mo_grade_44 : decode c_Mo_grade 44 = .ok (.iload_n 1, 1) := by decide +kernel
theorem d_Mo_grade_45 : decode c_Mo_grade 45 = .ok (.ifCond .eq 21, 3) := by decide +kernel
theorem d_Mo_grade_48 : decode c_Mo_grade 48 = .ok (.iload_n 2, 1) := by decide +kernel
theorem d_Mo_grade_49 : decode c_Mo_grade 49 = .ok (.ifCond .eq 17, 3) := by decide +kernel
theorem d_Mo_grade_52 : decode c_Mo_grade 52 = .ok (.iload_n 3, 1) := by decide +kernel
theorem d_Mo_grade_53 : decode c_Mo_grade 53 = .ok (.ifCond .eq 13, 3) := by decide +kernel
theorem d_Mo_grade_56 : decode c_Mo_grade 56 = .ok (.iload_n 1, 1) := by decide +kernel
theorem d_Mo_grade_57 : decode c_Mo_grade 57 = .ok (.iload_n 2, 1) := by decide +kernel
theorem d_Mo_grade_58 : decode c_Mo_grade 58 = .ok (.iadd, 1) := by decide +kernel
theorem d_Mo_grade_59 : decode c_Mo_grade 59 = .ok (.iload_n 3, 1) := by decide +kernel
theorem d_Mo_grade_60 : decode c_Mo_grade 60 = .ok (.iadd, 1) := by decide +kernel
theorem d_Mo_grade_61 : decode c_Mo_grade 61 = .ok (.bipush 7, 2) := by decide +kernel
theorem d_Mo_grade_63 : decode c_Mo_grade 63 = .ok (.if_icmp .ge 7, 3) := by decide +kernel
theorem d_Mo_grade_66 : decode c_Mo_grade 66 = .ok (.iconst 1, 1) := by decide +kernel
theorem d_Mo_grade_67 : decode c_Mo_grade 67 = .ok (.goto 4, 3) := by decide +kernel
theorem d_Mo_grade_70 : decode c_Mo_grade 70 = .ok (.iconst 0, 1) := by decide +kernel
theorem d_Mo_grade_71 : decode c_Mo_grade 71 = .ok (.istore 4, 2) := by decide +kernel
theorem d_Mo_grade_73 : decode c_Mo_grade 73 = .ok (.iload 4, 2) := by decide +kernel
theorem d_Mo_grade_75 : decode c_Mo_grade 75 = .ok (.ifCond .eq 7, 3) := by decide +kernel
theorem d_Mo_grade_78 : decode c_Mo_grade 78 = .ok (.iconst 0, 1) := by decide +kernel
theorem d_Mo_grade_79 : decode c_Mo_grade 79 = .ok (.goto 11, 3) := by decide +kernel
theorem d_Mo_grade_82 : decode c_Mo_grade 82 = .ok (.iload_n 1, 1) := by decide +kernel
theorem d_Mo_grade_83 : decode c_Mo_grade 83 = .ok (.iload_n 2, 1) := by decide +kernel
theorem d_Mo_grade_84 : decode c_Mo_grade 84 = .ok (.iadd, 1) := by decide +kernel
theorem d_Mo_grade_85 : decode c_Mo_grade 85 = .ok (.iload_n 3, 1) := by decide +kernel
theorem d_Mo_grade_86 : decode c_Mo_grade 86 = .ok (.iadd, 1) := by decide +kernel
theorem d_Mo_grade_87 : decode c_Mo_grade 87 = .ok (.bipush 6, 2) := by decide +kernel
theorem d_Mo_grade_89 : decode c_Mo_grade 89 = .ok (.isub, 1) := by decide +kernel
theorem d_Mo_grade_90 : decode c_Mo_grade 90 = .ok (.ireturn, 1) := by decide +kernel
theorem d_Mo_goal_0 : decode c_Mo_goal 0 = .ok (.aload_n 0, 1) := by decide +kernel
theorem d_Mo_goal_1 : decode c_Mo_goal 1 = .ok (.iconst 0, 1) := by decide +kernel
theorem d_Mo_goal_2 : decode c_Mo_goal 2 = .ok (.putfield 81, 3) := by decide +kernel
theorem d_Mo_goal_5 : decode c_Mo_goal 5 = .ok (.iload_n 1, 1) := by decide +kernel
theorem d_Mo_goal_6 : decode c_Mo_goal 6 = .ok (.i2l, 1) := by decide +kernel
theorem d_Mo_goal_7 : decode c_Mo_goal 7 = .ok (.lconst 0, 1) := by decide +kernel
theorem d_Mo_goal_8 : decode c_Mo_goal 8 = .ok (.ldc2_w 182, 3) := by decide +kernel
theorem d_Mo_goal_11 : decode c_Mo_goal 11 = .ok (.invokestatic 88, 3) := by decide +kernel
theorem d_Mo_goal_14 : decode c_Mo_goal 14 = .ok (.ifCond .ne 6, 3) := by decide +kernel
theorem d_Mo_goal_17 : decode c_Mo_goal 17 = .ok (.bipush (-2), 2) := by decide +kernel
theorem d_Mo_goal_19 : decode c_Mo_goal 19 = .ok (.ireturn, 1) := by decide +kernel
theorem d_Mo_goal_20 : decode c_Mo_goal 20 = .ok (.aload_n 0, 1) := by decide +kernel
theorem d_Mo_goal_21 : decode c_Mo_goal 21 = .ok (.getfield 184, 3) := by decide +kernel
theorem d_Mo_goal_24 : decode c_Mo_goal 24 = .ok (.bipush 30, 2) := by decide +kernel
theorem d_Mo_goal_26 : decode c_Mo_goal 26 = .ok (.if_icmp .ne 6, 3) := by decide +kernel
theorem d_Mo_goal_29 : decode c_Mo_goal 29 = .ok (.bipush (-4), 2) := by decide +kernel
theorem d_Mo_goal_31 : decode c_Mo_goal 31 = .ok (.ireturn, 1) := by decide +kernel
theorem d_Mo_goal_32 : decode c_Mo_goal 32 = .ok (.aload_n 0, 1) := by decide +kernel
theorem d_Mo_goal_33 : decode c_Mo_goal 33 = .ok (.dup, 1) := by decide +kernel
theorem d_Mo_goal_34 : decode c_Mo_goal 34 = .ok (.getfield 184, 3) := by decide +kernel
theorem d_Mo_goal_37 : decode c_Mo_goal 37 = .ok (.iconst 1, 1) := by decide +kernel
theorem d_Mo_goal_38 : decode c_Mo_goal 38 = .ok (.iadd, 1) := by decide +kernel
theorem d_Mo_goal_39 : decode c_Mo_goal 39 = .ok (.putfield 184, 3) := by decide +kernel
theorem d_Mo_goal_42 : decode c_Mo_goal 42 = .ok (.aload_n 0, 1) := by decide +kernel
theorem d_Mo_goal_43 : decode c_Mo_goal 43 = .ok (.getfield 69, 3) := by decide +kernel
theorem d_Mo_goal_46 : decode c_Mo_goal 46 = .ok (.aload_n 0, 1) := by decide +kernel
theorem d_Mo_goal_47 : decode c_Mo_goal 47 = .ok (.getfield 184, 3) := by decide +kernel
theorem d_Mo_goal_50 : decode c_Mo_goal 50 = .ok (.iload_n 1, 1) := by decide +kernel
theorem d_Mo_goal_51 : decode c_Mo_goal 51 = .ok (.iastore, 1) := by decide +kernel
theorem d_Mo_goal_52 : decode c_Mo_goal 52 = .ok (.aload_n 0, 1) := by decide +kernel
theorem d_Mo_goal_53 : decode c_Mo_goal 53 = .ok (.getfield 184, 3) := by decide +kernel
theorem d_Mo_goal_56 : decode c_Mo_goal 56 = .ok (.ireturn, 1) := by decide +kernel
theorem d_Mo_trace_0 : decode c_Mo_trace 0 = .ok (.aload_n 0, 1) := by decide +kernel
theorem d_Mo_trace_1 : decode c_Mo_trace 1 = .ok (.iconst 0, 1) := by decide +kernel
theorem d_Mo_trace_2 : decode c_Mo_trace 2 = .ok (.putfield 81, 3) := by decide +kernel
theorem d_Mo_trace_5 : decode c_Mo_trace 5 = .ok (.iload_n 1, 1) := by decide +kernel
theorem d_Mo_trace_6 : decode c_Mo_trace 6 = .ok (.i2l, 1) := by decide +kernel
theorem d_Mo_trace_7 : decode c_Mo_trace 7 = .ok (.lconst 1, 1) := by decide +kernel
theorem d_Mo_trace_8 : decode c_Mo_trace 8 = .ok (.aload_n 0, 1) := by decide +kernel
theorem d_Mo_trace_9 : decode c_Mo_trace 9 = .ok (.getfield 184, 3) := by decide +kernel
theorem d_Mo_trace_12 : decode c_Mo_trace 12 = .ok (.i2l, 1) := by decide +kernel
theorem d_Mo_trace_13 : decode c_Mo_trace 13 = .ok (.invokestatic 88, 3) := by decide +kernel
theorem d_Mo_trace_16 : decode c_Mo_trace 16 = .ok (.ifCond .ne 5, 3) := by decide +kernel
theorem d_Mo_trace_19 : decode c_Mo_trace 19 = .ok (.iconst (-1), 1) := by decide +kernel
theorem d_Mo_trace_20 : decode c_Mo_trace 20 = .ok (.ireturn, 1) := by decide +kernel
theorem d_Mo_trace_21 : decode c_Mo_trace 21 = .ok (.iload_n 2, 1) := by decide +kernel
theorem d_Mo_trace_22 : decode c_Mo_trace 22 = .ok (.i2l, 1) := by decide +kernel
theorem d_Mo_trace_23 : decode c_Mo_trace 23 = .ok (.lconst 1, 1) := by decide +kernel
theorem d_Mo_trace_24 : decode c_Mo_trace 24 = .ok (.ldc2_w 187, 3) := by decide +kernel
theorem d_Mo_trace_27 : decode c_Mo_trace 27 = .ok (.invokestatic 88, 3) := by decide +kernel
theorem d_Mo_trace_30 : decode c_Mo_trace 30 = .ok (.ifCond .eq 15, 3) := by decide +kernel
theorem d_Mo_trace_33 : decode c_Mo_trace 33 = .ok (.iload_n 3, 1) := by decide +kernel
theorem d_Mo_trace_34 : decode c_Mo_trace 34 = .ok (.i2l, 1) := by decide +kernel
theorem d_Mo_trace_35 : decode c_Mo_trace 35 = .ok (.lconst 0, 1) := by decide +kernel
theorem d_Mo_trace_36 : decode c_Mo_trace 36 = .ok (.ldc2_w 187, 3) := by decide +kernel
theorem d_Mo_trace_39 : decode c_Mo_trace 39 = .ok (.invokestatic 88, 3) := by decide +kernel
theorem d_Mo_trace_42 : decode c_Mo_trace 42 = .ok (.ifCond .ne 6, 3) := by decide +kernel
theorem d_Mo_trace_45 : decode c_Mo_trace 45 = .ok (.bipush (-2), 2) := by decide +kernel
theorem d_Mo_trace_47 : decode c_Mo_trace 47 = .ok (.ireturn, 1) := by decide +kernel
theorem d_Mo_trace_48 : decode c_Mo_trace 48 = .ok (.iconst 0, 1) := by decide +kernel
theorem d_Mo_trace_49 : decode c_Mo_trace 49 = .ok (.istore 4, 2) := by decide +kernel
theorem d_Mo_trace_51 : decode c_Mo_trace 51 = .ok (.iload 4, 2) := by decide +kernel
theorem d_Mo_trace_53 : decode c_Mo_trace 53 = .ok (.aload_n 0, 1) := by decide +kernel
theorem d_Mo_trace_54 : decode c_Mo_trace 54 = .ok (.getfield 189, 3) := by decide +kernel
theorem d_Mo_trace_57 : decode c_Mo_trace 57 = .ok (.if_icmp .ge 45, 3) := by decide +kernel
theorem d_Mo_trace_60 : decode c_Mo_trace 60 = .ok (.aload_n 0, 1) := by decide +kernel
theorem d_Mo_trace_61 : decode c_Mo_trace 61 = .ok (.getfield 72, 3) := by decide +kernel
theorem d_Mo_trace_64 : decode c_Mo_trace 64 = .ok (.iload 4, 2) := by decide +kernel
theorem d_Mo_trace_66 : decode c_Mo_trace 66 = .ok (.iaload, 1) := by decide +kernel
theorem d_Mo_trace_67 : decode c_Mo_trace 67 = .ok (.iload_n 1, 1) := by decide +kernel
theorem d_Mo_trace_68 : decode c_Mo_trace 68 = .ok (.if_icmp .ne 28, 3) := by decide +kernel
theorem d_Mo_trace_71 : decode c_Mo_trace 71 = .ok (.aload_n 0, 1) := by decide +kernel
theorem d_Mo_trace_72 : decode c_Mo_trace 72 = .ok (.getfield 75, 3) := by decide +kernel
theorem d_Mo_trace_75 : decode c_Mo_trace 75 = .ok (.iload 4, 2) := by decide +kernel
theorem d_Mo_trace_77 : decode c_Mo_trace 77 = .ok (.iaload, 1) := by decide +kernel
theorem d_Mo_trace_78 : decode c_Mo_trace 78 = .ok (.iload_n 2, 1) := by decide +kernel
theorem d_Mo_trace_79 : decode c_Mo_trace 79 = .ok (.if_icmp .ne 17, 3) := by decide +kernel
theorem d_Mo_trace_82 : decode c_Mo_trace 82 = .ok (.aload_n 0, 1) := by decide +kernel
theorem d_Mo_trace_83 : decode c_Mo_trace 83 = .ok (.getfield 78, 3) := by decide +kernel
theorem d_Mo_trace_86 : decode c_Mo_trace 86 = .ok (.iload 4, 2) := by decide +kernel
theorem d_Mo_trace_88 : decode c_Mo_trace 88 = .ok (.iaload, 1) := by decide +kernel
theorem d_Mo_trace_89 : decode c_Mo_trace 89 = .ok (.iload_n 3, 1) := by decide +kernel
theorem d_Mo_trace_90 : decode c_Mo_trace 90 = .ok (.if_icmp .ne 6, 3) := by decide +kernel
theorem d_Mo_trace_93 : decode c_Mo_trace 93 = .ok (.bipush (-3), 2) := by decide +kernel
theorem d_Mo_trace_95 : decode c_Mo_trace 95 = .ok (.ireturn, 1) := by decide +kernel
theorem d_Mo_trace_96 : decode c_Mo_trace 96 = .ok (.iinc 4 1, 3) := by decide +kernel
theorem d_Mo_trace_99 : decode c_Mo_trace 99 = .ok (.goto (-48), 3) := by decide +kernel
theorem d_Mo_trace_102 : decode c_Mo_trace 102 = .ok (.aload_n 0, 1) := by decide +kernel
theorem d_Mo_trace_103 : decode c_Mo_trace 103 = .ok (.getfield 189, 3) := by decide +kernel
theorem d_Mo_trace_106 : decode c_Mo_trace 106 = .ok (.bipush 100, 2) := by decide +kernel
theorem d_Mo_trace_108 : decode c_Mo_trace 108 = .ok (.if_icmp .ne 6, 3) := by decide +kernel
theorem d_Mo_trace_111 : decode c_Mo_trace 111 = .ok (.bipush (-4), 2) := by decide +kernel
theorem d_Mo_trace_113 : decode c_Mo_trace 113 = .ok (.ireturn, 1) := by decide +kernel
theorem d_Mo_trace_114 : decode c_Mo_trace 114 = .ok (.aload_n 0, 1) := by decide +kernel
theorem d_Mo_trace_115 : decode c_Mo_trace 115 = .ok (.getfield 72, 3) := by decide +kernel
theorem d_Mo_trace_118 : decode c_Mo_trace 118 = .ok (.aload_n 0, 1) := by decide +kernel
theorem d_Mo_trace_119 : decode c_Mo_trace 119 = .ok (.getfield 189, 3) := by decide +kernel
theorem d_Mo_trace_122 : decode c_Mo_trace 122 = .ok (.iload_n 1, 1) := by decide +kernel
theorem d_Mo_trace_123 : decode c_Mo_trace 123 = .ok (.iastore, 1) := by decide +kernel
theorem d_Mo_trace_124 : decode c_Mo_trace 124 = .ok (.aload_n 0, 1) := by decide +kernel
theorem d_Mo_trace_125 : decode c_Mo_trace 125 = .ok (.getfield 75, 3) := by decide +kernel
theorem d_Mo_trace_128 : decode c_Mo_trace 128 = .ok (.aload_n 0, 1) := by decide +kernel
theorem d_Mo_trace_129 : decode c_Mo_trace 129 = .ok (.getfield 189, 3) := by decide +kernel
theorem d_Mo_trace_132 : decode c_Mo_trace 132 = .ok (.iload_n 2, 1) := by decide +kernel
theorem d_Mo_trace_133 : decode c_Mo_trace 133 = .ok (.iastore, 1) := by decide +kernel
theorem d_Mo_trace_134 : decode c_Mo_trace 134 = .ok (.aload_n 0, 1) := by decide +kernel
theorem d_Mo_trace_135 : decode c_Mo_trace 135 = .ok (.getfield 78, 3) := by decide +kernel
theorem d_Mo_trace_138 : decode c_Mo_trace 138 = .ok (.aload_n 0, 1) := by decide +kernel
theorem d_Mo_trace_139 : decode c_Mo_trace 139 = .ok (.getfield 189, 3) := by decide +kernel
theorem d_Mo_trace_142 : decode c_Mo_trace 142 = .ok (.iload_n 3, 1) := by decide +kernel
theorem d_Mo_trace_143 : decode c_Mo_trace 143 = .ok (.iastore, 1) := by decide +kernel
theorem d_Mo_trace_144 : decode c_Mo_trace 144 = .ok (.aload_n 0, 1) := by decide +kernel
theorem d_Mo_trace_145 : decode c_Mo_trace 145 = .ok (.dup, 1) := by decide +kernel
theorem d_Mo_trace_146 : decode c_Mo_trace 146 = .ok (.getfield 189, 3) := by decide +kernel
theorem d_Mo_trace_149 : decode c_Mo_trace 149 = .ok (.iconst 1, 1) := by decide +kernel
theorem d_Mo_trace_150 : decode c_Mo_trace 150 = .ok (.iadd, 1) := by decide +kernel
theorem d_Mo_trace_151 : decode c_Mo_trace 151 = .ok (.putfield 189, 3) := by decide +kernel
theorem d_Mo_trace_154 : decode c_Mo_trace 154 = .ok (.aload_n 0, 1) := by decide +kernel
theorem d_Mo_trace_155 : decode c_Mo_trace 155 = .ok (.getfield 189, 3) := by decide +kernel
theorem d_Mo_trace_158 : decode c_Mo_trace 158 = .ok (.ireturn, 1) := by decide +kernel
theorem d_Mo_rowsOf_0 : decode c_Mo_rowsOf 0 = .ok (.iconst 0, 1) := by decide +kernel
theorem d_Mo_rowsOf_1 : decode c_Mo_rowsOf 1 = .ok (.istore 4, 2) := by decide +kernel
theorem d_Mo_rowsOf_3 : decode c_Mo_rowsOf 3 = .ok (.iconst 0, 1) := by decide +kernel
theorem d_Mo_rowsOf_4 : decode c_Mo_rowsOf 4 = .ok (.istore 5, 2) := by decide +kernel
theorem d_Mo_rowsOf_6 : decode c_Mo_rowsOf 6 = .ok (.iload 5, 2) := by decide +kernel
theorem d_Mo_rowsOf_8 : decode c_Mo_rowsOf 8 = .ok (.aload_n 0, 1) := by decide +kernel
theorem d_Mo_rowsOf_9 : decode c_Mo_rowsOf 9 = .ok (.getfield 189, 3) := by decide +kernel
theorem d_Mo_rowsOf_12 : decode c_Mo_rowsOf 12 = .ok (.if_icmp .ge 76, 3) := by decide +kernel
theorem d_Mo_rowsOf_15 : decode c_Mo_rowsOf 15 = .ok (.iload_n 1, 1) := by decide +kernel
theorem d_Mo_rowsOf_16 : decode c_Mo_rowsOf 16 = .ok (.ifCond .eq 14, 3) := by decide +kernel
theorem d_Mo_rowsOf_19 : decode c_Mo_rowsOf 19 = .ok (.aload_n 0, 1) := by decide +kernel
theorem d_Mo_rowsOf_20 : decode c_Mo_rowsOf 20 = .ok (.getfield 72, 3) := by decide +kernel
theorem d_Mo_rowsOf_23 : decode c_Mo_rowsOf 23 = .ok (.iload 5, 2) := by decide +kernel
theorem d_Mo_rowsOf_25 : decode c_Mo_rowsOf 25 = .ok (.iaload, 1) := by decide +kernel
theorem d_Mo_rowsOf_26 : decode c_Mo_rowsOf 26 = .ok (.iload_n 1, 1) := by decide +kernel
theorem d_Mo_rowsOf_27 : decode c_Mo_rowsOf 27 = .ok (.if_icmp .ne 22, 3) := by decide +kernel
theorem d_Mo_rowsOf_30 : decode c_Mo_rowsOf 30 = .ok (.iload_n 2, 1) := by decide +kernel
theorem d_Mo_rowsOf_31 : decode c_Mo_rowsOf 31 = .ok (.ifCond .eq 14, 3) := by decide +kernel
theorem d_Mo_rowsOf_34 : decode c_Mo_rowsOf 34 = .ok (.aload_n 0, 1) := by decide +kernel
theorem d_Mo_rowsOf_35 : decode c_Mo_rowsOf 35 = .ok (.getfield 75, 3) := by decide +kernel
theorem d_Mo_rowsOf_38 : decode c_Mo_rowsOf 38 = .ok (.iload 5, 2) := by decide +kernel
theorem d_Mo_rowsOf_40 : decode c_Mo_rowsOf 40 = .ok (.iaload, 1) := by decide +kernel
theorem d_Mo_rowsOf_41 : decode c_Mo_rowsOf 41 = .ok (.iload_n 2, 1) := by decide +kernel
theorem d_Mo_rowsOf_42 : decode c_Mo_rowsOf 42 = .ok (.if_icmp .ne 7, 3) := by decide +kernel
theorem d_Mo_rowsOf_45 : decode c_Mo_rowsOf 45 = .ok (.iconst 1, 1) := by decide +kernel
theorem d_Mo_rowsOf_46 : decode c_Mo_rowsOf 46 = .ok (.goto 4, 3) := by decide +kernel
theorem d_Mo_rowsOf_49 : decode c_Mo_rowsOf 49 = .ok (.iconst 0, 1) := by decide +kernel
theorem d_Mo_rowsOf_50 : decode c_Mo_rowsOf 50 = .ok (.istore 6, 2) := by decide +kernel
theorem d_Mo_rowsOf_52 : decode c_Mo_rowsOf 52 = .ok (.iload 6, 2) := by decide +kernel
theorem d_Mo_rowsOf_54 : decode c_Mo_rowsOf 54 = .ok (.ifCond .eq 24, 3) := by decide +kernel
theorem d_Mo_rowsOf_57 : decode c_Mo_rowsOf 57 = .ok (.iload_n 3, 1) := by decide +kernel
theorem d_Mo_rowsOf_58 : decode c_Mo_rowsOf 58 = .ok (.ifCond .eq 13, 3) := by decide +kernel
theorem d_Mo_rowsOf_61 : decode c_Mo_rowsOf 61 = .ok (.aload_n 0, 1) := by decide +kernel
theorem d_Mo_rowsOf_62 : decode c_Mo_rowsOf 62 = .ok (.getfield 78, 3) := by decide +kernel
theorem d_Mo_rowsOf_65 : decode c_Mo_rowsOf 65 = .ok (.iload 5, 2) := by decide +kernel
theorem d_Mo_rowsOf_67 : decode c_Mo_rowsOf 67 = .ok (.iaload, 1) := by decide +kernel
theorem d_Mo_rowsOf_68 : decode c_Mo_rowsOf 68 = .ok (.ifCond .le 10, 3) := by decide +kernel
theorem d_Mo_rowsOf_71 : decode c_Mo_rowsOf 71 = .ok (.iload 4, 2) := by decide +kernel
theorem d_Mo_rowsOf_73 : decode c_Mo_rowsOf 73 = .ok (.iconst 1, 1) := by decide +kernel
theorem d_Mo_rowsOf_74 : decode c_Mo_rowsOf 74 = .ok (.iadd, 1) := by decide +kernel
theorem d_Mo_rowsOf_75 : decode c_Mo_rowsOf 75 = .ok (.goto 5, 3) := by decide +kernel
theorem d_Mo_rowsOf_78 : decode c_Mo_rowsOf 78 = .ok (.iload 4, 2) := by decide +kernel
theorem d_Mo_rowsOf_80 : decode c_Mo_rowsOf 80 = .ok (.istore 4, 2) := by decide +kernel
theorem d_Mo_rowsOf_82 : decode c_Mo_rowsOf 82 = .ok (.iinc 5 1, 3) := by decide +kernel
theorem d_Mo_rowsOf_85 : decode c_Mo_rowsOf 85 = .ok (.goto (-79), 3) := by decide +kernel
theorem d_Mo_rowsOf_88 : decode c_Mo_rowsOf 88 = .ok (.iload 4, 2) := by decide +kernel
theorem d_Mo_rowsOf_90 : decode c_Mo_rowsOf 90 = .ok (.ireturn, 1) := by decide +kernel
theorem d_Mo_open_0 : decode c_Mo_open 0 = .ok (.aload_n 0, 1) := by decide +kernel
theorem d_Mo_open_1 : decode c_Mo_open 1 = .ok (.iconst 0, 1) := by decide +kernel
theorem d_Mo_open_2 : decode c_Mo_open 2 = .ok (.putfield 81, 3) := by decide +kernel
theorem d_Mo_open_5 : decode c_Mo_open 5 = .ok (.iconst 0, 1) := by decide +kernel
theorem d_Mo_open_6 : decode c_Mo_open 6 = .ok (.istore_n 2, 1) := by decide +kernel
theorem d_Mo_open_7 : decode c_Mo_open 7 = .ok (.iconst 1, 1) := by decide +kernel
theorem d_Mo_open_8 : decode c_Mo_open 8 = .ok (.istore_n 3, 1) := by decide +kernel
theorem d_Mo_open_9 : decode c_Mo_open 9 = .ok (.iload_n 3, 1) := by decide +kernel
theorem d_Mo_open_10 : decode c_Mo_open 10 = .ok (.aload_n 0, 1) := by decide +kernel
theorem d_Mo_open_11 : decode c_Mo_open 11 = .ok (.getfield 184, 3) := by decide +kernel
theorem d_Mo_open_14 : decode c_Mo_open 14 = .ok (.if_icmp .gt 38, 3) := by decide +kernel
theorem d_Mo_open_17 : decode c_Mo_open 17 = .ok (.aload_n 0, 1) := by decide +kernel
theorem d_Mo_open_18 : decode c_Mo_open 18 = .ok (.getfield 69, 3) := by decide +kernel
theorem d_Mo_open_21 : decode c_Mo_open 21 = .ok (.iload_n 3, 1) := by decide +kernel
theorem d_Mo_open_22 : decode c_Mo_open 22 = .ok (.iaload, 1) := by decide +kernel
theorem d_Mo_open_23 : decode c_Mo_open 23 = .ok (.ifCond .le 23, 3) := by decide +kernel
theorem d_Mo_open_26 : decode c_Mo_open 26 = .ok (.aload_n 0, 1) := by decide +kernel
theorem d_Mo_open_27 : decode c_Mo_open 27 = .ok (.iload_n 3, 1) := by decide +kernel
theorem d_Mo_open_28 : decode c_Mo_open 28 = .ok (.iconst 0, 1) := by decide +kernel
theorem d_Mo_open_29 : decode c_Mo_open 29 = .ok (.iconst 1, 1) := by decide +kernel
theorem d_Mo_open_30 : decode c_Mo_open 30 = .ok (.invokevirtual 192, 3) := by decide +kernel
theorem d_Mo_open_33 : decode c_Mo_open 33 = .ok (.ifCond .ne 13, 3) := by decide +kernel
theorem d_Mo_open_36 : decode c_Mo_open 36 = .ok (.iload_n 2, 1) := by decide +kernel
theorem d_Mo_open_37 : decode c_Mo_open 37 = .ok (.iload_n 1, 1) := by decide +kernel
theorem d_Mo_open_38 : decode c_Mo_open 38 = .ok (.if_icmp .ne 5, 3) := by decide +kernel
theorem d_Mo_open_41 : decode c_Mo_open 41 = .ok (.iload_n 3, 1) := by decide +kernel
theorem d_Mo_open_42 : decode c_Mo_open 42 = .ok (.ireturn, 1) := by decide +kernel
theorem d_Mo_open_43 : decode c_Mo_open 43 = .ok (.iinc 2 1, 3) := by decide +kernel
theorem d_Mo_open_46 : decode c_Mo_open 46 = .ok (.iinc 3 1, 3) := by decide +kernel
theorem d_Mo_open_49 : decode c_Mo_open 49 = .ok (.goto (-40), 3) := by decide +kernel
theorem d_Mo_open_52 : decode c_Mo_open 52 = .ok (.iconst 1, 1) := by decide +kernel
theorem d_Mo_open_53 : decode c_Mo_open 53 = .ok (.istore_n 3, 1) := by decide +kernel
theorem d_Mo_open_54 : decode c_Mo_open 54 = .ok (.iload_n 3, 1) := by decide +kernel
theorem d_Mo_open_55 : decode c_Mo_open 55 = .ok (.bipush 50, 2) := by decide +kernel
theorem d_Mo_open_57 : decode c_Mo_open 57 = .ok (.if_icmp .gt 40, 3) := by decide +kernel
theorem d_Mo_open_60 : decode c_Mo_open 60 = .ok (.aload_n 0, 1) := by decide +kernel
theorem d_Mo_open_61 : decode c_Mo_open 61 = .ok (.iconst 0, 1) := by decide +kernel
theorem d_Mo_open_62 : decode c_Mo_open 62 = .ok (.iload_n 3, 1) := by decide +kernel
theorem d_Mo_open_63 : decode c_Mo_open 63 = .ok (.iconst 0, 1) := by decide +kernel
theorem d_Mo_open_64 : decode c_Mo_open 64 = .ok (.invokevirtual 192, 3) := by decide +kernel
theorem d_Mo_open_67 : decode c_Mo_open 67 = .ok (.ifCond .le 24, 3) := by decide +kernel
theorem d_Mo_open_70 : decode c_Mo_open 70 = .ok (.aload_n 0, 1) := by decide +kernel
theorem d_Mo_open_71 : decode c_Mo_open 71 = .ok (.iconst 0, 1) := by decide +kernel
theorem d_Mo_open_72 : decode c_Mo_open 72 = .ok (.iload_n 3, 1) := by decide +kernel
theorem d_Mo_open_73 : decode c_Mo_open 73 = .ok (.iconst 1, 1) := by decide +kernel
theorem d_Mo_open_74 : decode c_Mo_open 74 = .ok (.invokevirtual 192, 3) := by decide +kernel
theorem d_Mo_open_77 : decode c_Mo_open 77 = .ok (.ifCond .ne 14, 3) := by decide +kernel
theorem d_Mo_open_80 : decode c_Mo_open 80 = .ok (.iload_n 2, 1) := by decide +kernel
theorem d_Mo_open_81 : decode c_Mo_open 81 = .ok (.iload_n 1, 1) := by decide +kernel
theorem d_Mo_open_82 : decode c_Mo_open 82 = .ok (.if_icmp .ne 6, 3) := by decide +kernel
theorem d_Mo_open_85 : decode c_Mo_open 85 = .ok (.iload_n 3, 1) := by decide +kernel
theorem d_Mo_open_86 : decode c_Mo_open 86 = .ok (.ineg, 1) := by decide +kernel
theorem d_Mo_open_87 : decode c_Mo_open 87 = .ok (.ireturn, 1) := by decide +kernel
theorem d_Mo_open_88 : decode c_Mo_open 88 = .ok (.iinc 2 1, 3) := by decide +kernel
theorem d_Mo_open_91 : decode c_Mo_open 91 = .ok (.iinc 3 1, 3) := by decide +kernel
theorem d_Mo_open_94 : decode c_Mo_open 94 = .ok (.goto (-40), 3) := by decide +kernel
theorem d_Mo_open_97 : decode c_Mo_open 97 = .ok (.iconst 0, 1) := by decide +kernel
theorem d_Mo_open_98 : decode c_Mo_open 98 = .ok (.ireturn, 1) := by decide +kernel
theorem d_Mo_cover_0 : decode c_Mo_cover 0 = .ok (.iload_n 1, 1) := by decide +kernel
theorem d_Mo_cover_1 : decode c_Mo_cover 1 = .ok (.i2l, 1) := by decide +kernel
theorem d_Mo_cover_2 : decode c_Mo_cover 2 = .ok (.lconst 1, 1) := by decide +kernel
theorem d_Mo_cover_3 : decode c_Mo_cover 3 = .ok (.ldc2_w 187, 3) := by decide +kernel
theorem d_Mo_cover_6 : decode c_Mo_cover 6 = .ok (.invokestatic 88, 3) := by decide +kernel
theorem d_Mo_cover_9 : decode c_Mo_cover 9 = .ok (.ifCond .eq 13, 3) := by decide +kernel
theorem d_Mo_cover_12 : decode c_Mo_cover 12 = .ok (.aload_n 0, 1) := by decide +kernel
theorem d_Mo_cover_13 : decode c_Mo_cover 13 = .ok (.iconst 0, 1) := by decide +kernel
theorem d_Mo_cover_14 : decode c_Mo_cover 14 = .ok (.iload_n 1, 1) := by decide +kernel
theorem d_Mo_cover_15 : decode c_Mo_cover 15 = .ok (.iconst 0, 1) := by decide +kernel
theorem d_Mo_cover_16 : decode c_Mo_cover 16 = .ok (.invokevirtual 192, 3) := by decide +kernel
theorem d_Mo_cover_19 : decode c_Mo_cover 19 = .ok (.goto 4, 3) := by decide +kernel
theorem d_Mo_cover_22 : decode c_Mo_cover 22 = .ok (.iconst 0, 1) := by decide +kernel
theorem d_Mo_cover_23 : decode c_Mo_cover 23 = .ok (.istore_n 3, 1) := by decide +kernel
theorem d_Mo_cover_24 : decode c_Mo_cover 24 = .ok (.aload_n 0, 1) := by decide +kernel
theorem d_Mo_cover_25 : decode c_Mo_cover 25 = .ok (.iload_n 3, 1) := by decide +kernel
theorem d_Mo_cover_26 : decode c_Mo_cover 26 = .ok (.ifCond .ne 7, 3) := by decide +kernel
theorem d_Mo_cover_29 : decode c_Mo_cover 29 = .ok (.iconst 1, 1) := by decide +kernel
theorem d_Mo_cover_30 : decode c_Mo_cover 30 = .ok (.goto 4, 3) := by decide +kernel
theorem d_Mo_cover_33 : decode c_Mo_cover 33 = .ok (.iconst 0, 1) := by decide +kernel
theorem d_Mo_cover_34 : decode c_Mo_cover 34 = .ok (.putfield 81, 3) := by decide +kernel
theorem d_Mo_cover_37 : decode c_Mo_cover 37 = .ok (.iload_n 3, 1) := by decide +kernel
theorem d_Mo_cover_38 : decode c_Mo_cover 38 = .ok (.ifCond .ne 7, 3) := by decide +kernel
theorem d_Mo_cover_41 : decode c_Mo_cover 41 = .ok (.lconst 0, 1) := by decide +kernel
theorem d_Mo_cover_42 : decode c_Mo_cover 42 = .ok (.goto 17, 3) := by decide +kernel
theorem d_Mo_cover_45 : decode c_Mo_cover 45 = .ok (.aload_n 0, 1) := by decide +kernel
theorem d_Mo_cover_46 : decode c_Mo_cover 46 = .ok (.iconst 0, 1) := by decide +kernel
theorem d_Mo_cover_47 : decode c_Mo_cover 47 = .ok (.iload_n 1, 1) := by decide +kernel
theorem d_Mo_cover_48 : decode c_Mo_cover 48 = .ok (.iconst 1, 1) := by decide +kernel
theorem d_Mo_cover_49 : decode c_Mo_cover 49 = .ok (.invokevirtual 192, 3) := by decide +kernel
theorem d_Mo_cover_52 : decode c_Mo_cover 52 = .ok (.i2l, 1) := by decide +kernel
theorem d_Mo_cover_53 : decode c_Mo_cover 53 = .ok (.iload_n 3, 1) := by decide +kernel
theorem d_Mo_cover_54 : decode c_Mo_cover 54 = .ok (.i2l, 1) := by decide +kernel
theorem d_Mo_cover_55 : decode c_Mo_cover 55 = .ok (.iload_n 2, 1) := by decide +kernel
theorem d_Mo_cover_56 : decode c_Mo_cover 56 = .ok (.invokestatic 155, 3) := by decide +kernel
theorem d_Mo_cover_59 : decode c_Mo_cover 59 = .ok (.lreturn, 1) := by decide +kernel
