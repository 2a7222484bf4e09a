def y_Lw_cover : MethodName := ⟨"SafetyTreesLaw", "cover", "(LSafetyTrees;II[J)I"⟩
def c_Lw_cover : ByteArray := method_3_code
theorem d_Lw_cover_0 : decode c_Lw_cover 0 = .ok (.aload_n 3, 1) := by decide +kernel
theorem d_Lw_cover_1 : decode c_Lw_cover 1 = .ok (.iconst 0, 1) := by decide +kernel
theorem d_Lw_cover_2 : decode c_Lw_cover 2 = .ok (.aload_n 0, 1) := by decide +kernel
theorem d_Lw_cover_3 : decode c_Lw_cover 3 = .ok (.iload_n 1, 1) := by decide +kernel
theorem d_Lw_cover_4 : decode c_Lw_cover 4 = .ok (.iload_n 2, 1) := by decide +kernel
theorem d_Lw_cover_5 : decode c_Lw_cover 5 = .ok (.invokevirtual 7, 3) := by decide +kernel
theorem d_Lw_cover_8 : decode c_Lw_cover 8 = .ok (.lastore, 1) := by decide +kernel
theorem d_Lw_cover_9 : decode c_Lw_cover 9 = .ok (.goto 7, 3) := by decide +kernel
theorem d_Lw_cover_12 : decode c_Lw_cover 12 = .ok (.astore 4, 2) := by decide +kernel
theorem d_Lw_cover_14 : decode c_Lw_cover 14 = .ok (.iconst 1, 1) := by decide +kernel
theorem d_Lw_cover_15 : decode c_Lw_cover 15 = .ok (.ireturn, 1) := by decide +kernel
theorem d_Lw_cover_16 : decode c_Lw_cover 16 = .ok (.iconst 0, 1) := by decide +kernel
theorem d_Lw_cover_17 : decode c_Lw_cover 17 = .ok (.ireturn, 1) := by decide +kernel
theorem d_Lw_law_0 : decode code 0 = .ok (.new 8, 3) := by decide +kernel
theorem d_Lw_law_3 : decode code 3 = .ok (.dup, 1) := by decide +kernel
theorem d_Lw_law_4 : decode code 4 = .ok (.invokespecial 15, 3) := by decide +kernel
theorem d_Lw_law_7 : decode code 7 = .ok (.astore_n 1, 1) := by decide +kernel
theorem d_Lw_law_8 : decode code 8 = .ok (.new 16, 3) := by decide +kernel
theorem d_Lw_law_11 : decode code 11 = .ok (.dup, 1) := by decide +kernel
theorem d_Lw_law_12 : decode code 12 = .ok (.invokespecial 18, 3) := by decide +kernel
theorem d_Lw_law_15 : decode code 15 = .ok (.astore_n 2, 1) := by decide +kernel
theorem d_Lw_law_16 : decode code 16 = .ok (.iconst 1, 1) := by decide +kernel
theorem d_Lw_law_17 : decode code 17 = .ok (.newarray .long, 2) := by decide +kernel
theorem d_Lw_law_19 : decode code 19 = .ok (.astore_n 3, 1) := by decide +kernel
theorem d_Lw_law_20 : decode code 20 = .ok (.iconst 0, 1) := by decide +kernel
theorem d_Lw_law_21 : decode code 21 = .ok (.istore 4, 2) := by decide +kernel
theorem d_Lw_law_23 : decode code 23 = .ok (.iload 4, 2) := by decide +kernel
theorem d_Lw_law_25 : decode code 25 = .ok (.aload_n 0, 1) := by decide +kernel
theorem d_Lw_law_26 : decode code 26 = .ok (.arraylength, 1) := by decide +kernel
theorem d_Lw_law_27 : decode code 27 = .ok (.bipush 7, 2) := by decide +kernel
theorem d_Lw_law_29 : decode code 29 = .ok (.isub, 1) := by decide +kernel
theorem d_Lw_law_30 : decode code 30 = .ok (.if_icmp .gt 787, 3) := by decide +kernel
theorem d_Lw_law_33 : decode code 33 = .ok (.aload_n 0, 1) := by decide +kernel
theorem d_Lw_law_34 : decode code 34 = .ok (.iload 4, 2) := by decide +kernel
theorem d_Lw_law_36 : decode code 36 = .ok (.iaload, 1) := by decide +kernel
theorem d_Lw_law_37 : decode code 37 = .ok (.bipush 15, 2) := by decide +kernel
theorem d_Lw_law_39 : decode code 39 = .ok (.iand, 1) := by decide +kernel
theorem d_Lw_law_40 : decode code 40 = .ok (.tableswitch 771 0 13 #[72, 173, 210, 247, 316, 353, 391, 404, 531, 580, 605, 654, 679, 746], 72) := by decide +kernel
theorem d_Lw_law_112 : decode code 112 = .ok (.aload_n 1, 1) := by decide +kernel
theorem d_Lw_law_113 : decode code 113 = .ok (.aload_n 0, 1) := by decide +kernel
theorem d_Lw_law_114 : decode code 114 = .ok (.iload 4, 2) := by decide +kernel
theorem d_Lw_law_116 : decode code 116 = .ok (.iconst 1, 1) := by decide +kernel
theorem d_Lw_law_117 : decode code 117 = .ok (.iadd, 1) := by decide +kernel
theorem d_Lw_law_118 : decode code 118 = .ok (.iaload, 1) := by decide +kernel
theorem d_Lw_law_119 : decode code 119 = .ok (.i2l, 1) := by decide +kernel
theorem d_Lw_law_120 : decode code 120 = .ok (.bipush 32, 2) := by decide +kernel
theorem d_Lw_law_122 : decode code 122 = .ok (.lshl, 1) := by decide +kernel
theorem d_Lw_law_123 : decode code 123 = .ok (.aload_n 0, 1) := by decide +kernel
theorem d_Lw_law_124 : decode code 124 = .ok (.iload 4, 2) := by decide +kernel
theorem d_Lw_law_126 : decode code 126 = .ok (.iconst 2, 1) := by decide +kernel
theorem d_Lw_law_127 : decode code 127 = .ok (.iadd, 1) := by decide +kernel
theorem d_Lw_law_128 : decode code 128 = .ok (.iaload, 1) := by decide +kernel
theorem d_Lw_law_129 : decode code 129 = .ok (.i2l, 1) := by decide +kernel
theorem d_Lw_law_130 : decode code 130 = .ok (.ldc2_w 19, 3) := by decide +kernel
theorem d_Lw_law_133 : decode code 133 = .ok (.land, 1) := by decide +kernel
theorem d_Lw_law_134 : decode code 134 = .ok (.lor, 1) := by decide +kernel
theorem d_Lw_law_135 : decode code 135 = .ok (.aload_n 0, 1) := by decide +kernel
theorem d_Lw_law_136 : decode code 136 = .ok (.iload 4, 2) := by decide +kernel
theorem d_Lw_law_138 : decode code 138 = .ok (.iconst 3, 1) := by decide +kernel
theorem d_Lw_law_139 : decode code 139 = .ok (.iadd, 1) := by decide +kernel
theorem d_Lw_law_140 : decode code 140 = .ok (.iaload, 1) := by decide +kernel
theorem d_Lw_law_141 : decode code 141 = .ok (.i2l, 1) := by decide +kernel
theorem d_Lw_law_142 : decode code 142 = .ok (.bipush 32, 2) := by decide +kernel
theorem d_Lw_law_144 : decode code 144 = .ok (.lshl, 1) := by decide +kernel
theorem d_Lw_law_145 : decode code 145 = .ok (.aload_n 0, 1) := by decide +kernel
theorem d_Lw_law_146 : decode code 146 = .ok (.iload 4, 2) := by decide +kernel
theorem d_Lw_law_148 : decode code 148 = .ok (.iconst 4, 1) := by decide +kernel
theorem d_Lw_law_149 : decode code 149 = .ok (.iadd, 1) := by decide +kernel
theorem d_Lw_law_150 : decode code 150 = .ok (.iaload, 1) := by decide +kernel
theorem d_Lw_law_151 : decode code 151 = .ok (.i2l, 1) := by decide +kernel
theorem d_Lw_law_152 : decode code 152 = .ok (.ldc2_w 19, 3) := by decide +kernel
theorem d_Lw_law_155 : decode code 155 = .ok (.land, 1) := by decide +kernel
theorem d_Lw_law_156 : decode code 156 = .ok (.lor, 1) := by decide +kernel
theorem d_Lw_law_157 : decode code 157 = .ok (.invokevirtual 21, 3) := by decide +kernel
theorem d_Lw_law_160 : decode code 160 = .ok (.aload_n 2, 1) := by decide +kernel
theorem d_Lw_law_161 : decode code 161 = .ok (.aload_n 0, 1) := by decide +kernel
theorem d_Lw_law_162 : decode code 162 = .ok (.iload 4, 2) := by decide +kernel
theorem d_Lw_law_164 : decode code 164 = .ok (.iconst 1, 1) := by decide +kernel
theorem d_Lw_law_165 : decode code 165 = .ok (.iadd, 1) := by decide +kernel
theorem d_Lw_law_166 : decode code 166 = .ok (.iaload, 1) := by decide +kernel
theorem d_Lw_law_167 : decode code 167 = .ok (.i2l, 1) := by decide +kernel
theorem d_Lw_law_168 : decode code 168 = .ok (.bipush 32, 2) := by decide +kernel
theorem d_Lw_law_170 : decode code 170 = .ok (.lshl, 1) := by decide +kernel
theorem d_Lw_law_171 : decode code 171 = .ok (.aload_n 0, 1) := by decide +kernel
theorem d_Lw_law_172 : decode code 172 = .ok (.iload 4, 2) := by decide +kernel
theorem d_Lw_law_174 : decode code 174 = .ok (.iconst 2, 1) := by decide +kernel
theorem d_Lw_law_175 : decode code 175 = .ok (.iadd, 1) := by decide +kernel
theorem d_Lw_law_176 : decode code 176 = .ok (.iaload, 1) := by decide +kernel
theorem d_Lw_law_177 : decode code 177 = .ok (.i2l, 1) := by decide +kernel
theorem d_Lw_law_178 : decode code 178 = .ok (.ldc2_w 19, 3) := by decide +kernel
theorem d_Lw_law_181 : decode code 181 = .ok (.land, 1) := by decide +kernel
theorem d_Lw_law_182 : decode code 182 = .ok (.lor, 1) := by decide +kernel
theorem d_Lw_law_183 : decode code 183 = .ok (.aload_n 0, 1) := by decide +kernel
theorem d_Lw_law_184 : decode code 184 = .ok (.iload 4, 2) := by decide +kernel
theorem d_Lw_law_186 : decode code 186 = .ok (.iconst 3, 1) := by decide +kernel
theorem d_Lw_law_187 : decode code 187 = .ok (.iadd, 1) := by decide +kernel
theorem d_Lw_law_188 : decode code 188 = .ok (.iaload, 1) := by decide +kernel
theorem d_Lw_law_189 : decode code 189 = .ok (.i2l, 1) := by decide +kernel
theorem d_Lw_law_190 : decode code 190 = .ok (.bipush 32, 2) := by decide +kernel
theorem d_Lw_law_192 : decode code 192 = .ok (.lshl, 1) := by decide +kernel
theorem d_Lw_law_193 : decode code 193 = .ok (.aload_n 0, 1) := by decide +kernel
theorem d_Lw_law_194 : decode code 194 = .ok (.iload 4, 2) := by decide +kernel
theorem d_Lw_law_196 : decode code 196 = .ok (.iconst 4, 1) := by decide +kernel
theorem d_Lw_law_197 : decode code 197 = .ok (.iadd, 1) := by decide +kernel
theorem d_Lw_law_198 : decode code 198 = .ok (.iaload, 1) := by decide +kernel
theorem d_Lw_law_199 : decode code 199 = .ok (.i2l, 1) := by decide +kernel
theorem d_Lw_law_200 : decode code 200 = .ok (.ldc2_w 19, 3) := by decide +kernel
theorem d_Lw_law_203 : decode code 203 = .ok (.land, 1) := by decide +kernel
theorem d_Lw_law_204 : decode code 204 = .ok (.lor, 1) := by decide +kernel
theorem d_Lw_law_205 : decode code 205 = .ok (.invokevirtual 25, 3) := by decide +kernel
theorem d_Lw_law_208 : decode code 208 = .ok (.if_icmp .eq 603, 3) := by decide +kernel
theorem d_Lw_law_211 : decode code 211 = .ok (.iconst 0, 1) := by decide +kernel
theorem d_Lw_law_212 : decode code 212 = .ok (.ireturn, 1) := by decide +kernel
theorem d_Lw_law_213 : decode code 213 = .ok (.aload_n 1, 1) := by decide +kernel
theorem d_Lw_law_214 : decode code 214 = .ok (.aload_n 0, 1) := by decide +kernel
theorem d_Lw_law_215 : decode code 215 = .ok (.iload 4, 2) := by decide +kernel
theorem d_Lw_law_217 : decode code 217 = .ok (.iconst 1, 1) := by decide +kernel
theorem d_Lw_law_218 : decode code 218 = .ok (.iadd, 1) := by decide +kernel
theorem d_Lw_law_219 : decode code 219 = .ok (.iaload, 1) := by decide +kernel
theorem d_Lw_law_220 : decode code 220 = .ok (.aload_n 0, 1) := by decide +kernel
theorem d_Lw_law_221 : decode code 221 = .ok (.iload 4, 2) := by decide +kernel
theorem d_Lw_law_223 : decode code 223 = .ok (.iconst 2, 1) := by decide +kernel
theorem d_Lw_law_224 : decode code 224 = .ok (.iadd, 1) := by decide +kernel
theorem d_Lw_law_225 : decode code 225 = .ok (.iaload, 1) := by decide +kernel
theorem d_Lw_law_226 : decode code 226 = .ok (.invokevirtual 26, 3) := by decide +kernel
theorem d_Lw_law_229 : decode code 229 = .ok (.aload_n 2, 1) := by decide +kernel
theorem d_Lw_law_230 : decode code 230 = .ok (.aload_n 0, 1) := by decide +kernel
theorem d_Lw_law_231 : decode code 231 = .ok (.iload 4, 2) := by decide +kernel
theorem d_Lw_law_233 : decode code 233 = .ok (.iconst 1, 1) := by decide +kernel
theorem d_Lw_law_234 : decode code 234 = .ok (.iadd, 1) := by decide +kernel
theorem d_Lw_law_235 : decode code 235 = .ok (.iaload, 1) := by decide +kernel
theorem d_Lw_law_236 : decode code 236 = .ok (.aload_n 0, 1) := by decide +kernel
theorem d_Lw_law_237 : decode code 237 = .ok (.iload 4, 2) := by decide +kernel
theorem d_Lw_law_239 : decode code 239 = .ok (.iconst 2, 1) := by decide +kernel
theorem d_Lw_law_240 : decode code 240 = .ok (.iadd, 1) := by decide +kernel
theorem d_Lw_law_241 : decode code 241 = .ok (.iaload, 1) := by decide +kernel
theorem d_Lw_law_242 : decode code 242 = .ok (.invokevirtual 30, 3) := by decide +kernel
theorem d_Lw_law_245 : decode code 245 = .ok (.if_icmp .eq 566, 3) := by decide +kernel
theorem d_Lw_law_248 : decode code 248 = .ok (.iconst 0, 1) := by decide +kernel
theorem d_Lw_law_249 : decode code 249 = .ok (.ireturn, 1) := by decide +kernel
theorem d_Lw_law_250 : decode code 250 = .ok (.aload_n 1, 1) := by decide +kernel
theorem d_Lw_law_251 : decode code 251 = .ok (.aload_n 0, 1) := by decide +kernel
theorem d_Lw_law_252 : decode code 252 = .ok (.iload 4, 2) := by decide +kernel
theorem d_Lw_law_254 : decode code 254 = .ok (.iconst 1, 1) := by decide +kernel
theorem d_Lw_law_255 : decode code 255 = .ok (.iadd, 1) := by decide +kernel
theorem d_Lw_law_256 : decode code 256 = .ok (.iaload, 1) := by decide +kernel
theorem d_Lw_law_257 : decode code 257 = .ok (.aload_n 0, 1) := by decide +kernel
theorem d_Lw_law_258 : decode code 258 = .ok (.iload 4, 2) := by decide +kernel
theorem d_Lw_law_260 : decode code 260 = .ok (.iconst 2, 1) := by decide +kernel
theorem d_Lw_law_261 : decode code 261 = .ok (.iadd, 1) := by decide +kernel
theorem d_Lw_law_262 : decode code 262 = .ok (.iaload, 1) := by decide +kernel
theorem d_Lw_law_263 : decode code 263 = .ok (.invokevirtual 31, 3) := by decide +kernel
theorem d_Lw_law_266 : decode code 266 = .ok (.aload_n 2, 1) := by decide +kernel
theorem d_Lw_law_267 : decode code 267 = .ok (.aload_n 0, 1) := by decide +kernel
theorem d_Lw_law_268 : decode code 268 = .ok (.iload 4, 2) := by decide +kernel
theorem d_Lw_law_270 : decode code 270 = .ok (.iconst 1, 1) := by decide +kernel
theorem d_Lw_law_271 : decode code 271 = .ok (.iadd, 1) := by decide +kernel
theorem d_Lw_law_272 : decode code 272 = .ok (.iaload, 1) := by decide +kernel
theorem d_Lw_law_273 : decode code 273 = .ok (.aload_n 0, 1) := by decide +kernel
theorem d_Lw_law_274 : decode code 274 = .ok (.iload 4, 2) := by decide +kernel
theorem d_Lw_law_276 : decode code 276 = .ok (.iconst 2, 1) := by decide +kernel
theorem d_Lw_law_277 : decode code 277 = .ok (.iadd, 1) := by decide +kernel
theorem d_Lw_law_278 : decode code 278 = .ok (.iaload, 1) := by decide +kernel
theorem d_Lw_law_279 : decode code 279 = .ok (.invokevirtual 34, 3) := by decide +kernel
theorem d_Lw_law_282 : decode code 282 = .ok (.if_icmp .eq 529, 3) := by decide +kernel
theorem d_Lw_law_285 : decode code 285 = .ok (.iconst 0, 1) := by decide +kernel
theorem d_Lw_law_286 : decode code 286 = .ok (.ireturn, 1) := by decide +kernel
theorem d_Lw_law_287 : decode code 287 = .ok (.aload_n 1, 1) := by decide +kernel
theorem d_Lw_law_288 : decode code 288 = .ok (.aload_n 0, 1) := by decide +kernel
theorem d_Lw_law_289 : decode code 289 = .ok (.iload 4, 2) := by decide +kernel
theorem d_Lw_law_291 : decode code 291 = .ok (.iconst 1, 1) := by decide +kernel
theorem d_Lw_law_292 : decode code 292 = .ok (.iadd, 1) := by decide +kernel
theorem d_Lw_law_293 : decode code 293 = .ok (.iaload, 1) := by decide +kernel
theorem d_Lw_law_294 : decode code 294 = .ok (.aload_n 0, 1) := by decide +kernel
theorem d_Lw_law_295 : decode code 295 = .ok (.iload 4, 2) := by decide +kernel
theorem d_Lw_law_297 : decode code 297 = .ok (.iconst 2, 1) := by decide +kernel
theorem d_Lw_law_298 : decode code 298 = .ok (.iadd, 1) := by decide +kernel
theorem d_Lw_law_299 : decode code 299 = .ok (.iaload, 1) := by decide +kernel
theorem d_Lw_law_300 : decode code 300 = .ok (.i2l, 1) := by decide +kernel
theorem d_Lw_law_301 : decode code 301 = .ok (.bipush 32, 2) := by decide +kernel
theorem d_Lw_law_303 : decode code 303 = .ok (.lshl, 1) := by decide +kernel
theorem d_Lw_law_304 : decode code 304 = .ok (.aload_n 0, 1) := by decide +kernel
theorem d_Lw_law_305 : decode code 305 = .ok (.iload 4, 2) := by decide +kernel
theorem d_Lw_law_307 : decode code 307 = .ok (.iconst 3, 1) := by decide +kernel
theorem d_Lw_law_308 : decode code 308 = .ok (.iadd, 1) := by decide +kernel
theorem d_Lw_law_309 : decode code 309 = .ok (.iaload, 1) := by decide +kernel
theorem d_Lw_law_310 : decode code 310 = .ok (.i2l, 1) := by decide +kernel
theorem d_Lw_law_311 : decode code 311 = .ok (.ldc2_w 19, 3) := by decide +kernel
theorem d_Lw_law_314 : decode code 314 = .ok (.land, 1) := by decide +kernel
theorem d_Lw_law_315 : decode code 315 = .ok (.lor, 1) := by decide +kernel
theorem d_Lw_law_316 : decode code 316 = .ok (.invokevirtual 35, 3) := by decide +kernel
theorem d_Lw_law_319 : decode code 319 = .ok (.aload_n 2, 1) := by decide +kernel
theorem d_Lw_law_320 : decode code 320 = .ok (.aload_n 0, 1) := by decide +kernel
theorem d_Lw_law_321 : decode code 321 = .ok (.iload 4, 2) := by decide +kernel
theorem d_Lw_law_323 : decode code 323 = .ok (.iconst 1, 1) := by decide +kernel
theorem d_Lw_law_324 : decode code 324 = .ok (.iadd, 1) := by decide +kernel
theorem d_Lw_law_325 : decode code 325 = .ok (.iaload, 1) := by decide +kernel
theorem d_Lw_law_326 : decode code 326 = .ok (.aload_n 0, 1) := by decide +kernel
theorem d_Lw_law_327 : decode code 327 = .ok (.iload 4, 2) := by decide +kernel
theorem d_Lw_law_329 : decode code 329 = .ok (.iconst 2, 1) := by decide +kernel
theorem d_Lw_law_330 : decode code 330 = .ok (.iadd, 1) := by decide +kernel
theorem d_Lw_law_331 : decode code 331 = .ok (.iaload, 1) := by decide +kernel
theorem d_Lw_law_332 : decode code 332 = .ok (.i2l, 1) := by decide +kernel
theorem d_Lw_law_333 : decode code 333 = .ok (.bipush 32, 2) := by decide +kernel
theorem d_Lw_law_335 : decode code 335 = .ok (.lshl, 1) := by decide +kernel
theorem d_Lw_law_336 : decode code 336 = .ok (.aload_n 0, 1) := by decide +kernel
theorem d_Lw_law_337 : decode code 337 = .ok (.iload 4, 2) := by decide +kernel
theorem d_Lw_law_339 : decode code 339 = .ok (.iconst 3, 1) := by decide +kernel
theorem d_Lw_law_340 : decode code 340 = .ok (.iadd, 1) := by decide +kernel
theorem d_Lw_law_341 : decode code 341 = .ok (.iaload, 1) := by decide +kernel
theorem d_Lw_law_342 : decode code 342 = .ok (.i2l, 1) := by decide +kernel
theorem d_Lw_law_343 : decode code 343 = .ok (.ldc2_w 19, 3) := by decide +kernel
theorem d_Lw_law_346 : decode code 346 = .ok (.land, 1) := by decide +kernel
theorem d_Lw_law_347 : decode code 347 = .ok (.lor, 1) := by decide +kernel
theorem d_Lw_law_348 : decode code 348 = .ok (.invokevirtual 39, 3) := by decide +kernel
theorem d_Lw_law_351 : decode code 351 = .ok (.if_icmp .eq 460, 3) := by decide +kernel
theorem d_Lw_law_354 : decode code 354 = .ok (.iconst 0, 1) := by decide +kernel
theorem d_Lw_law_355 : decode code 355 = .ok (.ireturn, 1) := by decide +kernel
theorem d_Lw_law_356 : decode code 356 = .ok (.aload_n 1, 1) := by decide +kernel
theorem d_Lw_law_357 : decode code 357 = .ok (.aload_n 0, 1) := by decide +kernel
theorem d_Lw_law_358 : decode code 358 = .ok (.iload 4, 2) := by decide +kernel
theorem d_Lw_law_360 : decode code 360 = .ok (.iconst 1, 1) := by decide +kernel
theorem d_Lw_law_361 : decode code 361 = .ok (.iadd, 1) := by decide +kernel
theorem d_Lw_law_362 : decode code 362 = .ok (.iaload, 1) := by decide +kernel
theorem d_Lw_law_363 : decode code 363 = .ok (.aload_n 0, 1) := by decide +kernel
theorem d_Lw_law_364 : decode code 364 = .ok (.iload 4, 2) := by decide +kernel
theorem d_Lw_law_366 : decode code 366 = .ok (.iconst 2, 1) := by decide +kernel
theorem d_Lw_law_367 : decode code 367 = .ok (.iadd, 1) := by decide +kernel
theorem d_Lw_law_368 : decode code 368 = .ok (.iaload, 1) := by decide +kernel
theorem d_Lw_law_369 : decode code 369 = .ok (.invokevirtual 40, 3) := by decide +kernel
theorem d_Lw_law_372 : decode code 372 = .ok (.aload_n 2, 1) := by decide +kernel
theorem d_Lw_law_373 : decode code 373 = .ok (.aload_n 0, 1) := by decide +kernel
theorem d_Lw_law_374 : decode code 374 = .ok (.iload 4, 2) := by decide +kernel
theorem d_Lw_law_376 : decode code 376 = .ok (.iconst 1, 1) := by decide +kernel
theorem d_Lw_law_377 : decode code 377 = .ok (.iadd, 1) := by decide +kernel
theorem d_Lw_law_378 : decode code 378 = .ok (.iaload, 1) := by decide +kernel
theorem d_Lw_law_379 : decode code 379 = .ok (.aload_n 0, 1) := by decide +kernel
theorem d_Lw_law_380 : decode code 380 = .ok (.iload 4, 2) := by decide +kernel
theorem d_Lw_law_382 : decode code 382 = .ok (.iconst 2, 1) := by decide +kernel
theorem d_Lw_law_383 : decode code 383 = .ok (.iadd, 1) := by decide +kernel
theorem d_Lw_law_384 : decode code 384 = .ok (.iaload, 1) := by decide +kernel
theorem d_Lw_law_385 : decode code 385 = .ok (.invokevirtual 43, 3) := by decide +kernel
theorem d_Lw_law_388 : decode code 388 = .ok (.if_icmp .eq 423, 3) := by decide +kernel
theorem d_Lw_law_391 : decode code 391 = .ok (.iconst 0, 1) := by decide +kernel
theorem d_Lw_law_392 : decode code 392 = .ok (.ireturn, 1) := by decide +kernel
theorem d_Lw_law_393 : decode code 393 = .ok (.aload_n 1, 1) := by decide +kernel
theorem d_Lw_law_394 : decode code 394 = .ok (.aload_n 0, 1) := by decide +kernel
theorem d_Lw_law_395 : decode code 395 = .ok (.iload 4, 2) := by decide +kernel
theorem d_Lw_law_397 : decode code 397 = .ok (.iconst 1, 1) := by decide +kernel
theorem d_Lw_law_398 : decode code 398 = .ok (.iadd, 1) := by decide +kernel
theorem d_Lw_law_399 : decode code 399 = .ok (.iaload, 1) := by decide +kernel
theorem d_Lw_law_400 : decode code 400 = .ok (.aload_n 0, 1) := by decide +kernel
theorem d_Lw_law_401 : decode code 401 = .ok (.iload 4, 2) := by decide +kernel
theorem d_Lw_law_403 : decode code 403 = .ok (.iconst 2, 1) := by decide +kernel
theorem d_Lw_law_404 : decode code 404 = .ok (.iadd, 1) := by decide +kernel
theorem d_Lw_law_405 : decode code 405 = .ok (.iaload, 1) := by decide +kernel
theorem d_Lw_law_406 : decode code 406 = .ok (.invokevirtual 44, 3) := by decide +kernel
theorem d_Lw_law_409 : decode code 409 = .ok (.aload_n 2, 1) := by decide +kernel
theorem d_Lw_law_410 : decode code 410 = .ok (.aload_n 0, 1) := by decide +kernel
theorem d_Lw_law_411 : decode code 411 = .ok (.iload 4, 2) := by decide +kernel
theorem d_Lw_law_413 : decode code 413 = .ok (.iconst 1, 1) := by decide +kernel
theorem d_Lw_law_414 : decode code 414 = .ok (.iadd, 1) := by decide +kernel
theorem d_Lw_law_415 : decode code 415 = .ok (.iaload, 1) := by decide +kernel
theorem d_Lw_law_416 : decode code 416 = .ok (.aload_n 0, 1) := by decide +kernel
theorem d_Lw_law_417 : decode code 417 = .ok (.iload 4, 2) := by decide +kernel
theorem d_Lw_law_419 : decode code 419 = .ok (.iconst 2, 1) := by decide +kernel
theorem d_Lw_law_420 : decode code 420 = .ok (.iadd, 1) := by decide +kernel
theorem d_Lw_law_421 : decode code 421 = .ok (.iaload, 1) := by decide +kernel
theorem d_Lw_law_422 : decode code 422 = .ok (.invokevirtual 47, 3) := by decide +kernel
theorem d_Lw_law_425 : decode code 425 = .ok (.lcmp, 1) := by decide +kernel
theorem d_Lw_law_426 : decode code 426 = .ok (.ifCond .eq 385, 3) := by decide +kernel
theorem d_Lw_law_429 : decode code 429 = .ok (.iconst 0, 1) := by decide +kernel
theorem d_Lw_law_430 : decode code 430 = .ok (.ireturn, 1) := by decide +kernel
theorem d_Lw_law_431 : decode code 431 = .ok (.aload_n 1, 1) := by decide +kernel
theorem d_Lw_law_432 : decode code 432 = .ok (.invokevirtual 48, 3) := by decide +kernel
theorem d_Lw_law_435 : decode code 435 = .ok (.aload_n 2, 1) := by decide +kernel
theorem d_Lw_law_436 : decode code 436 = .ok (.invokevirtual 52, 3) := by decide +kernel
theorem d_Lw_law_439 : decode code 439 = .ok (.if_icmp .eq 372, 3) := by decide +kernel
theorem d_Lw_law_442 : decode code 442 = .ok (.iconst 0, 1) := by decide +kernel
theorem d_Lw_law_443 : decode code 443 = .ok (.ireturn, 1) := by decide +kernel
theorem d_Lw_law_444 : decode code 444 = .ok (.aload_n 1, 1) := by decide +kernel
theorem d_Lw_law_445 : decode code 445 = .ok (.aload_n 0, 1) := by decide +kernel
theorem d_Lw_law_446 : decode code 446 = .ok (.iload 4, 2) := by decide +kernel
theorem d_Lw_law_448 : decode code 448 = .ok (.iconst 1, 1) := by decide +kernel
theorem d_Lw_law_449 : decode code 449 = .ok (.iadd, 1) := by decide +kernel
theorem d_Lw_law_450 : decode code 450 = .ok (.iaload, 1) := by decide +kernel
theorem d_Lw_law_451 : decode code 451 = .ok (.aload_n 0, 1) := by decide +kernel
theorem d_Lw_law_452 : decode code 452 = .ok (.iload 4, 2) := by decide +kernel
theorem d_Lw_law_454 : decode code 454 = .ok (.iconst 2, 1) := by decide +kernel
theorem d_Lw_law_455 : decode code 455 = .ok (.iadd, 1) := by decide +kernel
theorem d_Lw_law_456 : decode code 456 = .ok (.iaload, 1) := by decide +kernel
theorem d_Lw_law_457 : decode code 457 = .ok (.aload_n 0, 1) := by decide +kernel
theorem d_Lw_law_458 : decode code 458 = .ok (.iload 4, 2) := by decide +kernel
theorem d_Lw_law_460 : decode code 460 = .ok (.iconst 3, 1) := by decide +kernel
theorem d_Lw_law_461 : decode code 461 = .ok (.iadd, 1) := by decide +kernel
theorem d_Lw_law_462 : decode code 462 = .ok (.iaload, 1) := by decide +kernel
theorem d_Lw_law_463 : decode code 463 = .ok (.i2l, 1) := by decide +kernel
theorem d_Lw_law_464 : decode code 464 = .ok (.bipush 32, 2) := by decide +kernel
theorem d_Lw_law_466 : decode code 466 = .ok (.lshl, 1) := by decide +kernel
theorem d_Lw_law_467 : decode code 467 = .ok (.aload_n 0, 1) := by decide +kernel
theorem d_Lw_law_468 : decode code 468 = .ok (.iload 4, 2) := by decide +kernel
theorem d_Lw_law_470 : decode code 470 = .ok (.iconst 4, 1) := by decide +kernel
theorem d_Lw_law_471 : decode code 471 = .ok (.iadd, 1) := by decide +kernel
theorem d_Lw_law_472 : decode code 472 = .ok (.iaload, 1) := by decide +kernel
theorem d_Lw_law_473 : decode code 473 = .ok (.i2l, 1) := by decide +kernel
theorem d_Lw_law_474 : decode code 474 = .ok (.ldc2_w 19, 3) := by decide +kernel
theorem d_Lw_law_477 : decode code 477 = .ok (.land, 1) := by decide +kernel
theorem d_Lw_law_478 : decode code 478 = .ok (.lor, 1) := by decide +kernel
theorem d_Lw_law_479 : decode code 479 = .ok (.aload_n 0, 1) := by decide +kernel
theorem d_Lw_law_480 : decode code 480 = .ok (.iload 4, 2) := by decide +kernel
theorem d_Lw_law_482 : decode code 482 = .ok (.iconst 5, 1) := by decide +kernel
theorem d_Lw_law_483 : decode code 483 = .ok (.iadd, 1) := by decide +kernel
theorem d_Lw_law_484 : decode code 484 = .ok (.iaload, 1) := by decide +kernel
theorem d_Lw_law_485 : decode code 485 = .ok (.i2l, 1) := by decide +kernel
theorem d_Lw_law_486 : decode code 486 = .ok (.bipush 32, 2) := by decide +kernel
theorem d_Lw_law_488 : decode code 488 = .ok (.lshl, 1) := by decide +kernel
theorem d_Lw_law_489 : decode code 489 = .ok (.aload_n 0, 1) := by decide +kernel
theorem d_Lw_law_490 : decode code 490 = .ok (.iload 4, 2) := by decide +kernel
theorem d_Lw_law_492 : decode code 492 = .ok (.bipush 6, 2) := by decide +kernel
theorem d_Lw_law_494 : decode code 494 = .ok (.iadd, 1) := by decide +kernel
theorem d_Lw_law_495 : decode code 495 = .ok (.iaload, 1) := by decide +kernel
theorem d_Lw_law_496 : decode code 496 = .ok (.i2l, 1) := by decide +kernel
theorem d_Lw_law_497 : decode code 497 = .ok (.ldc2_w 19, 3) := by decide +kernel
theorem d_Lw_law_500 : decode code 500 = .ok (.land, 1) := by decide +kernel
theorem d_Lw_law_501 : decode code 501 = .ok (.lor, 1) := by decide +kernel
theorem d_Lw_law_502 : decode code 502 = .ok (.invokevirtual 53, 3) := by decide +kernel
theorem d_Lw_law_505 : decode code 505 = .ok (.aload_n 2, 1) := by decide +kernel
theorem d_Lw_law_506 : decode code 506 = .ok (.aload_n 0, 1) := by decide +kernel
theorem d_Lw_law_507 : decode code 507 = .ok (.iload 4, 2) := by decide +kernel
theorem d_Lw_law_509 : decode code 509 = .ok (.iconst 1, 1) := by decide +kernel
theorem d_Lw_law_510 : decode code 510 = .ok (.iadd, 1) := by decide +kernel
theorem d_Lw_law_511 : decode code 511 = .ok (.iaload, 1) := by decide +kernel
theorem d_Lw_law_512 : decode code 512 = .ok (.aload_n 0, 1) := by decide +kernel
theorem d_Lw_law_513 : decode code 513 = .ok (.iload 4, 2) := by decide +kernel
theorem d_Lw_law_515 : decode code 515 = .ok (.iconst 2, 1) := by decide +kernel
theorem d_Lw_law_516 : decode code 516 = .ok (.iadd, 1) := by decide +kernel
theorem d_Lw_law_517 : decode code 517 = .ok (.iaload, 1) := by decide +kernel
theorem d_Lw_law_518 : decode code 518 = .ok (.aload_n 0, 1) := by decide +kernel
theorem d_Lw_law_519 : decode code 519 = .ok (.iload 4, 2) := by decide +kernel
theorem d_Lw_law_521 : decode code 521 = .ok (.iconst 3, 1) := by decide +kernel
theorem d_Lw_law_522 : decode code 522 = .ok (.iadd, 1) := by decide +kernel
theorem d_Lw_law_523 : decode code 523 = .ok (.iaload, 1) := by decide +kernel
theorem d_Lw_law_524 : decode code 524 = .ok (.i2l, 1) := by decide +kernel
theorem d_Lw_law_525 : decode code 525 = .ok (.bipush 32, 2) := by decide +kernel
theorem d_Lw_law_527 : decode code 527 = .ok (.lshl, 1) := by decide +kernel
theorem d_Lw_law_528 : decode code 528 = .ok (.aload_n 0, 1) := by decide +kernel
theorem d_Lw_law_529 : decode code 529 = .ok (.iload 4, 2) := by decide +kernel
theorem d_Lw_law_531 : decode code 531 = .ok (.iconst 4, 1) := by decide +kernel
theorem d_Lw_law_532 : decode code 532 = .ok (.iadd, 1) := by decide +kernel
theorem d_Lw_law_533 : decode code 533 = .ok (.iaload, 1) := by decide +kernel
theorem d_Lw_law_534 : decode code 534 = .ok (.i2l, 1) := by decide +kernel
theorem d_Lw_law_535 : decode code 535 = .ok (.ldc2_w 19, 3) := by decide +kernel
theorem d_Lw_law_538 : decode code 538 = .ok (.land, 1) := by decide +kernel
theorem d_Lw_law_539 : decode code 539 = .ok (.lor, 1) := by decide +kernel
theorem d_Lw_law_540 : decode code 540 = .ok (.aload_n 0, 1) := by decide +kernel
theorem d_Lw_law_541 : decode code 541 = .ok (.iload 4, 2) := by decide +kernel
theorem d_Lw_law_543 : decode code 543 = .ok (.iconst 5, 1) := by decide +kernel
theorem d_Lw_law_544 : decode code 544 = .ok (.iadd, 1) := by decide +kernel
theorem d_Lw_law_545 : decode code 545 = .ok (.iaload, 1) := by decide +kernel
theorem d_Lw_law_546 : decode code 546 = .ok (.i2l, 1) := by decide +kernel
theorem d_Lw_law_547 : decode code 547 = .ok (.bipush 32, 2) := by decide +kernel
theorem d_Lw_law_549 : decode code 549 = .ok (.lshl, 1) := by decide +kernel
theorem d_Lw_law_550 : decode code 550 = .ok (.aload_n 0, 1) := by decide +kernel
theorem d_Lw_law_551 : decode code 551 = .ok (.iload 4, 2) := by decide +kernel
theorem d_Lw_law_553 : decode code 553 = .ok (.bipush 6, 2) := by decide +kernel
theorem d_Lw_law_555 : decode code 555 = .ok (.iadd, 1) := by decide +kernel
theorem d_Lw_law_556 : decode code 556 = .ok (.iaload, 1) := by decide +kernel
theorem d_Lw_law_557 : decode code 557 = .ok (.i2l, 1) := by decide +kernel
theorem d_Lw_law_558 : decode code 558 = .ok (.ldc2_w 19, 3) := by decide +kernel
theorem d_Lw_law_561 : decode code 561 = .ok (.land, 1) := by decide +kernel
theorem d_Lw_law_562 : decode code 562 = .ok (.lor, 1) := by decide +kernel
theorem d_Lw_law_563 : decode code 563 = .ok (.invokevirtual 57, 3) := by decide +kernel
theorem d_Lw_law_566 : decode code 566 = .ok (.if_icmp .eq 245, 3) := by decide +kernel
theorem d_Lw_law_569 : decode code 569 = .ok (.iconst 0, 1) := by decide +kernel
theorem d_Lw_law_570 : decode code 570 = .ok (.ireturn, 1) := by decide +kernel
theorem d_Lw_law_571 : decode code 571 = .ok (.aload_n 1, 1) := by decide +kernel
theorem d_Lw_law_572 : decode code 572 = .ok (.aload_n 0, 1) := by decide +kernel
theorem d_Lw_law_573 : decode code 573 = .ok (.iload 4, 2) := by decide +kernel
theorem d_Lw_law_575 : decode code 575 = .ok (.iconst 1, 1) := by decide +kernel
theorem d_Lw_law_576 : decode code 576 = .ok (.iadd, 1) := by decide +kernel
theorem d_Lw_law_577 : decode code 577 = .ok (.iaload, 1) := by decide +kernel
theorem d_Lw_law_578 : decode code 578 = .ok (.aload_n 0, 1) := by decide +kernel
theorem d_Lw_law_579 : decode code 579 = .ok (.iload 4, 2) := by decide +kernel
theorem d_Lw_law_581 : decode code 581 = .ok (.iconst 2, 1) := by decide +kernel
theorem d_Lw_law_582 : decode code 582 = .ok (.iadd, 1) := by decide +kernel
theorem d_Lw_law_583 : decode code 583 = .ok (.iaload, 1) := by decide +kernel
theorem d_Lw_law_584 : decode code 584 = .ok (.aload_n 0, 1) := by decide +kernel
theorem d_Lw_law_585 : decode code 585 = .ok (.iload 4, 2) := by decide +kernel
theorem d_Lw_law_587 : decode code 587 = .ok (.iconst 3, 1) := by decide +kernel
theorem d_Lw_law_588 : decode code 588 = .ok (.iadd, 1) := by decide +kernel
theorem d_Lw_law_589 : decode code 589 = .ok (.iaload, 1) := by decide +kernel
theorem d_Lw_law_590 : decode code 590 = .ok (.invokevirtual 58, 3) := by decide +kernel
theorem d_Lw_law_593 : decode code 593 = .ok (.aload_n 2, 1) := by decide +kernel
theorem d_Lw_law_594 : decode code 594 = .ok (.aload_n 0, 1) := by decide +kernel
theorem d_Lw_law_595 : decode code 595 = .ok (.iload 4, 2) := by decide +kernel
theorem d_Lw_law_597 : decode code 597 = .ok (.iconst 1, 1) := by decide +kernel
theorem d_Lw_law_598 : decode code 598 = .ok (.iadd, 1) := by decide +kernel
theorem d_Lw_law_599 : decode code 599 = .ok (.iaload, 1) := by decide +kernel
theorem d_Lw_law_600 : decode code 600 = .ok (.aload_n 0, 1) := by decide +kernel
theorem d_Lw_law_601 : decode code 601 = .ok (.iload 4, 2) := by decide +kernel
theorem d_Lw_law_603 : decode code 603 = .ok (.iconst 2, 1) := by decide +kernel
theorem d_Lw_law_604 : decode code 604 = .ok (.iadd, 1) := by decide +kernel
theorem d_Lw_law_605 : decode code 605 = .ok (.iaload, 1) := by decide +kernel
theorem d_Lw_law_606 : decode code 606 = .ok (.aload_n 0, 1) := by decide +kernel
theorem d_Lw_law_607 : decode code 607 = .ok (.iload 4, 2) := by decide +kernel
theorem d_Lw_law_609 : decode code 609 = .ok (.iconst 3, 1) := by decide +kernel
theorem d_Lw_law_610 : decode code 610 = .ok (.iadd, 1) := by decide +kernel
theorem d_Lw_law_611 : decode code 611 = .ok (.iaload, 1) := by decide +kernel
theorem d_Lw_law_612 : decode code 612 = .ok (.invokevirtual 62, 3) := by decide +kernel
theorem d_Lw_law_615 : decode code 615 = .ok (.if_icmp .eq 196, 3) := by decide +kernel
theorem d_Lw_law_618 : decode code 618 = .ok (.iconst 0, 1) := by decide +kernel
theorem d_Lw_law_619 : decode code 619 = .ok (.ireturn, 1) := by decide +kernel
theorem d_Lw_law_620 : decode code 620 = .ok (.aload_n 1, 1) := by decide +kernel
theorem d_Lw_law_621 : decode code 621 = .ok (.aload_n 0, 1) := by decide +kernel
theorem d_Lw_law_622 : decode code 622 = .ok (.iload 4, 2) := by decide +kernel
theorem d_Lw_law_624 : decode code 624 = .ok (.iconst 1, 1) := by decide +kernel
theorem d_Lw_law_625 : decode code 625 = .ok (.iadd, 1) := by decide +kernel
theorem d_Lw_law_626 : decode code 626 = .ok (.iaload, 1) := by decide +kernel
theorem d_Lw_law_627 : decode code 627 = .ok (.invokevirtual 63, 3) := by decide +kernel
theorem d_Lw_law_630 : decode code 630 = .ok (.aload_n 2, 1) := by decide +kernel
theorem d_Lw_law_631 : decode code 631 = .ok (.aload_n 0, 1) := by decide +kernel
theorem d_Lw_law_632 : decode code 632 = .ok (.iload 4, 2) := by decide +kernel
theorem d_Lw_law_634 : decode code 634 = .ok (.iconst 1, 1) := by decide +kernel
theorem d_Lw_law_635 : decode code 635 = .ok (.iadd, 1) := by decide +kernel
theorem d_Lw_law_636 : decode code 636 = .ok (.iaload, 1) := by decide +kernel
theorem d_Lw_law_637 : decode code 637 = .ok (.invokevirtual 67, 3) := by decide +kernel
theorem d_Lw_law_640 : decode code 640 = .ok (.if_icmp .eq 171, 3) := by decide +kernel
theorem d_Lw_law_643 : decode code 643 = .ok (.iconst 0, 1) := by decide +kernel
theorem d_Lw_law_644 : decode code 644 = .ok (.ireturn, 1) := by decide +kernel
theorem d_Lw_law_645 : decode code 645 = .ok (.aload_n 1, 1) := by decide +kernel
theorem d_Lw_law_646 : decode code 646 = .ok (.aload_n 0, 1) := by decide +kernel
theorem d_Lw_law_647 : decode code 647 = .ok (.iload 4, 2) := by decide +kernel
theorem d_Lw_law_649 : decode code 649 = .ok (.iconst 1, 1) := by decide +kernel
theorem d_Lw_law_650 : decode code 650 = .ok (.iadd, 1) := by decide +kernel
theorem d_Lw_law_651 : decode code 651 = .ok (.iaload, 1) := by decide +kernel
theorem d_Lw_law_652 : decode code 652 = .ok (.aload_n 0, 1) := by decide +kernel
theorem d_Lw_law_653 : decode code 653 = .ok (.iload 4, 2) := by decide +kernel
theorem d_Lw_law_655 : decode code 655 = .ok (.iconst 2, 1) := by decide +kernel
theorem d_Lw_law_656 : decode code 656 = .ok (.iadd, 1) := by decide +kernel
theorem d_Lw_law_657 : decode code 657 = .ok (.iaload, 1) := by decide +kernel
theorem d_Lw_law_658 : decode code 658 = .ok (.aload_n 0, 1) := by decide +kernel
theorem d_Lw_law_659 : decode code 659 = .ok (.iload 4, 2) := by decide +kernel
theorem d_Lw_law_661 : decode code 661 = .ok (.iconst 3, 1) := by decide +kernel
theorem d_Lw_law_662 : decode code 662 = .ok (.iadd, 1) := by decide +kernel
theorem d_Lw_law_663 : decode code 663 = .ok (.iaload, 1) := by decide +kernel
theorem d_Lw_law_664 : decode code 664 = .ok (.invokevirtual 68, 3) := by decide +kernel
theorem d_Lw_law_667 : decode code 667 = .ok (.aload_n 2, 1) := by decide +kernel
theorem d_Lw_law_668 : decode code 668 = .ok (.aload_n 0, 1) := by decide +kernel
theorem d_Lw_law_669 : decode code 669 = .ok (.iload 4, 2) := by decide +kernel
theorem d_Lw_law_671 : decode code 671 = .ok (.iconst 1, 1) := by decide +kernel
theorem d_Lw_law_672 : decode code 672 = .ok (.iadd, 1) := by decide +kernel
theorem d_Lw_law_673 : decode code 673 = .ok (.iaload, 1) := by decide +kernel
theorem d_Lw_law_674 : decode code 674 = .ok (.aload_n 0, 1) := by decide +kernel
theorem d_Lw_law_675 : decode code 675 = .ok (.iload 4, 2) := by decide +kernel
theorem d_Lw_law_677 : decode code 677 = .ok (.iconst 2, 1) := by decide +kernel
theorem d_Lw_law_678 : decode code 678 = .ok (.iadd, 1) := by decide +kernel
theorem d_Lw_law_679 : decode code 679 = .ok (.iaload, 1) := by decide +kernel
theorem d_Lw_law_680 : decode code 680 = .ok (.aload_n 0, 1) := by decide +kernel
theorem d_Lw_law_681 : decode code 681 = .ok (.iload 4, 2) := by decide +kernel
theorem d_Lw_law_683 : decode code 683 = .ok (.iconst 3, 1) := by decide +kernel
theorem d_Lw_law_684 : decode code 684 = .ok (.iadd, 1) := by decide +kernel
theorem d_Lw_law_685 : decode code 685 = .ok (.iaload, 1) := by decide +kernel
theorem d_Lw_law_686 : decode code 686 = .ok (.invokevirtual 71, 3) := by decide +kernel
theorem d_Lw_law_689 : decode code 689 = .ok (.if_icmp .eq 122, 3) := by decide +kernel
theorem d_Lw_law_692 : decode code 692 = .ok (.iconst 0, 1) := by decide +kernel
theorem d_Lw_law_693 : decode code 693 = .ok (.ireturn, 1) := by decide +kernel
theorem d_Lw_law_694 : decode code 694 = .ok (.aload_n 1, 1) := by decide +kernel
theorem d_Lw_law_695 : decode code 695 = .ok (.aload_n 0, 1) := by decide +kernel
theorem d_Lw_law_696 : decode code 696 = .ok (.iload 4, 2) := by decide +kernel
theorem d_Lw_law_698 : decode code 698 = .ok (.iconst 1, 1) := by decide +kernel
theorem d_Lw_law_699 : decode code 699 = .ok (.iadd, 1) := by decide +kernel
theorem d_Lw_law_700 : decode code 700 = .ok (.iaload, 1) := by decide +kernel
theorem d_Lw_law_701 : decode code 701 = .ok (.invokevirtual 72, 3) := by decide +kernel
theorem d_Lw_law_704 : decode code 704 = .ok (.aload_n 2, 1) := by decide +kernel
theorem d_Lw_law_705 : decode code 705 = .ok (.aload_n 0, 1) := by decide +kernel
theorem d_Lw_law_706 : decode code 706 = .ok (.iload 4, 2) := by decide +kernel
theorem d_Lw_law_708 : decode code 708 = .ok (.iconst 1, 1) := by decide +kernel
theorem d_Lw_law_709 : decode code 709 = .ok (.iadd, 1) := by decide +kernel
theorem d_Lw_law_710 : decode code 710 = .ok (.iaload, 1) := by decide +kernel
theorem d_Lw_law_711 : decode code 711 = .ok (.invokevirtual 75, 3) := by decide +kernel
theorem d_Lw_law_714 : decode code 714 = .ok (.if_icmp .eq 97, 3) := by decide +kernel
theorem d_Lw_law_717 : decode code 717 = .ok (.iconst 0, 1) := by decide +kernel
theorem d_Lw_law_718 : decode code 718 = .ok (.ireturn, 1) := by decide +kernel
theorem d_Lw_law_719 : decode code 719 = .ok (.aload_n 1, 1) := by decide +kernel
theorem d_Lw_law_720 : decode code 720 = .ok (.aload_n 0, 1) := by decide +kernel
theorem d_Lw_law_721 : decode code 721 = .ok (.iload 4, 2) := by decide +kernel
theorem d_Lw_law_723 : decode code 723 = .ok (.iconst 1, 1) := by decide +kernel
theorem d_Lw_law_724 : decode code 724 = .ok (.iadd, 1) := by decide +kernel
theorem d_Lw_law_725 : decode code 725 = .ok (.iaload, 1) := by decide +kernel
theorem d_Lw_law_726 : decode code 726 = .ok (.aload_n 0, 1) := by decide +kernel
theorem d_Lw_law_727 : decode code 727 = .ok (.iload 4, 2) := by decide +kernel
theorem d_Lw_law_729 : decode code 729 = .ok (.iconst 2, 1) := by decide +kernel
theorem d_Lw_law_730 : decode code 730 = .ok (.iadd, 1) := by decide +kernel
theorem d_Lw_law_731 : decode code 731 = .ok (.iaload, 1) := by decide +kernel
theorem d_Lw_law_732 : decode code 732 = .ok (.aload_n 3, 1) := by decide +kernel
theorem d_Lw_law_733 : decode code 733 = .ok (.invokestatic 76, 3) := by decide +kernel
theorem d_Lw_law_736 : decode code 736 = .ok (.istore 5, 2) := by decide +kernel
theorem d_Lw_law_738 : decode code 738 = .ok (.aload_n 2, 1) := by decide +kernel
theorem d_Lw_law_739 : decode code 739 = .ok (.aload_n 0, 1) := by decide +kernel
theorem d_Lw_law_740 : decode code 740 = .ok (.iload 4, 2) := by decide +kernel
theorem d_Lw_law_742 : decode code 742 = .ok (.iconst 1, 1) := by decide +kernel
theorem d_Lw_law_743 : decode code 743 = .ok (.iadd, 1) := by decide +kernel
theorem d_Lw_law_744 : decode code 744 = .ok (.iaload, 1) := by decide +kernel
theorem d_Lw_law_745 : decode code 745 = .ok (.aload_n 0, 1) := by decide +kernel
theorem d_Lw_law_746 : decode code 746 = .ok (.iload 4, 2) := by decide +kernel
theorem d_Lw_law_748 : decode code 748 = .ok (.iconst 2, 1) := by decide +kernel
theorem d_Lw_law_749 : decode code 749 = .ok (.iadd, 1) := by decide +kernel
theorem d_Lw_law_750 : decode code 750 = .ok (.iaload, 1) := by decide +kernel
theorem d_Lw_law_751 : decode code 751 = .ok (.invokevirtual 81, 3) := by decide +kernel
theorem d_Lw_law_754 : decode code 754 = .ok (.lstore 6, 2) := by decide +kernel
theorem d_Lw_law_756 : decode code 756 = .ok (.aload_n 2, 1) := by decide +kernel
theorem d_Lw_law_757 : decode code 757 = .ok (.invokevirtual 82, 3) := by decide +kernel
theorem d_Lw_law_760 : decode code 760 = .ok (.iload 5, 2) := by decide +kernel
theorem d_Lw_law_762 : decode code 762 = .ok (.if_icmp .eq 5, 3) := by decide +kernel
theorem d_Lw_law_765 : decode code 765 = .ok (.iconst 0, 1) := by decide +kernel
theorem d_Lw_law_766 : decode code 766 = .ok (.ireturn, 1) := by decide +kernel
theorem d_Lw_law_767 : decode code 767 = .ok (.iload 5, 2) := by decide +kernel
theorem d_Lw_law_769 : decode code 769 = .ok (.ifCond .ne 14, 3) := by decide +kernel
theorem d_Lw_law_772 : decode code 772 = .ok (.aload_n 3, 1) := by decide +kernel
theorem d_Lw_law_773 : decode code 773 = .ok (.iconst 0, 1) := by decide +kernel
theorem d_Lw_law_774 : decode code 774 = .ok (.laload, 1) := by decide +kernel
theorem d_Lw_law_775 : decode code 775 = .ok (.lload 6, 2) := by decide +kernel
theorem d_Lw_law_777 : decode code 777 = .ok (.lcmp, 1) := by decide +kernel
theorem d_Lw_law_778 : decode code 778 = .ok (.ifCond .eq 5, 3) := by decide +kernel
theorem d_Lw_law_781 : decode code 781 = .ok (.iconst 0, 1) := by decide +kernel
theorem d_Lw_law_782 : decode code 782 = .ok (.ireturn, 1) := by decide +kernel
theorem d_Lw_law_783 : decode code 783 = .ok (.goto 28, 3) := by decide +kernel
theorem d_Lw_law_786 : decode code 786 = .ok (.aload_n 1, 1) := by decide +kernel
theorem d_Lw_law_787 : decode code 787 = .ok (.aload_n 0, 1) := by decide +kernel
theorem d_Lw_law_788 : decode code 788 = .ok (.iload 4, 2) := by decide +kernel
theorem d_Lw_law_790 : decode code 790 = .ok (.iconst 1, 1) := by decide +kernel
theorem d_Lw_law_791 : decode code 791 = .ok (.iadd, 1) := by decide +kernel
theorem d_Lw_law_792 : decode code 792 = .ok (.iaload, 1) := by decide +kernel
theorem d_Lw_law_793 : decode code 793 = .ok (.invokevirtual 86, 3) := by decide +kernel
theorem d_Lw_law_796 : decode code 796 = .ok (.aload_n 2, 1) := by decide +kernel
theorem d_Lw_law_797 : decode code 797 = .ok (.aload_n 0, 1) := by decide +kernel
theorem d_Lw_law_798 : decode code 798 = .ok (.iload 4, 2) := by decide +kernel
theorem d_Lw_law_800 : decode code 800 = .ok (.iconst 1, 1) := by decide +kernel
theorem d_Lw_law_801 : decode code 801 = .ok (.iadd, 1) := by decide +kernel
theorem d_Lw_law_802 : decode code 802 = .ok (.iaload, 1) := by decide +kernel
theorem d_Lw_law_803 : decode code 803 = .ok (.invokevirtual 89, 3) := by decide +kernel
theorem d_Lw_law_806 : decode code 806 = .ok (.if_icmp .eq 5, 3) := by decide +kernel
theorem d_Lw_law_809 : decode code 809 = .ok (.iconst 0, 1) := by decide +kernel
theorem d_Lw_law_810 : decode code 810 = .ok (.ireturn, 1) := by decide +kernel
theorem d_Lw_law_811 : decode code 811 = .ok (.iinc 4 7, 3) := by decide +kernel
theorem d_Lw_law_814 : decode code 814 = .ok (.goto (-791), 3) := by decide +kernel
theorem d_Lw_law_817 : decode code 817 = .ok (.iconst 1, 1) := by decide +kernel
theorem d_Lw_law_818 : decode code 818 = .ok (.ireturn, 1) := by decide +kernel
