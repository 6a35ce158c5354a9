theorem d_L_law_0 : decode c_L_law 0 = .ok (.new 8, 3) := by decide +kernel
theorem d_L_law_3 : decode c_L_law 3 = .ok (.dup, 1) := by decide +kernel
theorem d_L_law_4 : decode c_L_law 4 = .ok (.invokespecial 42, 3) := by decide +kernel
theorem d_L_law_7 : decode c_L_law 7 = .ok (.astore_n 1, 1) := by decide +kernel
theorem d_L_law_8 : decode c_L_law 8 = .ok (.new 43, 3) := by decide +kernel
theorem d_L_law_11 : decode c_L_law 11 = .ok (.dup, 1) := by decide +kernel
theorem d_L_law_12 : decode c_L_law 12 = .ok (.invokespecial 45, 3) := by decide +kernel
theorem d_L_law_15 : decode c_L_law 15 = .ok (.astore_n 2, 1) := by decide +kernel
theorem d_L_law_16 : decode c_L_law 16 = .ok (.iconst 1, 1) := by decide +kernel
theorem d_L_law_17 : decode c_L_law 17 = .ok (.newarray .long, 2) := by decide +kernel
theorem d_L_law_19 : decode c_L_law 19 = .ok (.astore_n 3, 1) := by decide +kernel
theorem d_L_law_20 : decode c_L_law 20 = .ok (.iconst 0, 1) := by decide +kernel
theorem d_L_law_21 : decode c_L_law 21 = .ok (.istore 4, 2) := by decide +kernel
theorem d_L_law_23 : decode c_L_law 23 = .ok (.iload 4, 2) := by decide +kernel
theorem d_L_law_25 : decode c_L_law 25 = .ok (.aload_n 0, 1) := by decide +kernel
theorem d_L_law_26 : decode c_L_law 26 = .ok (.arraylength, 1) := by decide +kernel
theorem d_L_law_27 : decode c_L_law 27 = .ok (.iconst 3, 1) := by decide +kernel
theorem d_L_law_28 : decode c_L_law 28 = .ok (.isub, 1) := by decide +kernel
theorem d_L_law_29 : decode c_L_law 29 = .ok (.if_icmp .gt 581, 3) := by decide +kernel
theorem d_L_law_32 : decode c_L_law 32 = .ok (.aload_n 0, 1) := by decide +kernel
theorem d_L_law_33 : decode c_L_law 33 = .ok (.iload 4, 2) := by decide +kernel
theorem d_L_law_35 : decode c_L_law 35 = .ok (.iaload, 1) := by decide +kernel
theorem d_L_law_36 : decode c_L_law 36 = .ok (.bipush 15, 2) := by decide +kernel
theorem d_L_law_38 : decode c_L_law 38 = .ok (.iand, 1) := by decide +kernel
theorem d_L_law_39 : decode c_L_law 39 = .ok (.tableswitch 565 0 8 #[49, 105, 161, 217, 285, 341, 397, 453, 509], 49) := by decide +kernel
theorem d_L_law_88 : decode c_L_law 88 = .ok (.aload_n 1, 1) := by decide +kernel
theorem d_L_law_89 : decode c_L_law 89 = .ok (.aload_n 0, 1) := by decide +kernel
theorem d_L_law_90 : decode c_L_law 90 = .ok (.iload 4, 2) := by decide +kernel
theorem d_L_law_92 : decode c_L_law 92 = .ok (.iconst 1, 1) := by decide +kernel
theorem d_L_law_93 : decode c_L_law 93 = .ok (.iadd, 1) := by decide +kernel
theorem d_L_law_94 : decode c_L_law 94 = .ok (.iaload, 1) := by decide +kernel
theorem d_L_law_95 : decode c_L_law 95 = .ok (.aload_n 3, 1) := by decide +kernel
theorem d_L_law_96 : decode c_L_law 96 = .ok (.invokestatic 46, 3) := by decide +kernel
theorem d_L_law_99 : decode c_L_law 99 = .ok (.istore 5, 2) := by decide +kernel
theorem d_L_law_101 : decode c_L_law 101 = .ok (.aload_n 2, 1) := by decide +kernel
theorem d_L_law_102 : decode c_L_law 102 = .ok (.aload_n 0, 1) := by decide +kernel
theorem d_L_law_103 : decode c_L_law 103 = .ok (.iload 4, 2) := by decide +kernel
theorem d_L_law_105 : decode c_L_law 105 = .ok (.iconst 1, 1) := by decide +kernel
theorem d_L_law_106 : decode c_L_law 106 = .ok (.iadd, 1) := by decide +kernel
theorem d_L_law_107 : decode c_L_law 107 = .ok (.iaload, 1) := by decide +kernel
theorem d_L_law_108 : decode c_L_law 108 = .ok (.invokevirtual 51, 3) := by decide +kernel
theorem d_L_law_111 : decode c_L_law 111 = .ok (.istore 6, 2) := by decide +kernel
theorem d_L_law_113 : decode c_L_law 113 = .ok (.aload_n 2, 1) := by decide +kernel
theorem d_L_law_114 : decode c_L_law 114 = .ok (.invokevirtual 52, 3) := by decide +kernel
theorem d_L_law_117 : decode c_L_law 117 = .ok (.iload 5, 2) := by decide +kernel
theorem d_L_law_119 : decode c_L_law 119 = .ok (.if_icmp .eq 5, 3) := by decide +kernel
theorem d_L_law_122 : decode c_L_law 122 = .ok (.iconst 0, 1) := by decide +kernel
theorem d_L_law_123 : decode c_L_law 123 = .ok (.ireturn, 1) := by decide +kernel
theorem d_L_law_124 : decode c_L_law 124 = .ok (.iload 5, 2) := by decide +kernel
theorem d_L_law_126 : decode c_L_law 126 = .ok (.ifCond .ne 15, 3) := by decide +kernel
theorem d_L_law_129 : decode c_L_law 129 = .ok (.aload_n 3, 1) := by decide +kernel
theorem d_L_law_130 : decode c_L_law 130 = .ok (.iconst 0, 1) := by decide +kernel
theorem d_L_law_131 : decode c_L_law 131 = .ok (.laload, 1) := by decide +kernel
theorem d_L_law_132 : decode c_L_law 132 = .ok (.iload 6, 2) := by decide +kernel
theorem d_L_law_134 : decode c_L_law 134 = .ok (.i2l, 1) := by decide +kernel
theorem d_L_law_135 : decode c_L_law 135 = .ok (.lcmp, 1) := by decide +kernel
theorem d_L_law_136 : decode c_L_law 136 = .ok (.ifCond .eq 5, 3) := by decide +kernel
theorem d_L_law_139 : decode c_L_law 139 = .ok (.iconst 0, 1) := by decide +kernel
theorem d_L_law_140 : decode c_L_law 140 = .ok (.ireturn, 1) := by decide +kernel
theorem d_L_law_141 : decode c_L_law 141 = .ok (.goto 463, 3) := by decide +kernel
theorem d_L_law_144 : decode c_L_law 144 = .ok (.aload_n 1, 1) := by decide +kernel
theorem d_L_law_145 : decode c_L_law 145 = .ok (.aload_n 0, 1) := by decide +kernel
theorem d_L_law_146 : decode c_L_law 146 = .ok (.iload 4, 2) := by decide +kernel
theorem d_L_law_148 : decode c_L_law 148 = .ok (.iconst 1, 1) := by decide +kernel
theorem d_L_law_149 : decode c_L_law 149 = .ok (.iadd, 1) := by decide +kernel
theorem d_L_law_150 : decode c_L_law 150 = .ok (.iaload, 1) := by decide +kernel
theorem d_L_law_151 : decode c_L_law 151 = .ok (.aload_n 3, 1) := by decide +kernel
theorem d_L_law_152 : decode c_L_law 152 = .ok (.invokestatic 56, 3) := by decide +kernel
theorem d_L_law_155 : decode c_L_law 155 = .ok (.istore 5, 2) := by decide +kernel
theorem d_L_law_157 : decode c_L_law 157 = .ok (.aload_n 2, 1) := by decide +kernel
theorem d_L_law_158 : decode c_L_law 158 = .ok (.aload_n 0, 1) := by decide +kernel
theorem d_L_law_159 : decode c_L_law 159 = .ok (.iload 4, 2) := by decide +kernel
theorem d_L_law_161 : decode c_L_law 161 = .ok (.iconst 1, 1) := by decide +kernel
theorem d_L_law_162 : decode c_L_law 162 = .ok (.iadd, 1) := by decide +kernel
theorem d_L_law_163 : decode c_L_law 163 = .ok (.iaload, 1) := by decide +kernel
theorem d_L_law_164 : decode c_L_law 164 = .ok (.invokevirtual 58, 3) := by decide +kernel
theorem d_L_law_167 : decode c_L_law 167 = .ok (.istore 6, 2) := by decide +kernel
theorem d_L_law_169 : decode c_L_law 169 = .ok (.aload_n 2, 1) := by decide +kernel
theorem d_L_law_170 : decode c_L_law 170 = .ok (.invokevirtual 52, 3) := by decide +kernel
theorem d_L_law_173 : decode c_L_law 173 = .ok (.iload 5, 2) := by decide +kernel
theorem d_L_law_175 : decode c_L_law 175 = .ok (.if_icmp .eq 5, 3) := by decide +kernel
theorem d_L_law_178 : decode c_L_law 178 = .ok (.iconst 0, 1) := by decide +kernel
theorem d_L_law_179 : decode c_L_law 179 = .ok (.ireturn, 1) := by decide +kernel
theorem d_L_law_180 : decode c_L_law 180 = .ok (.iload 5, 2) := by decide +kernel
theorem d_L_law_182 : decode c_L_law 182 = .ok (.ifCond .ne 15, 3) := by decide +kernel
theorem d_L_law_185 : decode c_L_law 185 = .ok (.aload_n 3, 1) := by decide +kernel
theorem d_L_law_186 : decode c_L_law 186 = .ok (.iconst 0, 1) := by decide +kernel
theorem d_L_law_187 : decode c_L_law 187 = .ok (.laload, 1) := by decide +kernel
theorem d_L_law_188 : decode c_L_law 188 = .ok (.iload 6, 2) := by decide +kernel
theorem d_L_law_190 : decode c_L_law 190 = .ok (.i2l, 1) := by decide +kernel
theorem d_L_law_191 : decode c_L_law 191 = .ok (.lcmp, 1) := by decide +kernel
theorem d_L_law_192 : decode c_L_law 192 = .ok (.ifCond .eq 5, 3) := by decide +kernel
theorem d_L_law_195 : decode c_L_law 195 = .ok (.iconst 0, 1) := by decide +kernel
theorem d_L_law_196 : decode c_L_law 196 = .ok (.ireturn, 1) := by decide +kernel
theorem d_L_law_197 : decode c_L_law 197 = .ok (.goto 407, 3) := by decide +kernel
theorem d_L_law_200 : decode c_L_law 200 = .ok (.aload_n 1, 1) := by decide +kernel
theorem d_L_law_201 : decode c_L_law 201 = .ok (.aload_n 0, 1) := by decide +kernel
theorem d_L_law_202 : decode c_L_law 202 = .ok (.iload 4, 2) := by decide +kernel
theorem d_L_law_204 : decode c_L_law 204 = .ok (.iconst 1, 1) := by decide +kernel
theorem d_L_law_205 : decode c_L_law 205 = .ok (.iadd, 1) := by decide +kernel
theorem d_L_law_206 : decode c_L_law 206 = .ok (.iaload, 1) := by decide +kernel
theorem d_L_law_207 : decode c_L_law 207 = .ok (.aload_n 3, 1) := by decide +kernel
theorem d_L_law_208 : decode c_L_law 208 = .ok (.invokestatic 59, 3) := by decide +kernel
theorem d_L_law_211 : decode c_L_law 211 = .ok (.istore 5, 2) := by decide +kernel
theorem d_L_law_213 : decode c_L_law 213 = .ok (.aload_n 2, 1) := by decide +kernel
theorem d_L_law_214 : decode c_L_law 214 = .ok (.aload_n 0, 1) := by decide +kernel
theorem d_L_law_215 : decode c_L_law 215 = .ok (.iload 4, 2) := by decide +kernel
theorem d_L_law_217 : decode c_L_law 217 = .ok (.iconst 1, 1) := by decide +kernel
theorem d_L_law_218 : decode c_L_law 218 = .ok (.iadd, 1) := by decide +kernel
theorem d_L_law_219 : decode c_L_law 219 = .ok (.iaload, 1) := by decide +kernel
theorem d_L_law_220 : decode c_L_law 220 = .ok (.invokevirtual 61, 3) := by decide +kernel
theorem d_L_law_223 : decode c_L_law 223 = .ok (.istore 6, 2) := by decide +kernel
theorem d_L_law_225 : decode c_L_law 225 = .ok (.aload_n 2, 1) := by decide +kernel
theorem d_L_law_226 : decode c_L_law 226 = .ok (.invokevirtual 52, 3) := by decide +kernel
theorem d_L_law_229 : decode c_L_law 229 = .ok (.iload 5, 2) := by decide +kernel
theorem d_L_law_231 : decode c_L_law 231 = .ok (.if_icmp .eq 5, 3) := by decide +kernel
theorem d_L_law_234 : decode c_L_law 234 = .ok (.iconst 0, 1) := by decide +kernel
theorem d_L_law_235 : decode c_L_law 235 = .ok (.ireturn, 1) := by decide +kernel
theorem d_L_law_236 : decode c_L_law 236 = .ok (.iload 5, 2) := by decide +kernel
theorem d_L_law_238 : decode c_L_law 238 = .ok (.ifCond .ne 15, 3) := by decide +kernel
theorem d_L_law_241 : decode c_L_law 241 = .ok (.aload_n 3, 1) := by decide +kernel
theorem d_L_law_242 : decode c_L_law 242 = .ok (.iconst 0, 1) := by decide +kernel
theorem d_L_law_243 : decode c_L_law 243 = .ok (.laload, 1) := by decide +kernel
theorem d_L_law_244 : decode c_L_law 244 = .ok (.iload 6, 2) := by decide +kernel
theorem d_L_law_246 : decode c_L_law 246 = .ok (.i2l, 1) := by decide +kernel
theorem d_L_law_247 : decode c_L_law 247 = .ok (.lcmp, 1) := by decide +kernel
theorem d_L_law_248 : decode c_L_law 248 = .ok (.ifCond .eq 5, 3) := by decide +kernel
theorem d_L_law_251 : decode c_L_law 251 = .ok (.iconst 0, 1) := by decide +kernel
theorem d_L_law_252 : decode c_L_law 252 = .ok (.ireturn, 1) := by decide +kernel
theorem d_L_law_253 : decode c_L_law 253 = .ok (.goto 351, 3) := by decide +kernel
theorem d_L_law_256 : decode c_L_law 256 = .ok (.aload_n 1, 1) := by decide +kernel
theorem d_L_law_257 : decode c_L_law 257 = .ok (.aload_n 0, 1) := by decide +kernel
theorem d_L_law_258 : decode c_L_law 258 = .ok (.iload 4, 2) := by decide +kernel
theorem d_L_law_260 : decode c_L_law 260 = .ok (.iconst 1, 1) := by decide +kernel
theorem d_L_law_261 : decode c_L_law 261 = .ok (.iadd, 1) := by decide +kernel
theorem d_L_law_262 : decode c_L_law 262 = .ok (.iaload, 1) := by decide +kernel
theorem d_L_law_263 : decode c_L_law 263 = .ok (.aload_n 0, 1) := by decide +kernel
theorem d_L_law_264 : decode c_L_law 264 = .ok (.iload 4, 2) := by decide +kernel
theorem d_L_law_266 : decode c_L_law 266 = .ok (.iconst 2, 1) := by decide +kernel
theorem d_L_law_267 : decode c_L_law 267 = .ok (.iadd, 1) := by decide +kernel
theorem d_L_law_268 : decode c_L_law 268 = .ok (.iaload, 1) := by decide +kernel
theorem d_L_law_269 : decode c_L_law 269 = .ok (.aload_n 3, 1) := by decide +kernel
theorem d_L_law_270 : decode c_L_law 270 = .ok (.invokestatic 62, 3) := by decide +kernel
theorem d_L_law_273 : decode c_L_law 273 = .ok (.istore 5, 2) := by decide +kernel
theorem d_L_law_275 : decode c_L_law 275 = .ok (.aload_n 2, 1) := by decide +kernel
theorem d_L_law_276 : decode c_L_law 276 = .ok (.aload_n 0, 1) := by decide +kernel
theorem d_L_law_277 : decode c_L_law 277 = .ok (.iload 4, 2) := by decide +kernel
theorem d_L_law_279 : decode c_L_law 279 = .ok (.iconst 1, 1) := by decide +kernel
theorem d_L_law_280 : decode c_L_law 280 = .ok (.iadd, 1) := by decide +kernel
theorem d_L_law_281 : decode c_L_law 281 = .ok (.iaload, 1) := by decide +kernel
theorem d_L_law_282 : decode c_L_law 282 = .ok (.aload_n 0, 1) := by decide +kernel
theorem d_L_law_283 : decode c_L_law 283 = .ok (.iload 4, 2) := by decide +kernel
theorem d_L_law_285 : decode c_L_law 285 = .ok (.iconst 2, 1) := by decide +kernel
theorem d_L_law_286 : decode c_L_law 286 = .ok (.iadd, 1) := by decide +kernel
theorem d_L_law_287 : decode c_L_law 287 = .ok (.iaload, 1) := by decide +kernel
theorem d_L_law_288 : decode c_L_law 288 = .ok (.invokevirtual 65, 3) := by decide +kernel
theorem d_L_law_291 : decode c_L_law 291 = .ok (.istore 6, 2) := by decide +kernel
theorem d_L_law_293 : decode c_L_law 293 = .ok (.aload_n 2, 1) := by decide +kernel
theorem d_L_law_294 : decode c_L_law 294 = .ok (.invokevirtual 52, 3) := by decide +kernel
theorem d_L_law_297 : decode c_L_law 297 = .ok (.iload 5, 2) := by decide +kernel
theorem d_L_law_299 : decode c_L_law 299 = .ok (.if_icmp .eq 5, 3) := by decide +kernel
theorem d_L_law_302 : decode c_L_law 302 = .ok (.iconst 0, 1) := by decide +kernel
theorem d_L_law_303 : decode c_L_law 303 = .ok (.ireturn, 1) := by decide +kernel
theorem d_L_law_304 : decode c_L_law 304 = .ok (.iload 5, 2) := by decide +kernel
theorem d_L_law_306 : decode c_L_law 306 = .ok (.ifCond .ne 15, 3) := by decide +kernel
theorem d_L_law_309 : decode c_L_law 309 = .ok (.aload_n 3, 1) := by decide +kernel
theorem d_L_law_310 : decode c_L_law 310 = .ok (.iconst 0, 1) := by decide +kernel
theorem d_L_law_311 : decode c_L_law 311 = .ok (.laload, 1) := by decide +kernel
theorem d_L_law_312 : decode c_L_law 312 = .ok (.iload 6, 2) := by decide +kernel
theorem d_L_law_314 : decode c_L_law 314 = .ok (.i2l, 1) := by decide +kernel
theorem d_L_law_315 : decode c_L_law 315 = .ok (.lcmp, 1) := by decide +kernel
theorem d_L_law_316 : decode c_L_law 316 = .ok (.ifCond .eq 5, 3) := by decide +kernel
theorem d_L_law_319 : decode c_L_law 319 = .ok (.iconst 0, 1) := by decide +kernel
theorem d_L_law_320 : decode c_L_law 320 = .ok (.ireturn, 1) := by decide +kernel
theorem d_L_law_321 : decode c_L_law 321 = .ok (.goto 283, 3) := by decide +kernel
theorem d_L_law_324 : decode c_L_law 324 = .ok (.aload_n 1, 1) := by decide +kernel
theorem d_L_law_325 : decode c_L_law 325 = .ok (.aload_n 0, 1) := by decide +kernel
theorem d_L_law_326 : decode c_L_law 326 = .ok (.iload 4, 2) := by decide +kernel
theorem d_L_law_328 : decode c_L_law 328 = .ok (.iconst 1, 1) := by decide +kernel
theorem d_L_law_329 : decode c_L_law 329 = .ok (.iadd, 1) := by decide +kernel
theorem d_L_law_330 : decode c_L_law 330 = .ok (.iaload, 1) := by decide +kernel
theorem d_L_law_331 : decode c_L_law 331 = .ok (.aload_n 3, 1) := by decide +kernel
theorem d_L_law_332 : decode c_L_law 332 = .ok (.invokestatic 66, 3) := by decide +kernel
theorem d_L_law_335 : decode c_L_law 335 = .ok (.istore 5, 2) := by decide +kernel
theorem d_L_law_337 : decode c_L_law 337 = .ok (.aload_n 2, 1) := by decide +kernel
theorem d_L_law_338 : decode c_L_law 338 = .ok (.aload_n 0, 1) := by decide +kernel
theorem d_L_law_339 : decode c_L_law 339 = .ok (.iload 4, 2) := by decide +kernel
theorem d_L_law_341 : decode c_L_law 341 = .ok (.iconst 1, 1) := by decide +kernel
theorem d_L_law_342 : decode c_L_law 342 = .ok (.iadd, 1) := by decide +kernel
theorem d_L_law_343 : decode c_L_law 343 = .ok (.iaload, 1) := by decide +kernel
theorem d_L_law_344 : decode c_L_law 344 = .ok (.invokevirtual 68, 3) := by decide +kernel
theorem d_L_law_347 : decode c_L_law 347 = .ok (.istore 6, 2) := by decide +kernel
theorem d_L_law_349 : decode c_L_law 349 = .ok (.aload_n 2, 1) := by decide +kernel
theorem d_L_law_350 : decode c_L_law 350 = .ok (.invokevirtual 52, 3) := by decide +kernel
theorem d_L_law_353 : decode c_L_law 353 = .ok (.iload 5, 2) := by decide +kernel
theorem d_L_law_355 : decode c_L_law 355 = .ok (.if_icmp .eq 5, 3) := by decide +kernel
theorem d_L_law_358 : decode c_L_law 358 = .ok (.iconst 0, 1) := by decide +kernel
theorem d_L_law_359 : decode c_L_law 359 = .ok (.ireturn, 1) := by decide +kernel
theorem d_L_law_360 : decode c_L_law 360 = .ok (.iload 5, 2) := by decide +kernel
theorem d_L_law_362 : decode c_L_law 362 = .ok (.ifCond .ne 15, 3) := by decide +kernel
theorem d_L_law_365 : decode c_L_law 365 = .ok (.aload_n 3, 1) := by decide +kernel
theorem d_L_law_366 : decode c_L_law 366 = .ok (.iconst 0, 1) := by decide +kernel
theorem d_L_law_367 : decode c_L_law 367 = .ok (.laload, 1) := by decide +kernel
theorem d_L_law_368 : decode c_L_law 368 = .ok (.iload 6, 2) := by decide +kernel
theorem d_L_law_370 : decode c_L_law 370 = .ok (.i2l, 1) := by decide +kernel
theorem d_L_law_371 : decode c_L_law 371 = .ok (.lcmp, 1) := by decide +kernel
theorem d_L_law_372 : decode c_L_law 372 = .ok (.ifCond .eq 5, 3) := by decide +kernel
theorem d_L_law_375 : decode c_L_law 375 = .ok (.iconst 0, 1) := by decide +kernel
theorem d_L_law_376 : decode c_L_law 376 = .ok (.ireturn, 1) := by decide +kernel
theorem d_L_law_377 : decode c_L_law 377 = .ok (.goto 227, 3) := by decide +kernel
theorem d_L_law_380 : decode c_L_law 380 = .ok (.aload_n 1, 1) := by decide +kernel
theorem d_L_law_381 : decode c_L_law 381 = .ok (.aload_n 0, 1) := by decide +kernel
theorem d_L_law_382 : decode c_L_law 382 = .ok (.iload 4, 2) := by decide +kernel
theorem d_L_law_384 : decode c_L_law 384 = .ok (.iconst 1, 1) := by decide +kernel
theorem d_L_law_385 : decode c_L_law 385 = .ok (.iadd, 1) := by decide +kernel
theorem d_L_law_386 : decode c_L_law 386 = .ok (.iaload, 1) := by decide +kernel
theorem d_L_law_387 : decode c_L_law 387 = .ok (.aload_n 3, 1) := by decide +kernel
theorem d_L_law_388 : decode c_L_law 388 = .ok (.invokestatic 69, 3) := by decide +kernel
theorem d_L_law_391 : decode c_L_law 391 = .ok (.istore 5, 2) := by decide +kernel
theorem d_L_law_393 : decode c_L_law 393 = .ok (.aload_n 2, 1) := by decide +kernel
theorem d_L_law_394 : decode c_L_law 394 = .ok (.aload_n 0, 1) := by decide +kernel
theorem d_L_law_395 : decode c_L_law 395 = .ok (.iload 4, 2) := by decide +kernel
theorem d_L_law_397 : decode c_L_law 397 = .ok (.iconst 1, 1) := by decide +kernel
theorem d_L_law_398 : decode c_L_law 398 = .ok (.iadd, 1) := by decide +kernel
theorem d_L_law_399 : decode c_L_law 399 = .ok (.iaload, 1) := by decide +kernel
theorem d_L_law_400 : decode c_L_law 400 = .ok (.invokevirtual 71, 3) := by decide +kernel
theorem d_L_law_403 : decode c_L_law 403 = .ok (.istore 6, 2) := by decide +kernel
theorem d_L_law_405 : decode c_L_law 405 = .ok (.aload_n 2, 1) := by decide +kernel
theorem d_L_law_406 : decode c_L_law 406 = .ok (.invokevirtual 52, 3) := by decide +kernel
theorem d_L_law_409 : decode c_L_law 409 = .ok (.iload 5, 2) := by decide +kernel
theorem d_L_law_411 : decode c_L_law 411 = .ok (.if_icmp .eq 5, 3) := by decide +kernel
theorem d_L_law_414 : decode c_L_law 414 = .ok (.iconst 0, 1) := by decide +kernel
theorem d_L_law_415 : decode c_L_law 415 = .ok (.ireturn, 1) := by decide +kernel
theorem d_L_law_416 : decode c_L_law 416 = .ok (.iload 5, 2) := by decide +kernel
theorem d_L_law_418 : decode c_L_law 418 = .ok (.ifCond .ne 15, 3) := by decide +kernel
theorem d_L_law_421 : decode c_L_law 421 = .ok (.aload_n 3, 1) := by decide +kernel
theorem d_L_law_422 : decode c_L_law 422 = .ok (.iconst 0, 1) := by decide +kernel
theorem d_L_law_423 : decode c_L_law 423 = .ok (.laload, 1) := by decide +kernel
theorem d_L_law_424 : decode c_L_law 424 = .ok (.iload 6, 2) := by decide +kernel
theorem d_L_law_426 : decode c_L_law 426 = .ok (.i2l, 1) := by decide +kernel
theorem d_L_law_427 : decode c_L_law 427 = .ok (.lcmp, 1) := by decide +kernel
theorem d_L_law_428 : decode c_L_law 428 = .ok (.ifCond .eq 5, 3) := by decide +kernel
theorem d_L_law_431 : decode c_L_law 431 = .ok (.iconst 0, 1) := by decide +kernel
theorem d_L_law_432 : decode c_L_law 432 = .ok (.ireturn, 1) := by decide +kernel
theorem d_L_law_433 : decode c_L_law 433 = .ok (.goto 171, 3) := by decide +kernel
theorem d_L_law_436 : decode c_L_law 436 = .ok (.aload_n 1, 1) := by decide +kernel
theorem d_L_law_437 : decode c_L_law 437 = .ok (.aload_n 0, 1) := by decide +kernel
theorem d_L_law_438 : decode c_L_law 438 = .ok (.iload 4, 2) := by decide +kernel
theorem d_L_law_440 : decode c_L_law 440 = .ok (.iconst 1, 1) := by decide +kernel
theorem d_L_law_441 : decode c_L_law 441 = .ok (.iadd, 1) := by decide +kernel
theorem d_L_law_442 : decode c_L_law 442 = .ok (.iaload, 1) := by decide +kernel
theorem d_L_law_443 : decode c_L_law 443 = .ok (.aload_n 3, 1) := by decide +kernel
theorem d_L_law_444 : decode c_L_law 444 = .ok (.invokestatic 72, 3) := by decide +kernel
theorem d_L_law_447 : decode c_L_law 447 = .ok (.istore 5, 2) := by decide +kernel
theorem d_L_law_449 : decode c_L_law 449 = .ok (.aload_n 2, 1) := by decide +kernel
theorem d_L_law_450 : decode c_L_law 450 = .ok (.aload_n 0, 1) := by decide +kernel
theorem d_L_law_451 : decode c_L_law 451 = .ok (.iload 4, 2) := by decide +kernel
theorem d_L_law_453 : decode c_L_law 453 = .ok (.iconst 1, 1) := by decide +kernel
theorem d_L_law_454 : decode c_L_law 454 = .ok (.iadd, 1) := by decide +kernel
theorem d_L_law_455 : decode c_L_law 455 = .ok (.iaload, 1) := by decide +kernel
theorem d_L_law_456 : decode c_L_law 456 = .ok (.invokevirtual 74, 3) := by decide +kernel
theorem d_L_law_459 : decode c_L_law 459 = .ok (.istore 6, 2) := by decide +kernel
theorem d_L_law_461 : decode c_L_law 461 = .ok (.aload_n 2, 1) := by decide +kernel
theorem d_L_law_462 : decode c_L_law 462 = .ok (.invokevirtual 52, 3) := by decide +kernel
theorem d_L_law_465 : decode c_L_law 465 = .ok (.iload 5, 2) := by decide +kernel
theorem d_L_law_467 : decode c_L_law 467 = .ok (.if_icmp .eq 5, 3) := by decide +kernel
theorem d_L_law_470 : decode c_L_law 470 = .ok (.iconst 0, 1) := by decide +kernel
theorem d_L_law_471 : decode c_L_law 471 = .ok (.ireturn, 1) := by decide +kernel
theorem d_L_law_472 : decode c_L_law 472 = .ok (.iload 5, 2) := by decide +kernel
theorem d_L_law_474 : decode c_L_law 474 = .ok (.ifCond .ne 15, 3) := by decide +kernel
theorem d_L_law_477 : decode c_L_law 477 = .ok (.aload_n 3, 1) := by decide +kernel
theorem d_L_law_478 : decode c_L_law 478 = .ok (.iconst 0, 1) := by decide +kernel
theorem d_L_law_479 : decode c_L_law 479 = .ok (.laload, 1) := by decide +kernel
theorem d_L_law_480 : decode c_L_law 480 = .ok (.iload 6, 2) := by decide +kernel
theorem d_L_law_482 : decode c_L_law 482 = .ok (.i2l, 1) := by decide +kernel
theorem d_L_law_483 : decode c_L_law 483 = .ok (.lcmp, 1) := by decide +kernel
theorem d_L_law_484 : decode c_L_law 484 = .ok (.ifCond .eq 5, 3) := by decide +kernel
theorem d_L_law_487 : decode c_L_law 487 = .ok (.iconst 0, 1) := by decide +kernel
theorem d_L_law_488 : decode c_L_law 488 = .ok (.ireturn, 1) := by decide +kernel
theorem d_L_law_489 : decode c_L_law 489 = .ok (.goto 115, 3) := by decide +kernel
theorem d_L_law_492 : decode c_L_law 492 = .ok (.aload_n 1, 1) := by decide +kernel
theorem d_L_law_493 : decode c_L_law 493 = .ok (.aload_n 0, 1) := by decide +kernel
theorem d_L_law_494 : decode c_L_law 494 = .ok (.iload 4, 2) := by decide +kernel
theorem d_L_law_496 : decode c_L_law 496 = .ok (.iconst 1, 1) := by decide +kernel
theorem d_L_law_497 : decode c_L_law 497 = .ok (.iadd, 1) := by decide +kernel
theorem d_L_law_498 : decode c_L_law 498 = .ok (.iaload, 1) := by decide +kernel
theorem d_L_law_499 : decode c_L_law 499 = .ok (.aload_n 3, 1) := by decide +kernel
theorem d_L_law_500 : decode c_L_law 500 = .ok (.invokestatic 75, 3) := by decide +kernel
theorem d_L_law_503 : decode c_L_law 503 = .ok (.istore 5, 2) := by decide +kernel
theorem d_L_law_505 : decode c_L_law 505 = .ok (.aload_n 2, 1) := by decide +kernel
theorem d_L_law_506 : decode c_L_law 506 = .ok (.aload_n 0, 1) := by decide +kernel
theorem d_L_law_507 : decode c_L_law 507 = .ok (.iload 4, 2) := by decide +kernel
theorem d_L_law_509 : decode c_L_law 509 = .ok (.iconst 1, 1) := by decide +kernel
theorem d_L_law_510 : decode c_L_law 510 = .ok (.iadd, 1) := by decide +kernel
theorem d_L_law_511 : decode c_L_law 511 = .ok (.iaload, 1) := by decide +kernel
theorem d_L_law_512 : decode c_L_law 512 = .ok (.invokevirtual 77, 3) := by decide +kernel
theorem d_L_law_515 : decode c_L_law 515 = .ok (.istore 6, 2) := by decide +kernel
theorem d_L_law_517 : decode c_L_law 517 = .ok (.aload_n 2, 1) := by decide +kernel
theorem d_L_law_518 : decode c_L_law 518 = .ok (.invokevirtual 52, 3) := by decide +kernel
theorem d_L_law_521 : decode c_L_law 521 = .ok (.iload 5, 2) := by decide +kernel
theorem d_L_law_523 : decode c_L_law 523 = .ok (.if_icmp .eq 5, 3) := by decide +kernel
theorem d_L_law_526 : decode c_L_law 526 = .ok (.iconst 0, 1) := by decide +kernel
theorem d_L_law_527 : decode c_L_law 527 = .ok (.ireturn, 1) := by decide +kernel
theorem d_L_law_528 : decode c_L_law 528 = .ok (.iload 5, 2) := by decide +kernel
theorem d_L_law_530 : decode c_L_law 530 = .ok (.ifCond .ne 15, 3) := by decide +kernel
theorem d_L_law_533 : decode c_L_law 533 = .ok (.aload_n 3, 1) := by decide +kernel
theorem d_L_law_534 : decode c_L_law 534 = .ok (.iconst 0, 1) := by decide +kernel
theorem d_L_law_535 : decode c_L_law 535 = .ok (.laload, 1) := by decide +kernel
theorem d_L_law_536 : decode c_L_law 536 = .ok (.iload 6, 2) := by decide +kernel
theorem d_L_law_538 : decode c_L_law 538 = .ok (.i2l, 1) := by decide +kernel
theorem d_L_law_539 : decode c_L_law 539 = .ok (.lcmp, 1) := by decide +kernel
theorem d_L_law_540 : decode c_L_law 540 = .ok (.ifCond .eq 5, 3) := by decide +kernel
theorem d_L_law_543 : decode c_L_law 543 = .ok (.iconst 0, 1) := by decide +kernel
theorem d_L_law_544 : decode c_L_law 544 = .ok (.ireturn, 1) := by decide +kernel
theorem d_L_law_545 : decode c_L_law 545 = .ok (.goto 59, 3) := by decide +kernel
theorem d_L_law_548 : decode c_L_law 548 = .ok (.aload_n 1, 1) := by decide +kernel
theorem d_L_law_549 : decode c_L_law 549 = .ok (.aload_n 0, 1) := by decide +kernel
theorem d_L_law_550 : decode c_L_law 550 = .ok (.iload 4, 2) := by decide +kernel
theorem d_L_law_552 : decode c_L_law 552 = .ok (.iconst 1, 1) := by decide +kernel
theorem d_L_law_553 : decode c_L_law 553 = .ok (.iadd, 1) := by decide +kernel
theorem d_L_law_554 : decode c_L_law 554 = .ok (.iaload, 1) := by decide +kernel
theorem d_L_law_555 : decode c_L_law 555 = .ok (.aload_n 3, 1) := by decide +kernel
theorem d_L_law_556 : decode c_L_law 556 = .ok (.invokestatic 78, 3) := by decide +kernel
theorem d_L_law_559 : decode c_L_law 559 = .ok (.istore 5, 2) := by decide +kernel
theorem d_L_law_561 : decode c_L_law 561 = .ok (.aload_n 2, 1) := by decide +kernel
theorem d_L_law_562 : decode c_L_law 562 = .ok (.aload_n 0, 1) := by decide +kernel
theorem d_L_law_563 : decode c_L_law 563 = .ok (.iload 4, 2) := by decide +kernel
theorem d_L_law_565 : decode c_L_law 565 = .ok (.iconst 1, 1) := by decide +kernel
theorem d_L_law_566 : decode c_L_law 566 = .ok (.iadd, 1) := by decide +kernel
theorem d_L_law_567 : decode c_L_law 567 = .ok (.iaload, 1) := by decide +kernel
theorem d_L_law_568 : decode c_L_law 568 = .ok (.invokevirtual 80, 3) := by decide +kernel
theorem d_L_law_571 : decode c_L_law 571 = .ok (.istore 6, 2) := by decide +kernel
theorem d_L_law_573 : decode c_L_law 573 = .ok (.aload_n 2, 1) := by decide +kernel
theorem d_L_law_574 : decode c_L_law 574 = .ok (.invokevirtual 52, 3) := by decide +kernel
theorem d_L_law_577 : decode c_L_law 577 = .ok (.iload 5, 2) := by decide +kernel
theorem d_L_law_579 : decode c_L_law 579 = .ok (.if_icmp .eq 5, 3) := by decide +kernel
theorem d_L_law_582 : decode c_L_law 582 = .ok (.iconst 0, 1) := by decide +kernel
theorem d_L_law_583 : decode c_L_law 583 = .ok (.ireturn, 1) := by decide +kernel
theorem d_L_law_584 : decode c_L_law 584 = .ok (.iload 5, 2) := by decide +kernel
theorem d_L_law_586 : decode c_L_law 586 = .ok (.ifCond .ne 15, 3) := by decide +kernel
theorem d_L_law_589 : decode c_L_law 589 = .ok (.aload_n 3, 1) := by decide +kernel
theorem d_L_law_590 : decode c_L_law 590 = .ok (.iconst 0, 1) := by decide +kernel
theorem d_L_law_591 : decode c_L_law 591 = .ok (.laload, 1) := by decide +kernel
theorem d_L_law_592 : decode c_L_law 592 = .ok (.iload 6, 2) := by decide +kernel
theorem d_L_law_594 : decode c_L_law 594 = .ok (.i2l, 1) := by decide +kernel
theorem d_L_law_595 : decode c_L_law 595 = .ok (.lcmp, 1) := by decide +kernel
theorem d_L_law_596 : decode c_L_law 596 = .ok (.ifCond .eq 5, 3) := by decide +kernel
theorem d_L_law_599 : decode c_L_law 599 = .ok (.iconst 0, 1) := by decide +kernel
theorem d_L_law_600 : decode c_L_law 600 = .ok (.ireturn, 1) := by decide +kernel
theorem d_L_law_601 : decode c_L_law 601 = .ok (.goto 3, 3) := by decide +kernel
theorem d_L_law_604 : decode c_L_law 604 = .ok (.iinc 4 3, 3) := by decide +kernel
theorem d_L_law_607 : decode c_L_law 607 = .ok (.goto (-584), 3) := by decide +kernel
theorem d_L_law_610 : decode c_L_law 610 = .ok (.iconst 1, 1) := by decide +kernel
theorem d_L_law_611 : decode c_L_law 611 = .ok (.ireturn, 1) := by decide +kernel
