/-! decode rows of FilterBenchLaw, methods 10 to 11 (by program: wip/gen/decs.py) -/
theorem d_L_law_0 : decode b_L_law 0 = .ok (.new 8, 3) := by decide +kernel
theorem d_L_law_3 : decode b_L_law 3 = .ok (.dup, 1) := by decide +kernel
theorem d_L_law_4 : decode b_L_law 4 = .ok (.invokespecial 51, 3) := by decide +kernel
theorem d_L_law_7 : decode b_L_law 7 = .ok (.astore_n 1, 1) := by decide +kernel
theorem d_L_law_8 : decode b_L_law 8 = .ok (.new 52, 3) := by decide +kernel
theorem d_L_law_11 : decode b_L_law 11 = .ok (.dup, 1) := by decide +kernel
theorem d_L_law_12 : decode b_L_law 12 = .ok (.invokespecial 54, 3) := by decide +kernel
theorem d_L_law_15 : decode b_L_law 15 = .ok (.astore_n 2, 1) := by decide +kernel
theorem d_L_law_16 : decode b_L_law 16 = .ok (.iconst 1, 1) := by decide +kernel
theorem d_L_law_17 : decode b_L_law 17 = .ok (.newarray .long, 2) := by decide +kernel
theorem d_L_law_19 : decode b_L_law 19 = .ok (.astore_n 3, 1) := by decide +kernel
theorem d_L_law_20 : decode b_L_law 20 = .ok (.iconst 0, 1) := by decide +kernel
theorem d_L_law_21 : decode b_L_law 21 = .ok (.istore 4, 2) := by decide +kernel
theorem d_L_law_23 : decode b_L_law 23 = .ok (.iload 4, 2) := by decide +kernel
theorem d_L_law_25 : decode b_L_law 25 = .ok (.aload_n 0, 1) := by decide +kernel
theorem d_L_law_26 : decode b_L_law 26 = .ok (.arraylength, 1) := by decide +kernel
theorem d_L_law_27 : decode b_L_law 27 = .ok (.iconst 5, 1) := by decide +kernel
theorem d_L_law_28 : decode b_L_law 28 = .ok (.isub, 1) := by decide +kernel
theorem d_L_law_29 : decode b_L_law 29 = .ok (.if_icmp .gt 858, 3) := by decide +kernel
theorem d_L_law_32 : decode b_L_law 32 = .ok (.aload_n 0, 1) := by decide +kernel
theorem d_L_law_33 : decode b_L_law 33 = .ok (.iload 4, 2) := by decide +kernel
theorem d_L_law_35 : decode b_L_law 35 = .ok (.iaload, 1) := by decide +kernel
theorem d_L_law_36 : decode b_L_law 36 = .ok (.bipush 15, 2) := by decide +kernel
theorem d_L_law_38 : decode b_L_law 38 = .ok (.iand, 1) := by decide +kernel
theorem d_L_law_39 : decode b_L_law 39 = .ok (.tableswitch 842 0 10 #[57, 125, 205, 273, 341, 409, 477, 545, 641, 749, 817], 57) := by decide +kernel
theorem d_L_law_96 : decode b_L_law 96 = .ok (.aload_n 1, 1) := by decide +kernel
theorem d_L_law_97 : decode b_L_law 97 = .ok (.aload_n 0, 1) := by decide +kernel
theorem d_L_law_98 : decode b_L_law 98 = .ok (.iload 4, 2) := by decide +kernel
theorem d_L_law_100 : decode b_L_law 100 = .ok (.iconst 1, 1) := by decide +kernel
theorem d_L_law_101 : decode b_L_law 101 = .ok (.iadd, 1) := by decide +kernel
theorem d_L_law_102 : decode b_L_law 102 = .ok (.iaload, 1) := by decide +kernel
theorem d_L_law_103 : decode b_L_law 103 = .ok (.aload_n 0, 1) := by decide +kernel
theorem d_L_law_104 : decode b_L_law 104 = .ok (.iload 4, 2) := by decide +kernel
theorem d_L_law_106 : decode b_L_law 106 = .ok (.iconst 2, 1) := by decide +kernel
theorem d_L_law_107 : decode b_L_law 107 = .ok (.iadd, 1) := by decide +kernel
theorem d_L_law_108 : decode b_L_law 108 = .ok (.iaload, 1) := by decide +kernel
theorem d_L_law_109 : decode b_L_law 109 = .ok (.aload_n 3, 1) := by decide +kernel
theorem d_L_law_110 : decode b_L_law 110 = .ok (.invokestatic 55, 3) := by decide +kernel
theorem d_L_law_113 : decode b_L_law 113 = .ok (.istore 5, 2) := by decide +kernel
theorem d_L_law_115 : decode b_L_law 115 = .ok (.aload_n 2, 1) := by decide +kernel
theorem d_L_law_116 : decode b_L_law 116 = .ok (.aload_n 0, 1) := by decide +kernel
theorem d_L_law_117 : decode b_L_law 117 = .ok (.iload 4, 2) := by decide +kernel
theorem d_L_law_119 : decode b_L_law 119 = .ok (.iconst 1, 1) := by decide +kernel
theorem d_L_law_120 : decode b_L_law 120 = .ok (.iadd, 1) := by decide +kernel
theorem d_L_law_121 : decode b_L_law 121 = .ok (.iaload, 1) := by decide +kernel
theorem d_L_law_122 : decode b_L_law 122 = .ok (.aload_n 0, 1) := by decide +kernel
theorem d_L_law_123 : decode b_L_law 123 = .ok (.iload 4, 2) := by decide +kernel
theorem d_L_law_125 : decode b_L_law 125 = .ok (.iconst 2, 1) := by decide +kernel
theorem d_L_law_126 : decode b_L_law 126 = .ok (.iadd, 1) := by decide +kernel
theorem d_L_law_127 : decode b_L_law 127 = .ok (.iaload, 1) := by decide +kernel
theorem d_L_law_128 : decode b_L_law 128 = .ok (.invokevirtual 60, 3) := by decide +kernel
theorem d_L_law_131 : decode b_L_law 131 = .ok (.istore 6, 2) := by decide +kernel
theorem d_L_law_133 : decode b_L_law 133 = .ok (.aload_n 2, 1) := by decide +kernel
theorem d_L_law_134 : decode b_L_law 134 = .ok (.invokevirtual 61, 3) := by decide +kernel
theorem d_L_law_137 : decode b_L_law 137 = .ok (.iload 5, 2) := by decide +kernel
theorem d_L_law_139 : decode b_L_law 139 = .ok (.if_icmp .eq 5, 3) := by decide +kernel
theorem d_L_law_142 : decode b_L_law 142 = .ok (.iconst 0, 1) := by decide +kernel
theorem d_L_law_143 : decode b_L_law 143 = .ok (.ireturn, 1) := by decide +kernel
theorem d_L_law_144 : decode b_L_law 144 = .ok (.iload 5, 2) := by decide +kernel
theorem d_L_law_146 : decode b_L_law 146 = .ok (.ifCond .ne 15, 3) := by decide +kernel
theorem d_L_law_149 : decode b_L_law 149 = .ok (.aload_n 3, 1) := by decide +kernel
theorem d_L_law_150 : decode b_L_law 150 = .ok (.iconst 0, 1) := by decide +kernel
theorem d_L_law_151 : decode b_L_law 151 = .ok (.laload, 1) := by decide +kernel
theorem d_L_law_152 : decode b_L_law 152 = .ok (.iload 6, 2) := by decide +kernel
theorem d_L_law_154 : decode b_L_law 154 = .ok (.i2l, 1) := by decide +kernel
theorem d_L_law_155 : decode b_L_law 155 = .ok (.lcmp, 1) := by decide +kernel
theorem d_L_law_156 : decode b_L_law 156 = .ok (.ifCond .eq 5, 3) := by decide +kernel
theorem d_L_law_159 : decode b_L_law 159 = .ok (.iconst 0, 1) := by decide +kernel
theorem d_L_law_160 : decode b_L_law 160 = .ok (.ireturn, 1) := by decide +kernel
theorem d_L_law_161 : decode b_L_law 161 = .ok (.goto 720, 3) := by decide +kernel
theorem d_L_law_164 : decode b_L_law 164 = .ok (.aload_n 1, 1) := by decide +kernel
theorem d_L_law_165 : decode b_L_law 165 = .ok (.aload_n 0, 1) := by decide +kernel
theorem d_L_law_166 : decode b_L_law 166 = .ok (.iload 4, 2) := by decide +kernel
theorem d_L_law_168 : decode b_L_law 168 = .ok (.iconst 1, 1) := by decide +kernel
theorem d_L_law_169 : decode b_L_law 169 = .ok (.iadd, 1) := by decide +kernel
theorem d_L_law_170 : decode b_L_law 170 = .ok (.iaload, 1) := by decide +kernel
theorem d_L_law_171 : decode b_L_law 171 = .ok (.aload_n 0, 1) := by decide +kernel
theorem d_L_law_172 : decode b_L_law 172 = .ok (.iload 4, 2) := by decide +kernel
theorem d_L_law_174 : decode b_L_law 174 = .ok (.iconst 2, 1) := by decide +kernel
theorem d_L_law_175 : decode b_L_law 175 = .ok (.iadd, 1) := by decide +kernel
theorem d_L_law_176 : decode b_L_law 176 = .ok (.iaload, 1) := by decide +kernel
theorem d_L_law_177 : decode b_L_law 177 = .ok (.aload_n 0, 1) := by decide +kernel
theorem d_L_law_178 : decode b_L_law 178 = .ok (.iload 4, 2) := by decide +kernel
theorem d_L_law_180 : decode b_L_law 180 = .ok (.iconst 3, 1) := by decide +kernel
theorem d_L_law_181 : decode b_L_law 181 = .ok (.iadd, 1) := by decide +kernel
theorem d_L_law_182 : decode b_L_law 182 = .ok (.iaload, 1) := by decide +kernel
theorem d_L_law_183 : decode b_L_law 183 = .ok (.aload_n 3, 1) := by decide +kernel
theorem d_L_law_184 : decode b_L_law 184 = .ok (.invokestatic 65, 3) := by decide +kernel
theorem d_L_law_187 : decode b_L_law 187 = .ok (.istore 5, 2) := by decide +kernel
theorem d_L_law_189 : decode b_L_law 189 = .ok (.aload_n 2, 1) := by decide +kernel
theorem d_L_law_190 : decode b_L_law 190 = .ok (.aload_n 0, 1) := by decide +kernel
theorem d_L_law_191 : decode b_L_law 191 = .ok (.iload 4, 2) := by decide +kernel
theorem d_L_law_193 : decode b_L_law 193 = .ok (.iconst 1, 1) := by decide +kernel
theorem d_L_law_194 : decode b_L_law 194 = .ok (.iadd, 1) := by decide +kernel
theorem d_L_law_195 : decode b_L_law 195 = .ok (.iaload, 1) := by decide +kernel
theorem d_L_law_196 : decode b_L_law 196 = .ok (.aload_n 0, 1) := by decide +kernel
theorem d_L_law_197 : decode b_L_law 197 = .ok (.iload 4, 2) := by decide +kernel
theorem d_L_law_199 : decode b_L_law 199 = .ok (.iconst 2, 1) := by decide +kernel
theorem d_L_law_200 : decode b_L_law 200 = .ok (.iadd, 1) := by decide +kernel
theorem d_L_law_201 : decode b_L_law 201 = .ok (.iaload, 1) := by decide +kernel
theorem d_L_law_202 : decode b_L_law 202 = .ok (.aload_n 0, 1) := by decide +kernel
theorem d_L_law_203 : decode b_L_law 203 = .ok (.iload 4, 2) := by decide +kernel
theorem d_L_law_205 : decode b_L_law 205 = .ok (.iconst 3, 1) := by decide +kernel
theorem d_L_law_206 : decode b_L_law 206 = .ok (.iadd, 1) := by decide +kernel
theorem d_L_law_207 : decode b_L_law 207 = .ok (.iaload, 1) := by decide +kernel
theorem d_L_law_208 : decode b_L_law 208 = .ok (.invokevirtual 68, 3) := by decide +kernel
theorem d_L_law_211 : decode b_L_law 211 = .ok (.istore 6, 2) := by decide +kernel
theorem d_L_law_213 : decode b_L_law 213 = .ok (.aload_n 2, 1) := by decide +kernel
theorem d_L_law_214 : decode b_L_law 214 = .ok (.invokevirtual 61, 3) := by decide +kernel
theorem d_L_law_217 : decode b_L_law 217 = .ok (.iload 5, 2) := by decide +kernel
theorem d_L_law_219 : decode b_L_law 219 = .ok (.if_icmp .eq 5, 3) := by decide +kernel
theorem d_L_law_222 : decode b_L_law 222 = .ok (.iconst 0, 1) := by decide +kernel
theorem d_L_law_223 : decode b_L_law 223 = .ok (.ireturn, 1) := by decide +kernel
theorem d_L_law_224 : decode b_L_law 224 = .ok (.iload 5, 2) := by decide +kernel
theorem d_L_law_226 : decode b_L_law 226 = .ok (.ifCond .ne 15, 3) := by decide +kernel
theorem d_L_law_229 : decode b_L_law 229 = .ok (.aload_n 3, 1) := by decide +kernel
theorem d_L_law_230 : decode b_L_law 230 = .ok (.iconst 0, 1) := by decide +kernel
theorem d_L_law_231 : decode b_L_law 231 = .ok (.laload, 1) := by decide +kernel
theorem d_L_law_232 : decode b_L_law 232 = .ok (.iload 6, 2) := by decide +kernel
theorem d_L_law_234 : decode b_L_law 234 = .ok (.i2l, 1) := by decide +kernel
theorem d_L_law_235 : decode b_L_law 235 = .ok (.lcmp, 1) := by decide +kernel
theorem d_L_law_236 : decode b_L_law 236 = .ok (.ifCond .eq 5, 3) := by decide +kernel
theorem d_L_law_239 : decode b_L_law 239 = .ok (.iconst 0, 1) := by decide +kernel
theorem d_L_law_240 : decode b_L_law 240 = .ok (.ireturn, 1) := by decide +kernel
theorem d_L_law_241 : decode b_L_law 241 = .ok (.goto 640, 3) := by decide +kernel
theorem d_L_law_244 : decode b_L_law 244 = .ok (.aload_n 1, 1) := by decide +kernel
theorem d_L_law_245 : decode b_L_law 245 = .ok (.aload_n 0, 1) := by decide +kernel
theorem d_L_law_246 : decode b_L_law 246 = .ok (.iload 4, 2) := by decide +kernel
theorem d_L_law_248 : decode b_L_law 248 = .ok (.iconst 1, 1) := by decide +kernel
theorem d_L_law_249 : decode b_L_law 249 = .ok (.iadd, 1) := by decide +kernel
theorem d_L_law_250 : decode b_L_law 250 = .ok (.iaload, 1) := by decide +kernel
theorem d_L_law_251 : decode b_L_law 251 = .ok (.aload_n 0, 1) := by decide +kernel
theorem d_L_law_252 : decode b_L_law 252 = .ok (.iload 4, 2) := by decide +kernel
theorem d_L_law_254 : decode b_L_law 254 = .ok (.iconst 2, 1) := by decide +kernel
theorem d_L_law_255 : decode b_L_law 255 = .ok (.iadd, 1) := by decide +kernel
theorem d_L_law_256 : decode b_L_law 256 = .ok (.iaload, 1) := by decide +kernel
theorem d_L_law_257 : decode b_L_law 257 = .ok (.aload_n 3, 1) := by decide +kernel
theorem d_L_law_258 : decode b_L_law 258 = .ok (.invokestatic 69, 3) := by decide +kernel
theorem d_L_law_261 : decode b_L_law 261 = .ok (.istore 5, 2) := by decide +kernel
theorem d_L_law_263 : decode b_L_law 263 = .ok (.aload_n 2, 1) := by decide +kernel
theorem d_L_law_264 : decode b_L_law 264 = .ok (.aload_n 0, 1) := by decide +kernel
theorem d_L_law_265 : decode b_L_law 265 = .ok (.iload 4, 2) := by decide +kernel
theorem d_L_law_267 : decode b_L_law 267 = .ok (.iconst 1, 1) := by decide +kernel
theorem d_L_law_268 : decode b_L_law 268 = .ok (.iadd, 1) := by decide +kernel
theorem d_L_law_269 : decode b_L_law 269 = .ok (.iaload, 1) := by decide +kernel
theorem d_L_law_270 : decode b_L_law 270 = .ok (.aload_n 0, 1) := by decide +kernel
theorem d_L_law_271 : decode b_L_law 271 = .ok (.iload 4, 2) := by decide +kernel
theorem d_L_law_273 : decode b_L_law 273 = .ok (.iconst 2, 1) := by decide +kernel
theorem d_L_law_274 : decode b_L_law 274 = .ok (.iadd, 1) := by decide +kernel
theorem d_L_law_275 : decode b_L_law 275 = .ok (.iaload, 1) := by decide +kernel
theorem d_L_law_276 : decode b_L_law 276 = .ok (.invokevirtual 71, 3) := by decide +kernel
theorem d_L_law_279 : decode b_L_law 279 = .ok (.istore 6, 2) := by decide +kernel
theorem d_L_law_281 : decode b_L_law 281 = .ok (.aload_n 2, 1) := by decide +kernel
theorem d_L_law_282 : decode b_L_law 282 = .ok (.invokevirtual 61, 3) := by decide +kernel
theorem d_L_law_285 : decode b_L_law 285 = .ok (.iload 5, 2) := by decide +kernel
theorem d_L_law_287 : decode b_L_law 287 = .ok (.if_icmp .eq 5, 3) := by decide +kernel
theorem d_L_law_290 : decode b_L_law 290 = .ok (.iconst 0, 1) := by decide +kernel
theorem d_L_law_291 : decode b_L_law 291 = .ok (.ireturn, 1) := by decide +kernel
theorem d_L_law_292 : decode b_L_law 292 = .ok (.iload 5, 2) := by decide +kernel
theorem d_L_law_294 : decode b_L_law 294 = .ok (.ifCond .ne 15, 3) := by decide +kernel
theorem d_L_law_297 : decode b_L_law 297 = .ok (.aload_n 3, 1) := by decide +kernel
theorem d_L_law_298 : decode b_L_law 298 = .ok (.iconst 0, 1) := by decide +kernel
theorem d_L_law_299 : decode b_L_law 299 = .ok (.laload, 1) := by decide +kernel
theorem d_L_law_300 : decode b_L_law 300 = .ok (.iload 6, 2) := by decide +kernel
theorem d_L_law_302 : decode b_L_law 302 = .ok (.i2l, 1) := by decide +kernel
theorem d_L_law_303 : decode b_L_law 303 = .ok (.lcmp, 1) := by decide +kernel
theorem d_L_law_304 : decode b_L_law 304 = .ok (.ifCond .eq 5, 3) := by decide +kernel
theorem d_L_law_307 : decode b_L_law 307 = .ok (.iconst 0, 1) := by decide +kernel
theorem d_L_law_308 : decode b_L_law 308 = .ok (.ireturn, 1) := by decide +kernel
theorem d_L_law_309 : decode b_L_law 309 = .ok (.goto 572, 3) := by decide +kernel
theorem d_L_law_312 : decode b_L_law 312 = .ok (.aload_n 1, 1) := by decide +kernel
theorem d_L_law_313 : decode b_L_law 313 = .ok (.aload_n 0, 1) := by decide +kernel
theorem d_L_law_314 : decode b_L_law 314 = .ok (.iload 4, 2) := by decide +kernel
theorem d_L_law_316 : decode b_L_law 316 = .ok (.iconst 1, 1) := by decide +kernel
theorem d_L_law_317 : decode b_L_law 317 = .ok (.iadd, 1) := by decide +kernel
theorem d_L_law_318 : decode b_L_law 318 = .ok (.iaload, 1) := by decide +kernel
theorem d_L_law_319 : decode b_L_law 319 = .ok (.aload_n 0, 1) := by decide +kernel
theorem d_L_law_320 : decode b_L_law 320 = .ok (.iload 4, 2) := by decide +kernel
theorem d_L_law_322 : decode b_L_law 322 = .ok (.iconst 2, 1) := by decide +kernel
theorem d_L_law_323 : decode b_L_law 323 = .ok (.iadd, 1) := by decide +kernel
theorem d_L_law_324 : decode b_L_law 324 = .ok (.iaload, 1) := by decide +kernel
theorem d_L_law_325 : decode b_L_law 325 = .ok (.aload_n 3, 1) := by decide +kernel
theorem d_L_law_326 : decode b_L_law 326 = .ok (.invokestatic 72, 3) := by decide +kernel
theorem d_L_law_329 : decode b_L_law 329 = .ok (.istore 5, 2) := by decide +kernel
theorem d_L_law_331 : decode b_L_law 331 = .ok (.aload_n 2, 1) := by decide +kernel
theorem d_L_law_332 : decode b_L_law 332 = .ok (.aload_n 0, 1) := by decide +kernel
theorem d_L_law_333 : decode b_L_law 333 = .ok (.iload 4, 2) := by decide +kernel
theorem d_L_law_335 : decode b_L_law 335 = .ok (.iconst 1, 1) := by decide +kernel
theorem d_L_law_336 : decode b_L_law 336 = .ok (.iadd, 1) := by decide +kernel
theorem d_L_law_337 : decode b_L_law 337 = .ok (.iaload, 1) := by decide +kernel
theorem d_L_law_338 : decode b_L_law 338 = .ok (.aload_n 0, 1) := by decide +kernel
theorem d_L_law_339 : decode b_L_law 339 = .ok (.iload 4, 2) := by decide +kernel
theorem d_L_law_341 : decode b_L_law 341 = .ok (.iconst 2, 1) := by decide +kernel
theorem d_L_law_342 : decode b_L_law 342 = .ok (.iadd, 1) := by decide +kernel
theorem d_L_law_343 : decode b_L_law 343 = .ok (.iaload, 1) := by decide +kernel
theorem d_L_law_344 : decode b_L_law 344 = .ok (.invokevirtual 74, 3) := by decide +kernel
theorem d_L_law_347 : decode b_L_law 347 = .ok (.istore 6, 2) := by decide +kernel
theorem d_L_law_349 : decode b_L_law 349 = .ok (.aload_n 2, 1) := by decide +kernel
theorem d_L_law_350 : decode b_L_law 350 = .ok (.invokevirtual 61, 3) := by decide +kernel
theorem d_L_law_353 : decode b_L_law 353 = .ok (.iload 5, 2) := by decide +kernel
theorem d_L_law_355 : decode b_L_law 355 = .ok (.if_icmp .eq 5, 3) := by decide +kernel
theorem d_L_law_358 : decode b_L_law 358 = .ok (.iconst 0, 1) := by decide +kernel
theorem d_L_law_359 : decode b_L_law 359 = .ok (.ireturn, 1) := by decide +kernel
theorem d_L_law_360 : decode b_L_law 360 = .ok (.iload 5, 2) := by decide +kernel
theorem d_L_law_362 : decode b_L_law 362 = .ok (.ifCond .ne 15, 3) := by decide +kernel
theorem d_L_law_365 : decode b_L_law 365 = .ok (.aload_n 3, 1) := by decide +kernel
theorem d_L_law_366 : decode b_L_law 366 = .ok (.iconst 0, 1) := by decide +kernel
theorem d_L_law_367 : decode b_L_law 367 = .ok (.laload, 1) := by decide +kernel
theorem d_L_law_368 : decode b_L_law 368 = .ok (.iload 6, 2) := by decide +kernel
theorem d_L_law_370 : decode b_L_law 370 = .ok (.i2l, 1) := by decide +kernel
theorem d_L_law_371 : decode b_L_law 371 = .ok (.lcmp, 1) := by decide +kernel
theorem d_L_law_372 : decode b_L_law 372 = .ok (.ifCond .eq 5, 3) := by decide +kernel
theorem d_L_law_375 : decode b_L_law 375 = .ok (.iconst 0, 1) := by decide +kernel
theorem d_L_law_376 : decode b_L_law 376 = .ok (.ireturn, 1) := by decide +kernel
theorem d_L_law_377 : decode b_L_law 377 = .ok (.goto 504, 3) := by decide +kernel
theorem d_L_law_380 : decode b_L_law 380 = .ok (.aload_n 1, 1) := by decide +kernel
theorem d_L_law_381 : decode b_L_law 381 = .ok (.aload_n 0, 1) := by decide +kernel
theorem d_L_law_382 : decode b_L_law 382 = .ok (.iload 4, 2) := by decide +kernel
theorem d_L_law_384 : decode b_L_law 384 = .ok (.iconst 1, 1) := by decide +kernel
theorem d_L_law_385 : decode b_L_law 385 = .ok (.iadd, 1) := by decide +kernel
theorem d_L_law_386 : decode b_L_law 386 = .ok (.iaload, 1) := by decide +kernel
theorem d_L_law_387 : decode b_L_law 387 = .ok (.aload_n 0, 1) := by decide +kernel
theorem d_L_law_388 : decode b_L_law 388 = .ok (.iload 4, 2) := by decide +kernel
theorem d_L_law_390 : decode b_L_law 390 = .ok (.iconst 2, 1) := by decide +kernel
theorem d_L_law_391 : decode b_L_law 391 = .ok (.iadd, 1) := by decide +kernel
theorem d_L_law_392 : decode b_L_law 392 = .ok (.iaload, 1) := by decide +kernel
theorem d_L_law_393 : decode b_L_law 393 = .ok (.aload_n 3, 1) := by decide +kernel
theorem d_L_law_394 : decode b_L_law 394 = .ok (.invokestatic 75, 3) := by decide +kernel
theorem d_L_law_397 : decode b_L_law 397 = .ok (.istore 5, 2) := by decide +kernel
theorem d_L_law_399 : decode b_L_law 399 = .ok (.aload_n 2, 1) := by decide +kernel
theorem d_L_law_400 : decode b_L_law 400 = .ok (.aload_n 0, 1) := by decide +kernel
theorem d_L_law_401 : decode b_L_law 401 = .ok (.iload 4, 2) := by decide +kernel
theorem d_L_law_403 : decode b_L_law 403 = .ok (.iconst 1, 1) := by decide +kernel
theorem d_L_law_404 : decode b_L_law 404 = .ok (.iadd, 1) := by decide +kernel
theorem d_L_law_405 : decode b_L_law 405 = .ok (.iaload, 1) := by decide +kernel
theorem d_L_law_406 : decode b_L_law 406 = .ok (.aload_n 0, 1) := by decide +kernel
theorem d_L_law_407 : decode b_L_law 407 = .ok (.iload 4, 2) := by decide +kernel
theorem d_L_law_409 : decode b_L_law 409 = .ok (.iconst 2, 1) := by decide +kernel
theorem d_L_law_410 : decode b_L_law 410 = .ok (.iadd, 1) := by decide +kernel
theorem d_L_law_411 : decode b_L_law 411 = .ok (.iaload, 1) := by decide +kernel
theorem d_L_law_412 : decode b_L_law 412 = .ok (.invokevirtual 77, 3) := by decide +kernel
theorem d_L_law_415 : decode b_L_law 415 = .ok (.istore 6, 2) := by decide +kernel
theorem d_L_law_417 : decode b_L_law 417 = .ok (.aload_n 2, 1) := by decide +kernel
theorem d_L_law_418 : decode b_L_law 418 = .ok (.invokevirtual 61, 3) := by decide +kernel
theorem d_L_law_421 : decode b_L_law 421 = .ok (.iload 5, 2) := by decide +kernel
theorem d_L_law_423 : decode b_L_law 423 = .ok (.if_icmp .eq 5, 3) := by decide +kernel
theorem d_L_law_426 : decode b_L_law 426 = .ok (.iconst 0, 1) := by decide +kernel
theorem d_L_law_427 : decode b_L_law 427 = .ok (.ireturn, 1) := by decide +kernel
theorem d_L_law_428 : decode b_L_law 428 = .ok (.iload 5, 2) := by decide +kernel
theorem d_L_law_430 : decode b_L_law 430 = .ok (.ifCond .ne 15, 3) := by decide +kernel
theorem d_L_law_433 : decode b_L_law 433 = .ok (.aload_n 3, 1) := by decide +kernel
theorem d_L_law_434 : decode b_L_law 434 = .ok (.iconst 0, 1) := by decide +kernel
theorem d_L_law_435 : decode b_L_law 435 = .ok (.laload, 1) := by decide +kernel
theorem d_L_law_436 : decode b_L_law 436 = .ok (.iload 6, 2) := by decide +kernel
theorem d_L_law_438 : decode b_L_law 438 = .ok (.i2l, 1) := by decide +kernel
theorem d_L_law_439 : decode b_L_law 439 = .ok (.lcmp, 1) := by decide +kernel
theorem d_L_law_440 : decode b_L_law 440 = .ok (.ifCond .eq 5, 3) := by decide +kernel
theorem d_L_law_443 : decode b_L_law 443 = .ok (.iconst 0, 1) := by decide +kernel
theorem d_L_law_444 : decode b_L_law 444 = .ok (.ireturn, 1) := by decide +kernel
theorem d_L_law_445 : decode b_L_law 445 = .ok (.goto 436, 3) := by decide +kernel
theorem d_L_law_448 : decode b_L_law 448 = .ok (.aload_n 1, 1) := by decide +kernel
theorem d_L_law_449 : decode b_L_law 449 = .ok (.aload_n 0, 1) := by decide +kernel
theorem d_L_law_450 : decode b_L_law 450 = .ok (.iload 4, 2) := by decide +kernel
theorem d_L_law_452 : decode b_L_law 452 = .ok (.iconst 1, 1) := by decide +kernel
theorem d_L_law_453 : decode b_L_law 453 = .ok (.iadd, 1) := by decide +kernel
theorem d_L_law_454 : decode b_L_law 454 = .ok (.iaload, 1) := by decide +kernel
theorem d_L_law_455 : decode b_L_law 455 = .ok (.aload_n 0, 1) := by decide +kernel
theorem d_L_law_456 : decode b_L_law 456 = .ok (.iload 4, 2) := by decide +kernel
theorem d_L_law_458 : decode b_L_law 458 = .ok (.iconst 2, 1) := by decide +kernel
theorem d_L_law_459 : decode b_L_law 459 = .ok (.iadd, 1) := by decide +kernel
theorem d_L_law_460 : decode b_L_law 460 = .ok (.iaload, 1) := by decide +kernel
theorem d_L_law_461 : decode b_L_law 461 = .ok (.aload_n 3, 1) := by decide +kernel
theorem d_L_law_462 : decode b_L_law 462 = .ok (.invokestatic 78, 3) := by decide +kernel
theorem d_L_law_465 : decode b_L_law 465 = .ok (.istore 5, 2) := by decide +kernel
theorem d_L_law_467 : decode b_L_law 467 = .ok (.aload_n 2, 1) := by decide +kernel
theorem d_L_law_468 : decode b_L_law 468 = .ok (.aload_n 0, 1) := by decide +kernel
theorem d_L_law_469 : decode b_L_law 469 = .ok (.iload 4, 2) := by decide +kernel
theorem d_L_law_471 : decode b_L_law 471 = .ok (.iconst 1, 1) := by decide +kernel
theorem d_L_law_472 : decode b_L_law 472 = .ok (.iadd, 1) := by decide +kernel
theorem d_L_law_473 : decode b_L_law 473 = .ok (.iaload, 1) := by decide +kernel
theorem d_L_law_474 : decode b_L_law 474 = .ok (.aload_n 0, 1) := by decide +kernel
theorem d_L_law_475 : decode b_L_law 475 = .ok (.iload 4, 2) := by decide +kernel
theorem d_L_law_477 : decode b_L_law 477 = .ok (.iconst 2, 1) := by decide +kernel
theorem d_L_law_478 : decode b_L_law 478 = .ok (.iadd, 1) := by decide +kernel
theorem d_L_law_479 : decode b_L_law 479 = .ok (.iaload, 1) := by decide +kernel
theorem d_L_law_480 : decode b_L_law 480 = .ok (.invokevirtual 80, 3) := by decide +kernel
theorem d_L_law_483 : decode b_L_law 483 = .ok (.istore 6, 2) := by decide +kernel
theorem d_L_law_485 : decode b_L_law 485 = .ok (.aload_n 2, 1) := by decide +kernel
theorem d_L_law_486 : decode b_L_law 486 = .ok (.invokevirtual 61, 3) := by decide +kernel
theorem d_L_law_489 : decode b_L_law 489 = .ok (.iload 5, 2) := by decide +kernel
theorem d_L_law_491 : decode b_L_law 491 = .ok (.if_icmp .eq 5, 3) := by decide +kernel
theorem d_L_law_494 : decode b_L_law 494 = .ok (.iconst 0, 1) := by decide +kernel
theorem d_L_law_495 : decode b_L_law 495 = .ok (.ireturn, 1) := by decide +kernel
theorem d_L_law_496 : decode b_L_law 496 = .ok (.iload 5, 2) := by decide +kernel
theorem d_L_law_498 : decode b_L_law 498 = .ok (.ifCond .ne 15, 3) := by decide +kernel
theorem d_L_law_501 : decode b_L_law 501 = .ok (.aload_n 3, 1) := by decide +kernel
theorem d_L_law_502 : decode b_L_law 502 = .ok (.iconst 0, 1) := by decide +kernel
theorem d_L_law_503 : decode b_L_law 503 = .ok (.laload, 1) := by decide +kernel
theorem d_L_law_504 : decode b_L_law 504 = .ok (.iload 6, 2) := by decide +kernel
theorem d_L_law_506 : decode b_L_law 506 = .ok (.i2l, 1) := by decide +kernel
theorem d_L_law_507 : decode b_L_law 507 = .ok (.lcmp, 1) := by decide +kernel
theorem d_L_law_508 : decode b_L_law 508 = .ok (.ifCond .eq 5, 3) := by decide +kernel
theorem d_L_law_511 : decode b_L_law 511 = .ok (.iconst 0, 1) := by decide +kernel
theorem d_L_law_512 : decode b_L_law 512 = .ok (.ireturn, 1) := by decide +kernel
theorem d_L_law_513 : decode b_L_law 513 = .ok (.goto 368, 3) := by decide +kernel
theorem d_L_law_516 : decode b_L_law 516 = .ok (.aload_n 1, 1) := by decide +kernel
theorem d_L_law_517 : decode b_L_law 517 = .ok (.aload_n 0, 1) := by decide +kernel
theorem d_L_law_518 : decode b_L_law 518 = .ok (.iload 4, 2) := by decide +kernel
theorem d_L_law_520 : decode b_L_law 520 = .ok (.iconst 1, 1) := by decide +kernel
theorem d_L_law_521 : decode b_L_law 521 = .ok (.iadd, 1) := by decide +kernel
theorem d_L_law_522 : decode b_L_law 522 = .ok (.iaload, 1) := by decide +kernel
theorem d_L_law_523 : decode b_L_law 523 = .ok (.aload_n 0, 1) := by decide +kernel
theorem d_L_law_524 : decode b_L_law 524 = .ok (.iload 4, 2) := by decide +kernel
theorem d_L_law_526 : decode b_L_law 526 = .ok (.iconst 2, 1) := by decide +kernel
theorem d_L_law_527 : decode b_L_law 527 = .ok (.iadd, 1) := by decide +kernel
theorem d_L_law_528 : decode b_L_law 528 = .ok (.iaload, 1) := by decide +kernel
theorem d_L_law_529 : decode b_L_law 529 = .ok (.aload_n 3, 1) := by decide +kernel
theorem d_L_law_530 : decode b_L_law 530 = .ok (.invokestatic 81, 3) := by decide +kernel
theorem d_L_law_533 : decode b_L_law 533 = .ok (.istore 5, 2) := by decide +kernel
theorem d_L_law_535 : decode b_L_law 535 = .ok (.aload_n 2, 1) := by decide +kernel
theorem d_L_law_536 : decode b_L_law 536 = .ok (.aload_n 0, 1) := by decide +kernel
theorem d_L_law_537 : decode b_L_law 537 = .ok (.iload 4, 2) := by decide +kernel
theorem d_L_law_539 : decode b_L_law 539 = .ok (.iconst 1, 1) := by decide +kernel
theorem d_L_law_540 : decode b_L_law 540 = .ok (.iadd, 1) := by decide +kernel
theorem d_L_law_541 : decode b_L_law 541 = .ok (.iaload, 1) := by decide +kernel
theorem d_L_law_542 : decode b_L_law 542 = .ok (.aload_n 0, 1) := by decide +kernel
theorem d_L_law_543 : decode b_L_law 543 = .ok (.iload 4, 2) := by decide +kernel
theorem d_L_law_545 : decode b_L_law 545 = .ok (.iconst 2, 1) := by decide +kernel
theorem d_L_law_546 : decode b_L_law 546 = .ok (.iadd, 1) := by decide +kernel
theorem d_L_law_547 : decode b_L_law 547 = .ok (.iaload, 1) := by decide +kernel
theorem d_L_law_548 : decode b_L_law 548 = .ok (.invokevirtual 83, 3) := by decide +kernel
theorem d_L_law_551 : decode b_L_law 551 = .ok (.istore 6, 2) := by decide +kernel
theorem d_L_law_553 : decode b_L_law 553 = .ok (.aload_n 2, 1) := by decide +kernel
theorem d_L_law_554 : decode b_L_law 554 = .ok (.invokevirtual 61, 3) := by decide +kernel
theorem d_L_law_557 : decode b_L_law 557 = .ok (.iload 5, 2) := by decide +kernel
theorem d_L_law_559 : decode b_L_law 559 = .ok (.if_icmp .eq 5, 3) := by decide +kernel
theorem d_L_law_562 : decode b_L_law 562 = .ok (.iconst 0, 1) := by decide +kernel
theorem d_L_law_563 : decode b_L_law 563 = .ok (.ireturn, 1) := by decide +kernel
theorem d_L_law_564 : decode b_L_law 564 = .ok (.iload 5, 2) := by decide +kernel
theorem d_L_law_566 : decode b_L_law 566 = .ok (.ifCond .ne 15, 3) := by decide +kernel
theorem d_L_law_569 : decode b_L_law 569 = .ok (.aload_n 3, 1) := by decide +kernel
theorem d_L_law_570 : decode b_L_law 570 = .ok (.iconst 0, 1) := by decide +kernel
theorem d_L_law_571 : decode b_L_law 571 = .ok (.laload, 1) := by decide +kernel
theorem d_L_law_572 : decode b_L_law 572 = .ok (.iload 6, 2) := by decide +kernel
theorem d_L_law_574 : decode b_L_law 574 = .ok (.i2l, 1) := by decide +kernel
theorem d_L_law_575 : decode b_L_law 575 = .ok (.lcmp, 1) := by decide +kernel
theorem d_L_law_576 : decode b_L_law 576 = .ok (.ifCond .eq 5, 3) := by decide +kernel
theorem d_L_law_579 : decode b_L_law 579 = .ok (.iconst 0, 1) := by decide +kernel
theorem d_L_law_580 : decode b_L_law 580 = .ok (.ireturn, 1) := by decide +kernel
theorem d_L_law_581 : decode b_L_law 581 = .ok (.goto 300, 3) := by decide +kernel
theorem d_L_law_584 : decode b_L_law 584 = .ok (.aload_n 1, 1) := by decide +kernel
theorem d_L_law_585 : decode b_L_law 585 = .ok (.aload_n 0, 1) := by decide +kernel
theorem d_L_law_586 : decode b_L_law 586 = .ok (.iload 4, 2) := by decide +kernel
theorem d_L_law_588 : decode b_L_law 588 = .ok (.iconst 1, 1) := by decide +kernel
theorem d_L_law_589 : decode b_L_law 589 = .ok (.iadd, 1) := by decide +kernel
theorem d_L_law_590 : decode b_L_law 590 = .ok (.iaload, 1) := by decide +kernel
theorem d_L_law_591 : decode b_L_law 591 = .ok (.aload_n 0, 1) := by decide +kernel
theorem d_L_law_592 : decode b_L_law 592 = .ok (.iload 4, 2) := by decide +kernel
theorem d_L_law_594 : decode b_L_law 594 = .ok (.iconst 2, 1) := by decide +kernel
theorem d_L_law_595 : decode b_L_law 595 = .ok (.iadd, 1) := by decide +kernel
theorem d_L_law_596 : decode b_L_law 596 = .ok (.iaload, 1) := by decide +kernel
theorem d_L_law_597 : decode b_L_law 597 = .ok (.aload_n 0, 1) := by decide +kernel
theorem d_L_law_598 : decode b_L_law 598 = .ok (.iload 4, 2) := by decide +kernel
theorem d_L_law_600 : decode b_L_law 600 = .ok (.iconst 3, 1) := by decide +kernel
theorem d_L_law_601 : decode b_L_law 601 = .ok (.iadd, 1) := by decide +kernel
theorem d_L_law_602 : decode b_L_law 602 = .ok (.iaload, 1) := by decide +kernel
theorem d_L_law_603 : decode b_L_law 603 = .ok (.ifCond .eq 7, 3) := by decide +kernel
theorem d_L_law_606 : decode b_L_law 606 = .ok (.iconst 1, 1) := by decide +kernel
theorem d_L_law_607 : decode b_L_law 607 = .ok (.goto 4, 3) := by decide +kernel
theorem d_L_law_610 : decode b_L_law 610 = .ok (.iconst 0, 1) := by decide +kernel
theorem d_L_law_611 : decode b_L_law 611 = .ok (.aload_n 3, 1) := by decide +kernel
theorem d_L_law_612 : decode b_L_law 612 = .ok (.invokestatic 84, 3) := by decide +kernel
theorem d_L_law_615 : decode b_L_law 615 = .ok (.istore 5, 2) := by decide +kernel
theorem d_L_law_617 : decode b_L_law 617 = .ok (.aload_n 2, 1) := by decide +kernel
theorem d_L_law_618 : decode b_L_law 618 = .ok (.aload_n 0, 1) := by decide +kernel
theorem d_L_law_619 : decode b_L_law 619 = .ok (.iload 4, 2) := by decide +kernel
theorem d_L_law_621 : decode b_L_law 621 = .ok (.iconst 1, 1) := by decide +kernel
theorem d_L_law_622 : decode b_L_law 622 = .ok (.iadd, 1) := by decide +kernel
theorem d_L_law_623 : decode b_L_law 623 = .ok (.iaload, 1) := by decide +kernel
theorem d_L_law_624 : decode b_L_law 624 = .ok (.aload_n 0, 1) := by decide +kernel
theorem d_L_law_625 : decode b_L_law 625 = .ok (.iload 4, 2) := by decide +kernel
theorem d_L_law_627 : decode b_L_law 627 = .ok (.iconst 2, 1) := by decide +kernel
theorem d_L_law_628 : decode b_L_law 628 = .ok (.iadd, 1) := by decide +kernel
theorem d_L_law_629 : decode b_L_law 629 = .ok (.iaload, 1) := by decide +kernel
theorem d_L_law_630 : decode b_L_law 630 = .ok (.aload_n 0, 1) := by decide +kernel
theorem d_L_law_631 : decode b_L_law 631 = .ok (.iload 4, 2) := by decide +kernel
theorem d_L_law_633 : decode b_L_law 633 = .ok (.iconst 3, 1) := by decide +kernel
theorem d_L_law_634 : decode b_L_law 634 = .ok (.iadd, 1) := by decide +kernel
theorem d_L_law_635 : decode b_L_law 635 = .ok (.iaload, 1) := by decide +kernel
theorem d_L_law_636 : decode b_L_law 636 = .ok (.ifCond .eq 7, 3) := by decide +kernel
theorem d_L_law_639 : decode b_L_law 639 = .ok (.iconst 1, 1) := by decide +kernel
theorem d_L_law_640 : decode b_L_law 640 = .ok (.goto 4, 3) := by decide +kernel
theorem d_L_law_643 : decode b_L_law 643 = .ok (.iconst 0, 1) := by decide +kernel
theorem d_L_law_644 : decode b_L_law 644 = .ok (.invokevirtual 87, 3) := by decide +kernel
theorem d_L_law_647 : decode b_L_law 647 = .ok (.istore 6, 2) := by decide +kernel
theorem d_L_law_649 : decode b_L_law 649 = .ok (.aload_n 2, 1) := by decide +kernel
theorem d_L_law_650 : decode b_L_law 650 = .ok (.invokevirtual 61, 3) := by decide +kernel
theorem d_L_law_653 : decode b_L_law 653 = .ok (.iload 5, 2) := by decide +kernel
theorem d_L_law_655 : decode b_L_law 655 = .ok (.if_icmp .eq 5, 3) := by decide +kernel
theorem d_L_law_658 : decode b_L_law 658 = .ok (.iconst 0, 1) := by decide +kernel
theorem d_L_law_659 : decode b_L_law 659 = .ok (.ireturn, 1) := by decide +kernel
theorem d_L_law_660 : decode b_L_law 660 = .ok (.iload 5, 2) := by decide +kernel
theorem d_L_law_662 : decode b_L_law 662 = .ok (.ifCond .ne 15, 3) := by decide +kernel
theorem d_L_law_665 : decode b_L_law 665 = .ok (.aload_n 3, 1) := by decide +kernel
theorem d_L_law_666 : decode b_L_law 666 = .ok (.iconst 0, 1) := by decide +kernel
theorem d_L_law_667 : decode b_L_law 667 = .ok (.laload, 1) := by decide +kernel
theorem d_L_law_668 : decode b_L_law 668 = .ok (.iload 6, 2) := by decide +kernel
theorem d_L_law_670 : decode b_L_law 670 = .ok (.i2l, 1) := by decide +kernel
theorem d_L_law_671 : decode b_L_law 671 = .ok (.lcmp, 1) := by decide +kernel
theorem d_L_law_672 : decode b_L_law 672 = .ok (.ifCond .eq 5, 3) := by decide +kernel
theorem d_L_law_675 : decode b_L_law 675 = .ok (.iconst 0, 1) := by decide +kernel
theorem d_L_law_676 : decode b_L_law 676 = .ok (.ireturn, 1) := by decide +kernel
theorem d_L_law_677 : decode b_L_law 677 = .ok (.goto 204, 3) := by decide +kernel
theorem d_L_law_680 : decode b_L_law 680 = .ok (.aload_n 1, 1) := by decide +kernel
theorem d_L_law_681 : decode b_L_law 681 = .ok (.aload_n 0, 1) := by decide +kernel
theorem d_L_law_682 : decode b_L_law 682 = .ok (.iload 4, 2) := by decide +kernel
theorem d_L_law_684 : decode b_L_law 684 = .ok (.iconst 1, 1) := by decide +kernel
theorem d_L_law_685 : decode b_L_law 685 = .ok (.iadd, 1) := by decide +kernel
theorem d_L_law_686 : decode b_L_law 686 = .ok (.iaload, 1) := by decide +kernel
theorem d_L_law_687 : decode b_L_law 687 = .ok (.aload_n 0, 1) := by decide +kernel
theorem d_L_law_688 : decode b_L_law 688 = .ok (.iload 4, 2) := by decide +kernel
theorem d_L_law_690 : decode b_L_law 690 = .ok (.iconst 2, 1) := by decide +kernel
theorem d_L_law_691 : decode b_L_law 691 = .ok (.iadd, 1) := by decide +kernel
theorem d_L_law_692 : decode b_L_law 692 = .ok (.iaload, 1) := by decide +kernel
theorem d_L_law_693 : decode b_L_law 693 = .ok (.aload_n 0, 1) := by decide +kernel
theorem d_L_law_694 : decode b_L_law 694 = .ok (.iload 4, 2) := by decide +kernel
theorem d_L_law_696 : decode b_L_law 696 = .ok (.iconst 3, 1) := by decide +kernel
theorem d_L_law_697 : decode b_L_law 697 = .ok (.iadd, 1) := by decide +kernel
theorem d_L_law_698 : decode b_L_law 698 = .ok (.iaload, 1) := by decide +kernel
theorem d_L_law_699 : decode b_L_law 699 = .ok (.aload_n 0, 1) := by decide +kernel
theorem d_L_law_700 : decode b_L_law 700 = .ok (.iload 4, 2) := by decide +kernel
theorem d_L_law_702 : decode b_L_law 702 = .ok (.iconst 4, 1) := by decide +kernel
theorem d_L_law_703 : decode b_L_law 703 = .ok (.iadd, 1) := by decide +kernel
theorem d_L_law_704 : decode b_L_law 704 = .ok (.iaload, 1) := by decide +kernel
theorem d_L_law_705 : decode b_L_law 705 = .ok (.ifCond .eq 7, 3) := by decide +kernel
theorem d_L_law_708 : decode b_L_law 708 = .ok (.iconst 1, 1) := by decide +kernel
theorem d_L_law_709 : decode b_L_law 709 = .ok (.goto 4, 3) := by decide +kernel
theorem d_L_law_712 : decode b_L_law 712 = .ok (.iconst 0, 1) := by decide +kernel
theorem d_L_law_713 : decode b_L_law 713 = .ok (.aload_n 3, 1) := by decide +kernel
theorem d_L_law_714 : decode b_L_law 714 = .ok (.invokestatic 88, 3) := by decide +kernel
theorem d_L_law_717 : decode b_L_law 717 = .ok (.istore 5, 2) := by decide +kernel
theorem d_L_law_719 : decode b_L_law 719 = .ok (.aload_n 2, 1) := by decide +kernel
theorem d_L_law_720 : decode b_L_law 720 = .ok (.aload_n 0, 1) := by decide +kernel
theorem d_L_law_721 : decode b_L_law 721 = .ok (.iload 4, 2) := by decide +kernel
theorem d_L_law_723 : decode b_L_law 723 = .ok (.iconst 1, 1) := by decide +kernel
theorem d_L_law_724 : decode b_L_law 724 = .ok (.iadd, 1) := by decide +kernel
theorem d_L_law_725 : decode b_L_law 725 = .ok (.iaload, 1) := by decide +kernel
theorem d_L_law_726 : decode b_L_law 726 = .ok (.aload_n 0, 1) := by decide +kernel
theorem d_L_law_727 : decode b_L_law 727 = .ok (.iload 4, 2) := by decide +kernel
theorem d_L_law_729 : decode b_L_law 729 = .ok (.iconst 2, 1) := by decide +kernel
theorem d_L_law_730 : decode b_L_law 730 = .ok (.iadd, 1) := by decide +kernel
theorem d_L_law_731 : decode b_L_law 731 = .ok (.iaload, 1) := by decide +kernel
theorem d_L_law_732 : decode b_L_law 732 = .ok (.aload_n 0, 1) := by decide +kernel
theorem d_L_law_733 : decode b_L_law 733 = .ok (.iload 4, 2) := by decide +kernel
theorem d_L_law_735 : decode b_L_law 735 = .ok (.iconst 3, 1) := by decide +kernel
theorem d_L_law_736 : decode b_L_law 736 = .ok (.iadd, 1) := by decide +kernel
theorem d_L_law_737 : decode b_L_law 737 = .ok (.iaload, 1) := by decide +kernel
theorem d_L_law_738 : decode b_L_law 738 = .ok (.aload_n 0, 1) := by decide +kernel
theorem d_L_law_739 : decode b_L_law 739 = .ok (.iload 4, 2) := by decide +kernel
theorem d_L_law_741 : decode b_L_law 741 = .ok (.iconst 4, 1) := by decide +kernel
theorem d_L_law_742 : decode b_L_law 742 = .ok (.iadd, 1) := by decide +kernel
theorem d_L_law_743 : decode b_L_law 743 = .ok (.iaload, 1) := by decide +kernel
theorem d_L_law_744 : decode b_L_law 744 = .ok (.ifCond .eq 7, 3) := by decide +kernel
theorem d_L_law_747 : decode b_L_law 747 = .ok (.iconst 1, 1) := by decide +kernel
theorem d_L_law_748 : decode b_L_law 748 = .ok (.goto 4, 3) := by decide +kernel
theorem d_L_law_751 : decode b_L_law 751 = .ok (.iconst 0, 1) := by decide +kernel
theorem d_L_law_752 : decode b_L_law 752 = .ok (.invokevirtual 91, 3) := by decide +kernel
theorem d_L_law_755 : decode b_L_law 755 = .ok (.istore 6, 2) := by decide +kernel
theorem d_L_law_757 : decode b_L_law 757 = .ok (.aload_n 2, 1) := by decide +kernel
theorem d_L_law_758 : decode b_L_law 758 = .ok (.invokevirtual 61, 3) := by decide +kernel
theorem d_L_law_761 : decode b_L_law 761 = .ok (.iload 5, 2) := by decide +kernel
theorem d_L_law_763 : decode b_L_law 763 = .ok (.if_icmp .eq 5, 3) := by decide +kernel
theorem d_L_law_766 : decode b_L_law 766 = .ok (.iconst 0, 1) := by decide +kernel
theorem d_L_law_767 : decode b_L_law 767 = .ok (.ireturn, 1) := by decide +kernel
theorem d_L_law_768 : decode b_L_law 768 = .ok (.iload 5, 2) := by decide +kernel
theorem d_L_law_770 : decode b_L_law 770 = .ok (.ifCond .ne 15, 3) := by decide +kernel
theorem d_L_law_773 : decode b_L_law 773 = .ok (.aload_n 3, 1) := by decide +kernel
theorem d_L_law_774 : decode b_L_law 774 = .ok (.iconst 0, 1) := by decide +kernel
theorem d_L_law_775 : decode b_L_law 775 = .ok (.laload, 1) := by decide +kernel
theorem d_L_law_776 : decode b_L_law 776 = .ok (.iload 6, 2) := by decide +kernel
theorem d_L_law_778 : decode b_L_law 778 = .ok (.i2l, 1) := by decide +kernel
theorem d_L_law_779 : decode b_L_law 779 = .ok (.lcmp, 1) := by decide +kernel
theorem d_L_law_780 : decode b_L_law 780 = .ok (.ifCond .eq 5, 3) := by decide +kernel
theorem d_L_law_783 : decode b_L_law 783 = .ok (.iconst 0, 1) := by decide +kernel
theorem d_L_law_784 : decode b_L_law 784 = .ok (.ireturn, 1) := by decide +kernel
theorem d_L_law_785 : decode b_L_law 785 = .ok (.goto 96, 3) := by decide +kernel
theorem d_L_law_788 : decode b_L_law 788 = .ok (.aload_n 1, 1) := by decide +kernel
theorem d_L_law_789 : decode b_L_law 789 = .ok (.aload_n 0, 1) := by decide +kernel
theorem d_L_law_790 : decode b_L_law 790 = .ok (.iload 4, 2) := by decide +kernel
theorem d_L_law_792 : decode b_L_law 792 = .ok (.iconst 1, 1) := by decide +kernel
theorem d_L_law_793 : decode b_L_law 793 = .ok (.iadd, 1) := by decide +kernel
theorem d_L_law_794 : decode b_L_law 794 = .ok (.iaload, 1) := by decide +kernel
theorem d_L_law_795 : decode b_L_law 795 = .ok (.aload_n 0, 1) := by decide +kernel
theorem d_L_law_796 : decode b_L_law 796 = .ok (.iload 4, 2) := by decide +kernel
theorem d_L_law_798 : decode b_L_law 798 = .ok (.iconst 2, 1) := by decide +kernel
theorem d_L_law_799 : decode b_L_law 799 = .ok (.iadd, 1) := by decide +kernel
theorem d_L_law_800 : decode b_L_law 800 = .ok (.iaload, 1) := by decide +kernel
theorem d_L_law_801 : decode b_L_law 801 = .ok (.aload_n 3, 1) := by decide +kernel
theorem d_L_law_802 : decode b_L_law 802 = .ok (.invokestatic 92, 3) := by decide +kernel
theorem d_L_law_805 : decode b_L_law 805 = .ok (.istore 5, 2) := by decide +kernel
theorem d_L_law_807 : decode b_L_law 807 = .ok (.aload_n 2, 1) := by decide +kernel
theorem d_L_law_808 : decode b_L_law 808 = .ok (.aload_n 0, 1) := by decide +kernel
theorem d_L_law_809 : decode b_L_law 809 = .ok (.iload 4, 2) := by decide +kernel
theorem d_L_law_811 : decode b_L_law 811 = .ok (.iconst 1, 1) := by decide +kernel
theorem d_L_law_812 : decode b_L_law 812 = .ok (.iadd, 1) := by decide +kernel
theorem d_L_law_813 : decode b_L_law 813 = .ok (.iaload, 1) := by decide +kernel
theorem d_L_law_814 : decode b_L_law 814 = .ok (.aload_n 0, 1) := by decide +kernel
theorem d_L_law_815 : decode b_L_law 815 = .ok (.iload 4, 2) := by decide +kernel
theorem d_L_law_817 : decode b_L_law 817 = .ok (.iconst 2, 1) := by decide +kernel
theorem d_L_law_818 : decode b_L_law 818 = .ok (.iadd, 1) := by decide +kernel
theorem d_L_law_819 : decode b_L_law 819 = .ok (.iaload, 1) := by decide +kernel
theorem d_L_law_820 : decode b_L_law 820 = .ok (.invokevirtual 94, 3) := by decide +kernel
theorem d_L_law_823 : decode b_L_law 823 = .ok (.istore 6, 2) := by decide +kernel
theorem d_L_law_825 : decode b_L_law 825 = .ok (.aload_n 2, 1) := by decide +kernel
theorem d_L_law_826 : decode b_L_law 826 = .ok (.invokevirtual 61, 3) := by decide +kernel
theorem d_L_law_829 : decode b_L_law 829 = .ok (.iload 5, 2) := by decide +kernel
theorem d_L_law_831 : decode b_L_law 831 = .ok (.if_icmp .eq 5, 3) := by decide +kernel
theorem d_L_law_834 : decode b_L_law 834 = .ok (.iconst 0, 1) := by decide +kernel
theorem d_L_law_835 : decode b_L_law 835 = .ok (.ireturn, 1) := by decide +kernel
theorem d_L_law_836 : decode b_L_law 836 = .ok (.iload 5, 2) := by decide +kernel
theorem d_L_law_838 : decode b_L_law 838 = .ok (.ifCond .ne 15, 3) := by decide +kernel
theorem d_L_law_841 : decode b_L_law 841 = .ok (.aload_n 3, 1) := by decide +kernel
theorem d_L_law_842 : decode b_L_law 842 = .ok (.iconst 0, 1) := by decide +kernel
theorem d_L_law_843 : decode b_L_law 843 = .ok (.laload, 1) := by decide +kernel
theorem d_L_law_844 : decode b_L_law 844 = .ok (.iload 6, 2) := by decide +kernel
theorem d_L_law_846 : decode b_L_law 846 = .ok (.i2l, 1) := by decide +kernel
theorem d_L_law_847 : decode b_L_law 847 = .ok (.lcmp, 1) := by decide +kernel
theorem d_L_law_848 : decode b_L_law 848 = .ok (.ifCond .eq 5, 3) := by decide +kernel
theorem d_L_law_851 : decode b_L_law 851 = .ok (.iconst 0, 1) := by decide +kernel
theorem d_L_law_852 : decode b_L_law 852 = .ok (.ireturn, 1) := by decide +kernel
theorem d_L_law_853 : decode b_L_law 853 = .ok (.goto 28, 3) := by decide +kernel
theorem d_L_law_856 : decode b_L_law 856 = .ok (.aload_n 1, 1) := by decide +kernel
theorem d_L_law_857 : decode b_L_law 857 = .ok (.aload_n 0, 1) := by decide +kernel
theorem d_L_law_858 : decode b_L_law 858 = .ok (.iload 4, 2) := by decide +kernel
theorem d_L_law_860 : decode b_L_law 860 = .ok (.iconst 1, 1) := by decide +kernel
theorem d_L_law_861 : decode b_L_law 861 = .ok (.iadd, 1) := by decide +kernel
theorem d_L_law_862 : decode b_L_law 862 = .ok (.iaload, 1) := by decide +kernel
theorem d_L_law_863 : decode b_L_law 863 = .ok (.invokevirtual 95, 3) := by decide +kernel
theorem d_L_law_866 : decode b_L_law 866 = .ok (.aload_n 2, 1) := by decide +kernel
theorem d_L_law_867 : decode b_L_law 867 = .ok (.aload_n 0, 1) := by decide +kernel
theorem d_L_law_868 : decode b_L_law 868 = .ok (.iload 4, 2) := by decide +kernel
theorem d_L_law_870 : decode b_L_law 870 = .ok (.iconst 1, 1) := by decide +kernel
theorem d_L_law_871 : decode b_L_law 871 = .ok (.iadd, 1) := by decide +kernel
theorem d_L_law_872 : decode b_L_law 872 = .ok (.iaload, 1) := by decide +kernel
theorem d_L_law_873 : decode b_L_law 873 = .ok (.invokevirtual 99, 3) := by decide +kernel
theorem d_L_law_876 : decode b_L_law 876 = .ok (.if_icmp .eq 5, 3) := by decide +kernel
theorem d_L_law_879 : decode b_L_law 879 = .ok (.iconst 0, 1) := by decide +kernel
theorem d_L_law_880 : decode b_L_law 880 = .ok (.ireturn, 1) := by decide +kernel
theorem d_L_law_881 : decode b_L_law 881 = .ok (.iinc 4 5, 3) := by decide +kernel
theorem d_L_law_884 : decode b_L_law 884 = .ok (.goto (-861), 3) := by decide +kernel
theorem d_L_law_887 : decode b_L_law 887 = .ok (.iconst 1, 1) := by decide +kernel
theorem d_L_law_888 : decode b_L_law 888 = .ok (.ireturn, 1) := by decide +kernel
