theorem dL_law_0 : decode cL_law 0 = .ok (.new 7, 3) := by decide +kernel
theorem dL_law_3 : decode cL_law 3 = .ok (.dup, 1) := by decide +kernel
theorem dL_law_4 : decode cL_law 4 = .ok (.invokespecial 9, 3) := by decide +kernel
theorem dL_law_7 : decode cL_law 7 = .ok (.astore_n 1, 1) := by decide +kernel
theorem dL_law_8 : decode cL_law 8 = .ok (.new 10, 3) := by decide +kernel
theorem dL_law_11 : decode cL_law 11 = .ok (.dup, 1) := by decide +kernel
theorem dL_law_12 : decode cL_law 12 = .ok (.invokespecial 12, 3) := by decide +kernel
theorem dL_law_15 : decode cL_law 15 = .ok (.astore_n 2, 1) := by decide +kernel
theorem dL_law_16 : decode cL_law 16 = .ok (.iconst 0, 1) := by decide +kernel
theorem dL_law_17 : decode cL_law 17 = .ok (.istore_n 3, 1) := by decide +kernel
theorem dL_law_18 : decode cL_law 18 = .ok (.iload_n 3, 1) := by decide +kernel
theorem dL_law_19 : decode cL_law 19 = .ok (.aload_n 0, 1) := by decide +kernel
theorem dL_law_20 : decode cL_law 20 = .ok (.arraylength, 1) := by decide +kernel
theorem dL_law_21 : decode cL_law 21 = .ok (.iconst 5, 1) := by decide +kernel
theorem dL_law_22 : decode cL_law 22 = .ok (.isub, 1) := by decide +kernel
theorem dL_law_23 : decode cL_law 23 = .ok (.if_icmp .gt 592, 3) := by decide +kernel
theorem dL_law_26 : decode cL_law 26 = .ok (.aload_n 0, 1) := by decide +kernel
theorem dL_law_27 : decode cL_law 27 = .ok (.iload_n 3, 1) := by decide +kernel
theorem dL_law_28 : decode cL_law 28 = .ok (.iaload, 1) := by decide +kernel
theorem dL_law_29 : decode cL_law 29 = .ok (.bipush 15, 2) := by decide +kernel
theorem dL_law_31 : decode cL_law 31 = .ok (.iand, 1) := by decide +kernel
theorem dL_law_32 : decode cL_law 32 = .ok (.tableswitch 577 0 14 #[76, 139, 152, 185, 198, 257, 316, 385, 428, 481, 494, 507, 520, 553, 566], 76) := by decide +kernel
theorem dL_law_108 : decode cL_law 108 = .ok (.aload_n 1, 1) := by decide +kernel
theorem dL_law_109 : decode cL_law 109 = .ok (.aload_n 0, 1) := by decide +kernel
theorem dL_law_110 : decode cL_law 110 = .ok (.iload_n 3, 1) := by decide +kernel
theorem dL_law_111 : decode cL_law 111 = .ok (.iconst 1, 1) := by decide +kernel
theorem dL_law_112 : decode cL_law 112 = .ok (.iadd, 1) := by decide +kernel
theorem dL_law_113 : decode cL_law 113 = .ok (.iaload, 1) := by decide +kernel
theorem dL_law_114 : decode cL_law 114 = .ok (.i2l, 1) := by decide +kernel
theorem dL_law_115 : decode cL_law 115 = .ok (.bipush 32, 2) := by decide +kernel
theorem dL_law_117 : decode cL_law 117 = .ok (.lshl, 1) := by decide +kernel
theorem dL_law_118 : decode cL_law 118 = .ok (.aload_n 0, 1) := by decide +kernel
theorem dL_law_119 : decode cL_law 119 = .ok (.iload_n 3, 1) := by decide +kernel
theorem dL_law_120 : decode cL_law 120 = .ok (.iconst 2, 1) := by decide +kernel
theorem dL_law_121 : decode cL_law 121 = .ok (.iadd, 1) := by decide +kernel
theorem dL_law_122 : decode cL_law 122 = .ok (.iaload, 1) := by decide +kernel
theorem dL_law_123 : decode cL_law 123 = .ok (.i2l, 1) := by decide +kernel
theorem dL_law_124 : decode cL_law 124 = .ok (.ldc2_w 13, 3) := by decide +kernel
theorem dL_law_127 : decode cL_law 127 = .ok (.land, 1) := by decide +kernel
theorem dL_law_128 : decode cL_law 128 = .ok (.lor, 1) := by decide +kernel
theorem dL_law_129 : decode cL_law 129 = .ok (.aload_n 0, 1) := by decide +kernel
theorem dL_law_130 : decode cL_law 130 = .ok (.iload_n 3, 1) := by decide +kernel
theorem dL_law_131 : decode cL_law 131 = .ok (.iconst 3, 1) := by decide +kernel
theorem dL_law_132 : decode cL_law 132 = .ok (.iadd, 1) := by decide +kernel
theorem dL_law_133 : decode cL_law 133 = .ok (.iaload, 1) := by decide +kernel
theorem dL_law_134 : decode cL_law 134 = .ok (.invokevirtual 15, 3) := by decide +kernel
theorem dL_law_137 : decode cL_law 137 = .ok (.pop, 1) := by decide +kernel
theorem dL_law_138 : decode cL_law 138 = .ok (.aload_n 2, 1) := by decide +kernel
theorem dL_law_139 : decode cL_law 139 = .ok (.aload_n 0, 1) := by decide +kernel
theorem dL_law_140 : decode cL_law 140 = .ok (.iload_n 3, 1) := by decide +kernel
theorem dL_law_141 : decode cL_law 141 = .ok (.iconst 1, 1) := by decide +kernel
theorem dL_law_142 : decode cL_law 142 = .ok (.iadd, 1) := by decide +kernel
theorem dL_law_143 : decode cL_law 143 = .ok (.iaload, 1) := by decide +kernel
theorem dL_law_144 : decode cL_law 144 = .ok (.i2l, 1) := by decide +kernel
theorem dL_law_145 : decode cL_law 145 = .ok (.bipush 32, 2) := by decide +kernel
theorem dL_law_147 : decode cL_law 147 = .ok (.lshl, 1) := by decide +kernel
theorem dL_law_148 : decode cL_law 148 = .ok (.aload_n 0, 1) := by decide +kernel
theorem dL_law_149 : decode cL_law 149 = .ok (.iload_n 3, 1) := by decide +kernel
theorem dL_law_150 : decode cL_law 150 = .ok (.iconst 2, 1) := by decide +kernel
theorem dL_law_151 : decode cL_law 151 = .ok (.iadd, 1) := by decide +kernel
theorem dL_law_152 : decode cL_law 152 = .ok (.iaload, 1) := by decide +kernel
theorem dL_law_153 : decode cL_law 153 = .ok (.i2l, 1) := by decide +kernel
theorem dL_law_154 : decode cL_law 154 = .ok (.ldc2_w 13, 3) := by decide +kernel
theorem dL_law_157 : decode cL_law 157 = .ok (.land, 1) := by decide +kernel
theorem dL_law_158 : decode cL_law 158 = .ok (.lor, 1) := by decide +kernel
theorem dL_law_159 : decode cL_law 159 = .ok (.aload_n 0, 1) := by decide +kernel
theorem dL_law_160 : decode cL_law 160 = .ok (.iload_n 3, 1) := by decide +kernel
theorem dL_law_161 : decode cL_law 161 = .ok (.iconst 3, 1) := by decide +kernel
theorem dL_law_162 : decode cL_law 162 = .ok (.iadd, 1) := by decide +kernel
theorem dL_law_163 : decode cL_law 163 = .ok (.iaload, 1) := by decide +kernel
theorem dL_law_164 : decode cL_law 164 = .ok (.invokevirtual 19, 3) := by decide +kernel
theorem dL_law_167 : decode cL_law 167 = .ok (.pop, 1) := by decide +kernel
theorem dL_law_168 : decode cL_law 168 = .ok (.goto 441, 3) := by decide +kernel
theorem dL_law_171 : decode cL_law 171 = .ok (.aload_n 1, 1) := by decide +kernel
theorem dL_law_172 : decode cL_law 172 = .ok (.invokevirtual 20, 3) := by decide +kernel
theorem dL_law_175 : decode cL_law 175 = .ok (.pop, 1) := by decide +kernel
theorem dL_law_176 : decode cL_law 176 = .ok (.aload_n 2, 1) := by decide +kernel
theorem dL_law_177 : decode cL_law 177 = .ok (.invokevirtual 24, 3) := by decide +kernel
theorem dL_law_180 : decode cL_law 180 = .ok (.pop, 1) := by decide +kernel
theorem dL_law_181 : decode cL_law 181 = .ok (.goto 428, 3) := by decide +kernel
theorem dL_law_184 : decode cL_law 184 = .ok (.aload_n 1, 1) := by decide +kernel
theorem dL_law_185 : decode cL_law 185 = .ok (.aload_n 0, 1) := by decide +kernel
theorem dL_law_186 : decode cL_law 186 = .ok (.iload_n 3, 1) := by decide +kernel
theorem dL_law_187 : decode cL_law 187 = .ok (.iconst 1, 1) := by decide +kernel
theorem dL_law_188 : decode cL_law 188 = .ok (.iadd, 1) := by decide +kernel
theorem dL_law_189 : decode cL_law 189 = .ok (.iaload, 1) := by decide +kernel
theorem dL_law_190 : decode cL_law 190 = .ok (.aload_n 0, 1) := by decide +kernel
theorem dL_law_191 : decode cL_law 191 = .ok (.iload_n 3, 1) := by decide +kernel
theorem dL_law_192 : decode cL_law 192 = .ok (.iconst 2, 1) := by decide +kernel
theorem dL_law_193 : decode cL_law 193 = .ok (.iadd, 1) := by decide +kernel
theorem dL_law_194 : decode cL_law 194 = .ok (.iaload, 1) := by decide +kernel
theorem dL_law_195 : decode cL_law 195 = .ok (.invokevirtual 25, 3) := by decide +kernel
theorem dL_law_198 : decode cL_law 198 = .ok (.pop, 1) := by decide +kernel
theorem dL_law_199 : decode cL_law 199 = .ok (.aload_n 2, 1) := by decide +kernel
theorem dL_law_200 : decode cL_law 200 = .ok (.aload_n 0, 1) := by decide +kernel
theorem dL_law_201 : decode cL_law 201 = .ok (.iload_n 3, 1) := by decide +kernel
theorem dL_law_202 : decode cL_law 202 = .ok (.iconst 1, 1) := by decide +kernel
theorem dL_law_203 : decode cL_law 203 = .ok (.iadd, 1) := by decide +kernel
theorem dL_law_204 : decode cL_law 204 = .ok (.iaload, 1) := by decide +kernel
theorem dL_law_205 : decode cL_law 205 = .ok (.aload_n 0, 1) := by decide +kernel
theorem dL_law_206 : decode cL_law 206 = .ok (.iload_n 3, 1) := by decide +kernel
theorem dL_law_207 : decode cL_law 207 = .ok (.iconst 2, 1) := by decide +kernel
theorem dL_law_208 : decode cL_law 208 = .ok (.iadd, 1) := by decide +kernel
theorem dL_law_209 : decode cL_law 209 = .ok (.iaload, 1) := by decide +kernel
theorem dL_law_210 : decode cL_law 210 = .ok (.invokevirtual 29, 3) := by decide +kernel
theorem dL_law_213 : decode cL_law 213 = .ok (.pop, 1) := by decide +kernel
theorem dL_law_214 : decode cL_law 214 = .ok (.goto 395, 3) := by decide +kernel
theorem dL_law_217 : decode cL_law 217 = .ok (.aload_n 1, 1) := by decide +kernel
theorem dL_law_218 : decode cL_law 218 = .ok (.invokevirtual 30, 3) := by decide +kernel
theorem dL_law_221 : decode cL_law 221 = .ok (.pop, 1) := by decide +kernel
theorem dL_law_222 : decode cL_law 222 = .ok (.aload_n 2, 1) := by decide +kernel
theorem dL_law_223 : decode cL_law 223 = .ok (.invokevirtual 33, 3) := by decide +kernel
theorem dL_law_226 : decode cL_law 226 = .ok (.pop, 1) := by decide +kernel
theorem dL_law_227 : decode cL_law 227 = .ok (.goto 382, 3) := by decide +kernel
theorem dL_law_230 : decode cL_law 230 = .ok (.aload_n 1, 1) := by decide +kernel
theorem dL_law_231 : decode cL_law 231 = .ok (.aload_n 0, 1) := by decide +kernel
theorem dL_law_232 : decode cL_law 232 = .ok (.iload_n 3, 1) := by decide +kernel
theorem dL_law_233 : decode cL_law 233 = .ok (.iconst 1, 1) := by decide +kernel
theorem dL_law_234 : decode cL_law 234 = .ok (.iadd, 1) := by decide +kernel
theorem dL_law_235 : decode cL_law 235 = .ok (.iaload, 1) := by decide +kernel
theorem dL_law_236 : decode cL_law 236 = .ok (.aload_n 0, 1) := by decide +kernel
theorem dL_law_237 : decode cL_law 237 = .ok (.iload_n 3, 1) := by decide +kernel
theorem dL_law_238 : decode cL_law 238 = .ok (.iconst 2, 1) := by decide +kernel
theorem dL_law_239 : decode cL_law 239 = .ok (.iadd, 1) := by decide +kernel
theorem dL_law_240 : decode cL_law 240 = .ok (.iaload, 1) := by decide +kernel
theorem dL_law_241 : decode cL_law 241 = .ok (.ifCond .eq 7, 3) := by decide +kernel
theorem dL_law_244 : decode cL_law 244 = .ok (.iconst 1, 1) := by decide +kernel
theorem dL_law_245 : decode cL_law 245 = .ok (.goto 4, 3) := by decide +kernel
theorem dL_law_248 : decode cL_law 248 = .ok (.iconst 0, 1) := by decide +kernel
theorem dL_law_249 : decode cL_law 249 = .ok (.aload_n 0, 1) := by decide +kernel
theorem dL_law_250 : decode cL_law 250 = .ok (.iload_n 3, 1) := by decide +kernel
theorem dL_law_251 : decode cL_law 251 = .ok (.iconst 3, 1) := by decide +kernel
theorem dL_law_252 : decode cL_law 252 = .ok (.iadd, 1) := by decide +kernel
theorem dL_law_253 : decode cL_law 253 = .ok (.iaload, 1) := by decide +kernel
theorem dL_law_254 : decode cL_law 254 = .ok (.invokevirtual 34, 3) := by decide +kernel
theorem dL_law_257 : decode cL_law 257 = .ok (.pop, 1) := by decide +kernel
theorem dL_law_258 : decode cL_law 258 = .ok (.aload_n 2, 1) := by decide +kernel
theorem dL_law_259 : decode cL_law 259 = .ok (.aload_n 0, 1) := by decide +kernel
theorem dL_law_260 : decode cL_law 260 = .ok (.iload_n 3, 1) := by decide +kernel
theorem dL_law_261 : decode cL_law 261 = .ok (.iconst 1, 1) := by decide +kernel
theorem dL_law_262 : decode cL_law 262 = .ok (.iadd, 1) := by decide +kernel
theorem dL_law_263 : decode cL_law 263 = .ok (.iaload, 1) := by decide +kernel
theorem dL_law_264 : decode cL_law 264 = .ok (.aload_n 0, 1) := by decide +kernel
theorem dL_law_265 : decode cL_law 265 = .ok (.iload_n 3, 1) := by decide +kernel
theorem dL_law_266 : decode cL_law 266 = .ok (.iconst 2, 1) := by decide +kernel
theorem dL_law_267 : decode cL_law 267 = .ok (.iadd, 1) := by decide +kernel
theorem dL_law_268 : decode cL_law 268 = .ok (.iaload, 1) := by decide +kernel
theorem dL_law_269 : decode cL_law 269 = .ok (.ifCond .eq 7, 3) := by decide +kernel
theorem dL_law_272 : decode cL_law 272 = .ok (.iconst 1, 1) := by decide +kernel
theorem dL_law_273 : decode cL_law 273 = .ok (.goto 4, 3) := by decide +kernel
theorem dL_law_276 : decode cL_law 276 = .ok (.iconst 0, 1) := by decide +kernel
theorem dL_law_277 : decode cL_law 277 = .ok (.aload_n 0, 1) := by decide +kernel
theorem dL_law_278 : decode cL_law 278 = .ok (.iload_n 3, 1) := by decide +kernel
theorem dL_law_279 : decode cL_law 279 = .ok (.iconst 3, 1) := by decide +kernel
theorem dL_law_280 : decode cL_law 280 = .ok (.iadd, 1) := by decide +kernel
theorem dL_law_281 : decode cL_law 281 = .ok (.iaload, 1) := by decide +kernel
theorem dL_law_282 : decode cL_law 282 = .ok (.invokevirtual 38, 3) := by decide +kernel
theorem dL_law_285 : decode cL_law 285 = .ok (.pop, 1) := by decide +kernel
theorem dL_law_286 : decode cL_law 286 = .ok (.goto 323, 3) := by decide +kernel
theorem dL_law_289 : decode cL_law 289 = .ok (.aload_n 1, 1) := by decide +kernel
theorem dL_law_290 : decode cL_law 290 = .ok (.aload_n 0, 1) := by decide +kernel
theorem dL_law_291 : decode cL_law 291 = .ok (.iload_n 3, 1) := by decide +kernel
theorem dL_law_292 : decode cL_law 292 = .ok (.iconst 1, 1) := by decide +kernel
theorem dL_law_293 : decode cL_law 293 = .ok (.iadd, 1) := by decide +kernel
theorem dL_law_294 : decode cL_law 294 = .ok (.iaload, 1) := by decide +kernel
theorem dL_law_295 : decode cL_law 295 = .ok (.aload_n 0, 1) := by decide +kernel
theorem dL_law_296 : decode cL_law 296 = .ok (.iload_n 3, 1) := by decide +kernel
theorem dL_law_297 : decode cL_law 297 = .ok (.iconst 2, 1) := by decide +kernel
theorem dL_law_298 : decode cL_law 298 = .ok (.iadd, 1) := by decide +kernel
theorem dL_law_299 : decode cL_law 299 = .ok (.iaload, 1) := by decide +kernel
theorem dL_law_300 : decode cL_law 300 = .ok (.ifCond .eq 7, 3) := by decide +kernel
theorem dL_law_303 : decode cL_law 303 = .ok (.iconst 1, 1) := by decide +kernel
theorem dL_law_304 : decode cL_law 304 = .ok (.goto 4, 3) := by decide +kernel
theorem dL_law_307 : decode cL_law 307 = .ok (.iconst 0, 1) := by decide +kernel
theorem dL_law_308 : decode cL_law 308 = .ok (.aload_n 0, 1) := by decide +kernel
theorem dL_law_309 : decode cL_law 309 = .ok (.iload_n 3, 1) := by decide +kernel
theorem dL_law_310 : decode cL_law 310 = .ok (.iconst 3, 1) := by decide +kernel
theorem dL_law_311 : decode cL_law 311 = .ok (.iadd, 1) := by decide +kernel
theorem dL_law_312 : decode cL_law 312 = .ok (.iaload, 1) := by decide +kernel
theorem dL_law_313 : decode cL_law 313 = .ok (.invokevirtual 39, 3) := by decide +kernel
theorem dL_law_316 : decode cL_law 316 = .ok (.pop, 1) := by decide +kernel
theorem dL_law_317 : decode cL_law 317 = .ok (.aload_n 2, 1) := by decide +kernel
theorem dL_law_318 : decode cL_law 318 = .ok (.aload_n 0, 1) := by decide +kernel
theorem dL_law_319 : decode cL_law 319 = .ok (.iload_n 3, 1) := by decide +kernel
theorem dL_law_320 : decode cL_law 320 = .ok (.iconst 1, 1) := by decide +kernel
theorem dL_law_321 : decode cL_law 321 = .ok (.iadd, 1) := by decide +kernel
theorem dL_law_322 : decode cL_law 322 = .ok (.iaload, 1) := by decide +kernel
theorem dL_law_323 : decode cL_law 323 = .ok (.aload_n 0, 1) := by decide +kernel
theorem dL_law_324 : decode cL_law 324 = .ok (.iload_n 3, 1) := by decide +kernel
theorem dL_law_325 : decode cL_law 325 = .ok (.iconst 2, 1) := by decide +kernel
theorem dL_law_326 : decode cL_law 326 = .ok (.iadd, 1) := by decide +kernel
theorem dL_law_327 : decode cL_law 327 = .ok (.iaload, 1) := by decide +kernel
theorem dL_law_328 : decode cL_law 328 = .ok (.ifCond .eq 7, 3) := by decide +kernel
theorem dL_law_331 : decode cL_law 331 = .ok (.iconst 1, 1) := by decide +kernel
theorem dL_law_332 : decode cL_law 332 = .ok (.goto 4, 3) := by decide +kernel
theorem dL_law_335 : decode cL_law 335 = .ok (.iconst 0, 1) := by decide +kernel
theorem dL_law_336 : decode cL_law 336 = .ok (.aload_n 0, 1) := by decide +kernel
theorem dL_law_337 : decode cL_law 337 = .ok (.iload_n 3, 1) := by decide +kernel
theorem dL_law_338 : decode cL_law 338 = .ok (.iconst 3, 1) := by decide +kernel
theorem dL_law_339 : decode cL_law 339 = .ok (.iadd, 1) := by decide +kernel
theorem dL_law_340 : decode cL_law 340 = .ok (.iaload, 1) := by decide +kernel
theorem dL_law_341 : decode cL_law 341 = .ok (.invokevirtual 42, 3) := by decide +kernel
theorem dL_law_344 : decode cL_law 344 = .ok (.pop, 1) := by decide +kernel
theorem dL_law_345 : decode cL_law 345 = .ok (.goto 264, 3) := by decide +kernel
theorem dL_law_348 : decode cL_law 348 = .ok (.aload_n 1, 1) := by decide +kernel
theorem dL_law_349 : decode cL_law 349 = .ok (.aload_n 0, 1) := by decide +kernel
theorem dL_law_350 : decode cL_law 350 = .ok (.iload_n 3, 1) := by decide +kernel
theorem dL_law_351 : decode cL_law 351 = .ok (.iconst 1, 1) := by decide +kernel
theorem dL_law_352 : decode cL_law 352 = .ok (.iadd, 1) := by decide +kernel
theorem dL_law_353 : decode cL_law 353 = .ok (.iaload, 1) := by decide +kernel
theorem dL_law_354 : decode cL_law 354 = .ok (.aload_n 0, 1) := by decide +kernel
theorem dL_law_355 : decode cL_law 355 = .ok (.iload_n 3, 1) := by decide +kernel
theorem dL_law_356 : decode cL_law 356 = .ok (.iconst 2, 1) := by decide +kernel
theorem dL_law_357 : decode cL_law 357 = .ok (.iadd, 1) := by decide +kernel
theorem dL_law_358 : decode cL_law 358 = .ok (.iaload, 1) := by decide +kernel
theorem dL_law_359 : decode cL_law 359 = .ok (.ifCond .eq 7, 3) := by decide +kernel
theorem dL_law_362 : decode cL_law 362 = .ok (.iconst 1, 1) := by decide +kernel
theorem dL_law_363 : decode cL_law 363 = .ok (.goto 4, 3) := by decide +kernel
theorem dL_law_366 : decode cL_law 366 = .ok (.iconst 0, 1) := by decide +kernel
theorem dL_law_367 : decode cL_law 367 = .ok (.aload_n 0, 1) := by decide +kernel
theorem dL_law_368 : decode cL_law 368 = .ok (.iload_n 3, 1) := by decide +kernel
theorem dL_law_369 : decode cL_law 369 = .ok (.iconst 3, 1) := by decide +kernel
theorem dL_law_370 : decode cL_law 370 = .ok (.iadd, 1) := by decide +kernel
theorem dL_law_371 : decode cL_law 371 = .ok (.iaload, 1) := by decide +kernel
theorem dL_law_372 : decode cL_law 372 = .ok (.aload_n 0, 1) := by decide +kernel
theorem dL_law_373 : decode cL_law 373 = .ok (.iload_n 3, 1) := by decide +kernel
theorem dL_law_374 : decode cL_law 374 = .ok (.iconst 4, 1) := by decide +kernel
theorem dL_law_375 : decode cL_law 375 = .ok (.iadd, 1) := by decide +kernel
theorem dL_law_376 : decode cL_law 376 = .ok (.iaload, 1) := by decide +kernel
theorem dL_law_377 : decode cL_law 377 = .ok (.invokevirtual 43, 3) := by decide +kernel
theorem dL_law_380 : decode cL_law 380 = .ok (.pop, 1) := by decide +kernel
theorem dL_law_381 : decode cL_law 381 = .ok (.aload_n 2, 1) := by decide +kernel
theorem dL_law_382 : decode cL_law 382 = .ok (.aload_n 0, 1) := by decide +kernel
theorem dL_law_383 : decode cL_law 383 = .ok (.iload_n 3, 1) := by decide +kernel
theorem dL_law_384 : decode cL_law 384 = .ok (.iconst 1, 1) := by decide +kernel
theorem dL_law_385 : decode cL_law 385 = .ok (.iadd, 1) := by decide +kernel
theorem dL_law_386 : decode cL_law 386 = .ok (.iaload, 1) := by decide +kernel
theorem dL_law_387 : decode cL_law 387 = .ok (.aload_n 0, 1) := by decide +kernel
theorem dL_law_388 : decode cL_law 388 = .ok (.iload_n 3, 1) := by decide +kernel
theorem dL_law_389 : decode cL_law 389 = .ok (.iconst 2, 1) := by decide +kernel
theorem dL_law_390 : decode cL_law 390 = .ok (.iadd, 1) := by decide +kernel
theorem dL_law_391 : decode cL_law 391 = .ok (.iaload, 1) := by decide +kernel
theorem dL_law_392 : decode cL_law 392 = .ok (.ifCond .eq 7, 3) := by decide +kernel
theorem dL_law_395 : decode cL_law 395 = .ok (.iconst 1, 1) := by decide +kernel
theorem dL_law_396 : decode cL_law 396 = .ok (.goto 4, 3) := by decide +kernel
theorem dL_law_399 : decode cL_law 399 = .ok (.iconst 0, 1) := by decide +kernel
theorem dL_law_400 : decode cL_law 400 = .ok (.aload_n 0, 1) := by decide +kernel
theorem dL_law_401 : decode cL_law 401 = .ok (.iload_n 3, 1) := by decide +kernel
theorem dL_law_402 : decode cL_law 402 = .ok (.iconst 3, 1) := by decide +kernel
theorem dL_law_403 : decode cL_law 403 = .ok (.iadd, 1) := by decide +kernel
theorem dL_law_404 : decode cL_law 404 = .ok (.iaload, 1) := by decide +kernel
theorem dL_law_405 : decode cL_law 405 = .ok (.aload_n 0, 1) := by decide +kernel
theorem dL_law_406 : decode cL_law 406 = .ok (.iload_n 3, 1) := by decide +kernel
theorem dL_law_407 : decode cL_law 407 = .ok (.iconst 4, 1) := by decide +kernel
theorem dL_law_408 : decode cL_law 408 = .ok (.iadd, 1) := by decide +kernel
theorem dL_law_409 : decode cL_law 409 = .ok (.iaload, 1) := by decide +kernel
theorem dL_law_410 : decode cL_law 410 = .ok (.invokevirtual 47, 3) := by decide +kernel
theorem dL_law_413 : decode cL_law 413 = .ok (.pop, 1) := by decide +kernel
theorem dL_law_414 : decode cL_law 414 = .ok (.goto 195, 3) := by decide +kernel
theorem dL_law_417 : decode cL_law 417 = .ok (.aload_n 1, 1) := by decide +kernel
theorem dL_law_418 : decode cL_law 418 = .ok (.aload_n 0, 1) := by decide +kernel
theorem dL_law_419 : decode cL_law 419 = .ok (.iload_n 3, 1) := by decide +kernel
theorem dL_law_420 : decode cL_law 420 = .ok (.iconst 1, 1) := by decide +kernel
theorem dL_law_421 : decode cL_law 421 = .ok (.iadd, 1) := by decide +kernel
theorem dL_law_422 : decode cL_law 422 = .ok (.iaload, 1) := by decide +kernel
theorem dL_law_423 : decode cL_law 423 = .ok (.aload_n 0, 1) := by decide +kernel
theorem dL_law_424 : decode cL_law 424 = .ok (.iload_n 3, 1) := by decide +kernel
theorem dL_law_425 : decode cL_law 425 = .ok (.iconst 2, 1) := by decide +kernel
theorem dL_law_426 : decode cL_law 426 = .ok (.iadd, 1) := by decide +kernel
theorem dL_law_427 : decode cL_law 427 = .ok (.iaload, 1) := by decide +kernel
theorem dL_law_428 : decode cL_law 428 = .ok (.aload_n 0, 1) := by decide +kernel
theorem dL_law_429 : decode cL_law 429 = .ok (.iload_n 3, 1) := by decide +kernel
theorem dL_law_430 : decode cL_law 430 = .ok (.iconst 3, 1) := by decide +kernel
theorem dL_law_431 : decode cL_law 431 = .ok (.iadd, 1) := by decide +kernel
theorem dL_law_432 : decode cL_law 432 = .ok (.iaload, 1) := by decide +kernel
theorem dL_law_433 : decode cL_law 433 = .ok (.invokevirtual 48, 3) := by decide +kernel
theorem dL_law_436 : decode cL_law 436 = .ok (.pop, 1) := by decide +kernel
theorem dL_law_437 : decode cL_law 437 = .ok (.aload_n 2, 1) := by decide +kernel
theorem dL_law_438 : decode cL_law 438 = .ok (.aload_n 0, 1) := by decide +kernel
theorem dL_law_439 : decode cL_law 439 = .ok (.iload_n 3, 1) := by decide +kernel
theorem dL_law_440 : decode cL_law 440 = .ok (.iconst 1, 1) := by decide +kernel
theorem dL_law_441 : decode cL_law 441 = .ok (.iadd, 1) := by decide +kernel
theorem dL_law_442 : decode cL_law 442 = .ok (.iaload, 1) := by decide +kernel
theorem dL_law_443 : decode cL_law 443 = .ok (.aload_n 0, 1) := by decide +kernel
theorem dL_law_444 : decode cL_law 444 = .ok (.iload_n 3, 1) := by decide +kernel
theorem dL_law_445 : decode cL_law 445 = .ok (.iconst 2, 1) := by decide +kernel
theorem dL_law_446 : decode cL_law 446 = .ok (.iadd, 1) := by decide +kernel
theorem dL_law_447 : decode cL_law 447 = .ok (.iaload, 1) := by decide +kernel
theorem dL_law_448 : decode cL_law 448 = .ok (.aload_n 0, 1) := by decide +kernel
theorem dL_law_449 : decode cL_law 449 = .ok (.iload_n 3, 1) := by decide +kernel
theorem dL_law_450 : decode cL_law 450 = .ok (.iconst 3, 1) := by decide +kernel
theorem dL_law_451 : decode cL_law 451 = .ok (.iadd, 1) := by decide +kernel
theorem dL_law_452 : decode cL_law 452 = .ok (.iaload, 1) := by decide +kernel
theorem dL_law_453 : decode cL_law 453 = .ok (.invokevirtual 52, 3) := by decide +kernel
theorem dL_law_456 : decode cL_law 456 = .ok (.pop, 1) := by decide +kernel
theorem dL_law_457 : decode cL_law 457 = .ok (.goto 152, 3) := by decide +kernel
theorem dL_law_460 : decode cL_law 460 = .ok (.aload_n 1, 1) := by decide +kernel
theorem dL_law_461 : decode cL_law 461 = .ok (.aload_n 0, 1) := by decide +kernel
theorem dL_law_462 : decode cL_law 462 = .ok (.iload_n 3, 1) := by decide +kernel
theorem dL_law_463 : decode cL_law 463 = .ok (.iconst 1, 1) := by decide +kernel
theorem dL_law_464 : decode cL_law 464 = .ok (.iadd, 1) := by decide +kernel
theorem dL_law_465 : decode cL_law 465 = .ok (.iaload, 1) := by decide +kernel
theorem dL_law_466 : decode cL_law 466 = .ok (.aload_n 0, 1) := by decide +kernel
theorem dL_law_467 : decode cL_law 467 = .ok (.iload_n 3, 1) := by decide +kernel
theorem dL_law_468 : decode cL_law 468 = .ok (.iconst 2, 1) := by decide +kernel
theorem dL_law_469 : decode cL_law 469 = .ok (.iadd, 1) := by decide +kernel
theorem dL_law_470 : decode cL_law 470 = .ok (.iaload, 1) := by decide +kernel
theorem dL_law_471 : decode cL_law 471 = .ok (.aload_n 0, 1) := by decide +kernel
theorem dL_law_472 : decode cL_law 472 = .ok (.iload_n 3, 1) := by decide +kernel
theorem dL_law_473 : decode cL_law 473 = .ok (.iconst 3, 1) := by decide +kernel
theorem dL_law_474 : decode cL_law 474 = .ok (.iadd, 1) := by decide +kernel
theorem dL_law_475 : decode cL_law 475 = .ok (.iaload, 1) := by decide +kernel
theorem dL_law_476 : decode cL_law 476 = .ok (.aload_n 0, 1) := by decide +kernel
theorem dL_law_477 : decode cL_law 477 = .ok (.iload_n 3, 1) := by decide +kernel
theorem dL_law_478 : decode cL_law 478 = .ok (.iconst 4, 1) := by decide +kernel
theorem dL_law_479 : decode cL_law 479 = .ok (.iadd, 1) := by decide +kernel
theorem dL_law_480 : decode cL_law 480 = .ok (.iaload, 1) := by decide +kernel
theorem dL_law_481 : decode cL_law 481 = .ok (.invokevirtual 53, 3) := by decide +kernel
theorem dL_law_484 : decode cL_law 484 = .ok (.pop, 1) := by decide +kernel
theorem dL_law_485 : decode cL_law 485 = .ok (.aload_n 2, 1) := by decide +kernel
theorem dL_law_486 : decode cL_law 486 = .ok (.aload_n 0, 1) := by decide +kernel
theorem dL_law_487 : decode cL_law 487 = .ok (.iload_n 3, 1) := by decide +kernel
theorem dL_law_488 : decode cL_law 488 = .ok (.iconst 1, 1) := by decide +kernel
theorem dL_law_489 : decode cL_law 489 = .ok (.iadd, 1) := by decide +kernel
theorem dL_law_490 : decode cL_law 490 = .ok (.iaload, 1) := by decide +kernel
theorem dL_law_491 : decode cL_law 491 = .ok (.aload_n 0, 1) := by decide +kernel
theorem dL_law_492 : decode cL_law 492 = .ok (.iload_n 3, 1) := by decide +kernel
theorem dL_law_493 : decode cL_law 493 = .ok (.iconst 2, 1) := by decide +kernel
theorem dL_law_494 : decode cL_law 494 = .ok (.iadd, 1) := by decide +kernel
theorem dL_law_495 : decode cL_law 495 = .ok (.iaload, 1) := by decide +kernel
theorem dL_law_496 : decode cL_law 496 = .ok (.aload_n 0, 1) := by decide +kernel
theorem dL_law_497 : decode cL_law 497 = .ok (.iload_n 3, 1) := by decide +kernel
theorem dL_law_498 : decode cL_law 498 = .ok (.iconst 3, 1) := by decide +kernel
theorem dL_law_499 : decode cL_law 499 = .ok (.iadd, 1) := by decide +kernel
theorem dL_law_500 : decode cL_law 500 = .ok (.iaload, 1) := by decide +kernel
theorem dL_law_501 : decode cL_law 501 = .ok (.aload_n 0, 1) := by decide +kernel
theorem dL_law_502 : decode cL_law 502 = .ok (.iload_n 3, 1) := by decide +kernel
theorem dL_law_503 : decode cL_law 503 = .ok (.iconst 4, 1) := by decide +kernel
theorem dL_law_504 : decode cL_law 504 = .ok (.iadd, 1) := by decide +kernel
theorem dL_law_505 : decode cL_law 505 = .ok (.iaload, 1) := by decide +kernel
theorem dL_law_506 : decode cL_law 506 = .ok (.invokevirtual 57, 3) := by decide +kernel
theorem dL_law_509 : decode cL_law 509 = .ok (.pop, 1) := by decide +kernel
theorem dL_law_510 : decode cL_law 510 = .ok (.goto 99, 3) := by decide +kernel
theorem dL_law_513 : decode cL_law 513 = .ok (.aload_n 1, 1) := by decide +kernel
theorem dL_law_514 : decode cL_law 514 = .ok (.invokevirtual 58, 3) := by decide +kernel
theorem dL_law_517 : decode cL_law 517 = .ok (.pop, 1) := by decide +kernel
theorem dL_law_518 : decode cL_law 518 = .ok (.aload_n 2, 1) := by decide +kernel
theorem dL_law_519 : decode cL_law 519 = .ok (.invokevirtual 61, 3) := by decide +kernel
theorem dL_law_522 : decode cL_law 522 = .ok (.pop, 1) := by decide +kernel
theorem dL_law_523 : decode cL_law 523 = .ok (.goto 86, 3) := by decide +kernel
theorem dL_law_526 : decode cL_law 526 = .ok (.aload_n 1, 1) := by decide +kernel
theorem dL_law_527 : decode cL_law 527 = .ok (.invokevirtual 62, 3) := by decide +kernel
theorem dL_law_530 : decode cL_law 530 = .ok (.pop, 1) := by decide +kernel
theorem dL_law_531 : decode cL_law 531 = .ok (.aload_n 2, 1) := by decide +kernel
theorem dL_law_532 : decode cL_law 532 = .ok (.invokevirtual 65, 3) := by decide +kernel
theorem dL_law_535 : decode cL_law 535 = .ok (.pop, 1) := by decide +kernel
theorem dL_law_536 : decode cL_law 536 = .ok (.goto 73, 3) := by decide +kernel
theorem dL_law_539 : decode cL_law 539 = .ok (.aload_n 1, 1) := by decide +kernel
theorem dL_law_540 : decode cL_law 540 = .ok (.invokevirtual 66, 3) := by decide +kernel
theorem dL_law_543 : decode cL_law 543 = .ok (.pop, 1) := by decide +kernel
theorem dL_law_544 : decode cL_law 544 = .ok (.aload_n 2, 1) := by decide +kernel
theorem dL_law_545 : decode cL_law 545 = .ok (.invokevirtual 69, 3) := by decide +kernel
theorem dL_law_548 : decode cL_law 548 = .ok (.pop, 1) := by decide +kernel
theorem dL_law_549 : decode cL_law 549 = .ok (.goto 60, 3) := by decide +kernel
theorem dL_law_552 : decode cL_law 552 = .ok (.aload_n 1, 1) := by decide +kernel
theorem dL_law_553 : decode cL_law 553 = .ok (.aload_n 0, 1) := by decide +kernel
theorem dL_law_554 : decode cL_law 554 = .ok (.iload_n 3, 1) := by decide +kernel
theorem dL_law_555 : decode cL_law 555 = .ok (.iconst 1, 1) := by decide +kernel
theorem dL_law_556 : decode cL_law 556 = .ok (.iadd, 1) := by decide +kernel
theorem dL_law_557 : decode cL_law 557 = .ok (.iaload, 1) := by decide +kernel
theorem dL_law_558 : decode cL_law 558 = .ok (.aload_n 0, 1) := by decide +kernel
theorem dL_law_559 : decode cL_law 559 = .ok (.iload_n 3, 1) := by decide +kernel
theorem dL_law_560 : decode cL_law 560 = .ok (.iconst 2, 1) := by decide +kernel
theorem dL_law_561 : decode cL_law 561 = .ok (.iadd, 1) := by decide +kernel
theorem dL_law_562 : decode cL_law 562 = .ok (.iaload, 1) := by decide +kernel
theorem dL_law_563 : decode cL_law 563 = .ok (.invokevirtual 70, 3) := by decide +kernel
theorem dL_law_566 : decode cL_law 566 = .ok (.aload_n 2, 1) := by decide +kernel
theorem dL_law_567 : decode cL_law 567 = .ok (.aload_n 0, 1) := by decide +kernel
theorem dL_law_568 : decode cL_law 568 = .ok (.iload_n 3, 1) := by decide +kernel
theorem dL_law_569 : decode cL_law 569 = .ok (.iconst 1, 1) := by decide +kernel
theorem dL_law_570 : decode cL_law 570 = .ok (.iadd, 1) := by decide +kernel
theorem dL_law_571 : decode cL_law 571 = .ok (.iaload, 1) := by decide +kernel
theorem dL_law_572 : decode cL_law 572 = .ok (.aload_n 0, 1) := by decide +kernel
theorem dL_law_573 : decode cL_law 573 = .ok (.iload_n 3, 1) := by decide +kernel
theorem dL_law_574 : decode cL_law 574 = .ok (.iconst 2, 1) := by decide +kernel
theorem dL_law_575 : decode cL_law 575 = .ok (.iadd, 1) := by decide +kernel
theorem dL_law_576 : decode cL_law 576 = .ok (.iaload, 1) := by decide +kernel
theorem dL_law_577 : decode cL_law 577 = .ok (.invokevirtual 73, 3) := by decide +kernel
theorem dL_law_580 : decode cL_law 580 = .ok (.if_icmp .eq 29, 3) := by decide +kernel
theorem dL_law_583 : decode cL_law 583 = .ok (.iconst 0, 1) := by decide +kernel
theorem dL_law_584 : decode cL_law 584 = .ok (.ireturn, 1) := by decide +kernel
theorem dL_law_585 : decode cL_law 585 = .ok (.aload_n 1, 1) := by decide +kernel
theorem dL_law_586 : decode cL_law 586 = .ok (.invokevirtual 74, 3) := by decide +kernel
theorem dL_law_589 : decode cL_law 589 = .ok (.pop, 1) := by decide +kernel
theorem dL_law_590 : decode cL_law 590 = .ok (.aload_n 2, 1) := by decide +kernel
theorem dL_law_591 : decode cL_law 591 = .ok (.invokevirtual 77, 3) := by decide +kernel
theorem dL_law_594 : decode cL_law 594 = .ok (.pop, 1) := by decide +kernel
theorem dL_law_595 : decode cL_law 595 = .ok (.goto 14, 3) := by decide +kernel
theorem dL_law_598 : decode cL_law 598 = .ok (.aload_n 1, 1) := by decide +kernel
theorem dL_law_599 : decode cL_law 599 = .ok (.invokevirtual 78, 3) := by decide +kernel
theorem dL_law_602 : decode cL_law 602 = .ok (.aload_n 2, 1) := by decide +kernel
theorem dL_law_603 : decode cL_law 603 = .ok (.invokevirtual 81, 3) := by decide +kernel
theorem dL_law_606 : decode cL_law 606 = .ok (.goto 3, 3) := by decide +kernel
theorem dL_law_609 : decode cL_law 609 = .ok (.iinc 3 5, 3) := by decide +kernel
theorem dL_law_612 : decode cL_law 612 = .ok (.goto (-594), 3) := by decide +kernel
theorem dL_law_615 : decode cL_law 615 = .ok (.iconst 1, 1) := by decide +kernel
theorem dL_law_616 : decode cL_law 616 = .ok (.ireturn, 1) := by decide +kernel
def jL_law_609 (xs : Nat → Int32) (L : Nat) (rec : Int32 → hs_S → Option (Nat × hs_S)) (v1 : Nat) (v2 : Nat) (v3 : Int32) (g : hs_S) : Option (Nat × hs_S) :=
  rec (v3 + (5 : Int32)) g
def jL_law_277 (xs : Nat → Int32) (L : Nat) (rec : Int32 → hs_S → Option (Nat × hs_S)) (v1 : Nat) (v2 : Nat) (v3 : Int32) (s0 : Int32) (s1 : Int32) (s2 : Nat) (g : hs_S) : Option (Nat × hs_S) :=
  if hs_in (v3 + (3 : Int32)) L = true then
  if hs_kd g s2 = 10 then
  hs_bd (fX12_told s2 s1 s0 (xs (v3 + (3 : Int32)).toNatClampNeg) g) fun r57 g56 =>
  jL_law_609 xs L rec v1 v2 v3 g56
  else none else none
def jL_law_249 (xs : Nat → Int32) (L : Nat) (rec : Int32 → hs_S → Option (Nat × hs_S)) (v1 : Nat) (v2 : Nat) (v3 : Int32) (s0 : Int32) (s1 : Int32) (s2 : Nat) (g : hs_S) : Option (Nat × hs_S) :=
  if hs_in (v3 + (3 : Int32)) L = true then
  if hs_kd g s2 = 9 then
  hs_bd (fX11_told s2 s1 s0 (xs (v3 + (3 : Int32)).toNatClampNeg) g) fun r50 g49 =>
  if hs_in (v3 + (1 : Int32)) L = true then
  if hs_in (v3 + (2 : Int32)) L = true then
  if (xs (v3 + (2 : Int32)).toNatClampNeg) = 0 then (
    jL_law_277 xs L rec v1 v2 v3 (0 : Int32) (xs (v3 + (1 : Int32)).toNatClampNeg) v2 g49
  ) else (
    jL_law_277 xs L rec v1 v2 v3 (1 : Int32) (xs (v3 + (1 : Int32)).toNatClampNeg) v2 g49
  )
  else none else none else none else none
def jL_law_336 (xs : Nat → Int32) (L : Nat) (rec : Int32 → hs_S → Option (Nat × hs_S)) (v1 : Nat) (v2 : Nat) (v3 : Int32) (s0 : Int32) (s1 : Int32) (s2 : Nat) (g : hs_S) : Option (Nat × hs_S) :=
  if hs_in (v3 + (3 : Int32)) L = true then
  if hs_kd g s2 = 10 then
  hs_bd (fX12_byteAt s2 s1 s0 (xs (v3 + (3 : Int32)).toNatClampNeg) g) fun r71 g70 =>
  jL_law_609 xs L rec v1 v2 v3 g70
  else none else none
def jL_law_308 (xs : Nat → Int32) (L : Nat) (rec : Int32 → hs_S → Option (Nat × hs_S)) (v1 : Nat) (v2 : Nat) (v3 : Int32) (s0 : Int32) (s1 : Int32) (s2 : Nat) (g : hs_S) : Option (Nat × hs_S) :=
  if hs_in (v3 + (3 : Int32)) L = true then
  if hs_kd g s2 = 9 then
  hs_bd (fX11_byteAt s2 s1 s0 (xs (v3 + (3 : Int32)).toNatClampNeg) g) fun r64 g63 =>
  if hs_in (v3 + (1 : Int32)) L = true then
  if hs_in (v3 + (2 : Int32)) L = true then
  if (xs (v3 + (2 : Int32)).toNatClampNeg) = 0 then (
    jL_law_336 xs L rec v1 v2 v3 (0 : Int32) (xs (v3 + (1 : Int32)).toNatClampNeg) v2 g63
  ) else (
    jL_law_336 xs L rec v1 v2 v3 (1 : Int32) (xs (v3 + (1 : Int32)).toNatClampNeg) v2 g63
  )
  else none else none else none else none
def jL_law_400 (xs : Nat → Int32) (L : Nat) (rec : Int32 → hs_S → Option (Nat × hs_S)) (v1 : Nat) (v2 : Nat) (v3 : Int32) (s0 : Int32) (s1 : Int32) (s2 : Nat) (g : hs_S) : Option (Nat × hs_S) :=
  if hs_in (v3 + (3 : Int32)) L = true then
  if hs_in (v3 + (4 : Int32)) L = true then
  if hs_kd g s2 = 10 then
  hs_bd (fX12_handler s2 s1 s0 (xs (v3 + (3 : Int32)).toNatClampNeg) (xs (v3 + (4 : Int32)).toNatClampNeg) g) fun r87 g86 =>
  jL_law_609 xs L rec v1 v2 v3 g86
  else none else none else none
def jL_law_367 (xs : Nat → Int32) (L : Nat) (rec : Int32 → hs_S → Option (Nat × hs_S)) (v1 : Nat) (v2 : Nat) (v3 : Int32) (s0 : Int32) (s1 : Int32) (s2 : Nat) (g : hs_S) : Option (Nat × hs_S) :=
  if hs_in (v3 + (3 : Int32)) L = true then
  if hs_in (v3 + (4 : Int32)) L = true then
  if hs_kd g s2 = 9 then
  hs_bd (fX11_handler s2 s1 s0 (xs (v3 + (3 : Int32)).toNatClampNeg) (xs (v3 + (4 : Int32)).toNatClampNeg) g) fun r79 g78 =>
  if hs_in (v3 + (1 : Int32)) L = true then
  if hs_in (v3 + (2 : Int32)) L = true then
  if (xs (v3 + (2 : Int32)).toNatClampNeg) = 0 then (
    jL_law_400 xs L rec v1 v2 v3 (0 : Int32) (xs (v3 + (1 : Int32)).toNatClampNeg) v2 g78
  ) else (
    jL_law_400 xs L rec v1 v2 v3 (1 : Int32) (xs (v3 + (1 : Int32)).toNatClampNeg) v2 g78
  )
  else none else none else none else none else none
def lL_law_18 (xs : Nat → Int32) (L : Nat) : Nat → Nat → Nat → Int32 → hs_S → Option (Nat × hs_S)
  | 0, _, _, _, _ => none
  | n + 1, v1, v2, v3, g =>
    if ((Int32.ofNat L) - (5 : Int32)) < v3 then (
      some (0, g)
    ) else (
      if hs_in v3 L = true then
      if ((xs v3.toNatClampNeg) &&& (15 : Int32)) = (0 : Int32) then (
        if hs_in (v3 + (1 : Int32)) L = true then
        if hs_in (v3 + (2 : Int32)) L = true then
        if hs_in (v3 + (3 : Int32)) L = true then
        if hs_kd g v1 = 9 then
        hs_bd (fX11_feed v1 ((((xs (v3 + (1 : Int32)).toNatClampNeg).toInt64) <<< ((32 : Int32).toInt64 &&& 63)) ||| (((xs (v3 + (2 : Int32)).toNatClampNeg).toInt64) &&& (4294967295 : Int64))) (xs (v3 + (3 : Int32)).toNatClampNeg) g) fun r13 g12 =>
        if hs_kd g12 v2 = 10 then
        hs_bd (fX12_feed v2 ((((xs (v3 + (1 : Int32)).toNatClampNeg).toInt64) <<< ((32 : Int32).toInt64 &&& 63)) ||| (((xs (v3 + (2 : Int32)).toNatClampNeg).toInt64) &&& (4294967295 : Int64))) (xs (v3 + (3 : Int32)).toNatClampNeg) g12) fun r17 g16 =>
        jL_law_609 xs L (fun y0 g => lL_law_18 xs L n v1 v2 y0 g) v1 v2 v3 g16
        else none else none else none else none else none
      ) else (
      if ((xs v3.toNatClampNeg) &&& (15 : Int32)) = (1 : Int32) then (
        if hs_kd g v1 = 9 then
        hs_bd (fX11_load v1 g) fun r21 g20 =>
        if hs_kd g20 v2 = 10 then
        hs_bd (fX12_load v2 g20) fun r25 g24 =>
        jL_law_609 xs L (fun y0 g => lL_law_18 xs L n v1 v2 y0 g) v1 v2 v3 g24
        else none else none
      ) else (
      if ((xs v3.toNatClampNeg) &&& (15 : Int32)) = (2 : Int32) then (
        if hs_in (v3 + (1 : Int32)) L = true then
        if hs_in (v3 + (2 : Int32)) L = true then
        if hs_kd g v1 = 9 then
        hs_bd (fX11_price v1 (xs (v3 + (1 : Int32)).toNatClampNeg) (xs (v3 + (2 : Int32)).toNatClampNeg) g) fun r31 g30 =>
        if hs_kd g30 v2 = 10 then
        hs_bd (fX12_price v2 (xs (v3 + (1 : Int32)).toNatClampNeg) (xs (v3 + (2 : Int32)).toNatClampNeg) g30) fun r35 g34 =>
        jL_law_609 xs L (fun y0 g => lL_law_18 xs L n v1 v2 y0 g) v1 v2 v3 g34
        else none else none else none else none
      ) else (
      if ((xs v3.toNatClampNeg) &&& (15 : Int32)) = (3 : Int32) then (
        if hs_kd g v1 = 9 then
        hs_bd (fX11_rewrite v1 g) fun r39 g38 =>
        if hs_kd g38 v2 = 10 then
        hs_bd (fX12_rewrite v2 g38) fun r43 g42 =>
        jL_law_609 xs L (fun y0 g => lL_law_18 xs L n v1 v2 y0 g) v1 v2 v3 g42
        else none else none
      ) else (
      if ((xs v3.toNatClampNeg) &&& (15 : Int32)) = (4 : Int32) then (
        if hs_in (v3 + (1 : Int32)) L = true then
        if hs_in (v3 + (2 : Int32)) L = true then
        if (xs (v3 + (2 : Int32)).toNatClampNeg) = 0 then (
          jL_law_249 xs L (fun y0 g => lL_law_18 xs L n v1 v2 y0 g) v1 v2 v3 (0 : Int32) (xs (v3 + (1 : Int32)).toNatClampNeg) v1 g
        ) else (
          jL_law_249 xs L (fun y0 g => lL_law_18 xs L n v1 v2 y0 g) v1 v2 v3 (1 : Int32) (xs (v3 + (1 : Int32)).toNatClampNeg) v1 g
        )
        else none else none
      ) else (
      if ((xs v3.toNatClampNeg) &&& (15 : Int32)) = (5 : Int32) then (
        if hs_in (v3 + (1 : Int32)) L = true then
        if hs_in (v3 + (2 : Int32)) L = true then
        if (xs (v3 + (2 : Int32)).toNatClampNeg) = 0 then (
          jL_law_308 xs L (fun y0 g => lL_law_18 xs L n v1 v2 y0 g) v1 v2 v3 (0 : Int32) (xs (v3 + (1 : Int32)).toNatClampNeg) v1 g
        ) else (
          jL_law_308 xs L (fun y0 g => lL_law_18 xs L n v1 v2 y0 g) v1 v2 v3 (1 : Int32) (xs (v3 + (1 : Int32)).toNatClampNeg) v1 g
        )
        else none else none
      ) else (
      if ((xs v3.toNatClampNeg) &&& (15 : Int32)) = (6 : Int32) then (
        if hs_in (v3 + (1 : Int32)) L = true then
        if hs_in (v3 + (2 : Int32)) L = true then
        if (xs (v3 + (2 : Int32)).toNatClampNeg) = 0 then (
          jL_law_367 xs L (fun y0 g => lL_law_18 xs L n v1 v2 y0 g) v1 v2 v3 (0 : Int32) (xs (v3 + (1 : Int32)).toNatClampNeg) v1 g
        ) else (
          jL_law_367 xs L (fun y0 g => lL_law_18 xs L n v1 v2 y0 g) v1 v2 v3 (1 : Int32) (xs (v3 + (1 : Int32)).toNatClampNeg) v1 g
        )
        else none else none
      ) else (
      if ((xs v3.toNatClampNeg) &&& (15 : Int32)) = (7 : Int32) then (
        if hs_in (v3 + (1 : Int32)) L = true then
        if hs_in (v3 + (2 : Int32)) L = true then
        if hs_in (v3 + (3 : Int32)) L = true then
        if hs_kd g v1 = 9 then
        hs_bd (fX11_block v1 (xs (v3 + (1 : Int32)).toNatClampNeg) (xs (v3 + (2 : Int32)).toNatClampNeg) (xs (v3 + (3 : Int32)).toNatClampNeg) g) fun r94 g93 =>
        if hs_kd g93 v2 = 10 then
        hs_bd (fX12_block v2 (xs (v3 + (1 : Int32)).toNatClampNeg) (xs (v3 + (2 : Int32)).toNatClampNeg) (xs (v3 + (3 : Int32)).toNatClampNeg) g93) fun r98 g97 =>
        jL_law_609 xs L (fun y0 g => lL_law_18 xs L n v1 v2 y0 g) v1 v2 v3 g97
        else none else none else none else none else none
      ) else (
      if ((xs v3.toNatClampNeg) &&& (15 : Int32)) = (8 : Int32) then (
        if hs_in (v3 + (1 : Int32)) L = true then
        if hs_in (v3 + (2 : Int32)) L = true then
        if hs_in (v3 + (3 : Int32)) L = true then
        if hs_in (v3 + (4 : Int32)) L = true then
        if hs_kd g v1 = 9 then
        hs_bd (fX11_run v1 (xs (v3 + (1 : Int32)).toNatClampNeg) (xs (v3 + (2 : Int32)).toNatClampNeg) (xs (v3 + (3 : Int32)).toNatClampNeg) (xs (v3 + (4 : Int32)).toNatClampNeg) g) fun r106 g105 =>
        if hs_kd g105 v2 = 10 then
        hs_bd (fX12_run v2 (xs (v3 + (1 : Int32)).toNatClampNeg) (xs (v3 + (2 : Int32)).toNatClampNeg) (xs (v3 + (3 : Int32)).toNatClampNeg) (xs (v3 + (4 : Int32)).toNatClampNeg) g105) fun r110 g109 =>
        jL_law_609 xs L (fun y0 g => lL_law_18 xs L n v1 v2 y0 g) v1 v2 v3 g109
        else none else none else none else none else none else none
      ) else (
      if ((xs v3.toNatClampNeg) &&& (15 : Int32)) = (9 : Int32) then (
        if hs_kd g v1 = 9 then
        hs_bd (fX11_answer v1 g) fun r114 g113 =>
        if hs_kd g113 v2 = 10 then
        hs_bd (fX12_answer v2 g113) fun r118 g117 =>
        jL_law_609 xs L (fun y0 g => lL_law_18 xs L n v1 v2 y0 g) v1 v2 v3 g117
        else none else none
      ) else (
      if ((xs v3.toNatClampNeg) &&& (15 : Int32)) = (10 : Int32) then (
        if hs_kd g v1 = 9 then
        hs_bd (fX11_counted v1 g) fun r122 g121 =>
        if hs_kd g121 v2 = 10 then
        hs_bd (fX12_counted v2 g121) fun r126 g125 =>
        jL_law_609 xs L (fun y0 g => lL_law_18 xs L n v1 v2 y0 g) v1 v2 v3 g125
        else none else none
      ) else (
      if ((xs v3.toNatClampNeg) &&& (15 : Int32)) = (11 : Int32) then (
        if hs_kd g v1 = 9 then
        hs_bd (fX11_steps v1 g) fun r130 g129 =>
        if hs_kd g129 v2 = 10 then
        hs_bd (fX12_steps v2 g129) fun r134 g133 =>
        jL_law_609 xs L (fun y0 g => lL_law_18 xs L n v1 v2 y0 g) v1 v2 v3 g133
        else none else none
      ) else (
      if ((xs v3.toNatClampNeg) &&& (15 : Int32)) = (12 : Int32) then (
        if hs_in (v3 + (1 : Int32)) L = true then
        if hs_in (v3 + (2 : Int32)) L = true then
        if hs_kd g v1 = 9 then
        hs_bd (fX11_element v1 (xs (v3 + (1 : Int32)).toNatClampNeg) (xs (v3 + (2 : Int32)).toNatClampNeg) g) fun r140 g139 =>
        if hs_kd g139 v2 = 10 then
        hs_bd (fX12_element v2 (xs (v3 + (1 : Int32)).toNatClampNeg) (xs (v3 + (2 : Int32)).toNatClampNeg) g139) fun r144 g143 =>
        if r140 = r144 then (
          jL_law_609 xs L (fun y0 g => lL_law_18 xs L n v1 v2 y0 g) v1 v2 v3 g143
        ) else (
          some (1, g143)
        )
        else none else none else none else none
      ) else (
      if ((xs v3.toNatClampNeg) &&& (15 : Int32)) = (13 : Int32) then (
        if hs_kd g v1 = 9 then
        hs_bd (fX11_unwrite v1 g) fun r148 g147 =>
        if hs_kd g147 v2 = 10 then
        hs_bd (fX12_unwrite v2 g147) fun r152 g151 =>
        jL_law_609 xs L (fun y0 g => lL_law_18 xs L n v1 v2 y0 g) v1 v2 v3 g151
        else none else none
      ) else (
      if ((xs v3.toNatClampNeg) &&& (15 : Int32)) = (14 : Int32) then (
        if hs_kd g v1 = 9 then
        hs_bv (fX11_clear v1 g) fun g155 =>
        if hs_kd g155 v2 = 10 then
        hs_bv (fX12_clear v2 g155) fun g159 =>
        jL_law_609 xs L (fun y0 g => lL_law_18 xs L n v1 v2 y0 g) v1 v2 v3 g159
        else none else none
      ) else (
        jL_law_609 xs L (fun y0 g => lL_law_18 xs L n v1 v2 y0 g) v1 v2 v3 g
      )))))))))))))))
      else none
    )
theorem lL_law_18_s (xs : Nat → Int32) (L : Nat) (n : Nat) (v1 : Nat) (v2 : Nat) (v3 : Int32) (g : hs_S) : lL_law_18 xs L (n + 1) v1 v2 v3 g =
    if ((Int32.ofNat L) - (5 : Int32)) < v3 then (
      some (0, g)
    ) else (
      if hs_in v3 L = true then
      if ((xs v3.toNatClampNeg) &&& (15 : Int32)) = (0 : Int32) then (
        if hs_in (v3 + (1 : Int32)) L = true then
        if hs_in (v3 + (2 : Int32)) L = true then
        if hs_in (v3 + (3 : Int32)) L = true then
        if hs_kd g v1 = 9 then
        hs_bd (fX11_feed v1 ((((xs (v3 + (1 : Int32)).toNatClampNeg).toInt64) <<< ((32 : Int32).toInt64 &&& 63)) ||| (((xs (v3 + (2 : Int32)).toNatClampNeg).toInt64) &&& (4294967295 : Int64))) (xs (v3 + (3 : Int32)).toNatClampNeg) g) fun r13 g12 =>
        if hs_kd g12 v2 = 10 then
        hs_bd (fX12_feed v2 ((((xs (v3 + (1 : Int32)).toNatClampNeg).toInt64) <<< ((32 : Int32).toInt64 &&& 63)) ||| (((xs (v3 + (2 : Int32)).toNatClampNeg).toInt64) &&& (4294967295 : Int64))) (xs (v3 + (3 : Int32)).toNatClampNeg) g12) fun r17 g16 =>
        jL_law_609 xs L (fun y0 g => lL_law_18 xs L n v1 v2 y0 g) v1 v2 v3 g16
        else none else none else none else none else none
      ) else (
      if ((xs v3.toNatClampNeg) &&& (15 : Int32)) = (1 : Int32) then (
        if hs_kd g v1 = 9 then
        hs_bd (fX11_load v1 g) fun r21 g20 =>
        if hs_kd g20 v2 = 10 then
        hs_bd (fX12_load v2 g20) fun r25 g24 =>
        jL_law_609 xs L (fun y0 g => lL_law_18 xs L n v1 v2 y0 g) v1 v2 v3 g24
        else none else none
      ) else (
      if ((xs v3.toNatClampNeg) &&& (15 : Int32)) = (2 : Int32) then (
        if hs_in (v3 + (1 : Int32)) L = true then
        if hs_in (v3 + (2 : Int32)) L = true then
        if hs_kd g v1 = 9 then
        hs_bd (fX11_price v1 (xs (v3 + (1 : Int32)).toNatClampNeg) (xs (v3 + (2 : Int32)).toNatClampNeg) g) fun r31 g30 =>
        if hs_kd g30 v2 = 10 then
        hs_bd (fX12_price v2 (xs (v3 + (1 : Int32)).toNatClampNeg) (xs (v3 + (2 : Int32)).toNatClampNeg) g30) fun r35 g34 =>
        jL_law_609 xs L (fun y0 g => lL_law_18 xs L n v1 v2 y0 g) v1 v2 v3 g34
        else none else none else none else none
      ) else (
      if ((xs v3.toNatClampNeg) &&& (15 : Int32)) = (3 : Int32) then (
        if hs_kd g v1 = 9 then
        hs_bd (fX11_rewrite v1 g) fun r39 g38 =>
        if hs_kd g38 v2 = 10 then
        hs_bd (fX12_rewrite v2 g38) fun r43 g42 =>
        jL_law_609 xs L (fun y0 g => lL_law_18 xs L n v1 v2 y0 g) v1 v2 v3 g42
        else none else none
      ) else (
      if ((xs v3.toNatClampNeg) &&& (15 : Int32)) = (4 : Int32) then (
        if hs_in (v3 + (1 : Int32)) L = true then
        if hs_in (v3 + (2 : Int32)) L = true then
        if (xs (v3 + (2 : Int32)).toNatClampNeg) = 0 then (
          jL_law_249 xs L (fun y0 g => lL_law_18 xs L n v1 v2 y0 g) v1 v2 v3 (0 : Int32) (xs (v3 + (1 : Int32)).toNatClampNeg) v1 g
        ) else (
          jL_law_249 xs L (fun y0 g => lL_law_18 xs L n v1 v2 y0 g) v1 v2 v3 (1 : Int32) (xs (v3 + (1 : Int32)).toNatClampNeg) v1 g
        )
        else none else none
      ) else (
      if ((xs v3.toNatClampNeg) &&& (15 : Int32)) = (5 : Int32) then (
        if hs_in (v3 + (1 : Int32)) L = true then
        if hs_in (v3 + (2 : Int32)) L = true then
        if (xs (v3 + (2 : Int32)).toNatClampNeg) = 0 then (
          jL_law_308 xs L (fun y0 g => lL_law_18 xs L n v1 v2 y0 g) v1 v2 v3 (0 : Int32) (xs (v3 + (1 : Int32)).toNatClampNeg) v1 g
        ) else (
          jL_law_308 xs L (fun y0 g => lL_law_18 xs L n v1 v2 y0 g) v1 v2 v3 (1 : Int32) (xs (v3 + (1 : Int32)).toNatClampNeg) v1 g
        )
        else none else none
      ) else (
      if ((xs v3.toNatClampNeg) &&& (15 : Int32)) = (6 : Int32) then (
        if hs_in (v3 + (1 : Int32)) L = true then
        if hs_in (v3 + (2 : Int32)) L = true then
        if (xs (v3 + (2 : Int32)).toNatClampNeg) = 0 then (
          jL_law_367 xs L (fun y0 g => lL_law_18 xs L n v1 v2 y0 g) v1 v2 v3 (0 : Int32) (xs (v3 + (1 : Int32)).toNatClampNeg) v1 g
        ) else (
          jL_law_367 xs L (fun y0 g => lL_law_18 xs L n v1 v2 y0 g) v1 v2 v3 (1 : Int32) (xs (v3 + (1 : Int32)).toNatClampNeg) v1 g
        )
        else none else none
      ) else (
      if ((xs v3.toNatClampNeg) &&& (15 : Int32)) = (7 : Int32) then (
        if hs_in (v3 + (1 : Int32)) L = true then
        if hs_in (v3 + (2 : Int32)) L = true then
        if hs_in (v3 + (3 : Int32)) L = true then
        if hs_kd g v1 = 9 then
        hs_bd (fX11_block v1 (xs (v3 + (1 : Int32)).toNatClampNeg) (xs (v3 + (2 : Int32)).toNatClampNeg) (xs (v3 + (3 : Int32)).toNatClampNeg) g) fun r94 g93 =>
        if hs_kd g93 v2 = 10 then
        hs_bd (fX12_block v2 (xs (v3 + (1 : Int32)).toNatClampNeg) (xs (v3 + (2 : Int32)).toNatClampNeg) (xs (v3 + (3 : Int32)).toNatClampNeg) g93) fun r98 g97 =>
        jL_law_609 xs L (fun y0 g => lL_law_18 xs L n v1 v2 y0 g) v1 v2 v3 g97
        else none else none else none else none else none
      ) else (
      if ((xs v3.toNatClampNeg) &&& (15 : Int32)) = (8 : Int32) then (
        if hs_in (v3 + (1 : Int32)) L = true then
        if hs_in (v3 + (2 : Int32)) L = true then
        if hs_in (v3 + (3 : Int32)) L = true then
        if hs_in (v3 + (4 : Int32)) L = true then
        if hs_kd g v1 = 9 then
        hs_bd (fX11_run v1 (xs (v3 + (1 : Int32)).toNatClampNeg) (xs (v3 + (2 : Int32)).toNatClampNeg) (xs (v3 + (3 : Int32)).toNatClampNeg) (xs (v3 + (4 : Int32)).toNatClampNeg) g) fun r106 g105 =>
        if hs_kd g105 v2 = 10 then
        hs_bd (fX12_run v2 (xs (v3 + (1 : Int32)).toNatClampNeg) (xs (v3 + (2 : Int32)).toNatClampNeg) (xs (v3 + (3 : Int32)).toNatClampNeg) (xs (v3 + (4 : Int32)).toNatClampNeg) g105) fun r110 g109 =>
        jL_law_609 xs L (fun y0 g => lL_law_18 xs L n v1 v2 y0 g) v1 v2 v3 g109
        else none else none else none else none else none else none
      ) else (
      if ((xs v3.toNatClampNeg) &&& (15 : Int32)) = (9 : Int32) then (
        if hs_kd g v1 = 9 then
        hs_bd (fX11_answer v1 g) fun r114 g113 =>
        if hs_kd g113 v2 = 10 then
        hs_bd (fX12_answer v2 g113) fun r118 g117 =>
        jL_law_609 xs L (fun y0 g => lL_law_18 xs L n v1 v2 y0 g) v1 v2 v3 g117
        else none else none
      ) else (
      if ((xs v3.toNatClampNeg) &&& (15 : Int32)) = (10 : Int32) then (
        if hs_kd g v1 = 9 then
        hs_bd (fX11_counted v1 g) fun r122 g121 =>
        if hs_kd g121 v2 = 10 then
        hs_bd (fX12_counted v2 g121) fun r126 g125 =>
        jL_law_609 xs L (fun y0 g => lL_law_18 xs L n v1 v2 y0 g) v1 v2 v3 g125
        else none else none
      ) else (
      if ((xs v3.toNatClampNeg) &&& (15 : Int32)) = (11 : Int32) then (
        if hs_kd g v1 = 9 then
        hs_bd (fX11_steps v1 g) fun r130 g129 =>
        if hs_kd g129 v2 = 10 then
        hs_bd (fX12_steps v2 g129) fun r134 g133 =>
        jL_law_609 xs L (fun y0 g => lL_law_18 xs L n v1 v2 y0 g) v1 v2 v3 g133
        else none else none
      ) else (
      if ((xs v3.toNatClampNeg) &&& (15 : Int32)) = (12 : Int32) then (
        if hs_in (v3 + (1 : Int32)) L = true then
        if hs_in (v3 + (2 : Int32)) L = true then
        if hs_kd g v1 = 9 then
        hs_bd (fX11_element v1 (xs (v3 + (1 : Int32)).toNatClampNeg) (xs (v3 + (2 : Int32)).toNatClampNeg) g) fun r140 g139 =>
        if hs_kd g139 v2 = 10 then
        hs_bd (fX12_element v2 (xs (v3 + (1 : Int32)).toNatClampNeg) (xs (v3 + (2 : Int32)).toNatClampNeg) g139) fun r144 g143 =>
        if r140 = r144 then (
          jL_law_609 xs L (fun y0 g => lL_law_18 xs L n v1 v2 y0 g) v1 v2 v3 g143
        ) else (
          some (1, g143)
        )
        else none else none else none else none
      ) else (
      if ((xs v3.toNatClampNeg) &&& (15 : Int32)) = (13 : Int32) then (
        if hs_kd g v1 = 9 then
        hs_bd (fX11_unwrite v1 g) fun r148 g147 =>
        if hs_kd g147 v2 = 10 then
        hs_bd (fX12_unwrite v2 g147) fun r152 g151 =>
        jL_law_609 xs L (fun y0 g => lL_law_18 xs L n v1 v2 y0 g) v1 v2 v3 g151
        else none else none
      ) else (
      if ((xs v3.toNatClampNeg) &&& (15 : Int32)) = (14 : Int32) then (
        if hs_kd g v1 = 9 then
        hs_bv (fX11_clear v1 g) fun g155 =>
        if hs_kd g155 v2 = 10 then
        hs_bv (fX12_clear v2 g155) fun g159 =>
        jL_law_609 xs L (fun y0 g => lL_law_18 xs L n v1 v2 y0 g) v1 v2 v3 g159
        else none else none
      ) else (
        jL_law_609 xs L (fun y0 g => lL_law_18 xs L n v1 v2 y0 g) v1 v2 v3 g
      )))))))))))))))
      else none
    ) := rfl
def fL_law (xs : Nat → Int32) (L : Nat) (g : hs_S) : Option (Int32 × hs_S) :=
  hs_bv (fX11_init g.1 (hs_new g 9 0)) fun g1 =>
  hs_bv (fX12_init g1.1 (hs_new g1 10 0)) fun g4 =>
  hs_bd (lL_law_18 xs L hs_N g.1 g1.1 (0 : Int32) g4) fun k162 g163 =>
  if k162 = 0 then (
    some ((1 : Int32), g163)
  ) else (
    some ((0 : Int32), g163)
  )
set_option maxHeartbeats 4000000 in
set_option maxRecDepth 100000 in
theorem wL_law_j609 {p : Program} {l : Launch} {e : Env} {s : State} {m : MethodId} {args : Array Value} {below : List Frame} {meth : Method} {c : Code} {B : Nat} {D : va_G} {E : Nat → ClassId} {b L : Nat} {xs : Nat → Int32} (hX : hs_cl p s m args meth c D E B b L xs) {Q : State → Prop} {o : Nat × hs_S} {rec : Int32 → hs_S → Option (Nat × hs_S)} {v1 : Nat} {v2 : Nat} {v3 : Int32}  (hrec : ∀ (y0 : Int32) (g : hs_S) (H : Heap) (locs : List Loc) (ls : Array Slot), rec y0 g = some o → hs_P B D E g H → hs_Sx B s.heap H locs → lv_has ls 4 [(0, .ref b), (1, .ref (B + v1)), (2, .ref (B + v2)), (3, .int y0)] → W p l e room_1 s m args below meth c H locs 320 294704 Q (F0 m 18 ls [])) (hex0 : o.1 = 0 → ∀ (H : Heap) (locs : List Loc) (ls : Array Slot), hs_P B D E (o.2) H → hs_Sx B s.heap H locs → lv_has ls 4 [] → W p l e room_1 s m args below meth c H locs 320 294704 Q (F0 m 615 ls [])) (hex1 : o.1 = 1 → ∀ (H : Heap) (locs : List Loc) (ls : Array Slot), hs_P B D E (o.2) H → hs_Sx B s.heap H locs → lv_has ls 4 [] → W p l e room_1 s m args below meth c H locs 320 294704 Q (F0 m 583 ls [])) {g : hs_S} {H : Heap} {locs : List Loc} {ls : Array Slot} (hf : jL_law_609 xs L  rec v1 v2 v3 g = some o) (hP : hs_P B D E g H) (hS : hs_Sx B s.heap H locs) (hl : lv_has ls 4 [(0, .ref b), (1, .ref (B + v1)), (2, .ref (B + v2)), (3, .int v3)]) : W p l e room_1 s m args below meth c H locs 320 294704 Q (F0 m 609 ls []) := by
  obtain ⟨hx, hb, hr, hml, hown, hts, hlocks, hK, hXs, hbl, hbA⟩ := id hX
  unfold jL_law_609 at hf
  refine lv_iinc (v := (v3 + (5 : Int32))) (lv' := [(3, .int (v3 + (5 : Int32))), (0, .ref b), (1, .ref (B + v1)), (2, .ref (B + v2))]) hx hb dL_law_609 hl (k := 3) rfl (by rfl) (by decide) rfl (fun ls hl => ?_)
  refine lv_goto (tgt := 18) hx hb dL_law_612 (by decide) ?_
  exact hrec _ _ _ _ _ hf hP hS (lv_sub hl [1, 2, 3, 0] rfl)

set_option maxHeartbeats 4000000 in
set_option maxRecDepth 100000 in
theorem wL_law_j277 {p : Program} {l : Launch} {e : Env} {s : State} {m : MethodId} {args : Array Value} {below : List Frame} {meth : Method} {c : Code} {B : Nat} {D : va_G} {E : Nat → ClassId} {b L : Nat} {xs : Nat → Int32} (hX : hs_cl p s m args meth c D E B b L xs) {Q : State → Prop} {o : Nat × hs_S} {rec : Int32 → hs_S → Option (Nat × hs_S)} {v1 : Nat} {v2 : Nat} {v3 : Int32} {s0 : Int32} {s1 : Int32} {s2 : Nat}  (hrec : ∀ (y0 : Int32) (g : hs_S) (H : Heap) (locs : List Loc) (ls : Array Slot), rec y0 g = some o → hs_P B D E g H → hs_Sx B s.heap H locs → lv_has ls 4 [(0, .ref b), (1, .ref (B + v1)), (2, .ref (B + v2)), (3, .int y0)] → W p l e room_1 s m args below meth c H locs 320 294704 Q (F0 m 18 ls [])) (hex0 : o.1 = 0 → ∀ (H : Heap) (locs : List Loc) (ls : Array Slot), hs_P B D E (o.2) H → hs_Sx B s.heap H locs → lv_has ls 4 [] → W p l e room_1 s m args below meth c H locs 320 294704 Q (F0 m 615 ls [])) (hex1 : o.1 = 1 → ∀ (H : Heap) (locs : List Loc) (ls : Array Slot), hs_P B D E (o.2) H → hs_Sx B s.heap H locs → lv_has ls 4 [] → W p l e room_1 s m args below meth c H locs 320 294704 Q (F0 m 583 ls [])) {g : hs_S} {H : Heap} {locs : List Loc} {ls : Array Slot} (hf : jL_law_277 xs L  rec v1 v2 v3 s0 s1 s2 g = some o) (hP : hs_P B D E g H) (hS : hs_Sx B s.heap H locs) (hl : lv_has ls 4 [(0, .ref b), (1, .ref (B + v1)), (2, .ref (B + v2)), (3, .int v3)]) : W p l e room_1 s m args below meth c H locs 320 294704 Q (F0 m 277 ls [.int s0, .int s1, .ref (B + s2)]) := by
  obtain ⟨hx, hb, hr, hml, hown, hts, hlocks, hK, hXs, hbl, hbA⟩ := id hX
  unfold jL_law_277 at hf
  refine lv_aload_n hx hb dL_law_277 rfl (lv_at hl 0 rfl) ?_
  refine lv_iload_n hx hb dL_law_278 rfl (lv_at hl 3 rfl) ?_
  refine lv_iconst (v := 3) hx hb dL_law_279 (by decide) ?_
  refine lv_iadd hx hb dL_law_280 ?_
  obtain ⟨h54, hf⟩ := hs_ck hf
  refine va_sld hx hb hXs hbl hbA hS (hs_in_vp h54) dL_law_281 ?_
  obtain ⟨h55, hf⟩ := hs_ck hf
  obtain ⟨r57, g56, h58, hf⟩ := hs_bd_some hf
  refine hs_calli (va_runV (As := [.int s1, .int s0, .int (xs (v3 + (3 : Int32)).toNatClampNeg)]) (rest := []) ⟨hx, hb, hml, hown, hts⟩ (ctX12_told l B D E s2 s1 s0 (xs (v3 + (3 : Int32)).toNatClampNeg) g _ h58) (cwV 3 hts (hs_gV (fun _ h => h) wq642 wq643 wq644 wq5 wq645) rfl rfl rfl (by decide +kernel) ⟨Nat.le_of_ble_eq_true rfl, Nat.le_of_ble_eq_true rfl⟩) (hs_preV (r := (RX12, TX12, 48)) hP hK h55 (by decide) rfl) rfl rfl hl.1 rfl (lv_room (Nat.le_of_ble_eq_true rfl)) dL_law_282 ⟨(Nat.le_of_ble_eq_true rfl), (Nat.le_of_ble_eq_true rfl)⟩) hS (fun H locs hP hS => ?_)
  refine lv_pop hx hb dL_law_285 rfl ?_
  refine lv_goto (tgt := 609) hx hb dL_law_286 (by decide) ?_
  exact wL_law_j609 hX hrec hex0 hex1 hf hP hS (lv_sub hl [0, 1, 2, 3] rfl)

set_option maxHeartbeats 4000000 in
set_option maxRecDepth 100000 in
theorem wL_law_j249 {p : Program} {l : Launch} {e : Env} {s : State} {m : MethodId} {args : Array Value} {below : List Frame} {meth : Method} {c : Code} {B : Nat} {D : va_G} {E : Nat → ClassId} {b L : Nat} {xs : Nat → Int32} (hX : hs_cl p s m args meth c D E B b L xs) {Q : State → Prop} {o : Nat × hs_S} {rec : Int32 → hs_S → Option (Nat × hs_S)} {v1 : Nat} {v2 : Nat} {v3 : Int32} {s0 : Int32} {s1 : Int32} {s2 : Nat}  (hrec : ∀ (y0 : Int32) (g : hs_S) (H : Heap) (locs : List Loc) (ls : Array Slot), rec y0 g = some o → hs_P B D E g H → hs_Sx B s.heap H locs → lv_has ls 4 [(0, .ref b), (1, .ref (B + v1)), (2, .ref (B + v2)), (3, .int y0)] → W p l e room_1 s m args below meth c H locs 320 294704 Q (F0 m 18 ls [])) (hex0 : o.1 = 0 → ∀ (H : Heap) (locs : List Loc) (ls : Array Slot), hs_P B D E (o.2) H → hs_Sx B s.heap H locs → lv_has ls 4 [] → W p l e room_1 s m args below meth c H locs 320 294704 Q (F0 m 615 ls [])) (hex1 : o.1 = 1 → ∀ (H : Heap) (locs : List Loc) (ls : Array Slot), hs_P B D E (o.2) H → hs_Sx B s.heap H locs → lv_has ls 4 [] → W p l e room_1 s m args below meth c H locs 320 294704 Q (F0 m 583 ls [])) {g : hs_S} {H : Heap} {locs : List Loc} {ls : Array Slot} (hf : jL_law_249 xs L  rec v1 v2 v3 s0 s1 s2 g = some o) (hP : hs_P B D E g H) (hS : hs_Sx B s.heap H locs) (hl : lv_has ls 4 [(0, .ref b), (1, .ref (B + v1)), (2, .ref (B + v2)), (3, .int v3)]) : W p l e room_1 s m args below meth c H locs 320 294704 Q (F0 m 249 ls [.int s0, .int s1, .ref (B + s2)]) := by
  obtain ⟨hx, hb, hr, hml, hown, hts, hlocks, hK, hXs, hbl, hbA⟩ := id hX
  unfold jL_law_249 at hf
  refine lv_aload_n hx hb dL_law_249 rfl (lv_at hl 0 rfl) ?_
  refine lv_iload_n hx hb dL_law_250 rfl (lv_at hl 3 rfl) ?_
  refine lv_iconst (v := 3) hx hb dL_law_251 (by decide) ?_
  refine lv_iadd hx hb dL_law_252 ?_
  obtain ⟨h47, hf⟩ := hs_ck hf
  refine va_sld hx hb hXs hbl hbA hS (hs_in_vp h47) dL_law_253 ?_
  obtain ⟨h48, hf⟩ := hs_ck hf
  obtain ⟨r50, g49, h51, hf⟩ := hs_bd_some hf
  refine hs_calli (va_runV (As := [.int s1, .int s0, .int (xs (v3 + (3 : Int32)).toNatClampNeg)]) (rest := []) ⟨hx, hb, hml, hown, hts⟩ (ctX11_told l B D E s2 s1 s0 (xs (v3 + (3 : Int32)).toNatClampNeg) g _ h51) (cwV 3 hts (hs_gV (fun _ h => h) wq631 wq632 wq633 wq2 wq634) rfl rfl rfl (by decide +kernel) ⟨Nat.le_of_ble_eq_true rfl, Nat.le_of_ble_eq_true rfl⟩) (hs_preV (r := (RX11, TX11, 8)) hP hK h48 (by decide) rfl) rfl rfl hl.1 rfl (lv_room (Nat.le_of_ble_eq_true rfl)) dL_law_254 ⟨(Nat.le_of_ble_eq_true rfl), (Nat.le_of_ble_eq_true rfl)⟩) hS (fun H locs hP hS => ?_)
  refine lv_pop hx hb dL_law_257 rfl ?_
  refine lv_aload_n hx hb dL_law_258 rfl (lv_at hl 2 rfl) ?_
  refine lv_aload_n hx hb dL_law_259 rfl (lv_at hl 0 rfl) ?_
  refine lv_iload_n hx hb dL_law_260 rfl (lv_at hl 3 rfl) ?_
  refine lv_iconst (v := 1) hx hb dL_law_261 (by decide) ?_
  refine lv_iadd hx hb dL_law_262 ?_
  obtain ⟨h52, hf⟩ := hs_ck hf
  refine va_sld hx hb hXs hbl hbA hS (hs_in_vp h52) dL_law_263 ?_
  refine lv_aload_n hx hb dL_law_264 rfl (lv_at hl 0 rfl) ?_
  refine lv_iload_n hx hb dL_law_265 rfl (lv_at hl 3 rfl) ?_
  refine lv_iconst (v := 2) hx hb dL_law_266 (by decide) ?_
  refine lv_iadd hx hb dL_law_267 ?_
  obtain ⟨h53, hf⟩ := hs_ck hf
  refine va_sld hx hb hXs hbl hbA hS (hs_in_vp h53) dL_law_268 ?_
  refine lv_if_eq (tgt := 276) hx hb dL_law_269 (by decide) (fun hc => ?_) (fun hc => ?_)
  · replace hf := hs_t hf hc
    refine lv_iconst (v := 0) hx hb dL_law_276 (by decide) ?_
    exact wL_law_j277 hX hrec hex0 hex1 hf hP hS (lv_sub hl [0, 1, 2, 3] rfl)
  · replace hf := hs_f hf hc
    refine lv_iconst (v := 1) hx hb dL_law_272 (by decide) ?_
    refine lv_goto (tgt := 277) hx hb dL_law_273 (by decide) ?_
    exact wL_law_j277 hX hrec hex0 hex1 hf hP hS (lv_sub hl [0, 1, 2, 3] rfl)

set_option maxHeartbeats 4000000 in
set_option maxRecDepth 100000 in
theorem wL_law_j336 {p : Program} {l : Launch} {e : Env} {s : State} {m : MethodId} {args : Array Value} {below : List Frame} {meth : Method} {c : Code} {B : Nat} {D : va_G} {E : Nat → ClassId} {b L : Nat} {xs : Nat → Int32} (hX : hs_cl p s m args meth c D E B b L xs) {Q : State → Prop} {o : Nat × hs_S} {rec : Int32 → hs_S → Option (Nat × hs_S)} {v1 : Nat} {v2 : Nat} {v3 : Int32} {s0 : Int32} {s1 : Int32} {s2 : Nat}  (hrec : ∀ (y0 : Int32) (g : hs_S) (H : Heap) (locs : List Loc) (ls : Array Slot), rec y0 g = some o → hs_P B D E g H → hs_Sx B s.heap H locs → lv_has ls 4 [(0, .ref b), (1, .ref (B + v1)), (2, .ref (B + v2)), (3, .int y0)] → W p l e room_1 s m args below meth c H locs 320 294704 Q (F0 m 18 ls [])) (hex0 : o.1 = 0 → ∀ (H : Heap) (locs : List Loc) (ls : Array Slot), hs_P B D E (o.2) H → hs_Sx B s.heap H locs → lv_has ls 4 [] → W p l e room_1 s m args below meth c H locs 320 294704 Q (F0 m 615 ls [])) (hex1 : o.1 = 1 → ∀ (H : Heap) (locs : List Loc) (ls : Array Slot), hs_P B D E (o.2) H → hs_Sx B s.heap H locs → lv_has ls 4 [] → W p l e room_1 s m args below meth c H locs 320 294704 Q (F0 m 583 ls [])) {g : hs_S} {H : Heap} {locs : List Loc} {ls : Array Slot} (hf : jL_law_336 xs L  rec v1 v2 v3 s0 s1 s2 g = some o) (hP : hs_P B D E g H) (hS : hs_Sx B s.heap H locs) (hl : lv_has ls 4 [(0, .ref b), (1, .ref (B + v1)), (2, .ref (B + v2)), (3, .int v3)]) : W p l e room_1 s m args below meth c H locs 320 294704 Q (F0 m 336 ls [.int s0, .int s1, .ref (B + s2)]) := by
  obtain ⟨hx, hb, hr, hml, hown, hts, hlocks, hK, hXs, hbl, hbA⟩ := id hX
  unfold jL_law_336 at hf
  refine lv_aload_n hx hb dL_law_336 rfl (lv_at hl 0 rfl) ?_
  refine lv_iload_n hx hb dL_law_337 rfl (lv_at hl 3 rfl) ?_
  refine lv_iconst (v := 3) hx hb dL_law_338 (by decide) ?_
  refine lv_iadd hx hb dL_law_339 ?_
  obtain ⟨h68, hf⟩ := hs_ck hf
  refine va_sld hx hb hXs hbl hbA hS (hs_in_vp h68) dL_law_340 ?_
  obtain ⟨h69, hf⟩ := hs_ck hf
  obtain ⟨r71, g70, h72, hf⟩ := hs_bd_some hf
  refine hs_calli (va_runV (As := [.int s1, .int s0, .int (xs (v3 + (3 : Int32)).toNatClampNeg)]) (rest := []) ⟨hx, hb, hml, hown, hts⟩ (ctX12_byteAt l B D E s2 s1 s0 (xs (v3 + (3 : Int32)).toNatClampNeg) g _ h72) (cwV 3 hts (hs_gV (fun _ h => h) wq663 wq664 wq665 wq5 wq666) rfl rfl rfl (by decide +kernel) ⟨Nat.le_of_ble_eq_true rfl, Nat.le_of_ble_eq_true rfl⟩) (hs_preV (r := (RX12, TX12, 48)) hP hK h69 (by decide) rfl) rfl rfl hl.1 rfl (lv_room (Nat.le_of_ble_eq_true rfl)) dL_law_341 ⟨(Nat.le_of_ble_eq_true rfl), (Nat.le_of_ble_eq_true rfl)⟩) hS (fun H locs hP hS => ?_)
  refine lv_pop hx hb dL_law_344 rfl ?_
  refine lv_goto (tgt := 609) hx hb dL_law_345 (by decide) ?_
  exact wL_law_j609 hX hrec hex0 hex1 hf hP hS (lv_sub hl [0, 1, 2, 3] rfl)

set_option maxHeartbeats 4000000 in
set_option maxRecDepth 100000 in
theorem wL_law_j308 {p : Program} {l : Launch} {e : Env} {s : State} {m : MethodId} {args : Array Value} {below : List Frame} {meth : Method} {c : Code} {B : Nat} {D : va_G} {E : Nat → ClassId} {b L : Nat} {xs : Nat → Int32} (hX : hs_cl p s m args meth c D E B b L xs) {Q : State → Prop} {o : Nat × hs_S} {rec : Int32 → hs_S → Option (Nat × hs_S)} {v1 : Nat} {v2 : Nat} {v3 : Int32} {s0 : Int32} {s1 : Int32} {s2 : Nat}  (hrec : ∀ (y0 : Int32) (g : hs_S) (H : Heap) (locs : List Loc) (ls : Array Slot), rec y0 g = some o → hs_P B D E g H → hs_Sx B s.heap H locs → lv_has ls 4 [(0, .ref b), (1, .ref (B + v1)), (2, .ref (B + v2)), (3, .int y0)] → W p l e room_1 s m args below meth c H locs 320 294704 Q (F0 m 18 ls [])) (hex0 : o.1 = 0 → ∀ (H : Heap) (locs : List Loc) (ls : Array Slot), hs_P B D E (o.2) H → hs_Sx B s.heap H locs → lv_has ls 4 [] → W p l e room_1 s m args below meth c H locs 320 294704 Q (F0 m 615 ls [])) (hex1 : o.1 = 1 → ∀ (H : Heap) (locs : List Loc) (ls : Array Slot), hs_P B D E (o.2) H → hs_Sx B s.heap H locs → lv_has ls 4 [] → W p l e room_1 s m args below meth c H locs 320 294704 Q (F0 m 583 ls [])) {g : hs_S} {H : Heap} {locs : List Loc} {ls : Array Slot} (hf : jL_law_308 xs L  rec v1 v2 v3 s0 s1 s2 g = some o) (hP : hs_P B D E g H) (hS : hs_Sx B s.heap H locs) (hl : lv_has ls 4 [(0, .ref b), (1, .ref (B + v1)), (2, .ref (B + v2)), (3, .int v3)]) : W p l e room_1 s m args below meth c H locs 320 294704 Q (F0 m 308 ls [.int s0, .int s1, .ref (B + s2)]) := by
  obtain ⟨hx, hb, hr, hml, hown, hts, hlocks, hK, hXs, hbl, hbA⟩ := id hX
  unfold jL_law_308 at hf
  refine lv_aload_n hx hb dL_law_308 rfl (lv_at hl 0 rfl) ?_
  refine lv_iload_n hx hb dL_law_309 rfl (lv_at hl 3 rfl) ?_
  refine lv_iconst (v := 3) hx hb dL_law_310 (by decide) ?_
  refine lv_iadd hx hb dL_law_311 ?_
  obtain ⟨h61, hf⟩ := hs_ck hf
  refine va_sld hx hb hXs hbl hbA hS (hs_in_vp h61) dL_law_312 ?_
  obtain ⟨h62, hf⟩ := hs_ck hf
  obtain ⟨r64, g63, h65, hf⟩ := hs_bd_some hf
  refine hs_calli (va_runV (As := [.int s1, .int s0, .int (xs (v3 + (3 : Int32)).toNatClampNeg)]) (rest := []) ⟨hx, hb, hml, hown, hts⟩ (ctX11_byteAt l B D E s2 s1 s0 (xs (v3 + (3 : Int32)).toNatClampNeg) g _ h65) (cwV 3 hts (hs_gV (fun _ h => h) wq658 wq659 wq660 wq2 wq661) rfl rfl rfl (by decide +kernel) ⟨Nat.le_of_ble_eq_true rfl, Nat.le_of_ble_eq_true rfl⟩) (hs_preV (r := (RX11, TX11, 8)) hP hK h62 (by decide) rfl) rfl rfl hl.1 rfl (lv_room (Nat.le_of_ble_eq_true rfl)) dL_law_313 ⟨(Nat.le_of_ble_eq_true rfl), (Nat.le_of_ble_eq_true rfl)⟩) hS (fun H locs hP hS => ?_)
  refine lv_pop hx hb dL_law_316 rfl ?_
  refine lv_aload_n hx hb dL_law_317 rfl (lv_at hl 2 rfl) ?_
  refine lv_aload_n hx hb dL_law_318 rfl (lv_at hl 0 rfl) ?_
  refine lv_iload_n hx hb dL_law_319 rfl (lv_at hl 3 rfl) ?_
  refine lv_iconst (v := 1) hx hb dL_law_320 (by decide) ?_
  refine lv_iadd hx hb dL_law_321 ?_
  obtain ⟨h66, hf⟩ := hs_ck hf
  refine va_sld hx hb hXs hbl hbA hS (hs_in_vp h66) dL_law_322 ?_
  refine lv_aload_n hx hb dL_law_323 rfl (lv_at hl 0 rfl) ?_
  refine lv_iload_n hx hb dL_law_324 rfl (lv_at hl 3 rfl) ?_
  refine lv_iconst (v := 2) hx hb dL_law_325 (by decide) ?_
  refine lv_iadd hx hb dL_law_326 ?_
  obtain ⟨h67, hf⟩ := hs_ck hf
  refine va_sld hx hb hXs hbl hbA hS (hs_in_vp h67) dL_law_327 ?_
  refine lv_if_eq (tgt := 335) hx hb dL_law_328 (by decide) (fun hc => ?_) (fun hc => ?_)
  · replace hf := hs_t hf hc
    refine lv_iconst (v := 0) hx hb dL_law_335 (by decide) ?_
    exact wL_law_j336 hX hrec hex0 hex1 hf hP hS (lv_sub hl [0, 1, 2, 3] rfl)
  · replace hf := hs_f hf hc
    refine lv_iconst (v := 1) hx hb dL_law_331 (by decide) ?_
    refine lv_goto (tgt := 336) hx hb dL_law_332 (by decide) ?_
    exact wL_law_j336 hX hrec hex0 hex1 hf hP hS (lv_sub hl [0, 1, 2, 3] rfl)

set_option maxHeartbeats 4000000 in
set_option maxRecDepth 100000 in
theorem wL_law_j400 {p : Program} {l : Launch} {e : Env} {s : State} {m : MethodId} {args : Array Value} {below : List Frame} {meth : Method} {c : Code} {B : Nat} {D : va_G} {E : Nat → ClassId} {b L : Nat} {xs : Nat → Int32} (hX : hs_cl p s m args meth c D E B b L xs) {Q : State → Prop} {o : Nat × hs_S} {rec : Int32 → hs_S → Option (Nat × hs_S)} {v1 : Nat} {v2 : Nat} {v3 : Int32} {s0 : Int32} {s1 : Int32} {s2 : Nat}  (hrec : ∀ (y0 : Int32) (g : hs_S) (H : Heap) (locs : List Loc) (ls : Array Slot), rec y0 g = some o → hs_P B D E g H → hs_Sx B s.heap H locs → lv_has ls 4 [(0, .ref b), (1, .ref (B + v1)), (2, .ref (B + v2)), (3, .int y0)] → W p l e room_1 s m args below meth c H locs 320 294704 Q (F0 m 18 ls [])) (hex0 : o.1 = 0 → ∀ (H : Heap) (locs : List Loc) (ls : Array Slot), hs_P B D E (o.2) H → hs_Sx B s.heap H locs → lv_has ls 4 [] → W p l e room_1 s m args below meth c H locs 320 294704 Q (F0 m 615 ls [])) (hex1 : o.1 = 1 → ∀ (H : Heap) (locs : List Loc) (ls : Array Slot), hs_P B D E (o.2) H → hs_Sx B s.heap H locs → lv_has ls 4 [] → W p l e room_1 s m args below meth c H locs 320 294704 Q (F0 m 583 ls [])) {g : hs_S} {H : Heap} {locs : List Loc} {ls : Array Slot} (hf : jL_law_400 xs L  rec v1 v2 v3 s0 s1 s2 g = some o) (hP : hs_P B D E g H) (hS : hs_Sx B s.heap H locs) (hl : lv_has ls 4 [(0, .ref b), (1, .ref (B + v1)), (2, .ref (B + v2)), (3, .int v3)]) : W p l e room_1 s m args below meth c H locs 320 294704 Q (F0 m 400 ls [.int s0, .int s1, .ref (B + s2)]) := by
  obtain ⟨hx, hb, hr, hml, hown, hts, hlocks, hK, hXs, hbl, hbA⟩ := id hX
  unfold jL_law_400 at hf
  refine lv_aload_n hx hb dL_law_400 rfl (lv_at hl 0 rfl) ?_
  refine lv_iload_n hx hb dL_law_401 rfl (lv_at hl 3 rfl) ?_
  refine lv_iconst (v := 3) hx hb dL_law_402 (by decide) ?_
  refine lv_iadd hx hb dL_law_403 ?_
  obtain ⟨h83, hf⟩ := hs_ck hf
  refine va_sld hx hb hXs hbl hbA hS (hs_in_vp h83) dL_law_404 ?_
  refine lv_aload_n hx hb dL_law_405 rfl (lv_at hl 0 rfl) ?_
  refine lv_iload_n hx hb dL_law_406 rfl (lv_at hl 3 rfl) ?_
  refine lv_iconst (v := 4) hx hb dL_law_407 (by decide) ?_
  refine lv_iadd hx hb dL_law_408 ?_
  obtain ⟨h84, hf⟩ := hs_ck hf
  refine va_sld hx hb hXs hbl hbA hS (hs_in_vp h84) dL_law_409 ?_
  obtain ⟨h85, hf⟩ := hs_ck hf
  obtain ⟨r87, g86, h88, hf⟩ := hs_bd_some hf
  refine hs_calli (va_runV (As := [.int s1, .int s0, .int (xs (v3 + (3 : Int32)).toNatClampNeg), .int (xs (v3 + (4 : Int32)).toNatClampNeg)]) (rest := []) ⟨hx, hb, hml, hown, hts⟩ (ctX12_handler l B D E s2 s1 s0 (xs (v3 + (3 : Int32)).toNatClampNeg) (xs (v3 + (4 : Int32)).toNatClampNeg) g _ h88) (cwV 4 hts (hs_gV (fun _ h => h) wq672 wq673 wq674 wq5 wq675) rfl rfl rfl (by decide +kernel) ⟨Nat.le_of_ble_eq_true rfl, Nat.le_of_ble_eq_true rfl⟩) (hs_preV (r := (RX12, TX12, 48)) hP hK h85 (by decide) rfl) rfl rfl hl.1 rfl (lv_room (Nat.le_of_ble_eq_true rfl)) dL_law_410 ⟨(Nat.le_of_ble_eq_true rfl), (Nat.le_of_ble_eq_true rfl)⟩) hS (fun H locs hP hS => ?_)
  refine lv_pop hx hb dL_law_413 rfl ?_
  refine lv_goto (tgt := 609) hx hb dL_law_414 (by decide) ?_
  exact wL_law_j609 hX hrec hex0 hex1 hf hP hS (lv_sub hl [0, 1, 2, 3] rfl)

set_option maxHeartbeats 4000000 in
set_option maxRecDepth 100000 in
theorem wL_law_j367 {p : Program} {l : Launch} {e : Env} {s : State} {m : MethodId} {args : Array Value} {below : List Frame} {meth : Method} {c : Code} {B : Nat} {D : va_G} {E : Nat → ClassId} {b L : Nat} {xs : Nat → Int32} (hX : hs_cl p s m args meth c D E B b L xs) {Q : State → Prop} {o : Nat × hs_S} {rec : Int32 → hs_S → Option (Nat × hs_S)} {v1 : Nat} {v2 : Nat} {v3 : Int32} {s0 : Int32} {s1 : Int32} {s2 : Nat}  (hrec : ∀ (y0 : Int32) (g : hs_S) (H : Heap) (locs : List Loc) (ls : Array Slot), rec y0 g = some o → hs_P B D E g H → hs_Sx B s.heap H locs → lv_has ls 4 [(0, .ref b), (1, .ref (B + v1)), (2, .ref (B + v2)), (3, .int y0)] → W p l e room_1 s m args below meth c H locs 320 294704 Q (F0 m 18 ls [])) (hex0 : o.1 = 0 → ∀ (H : Heap) (locs : List Loc) (ls : Array Slot), hs_P B D E (o.2) H → hs_Sx B s.heap H locs → lv_has ls 4 [] → W p l e room_1 s m args below meth c H locs 320 294704 Q (F0 m 615 ls [])) (hex1 : o.1 = 1 → ∀ (H : Heap) (locs : List Loc) (ls : Array Slot), hs_P B D E (o.2) H → hs_Sx B s.heap H locs → lv_has ls 4 [] → W p l e room_1 s m args below meth c H locs 320 294704 Q (F0 m 583 ls [])) {g : hs_S} {H : Heap} {locs : List Loc} {ls : Array Slot} (hf : jL_law_367 xs L  rec v1 v2 v3 s0 s1 s2 g = some o) (hP : hs_P B D E g H) (hS : hs_Sx B s.heap H locs) (hl : lv_has ls 4 [(0, .ref b), (1, .ref (B + v1)), (2, .ref (B + v2)), (3, .int v3)]) : W p l e room_1 s m args below meth c H locs 320 294704 Q (F0 m 367 ls [.int s0, .int s1, .ref (B + s2)]) := by
  obtain ⟨hx, hb, hr, hml, hown, hts, hlocks, hK, hXs, hbl, hbA⟩ := id hX
  unfold jL_law_367 at hf
  refine lv_aload_n hx hb dL_law_367 rfl (lv_at hl 0 rfl) ?_
  refine lv_iload_n hx hb dL_law_368 rfl (lv_at hl 3 rfl) ?_
  refine lv_iconst (v := 3) hx hb dL_law_369 (by decide) ?_
  refine lv_iadd hx hb dL_law_370 ?_
  obtain ⟨h75, hf⟩ := hs_ck hf
  refine va_sld hx hb hXs hbl hbA hS (hs_in_vp h75) dL_law_371 ?_
  refine lv_aload_n hx hb dL_law_372 rfl (lv_at hl 0 rfl) ?_
  refine lv_iload_n hx hb dL_law_373 rfl (lv_at hl 3 rfl) ?_
  refine lv_iconst (v := 4) hx hb dL_law_374 (by decide) ?_
  refine lv_iadd hx hb dL_law_375 ?_
  obtain ⟨h76, hf⟩ := hs_ck hf
  refine va_sld hx hb hXs hbl hbA hS (hs_in_vp h76) dL_law_376 ?_
  obtain ⟨h77, hf⟩ := hs_ck hf
  obtain ⟨r79, g78, h80, hf⟩ := hs_bd_some hf
  refine hs_calli (va_runV (As := [.int s1, .int s0, .int (xs (v3 + (3 : Int32)).toNatClampNeg), .int (xs (v3 + (4 : Int32)).toNatClampNeg)]) (rest := []) ⟨hx, hb, hml, hown, hts⟩ (ctX11_handler l B D E s2 s1 s0 (xs (v3 + (3 : Int32)).toNatClampNeg) (xs (v3 + (4 : Int32)).toNatClampNeg) g _ h80) (cwV 4 hts (hs_gV (fun _ h => h) wq667 wq668 wq669 wq2 wq670) rfl rfl rfl (by decide +kernel) ⟨Nat.le_of_ble_eq_true rfl, Nat.le_of_ble_eq_true rfl⟩) (hs_preV (r := (RX11, TX11, 8)) hP hK h77 (by decide) rfl) rfl rfl hl.1 rfl (lv_room (Nat.le_of_ble_eq_true rfl)) dL_law_377 ⟨(Nat.le_of_ble_eq_true rfl), (Nat.le_of_ble_eq_true rfl)⟩) hS (fun H locs hP hS => ?_)
  refine lv_pop hx hb dL_law_380 rfl ?_
  refine lv_aload_n hx hb dL_law_381 rfl (lv_at hl 2 rfl) ?_
  refine lv_aload_n hx hb dL_law_382 rfl (lv_at hl 0 rfl) ?_
  refine lv_iload_n hx hb dL_law_383 rfl (lv_at hl 3 rfl) ?_
  refine lv_iconst (v := 1) hx hb dL_law_384 (by decide) ?_
  refine lv_iadd hx hb dL_law_385 ?_
  obtain ⟨h81, hf⟩ := hs_ck hf
  refine va_sld hx hb hXs hbl hbA hS (hs_in_vp h81) dL_law_386 ?_
  refine lv_aload_n hx hb dL_law_387 rfl (lv_at hl 0 rfl) ?_
  refine lv_iload_n hx hb dL_law_388 rfl (lv_at hl 3 rfl) ?_
  refine lv_iconst (v := 2) hx hb dL_law_389 (by decide) ?_
  refine lv_iadd hx hb dL_law_390 ?_
  obtain ⟨h82, hf⟩ := hs_ck hf
  refine va_sld hx hb hXs hbl hbA hS (hs_in_vp h82) dL_law_391 ?_
  refine lv_if_eq (tgt := 399) hx hb dL_law_392 (by decide) (fun hc => ?_) (fun hc => ?_)
  · replace hf := hs_t hf hc
    refine lv_iconst (v := 0) hx hb dL_law_399 (by decide) ?_
    exact wL_law_j400 hX hrec hex0 hex1 hf hP hS (lv_sub hl [0, 1, 2, 3] rfl)
  · replace hf := hs_f hf hc
    refine lv_iconst (v := 1) hx hb dL_law_395 (by decide) ?_
    refine lv_goto (tgt := 400) hx hb dL_law_396 (by decide) ?_
    exact wL_law_j400 hX hrec hex0 hex1 hf hP hS (lv_sub hl [0, 1, 2, 3] rfl)

set_option maxHeartbeats 4000000 in
set_option maxRecDepth 100000 in
theorem wL_law_18 {p : Program} {l : Launch} {e : Env} {s : State} {m : MethodId} {args : Array Value} {below : List Frame} {meth : Method} {c : Code} {B : Nat} {D : va_G} {E : Nat → ClassId} {b L : Nat} {xs : Nat → Int32} (hX : hs_cl p s m args meth c D E B b L xs) {Q : State → Prop} {o : Nat × hs_S} {v1 : Nat} {v2 : Nat} (hex0 : o.1 = 0 → ∀ (H : Heap) (locs : List Loc) (ls : Array Slot), hs_P B D E (o.2) H → hs_Sx B s.heap H locs → lv_has ls 4 [] → W p l e room_1 s m args below meth c H locs 320 294704 Q (F0 m 615 ls [])) (hex1 : o.1 = 1 → ∀ (H : Heap) (locs : List Loc) (ls : Array Slot), hs_P B D E (o.2) H → hs_Sx B s.heap H locs → lv_has ls 4 [] → W p l e room_1 s m args below meth c H locs 320 294704 Q (F0 m 583 ls [])) : ∀ (n : Nat) (v3 : Int32) (g : hs_S), lL_law_18 xs L n v1 v2 v3 g = some o → ∀ (H : Heap) (locs : List Loc) (ls : Array Slot), hs_P B D E g H → hs_Sx B s.heap H locs → lv_has ls 4 [(0, .ref b), (1, .ref (B + v1)), (2, .ref (B + v2)), (3, .int v3)] → W p l e room_1 s m args below meth c H locs 320 294704 Q (F0 m 18 ls []) := by
  obtain ⟨hx, hb, hr, hml, hown, hts, hlocks, hK, hXs, hbl, hbA⟩ := id hX
  intro n
  induction n with
  | zero =>
    intro v3 g hf
    cases hf
  | succ n ih =>
    intro v3 g hf H locs ls hP hS hl
    replace hf := (lL_law_18_s xs L n v1 v2 v3 g).symm.trans hf
    refine lv_iload_n hx hb dL_law_18 rfl (lv_at hl 3 rfl) ?_
    refine lv_aload_n hx hb dL_law_19 rfl (lv_at hl 0 rfl) ?_
    refine va_slen hx hb hXs hbl hbA hS dL_law_20 ?_
    refine lv_iconst (v := 5) hx hb dL_law_21 (by decide) ?_
    refine lv_isub hx hb dL_law_22 ?_
    refine lv_icmp_gt (tgt := 615) hx hb dL_law_23 (by decide) (fun hc => ?_) (fun hc => ?_)
    · replace hf := hs_t hf hc
      obtain rfl := Option.some.inj hf
      exact hex0 rfl _ _ _ hP hS (lv_sub hl [] rfl)
    · replace hf := hs_f hf hc
      refine lv_aload_n hx hb dL_law_26 rfl (lv_at hl 0 rfl) ?_
      refine lv_iload_n hx hb dL_law_27 rfl (lv_at hl 3 rfl) ?_
      obtain ⟨h7, hf⟩ := hs_ck hf
      refine va_sld hx hb hXs hbl hbA hS (hs_in_vp h7) dL_law_28 ?_
      refine lv_bipush (v := 15) hx hb dL_law_29 (by decide) ?_
      refine lv_iand hx hb dL_law_31 ?_
      by_cases hc : ((xs v3.toNatClampNeg) &&& (15 : Int32)) = (0 : Int32)
      · replace hf := hs_t hf hc
        refine lv_tableIn (off := 76) (tgt := 108) hx hb dL_law_32 (by rw [hc]; decide +kernel) (by rw [hc]; decide +kernel) (by rw [hc]; first | done | decide +kernel) (by decide) ?_
        refine lv_aload_n hx hb dL_law_108 rfl (lv_at hl 1 rfl) ?_
        refine lv_aload_n hx hb dL_law_109 rfl (lv_at hl 0 rfl) ?_
        refine lv_iload_n hx hb dL_law_110 rfl (lv_at hl 3 rfl) ?_
        refine lv_iconst (v := 1) hx hb dL_law_111 (by decide) ?_
        refine lv_iadd hx hb dL_law_112 ?_
        obtain ⟨h8, hf⟩ := hs_ck hf
        refine va_sld hx hb hXs hbl hbA hS (hs_in_vp h8) dL_law_113 ?_
        refine lv_i2l hx hb dL_law_114 rfl ?_
        refine lv_bipush (v := 32) hx hb dL_law_115 (by decide) ?_
        refine lv_lshl hx hb dL_law_117 rfl ?_
        refine lv_aload_n hx hb dL_law_118 rfl (lv_at hl 0 rfl) ?_
        refine lv_iload_n hx hb dL_law_119 rfl (lv_at hl 3 rfl) ?_
        refine lv_iconst (v := 2) hx hb dL_law_120 (by decide) ?_
        refine lv_iadd hx hb dL_law_121 ?_
        obtain ⟨h9, hf⟩ := hs_ck hf
        refine va_sld hx hb hXs hbl hbA hS (hs_in_vp h9) dL_law_122 ?_
        refine lv_i2l hx hb dL_law_123 rfl ?_
        refine lv_ldc2 (v := 4294967295) hx hb hown (hts _ wq6) dL_law_124 ?_
        refine lv_land hx hb dL_law_127 ?_
        refine lv_lor hx hb dL_law_128 ?_
        refine lv_aload_n hx hb dL_law_129 rfl (lv_at hl 0 rfl) ?_
        refine lv_iload_n hx hb dL_law_130 rfl (lv_at hl 3 rfl) ?_
        refine lv_iconst (v := 3) hx hb dL_law_131 (by decide) ?_
        refine lv_iadd hx hb dL_law_132 ?_
        obtain ⟨h10, hf⟩ := hs_ck hf
        refine va_sld hx hb hXs hbl hbA hS (hs_in_vp h10) dL_law_133 ?_
        obtain ⟨h11, hf⟩ := hs_ck hf
        obtain ⟨r13, g12, h14, hf⟩ := hs_bd_some hf
        refine hs_calli (va_runV (As := [.long ((((xs (v3 + (1 : Int32)).toNatClampNeg).toInt64) <<< ((32 : Int32).toInt64 &&& 63)) ||| (((xs (v3 + (2 : Int32)).toNatClampNeg).toInt64) &&& (4294967295 : Int64))), .int (xs (v3 + (3 : Int32)).toNatClampNeg)]) (rest := []) ⟨hx, hb, hml, hown, hts⟩ (ctX11_feed l B D E v1 ((((xs (v3 + (1 : Int32)).toNatClampNeg).toInt64) <<< ((32 : Int32).toInt64 &&& 63)) ||| (((xs (v3 + (2 : Int32)).toNatClampNeg).toInt64) &&& (4294967295 : Int64))) (xs (v3 + (3 : Int32)).toNatClampNeg) g _ h14) (cwV 2 hts (hs_gV (fun _ h => h) wq161 wq162 wq163 wq2 wq164) rfl rfl rfl (by decide +kernel) ⟨Nat.le_of_ble_eq_true rfl, Nat.le_of_ble_eq_true rfl⟩) (hs_preV (r := (RX11, TX11, 8)) hP hK h11 (by decide) rfl) rfl rfl hl.1 rfl (lv_room (Nat.le_of_ble_eq_true rfl)) dL_law_134 ⟨(Nat.le_of_ble_eq_true rfl), (Nat.le_of_ble_eq_true rfl)⟩) hS (fun H locs hP hS => ?_)
        refine lv_pop hx hb dL_law_137 rfl ?_
        refine lv_aload_n hx hb dL_law_138 rfl (lv_at hl 2 rfl) ?_
        refine lv_aload_n hx hb dL_law_139 rfl (lv_at hl 0 rfl) ?_
        refine lv_iload_n hx hb dL_law_140 rfl (lv_at hl 3 rfl) ?_
        refine lv_iconst (v := 1) hx hb dL_law_141 (by decide) ?_
        refine lv_iadd hx hb dL_law_142 ?_
        refine va_sld hx hb hXs hbl hbA hS (hs_in_vp h8) dL_law_143 ?_
        refine lv_i2l hx hb dL_law_144 rfl ?_
        refine lv_bipush (v := 32) hx hb dL_law_145 (by decide) ?_
        refine lv_lshl hx hb dL_law_147 rfl ?_
        refine lv_aload_n hx hb dL_law_148 rfl (lv_at hl 0 rfl) ?_
        refine lv_iload_n hx hb dL_law_149 rfl (lv_at hl 3 rfl) ?_
        refine lv_iconst (v := 2) hx hb dL_law_150 (by decide) ?_
        refine lv_iadd hx hb dL_law_151 ?_
        refine va_sld hx hb hXs hbl hbA hS (hs_in_vp h9) dL_law_152 ?_
        refine lv_i2l hx hb dL_law_153 rfl ?_
        refine lv_ldc2 (v := 4294967295) hx hb hown (hts _ wq6) dL_law_154 ?_
        refine lv_land hx hb dL_law_157 ?_
        refine lv_lor hx hb dL_law_158 ?_
        refine lv_aload_n hx hb dL_law_159 rfl (lv_at hl 0 rfl) ?_
        refine lv_iload_n hx hb dL_law_160 rfl (lv_at hl 3 rfl) ?_
        refine lv_iconst (v := 3) hx hb dL_law_161 (by decide) ?_
        refine lv_iadd hx hb dL_law_162 ?_
        refine va_sld hx hb hXs hbl hbA hS (hs_in_vp h10) dL_law_163 ?_
        obtain ⟨h15, hf⟩ := hs_ck hf
        obtain ⟨r17, g16, h18, hf⟩ := hs_bd_some hf
        refine hs_calli (va_runV (As := [.long ((((xs (v3 + (1 : Int32)).toNatClampNeg).toInt64) <<< ((32 : Int32).toInt64 &&& 63)) ||| (((xs (v3 + (2 : Int32)).toNatClampNeg).toInt64) &&& (4294967295 : Int64))), .int (xs (v3 + (3 : Int32)).toNatClampNeg)]) (rest := []) ⟨hx, hb, hml, hown, hts⟩ (ctX12_feed l B D E v2 ((((xs (v3 + (1 : Int32)).toNatClampNeg).toInt64) <<< ((32 : Int32).toInt64 &&& 63)) ||| (((xs (v3 + (2 : Int32)).toNatClampNeg).toInt64) &&& (4294967295 : Int64))) (xs (v3 + (3 : Int32)).toNatClampNeg) g12 _ h18) (cwV 2 hts (hs_gV (fun _ h => h) wq172 wq173 wq174 wq5 wq175) rfl rfl rfl (by decide +kernel) ⟨Nat.le_of_ble_eq_true rfl, Nat.le_of_ble_eq_true rfl⟩) (hs_preV (r := (RX12, TX12, 48)) hP hK h15 (by decide) rfl) rfl rfl hl.1 rfl (lv_room (Nat.le_of_ble_eq_true rfl)) dL_law_164 ⟨(Nat.le_of_ble_eq_true rfl), (Nat.le_of_ble_eq_true rfl)⟩) hS (fun H locs hP hS => ?_)
        refine lv_pop hx hb dL_law_167 rfl ?_
        refine lv_goto (tgt := 609) hx hb dL_law_168 (by decide) ?_
        exact wL_law_j609 hX (fun z0 g H locs ls hf hP hS hl => ih z0 g hf H locs ls hP hS hl) hex0 hex1 hf hP hS (lv_sub hl [0, 1, 2, 3] rfl)
      have hn0 := hc
      replace hf := hs_f hf hc
      clear hc
      by_cases hc : ((xs v3.toNatClampNeg) &&& (15 : Int32)) = (1 : Int32)
      · replace hf := hs_t hf hc
        refine lv_tableIn (off := 139) (tgt := 171) hx hb dL_law_32 (by rw [hc]; decide +kernel) (by rw [hc]; decide +kernel) (by rw [hc]; first | done | decide +kernel) (by decide) ?_
        refine lv_aload_n hx hb dL_law_171 rfl (lv_at hl 1 rfl) ?_
        obtain ⟨h19, hf⟩ := hs_ck hf
        obtain ⟨r21, g20, h22, hf⟩ := hs_bd_some hf
        refine hs_calli (va_runV (As := []) (rest := []) ⟨hx, hb, hml, hown, hts⟩ (ctX11_load l B D E v1 g _ h22) (cwV 0 hts (hs_gV (fun _ h => h) wq177 wq178 wq179 wq2 wq180) rfl rfl rfl (by decide +kernel) ⟨Nat.le_of_ble_eq_true rfl, Nat.le_of_ble_eq_true rfl⟩) (hs_preV (r := (RX11, TX11, 8)) hP hK h19 (by decide) rfl) rfl rfl hl.1 rfl (lv_room (Nat.le_of_ble_eq_true rfl)) dL_law_172 ⟨(Nat.le_of_ble_eq_true rfl), (Nat.le_of_ble_eq_true rfl)⟩) hS (fun H locs hP hS => ?_)
        refine lv_pop hx hb dL_law_175 rfl ?_
        refine lv_aload_n hx hb dL_law_176 rfl (lv_at hl 2 rfl) ?_
        obtain ⟨h23, hf⟩ := hs_ck hf
        obtain ⟨r25, g24, h26, hf⟩ := hs_bd_some hf
        refine hs_calli (va_runV (As := []) (rest := []) ⟨hx, hb, hml, hown, hts⟩ (ctX12_load l B D E v2 g20 _ h26) (cwV 0 hts (hs_gV (fun _ h => h) wq388 wq389 wq390 wq5 wq391) rfl rfl rfl (by decide +kernel) ⟨Nat.le_of_ble_eq_true rfl, Nat.le_of_ble_eq_true rfl⟩) (hs_preV (r := (RX12, TX12, 48)) hP hK h23 (by decide) rfl) rfl rfl hl.1 rfl (lv_room (Nat.le_of_ble_eq_true rfl)) dL_law_177 ⟨(Nat.le_of_ble_eq_true rfl), (Nat.le_of_ble_eq_true rfl)⟩) hS (fun H locs hP hS => ?_)
        refine lv_pop hx hb dL_law_180 rfl ?_
        refine lv_goto (tgt := 609) hx hb dL_law_181 (by decide) ?_
        exact wL_law_j609 hX (fun z0 g H locs ls hf hP hS hl => ih z0 g hf H locs ls hP hS hl) hex0 hex1 hf hP hS (lv_sub hl [0, 1, 2, 3] rfl)
      have hn1 := hc
      replace hf := hs_f hf hc
      clear hc
      by_cases hc : ((xs v3.toNatClampNeg) &&& (15 : Int32)) = (2 : Int32)
      · replace hf := hs_t hf hc
        refine lv_tableIn (off := 152) (tgt := 184) hx hb dL_law_32 (by rw [hc]; decide +kernel) (by rw [hc]; decide +kernel) (by rw [hc]; first | done | decide +kernel) (by decide) ?_
        refine lv_aload_n hx hb dL_law_184 rfl (lv_at hl 1 rfl) ?_
        refine lv_aload_n hx hb dL_law_185 rfl (lv_at hl 0 rfl) ?_
        refine lv_iload_n hx hb dL_law_186 rfl (lv_at hl 3 rfl) ?_
        refine lv_iconst (v := 1) hx hb dL_law_187 (by decide) ?_
        refine lv_iadd hx hb dL_law_188 ?_
        obtain ⟨h27, hf⟩ := hs_ck hf
        refine va_sld hx hb hXs hbl hbA hS (hs_in_vp h27) dL_law_189 ?_
        refine lv_aload_n hx hb dL_law_190 rfl (lv_at hl 0 rfl) ?_
        refine lv_iload_n hx hb dL_law_191 rfl (lv_at hl 3 rfl) ?_
        refine lv_iconst (v := 2) hx hb dL_law_192 (by decide) ?_
        refine lv_iadd hx hb dL_law_193 ?_
        obtain ⟨h28, hf⟩ := hs_ck hf
        refine va_sld hx hb hXs hbl hbA hS (hs_in_vp h28) dL_law_194 ?_
        obtain ⟨h29, hf⟩ := hs_ck hf
        obtain ⟨r31, g30, h32, hf⟩ := hs_bd_some hf
        refine hs_calli (va_runV (As := [.int (xs (v3 + (1 : Int32)).toNatClampNeg), .int (xs (v3 + (2 : Int32)).toNatClampNeg)]) (rest := []) ⟨hx, hb, hml, hown, hts⟩ (ctX11_price l B D E v1 (xs (v3 + (1 : Int32)).toNatClampNeg) (xs (v3 + (2 : Int32)).toNatClampNeg) g _ h32) (cwV 2 hts (hs_gV (fun _ h => h) wq466 wq467 wq468 wq2 wq469) rfl rfl rfl (by decide +kernel) ⟨Nat.le_of_ble_eq_true rfl, Nat.le_of_ble_eq_true rfl⟩) (hs_preV (r := (RX11, TX11, 8)) hP hK h29 (by decide) rfl) rfl rfl hl.1 rfl (lv_room (Nat.le_of_ble_eq_true rfl)) dL_law_195 ⟨(Nat.le_of_ble_eq_true rfl), (Nat.le_of_ble_eq_true rfl)⟩) hS (fun H locs hP hS => ?_)
        refine lv_pop hx hb dL_law_198 rfl ?_
        refine lv_aload_n hx hb dL_law_199 rfl (lv_at hl 2 rfl) ?_
        refine lv_aload_n hx hb dL_law_200 rfl (lv_at hl 0 rfl) ?_
        refine lv_iload_n hx hb dL_law_201 rfl (lv_at hl 3 rfl) ?_
        refine lv_iconst (v := 1) hx hb dL_law_202 (by decide) ?_
        refine lv_iadd hx hb dL_law_203 ?_
        refine va_sld hx hb hXs hbl hbA hS (hs_in_vp h27) dL_law_204 ?_
        refine lv_aload_n hx hb dL_law_205 rfl (lv_at hl 0 rfl) ?_
        refine lv_iload_n hx hb dL_law_206 rfl (lv_at hl 3 rfl) ?_
        refine lv_iconst (v := 2) hx hb dL_law_207 (by decide) ?_
        refine lv_iadd hx hb dL_law_208 ?_
        refine va_sld hx hb hXs hbl hbA hS (hs_in_vp h28) dL_law_209 ?_
        obtain ⟨h33, hf⟩ := hs_ck hf
        obtain ⟨r35, g34, h36, hf⟩ := hs_bd_some hf
        refine hs_calli (va_runV (As := [.int (xs (v3 + (1 : Int32)).toNatClampNeg), .int (xs (v3 + (2 : Int32)).toNatClampNeg)]) (rest := []) ⟨hx, hb, hml, hown, hts⟩ (ctX12_price l B D E v2 (xs (v3 + (1 : Int32)).toNatClampNeg) (xs (v3 + (2 : Int32)).toNatClampNeg) g30 _ h36) (cwV 2 hts (hs_gV (fun _ h => h) wq480 wq481 wq482 wq5 wq483) rfl rfl rfl (by decide +kernel) ⟨Nat.le_of_ble_eq_true rfl, Nat.le_of_ble_eq_true rfl⟩) (hs_preV (r := (RX12, TX12, 48)) hP hK h33 (by decide) rfl) rfl rfl hl.1 rfl (lv_room (Nat.le_of_ble_eq_true rfl)) dL_law_210 ⟨(Nat.le_of_ble_eq_true rfl), (Nat.le_of_ble_eq_true rfl)⟩) hS (fun H locs hP hS => ?_)
        refine lv_pop hx hb dL_law_213 rfl ?_
        refine lv_goto (tgt := 609) hx hb dL_law_214 (by decide) ?_
        exact wL_law_j609 hX (fun z0 g H locs ls hf hP hS hl => ih z0 g hf H locs ls hP hS hl) hex0 hex1 hf hP hS (lv_sub hl [0, 1, 2, 3] rfl)
      have hn2 := hc
      replace hf := hs_f hf hc
      clear hc
      by_cases hc : ((xs v3.toNatClampNeg) &&& (15 : Int32)) = (3 : Int32)
      · replace hf := hs_t hf hc
        refine lv_tableIn (off := 185) (tgt := 217) hx hb dL_law_32 (by rw [hc]; decide +kernel) (by rw [hc]; decide +kernel) (by rw [hc]; first | done | decide +kernel) (by decide) ?_
        refine lv_aload_n hx hb dL_law_217 rfl (lv_at hl 1 rfl) ?_
        obtain ⟨h37, hf⟩ := hs_ck hf
        obtain ⟨r39, g38, h40, hf⟩ := hs_bd_some hf
        refine hs_calli (va_runV (As := []) (rest := []) ⟨hx, hb, hml, hown, hts⟩ (ctX11_rewrite l B D E v1 g _ h40) (cwV 0 hts (hs_gV (fun _ h => h) wq484 wq485 wq486 wq2 wq487) rfl rfl rfl (by decide +kernel) ⟨Nat.le_of_ble_eq_true rfl, Nat.le_of_ble_eq_true rfl⟩) (hs_preV (r := (RX11, TX11, 8)) hP hK h37 (by decide) rfl) rfl rfl hl.1 rfl (lv_room (Nat.le_of_ble_eq_true rfl)) dL_law_218 ⟨(Nat.le_of_ble_eq_true rfl), (Nat.le_of_ble_eq_true rfl)⟩) hS (fun H locs hP hS => ?_)
        refine lv_pop hx hb dL_law_221 rfl ?_
        refine lv_aload_n hx hb dL_law_222 rfl (lv_at hl 2 rfl) ?_
        obtain ⟨h41, hf⟩ := hs_ck hf
        obtain ⟨r43, g42, h44, hf⟩ := hs_bd_some hf
        refine hs_calli (va_runV (As := []) (rest := []) ⟨hx, hb, hml, hown, hts⟩ (ctX12_rewrite l B D E v2 g38 _ h44) (cwV 0 hts (hs_gV (fun _ h => h) wq591 wq592 wq593 wq5 wq594) rfl rfl rfl (by decide +kernel) ⟨Nat.le_of_ble_eq_true rfl, Nat.le_of_ble_eq_true rfl⟩) (hs_preV (r := (RX12, TX12, 48)) hP hK h41 (by decide) rfl) rfl rfl hl.1 rfl (lv_room (Nat.le_of_ble_eq_true rfl)) dL_law_223 ⟨(Nat.le_of_ble_eq_true rfl), (Nat.le_of_ble_eq_true rfl)⟩) hS (fun H locs hP hS => ?_)
        refine lv_pop hx hb dL_law_226 rfl ?_
        refine lv_goto (tgt := 609) hx hb dL_law_227 (by decide) ?_
        exact wL_law_j609 hX (fun z0 g H locs ls hf hP hS hl => ih z0 g hf H locs ls hP hS hl) hex0 hex1 hf hP hS (lv_sub hl [0, 1, 2, 3] rfl)
      have hn3 := hc
      replace hf := hs_f hf hc
      clear hc
      by_cases hc : ((xs v3.toNatClampNeg) &&& (15 : Int32)) = (4 : Int32)
      · replace hf := hs_t hf hc
        refine lv_tableIn (off := 198) (tgt := 230) hx hb dL_law_32 (by rw [hc]; decide +kernel) (by rw [hc]; decide +kernel) (by rw [hc]; first | done | decide +kernel) (by decide) ?_
        refine lv_aload_n hx hb dL_law_230 rfl (lv_at hl 1 rfl) ?_
        refine lv_aload_n hx hb dL_law_231 rfl (lv_at hl 0 rfl) ?_
        refine lv_iload_n hx hb dL_law_232 rfl (lv_at hl 3 rfl) ?_
        refine lv_iconst (v := 1) hx hb dL_law_233 (by decide) ?_
        refine lv_iadd hx hb dL_law_234 ?_
        obtain ⟨h45, hf⟩ := hs_ck hf
        refine va_sld hx hb hXs hbl hbA hS (hs_in_vp h45) dL_law_235 ?_
        refine lv_aload_n hx hb dL_law_236 rfl (lv_at hl 0 rfl) ?_
        refine lv_iload_n hx hb dL_law_237 rfl (lv_at hl 3 rfl) ?_
        refine lv_iconst (v := 2) hx hb dL_law_238 (by decide) ?_
        refine lv_iadd hx hb dL_law_239 ?_
        obtain ⟨h46, hf⟩ := hs_ck hf
        refine va_sld hx hb hXs hbl hbA hS (hs_in_vp h46) dL_law_240 ?_
        refine lv_if_eq (tgt := 248) hx hb dL_law_241 (by decide) (fun hc => ?_) (fun hc => ?_)
        · replace hf := hs_t hf hc
          refine lv_iconst (v := 0) hx hb dL_law_248 (by decide) ?_
          exact wL_law_j249 hX (fun z0 g H locs ls hf hP hS hl => ih z0 g hf H locs ls hP hS hl) hex0 hex1 hf hP hS (lv_sub hl [0, 1, 2, 3] rfl)
        · replace hf := hs_f hf hc
          refine lv_iconst (v := 1) hx hb dL_law_244 (by decide) ?_
          refine lv_goto (tgt := 249) hx hb dL_law_245 (by decide) ?_
          exact wL_law_j249 hX (fun z0 g H locs ls hf hP hS hl => ih z0 g hf H locs ls hP hS hl) hex0 hex1 hf hP hS (lv_sub hl [0, 1, 2, 3] rfl)
      have hn4 := hc
      replace hf := hs_f hf hc
      clear hc
      by_cases hc : ((xs v3.toNatClampNeg) &&& (15 : Int32)) = (5 : Int32)
      · replace hf := hs_t hf hc
        refine lv_tableIn (off := 257) (tgt := 289) hx hb dL_law_32 (by rw [hc]; decide +kernel) (by rw [hc]; decide +kernel) (by rw [hc]; first | done | decide +kernel) (by decide) ?_
        refine lv_aload_n hx hb dL_law_289 rfl (lv_at hl 1 rfl) ?_
        refine lv_aload_n hx hb dL_law_290 rfl (lv_at hl 0 rfl) ?_
        refine lv_iload_n hx hb dL_law_291 rfl (lv_at hl 3 rfl) ?_
        refine lv_iconst (v := 1) hx hb dL_law_292 (by decide) ?_
        refine lv_iadd hx hb dL_law_293 ?_
        obtain ⟨h59, hf⟩ := hs_ck hf
        refine va_sld hx hb hXs hbl hbA hS (hs_in_vp h59) dL_law_294 ?_
        refine lv_aload_n hx hb dL_law_295 rfl (lv_at hl 0 rfl) ?_
        refine lv_iload_n hx hb dL_law_296 rfl (lv_at hl 3 rfl) ?_
        refine lv_iconst (v := 2) hx hb dL_law_297 (by decide) ?_
        refine lv_iadd hx hb dL_law_298 ?_
        obtain ⟨h60, hf⟩ := hs_ck hf
        refine va_sld hx hb hXs hbl hbA hS (hs_in_vp h60) dL_law_299 ?_
        refine lv_if_eq (tgt := 307) hx hb dL_law_300 (by decide) (fun hc => ?_) (fun hc => ?_)
        · replace hf := hs_t hf hc
          refine lv_iconst (v := 0) hx hb dL_law_307 (by decide) ?_
          exact wL_law_j308 hX (fun z0 g H locs ls hf hP hS hl => ih z0 g hf H locs ls hP hS hl) hex0 hex1 hf hP hS (lv_sub hl [0, 1, 2, 3] rfl)
        · replace hf := hs_f hf hc
          refine lv_iconst (v := 1) hx hb dL_law_303 (by decide) ?_
          refine lv_goto (tgt := 308) hx hb dL_law_304 (by decide) ?_
          exact wL_law_j308 hX (fun z0 g H locs ls hf hP hS hl => ih z0 g hf H locs ls hP hS hl) hex0 hex1 hf hP hS (lv_sub hl [0, 1, 2, 3] rfl)
      have hn5 := hc
      replace hf := hs_f hf hc
      clear hc
      by_cases hc : ((xs v3.toNatClampNeg) &&& (15 : Int32)) = (6 : Int32)
      · replace hf := hs_t hf hc
        refine lv_tableIn (off := 316) (tgt := 348) hx hb dL_law_32 (by rw [hc]; decide +kernel) (by rw [hc]; decide +kernel) (by rw [hc]; first | done | decide +kernel) (by decide) ?_
        refine lv_aload_n hx hb dL_law_348 rfl (lv_at hl 1 rfl) ?_
        refine lv_aload_n hx hb dL_law_349 rfl (lv_at hl 0 rfl) ?_
        refine lv_iload_n hx hb dL_law_350 rfl (lv_at hl 3 rfl) ?_
        refine lv_iconst (v := 1) hx hb dL_law_351 (by decide) ?_
        refine lv_iadd hx hb dL_law_352 ?_
        obtain ⟨h73, hf⟩ := hs_ck hf
        refine va_sld hx hb hXs hbl hbA hS (hs_in_vp h73) dL_law_353 ?_
        refine lv_aload_n hx hb dL_law_354 rfl (lv_at hl 0 rfl) ?_
        refine lv_iload_n hx hb dL_law_355 rfl (lv_at hl 3 rfl) ?_
        refine lv_iconst (v := 2) hx hb dL_law_356 (by decide) ?_
        refine lv_iadd hx hb dL_law_357 ?_
        obtain ⟨h74, hf⟩ := hs_ck hf
        refine va_sld hx hb hXs hbl hbA hS (hs_in_vp h74) dL_law_358 ?_
        refine lv_if_eq (tgt := 366) hx hb dL_law_359 (by decide) (fun hc => ?_) (fun hc => ?_)
        · replace hf := hs_t hf hc
          refine lv_iconst (v := 0) hx hb dL_law_366 (by decide) ?_
          exact wL_law_j367 hX (fun z0 g H locs ls hf hP hS hl => ih z0 g hf H locs ls hP hS hl) hex0 hex1 hf hP hS (lv_sub hl [0, 1, 2, 3] rfl)
        · replace hf := hs_f hf hc
          refine lv_iconst (v := 1) hx hb dL_law_362 (by decide) ?_
          refine lv_goto (tgt := 367) hx hb dL_law_363 (by decide) ?_
          exact wL_law_j367 hX (fun z0 g H locs ls hf hP hS hl => ih z0 g hf H locs ls hP hS hl) hex0 hex1 hf hP hS (lv_sub hl [0, 1, 2, 3] rfl)
      have hn6 := hc
      replace hf := hs_f hf hc
      clear hc
      by_cases hc : ((xs v3.toNatClampNeg) &&& (15 : Int32)) = (7 : Int32)
      · replace hf := hs_t hf hc
        refine lv_tableIn (off := 385) (tgt := 417) hx hb dL_law_32 (by rw [hc]; decide +kernel) (by rw [hc]; decide +kernel) (by rw [hc]; first | done | decide +kernel) (by decide) ?_
        refine lv_aload_n hx hb dL_law_417 rfl (lv_at hl 1 rfl) ?_
        refine lv_aload_n hx hb dL_law_418 rfl (lv_at hl 0 rfl) ?_
        refine lv_iload_n hx hb dL_law_419 rfl (lv_at hl 3 rfl) ?_
        refine lv_iconst (v := 1) hx hb dL_law_420 (by decide) ?_
        refine lv_iadd hx hb dL_law_421 ?_
        obtain ⟨h89, hf⟩ := hs_ck hf
        refine va_sld hx hb hXs hbl hbA hS (hs_in_vp h89) dL_law_422 ?_
        refine lv_aload_n hx hb dL_law_423 rfl (lv_at hl 0 rfl) ?_
        refine lv_iload_n hx hb dL_law_424 rfl (lv_at hl 3 rfl) ?_
        refine lv_iconst (v := 2) hx hb dL_law_425 (by decide) ?_
        refine lv_iadd hx hb dL_law_426 ?_
        obtain ⟨h90, hf⟩ := hs_ck hf
        refine va_sld hx hb hXs hbl hbA hS (hs_in_vp h90) dL_law_427 ?_
        refine lv_aload_n hx hb dL_law_428 rfl (lv_at hl 0 rfl) ?_
        refine lv_iload_n hx hb dL_law_429 rfl (lv_at hl 3 rfl) ?_
        refine lv_iconst (v := 3) hx hb dL_law_430 (by decide) ?_
        refine lv_iadd hx hb dL_law_431 ?_
        obtain ⟨h91, hf⟩ := hs_ck hf
        refine va_sld hx hb hXs hbl hbA hS (hs_in_vp h91) dL_law_432 ?_
        obtain ⟨h92, hf⟩ := hs_ck hf
        obtain ⟨r94, g93, h95, hf⟩ := hs_bd_some hf
        refine hs_calli (va_runV (As := [.int (xs (v3 + (1 : Int32)).toNatClampNeg), .int (xs (v3 + (2 : Int32)).toNatClampNeg), .int (xs (v3 + (3 : Int32)).toNatClampNeg)]) (rest := []) ⟨hx, hb, hml, hown, hts⟩ (ctX11_block l B D E v1 (xs (v3 + (1 : Int32)).toNatClampNeg) (xs (v3 + (2 : Int32)).toNatClampNeg) (xs (v3 + (3 : Int32)).toNatClampNeg) g _ h95) (cwV 3 hts (hs_gV (fun _ h => h) wq676 wq677 wq678 wq2 wq679) rfl rfl rfl (by decide +kernel) ⟨Nat.le_of_ble_eq_true rfl, Nat.le_of_ble_eq_true rfl⟩) (hs_preV (r := (RX11, TX11, 8)) hP hK h92 (by decide) rfl) rfl rfl hl.1 rfl (lv_room (Nat.le_of_ble_eq_true rfl)) dL_law_433 ⟨(Nat.le_of_ble_eq_true rfl), (Nat.le_of_ble_eq_true rfl)⟩) hS (fun H locs hP hS => ?_)
        refine lv_pop hx hb dL_law_436 rfl ?_
        refine lv_aload_n hx hb dL_law_437 rfl (lv_at hl 2 rfl) ?_
        refine lv_aload_n hx hb dL_law_438 rfl (lv_at hl 0 rfl) ?_
        refine lv_iload_n hx hb dL_law_439 rfl (lv_at hl 3 rfl) ?_
        refine lv_iconst (v := 1) hx hb dL_law_440 (by decide) ?_
        refine lv_iadd hx hb dL_law_441 ?_
        refine va_sld hx hb hXs hbl hbA hS (hs_in_vp h89) dL_law_442 ?_
        refine lv_aload_n hx hb dL_law_443 rfl (lv_at hl 0 rfl) ?_
        refine lv_iload_n hx hb dL_law_444 rfl (lv_at hl 3 rfl) ?_
        refine lv_iconst (v := 2) hx hb dL_law_445 (by decide) ?_
        refine lv_iadd hx hb dL_law_446 ?_
        refine va_sld hx hb hXs hbl hbA hS (hs_in_vp h90) dL_law_447 ?_
        refine lv_aload_n hx hb dL_law_448 rfl (lv_at hl 0 rfl) ?_
        refine lv_iload_n hx hb dL_law_449 rfl (lv_at hl 3 rfl) ?_
        refine lv_iconst (v := 3) hx hb dL_law_450 (by decide) ?_
        refine lv_iadd hx hb dL_law_451 ?_
        refine va_sld hx hb hXs hbl hbA hS (hs_in_vp h91) dL_law_452 ?_
        obtain ⟨h96, hf⟩ := hs_ck hf
        obtain ⟨r98, g97, h99, hf⟩ := hs_bd_some hf
        refine hs_calli (va_runV (As := [.int (xs (v3 + (1 : Int32)).toNatClampNeg), .int (xs (v3 + (2 : Int32)).toNatClampNeg), .int (xs (v3 + (3 : Int32)).toNatClampNeg)]) (rest := []) ⟨hx, hb, hml, hown, hts⟩ (ctX12_block l B D E v2 (xs (v3 + (1 : Int32)).toNatClampNeg) (xs (v3 + (2 : Int32)).toNatClampNeg) (xs (v3 + (3 : Int32)).toNatClampNeg) g93 _ h99) (cwV 3 hts (hs_gV (fun _ h => h) wq685 wq686 wq687 wq5 wq688) rfl rfl rfl (by decide +kernel) ⟨Nat.le_of_ble_eq_true rfl, Nat.le_of_ble_eq_true rfl⟩) (hs_preV (r := (RX12, TX12, 48)) hP hK h96 (by decide) rfl) rfl rfl hl.1 rfl (lv_room (Nat.le_of_ble_eq_true rfl)) dL_law_453 ⟨(Nat.le_of_ble_eq_true rfl), (Nat.le_of_ble_eq_true rfl)⟩) hS (fun H locs hP hS => ?_)
        refine lv_pop hx hb dL_law_456 rfl ?_
        refine lv_goto (tgt := 609) hx hb dL_law_457 (by decide) ?_
        exact wL_law_j609 hX (fun z0 g H locs ls hf hP hS hl => ih z0 g hf H locs ls hP hS hl) hex0 hex1 hf hP hS (lv_sub hl [0, 1, 2, 3] rfl)
      have hn7 := hc
      replace hf := hs_f hf hc
      clear hc
      by_cases hc : ((xs v3.toNatClampNeg) &&& (15 : Int32)) = (8 : Int32)
      · replace hf := hs_t hf hc
        refine lv_tableIn (off := 428) (tgt := 460) hx hb dL_law_32 (by rw [hc]; decide +kernel) (by rw [hc]; decide +kernel) (by rw [hc]; first | done | decide +kernel) (by decide) ?_
        refine lv_aload_n hx hb dL_law_460 rfl (lv_at hl 1 rfl) ?_
        refine lv_aload_n hx hb dL_law_461 rfl (lv_at hl 0 rfl) ?_
        refine lv_iload_n hx hb dL_law_462 rfl (lv_at hl 3 rfl) ?_
        refine lv_iconst (v := 1) hx hb dL_law_463 (by decide) ?_
        refine lv_iadd hx hb dL_law_464 ?_
        obtain ⟨h100, hf⟩ := hs_ck hf
        refine va_sld hx hb hXs hbl hbA hS (hs_in_vp h100) dL_law_465 ?_
        refine lv_aload_n hx hb dL_law_466 rfl (lv_at hl 0 rfl) ?_
        refine lv_iload_n hx hb dL_law_467 rfl (lv_at hl 3 rfl) ?_
        refine lv_iconst (v := 2) hx hb dL_law_468 (by decide) ?_
        refine lv_iadd hx hb dL_law_469 ?_
        obtain ⟨h101, hf⟩ := hs_ck hf
        refine va_sld hx hb hXs hbl hbA hS (hs_in_vp h101) dL_law_470 ?_
        refine lv_aload_n hx hb dL_law_471 rfl (lv_at hl 0 rfl) ?_
        refine lv_iload_n hx hb dL_law_472 rfl (lv_at hl 3 rfl) ?_
        refine lv_iconst (v := 3) hx hb dL_law_473 (by decide) ?_
        refine lv_iadd hx hb dL_law_474 ?_
        obtain ⟨h102, hf⟩ := hs_ck hf
        refine va_sld hx hb hXs hbl hbA hS (hs_in_vp h102) dL_law_475 ?_
        refine lv_aload_n hx hb dL_law_476 rfl (lv_at hl 0 rfl) ?_
        refine lv_iload_n hx hb dL_law_477 rfl (lv_at hl 3 rfl) ?_
        refine lv_iconst (v := 4) hx hb dL_law_478 (by decide) ?_
        refine lv_iadd hx hb dL_law_479 ?_
        obtain ⟨h103, hf⟩ := hs_ck hf
        refine va_sld hx hb hXs hbl hbA hS (hs_in_vp h103) dL_law_480 ?_
        obtain ⟨h104, hf⟩ := hs_ck hf
        obtain ⟨r106, g105, h107, hf⟩ := hs_bd_some hf
        refine hs_calli (va_runV (As := [.int (xs (v3 + (1 : Int32)).toNatClampNeg), .int (xs (v3 + (2 : Int32)).toNatClampNeg), .int (xs (v3 + (3 : Int32)).toNatClampNeg), .int (xs (v3 + (4 : Int32)).toNatClampNeg)]) (rest := []) ⟨hx, hb, hml, hown, hts⟩ (ctX11_run l B D E v1 (xs (v3 + (1 : Int32)).toNatClampNeg) (xs (v3 + (2 : Int32)).toNatClampNeg) (xs (v3 + (3 : Int32)).toNatClampNeg) (xs (v3 + (4 : Int32)).toNatClampNeg) g _ h107) (cwV 4 hts (hs_gV (fun _ h => h) wq689 wq690 wq691 wq2 wq692) rfl rfl rfl (by decide +kernel) ⟨Nat.le_of_ble_eq_true rfl, Nat.le_of_ble_eq_true rfl⟩) (hs_preV (r := (RX11, TX11, 8)) hP hK h104 (by decide) rfl) rfl rfl hl.1 rfl (lv_room (Nat.le_of_ble_eq_true rfl)) dL_law_481 ⟨(Nat.le_of_ble_eq_true rfl), (Nat.le_of_ble_eq_true rfl)⟩) hS (fun H locs hP hS => ?_)
        refine lv_pop hx hb dL_law_484 rfl ?_
        refine lv_aload_n hx hb dL_law_485 rfl (lv_at hl 2 rfl) ?_
        refine lv_aload_n hx hb dL_law_486 rfl (lv_at hl 0 rfl) ?_
        refine lv_iload_n hx hb dL_law_487 rfl (lv_at hl 3 rfl) ?_
        refine lv_iconst (v := 1) hx hb dL_law_488 (by decide) ?_
        refine lv_iadd hx hb dL_law_489 ?_
        refine va_sld hx hb hXs hbl hbA hS (hs_in_vp h100) dL_law_490 ?_
        refine lv_aload_n hx hb dL_law_491 rfl (lv_at hl 0 rfl) ?_
        refine lv_iload_n hx hb dL_law_492 rfl (lv_at hl 3 rfl) ?_
        refine lv_iconst (v := 2) hx hb dL_law_493 (by decide) ?_
        refine lv_iadd hx hb dL_law_494 ?_
        refine va_sld hx hb hXs hbl hbA hS (hs_in_vp h101) dL_law_495 ?_
        refine lv_aload_n hx hb dL_law_496 rfl (lv_at hl 0 rfl) ?_
        refine lv_iload_n hx hb dL_law_497 rfl (lv_at hl 3 rfl) ?_
        refine lv_iconst (v := 3) hx hb dL_law_498 (by decide) ?_
        refine lv_iadd hx hb dL_law_499 ?_
        refine va_sld hx hb hXs hbl hbA hS (hs_in_vp h102) dL_law_500 ?_
        refine lv_aload_n hx hb dL_law_501 rfl (lv_at hl 0 rfl) ?_
        refine lv_iload_n hx hb dL_law_502 rfl (lv_at hl 3 rfl) ?_
        refine lv_iconst (v := 4) hx hb dL_law_503 (by decide) ?_
        refine lv_iadd hx hb dL_law_504 ?_
        refine va_sld hx hb hXs hbl hbA hS (hs_in_vp h103) dL_law_505 ?_
        obtain ⟨h108, hf⟩ := hs_ck hf
        obtain ⟨r110, g109, h111, hf⟩ := hs_bd_some hf
        refine hs_calli (va_runV (As := [.int (xs (v3 + (1 : Int32)).toNatClampNeg), .int (xs (v3 + (2 : Int32)).toNatClampNeg), .int (xs (v3 + (3 : Int32)).toNatClampNeg), .int (xs (v3 + (4 : Int32)).toNatClampNeg)]) (rest := []) ⟨hx, hb, hml, hown, hts⟩ (ctX12_run l B D E v2 (xs (v3 + (1 : Int32)).toNatClampNeg) (xs (v3 + (2 : Int32)).toNatClampNeg) (xs (v3 + (3 : Int32)).toNatClampNeg) (xs (v3 + (4 : Int32)).toNatClampNeg) g105 _ h111) (cwV 4 hts (hs_gV (fun _ h => h) wq850 wq851 wq852 wq5 wq853) rfl rfl rfl (by decide +kernel) ⟨Nat.le_of_ble_eq_true rfl, Nat.le_of_ble_eq_true rfl⟩) (hs_preV (r := (RX12, TX12, 48)) hP hK h108 (by decide) rfl) rfl rfl hl.1 rfl (lv_room (Nat.le_of_ble_eq_true rfl)) dL_law_506 ⟨(Nat.le_of_ble_eq_true rfl), (Nat.le_of_ble_eq_true rfl)⟩) hS (fun H locs hP hS => ?_)
        refine lv_pop hx hb dL_law_509 rfl ?_
        refine lv_goto (tgt := 609) hx hb dL_law_510 (by decide) ?_
        exact wL_law_j609 hX (fun z0 g H locs ls hf hP hS hl => ih z0 g hf H locs ls hP hS hl) hex0 hex1 hf hP hS (lv_sub hl [0, 1, 2, 3] rfl)
      have hn8 := hc
      replace hf := hs_f hf hc
      clear hc
      by_cases hc : ((xs v3.toNatClampNeg) &&& (15 : Int32)) = (9 : Int32)
      · replace hf := hs_t hf hc
        refine lv_tableIn (off := 481) (tgt := 513) hx hb dL_law_32 (by rw [hc]; decide +kernel) (by rw [hc]; decide +kernel) (by rw [hc]; first | done | decide +kernel) (by decide) ?_
        refine lv_aload_n hx hb dL_law_513 rfl (lv_at hl 1 rfl) ?_
        obtain ⟨h112, hf⟩ := hs_ck hf
        obtain ⟨r114, g113, h115, hf⟩ := hs_bd_some hf
        refine hs_calli (va_runV (As := []) (rest := []) ⟨hx, hb, hml, hown, hts⟩ (ctX11_answer l B D E v1 g _ h115) (cwV 0 hts (hs_gV (fun _ h => h) wq917 wq918 wq919 wq2 wq920) rfl rfl rfl (by decide +kernel) ⟨Nat.le_of_ble_eq_true rfl, Nat.le_of_ble_eq_true rfl⟩) (hs_preV (r := (RX11, TX11, 8)) hP hK h112 (by decide) rfl) rfl rfl hl.1 rfl (lv_room (Nat.le_of_ble_eq_true rfl)) dL_law_514 ⟨(Nat.le_of_ble_eq_true rfl), (Nat.le_of_ble_eq_true rfl)⟩) hS (fun H locs hP hS => ?_)
        refine lv_pop hx hb dL_law_517 rfl ?_
        refine lv_aload_n hx hb dL_law_518 rfl (lv_at hl 2 rfl) ?_
        obtain ⟨h116, hf⟩ := hs_ck hf
        obtain ⟨r118, g117, h119, hf⟩ := hs_bd_some hf
        refine hs_calli (va_runV (As := []) (rest := []) ⟨hx, hb, hml, hown, hts⟩ (ctX12_answer l B D E v2 g113 _ h119) (cwV 0 hts (hs_gV (fun _ h => h) wq922 wq923 wq924 wq5 wq925) rfl rfl rfl (by decide +kernel) ⟨Nat.le_of_ble_eq_true rfl, Nat.le_of_ble_eq_true rfl⟩) (hs_preV (r := (RX12, TX12, 48)) hP hK h116 (by decide) rfl) rfl rfl hl.1 rfl (lv_room (Nat.le_of_ble_eq_true rfl)) dL_law_519 ⟨(Nat.le_of_ble_eq_true rfl), (Nat.le_of_ble_eq_true rfl)⟩) hS (fun H locs hP hS => ?_)
        refine lv_pop hx hb dL_law_522 rfl ?_
        refine lv_goto (tgt := 609) hx hb dL_law_523 (by decide) ?_
        exact wL_law_j609 hX (fun z0 g H locs ls hf hP hS hl => ih z0 g hf H locs ls hP hS hl) hex0 hex1 hf hP hS (lv_sub hl [0, 1, 2, 3] rfl)
      have hn9 := hc
      replace hf := hs_f hf hc
      clear hc
      by_cases hc : ((xs v3.toNatClampNeg) &&& (15 : Int32)) = (10 : Int32)
      · replace hf := hs_t hf hc
        refine lv_tableIn (off := 494) (tgt := 526) hx hb dL_law_32 (by rw [hc]; decide +kernel) (by rw [hc]; decide +kernel) (by rw [hc]; first | done | decide +kernel) (by decide) ?_
        refine lv_aload_n hx hb dL_law_526 rfl (lv_at hl 1 rfl) ?_
        obtain ⟨h120, hf⟩ := hs_ck hf
        obtain ⟨r122, g121, h123, hf⟩ := hs_bd_some hf
        refine hs_calli (va_runV (As := []) (rest := []) ⟨hx, hb, hml, hown, hts⟩ (ctX11_counted l B D E v1 g _ h123) (cwV 0 hts (hs_gV (fun _ h => h) wq926 wq927 wq928 wq2 wq929) rfl rfl rfl (by decide +kernel) ⟨Nat.le_of_ble_eq_true rfl, Nat.le_of_ble_eq_true rfl⟩) (hs_preV (r := (RX11, TX11, 8)) hP hK h120 (by decide) rfl) rfl rfl hl.1 rfl (lv_room (Nat.le_of_ble_eq_true rfl)) dL_law_527 ⟨(Nat.le_of_ble_eq_true rfl), (Nat.le_of_ble_eq_true rfl)⟩) hS (fun H locs hP hS => ?_)
        refine lv_pop hx hb dL_law_530 rfl ?_
        refine lv_aload_n hx hb dL_law_531 rfl (lv_at hl 2 rfl) ?_
        obtain ⟨h124, hf⟩ := hs_ck hf
        obtain ⟨r126, g125, h127, hf⟩ := hs_bd_some hf
        refine hs_calli (va_runV (As := []) (rest := []) ⟨hx, hb, hml, hown, hts⟩ (ctX12_counted l B D E v2 g121 _ h127) (cwV 0 hts (hs_gV (fun _ h => h) wq931 wq932 wq933 wq5 wq934) rfl rfl rfl (by decide +kernel) ⟨Nat.le_of_ble_eq_true rfl, Nat.le_of_ble_eq_true rfl⟩) (hs_preV (r := (RX12, TX12, 48)) hP hK h124 (by decide) rfl) rfl rfl hl.1 rfl (lv_room (Nat.le_of_ble_eq_true rfl)) dL_law_532 ⟨(Nat.le_of_ble_eq_true rfl), (Nat.le_of_ble_eq_true rfl)⟩) hS (fun H locs hP hS => ?_)
        refine lv_pop hx hb dL_law_535 rfl ?_
        refine lv_goto (tgt := 609) hx hb dL_law_536 (by decide) ?_
        exact wL_law_j609 hX (fun z0 g H locs ls hf hP hS hl => ih z0 g hf H locs ls hP hS hl) hex0 hex1 hf hP hS (lv_sub hl [0, 1, 2, 3] rfl)
      have hn10 := hc
      replace hf := hs_f hf hc
      clear hc
      by_cases hc : ((xs v3.toNatClampNeg) &&& (15 : Int32)) = (11 : Int32)
      · replace hf := hs_t hf hc
        refine lv_tableIn (off := 507) (tgt := 539) hx hb dL_law_32 (by rw [hc]; decide +kernel) (by rw [hc]; decide +kernel) (by rw [hc]; first | done | decide +kernel) (by decide) ?_
        refine lv_aload_n hx hb dL_law_539 rfl (lv_at hl 1 rfl) ?_
        obtain ⟨h128, hf⟩ := hs_ck hf
        obtain ⟨r130, g129, h131, hf⟩ := hs_bd_some hf
        refine hs_calli (va_runV (As := []) (rest := []) ⟨hx, hb, hml, hown, hts⟩ (ctX11_steps l B D E v1 g _ h131) (cwV 0 hts (hs_gV (fun _ h => h) wq935 wq936 wq937 wq2 wq938) rfl rfl rfl (by decide +kernel) ⟨Nat.le_of_ble_eq_true rfl, Nat.le_of_ble_eq_true rfl⟩) (hs_preV (r := (RX11, TX11, 8)) hP hK h128 (by decide) rfl) rfl rfl hl.1 rfl (lv_room (Nat.le_of_ble_eq_true rfl)) dL_law_540 ⟨(Nat.le_of_ble_eq_true rfl), (Nat.le_of_ble_eq_true rfl)⟩) hS (fun H locs hP hS => ?_)
        refine lv_pop hx hb dL_law_543 rfl ?_
        refine lv_aload_n hx hb dL_law_544 rfl (lv_at hl 2 rfl) ?_
        obtain ⟨h132, hf⟩ := hs_ck hf
        obtain ⟨r134, g133, h135, hf⟩ := hs_bd_some hf
        refine hs_calli (va_runV (As := []) (rest := []) ⟨hx, hb, hml, hown, hts⟩ (ctX12_steps l B D E v2 g129 _ h135) (cwV 0 hts (hs_gV (fun _ h => h) wq940 wq941 wq942 wq5 wq943) rfl rfl rfl (by decide +kernel) ⟨Nat.le_of_ble_eq_true rfl, Nat.le_of_ble_eq_true rfl⟩) (hs_preV (r := (RX12, TX12, 48)) hP hK h132 (by decide) rfl) rfl rfl hl.1 rfl (lv_room (Nat.le_of_ble_eq_true rfl)) dL_law_545 ⟨(Nat.le_of_ble_eq_true rfl), (Nat.le_of_ble_eq_true rfl)⟩) hS (fun H locs hP hS => ?_)
        refine lv_pop hx hb dL_law_548 rfl ?_
        refine lv_goto (tgt := 609) hx hb dL_law_549 (by decide) ?_
        exact wL_law_j609 hX (fun z0 g H locs ls hf hP hS hl => ih z0 g hf H locs ls hP hS hl) hex0 hex1 hf hP hS (lv_sub hl [0, 1, 2, 3] rfl)
      have hn11 := hc
      replace hf := hs_f hf hc
      clear hc
      by_cases hc : ((xs v3.toNatClampNeg) &&& (15 : Int32)) = (12 : Int32)
      · replace hf := hs_t hf hc
        refine lv_tableIn (off := 520) (tgt := 552) hx hb dL_law_32 (by rw [hc]; decide +kernel) (by rw [hc]; decide +kernel) (by rw [hc]; first | done | decide +kernel) (by decide) ?_
        refine lv_aload_n hx hb dL_law_552 rfl (lv_at hl 1 rfl) ?_
        refine lv_aload_n hx hb dL_law_553 rfl (lv_at hl 0 rfl) ?_
        refine lv_iload_n hx hb dL_law_554 rfl (lv_at hl 3 rfl) ?_
        refine lv_iconst (v := 1) hx hb dL_law_555 (by decide) ?_
        refine lv_iadd hx hb dL_law_556 ?_
        obtain ⟨h136, hf⟩ := hs_ck hf
        refine va_sld hx hb hXs hbl hbA hS (hs_in_vp h136) dL_law_557 ?_
        refine lv_aload_n hx hb dL_law_558 rfl (lv_at hl 0 rfl) ?_
        refine lv_iload_n hx hb dL_law_559 rfl (lv_at hl 3 rfl) ?_
        refine lv_iconst (v := 2) hx hb dL_law_560 (by decide) ?_
        refine lv_iadd hx hb dL_law_561 ?_
        obtain ⟨h137, hf⟩ := hs_ck hf
        refine va_sld hx hb hXs hbl hbA hS (hs_in_vp h137) dL_law_562 ?_
        obtain ⟨h138, hf⟩ := hs_ck hf
        obtain ⟨r140, g139, h141, hf⟩ := hs_bd_some hf
        refine hs_calli (va_runV (As := [.int (xs (v3 + (1 : Int32)).toNatClampNeg), .int (xs (v3 + (2 : Int32)).toNatClampNeg)]) (rest := []) ⟨hx, hb, hml, hown, hts⟩ (ctX11_element l B D E v1 (xs (v3 + (1 : Int32)).toNatClampNeg) (xs (v3 + (2 : Int32)).toNatClampNeg) g _ h141) (cwV 2 hts (hs_gV (fun _ h => h) wq944 wq945 wq946 wq2 wq947) rfl rfl rfl (by decide +kernel) ⟨Nat.le_of_ble_eq_true rfl, Nat.le_of_ble_eq_true rfl⟩) (hs_preV (r := (RX11, TX11, 8)) hP hK h138 (by decide) rfl) rfl rfl hl.1 rfl (lv_room (Nat.le_of_ble_eq_true rfl)) dL_law_563 ⟨(Nat.le_of_ble_eq_true rfl), (Nat.le_of_ble_eq_true rfl)⟩) hS (fun H locs hP hS => ?_)
        refine lv_aload_n hx hb dL_law_566 rfl (lv_at hl 2 rfl) ?_
        refine lv_aload_n hx hb dL_law_567 rfl (lv_at hl 0 rfl) ?_
        refine lv_iload_n hx hb dL_law_568 rfl (lv_at hl 3 rfl) ?_
        refine lv_iconst (v := 1) hx hb dL_law_569 (by decide) ?_
        refine lv_iadd hx hb dL_law_570 ?_
        refine va_sld hx hb hXs hbl hbA hS (hs_in_vp h136) dL_law_571 ?_
        refine lv_aload_n hx hb dL_law_572 rfl (lv_at hl 0 rfl) ?_
        refine lv_iload_n hx hb dL_law_573 rfl (lv_at hl 3 rfl) ?_
        refine lv_iconst (v := 2) hx hb dL_law_574 (by decide) ?_
        refine lv_iadd hx hb dL_law_575 ?_
        refine va_sld hx hb hXs hbl hbA hS (hs_in_vp h137) dL_law_576 ?_
        obtain ⟨h142, hf⟩ := hs_ck hf
        obtain ⟨r144, g143, h145, hf⟩ := hs_bd_some hf
        refine hs_calli (va_runV (As := [.int (xs (v3 + (1 : Int32)).toNatClampNeg), .int (xs (v3 + (2 : Int32)).toNatClampNeg)]) (rest := [.int r140]) ⟨hx, hb, hml, hown, hts⟩ (ctX12_element l B D E v2 (xs (v3 + (1 : Int32)).toNatClampNeg) (xs (v3 + (2 : Int32)).toNatClampNeg) g139 _ h145) (cwV 2 hts (hs_gV (fun _ h => h) wq952 wq953 wq954 wq5 wq955) rfl rfl rfl (by decide +kernel) ⟨Nat.le_of_ble_eq_true rfl, Nat.le_of_ble_eq_true rfl⟩) (hs_preV (r := (RX12, TX12, 48)) hP hK h142 (by decide) rfl) rfl rfl hl.1 rfl (lv_room (Nat.le_of_ble_eq_true rfl)) dL_law_577 ⟨(Nat.le_of_ble_eq_true rfl), (Nat.le_of_ble_eq_true rfl)⟩) hS (fun H locs hP hS => ?_)
        refine lv_icmp_eq (tgt := 609) hx hb dL_law_580 (by decide) (fun hc => ?_) (fun hc => ?_)
        · replace hf := hs_t hf hc
          exact wL_law_j609 hX (fun z0 g H locs ls hf hP hS hl => ih z0 g hf H locs ls hP hS hl) hex0 hex1 hf hP hS (lv_sub hl [0, 1, 2, 3] rfl)
        · replace hf := hs_f hf hc
          obtain rfl := Option.some.inj hf
          exact hex1 rfl _ _ _ hP hS (lv_sub hl [] rfl)
      have hn12 := hc
      replace hf := hs_f hf hc
      clear hc
      by_cases hc : ((xs v3.toNatClampNeg) &&& (15 : Int32)) = (13 : Int32)
      · replace hf := hs_t hf hc
        refine lv_tableIn (off := 553) (tgt := 585) hx hb dL_law_32 (by rw [hc]; decide +kernel) (by rw [hc]; decide +kernel) (by rw [hc]; first | done | decide +kernel) (by decide) ?_
        refine lv_aload_n hx hb dL_law_585 rfl (lv_at hl 1 rfl) ?_
        obtain ⟨h146, hf⟩ := hs_ck hf
        obtain ⟨r148, g147, h149, hf⟩ := hs_bd_some hf
        refine hs_calli (va_runV (As := []) (rest := []) ⟨hx, hb, hml, hown, hts⟩ (ctX11_unwrite l B D E v1 g _ h149) (cwV 0 hts (hs_gV (fun _ h => h) wq956 wq957 wq958 wq2 wq959) rfl rfl rfl (by decide +kernel) ⟨Nat.le_of_ble_eq_true rfl, Nat.le_of_ble_eq_true rfl⟩) (hs_preV (r := (RX11, TX11, 8)) hP hK h146 (by decide) rfl) rfl rfl hl.1 rfl (lv_room (Nat.le_of_ble_eq_true rfl)) dL_law_586 ⟨(Nat.le_of_ble_eq_true rfl), (Nat.le_of_ble_eq_true rfl)⟩) hS (fun H locs hP hS => ?_)
        refine lv_pop hx hb dL_law_589 rfl ?_
        refine lv_aload_n hx hb dL_law_590 rfl (lv_at hl 2 rfl) ?_
        obtain ⟨h150, hf⟩ := hs_ck hf
        obtain ⟨r152, g151, h153, hf⟩ := hs_bd_some hf
        refine hs_calli (va_runV (As := []) (rest := []) ⟨hx, hb, hml, hown, hts⟩ (ctX12_unwrite l B D E v2 g147 _ h153) (cwV 0 hts (hs_gV (fun _ h => h) wq967 wq968 wq969 wq5 wq970) rfl rfl rfl (by decide +kernel) ⟨Nat.le_of_ble_eq_true rfl, Nat.le_of_ble_eq_true rfl⟩) (hs_preV (r := (RX12, TX12, 48)) hP hK h150 (by decide) rfl) rfl rfl hl.1 rfl (lv_room (Nat.le_of_ble_eq_true rfl)) dL_law_591 ⟨(Nat.le_of_ble_eq_true rfl), (Nat.le_of_ble_eq_true rfl)⟩) hS (fun H locs hP hS => ?_)
        refine lv_pop hx hb dL_law_594 rfl ?_
        refine lv_goto (tgt := 609) hx hb dL_law_595 (by decide) ?_
        exact wL_law_j609 hX (fun z0 g H locs ls hf hP hS hl => ih z0 g hf H locs ls hP hS hl) hex0 hex1 hf hP hS (lv_sub hl [0, 1, 2, 3] rfl)
      have hn13 := hc
      replace hf := hs_f hf hc
      clear hc
      by_cases hc : ((xs v3.toNatClampNeg) &&& (15 : Int32)) = (14 : Int32)
      · replace hf := hs_t hf hc
        refine lv_tableIn (off := 566) (tgt := 598) hx hb dL_law_32 (by rw [hc]; decide +kernel) (by rw [hc]; decide +kernel) (by rw [hc]; first | done | decide +kernel) (by decide) ?_
        refine lv_aload_n hx hb dL_law_598 rfl (lv_at hl 1 rfl) ?_
        obtain ⟨h154, hf⟩ := hs_ck hf
        obtain ⟨g155, h157, hf⟩ := hs_bv_some hf
        refine hs_callv (va_runV (As := []) (rest := []) ⟨hx, hb, hml, hown, hts⟩ (ctX11_clear l B D E v1 g _ h157) (cwV 0 hts (hs_gV (fun _ h => h) wq971 wq972 wq973 wq2 wq974) rfl rfl rfl (by decide +kernel) ⟨Nat.le_of_ble_eq_true rfl, Nat.le_of_ble_eq_true rfl⟩) (hs_preV (r := (RX11, TX11, 8)) hP hK h154 (by decide) rfl) rfl rfl hl.1 rfl (lv_room (Nat.le_of_ble_eq_true rfl)) dL_law_599 ⟨(Nat.le_of_ble_eq_true rfl), (Nat.le_of_ble_eq_true rfl)⟩) hS (fun H locs hP hS => ?_)
        refine lv_aload_n hx hb dL_law_602 rfl (lv_at hl 2 rfl) ?_
        obtain ⟨h158, hf⟩ := hs_ck hf
        obtain ⟨g159, h161, hf⟩ := hs_bv_some hf
        refine hs_callv (va_runV (As := []) (rest := []) ⟨hx, hb, hml, hown, hts⟩ (ctX12_clear l B D E v2 g155 _ h161) (cwV 0 hts (hs_gV (fun _ h => h) wq977 wq978 wq979 wq5 wq980) rfl rfl rfl (by decide +kernel) ⟨Nat.le_of_ble_eq_true rfl, Nat.le_of_ble_eq_true rfl⟩) (hs_preV (r := (RX12, TX12, 48)) hP hK h158 (by decide) rfl) rfl rfl hl.1 rfl (lv_room (Nat.le_of_ble_eq_true rfl)) dL_law_603 ⟨(Nat.le_of_ble_eq_true rfl), (Nat.le_of_ble_eq_true rfl)⟩) hS (fun H locs hP hS => ?_)
        refine lv_goto (tgt := 609) hx hb dL_law_606 (by decide) ?_
        exact wL_law_j609 hX (fun z0 g H locs ls hf hP hS hl => ih z0 g hf H locs ls hP hS hl) hex0 hex1 hf hP hS (lv_sub hl [0, 1, 2, 3] rfl)
      have hn14 := hc
      replace hf := hs_f hf hc
      clear hc
      refine lv_tableOut (tgt := 609) hx hb dL_law_32 (by have := lv_neT (a := 0) hn0 rfl; have := lv_neT (a := 1) hn1 rfl; have := lv_neT (a := 2) hn2 rfl; have := lv_neT (a := 3) hn3 rfl; have := lv_neT (a := 4) hn4 rfl; have := lv_neT (a := 5) hn5 rfl; have := lv_neT (a := 6) hn6 rfl; have := lv_neT (a := 7) hn7 rfl; have := lv_neT (a := 8) hn8 rfl; have := lv_neT (a := 9) hn9 rfl; have := lv_neT (a := 10) hn10 rfl; have := lv_neT (a := 11) hn11 rfl; have := lv_neT (a := 12) hn12 rfl; have := lv_neT (a := 13) hn13 rfl; have := lv_neT (a := 14) hn14 rfl; omega) (by decide) ?_
      exact wL_law_j609 hX (fun z0 g H locs ls hf hP hS hl => ih z0 g hf H locs ls hP hS hl) hex0 hex1 hf hP hS (lv_sub hl [0, 1, 2, 3] rfl)

set_option maxHeartbeats 4000000 in
set_option maxRecDepth 100000 in
theorem wL_law {p : Program} {l : Launch} {e : Env} {s : State} {m : MethodId} {args : Array Value} {below : List Frame} {meth : Method} {c : Code} {B : Nat} {D : va_G} {E : Nat → ClassId} {b L : Nat} {xs : Nat → Int32} (hX : hs_cl p s m args meth c D E B b L xs) (hBs : B = s.heap.size) (harg : args = #[Value.ref b]) {g : hs_S} {o : Int32 × hs_S} (hf : fL_law xs L g = some o) (ho : o.1 = 1) {H : Heap} {locs : List Loc} {ls : Array Slot} (hP : hs_P B D E g H) (hS : hs_Sx B s.heap H locs) (hl : lv_has ls 4 [(0, .ref b)]) : W p l e room_1 s m args below meth c H locs 0 0 (lw_Z below args s) (F0 m 0 ls []) := by
  obtain ⟨hx, hb, hr, hml, hown, hts, hlocks, hK, hXs, hbl, hbA⟩ := id hX
  unfold fL_law at hf
  refine hs_newc (ci := 9) (C := RX11) (T := TX11) (N := 8) hx hb hts inlX11 tyX11 tyX11_ok hown (hts _ wq0) (hts _ wq1) (hts _ wq2) hK.1 hP hS (by decide) rfl hs_dfX11 (Nat.le_of_ble_eq_true rfl) (Nat.le_of_ble_eq_true rfl) dL_law_0 (fun H hP hS => ?_)
  refine W.widen (k := 1) (n := 8) (by omega) (by omega) ?_
  refine lv_dup hx hb dL_law_3 rfl ?_
  obtain ⟨g1, h3, hf⟩ := hs_bv_some hf
  refine hs_callv (va_runI (As := []) (rest := [.ref (B + g.1)]) ⟨hx, hb, hml, hown, hts⟩ (ctX11_init l B D E g.1 (hs_new g 9 0) _ h3) (cwI 0 hts (hs_gI (fun _ h => h) wq9) rfl rfl rfl (hts _ wq2) (hts _ wq7) (hts _ wq8) rfl (by decide +kernel) ⟨Nat.le_of_ble_eq_true rfl, Nat.le_of_ble_eq_true rfl⟩) (hs_pre hP hK) rfl rfl hl.1 rfl (lv_room (Nat.le_of_ble_eq_true rfl)) dL_law_4 ⟨(Nat.le_of_ble_eq_true rfl), (Nat.le_of_ble_eq_true rfl)⟩) hS (fun H locs hP hS => ?_)
  refine W.widen (k := 285) (n := 148649) (by omega) (by omega) ?_
  refine lv_astore_n (lv' := [(1, .ref (B + g.1)), (0, .ref b)]) hx hb dL_law_7 rfl hl (by decide) rfl (fun ls hl => ?_)
  refine hs_newc (ci := 10) (C := RX12) (T := TX12) (N := 48) hx hb hts inlX12 tyX12 tyX12_ok hown (hts _ wq3) (hts _ wq4) (hts _ wq5) hK.1 hP hS (by decide) rfl hs_dfX12 (Nat.le_of_ble_eq_true rfl) (Nat.le_of_ble_eq_true rfl) dL_law_8 (fun H hP hS => ?_)
  refine W.widen (k := 286) (n := 148697) (by omega) (by omega) ?_
  refine lv_dup hx hb dL_law_11 rfl ?_
  obtain ⟨g4, h6, hf⟩ := hs_bv_some hf
  refine hs_callv (va_runI (As := []) (rest := [.ref (B + g1.1)]) ⟨hx, hb, hml, hown, hts⟩ (ctX12_init l B D E g1.1 (hs_new g1 10 0) _ h6) (cwI 0 hts (hs_gI (fun _ h => h) wq120) rfl rfl rfl (hts _ wq5) (hts _ wq118) (hts _ wq119) rfl (by decide +kernel) ⟨Nat.le_of_ble_eq_true rfl, Nat.le_of_ble_eq_true rfl⟩) (hs_pre hP hK) rfl rfl hl.1 rfl (lv_room (Nat.le_of_ble_eq_true rfl)) dL_law_12 ⟨(Nat.le_of_ble_eq_true rfl), (Nat.le_of_ble_eq_true rfl)⟩) hS (fun H locs hP hS => ?_)
  refine W.widen (k := 320) (n := 294704) (by omega) (by omega) ?_
  refine lv_astore_n (lv' := [(2, .ref (B + g1.1)), (1, .ref (B + g.1)), (0, .ref b)]) hx hb dL_law_15 rfl hl (by decide) rfl (fun ls hl => ?_)
  refine lv_iconst (v := 0) hx hb dL_law_16 (by decide) ?_
  refine lv_istore_n (lv' := [(3, .int (0 : Int32)), (2, .ref (B + g1.1)), (1, .ref (B + g.1)), (0, .ref b)]) hx hb dL_law_17 rfl hl (by decide) rfl (fun ls hl => ?_)
  obtain ⟨k162, g163, h164, hf⟩ := hs_bd_some hf
  refine wL_law_18 hX (fun hlab H locs ls hP hS hl => ?_) (fun hlab H locs ls hP hS hl => ?_) hs_N _ _ h164 _ _ _ hP hS (lv_sub hl [3, 2, 1, 0] rfl)
  · replace hlab : k162 = 0 := hlab
    replace hf := hs_t hf hlab
    refine lv_iconst (v := 1) hx hb dL_law_615 (by decide) ?_
    exact wl_end hx hb hr hlocks hBs harg hS hf ho (by omega) (by omega) dL_law_616
  · replace hlab : k162 = 1 := hlab
    replace hf := hs_f hf (by rw [hlab]; decide)
    refine lv_iconst (v := 0) hx hb dL_law_583 (by decide) ?_
    exact wl_end hx hb hr hlocks hBs harg hS hf ho (by omega) (by omega) dL_law_584
