theorem dX12_readMethod_0 : decode cX12_readMethod 0 = .ok (.aload_n 0, 1) := by decide +kernel
theorem dX12_readMethod_1 : decode cX12_readMethod 1 = .ok (.invokevirtual 137, 3) := by decide +kernel
theorem dX12_readMethod_4 : decode cX12_readMethod 4 = .ok (.istore_n 3, 1) := by decide +kernel
theorem dX12_readMethod_5 : decode cX12_readMethod 5 = .ok (.iload_n 3, 1) := by decide +kernel
theorem dX12_readMethod_6 : decode cX12_readMethod 6 = .ok (.ifCond .lt 8, 3) := by decide +kernel
theorem dX12_readMethod_9 : decode cX12_readMethod 9 = .ok (.iload_n 3, 1) := by decide +kernel
theorem dX12_readMethod_10 : decode cX12_readMethod 10 = .ok (.iconst 4, 1) := by decide +kernel
theorem dX12_readMethod_11 : decode cX12_readMethod 11 = .ok (.if_icmp .le 14, 3) := by decide +kernel
theorem dX12_readMethod_14 : decode cX12_readMethod 14 = .ok (.aload_n 0, 1) := by decide +kernel
theorem dX12_readMethod_15 : decode cX12_readMethod 15 = .ok (.aload_n 0, 1) := by decide +kernel
theorem dX12_readMethod_16 : decode cX12_readMethod 16 = .ok (.getfield 127, 3) := by decide +kernel
theorem dX12_readMethod_19 : decode cX12_readMethod 19 = .ok (.iconst 1, 1) := by decide +kernel
theorem dX12_readMethod_20 : decode cX12_readMethod 20 = .ok (.isub, 1) := by decide +kernel
theorem dX12_readMethod_21 : decode cX12_readMethod 21 = .ok (.invokevirtual 141, 3) := by decide +kernel
theorem dX12_readMethod_24 : decode cX12_readMethod 24 = .ok (.ireturn, 1) := by decide +kernel
theorem dX12_readMethod_25 : decode cX12_readMethod 25 = .ok (.aload_n 0, 1) := by decide +kernel
theorem dX12_readMethod_26 : decode cX12_readMethod 26 = .ok (.invokevirtual 137, 3) := by decide +kernel
theorem dX12_readMethod_29 : decode cX12_readMethod 29 = .ok (.istore 4, 2) := by decide +kernel
theorem dX12_readMethod_31 : decode cX12_readMethod 31 = .ok (.iload 4, 2) := by decide +kernel
theorem dX12_readMethod_33 : decode cX12_readMethod 33 = .ok (.iload_n 3, 1) := by decide +kernel
theorem dX12_readMethod_34 : decode cX12_readMethod 34 = .ok (.if_icmp .lt 10, 3) := by decide +kernel
theorem dX12_readMethod_37 : decode cX12_readMethod 37 = .ok (.iload 4, 2) := by decide +kernel
theorem dX12_readMethod_39 : decode cX12_readMethod 39 = .ok (.bipush 20, 2) := by decide +kernel
theorem dX12_readMethod_41 : decode cX12_readMethod 41 = .ok (.if_icmp .le 14, 3) := by decide +kernel
theorem dX12_readMethod_44 : decode cX12_readMethod 44 = .ok (.aload_n 0, 1) := by decide +kernel
theorem dX12_readMethod_45 : decode cX12_readMethod 45 = .ok (.aload_n 0, 1) := by decide +kernel
theorem dX12_readMethod_46 : decode cX12_readMethod 46 = .ok (.getfield 127, 3) := by decide +kernel
theorem dX12_readMethod_49 : decode cX12_readMethod 49 = .ok (.iconst 1, 1) := by decide +kernel
theorem dX12_readMethod_50 : decode cX12_readMethod 50 = .ok (.isub, 1) := by decide +kernel
theorem dX12_readMethod_51 : decode cX12_readMethod 51 = .ok (.invokevirtual 141, 3) := by decide +kernel
theorem dX12_readMethod_54 : decode cX12_readMethod 54 = .ok (.ireturn, 1) := by decide +kernel
theorem dX12_readMethod_55 : decode cX12_readMethod 55 = .ok (.aload_n 0, 1) := by decide +kernel
theorem dX12_readMethod_56 : decode cX12_readMethod 56 = .ok (.invokevirtual 151, 3) := by decide +kernel
theorem dX12_readMethod_59 : decode cX12_readMethod 59 = .ok (.istore 5, 2) := by decide +kernel
theorem dX12_readMethod_61 : decode cX12_readMethod 61 = .ok (.iload 5, 2) := by decide +kernel
theorem dX12_readMethod_63 : decode cX12_readMethod 63 = .ok (.ifCond .ge 12, 3) := by decide +kernel
theorem dX12_readMethod_66 : decode cX12_readMethod 66 = .ok (.aload_n 0, 1) := by decide +kernel
theorem dX12_readMethod_67 : decode cX12_readMethod 67 = .ok (.aload_n 0, 1) := by decide +kernel
theorem dX12_readMethod_68 : decode cX12_readMethod 68 = .ok (.getfield 124, 3) := by decide +kernel
theorem dX12_readMethod_71 : decode cX12_readMethod 71 = .ok (.invokevirtual 141, 3) := by decide +kernel
theorem dX12_readMethod_74 : decode cX12_readMethod 74 = .ok (.ireturn, 1) := by decide +kernel
theorem dX12_readMethod_75 : decode cX12_readMethod 75 = .ok (.iload 5, 2) := by decide +kernel
theorem dX12_readMethod_77 : decode cX12_readMethod 77 = .ok (.iconst 1, 1) := by decide +kernel
theorem dX12_readMethod_78 : decode cX12_readMethod 78 = .ok (.if_icmp .lt 11, 3) := by decide +kernel
theorem dX12_readMethod_81 : decode cX12_readMethod 81 = .ok (.iload 5, 2) := by decide +kernel
theorem dX12_readMethod_83 : decode cX12_readMethod 83 = .ok (.sipush 2000, 3) := by decide +kernel
theorem dX12_readMethod_86 : decode cX12_readMethod 86 = .ok (.if_icmp .le 14, 3) := by decide +kernel
theorem dX12_readMethod_89 : decode cX12_readMethod 89 = .ok (.aload_n 0, 1) := by decide +kernel
theorem dX12_readMethod_90 : decode cX12_readMethod 90 = .ok (.aload_n 0, 1) := by decide +kernel
theorem dX12_readMethod_91 : decode cX12_readMethod 91 = .ok (.getfield 127, 3) := by decide +kernel
theorem dX12_readMethod_94 : decode cX12_readMethod 94 = .ok (.iconst 2, 1) := by decide +kernel
theorem dX12_readMethod_95 : decode cX12_readMethod 95 = .ok (.isub, 1) := by decide +kernel
theorem dX12_readMethod_96 : decode cX12_readMethod 96 = .ok (.invokevirtual 141, 3) := by decide +kernel
theorem dX12_readMethod_99 : decode cX12_readMethod 99 = .ok (.ireturn, 1) := by decide +kernel
theorem dX12_readMethod_100 : decode cX12_readMethod 100 = .ok (.aload_n 0, 1) := by decide +kernel
theorem dX12_readMethod_101 : decode cX12_readMethod 101 = .ok (.getfield 48, 3) := by decide +kernel
theorem dX12_readMethod_104 : decode cX12_readMethod 104 = .ok (.iload_n 1, 1) := by decide +kernel
theorem dX12_readMethod_105 : decode cX12_readMethod 105 = .ok (.iload_n 3, 1) := by decide +kernel
theorem dX12_readMethod_106 : decode cX12_readMethod 106 = .ok (.iastore, 1) := by decide +kernel
theorem dX12_readMethod_107 : decode cX12_readMethod 107 = .ok (.aload_n 0, 1) := by decide +kernel
theorem dX12_readMethod_108 : decode cX12_readMethod 108 = .ok (.getfield 51, 3) := by decide +kernel
theorem dX12_readMethod_111 : decode cX12_readMethod 111 = .ok (.iload_n 1, 1) := by decide +kernel
theorem dX12_readMethod_112 : decode cX12_readMethod 112 = .ok (.iload 4, 2) := by decide +kernel
theorem dX12_readMethod_114 : decode cX12_readMethod 114 = .ok (.iastore, 1) := by decide +kernel
theorem dX12_readMethod_115 : decode cX12_readMethod 115 = .ok (.aload_n 0, 1) := by decide +kernel
theorem dX12_readMethod_116 : decode cX12_readMethod 116 = .ok (.getfield 54, 3) := by decide +kernel
theorem dX12_readMethod_119 : decode cX12_readMethod 119 = .ok (.iload_n 1, 1) := by decide +kernel
theorem dX12_readMethod_120 : decode cX12_readMethod 120 = .ok (.iload 5, 2) := by decide +kernel
theorem dX12_readMethod_122 : decode cX12_readMethod 122 = .ok (.iastore, 1) := by decide +kernel
theorem dX12_readMethod_123 : decode cX12_readMethod 123 = .ok (.aload_n 0, 1) := by decide +kernel
theorem dX12_readMethod_124 : decode cX12_readMethod 124 = .ok (.getfield 57, 3) := by decide +kernel
theorem dX12_readMethod_127 : decode cX12_readMethod 127 = .ok (.iload_n 1, 1) := by decide +kernel
theorem dX12_readMethod_128 : decode cX12_readMethod 128 = .ok (.aload_n 0, 1) := by decide +kernel
theorem dX12_readMethod_129 : decode cX12_readMethod 129 = .ok (.getfield 127, 3) := by decide +kernel
theorem dX12_readMethod_132 : decode cX12_readMethod 132 = .ok (.iastore, 1) := by decide +kernel
theorem dX12_readMethod_133 : decode cX12_readMethod 133 = .ok (.aload_n 0, 1) := by decide +kernel
theorem dX12_readMethod_134 : decode cX12_readMethod 134 = .ok (.getfield 127, 3) := by decide +kernel
theorem dX12_readMethod_137 : decode cX12_readMethod 137 = .ok (.iload 5, 2) := by decide +kernel
theorem dX12_readMethod_139 : decode cX12_readMethod 139 = .ok (.iadd, 1) := by decide +kernel
theorem dX12_readMethod_140 : decode cX12_readMethod 140 = .ok (.aload_n 0, 1) := by decide +kernel
theorem dX12_readMethod_141 : decode cX12_readMethod 141 = .ok (.getfield 124, 3) := by decide +kernel
theorem dX12_readMethod_144 : decode cX12_readMethod 144 = .ok (.if_icmp .le 12, 3) := by decide +kernel
theorem dX12_readMethod_147 : decode cX12_readMethod 147 = .ok (.aload_n 0, 1) := by decide +kernel
theorem dX12_readMethod_148 : decode cX12_readMethod 148 = .ok (.aload_n 0, 1) := by decide +kernel
theorem dX12_readMethod_149 : decode cX12_readMethod 149 = .ok (.getfield 124, 3) := by decide +kernel
theorem dX12_readMethod_152 : decode cX12_readMethod 152 = .ok (.invokevirtual 141, 3) := by decide +kernel
theorem dX12_readMethod_155 : decode cX12_readMethod 155 = .ok (.ireturn, 1) := by decide +kernel
theorem dX12_readMethod_156 : decode cX12_readMethod 156 = .ok (.iconst 0, 1) := by decide +kernel
theorem dX12_readMethod_157 : decode cX12_readMethod 157 = .ok (.istore 6, 2) := by decide +kernel
theorem dX12_readMethod_159 : decode cX12_readMethod 159 = .ok (.iload 6, 2) := by decide +kernel
theorem dX12_readMethod_161 : decode cX12_readMethod 161 = .ok (.iload 5, 2) := by decide +kernel
theorem dX12_readMethod_163 : decode cX12_readMethod 163 = .ok (.if_icmp .ge 26, 3) := by decide +kernel
theorem dX12_readMethod_166 : decode cX12_readMethod 166 = .ok (.aload_n 0, 1) := by decide +kernel
theorem dX12_readMethod_167 : decode cX12_readMethod 167 = .ok (.getfield 66, 3) := by decide +kernel
theorem dX12_readMethod_170 : decode cX12_readMethod 170 = .ok (.sipush 2001, 3) := by decide +kernel
theorem dX12_readMethod_173 : decode cX12_readMethod 173 = .ok (.iload_n 1, 1) := by decide +kernel
theorem dX12_readMethod_174 : decode cX12_readMethod 174 = .ok (.imul, 1) := by decide +kernel
theorem dX12_readMethod_175 : decode cX12_readMethod 175 = .ok (.iload 6, 2) := by decide +kernel
theorem dX12_readMethod_177 : decode cX12_readMethod 177 = .ok (.iadd, 1) := by decide +kernel
theorem dX12_readMethod_178 : decode cX12_readMethod 178 = .ok (.aload_n 0, 1) := by decide +kernel
theorem dX12_readMethod_179 : decode cX12_readMethod 179 = .ok (.invokevirtual 137, 3) := by decide +kernel
theorem dX12_readMethod_182 : decode cX12_readMethod 182 = .ok (.iastore, 1) := by decide +kernel
theorem dX12_readMethod_183 : decode cX12_readMethod 183 = .ok (.iinc 6 1, 3) := by decide +kernel
theorem dX12_readMethod_186 : decode cX12_readMethod 186 = .ok (.goto (-27), 3) := by decide +kernel
theorem dX12_readMethod_189 : decode cX12_readMethod 189 = .ok (.aload_n 0, 1) := by decide +kernel
theorem dX12_readMethod_190 : decode cX12_readMethod 190 = .ok (.invokevirtual 137, 3) := by decide +kernel
theorem dX12_readMethod_193 : decode cX12_readMethod 193 = .ok (.istore 6, 2) := by decide +kernel
theorem dX12_readMethod_195 : decode cX12_readMethod 195 = .ok (.iload 6, 2) := by decide +kernel
theorem dX12_readMethod_197 : decode cX12_readMethod 197 = .ok (.ifCond .lt 10, 3) := by decide +kernel
theorem dX12_readMethod_200 : decode cX12_readMethod 200 = .ok (.iload 6, 2) := by decide +kernel
theorem dX12_readMethod_202 : decode cX12_readMethod 202 = .ok (.bipush 8, 2) := by decide +kernel
theorem dX12_readMethod_204 : decode cX12_readMethod 204 = .ok (.if_icmp .le 14, 3) := by decide +kernel
theorem dX12_readMethod_207 : decode cX12_readMethod 207 = .ok (.aload_n 0, 1) := by decide +kernel
theorem dX12_readMethod_208 : decode cX12_readMethod 208 = .ok (.aload_n 0, 1) := by decide +kernel
theorem dX12_readMethod_209 : decode cX12_readMethod 209 = .ok (.getfield 127, 3) := by decide +kernel
theorem dX12_readMethod_212 : decode cX12_readMethod 212 = .ok (.iconst 1, 1) := by decide +kernel
theorem dX12_readMethod_213 : decode cX12_readMethod 213 = .ok (.isub, 1) := by decide +kernel
theorem dX12_readMethod_214 : decode cX12_readMethod 214 = .ok (.invokevirtual 141, 3) := by decide +kernel
theorem dX12_readMethod_217 : decode cX12_readMethod 217 = .ok (.ireturn, 1) := by decide +kernel
theorem dX12_readMethod_218 : decode cX12_readMethod 218 = .ok (.aload_n 0, 1) := by decide +kernel
theorem dX12_readMethod_219 : decode cX12_readMethod 219 = .ok (.getfield 60, 3) := by decide +kernel
theorem dX12_readMethod_222 : decode cX12_readMethod 222 = .ok (.iload_n 1, 1) := by decide +kernel
theorem dX12_readMethod_223 : decode cX12_readMethod 223 = .ok (.iload 6, 2) := by decide +kernel
theorem dX12_readMethod_225 : decode cX12_readMethod 225 = .ok (.iastore, 1) := by decide +kernel
theorem dX12_readMethod_226 : decode cX12_readMethod 226 = .ok (.aload_n 0, 1) := by decide +kernel
theorem dX12_readMethod_227 : decode cX12_readMethod 227 = .ok (.getfield 127, 3) := by decide +kernel
theorem dX12_readMethod_230 : decode cX12_readMethod 230 = .ok (.istore 7, 2) := by decide +kernel
theorem dX12_readMethod_232 : decode cX12_readMethod 232 = .ok (.aload_n 0, 1) := by decide +kernel
theorem dX12_readMethod_233 : decode cX12_readMethod 233 = .ok (.getfield 127, 3) := by decide +kernel
theorem dX12_readMethod_236 : decode cX12_readMethod 236 = .ok (.bipush 7, 2) := by decide +kernel
theorem dX12_readMethod_238 : decode cX12_readMethod 238 = .ok (.iload 6, 2) := by decide +kernel
theorem dX12_readMethod_240 : decode cX12_readMethod 240 = .ok (.imul, 1) := by decide +kernel
theorem dX12_readMethod_241 : decode cX12_readMethod 241 = .ok (.iadd, 1) := by decide +kernel
theorem dX12_readMethod_242 : decode cX12_readMethod 242 = .ok (.aload_n 0, 1) := by decide +kernel
theorem dX12_readMethod_243 : decode cX12_readMethod 243 = .ok (.getfield 124, 3) := by decide +kernel
theorem dX12_readMethod_246 : decode cX12_readMethod 246 = .ok (.if_icmp .le 12, 3) := by decide +kernel
theorem dX12_readMethod_249 : decode cX12_readMethod 249 = .ok (.aload_n 0, 1) := by decide +kernel
theorem dX12_readMethod_250 : decode cX12_readMethod 250 = .ok (.aload_n 0, 1) := by decide +kernel
theorem dX12_readMethod_251 : decode cX12_readMethod 251 = .ok (.getfield 124, 3) := by decide +kernel
theorem dX12_readMethod_254 : decode cX12_readMethod 254 = .ok (.invokevirtual 141, 3) := by decide +kernel
theorem dX12_readMethod_257 : decode cX12_readMethod 257 = .ok (.ireturn, 1) := by decide +kernel
theorem dX12_readMethod_258 : decode cX12_readMethod 258 = .ok (.iconst 0, 1) := by decide +kernel
theorem dX12_readMethod_259 : decode cX12_readMethod 259 = .ok (.istore 8, 2) := by decide +kernel
theorem dX12_readMethod_261 : decode cX12_readMethod 261 = .ok (.iload 8, 2) := by decide +kernel
theorem dX12_readMethod_263 : decode cX12_readMethod 263 = .ok (.iload 6, 2) := by decide +kernel
theorem dX12_readMethod_265 : decode cX12_readMethod 265 = .ok (.if_icmp .ge 70, 3) := by decide +kernel
theorem dX12_readMethod_268 : decode cX12_readMethod 268 = .ok (.bipush 32, 2) := by decide +kernel
theorem dX12_readMethod_270 : decode cX12_readMethod 270 = .ok (.iload_n 1, 1) := by decide +kernel
theorem dX12_readMethod_271 : decode cX12_readMethod 271 = .ok (.imul, 1) := by decide +kernel
theorem dX12_readMethod_272 : decode cX12_readMethod 272 = .ok (.iconst 4, 1) := by decide +kernel
theorem dX12_readMethod_273 : decode cX12_readMethod 273 = .ok (.iload 8, 2) := by decide +kernel
theorem dX12_readMethod_275 : decode cX12_readMethod 275 = .ok (.imul, 1) := by decide +kernel
theorem dX12_readMethod_276 : decode cX12_readMethod 276 = .ok (.iadd, 1) := by decide +kernel
theorem dX12_readMethod_277 : decode cX12_readMethod 277 = .ok (.istore 9, 2) := by decide +kernel
theorem dX12_readMethod_279 : decode cX12_readMethod 279 = .ok (.aload_n 0, 1) := by decide +kernel
theorem dX12_readMethod_280 : decode cX12_readMethod 280 = .ok (.getfield 63, 3) := by decide +kernel
theorem dX12_readMethod_283 : decode cX12_readMethod 283 = .ok (.iload 9, 2) := by decide +kernel
theorem dX12_readMethod_285 : decode cX12_readMethod 285 = .ok (.aload_n 0, 1) := by decide +kernel
theorem dX12_readMethod_286 : decode cX12_readMethod 286 = .ok (.invokevirtual 151, 3) := by decide +kernel
theorem dX12_readMethod_289 : decode cX12_readMethod 289 = .ok (.iastore, 1) := by decide +kernel
theorem dX12_readMethod_290 : decode cX12_readMethod 290 = .ok (.aload_n 0, 1) := by decide +kernel
theorem dX12_readMethod_291 : decode cX12_readMethod 291 = .ok (.getfield 63, 3) := by decide +kernel
theorem dX12_readMethod_294 : decode cX12_readMethod 294 = .ok (.iload 9, 2) := by decide +kernel
theorem dX12_readMethod_296 : decode cX12_readMethod 296 = .ok (.iconst 1, 1) := by decide +kernel
theorem dX12_readMethod_297 : decode cX12_readMethod 297 = .ok (.iadd, 1) := by decide +kernel
theorem dX12_readMethod_298 : decode cX12_readMethod 298 = .ok (.aload_n 0, 1) := by decide +kernel
theorem dX12_readMethod_299 : decode cX12_readMethod 299 = .ok (.invokevirtual 151, 3) := by decide +kernel
theorem dX12_readMethod_302 : decode cX12_readMethod 302 = .ok (.iastore, 1) := by decide +kernel
theorem dX12_readMethod_303 : decode cX12_readMethod 303 = .ok (.aload_n 0, 1) := by decide +kernel
theorem dX12_readMethod_304 : decode cX12_readMethod 304 = .ok (.getfield 63, 3) := by decide +kernel
theorem dX12_readMethod_307 : decode cX12_readMethod 307 = .ok (.iload 9, 2) := by decide +kernel
theorem dX12_readMethod_309 : decode cX12_readMethod 309 = .ok (.iconst 2, 1) := by decide +kernel
theorem dX12_readMethod_310 : decode cX12_readMethod 310 = .ok (.iadd, 1) := by decide +kernel
theorem dX12_readMethod_311 : decode cX12_readMethod 311 = .ok (.aload_n 0, 1) := by decide +kernel
theorem dX12_readMethod_312 : decode cX12_readMethod 312 = .ok (.invokevirtual 151, 3) := by decide +kernel
theorem dX12_readMethod_315 : decode cX12_readMethod 315 = .ok (.iastore, 1) := by decide +kernel
theorem dX12_readMethod_316 : decode cX12_readMethod 316 = .ok (.aload_n 0, 1) := by decide +kernel
theorem dX12_readMethod_317 : decode cX12_readMethod 317 = .ok (.getfield 63, 3) := by decide +kernel
theorem dX12_readMethod_320 : decode cX12_readMethod 320 = .ok (.iload 9, 2) := by decide +kernel
theorem dX12_readMethod_322 : decode cX12_readMethod 322 = .ok (.iconst 3, 1) := by decide +kernel
theorem dX12_readMethod_323 : decode cX12_readMethod 323 = .ok (.iadd, 1) := by decide +kernel
theorem dX12_readMethod_324 : decode cX12_readMethod 324 = .ok (.aload_n 0, 1) := by decide +kernel
theorem dX12_readMethod_325 : decode cX12_readMethod 325 = .ok (.invokevirtual 137, 3) := by decide +kernel
theorem dX12_readMethod_328 : decode cX12_readMethod 328 = .ok (.iastore, 1) := by decide +kernel
theorem dX12_readMethod_329 : decode cX12_readMethod 329 = .ok (.iinc 8 1, 3) := by decide +kernel
theorem dX12_readMethod_332 : decode cX12_readMethod 332 = .ok (.goto (-71), 3) := by decide +kernel
theorem dX12_readMethod_335 : decode cX12_readMethod 335 = .ok (.aload_n 0, 1) := by decide +kernel
theorem dX12_readMethod_336 : decode cX12_readMethod 336 = .ok (.iload_n 1, 1) := by decide +kernel
theorem dX12_readMethod_337 : decode cX12_readMethod 337 = .ok (.iload_n 2, 1) := by decide +kernel
theorem dX12_readMethod_338 : decode cX12_readMethod 338 = .ok (.invokevirtual 154, 3) := by decide +kernel
theorem dX12_readMethod_341 : decode cX12_readMethod 341 = .ok (.istore 8, 2) := by decide +kernel
theorem dX12_readMethod_343 : decode cX12_readMethod 343 = .ok (.iconst 0, 1) := by decide +kernel
theorem dX12_readMethod_344 : decode cX12_readMethod 344 = .ok (.istore 9, 2) := by decide +kernel
theorem dX12_readMethod_346 : decode cX12_readMethod 346 = .ok (.iload 9, 2) := by decide +kernel
theorem dX12_readMethod_348 : decode cX12_readMethod 348 = .ok (.iload 6, 2) := by decide +kernel
theorem dX12_readMethod_350 : decode cX12_readMethod 350 = .ok (.if_icmp .ge 136, 3) := by decide +kernel
theorem dX12_readMethod_353 : decode cX12_readMethod 353 = .ok (.iload 8, 2) := by decide +kernel
theorem dX12_readMethod_355 : decode cX12_readMethod 355 = .ok (.ifCond .ne 131, 3) := by decide +kernel
theorem dX12_readMethod_358 : decode cX12_readMethod 358 = .ok (.bipush 32, 2) := by decide +kernel
theorem dX12_readMethod_360 : decode cX12_readMethod 360 = .ok (.iload_n 1, 1) := by decide +kernel
theorem dX12_readMethod_361 : decode cX12_readMethod 361 = .ok (.imul, 1) := by decide +kernel
theorem dX12_readMethod_362 : decode cX12_readMethod 362 = .ok (.iconst 4, 1) := by decide +kernel
theorem dX12_readMethod_363 : decode cX12_readMethod 363 = .ok (.iload 9, 2) := by decide +kernel
theorem dX12_readMethod_365 : decode cX12_readMethod 365 = .ok (.imul, 1) := by decide +kernel
theorem dX12_readMethod_366 : decode cX12_readMethod 366 = .ok (.iadd, 1) := by decide +kernel
theorem dX12_readMethod_367 : decode cX12_readMethod 367 = .ok (.istore 10, 2) := by decide +kernel
theorem dX12_readMethod_369 : decode cX12_readMethod 369 = .ok (.aload_n 0, 1) := by decide +kernel
theorem dX12_readMethod_370 : decode cX12_readMethod 370 = .ok (.getfield 63, 3) := by decide +kernel
theorem dX12_readMethod_373 : decode cX12_readMethod 373 = .ok (.iload 10, 2) := by decide +kernel
theorem dX12_readMethod_375 : decode cX12_readMethod 375 = .ok (.iconst 1, 1) := by decide +kernel
theorem dX12_readMethod_376 : decode cX12_readMethod 376 = .ok (.iadd, 1) := by decide +kernel
theorem dX12_readMethod_377 : decode cX12_readMethod 377 = .ok (.iaload, 1) := by decide +kernel
theorem dX12_readMethod_378 : decode cX12_readMethod 378 = .ok (.istore 11, 2) := by decide +kernel
theorem dX12_readMethod_380 : decode cX12_readMethod 380 = .ok (.aload_n 0, 1) := by decide +kernel
theorem dX12_readMethod_381 : decode cX12_readMethod 381 = .ok (.iload_n 1, 1) := by decide +kernel
theorem dX12_readMethod_382 : decode cX12_readMethod 382 = .ok (.aload_n 0, 1) := by decide +kernel
theorem dX12_readMethod_383 : decode cX12_readMethod 383 = .ok (.getfield 63, 3) := by decide +kernel
theorem dX12_readMethod_386 : decode cX12_readMethod 386 = .ok (.iload 10, 2) := by decide +kernel
theorem dX12_readMethod_388 : decode cX12_readMethod 388 = .ok (.iaload, 1) := by decide +kernel
theorem dX12_readMethod_389 : decode cX12_readMethod 389 = .ok (.invokevirtual 157, 3) := by decide +kernel
theorem dX12_readMethod_392 : decode cX12_readMethod 392 = .ok (.ifCond .eq 66, 3) := by decide +kernel
theorem dX12_readMethod_395 : decode cX12_readMethod 395 = .ok (.aload_n 0, 1) := by decide +kernel
theorem dX12_readMethod_396 : decode cX12_readMethod 396 = .ok (.iload_n 1, 1) := by decide +kernel
theorem dX12_readMethod_397 : decode cX12_readMethod 397 = .ok (.aload_n 0, 1) := by decide +kernel
theorem dX12_readMethod_398 : decode cX12_readMethod 398 = .ok (.getfield 63, 3) := by decide +kernel
theorem dX12_readMethod_401 : decode cX12_readMethod 401 = .ok (.iload 10, 2) := by decide +kernel
theorem dX12_readMethod_403 : decode cX12_readMethod 403 = .ok (.iconst 2, 1) := by decide +kernel
theorem dX12_readMethod_404 : decode cX12_readMethod 404 = .ok (.iadd, 1) := by decide +kernel
theorem dX12_readMethod_405 : decode cX12_readMethod 405 = .ok (.iaload, 1) := by decide +kernel
theorem dX12_readMethod_406 : decode cX12_readMethod 406 = .ok (.invokevirtual 157, 3) := by decide +kernel
theorem dX12_readMethod_409 : decode cX12_readMethod 409 = .ok (.ifCond .eq 49, 3) := by decide +kernel
theorem dX12_readMethod_412 : decode cX12_readMethod 412 = .ok (.iload 11, 2) := by decide +kernel
theorem dX12_readMethod_414 : decode cX12_readMethod 414 = .ok (.aload_n 0, 1) := by decide +kernel
theorem dX12_readMethod_415 : decode cX12_readMethod 415 = .ok (.getfield 63, 3) := by decide +kernel
theorem dX12_readMethod_418 : decode cX12_readMethod 418 = .ok (.iload 10, 2) := by decide +kernel
theorem dX12_readMethod_420 : decode cX12_readMethod 420 = .ok (.iaload, 1) := by decide +kernel
theorem dX12_readMethod_421 : decode cX12_readMethod 421 = .ok (.if_icmp .le 37, 3) := by decide +kernel
theorem dX12_readMethod_424 : decode cX12_readMethod 424 = .ok (.iload 11, 2) := by decide +kernel
theorem dX12_readMethod_426 : decode cX12_readMethod 426 = .ok (.iload 5, 2) := by decide +kernel
theorem dX12_readMethod_428 : decode cX12_readMethod 428 = .ok (.if_icmp .eq 13, 3) := by decide +kernel
theorem dX12_readMethod_431 : decode cX12_readMethod 431 = .ok (.aload_n 0, 1) := by decide +kernel
theorem dX12_readMethod_432 : decode cX12_readMethod 432 = .ok (.iload_n 1, 1) := by decide +kernel
theorem dX12_readMethod_433 : decode cX12_readMethod 433 = .ok (.iload 11, 2) := by decide +kernel
theorem dX12_readMethod_435 : decode cX12_readMethod 435 = .ok (.invokevirtual 157, 3) := by decide +kernel
theorem dX12_readMethod_438 : decode cX12_readMethod 438 = .ok (.ifCond .eq 20, 3) := by decide +kernel
theorem dX12_readMethod_441 : decode cX12_readMethod 441 = .ok (.aload_n 0, 1) := by decide +kernel
theorem dX12_readMethod_442 : decode cX12_readMethod 442 = .ok (.getfield 63, 3) := by decide +kernel
theorem dX12_readMethod_445 : decode cX12_readMethod 445 = .ok (.iload 10, 2) := by decide +kernel
theorem dX12_readMethod_447 : decode cX12_readMethod 447 = .ok (.iconst 3, 1) := by decide +kernel
theorem dX12_readMethod_448 : decode cX12_readMethod 448 = .ok (.iadd, 1) := by decide +kernel
theorem dX12_readMethod_449 : decode cX12_readMethod 449 = .ok (.iaload, 1) := by decide +kernel
theorem dX12_readMethod_450 : decode cX12_readMethod 450 = .ok (.iconst 4, 1) := by decide +kernel
theorem dX12_readMethod_451 : decode cX12_readMethod 451 = .ok (.if_icmp .gt 7, 3) := by decide +kernel
theorem dX12_readMethod_454 : decode cX12_readMethod 454 = .ok (.iconst 1, 1) := by decide +kernel
theorem dX12_readMethod_455 : decode cX12_readMethod 455 = .ok (.goto 4, 3) := by decide +kernel
theorem dX12_readMethod_458 : decode cX12_readMethod 458 = .ok (.iconst 0, 1) := by decide +kernel
theorem dX12_readMethod_459 : decode cX12_readMethod 459 = .ok (.istore 12, 2) := by decide +kernel
theorem dX12_readMethod_461 : decode cX12_readMethod 461 = .ok (.iload 12, 2) := by decide +kernel
theorem dX12_readMethod_463 : decode cX12_readMethod 463 = .ok (.ifCond .ne 17, 3) := by decide +kernel
theorem dX12_readMethod_466 : decode cX12_readMethod 466 = .ok (.aload_n 0, 1) := by decide +kernel
theorem dX12_readMethod_467 : decode cX12_readMethod 467 = .ok (.iload 7, 2) := by decide +kernel
theorem dX12_readMethod_469 : decode cX12_readMethod 469 = .ok (.bipush 7, 2) := by decide +kernel
theorem dX12_readMethod_471 : decode cX12_readMethod 471 = .ok (.iload 9, 2) := by decide +kernel
theorem dX12_readMethod_473 : decode cX12_readMethod 473 = .ok (.imul, 1) := by decide +kernel
theorem dX12_readMethod_474 : decode cX12_readMethod 474 = .ok (.iadd, 1) := by decide +kernel
theorem dX12_readMethod_475 : decode cX12_readMethod 475 = .ok (.invokevirtual 141, 3) := by decide +kernel
theorem dX12_readMethod_478 : decode cX12_readMethod 478 = .ok (.istore 8, 2) := by decide +kernel
theorem dX12_readMethod_480 : decode cX12_readMethod 480 = .ok (.iinc 9 1, 3) := by decide +kernel
theorem dX12_readMethod_483 : decode cX12_readMethod 483 = .ok (.goto (-137), 3) := by decide +kernel
theorem dX12_readMethod_486 : decode cX12_readMethod 486 = .ok (.iconst 0, 1) := by decide +kernel
theorem dX12_readMethod_487 : decode cX12_readMethod 487 = .ok (.istore 9, 2) := by decide +kernel
theorem dX12_readMethod_489 : decode cX12_readMethod 489 = .ok (.iload 9, 2) := by decide +kernel
theorem dX12_readMethod_491 : decode cX12_readMethod 491 = .ok (.iload 5, 2) := by decide +kernel
theorem dX12_readMethod_493 : decode cX12_readMethod 493 = .ok (.if_icmp .ge 100, 3) := by decide +kernel
theorem dX12_readMethod_496 : decode cX12_readMethod 496 = .ok (.iload 8, 2) := by decide +kernel
theorem dX12_readMethod_498 : decode cX12_readMethod 498 = .ok (.ifCond .ne 95, 3) := by decide +kernel
theorem dX12_readMethod_501 : decode cX12_readMethod 501 = .ok (.sipush 2001, 3) := by decide +kernel
theorem dX12_readMethod_504 : decode cX12_readMethod 504 = .ok (.iload_n 1, 1) := by decide +kernel
theorem dX12_readMethod_505 : decode cX12_readMethod 505 = .ok (.imul, 1) := by decide +kernel
theorem dX12_readMethod_506 : decode cX12_readMethod 506 = .ok (.iload 9, 2) := by decide +kernel
theorem dX12_readMethod_508 : decode cX12_readMethod 508 = .ok (.iadd, 1) := by decide +kernel
theorem dX12_readMethod_509 : decode cX12_readMethod 509 = .ok (.istore 10, 2) := by decide +kernel
theorem dX12_readMethod_511 : decode cX12_readMethod 511 = .ok (.aload_n 0, 1) := by decide +kernel
theorem dX12_readMethod_512 : decode cX12_readMethod 512 = .ok (.getfield 35, 3) := by decide +kernel
theorem dX12_readMethod_515 : decode cX12_readMethod 515 = .ok (.iload 10, 2) := by decide +kernel
theorem dX12_readMethod_517 : decode cX12_readMethod 517 = .ok (.baload, 1) := by decide +kernel
theorem dX12_readMethod_518 : decode cX12_readMethod 518 = .ok (.ifCond .eq 69, 3) := by decide +kernel
theorem dX12_readMethod_521 : decode cX12_readMethod 521 = .ok (.aload_n 0, 1) := by decide +kernel
theorem dX12_readMethod_522 : decode cX12_readMethod 522 = .ok (.getfield 66, 3) := by decide +kernel
theorem dX12_readMethod_525 : decode cX12_readMethod 525 = .ok (.iload 10, 2) := by decide +kernel
theorem dX12_readMethod_527 : decode cX12_readMethod 527 = .ok (.iaload, 1) := by decide +kernel
theorem dX12_readMethod_528 : decode cX12_readMethod 528 = .ok (.invokestatic 161, 3) := by decide +kernel
theorem dX12_readMethod_531 : decode cX12_readMethod 531 = .ok (.ifCond .eq 56, 3) := by decide +kernel
theorem dX12_readMethod_534 : decode cX12_readMethod 534 = .ok (.aload_n 0, 1) := by decide +kernel
theorem dX12_readMethod_535 : decode cX12_readMethod 535 = .ok (.iload_n 1, 1) := by decide +kernel
theorem dX12_readMethod_536 : decode cX12_readMethod 536 = .ok (.aload_n 0, 1) := by decide +kernel
theorem dX12_readMethod_537 : decode cX12_readMethod 537 = .ok (.getfield 66, 3) := by decide +kernel
theorem dX12_readMethod_540 : decode cX12_readMethod 540 = .ok (.iload 10, 2) := by decide +kernel
theorem dX12_readMethod_542 : decode cX12_readMethod 542 = .ok (.iaload, 1) := by decide +kernel
theorem dX12_readMethod_543 : decode cX12_readMethod 543 = .ok (.iload 9, 2) := by decide +kernel
theorem dX12_readMethod_545 : decode cX12_readMethod 545 = .ok (.aload_n 0, 1) := by decide +kernel
theorem dX12_readMethod_546 : decode cX12_readMethod 546 = .ok (.getfield 66, 3) := by decide +kernel
theorem dX12_readMethod_549 : decode cX12_readMethod 549 = .ok (.iload 10, 2) := by decide +kernel
theorem dX12_readMethod_551 : decode cX12_readMethod 551 = .ok (.iconst 1, 1) := by decide +kernel
theorem dX12_readMethod_552 : decode cX12_readMethod 552 = .ok (.iadd, 1) := by decide +kernel
theorem dX12_readMethod_553 : decode cX12_readMethod 553 = .ok (.iaload, 1) := by decide +kernel
theorem dX12_readMethod_554 : decode cX12_readMethod 554 = .ok (.aload_n 0, 1) := by decide +kernel
theorem dX12_readMethod_555 : decode cX12_readMethod 555 = .ok (.getfield 66, 3) := by decide +kernel
theorem dX12_readMethod_558 : decode cX12_readMethod 558 = .ok (.iload 10, 2) := by decide +kernel
theorem dX12_readMethod_560 : decode cX12_readMethod 560 = .ok (.iconst 2, 1) := by decide +kernel
theorem dX12_readMethod_561 : decode cX12_readMethod 561 = .ok (.iadd, 1) := by decide +kernel
theorem dX12_readMethod_562 : decode cX12_readMethod 562 = .ok (.iaload, 1) := by decide +kernel
theorem dX12_readMethod_563 : decode cX12_readMethod 563 = .ok (.invokestatic 165, 3) := by decide +kernel
theorem dX12_readMethod_566 : decode cX12_readMethod 566 = .ok (.invokevirtual 157, 3) := by decide +kernel
theorem dX12_readMethod_569 : decode cX12_readMethod 569 = .ok (.ifCond .ne 18, 3) := by decide +kernel
theorem dX12_readMethod_572 : decode cX12_readMethod 572 = .ok (.aload_n 0, 1) := by decide +kernel
theorem dX12_readMethod_573 : decode cX12_readMethod 573 = .ok (.aload_n 0, 1) := by decide +kernel
theorem dX12_readMethod_574 : decode cX12_readMethod 574 = .ok (.getfield 57, 3) := by decide +kernel
theorem dX12_readMethod_577 : decode cX12_readMethod 577 = .ok (.iload_n 1, 1) := by decide +kernel
theorem dX12_readMethod_578 : decode cX12_readMethod 578 = .ok (.iaload, 1) := by decide +kernel
theorem dX12_readMethod_579 : decode cX12_readMethod 579 = .ok (.iload 9, 2) := by decide +kernel
theorem dX12_readMethod_581 : decode cX12_readMethod 581 = .ok (.iadd, 1) := by decide +kernel
theorem dX12_readMethod_582 : decode cX12_readMethod 582 = .ok (.invokevirtual 141, 3) := by decide +kernel
theorem dX12_readMethod_585 : decode cX12_readMethod 585 = .ok (.istore 8, 2) := by decide +kernel
theorem dX12_readMethod_587 : decode cX12_readMethod 587 = .ok (.iinc 9 1, 3) := by decide +kernel
theorem dX12_readMethod_590 : decode cX12_readMethod 590 = .ok (.goto (-101), 3) := by decide +kernel
theorem dX12_readMethod_593 : decode cX12_readMethod 593 = .ok (.iload 8, 2) := by decide +kernel
theorem dX12_readMethod_595 : decode cX12_readMethod 595 = .ok (.ireturn, 1) := by decide +kernel
abbrev wcX12_readMethod : List Cond := .code yX12_readMethod cX12_readMethod 13 (some .int) :: wsL_law
def jX12_readMethod_14 (v0 : Nat) (g : hs_S) : Option (Int32 × hs_S) :=
  if hs_kd g v0 = 10 then
  hs_bd (fX12_wrong v0 ((hs_I g v0 33) - (1 : Int32)) g) fun r7 g6 =>
  some (r7, g6)
  else none
def jX12_readMethod_44 (v0 : Nat) (g : hs_S) : Option (Int32 × hs_S) :=
  if hs_kd g v0 = 10 then
  hs_bd (fX12_wrong v0 ((hs_I g v0 33) - (1 : Int32)) g) fun r15 g14 =>
  some (r15, g14)
  else none
def jX12_readMethod_89 (v0 : Nat) (g : hs_S) : Option (Int32 × hs_S) :=
  if hs_kd g v0 = 10 then
  hs_bd (fX12_wrong v0 ((hs_I g v0 33) - (2 : Int32)) g) fun r23 g22 =>
  some (r23, g22)
  else none
def lX12_readMethod_159 : Nat → Nat → Int32 → Int32 → Int32 → Int32 → hs_S → Option (hs_S)
  | 0, _, _, _, _, _, _ => none
  | n + 1, v0, v1, v2, v5, v6, g =>
    if v5 ≤ v6 then (
      some g
    ) else (
      if hs_kd g v0 = 10 then
      if ¬ (hs_R g v0 21) = 0 then
      hs_bd (fX12_one v0 g) fun r59 g58 =>
      if hs_kd g58 ((hs_R g v0 21) - 1) = 100 then
      if hs_in (((2001 : Int32) * v1) + v6) (hs_ln g58 ((hs_R g v0 21) - 1)) = true then
      lX12_readMethod_159 n v0 v1 v2 v5 (v6 + (1 : Int32)) (hs_wI g58 ((hs_R g v0 21) - 1) (((2001 : Int32) * v1) + v6).toNatClampNeg r59)
      else none else none else none else none
    )
theorem lX12_readMethod_159_s (n : Nat) (v0 : Nat) (v1 : Int32) (v2 : Int32) (v5 : Int32) (v6 : Int32) (g : hs_S) : lX12_readMethod_159 (n + 1) v0 v1 v2 v5 v6 g =
    if v5 ≤ v6 then (
      some g
    ) else (
      if hs_kd g v0 = 10 then
      if ¬ (hs_R g v0 21) = 0 then
      hs_bd (fX12_one v0 g) fun r59 g58 =>
      if hs_kd g58 ((hs_R g v0 21) - 1) = 100 then
      if hs_in (((2001 : Int32) * v1) + v6) (hs_ln g58 ((hs_R g v0 21) - 1)) = true then
      lX12_readMethod_159 n v0 v1 v2 v5 (v6 + (1 : Int32)) (hs_wI g58 ((hs_R g v0 21) - 1) (((2001 : Int32) * v1) + v6).toNatClampNeg r59)
      else none else none else none else none
    ) := rfl
def jX12_readMethod_207 (v0 : Nat) (g : hs_S) : Option (Int32 × hs_S) :=
  if hs_kd g v0 = 10 then
  hs_bd (fX12_wrong v0 ((hs_I g v0 33) - (1 : Int32)) g) fun r72 g71 =>
  some (r72, g71)
  else none
def lX12_readMethod_261 : Nat → Nat → Int32 → Int32 → Int32 → Int32 → Int32 → Int32 → hs_S → Option (hs_S)
  | 0, _, _, _, _, _, _, _, _ => none
  | n + 1, v0, v1, v2, v5, v6, v7, v8, g =>
    if v6 ≤ v8 then (
      some g
    ) else (
      if hs_kd g v0 = 10 then
      if ¬ (hs_R g v0 20) = 0 then
      hs_bd (fX12_two v0 g) fun r81 g80 =>
      if hs_kd g80 ((hs_R g v0 20) - 1) = 100 then
      if hs_in (((32 : Int32) * v1) + ((4 : Int32) * v8)) (hs_ln g80 ((hs_R g v0 20) - 1)) = true then
      hs_bv (some (hs_wI g80 ((hs_R g v0 20) - 1) (((32 : Int32) * v1) + ((4 : Int32) * v8)).toNatClampNeg r81)) fun g85 =>
      if hs_kd g85 v0 = 10 then
      if ¬ (hs_R g85 v0 20) = 0 then
      hs_bd (fX12_two v0 g85) fun r92 g91 =>
      if hs_kd g91 ((hs_R g85 v0 20) - 1) = 100 then
      if hs_in ((((32 : Int32) * v1) + ((4 : Int32) * v8)) + (1 : Int32)) (hs_ln g91 ((hs_R g85 v0 20) - 1)) = true then
      hs_bv (some (hs_wI g91 ((hs_R g85 v0 20) - 1) ((((32 : Int32) * v1) + ((4 : Int32) * v8)) + (1 : Int32)).toNatClampNeg r92)) fun g96 =>
      if hs_kd g96 v0 = 10 then
      if ¬ (hs_R g96 v0 20) = 0 then
      hs_bd (fX12_two v0 g96) fun r103 g102 =>
      if hs_kd g102 ((hs_R g96 v0 20) - 1) = 100 then
      if hs_in ((((32 : Int32) * v1) + ((4 : Int32) * v8)) + (2 : Int32)) (hs_ln g102 ((hs_R g96 v0 20) - 1)) = true then
      hs_bv (some (hs_wI g102 ((hs_R g96 v0 20) - 1) ((((32 : Int32) * v1) + ((4 : Int32) * v8)) + (2 : Int32)).toNatClampNeg r103)) fun g107 =>
      if hs_kd g107 v0 = 10 then
      if ¬ (hs_R g107 v0 20) = 0 then
      hs_bd (fX12_one v0 g107) fun r114 g113 =>
      if hs_kd g113 ((hs_R g107 v0 20) - 1) = 100 then
      if hs_in ((((32 : Int32) * v1) + ((4 : Int32) * v8)) + (3 : Int32)) (hs_ln g113 ((hs_R g107 v0 20) - 1)) = true then
      hs_bv (some (hs_wI g113 ((hs_R g107 v0 20) - 1) ((((32 : Int32) * v1) + ((4 : Int32) * v8)) + (3 : Int32)).toNatClampNeg r114)) fun g118 =>
      lX12_readMethod_261 n v0 v1 v2 v5 v6 v7 (v8 + (1 : Int32)) g118
      else none else none else none else none else none else none else none else none else none else none else none else none else none else none else none else none
    )
theorem lX12_readMethod_261_s (n : Nat) (v0 : Nat) (v1 : Int32) (v2 : Int32) (v5 : Int32) (v6 : Int32) (v7 : Int32) (v8 : Int32) (g : hs_S) : lX12_readMethod_261 (n + 1) v0 v1 v2 v5 v6 v7 v8 g =
    if v6 ≤ v8 then (
      some g
    ) else (
      if hs_kd g v0 = 10 then
      if ¬ (hs_R g v0 20) = 0 then
      hs_bd (fX12_two v0 g) fun r81 g80 =>
      if hs_kd g80 ((hs_R g v0 20) - 1) = 100 then
      if hs_in (((32 : Int32) * v1) + ((4 : Int32) * v8)) (hs_ln g80 ((hs_R g v0 20) - 1)) = true then
      hs_bv (some (hs_wI g80 ((hs_R g v0 20) - 1) (((32 : Int32) * v1) + ((4 : Int32) * v8)).toNatClampNeg r81)) fun g85 =>
      if hs_kd g85 v0 = 10 then
      if ¬ (hs_R g85 v0 20) = 0 then
      hs_bd (fX12_two v0 g85) fun r92 g91 =>
      if hs_kd g91 ((hs_R g85 v0 20) - 1) = 100 then
      if hs_in ((((32 : Int32) * v1) + ((4 : Int32) * v8)) + (1 : Int32)) (hs_ln g91 ((hs_R g85 v0 20) - 1)) = true then
      hs_bv (some (hs_wI g91 ((hs_R g85 v0 20) - 1) ((((32 : Int32) * v1) + ((4 : Int32) * v8)) + (1 : Int32)).toNatClampNeg r92)) fun g96 =>
      if hs_kd g96 v0 = 10 then
      if ¬ (hs_R g96 v0 20) = 0 then
      hs_bd (fX12_two v0 g96) fun r103 g102 =>
      if hs_kd g102 ((hs_R g96 v0 20) - 1) = 100 then
      if hs_in ((((32 : Int32) * v1) + ((4 : Int32) * v8)) + (2 : Int32)) (hs_ln g102 ((hs_R g96 v0 20) - 1)) = true then
      hs_bv (some (hs_wI g102 ((hs_R g96 v0 20) - 1) ((((32 : Int32) * v1) + ((4 : Int32) * v8)) + (2 : Int32)).toNatClampNeg r103)) fun g107 =>
      if hs_kd g107 v0 = 10 then
      if ¬ (hs_R g107 v0 20) = 0 then
      hs_bd (fX12_one v0 g107) fun r114 g113 =>
      if hs_kd g113 ((hs_R g107 v0 20) - 1) = 100 then
      if hs_in ((((32 : Int32) * v1) + ((4 : Int32) * v8)) + (3 : Int32)) (hs_ln g113 ((hs_R g107 v0 20) - 1)) = true then
      hs_bv (some (hs_wI g113 ((hs_R g107 v0 20) - 1) ((((32 : Int32) * v1) + ((4 : Int32) * v8)) + (3 : Int32)).toNatClampNeg r114)) fun g118 =>
      lX12_readMethod_261 n v0 v1 v2 v5 v6 v7 (v8 + (1 : Int32)) g118
      else none else none else none else none else none else none else none else none else none else none else none else none else none else none else none else none
    ) := rfl
def jX12_readMethod_480 (rec : Int32 → Int32 → hs_S → Option (Int32 × hs_S)) (v0 : Nat) (v1 : Int32) (v5 : Int32) (v6 : Int32) (v7 : Int32) (v8 : Int32) (v9 : Int32) (g : hs_S) : Option (Int32 × hs_S) :=
  rec v8 (v9 + (1 : Int32)) g
def jX12_readMethod_459 (rec : Int32 → Int32 → hs_S → Option (Int32 × hs_S)) (v0 : Nat) (v1 : Int32) (v5 : Int32) (v6 : Int32) (v7 : Int32) (v8 : Int32) (v9 : Int32) (s0 : Int32) (g : hs_S) : Option (Int32 × hs_S) :=
  if s0 = 0 then (
    if hs_kd g v0 = 10 then
    hs_bd (fX12_wrong v0 (v7 + ((7 : Int32) * v9)) g) fun r139 g138 =>
    jX12_readMethod_480 rec v0 v1 v5 v6 v7 r139 v9 g138
    else none
  ) else (
    jX12_readMethod_480 rec v0 v1 v5 v6 v7 v8 v9 g
  )
def jX12_readMethod_458 (rec : Int32 → Int32 → hs_S → Option (Int32 × hs_S)) (v0 : Nat) (v1 : Int32) (v5 : Int32) (v6 : Int32) (v7 : Int32) (v8 : Int32) (v9 : Int32) (g : hs_S) : Option (Int32 × hs_S) :=
  jX12_readMethod_459 rec v0 v1 v5 v6 v7 v8 v9 (0 : Int32) g
def jX12_readMethod_441 (rec : Int32 → Int32 → hs_S → Option (Int32 × hs_S)) (v0 : Nat) (v1 : Int32) (v5 : Int32) (v6 : Int32) (v7 : Int32) (v8 : Int32) (v9 : Int32) (v10 : Int32) (g : hs_S) : Option (Int32 × hs_S) :=
  if hs_kd g v0 = 10 then
  if ¬ (hs_R g v0 20) = 0 then
  if hs_kd g ((hs_R g v0 20) - 1) = 100 then
  if hs_in (v10 + (3 : Int32)) (hs_ln g ((hs_R g v0 20) - 1)) = true then
  if (4 : Int32) < (hs_I g ((hs_R g v0 20) - 1) (v10 + (3 : Int32)).toNatClampNeg) then (
    jX12_readMethod_458 rec v0 v1 v5 v6 v7 v8 v9 g
  ) else (
    jX12_readMethod_459 rec v0 v1 v5 v6 v7 v8 v9 (1 : Int32) g
  )
  else none else none else none else none
def lX12_readMethod_346 : Nat → Nat → Int32 → Int32 → Int32 → Int32 → Int32 → Int32 → hs_S → Option (Int32 × hs_S)
  | 0, _, _, _, _, _, _, _, _ => none
  | n + 1, v0, v1, v5, v6, v7, v8, v9, g =>
    if v6 ≤ v9 then (
      some (v8, g)
    ) else (
      if v8 = 0 then (
        if hs_kd g v0 = 10 then
        if ¬ (hs_R g v0 20) = 0 then
        if hs_kd g ((hs_R g v0 20) - 1) = 100 then
        if hs_in ((((32 : Int32) * v1) + ((4 : Int32) * v9)) + (1 : Int32)) (hs_ln g ((hs_R g v0 20) - 1)) = true then
        if hs_in (((32 : Int32) * v1) + ((4 : Int32) * v9)) (hs_ln g ((hs_R g v0 20) - 1)) = true then
        hs_bd (fX12_isBegin v0 v1 (hs_I g ((hs_R g v0 20) - 1) (((32 : Int32) * v1) + ((4 : Int32) * v9)).toNatClampNeg) g) fun r135 g134 =>
        if r135 = 0 then (
          jX12_readMethod_458 (fun y0 y1 g => lX12_readMethod_346 n v0 v1 v5 v6 v7 y0 y1 g) v0 v1 v5 v6 v7 v8 v9 g134
        ) else (
          if hs_kd g134 v0 = 10 then
          if ¬ (hs_R g134 v0 20) = 0 then
          if hs_kd g134 ((hs_R g134 v0 20) - 1) = 100 then
          if hs_in ((((32 : Int32) * v1) + ((4 : Int32) * v9)) + (2 : Int32)) (hs_ln g134 ((hs_R g134 v0 20) - 1)) = true then
          hs_bd (fX12_isBegin v0 v1 (hs_I g134 ((hs_R g134 v0 20) - 1) ((((32 : Int32) * v1) + ((4 : Int32) * v9)) + (2 : Int32)).toNatClampNeg) g134) fun r146 g145 =>
          if r146 = 0 then (
            jX12_readMethod_458 (fun y0 y1 g => lX12_readMethod_346 n v0 v1 v5 v6 v7 y0 y1 g) v0 v1 v5 v6 v7 v8 v9 g145
          ) else (
            if hs_kd g145 v0 = 10 then
            if ¬ (hs_R g145 v0 20) = 0 then
            if hs_kd g145 ((hs_R g145 v0 20) - 1) = 100 then
            if hs_in (((32 : Int32) * v1) + ((4 : Int32) * v9)) (hs_ln g145 ((hs_R g145 v0 20) - 1)) = true then
            if (hs_I g ((hs_R g v0 20) - 1) ((((32 : Int32) * v1) + ((4 : Int32) * v9)) + (1 : Int32)).toNatClampNeg) ≤ (hs_I g145 ((hs_R g145 v0 20) - 1) (((32 : Int32) * v1) + ((4 : Int32) * v9)).toNatClampNeg) then (
              jX12_readMethod_458 (fun y0 y1 g => lX12_readMethod_346 n v0 v1 v5 v6 v7 y0 y1 g) v0 v1 v5 v6 v7 v8 v9 g145
            ) else (
              if (hs_I g ((hs_R g v0 20) - 1) ((((32 : Int32) * v1) + ((4 : Int32) * v9)) + (1 : Int32)).toNatClampNeg) = v5 then (
                jX12_readMethod_441 (fun y0 y1 g => lX12_readMethod_346 n v0 v1 v5 v6 v7 y0 y1 g) v0 v1 v5 v6 v7 v8 v9 (((32 : Int32) * v1) + ((4 : Int32) * v9)) g145
              ) else (
                hs_bd (fX12_isBegin v0 v1 (hs_I g ((hs_R g v0 20) - 1) ((((32 : Int32) * v1) + ((4 : Int32) * v9)) + (1 : Int32)).toNatClampNeg) g145) fun r157 g156 =>
                if r157 = 0 then (
                  jX12_readMethod_458 (fun y0 y1 g => lX12_readMethod_346 n v0 v1 v5 v6 v7 y0 y1 g) v0 v1 v5 v6 v7 v8 v9 g156
                ) else (
                  jX12_readMethod_441 (fun y0 y1 g => lX12_readMethod_346 n v0 v1 v5 v6 v7 y0 y1 g) v0 v1 v5 v6 v7 v8 v9 (((32 : Int32) * v1) + ((4 : Int32) * v9)) g156
                )
              )
            )
            else none else none else none else none
          )
          else none else none else none else none
        )
        else none else none else none else none else none
      ) else (
        some (v8, g)
      )
    )
theorem lX12_readMethod_346_s (n : Nat) (v0 : Nat) (v1 : Int32) (v5 : Int32) (v6 : Int32) (v7 : Int32) (v8 : Int32) (v9 : Int32) (g : hs_S) : lX12_readMethod_346 (n + 1) v0 v1 v5 v6 v7 v8 v9 g =
    if v6 ≤ v9 then (
      some (v8, g)
    ) else (
      if v8 = 0 then (
        if hs_kd g v0 = 10 then
        if ¬ (hs_R g v0 20) = 0 then
        if hs_kd g ((hs_R g v0 20) - 1) = 100 then
        if hs_in ((((32 : Int32) * v1) + ((4 : Int32) * v9)) + (1 : Int32)) (hs_ln g ((hs_R g v0 20) - 1)) = true then
        if hs_in (((32 : Int32) * v1) + ((4 : Int32) * v9)) (hs_ln g ((hs_R g v0 20) - 1)) = true then
        hs_bd (fX12_isBegin v0 v1 (hs_I g ((hs_R g v0 20) - 1) (((32 : Int32) * v1) + ((4 : Int32) * v9)).toNatClampNeg) g) fun r135 g134 =>
        if r135 = 0 then (
          jX12_readMethod_458 (fun y0 y1 g => lX12_readMethod_346 n v0 v1 v5 v6 v7 y0 y1 g) v0 v1 v5 v6 v7 v8 v9 g134
        ) else (
          if hs_kd g134 v0 = 10 then
          if ¬ (hs_R g134 v0 20) = 0 then
          if hs_kd g134 ((hs_R g134 v0 20) - 1) = 100 then
          if hs_in ((((32 : Int32) * v1) + ((4 : Int32) * v9)) + (2 : Int32)) (hs_ln g134 ((hs_R g134 v0 20) - 1)) = true then
          hs_bd (fX12_isBegin v0 v1 (hs_I g134 ((hs_R g134 v0 20) - 1) ((((32 : Int32) * v1) + ((4 : Int32) * v9)) + (2 : Int32)).toNatClampNeg) g134) fun r146 g145 =>
          if r146 = 0 then (
            jX12_readMethod_458 (fun y0 y1 g => lX12_readMethod_346 n v0 v1 v5 v6 v7 y0 y1 g) v0 v1 v5 v6 v7 v8 v9 g145
          ) else (
            if hs_kd g145 v0 = 10 then
            if ¬ (hs_R g145 v0 20) = 0 then
            if hs_kd g145 ((hs_R g145 v0 20) - 1) = 100 then
            if hs_in (((32 : Int32) * v1) + ((4 : Int32) * v9)) (hs_ln g145 ((hs_R g145 v0 20) - 1)) = true then
            if (hs_I g ((hs_R g v0 20) - 1) ((((32 : Int32) * v1) + ((4 : Int32) * v9)) + (1 : Int32)).toNatClampNeg) ≤ (hs_I g145 ((hs_R g145 v0 20) - 1) (((32 : Int32) * v1) + ((4 : Int32) * v9)).toNatClampNeg) then (
              jX12_readMethod_458 (fun y0 y1 g => lX12_readMethod_346 n v0 v1 v5 v6 v7 y0 y1 g) v0 v1 v5 v6 v7 v8 v9 g145
            ) else (
              if (hs_I g ((hs_R g v0 20) - 1) ((((32 : Int32) * v1) + ((4 : Int32) * v9)) + (1 : Int32)).toNatClampNeg) = v5 then (
                jX12_readMethod_441 (fun y0 y1 g => lX12_readMethod_346 n v0 v1 v5 v6 v7 y0 y1 g) v0 v1 v5 v6 v7 v8 v9 (((32 : Int32) * v1) + ((4 : Int32) * v9)) g145
              ) else (
                hs_bd (fX12_isBegin v0 v1 (hs_I g ((hs_R g v0 20) - 1) ((((32 : Int32) * v1) + ((4 : Int32) * v9)) + (1 : Int32)).toNatClampNeg) g145) fun r157 g156 =>
                if r157 = 0 then (
                  jX12_readMethod_458 (fun y0 y1 g => lX12_readMethod_346 n v0 v1 v5 v6 v7 y0 y1 g) v0 v1 v5 v6 v7 v8 v9 g156
                ) else (
                  jX12_readMethod_441 (fun y0 y1 g => lX12_readMethod_346 n v0 v1 v5 v6 v7 y0 y1 g) v0 v1 v5 v6 v7 v8 v9 (((32 : Int32) * v1) + ((4 : Int32) * v9)) g156
                )
              )
            )
            else none else none else none else none
          )
          else none else none else none else none
        )
        else none else none else none else none else none
      ) else (
        some (v8, g)
      )
    ) := rfl
def jX12_readMethod_587 (rec : Int32 → Int32 → hs_S → Option (Int32 × hs_S)) (v0 : Nat) (v1 : Int32) (v5 : Int32) (v8 : Int32) (v9 : Int32) (g : hs_S) : Option (Int32 × hs_S) :=
  rec v8 (v9 + (1 : Int32)) g
def lX12_readMethod_489 : Nat → Nat → Int32 → Int32 → Int32 → Int32 → hs_S → Option (Int32 × hs_S)
  | 0, _, _, _, _, _, _ => none
  | n + 1, v0, v1, v5, v8, v9, g =>
    if v5 ≤ v9 then (
      some (v8, g)
    ) else (
      if v8 = 0 then (
        if hs_kd g v0 = 10 then
        if ¬ (hs_R g v0 11) = 0 then
        if hs_kd g ((hs_R g v0 11) - 1) = 101 then
        if hs_in (((2001 : Int32) * v1) + v9) (hs_ln g ((hs_R g v0 11) - 1)) = true then
        if (hs_I g ((hs_R g v0 11) - 1) (((2001 : Int32) * v1) + v9).toNatClampNeg) = 0 then (
          jX12_readMethod_587 (fun y0 y1 g => lX12_readMethod_489 n v0 v1 v5 y0 y1 g) v0 v1 v5 v8 v9 g
        ) else (
          if ¬ (hs_R g v0 21) = 0 then
          if hs_kd g ((hs_R g v0 21) - 1) = 100 then
          if hs_in (((2001 : Int32) * v1) + v9) (hs_ln g ((hs_R g v0 21) - 1)) = true then
          hs_bd (fX12_isJump (hs_I g ((hs_R g v0 21) - 1) (((2001 : Int32) * v1) + v9).toNatClampNeg) g) fun r171 g170 =>
          if r171 = 0 then (
            jX12_readMethod_587 (fun y0 y1 g => lX12_readMethod_489 n v0 v1 v5 y0 y1 g) v0 v1 v5 v8 v9 g170
          ) else (
            if hs_kd g170 v0 = 10 then
            if ¬ (hs_R g170 v0 21) = 0 then
            if hs_kd g170 ((hs_R g170 v0 21) - 1) = 100 then
            if hs_in (((2001 : Int32) * v1) + v9) (hs_ln g170 ((hs_R g170 v0 21) - 1)) = true then
            if hs_in ((((2001 : Int32) * v1) + v9) + (1 : Int32)) (hs_ln g170 ((hs_R g170 v0 21) - 1)) = true then
            if hs_in ((((2001 : Int32) * v1) + v9) + (2 : Int32)) (hs_ln g170 ((hs_R g170 v0 21) - 1)) = true then
            hs_bd (fX12_target (hs_I g170 ((hs_R g170 v0 21) - 1) (((2001 : Int32) * v1) + v9).toNatClampNeg) v9 (hs_I g170 ((hs_R g170 v0 21) - 1) ((((2001 : Int32) * v1) + v9) + (1 : Int32)).toNatClampNeg) (hs_I g170 ((hs_R g170 v0 21) - 1) ((((2001 : Int32) * v1) + v9) + (2 : Int32)).toNatClampNeg) g170) fun r180 g179 =>
            if hs_kd g179 v0 = 10 then
            hs_bd (fX12_isBegin v0 v1 r180 g179) fun r184 g183 =>
            if r184 = 0 then (
              if hs_kd g183 v0 = 10 then
              if ¬ (hs_R g183 v0 18) = 0 then
              if hs_kd g183 ((hs_R g183 v0 18) - 1) = 100 then
              if hs_in v1 (hs_ln g183 ((hs_R g183 v0 18) - 1)) = true then
              hs_bd (fX12_wrong v0 ((hs_I g183 ((hs_R g183 v0 18) - 1) v1.toNatClampNeg) + v9) g183) fun r191 g190 =>
              jX12_readMethod_587 (fun y0 y1 g => lX12_readMethod_489 n v0 v1 v5 y0 y1 g) v0 v1 v5 r191 v9 g190
              else none else none else none else none
            ) else (
              jX12_readMethod_587 (fun y0 y1 g => lX12_readMethod_489 n v0 v1 v5 y0 y1 g) v0 v1 v5 v8 v9 g183
            )
            else none else none else none else none else none else none else none
          )
          else none else none else none
        )
        else none else none else none else none
      ) else (
        some (v8, g)
      )
    )
theorem lX12_readMethod_489_s (n : Nat) (v0 : Nat) (v1 : Int32) (v5 : Int32) (v8 : Int32) (v9 : Int32) (g : hs_S) : lX12_readMethod_489 (n + 1) v0 v1 v5 v8 v9 g =
    if v5 ≤ v9 then (
      some (v8, g)
    ) else (
      if v8 = 0 then (
        if hs_kd g v0 = 10 then
        if ¬ (hs_R g v0 11) = 0 then
        if hs_kd g ((hs_R g v0 11) - 1) = 101 then
        if hs_in (((2001 : Int32) * v1) + v9) (hs_ln g ((hs_R g v0 11) - 1)) = true then
        if (hs_I g ((hs_R g v0 11) - 1) (((2001 : Int32) * v1) + v9).toNatClampNeg) = 0 then (
          jX12_readMethod_587 (fun y0 y1 g => lX12_readMethod_489 n v0 v1 v5 y0 y1 g) v0 v1 v5 v8 v9 g
        ) else (
          if ¬ (hs_R g v0 21) = 0 then
          if hs_kd g ((hs_R g v0 21) - 1) = 100 then
          if hs_in (((2001 : Int32) * v1) + v9) (hs_ln g ((hs_R g v0 21) - 1)) = true then
          hs_bd (fX12_isJump (hs_I g ((hs_R g v0 21) - 1) (((2001 : Int32) * v1) + v9).toNatClampNeg) g) fun r171 g170 =>
          if r171 = 0 then (
            jX12_readMethod_587 (fun y0 y1 g => lX12_readMethod_489 n v0 v1 v5 y0 y1 g) v0 v1 v5 v8 v9 g170
          ) else (
            if hs_kd g170 v0 = 10 then
            if ¬ (hs_R g170 v0 21) = 0 then
            if hs_kd g170 ((hs_R g170 v0 21) - 1) = 100 then
            if hs_in (((2001 : Int32) * v1) + v9) (hs_ln g170 ((hs_R g170 v0 21) - 1)) = true then
            if hs_in ((((2001 : Int32) * v1) + v9) + (1 : Int32)) (hs_ln g170 ((hs_R g170 v0 21) - 1)) = true then
            if hs_in ((((2001 : Int32) * v1) + v9) + (2 : Int32)) (hs_ln g170 ((hs_R g170 v0 21) - 1)) = true then
            hs_bd (fX12_target (hs_I g170 ((hs_R g170 v0 21) - 1) (((2001 : Int32) * v1) + v9).toNatClampNeg) v9 (hs_I g170 ((hs_R g170 v0 21) - 1) ((((2001 : Int32) * v1) + v9) + (1 : Int32)).toNatClampNeg) (hs_I g170 ((hs_R g170 v0 21) - 1) ((((2001 : Int32) * v1) + v9) + (2 : Int32)).toNatClampNeg) g170) fun r180 g179 =>
            if hs_kd g179 v0 = 10 then
            hs_bd (fX12_isBegin v0 v1 r180 g179) fun r184 g183 =>
            if r184 = 0 then (
              if hs_kd g183 v0 = 10 then
              if ¬ (hs_R g183 v0 18) = 0 then
              if hs_kd g183 ((hs_R g183 v0 18) - 1) = 100 then
              if hs_in v1 (hs_ln g183 ((hs_R g183 v0 18) - 1)) = true then
              hs_bd (fX12_wrong v0 ((hs_I g183 ((hs_R g183 v0 18) - 1) v1.toNatClampNeg) + v9) g183) fun r191 g190 =>
              jX12_readMethod_587 (fun y0 y1 g => lX12_readMethod_489 n v0 v1 v5 y0 y1 g) v0 v1 v5 r191 v9 g190
              else none else none else none else none
            ) else (
              jX12_readMethod_587 (fun y0 y1 g => lX12_readMethod_489 n v0 v1 v5 y0 y1 g) v0 v1 v5 v8 v9 g183
            )
            else none else none else none else none else none else none else none
          )
          else none else none else none
        )
        else none else none else none else none
      ) else (
        some (v8, g)
      )
    ) := rfl
def jX12_readMethod_486 (v0 : Nat) (v1 : Int32) (v5 : Int32) (v8 : Int32) (g : hs_S) : Option (Int32 × hs_S) :=
  hs_bd (lX12_readMethod_489 hs_N v0 v1 v5 v8 (0 : Int32) g) fun x193 g195 =>
  some (x193, g195)
def fX12_readMethod (v0 : Nat) (v1 : Int32) (v2 : Int32) (g : hs_S) : Option (Int32 × hs_S) :=
  if hs_kd g v0 = 10 then
  hs_bd (fX12_one v0 g) fun r3 g2 =>
  if r3 < 0 then (
    jX12_readMethod_14 v0 g2
  ) else (
    if r3 ≤ (4 : Int32) then (
      if hs_kd g2 v0 = 10 then
      hs_bd (fX12_one v0 g2) fun r11 g10 =>
      if r11 < r3 then (
        jX12_readMethod_44 v0 g10
      ) else (
        if r11 ≤ (20 : Int32) then (
          if hs_kd g10 v0 = 10 then
          hs_bd (fX12_two v0 g10) fun r19 g18 =>
          if 0 ≤ r19 then (
            if r19 < (1 : Int32) then (
              jX12_readMethod_89 v0 g18
            ) else (
              if r19 ≤ (2000 : Int32) then (
                if hs_kd g18 v0 = 10 then
                if ¬ (hs_R g18 v0 15) = 0 then
                if hs_kd g18 ((hs_R g18 v0 15) - 1) = 100 then
                if hs_in v1 (hs_ln g18 ((hs_R g18 v0 15) - 1)) = true then
                if ¬ (hs_R (hs_wI g18 ((hs_R g18 v0 15) - 1) v1.toNatClampNeg r3) v0 16) = 0 then
                if hs_kd (hs_wI g18 ((hs_R g18 v0 15) - 1) v1.toNatClampNeg r3) ((hs_R (hs_wI g18 ((hs_R g18 v0 15) - 1) v1.toNatClampNeg r3) v0 16) - 1) = 100 then
                if hs_in v1 (hs_ln (hs_wI g18 ((hs_R g18 v0 15) - 1) v1.toNatClampNeg r3) ((hs_R (hs_wI g18 ((hs_R g18 v0 15) - 1) v1.toNatClampNeg r3) v0 16) - 1)) = true then
                hs_bv (some (hs_wI (hs_wI g18 ((hs_R g18 v0 15) - 1) v1.toNatClampNeg r3) ((hs_R (hs_wI g18 ((hs_R g18 v0 15) - 1) v1.toNatClampNeg r3) v0 16) - 1) v1.toNatClampNeg r11)) fun g32 =>
                if ¬ (hs_R g32 v0 17) = 0 then
                if hs_kd g32 ((hs_R g32 v0 17) - 1) = 100 then
                if hs_in v1 (hs_ln g32 ((hs_R g32 v0 17) - 1)) = true then
                if ¬ (hs_R (hs_wI g32 ((hs_R g32 v0 17) - 1) v1.toNatClampNeg r19) v0 18) = 0 then
                if hs_kd (hs_wI g32 ((hs_R g32 v0 17) - 1) v1.toNatClampNeg r19) ((hs_R (hs_wI g32 ((hs_R g32 v0 17) - 1) v1.toNatClampNeg r19) v0 18) - 1) = 100 then
                if hs_in v1 (hs_ln (hs_wI g32 ((hs_R g32 v0 17) - 1) v1.toNatClampNeg r19) ((hs_R (hs_wI g32 ((hs_R g32 v0 17) - 1) v1.toNatClampNeg r19) v0 18) - 1)) = true then
                hs_bv (some (hs_wI (hs_wI g32 ((hs_R g32 v0 17) - 1) v1.toNatClampNeg r19) ((hs_R (hs_wI g32 ((hs_R g32 v0 17) - 1) v1.toNatClampNeg r19) v0 18) - 1) v1.toNatClampNeg (hs_I (hs_wI g32 ((hs_R g32 v0 17) - 1) v1.toNatClampNeg r19) v0 33))) fun g45 =>
                if ((hs_I g45 v0 33) + r19) ≤ (hs_I g45 v0 2) then (
                  hs_bv (lX12_readMethod_159 hs_N v0 v1 v2 r19 (0 : Int32) g45) fun g64 =>
                  if hs_kd g64 v0 = 10 then
                  hs_bd (fX12_one v0 g64) fun r68 g67 =>
                  if r68 < 0 then (
                    jX12_readMethod_207 v0 g67
                  ) else (
                    if r68 ≤ (8 : Int32) then (
                      if hs_kd g67 v0 = 10 then
                      if ¬ (hs_R g67 v0 19) = 0 then
                      if hs_kd g67 ((hs_R g67 v0 19) - 1) = 100 then
                      if hs_in v1 (hs_ln g67 ((hs_R g67 v0 19) - 1)) = true then
                      if ((hs_I (hs_wI g67 ((hs_R g67 v0 19) - 1) v1.toNatClampNeg r68) v0 33) + ((7 : Int32) * r68)) ≤ (hs_I (hs_wI g67 ((hs_R g67 v0 19) - 1) v1.toNatClampNeg r68) v0 2) then (
                        hs_bv (lX12_readMethod_261 hs_N v0 v1 v2 r19 r68 (hs_I (hs_wI g67 ((hs_R g67 v0 19) - 1) v1.toNatClampNeg r68) v0 33) (0 : Int32) (hs_wI g67 ((hs_R g67 v0 19) - 1) v1.toNatClampNeg r68)) fun g123 =>
                        if hs_kd g123 v0 = 10 then
                        hs_bd (fX12_instructions v0 v1 v2 g123) fun r127 g126 =>
                        hs_bd (lX12_readMethod_346 hs_N v0 v1 r19 r68 (hs_I (hs_wI g67 ((hs_R g67 v0 19) - 1) v1.toNatClampNeg r68) v0 33) r127 (0 : Int32) g126) fun x159 g161 =>
                        jX12_readMethod_486 v0 v1 r19 x159 g161
                        else none
                      ) else (
                        hs_bd (fX12_wrong v0 (hs_I (hs_wI g67 ((hs_R g67 v0 19) - 1) v1.toNatClampNeg r68) v0 2) (hs_wI g67 ((hs_R g67 v0 19) - 1) v1.toNatClampNeg r68)) fun r198 g197 =>
                        some (r198, g197)
                      )
                      else none else none else none else none
                    ) else (
                      jX12_readMethod_207 v0 g67
                    )
                  )
                  else none
                ) else (
                  hs_bd (fX12_wrong v0 (hs_I g45 v0 2) g45) fun r201 g200 =>
                  some (r201, g200)
                )
                else none else none else none else none else none else none else none else none else none else none else none else none else none
              ) else (
                jX12_readMethod_89 v0 g18
              )
            )
          ) else (
            if hs_kd g18 v0 = 10 then
            hs_bd (fX12_wrong v0 (hs_I g18 v0 2) g18) fun r205 g204 =>
            some (r205, g204)
            else none
          )
          else none
        ) else (
          jX12_readMethod_44 v0 g10
        )
      )
      else none
    ) else (
      jX12_readMethod_14 v0 g2
    )
  )
  else none
abbrev rmX12_readMethod : Room := { frames := 3, cells := 0, slots := 0, locals := 68 }
set_option maxHeartbeats 4000000 in
set_option maxRecDepth 100000 in
theorem wX12_readMethod_j14 {p : Program} {l : Launch} {e : Env} {s : State} {m : MethodId} {args : Array Value} {below : List Frame} {meth : Method} {c : Code} {B : Nat} {D : va_G} {E : Nat → ClassId} (hX : hs_cx cX12_readMethod (some .int) 13 RX12 wcX12_readMethod p s m args meth c D E) {o : Int32 × hs_S}  {v0 : Nat}   {g : hs_S} {H : Heap} {locs : List Loc} {ls : Array Slot} (hf : jX12_readMethod_14 v0 g = some o) (hP : hs_P B D E g H) (hS : hs_Sx B s.heap H locs) (hl : lv_has ls 13 [(0, .ref (B + v0))]) : W p l e rmX12_readMethod s m args below meth c H locs 0 0 (MQ below (hs_Qi B D E o) args s 0 0 (hs_F B)) (F0 m 14 ls []) := by
  obtain ⟨hx, hb, hr, hml, hown, hts, hlocks, hK⟩ := id hX
  unfold jX12_readMethod_14 at hf
  refine lv_aload_n hx hb dX12_readMethod_14 rfl (lv_at hl 0 rfl) ?_
  refine lv_aload_n hx hb dX12_readMethod_15 rfl (lv_at hl 0 rfl) ?_
  obtain ⟨h5, hf⟩ := hs_ck hf
  refine hs_geti (C := RX12) (T := TX12) (N := 48) hx hb hts (fun w h => List.mem_cons_of_mem _ (inlX12 w h)) hown hK.1 hP h5 (by decide) rfl 33 (by decide) (hts _ (List.mem_cons_of_mem _ wq399)) (fun _ h => h) rfl dX12_readMethod_16 ?_
  refine lv_iconst (v := 1) hx hb dX12_readMethod_19 (by decide) ?_
  refine lv_isub hx hb dX12_readMethod_20 ?_
  obtain ⟨r7, g6, h8, hf⟩ := hs_bd_some hf
  refine hs_calli (va_runV (As := [.int ((hs_I g v0 33) - (1 : Int32))]) (rest := []) ⟨hx, hb, hml, hown, hts⟩ (ctX12_wrong l B D E v0 ((hs_I g v0 33) - (1 : Int32)) g _ h8) (cwV 1 hts (hs_gV (fun _ h => List.mem_cons_of_mem _ h) wq404 wq405 wq406 wq5 wq407) rfl rfl rfl (by decide +kernel) ⟨Nat.le_of_ble_eq_true rfl, Nat.le_of_ble_eq_true rfl⟩) (hs_preV (r := (RX12, TX12, 48)) hP hK h5 (by decide) rfl) rfl rfl hl.1 rfl (lv_room (Nat.le_of_ble_eq_true rfl)) dX12_readMethod_21 ⟨(Nat.le_of_ble_eq_true rfl), (Nat.le_of_ble_eq_true rfl)⟩) hS (fun H locs hP hS => ?_)
  exact hs_iret hx hb hr hlocks rfl hK hP hS hf dX12_readMethod_24

set_option maxHeartbeats 4000000 in
set_option maxRecDepth 100000 in
theorem wX12_readMethod_j44 {p : Program} {l : Launch} {e : Env} {s : State} {m : MethodId} {args : Array Value} {below : List Frame} {meth : Method} {c : Code} {B : Nat} {D : va_G} {E : Nat → ClassId} (hX : hs_cx cX12_readMethod (some .int) 13 RX12 wcX12_readMethod p s m args meth c D E) {o : Int32 × hs_S}  {v0 : Nat}   {g : hs_S} {H : Heap} {locs : List Loc} {ls : Array Slot} (hf : jX12_readMethod_44 v0 g = some o) (hP : hs_P B D E g H) (hS : hs_Sx B s.heap H locs) (hl : lv_has ls 13 [(0, .ref (B + v0))]) : W p l e rmX12_readMethod s m args below meth c H locs 0 0 (MQ below (hs_Qi B D E o) args s 0 0 (hs_F B)) (F0 m 44 ls []) := by
  obtain ⟨hx, hb, hr, hml, hown, hts, hlocks, hK⟩ := id hX
  unfold jX12_readMethod_44 at hf
  refine lv_aload_n hx hb dX12_readMethod_44 rfl (lv_at hl 0 rfl) ?_
  refine lv_aload_n hx hb dX12_readMethod_45 rfl (lv_at hl 0 rfl) ?_
  obtain ⟨h13, hf⟩ := hs_ck hf
  refine hs_geti (C := RX12) (T := TX12) (N := 48) hx hb hts (fun w h => List.mem_cons_of_mem _ (inlX12 w h)) hown hK.1 hP h13 (by decide) rfl 33 (by decide) (hts _ (List.mem_cons_of_mem _ wq399)) (fun _ h => h) rfl dX12_readMethod_46 ?_
  refine lv_iconst (v := 1) hx hb dX12_readMethod_49 (by decide) ?_
  refine lv_isub hx hb dX12_readMethod_50 ?_
  obtain ⟨r15, g14, h16, hf⟩ := hs_bd_some hf
  refine hs_calli (va_runV (As := [.int ((hs_I g v0 33) - (1 : Int32))]) (rest := []) ⟨hx, hb, hml, hown, hts⟩ (ctX12_wrong l B D E v0 ((hs_I g v0 33) - (1 : Int32)) g _ h16) (cwV 1 hts (hs_gV (fun _ h => List.mem_cons_of_mem _ h) wq404 wq405 wq406 wq5 wq407) rfl rfl rfl (by decide +kernel) ⟨Nat.le_of_ble_eq_true rfl, Nat.le_of_ble_eq_true rfl⟩) (hs_preV (r := (RX12, TX12, 48)) hP hK h13 (by decide) rfl) rfl rfl hl.1 rfl (lv_room (Nat.le_of_ble_eq_true rfl)) dX12_readMethod_51 ⟨(Nat.le_of_ble_eq_true rfl), (Nat.le_of_ble_eq_true rfl)⟩) hS (fun H locs hP hS => ?_)
  exact hs_iret hx hb hr hlocks rfl hK hP hS hf dX12_readMethod_54

set_option maxHeartbeats 4000000 in
set_option maxRecDepth 100000 in
theorem wX12_readMethod_j89 {p : Program} {l : Launch} {e : Env} {s : State} {m : MethodId} {args : Array Value} {below : List Frame} {meth : Method} {c : Code} {B : Nat} {D : va_G} {E : Nat → ClassId} (hX : hs_cx cX12_readMethod (some .int) 13 RX12 wcX12_readMethod p s m args meth c D E) {o : Int32 × hs_S}  {v0 : Nat}   {g : hs_S} {H : Heap} {locs : List Loc} {ls : Array Slot} (hf : jX12_readMethod_89 v0 g = some o) (hP : hs_P B D E g H) (hS : hs_Sx B s.heap H locs) (hl : lv_has ls 13 [(0, .ref (B + v0))]) : W p l e rmX12_readMethod s m args below meth c H locs 0 0 (MQ below (hs_Qi B D E o) args s 0 0 (hs_F B)) (F0 m 89 ls []) := by
  obtain ⟨hx, hb, hr, hml, hown, hts, hlocks, hK⟩ := id hX
  unfold jX12_readMethod_89 at hf
  refine lv_aload_n hx hb dX12_readMethod_89 rfl (lv_at hl 0 rfl) ?_
  refine lv_aload_n hx hb dX12_readMethod_90 rfl (lv_at hl 0 rfl) ?_
  obtain ⟨h21, hf⟩ := hs_ck hf
  refine hs_geti (C := RX12) (T := TX12) (N := 48) hx hb hts (fun w h => List.mem_cons_of_mem _ (inlX12 w h)) hown hK.1 hP h21 (by decide) rfl 33 (by decide) (hts _ (List.mem_cons_of_mem _ wq399)) (fun _ h => h) rfl dX12_readMethod_91 ?_
  refine lv_iconst (v := 2) hx hb dX12_readMethod_94 (by decide) ?_
  refine lv_isub hx hb dX12_readMethod_95 ?_
  obtain ⟨r23, g22, h24, hf⟩ := hs_bd_some hf
  refine hs_calli (va_runV (As := [.int ((hs_I g v0 33) - (2 : Int32))]) (rest := []) ⟨hx, hb, hml, hown, hts⟩ (ctX12_wrong l B D E v0 ((hs_I g v0 33) - (2 : Int32)) g _ h24) (cwV 1 hts (hs_gV (fun _ h => List.mem_cons_of_mem _ h) wq404 wq405 wq406 wq5 wq407) rfl rfl rfl (by decide +kernel) ⟨Nat.le_of_ble_eq_true rfl, Nat.le_of_ble_eq_true rfl⟩) (hs_preV (r := (RX12, TX12, 48)) hP hK h21 (by decide) rfl) rfl rfl hl.1 rfl (lv_room (Nat.le_of_ble_eq_true rfl)) dX12_readMethod_96 ⟨(Nat.le_of_ble_eq_true rfl), (Nat.le_of_ble_eq_true rfl)⟩) hS (fun H locs hP hS => ?_)
  exact hs_iret hx hb hr hlocks rfl hK hP hS hf dX12_readMethod_99

set_option maxHeartbeats 4000000 in
set_option maxRecDepth 100000 in
theorem wX12_readMethod_159 {p : Program} {l : Launch} {e : Env} {s : State} {m : MethodId} {args : Array Value} {below : List Frame} {meth : Method} {c : Code} {B : Nat} {D : va_G} {E : Nat → ClassId} (hX : hs_cx cX12_readMethod (some .int) 13 RX12 wcX12_readMethod p s m args meth c D E) {Q : State → Prop} {o : hs_S} {v0 : Nat} {v1 : Int32} {v2 : Int32} {v5 : Int32} (hex0 : ∀ (H : Heap) (locs : List Loc) (ls : Array Slot), hs_P B D E (o) H → hs_Sx B s.heap H locs → lv_has ls 13 [(0, .ref (B + v0)), (1, .int v1), (2, .int v2), (5, .int v5)] → W p l e rmX12_readMethod s m args below meth c H locs 0 0 Q (F0 m 189 ls [])) : ∀ (n : Nat) (v6 : Int32) (g : hs_S), lX12_readMethod_159 n v0 v1 v2 v5 v6 g = some o → ∀ (H : Heap) (locs : List Loc) (ls : Array Slot), hs_P B D E g H → hs_Sx B s.heap H locs → lv_has ls 13 [(0, .ref (B + v0)), (1, .int v1), (2, .int v2), (5, .int v5), (6, .int v6)] → W p l e rmX12_readMethod s m args below meth c H locs 0 0 Q (F0 m 159 ls []) := by
  obtain ⟨hx, hb, hr, hml, hown, hts, hlocks, hK⟩ := id hX
  intro n
  induction n with
  | zero =>
    intro v6 g hf
    cases hf
  | succ n ih =>
    intro v6 g hf H locs ls hP hS hl
    replace hf := (lX12_readMethod_159_s n v0 v1 v2 v5 v6 g).symm.trans hf
    refine lv_iload hx hb dX12_readMethod_159 (lv_at hl 4 rfl) ?_
    refine lv_iload hx hb dX12_readMethod_161 (lv_at hl 3 rfl) ?_
    refine lv_icmp_ge (tgt := 189) hx hb dX12_readMethod_163 (by decide) (fun hc => ?_) (fun hc => ?_)
    · replace hf := hs_t hf hc
      obtain rfl := Option.some.inj hf
      exact hex0 _ _ _ hP hS (lv_sub hl [0, 1, 2, 3] rfl)
    · replace hf := hs_f hf hc
      refine lv_aload_n hx hb dX12_readMethod_166 rfl (lv_at hl 0 rfl) ?_
      obtain ⟨h56, hf⟩ := hs_ck hf
      obtain ⟨h57, hf⟩ := hs_ck hf
      refine hs_getr (C := RX12) (T := TX12) (N := 48) hx hb hts (fun w h => List.mem_cons_of_mem _ (inlX12 w h)) hown hK.1 hP h56 (by decide) rfl 21 (by decide) (hts _ (List.mem_cons_of_mem _ wq140)) (fun _ h => h) rfl h57 dX12_readMethod_167 ?_
      refine lv_sipush (v := 2001) hx hb dX12_readMethod_170 (by decide) ?_
      refine lv_iload_n hx hb dX12_readMethod_173 rfl (lv_at hl 1 rfl) ?_
      refine lv_imul hx hb dX12_readMethod_174 ?_
      refine lv_iload hx hb dX12_readMethod_175 (lv_at hl 4 rfl) ?_
      refine lv_iadd hx hb dX12_readMethod_177 ?_
      refine lv_aload_n hx hb dX12_readMethod_178 rfl (lv_at hl 0 rfl) ?_
      obtain ⟨r59, g58, h60, hf⟩ := hs_bd_some hf
      refine hs_calli (va_runV (As := []) (rest := [.int (((2001 : Int32) * v1) + v6), .ref (B + ((hs_R g v0 21) - 1))]) ⟨hx, hb, hml, hown, hts⟩ (ctX12_one l B D E v0 g _ h60) (cwV 0 hts (hs_gV (fun _ h => List.mem_cons_of_mem _ h) wq400 wq401 wq402 wq5 wq403) rfl rfl rfl (by decide +kernel) ⟨Nat.le_of_ble_eq_true rfl, Nat.le_of_ble_eq_true rfl⟩) (hs_preV (r := (RX12, TX12, 48)) hP hK h56 (by decide) rfl) rfl rfl hl.1 rfl (lv_room (Nat.le_of_ble_eq_true rfl)) dX12_readMethod_179 ⟨(Nat.le_of_ble_eq_true rfl), (Nat.le_of_ble_eq_true rfl)⟩) hS (fun H locs hP hS => ?_)
      obtain ⟨h61, hf⟩ := hs_ck hf
      obtain ⟨h62, hf⟩ := hs_ck hf
      refine hs_iast hx hb hK.1 hP hS h61 h62 dX12_readMethod_182 (fun H locs hP hS => ?_)
      refine lv_iinc (v := (v6 + (1 : Int32))) (lv' := [(6, .int (v6 + (1 : Int32))), (0, .ref (B + v0)), (1, .int v1), (2, .int v2), (5, .int v5)]) hx hb dX12_readMethod_183 hl (k := 4) rfl (by rfl) (by decide) rfl (fun ls hl => ?_)
      refine lv_goto (tgt := 159) hx hb dX12_readMethod_186 (by decide) ?_
      exact ih _ _ hf _ _ _ hP hS (lv_sub hl [1, 2, 3, 4, 0] rfl)

set_option maxHeartbeats 4000000 in
set_option maxRecDepth 100000 in
theorem wX12_readMethod_j207 {p : Program} {l : Launch} {e : Env} {s : State} {m : MethodId} {args : Array Value} {below : List Frame} {meth : Method} {c : Code} {B : Nat} {D : va_G} {E : Nat → ClassId} (hX : hs_cx cX12_readMethod (some .int) 13 RX12 wcX12_readMethod p s m args meth c D E) {o : Int32 × hs_S}  {v0 : Nat}   {g : hs_S} {H : Heap} {locs : List Loc} {ls : Array Slot} (hf : jX12_readMethod_207 v0 g = some o) (hP : hs_P B D E g H) (hS : hs_Sx B s.heap H locs) (hl : lv_has ls 13 [(0, .ref (B + v0))]) : W p l e rmX12_readMethod s m args below meth c H locs 0 0 (MQ below (hs_Qi B D E o) args s 0 0 (hs_F B)) (F0 m 207 ls []) := by
  obtain ⟨hx, hb, hr, hml, hown, hts, hlocks, hK⟩ := id hX
  unfold jX12_readMethod_207 at hf
  refine lv_aload_n hx hb dX12_readMethod_207 rfl (lv_at hl 0 rfl) ?_
  refine lv_aload_n hx hb dX12_readMethod_208 rfl (lv_at hl 0 rfl) ?_
  obtain ⟨h70, hf⟩ := hs_ck hf
  refine hs_geti (C := RX12) (T := TX12) (N := 48) hx hb hts (fun w h => List.mem_cons_of_mem _ (inlX12 w h)) hown hK.1 hP h70 (by decide) rfl 33 (by decide) (hts _ (List.mem_cons_of_mem _ wq399)) (fun _ h => h) rfl dX12_readMethod_209 ?_
  refine lv_iconst (v := 1) hx hb dX12_readMethod_212 (by decide) ?_
  refine lv_isub hx hb dX12_readMethod_213 ?_
  obtain ⟨r72, g71, h73, hf⟩ := hs_bd_some hf
  refine hs_calli (va_runV (As := [.int ((hs_I g v0 33) - (1 : Int32))]) (rest := []) ⟨hx, hb, hml, hown, hts⟩ (ctX12_wrong l B D E v0 ((hs_I g v0 33) - (1 : Int32)) g _ h73) (cwV 1 hts (hs_gV (fun _ h => List.mem_cons_of_mem _ h) wq404 wq405 wq406 wq5 wq407) rfl rfl rfl (by decide +kernel) ⟨Nat.le_of_ble_eq_true rfl, Nat.le_of_ble_eq_true rfl⟩) (hs_preV (r := (RX12, TX12, 48)) hP hK h70 (by decide) rfl) rfl rfl hl.1 rfl (lv_room (Nat.le_of_ble_eq_true rfl)) dX12_readMethod_214 ⟨(Nat.le_of_ble_eq_true rfl), (Nat.le_of_ble_eq_true rfl)⟩) hS (fun H locs hP hS => ?_)
  exact hs_iret hx hb hr hlocks rfl hK hP hS hf dX12_readMethod_217

set_option maxHeartbeats 4000000 in
set_option maxRecDepth 100000 in
theorem wX12_readMethod_261 {p : Program} {l : Launch} {e : Env} {s : State} {m : MethodId} {args : Array Value} {below : List Frame} {meth : Method} {c : Code} {B : Nat} {D : va_G} {E : Nat → ClassId} (hX : hs_cx cX12_readMethod (some .int) 13 RX12 wcX12_readMethod p s m args meth c D E) {Q : State → Prop} {o : hs_S} {v0 : Nat} {v1 : Int32} {v2 : Int32} {v5 : Int32} {v6 : Int32} {v7 : Int32} (hex0 : ∀ (H : Heap) (locs : List Loc) (ls : Array Slot), hs_P B D E (o) H → hs_Sx B s.heap H locs → lv_has ls 13 [(0, .ref (B + v0)), (1, .int v1), (2, .int v2), (5, .int v5), (6, .int v6), (7, .int v7)] → W p l e rmX12_readMethod s m args below meth c H locs 0 0 Q (F0 m 335 ls [])) : ∀ (n : Nat) (v8 : Int32) (g : hs_S), lX12_readMethod_261 n v0 v1 v2 v5 v6 v7 v8 g = some o → ∀ (H : Heap) (locs : List Loc) (ls : Array Slot), hs_P B D E g H → hs_Sx B s.heap H locs → lv_has ls 13 [(0, .ref (B + v0)), (1, .int v1), (2, .int v2), (5, .int v5), (6, .int v6), (7, .int v7), (8, .int v8)] → W p l e rmX12_readMethod s m args below meth c H locs 0 0 Q (F0 m 261 ls []) := by
  obtain ⟨hx, hb, hr, hml, hown, hts, hlocks, hK⟩ := id hX
  intro n
  induction n with
  | zero =>
    intro v8 g hf
    cases hf
  | succ n ih =>
    intro v8 g hf H locs ls hP hS hl
    replace hf := (lX12_readMethod_261_s n v0 v1 v2 v5 v6 v7 v8 g).symm.trans hf
    refine lv_iload hx hb dX12_readMethod_261 (lv_at hl 6 rfl) ?_
    refine lv_iload hx hb dX12_readMethod_263 (lv_at hl 4 rfl) ?_
    refine lv_icmp_ge (tgt := 335) hx hb dX12_readMethod_265 (by decide) (fun hc => ?_) (fun hc => ?_)
    · replace hf := hs_t hf hc
      obtain rfl := Option.some.inj hf
      exact hex0 _ _ _ hP hS (lv_sub hl [0, 1, 2, 3, 4, 5] rfl)
    · replace hf := hs_f hf hc
      refine lv_bipush (v := 32) hx hb dX12_readMethod_268 (by decide) ?_
      refine lv_iload_n hx hb dX12_readMethod_270 rfl (lv_at hl 1 rfl) ?_
      refine lv_imul hx hb dX12_readMethod_271 ?_
      refine lv_iconst (v := 4) hx hb dX12_readMethod_272 (by decide) ?_
      refine lv_iload hx hb dX12_readMethod_273 (lv_at hl 6 rfl) ?_
      refine lv_imul hx hb dX12_readMethod_275 ?_
      refine lv_iadd hx hb dX12_readMethod_276 ?_
      refine lv_istore (lv' := [(9, .int (((32 : Int32) * v1) + ((4 : Int32) * v8))), (0, .ref (B + v0)), (1, .int v1), (2, .int v2), (5, .int v5), (6, .int v6), (7, .int v7), (8, .int v8)]) hx hb dX12_readMethod_277 hl (by decide) rfl (fun ls hl => ?_)
      refine lv_aload_n hx hb dX12_readMethod_279 rfl (lv_at hl 1 rfl) ?_
      obtain ⟨h78, hf⟩ := hs_ck hf
      obtain ⟨h79, hf⟩ := hs_ck hf
      refine hs_getr (C := RX12) (T := TX12) (N := 48) hx hb hts (fun w h => List.mem_cons_of_mem _ (inlX12 w h)) hown hK.1 hP h78 (by decide) rfl 20 (by decide) (hts _ (List.mem_cons_of_mem _ wq139)) (fun _ h => h) rfl h79 dX12_readMethod_280 ?_
      refine lv_iload hx hb dX12_readMethod_283 (lv_at hl 0 rfl) ?_
      refine lv_aload_n hx hb dX12_readMethod_285 rfl (lv_at hl 1 rfl) ?_
      obtain ⟨r81, g80, h82, hf⟩ := hs_bd_some hf
      refine hs_calli (va_runV (As := []) (rest := [.int (((32 : Int32) * v1) + ((4 : Int32) * v8)), .ref (B + ((hs_R g v0 20) - 1))]) ⟨hx, hb, hml, hown, hts⟩ (ctX12_two l B D E v0 g _ h82) (cwV 0 hts (hs_gV (fun _ h => List.mem_cons_of_mem _ h) wq412 wq413 wq414 wq5 wq415) rfl rfl rfl (by decide +kernel) ⟨Nat.le_of_ble_eq_true rfl, Nat.le_of_ble_eq_true rfl⟩) (hs_preV (r := (RX12, TX12, 48)) hP hK h78 (by decide) rfl) rfl rfl hl.1 rfl (lv_room (Nat.le_of_ble_eq_true rfl)) dX12_readMethod_286 ⟨(Nat.le_of_ble_eq_true rfl), (Nat.le_of_ble_eq_true rfl)⟩) hS (fun H locs hP hS => ?_)
      obtain ⟨h83, hf⟩ := hs_ck hf
      obtain ⟨h84, hf⟩ := hs_ck hf
      refine hs_iast hx hb hK.1 hP hS h83 h84 dX12_readMethod_289 (fun H locs hP hS => ?_)
      obtain ⟨g85, e86, hf⟩ := hs_bv_some hf
      replace e86 := Option.some.inj e86
      rw [e86] at hP
      have h87 : hs_kd g85 ((hs_R g v0 20) - 1) = 100 := by rw [← e86]; exact h83
      have h88 : hs_in (((32 : Int32) * v1) + ((4 : Int32) * v8)) (hs_ln g85 ((hs_R g v0 20) - 1)) = true := by rw [← e86]; exact h84
      refine lv_aload_n hx hb dX12_readMethod_290 rfl (lv_at hl 1 rfl) ?_
      obtain ⟨h89, hf⟩ := hs_ck hf
      obtain ⟨h90, hf⟩ := hs_ck hf
      refine hs_getr (C := RX12) (T := TX12) (N := 48) hx hb hts (fun w h => List.mem_cons_of_mem _ (inlX12 w h)) hown hK.1 hP h89 (by decide) rfl 20 (by decide) (hts _ (List.mem_cons_of_mem _ wq139)) (fun _ h => h) rfl h90 dX12_readMethod_291 ?_
      refine lv_iload hx hb dX12_readMethod_294 (lv_at hl 0 rfl) ?_
      refine lv_iconst (v := 1) hx hb dX12_readMethod_296 (by decide) ?_
      refine lv_iadd hx hb dX12_readMethod_297 ?_
      refine lv_aload_n hx hb dX12_readMethod_298 rfl (lv_at hl 1 rfl) ?_
      obtain ⟨r92, g91, h93, hf⟩ := hs_bd_some hf
      refine hs_calli (va_runV (As := []) (rest := [.int ((((32 : Int32) * v1) + ((4 : Int32) * v8)) + (1 : Int32)), .ref (B + ((hs_R g85 v0 20) - 1))]) ⟨hx, hb, hml, hown, hts⟩ (ctX12_two l B D E v0 g85 _ h93) (cwV 0 hts (hs_gV (fun _ h => List.mem_cons_of_mem _ h) wq412 wq413 wq414 wq5 wq415) rfl rfl rfl (by decide +kernel) ⟨Nat.le_of_ble_eq_true rfl, Nat.le_of_ble_eq_true rfl⟩) (hs_preV (r := (RX12, TX12, 48)) hP hK h89 (by decide) rfl) rfl rfl hl.1 rfl (lv_room (Nat.le_of_ble_eq_true rfl)) dX12_readMethod_299 ⟨(Nat.le_of_ble_eq_true rfl), (Nat.le_of_ble_eq_true rfl)⟩) hS (fun H locs hP hS => ?_)
      obtain ⟨h94, hf⟩ := hs_ck hf
      obtain ⟨h95, hf⟩ := hs_ck hf
      refine hs_iast hx hb hK.1 hP hS h94 h95 dX12_readMethod_302 (fun H locs hP hS => ?_)
      obtain ⟨g96, e97, hf⟩ := hs_bv_some hf
      replace e97 := Option.some.inj e97
      rw [e97] at hP
      have h98 : hs_kd g96 ((hs_R g85 v0 20) - 1) = 100 := by rw [← e97]; exact h94
      have h99 : hs_in ((((32 : Int32) * v1) + ((4 : Int32) * v8)) + (1 : Int32)) (hs_ln g96 ((hs_R g85 v0 20) - 1)) = true := by rw [← e97]; exact h95
      refine lv_aload_n hx hb dX12_readMethod_303 rfl (lv_at hl 1 rfl) ?_
      obtain ⟨h100, hf⟩ := hs_ck hf
      obtain ⟨h101, hf⟩ := hs_ck hf
      refine hs_getr (C := RX12) (T := TX12) (N := 48) hx hb hts (fun w h => List.mem_cons_of_mem _ (inlX12 w h)) hown hK.1 hP h100 (by decide) rfl 20 (by decide) (hts _ (List.mem_cons_of_mem _ wq139)) (fun _ h => h) rfl h101 dX12_readMethod_304 ?_
      refine lv_iload hx hb dX12_readMethod_307 (lv_at hl 0 rfl) ?_
      refine lv_iconst (v := 2) hx hb dX12_readMethod_309 (by decide) ?_
      refine lv_iadd hx hb dX12_readMethod_310 ?_
      refine lv_aload_n hx hb dX12_readMethod_311 rfl (lv_at hl 1 rfl) ?_
      obtain ⟨r103, g102, h104, hf⟩ := hs_bd_some hf
      refine hs_calli (va_runV (As := []) (rest := [.int ((((32 : Int32) * v1) + ((4 : Int32) * v8)) + (2 : Int32)), .ref (B + ((hs_R g96 v0 20) - 1))]) ⟨hx, hb, hml, hown, hts⟩ (ctX12_two l B D E v0 g96 _ h104) (cwV 0 hts (hs_gV (fun _ h => List.mem_cons_of_mem _ h) wq412 wq413 wq414 wq5 wq415) rfl rfl rfl (by decide +kernel) ⟨Nat.le_of_ble_eq_true rfl, Nat.le_of_ble_eq_true rfl⟩) (hs_preV (r := (RX12, TX12, 48)) hP hK h100 (by decide) rfl) rfl rfl hl.1 rfl (lv_room (Nat.le_of_ble_eq_true rfl)) dX12_readMethod_312 ⟨(Nat.le_of_ble_eq_true rfl), (Nat.le_of_ble_eq_true rfl)⟩) hS (fun H locs hP hS => ?_)
      obtain ⟨h105, hf⟩ := hs_ck hf
      obtain ⟨h106, hf⟩ := hs_ck hf
      refine hs_iast hx hb hK.1 hP hS h105 h106 dX12_readMethod_315 (fun H locs hP hS => ?_)
      obtain ⟨g107, e108, hf⟩ := hs_bv_some hf
      replace e108 := Option.some.inj e108
      rw [e108] at hP
      have h109 : hs_kd g107 ((hs_R g96 v0 20) - 1) = 100 := by rw [← e108]; exact h105
      have h110 : hs_in ((((32 : Int32) * v1) + ((4 : Int32) * v8)) + (2 : Int32)) (hs_ln g107 ((hs_R g96 v0 20) - 1)) = true := by rw [← e108]; exact h106
      refine lv_aload_n hx hb dX12_readMethod_316 rfl (lv_at hl 1 rfl) ?_
      obtain ⟨h111, hf⟩ := hs_ck hf
      obtain ⟨h112, hf⟩ := hs_ck hf
      refine hs_getr (C := RX12) (T := TX12) (N := 48) hx hb hts (fun w h => List.mem_cons_of_mem _ (inlX12 w h)) hown hK.1 hP h111 (by decide) rfl 20 (by decide) (hts _ (List.mem_cons_of_mem _ wq139)) (fun _ h => h) rfl h112 dX12_readMethod_317 ?_
      refine lv_iload hx hb dX12_readMethod_320 (lv_at hl 0 rfl) ?_
      refine lv_iconst (v := 3) hx hb dX12_readMethod_322 (by decide) ?_
      refine lv_iadd hx hb dX12_readMethod_323 ?_
      refine lv_aload_n hx hb dX12_readMethod_324 rfl (lv_at hl 1 rfl) ?_
      obtain ⟨r114, g113, h115, hf⟩ := hs_bd_some hf
      refine hs_calli (va_runV (As := []) (rest := [.int ((((32 : Int32) * v1) + ((4 : Int32) * v8)) + (3 : Int32)), .ref (B + ((hs_R g107 v0 20) - 1))]) ⟨hx, hb, hml, hown, hts⟩ (ctX12_one l B D E v0 g107 _ h115) (cwV 0 hts (hs_gV (fun _ h => List.mem_cons_of_mem _ h) wq400 wq401 wq402 wq5 wq403) rfl rfl rfl (by decide +kernel) ⟨Nat.le_of_ble_eq_true rfl, Nat.le_of_ble_eq_true rfl⟩) (hs_preV (r := (RX12, TX12, 48)) hP hK h111 (by decide) rfl) rfl rfl hl.1 rfl (lv_room (Nat.le_of_ble_eq_true rfl)) dX12_readMethod_325 ⟨(Nat.le_of_ble_eq_true rfl), (Nat.le_of_ble_eq_true rfl)⟩) hS (fun H locs hP hS => ?_)
      obtain ⟨h116, hf⟩ := hs_ck hf
      obtain ⟨h117, hf⟩ := hs_ck hf
      refine hs_iast hx hb hK.1 hP hS h116 h117 dX12_readMethod_328 (fun H locs hP hS => ?_)
      obtain ⟨g118, e119, hf⟩ := hs_bv_some hf
      replace e119 := Option.some.inj e119
      rw [e119] at hP
      have h120 : hs_kd g118 ((hs_R g107 v0 20) - 1) = 100 := by rw [← e119]; exact h116
      have h121 : hs_in ((((32 : Int32) * v1) + ((4 : Int32) * v8)) + (3 : Int32)) (hs_ln g118 ((hs_R g107 v0 20) - 1)) = true := by rw [← e119]; exact h117
      refine lv_iinc (v := (v8 + (1 : Int32))) (lv' := [(8, .int (v8 + (1 : Int32))), (9, .int (((32 : Int32) * v1) + ((4 : Int32) * v8))), (0, .ref (B + v0)), (1, .int v1), (2, .int v2), (5, .int v5), (6, .int v6), (7, .int v7)]) hx hb dX12_readMethod_329 hl (k := 7) rfl (by rfl) (by decide) rfl (fun ls hl => ?_)
      refine lv_goto (tgt := 261) hx hb dX12_readMethod_332 (by decide) ?_
      exact ih _ _ hf _ _ _ hP hS (lv_sub hl [2, 3, 4, 5, 6, 7, 0] rfl)

set_option maxHeartbeats 4000000 in
set_option maxRecDepth 100000 in
theorem wX12_readMethod_j480 {p : Program} {l : Launch} {e : Env} {s : State} {m : MethodId} {args : Array Value} {below : List Frame} {meth : Method} {c : Code} {B : Nat} {D : va_G} {E : Nat → ClassId} (hX : hs_cx cX12_readMethod (some .int) 13 RX12 wcX12_readMethod p s m args meth c D E) {Q : State → Prop} {o : Int32 × hs_S} {rec : Int32 → Int32 → hs_S → Option (Int32 × hs_S)} {v0 : Nat} {v1 : Int32} {v5 : Int32} {v6 : Int32} {v7 : Int32} {v8 : Int32} {v9 : Int32}  (hrec : ∀ (y0 : Int32) (y1 : Int32) (g : hs_S) (H : Heap) (locs : List Loc) (ls : Array Slot), rec y0 y1 g = some o → hs_P B D E g H → hs_Sx B s.heap H locs → lv_has ls 13 [(0, .ref (B + v0)), (1, .int v1), (5, .int v5), (6, .int v6), (7, .int v7), (8, .int y0), (9, .int y1)] → W p l e rmX12_readMethod s m args below meth c H locs 0 0 Q (F0 m 346 ls [])) (hex0 : ∀ (H : Heap) (locs : List Loc) (ls : Array Slot), hs_P B D E (o.2) H → hs_Sx B s.heap H locs → lv_has ls 13 [(0, .ref (B + v0)), (1, .int v1), (5, .int v5), (8, .int (o.1))] → W p l e rmX12_readMethod s m args below meth c H locs 0 0 Q (F0 m 486 ls [])) {g : hs_S} {H : Heap} {locs : List Loc} {ls : Array Slot} (hf : jX12_readMethod_480 rec v0 v1 v5 v6 v7 v8 v9 g = some o) (hP : hs_P B D E g H) (hS : hs_Sx B s.heap H locs) (hl : lv_has ls 13 [(0, .ref (B + v0)), (1, .int v1), (5, .int v5), (6, .int v6), (7, .int v7), (8, .int v8), (9, .int v9)]) : W p l e rmX12_readMethod s m args below meth c H locs 0 0 Q (F0 m 480 ls []) := by
  obtain ⟨hx, hb, hr, hml, hown, hts, hlocks, hK⟩ := id hX
  unfold jX12_readMethod_480 at hf
  refine lv_iinc (v := (v9 + (1 : Int32))) (lv' := [(9, .int (v9 + (1 : Int32))), (0, .ref (B + v0)), (1, .int v1), (5, .int v5), (6, .int v6), (7, .int v7), (8, .int v8)]) hx hb dX12_readMethod_480 hl (k := 6) rfl (by rfl) (by decide) rfl (fun ls hl => ?_)
  refine lv_goto (tgt := 346) hx hb dX12_readMethod_483 (by decide) ?_
  exact hrec _ _ _ _ _ _ hf hP hS (lv_sub hl [1, 2, 3, 4, 5, 6, 0] rfl)

set_option maxHeartbeats 4000000 in
set_option maxRecDepth 100000 in
theorem wX12_readMethod_j459 {p : Program} {l : Launch} {e : Env} {s : State} {m : MethodId} {args : Array Value} {below : List Frame} {meth : Method} {c : Code} {B : Nat} {D : va_G} {E : Nat → ClassId} (hX : hs_cx cX12_readMethod (some .int) 13 RX12 wcX12_readMethod p s m args meth c D E) {Q : State → Prop} {o : Int32 × hs_S} {rec : Int32 → Int32 → hs_S → Option (Int32 × hs_S)} {v0 : Nat} {v1 : Int32} {v5 : Int32} {v6 : Int32} {v7 : Int32} {v8 : Int32} {v9 : Int32} {s0 : Int32}  (hrec : ∀ (y0 : Int32) (y1 : Int32) (g : hs_S) (H : Heap) (locs : List Loc) (ls : Array Slot), rec y0 y1 g = some o → hs_P B D E g H → hs_Sx B s.heap H locs → lv_has ls 13 [(0, .ref (B + v0)), (1, .int v1), (5, .int v5), (6, .int v6), (7, .int v7), (8, .int y0), (9, .int y1)] → W p l e rmX12_readMethod s m args below meth c H locs 0 0 Q (F0 m 346 ls [])) (hex0 : ∀ (H : Heap) (locs : List Loc) (ls : Array Slot), hs_P B D E (o.2) H → hs_Sx B s.heap H locs → lv_has ls 13 [(0, .ref (B + v0)), (1, .int v1), (5, .int v5), (8, .int (o.1))] → W p l e rmX12_readMethod s m args below meth c H locs 0 0 Q (F0 m 486 ls [])) {g : hs_S} {H : Heap} {locs : List Loc} {ls : Array Slot} (hf : jX12_readMethod_459 rec v0 v1 v5 v6 v7 v8 v9 s0 g = some o) (hP : hs_P B D E g H) (hS : hs_Sx B s.heap H locs) (hl : lv_has ls 13 [(0, .ref (B + v0)), (1, .int v1), (5, .int v5), (6, .int v6), (7, .int v7), (8, .int v8), (9, .int v9)]) : W p l e rmX12_readMethod s m args below meth c H locs 0 0 Q (F0 m 459 ls [.int s0]) := by
  obtain ⟨hx, hb, hr, hml, hown, hts, hlocks, hK⟩ := id hX
  unfold jX12_readMethod_459 at hf
  refine lv_istore (lv' := [(12, .int s0), (0, .ref (B + v0)), (1, .int v1), (5, .int v5), (6, .int v6), (7, .int v7), (8, .int v8), (9, .int v9)]) hx hb dX12_readMethod_459 hl (by decide) rfl (fun ls hl => ?_)
  refine lv_iload hx hb dX12_readMethod_461 (lv_at hl 0 rfl) ?_
  refine lv_if_ne (tgt := 480) hx hb dX12_readMethod_463 (by decide) (fun hc => ?_) (fun hc => ?_)
  · replace hf := hs_f hf hc
    exact wX12_readMethod_j480 hX hrec hex0 hf hP hS (lv_sub hl [1, 2, 3, 4, 5, 6, 7] rfl)
  · replace hf := hs_t hf hc
    refine lv_aload_n hx hb dX12_readMethod_466 rfl (lv_at hl 1 rfl) ?_
    refine lv_iload hx hb dX12_readMethod_467 (lv_at hl 5 rfl) ?_
    refine lv_bipush (v := 7) hx hb dX12_readMethod_469 (by decide) ?_
    refine lv_iload hx hb dX12_readMethod_471 (lv_at hl 7 rfl) ?_
    refine lv_imul hx hb dX12_readMethod_473 ?_
    refine lv_iadd hx hb dX12_readMethod_474 ?_
    obtain ⟨h137, hf⟩ := hs_ck hf
    obtain ⟨r139, g138, h140, hf⟩ := hs_bd_some hf
    refine hs_calli (va_runV (As := [.int (v7 + ((7 : Int32) * v9))]) (rest := []) ⟨hx, hb, hml, hown, hts⟩ (ctX12_wrong l B D E v0 (v7 + ((7 : Int32) * v9)) g _ h140) (cwV 1 hts (hs_gV (fun _ h => List.mem_cons_of_mem _ h) wq404 wq405 wq406 wq5 wq407) rfl rfl rfl (by decide +kernel) ⟨Nat.le_of_ble_eq_true rfl, Nat.le_of_ble_eq_true rfl⟩) (hs_preV (r := (RX12, TX12, 48)) hP hK h137 (by decide) rfl) rfl rfl hl.1 rfl (lv_room (Nat.le_of_ble_eq_true rfl)) dX12_readMethod_475 ⟨(Nat.le_of_ble_eq_true rfl), (Nat.le_of_ble_eq_true rfl)⟩) hS (fun H locs hP hS => ?_)
    refine lv_istore (lv' := [(8, .int r139), (12, .int s0), (0, .ref (B + v0)), (1, .int v1), (5, .int v5), (6, .int v6), (7, .int v7), (9, .int v9)]) hx hb dX12_readMethod_478 hl (by decide) rfl (fun ls hl => ?_)
    exact wX12_readMethod_j480 hX hrec hex0 hf hP hS (lv_sub hl [2, 3, 4, 5, 6, 0, 7] rfl)

set_option maxHeartbeats 4000000 in
set_option maxRecDepth 100000 in
theorem wX12_readMethod_j458 {p : Program} {l : Launch} {e : Env} {s : State} {m : MethodId} {args : Array Value} {below : List Frame} {meth : Method} {c : Code} {B : Nat} {D : va_G} {E : Nat → ClassId} (hX : hs_cx cX12_readMethod (some .int) 13 RX12 wcX12_readMethod p s m args meth c D E) {Q : State → Prop} {o : Int32 × hs_S} {rec : Int32 → Int32 → hs_S → Option (Int32 × hs_S)} {v0 : Nat} {v1 : Int32} {v5 : Int32} {v6 : Int32} {v7 : Int32} {v8 : Int32} {v9 : Int32}  (hrec : ∀ (y0 : Int32) (y1 : Int32) (g : hs_S) (H : Heap) (locs : List Loc) (ls : Array Slot), rec y0 y1 g = some o → hs_P B D E g H → hs_Sx B s.heap H locs → lv_has ls 13 [(0, .ref (B + v0)), (1, .int v1), (5, .int v5), (6, .int v6), (7, .int v7), (8, .int y0), (9, .int y1)] → W p l e rmX12_readMethod s m args below meth c H locs 0 0 Q (F0 m 346 ls [])) (hex0 : ∀ (H : Heap) (locs : List Loc) (ls : Array Slot), hs_P B D E (o.2) H → hs_Sx B s.heap H locs → lv_has ls 13 [(0, .ref (B + v0)), (1, .int v1), (5, .int v5), (8, .int (o.1))] → W p l e rmX12_readMethod s m args below meth c H locs 0 0 Q (F0 m 486 ls [])) {g : hs_S} {H : Heap} {locs : List Loc} {ls : Array Slot} (hf : jX12_readMethod_458 rec v0 v1 v5 v6 v7 v8 v9 g = some o) (hP : hs_P B D E g H) (hS : hs_Sx B s.heap H locs) (hl : lv_has ls 13 [(0, .ref (B + v0)), (1, .int v1), (5, .int v5), (6, .int v6), (7, .int v7), (8, .int v8), (9, .int v9)]) : W p l e rmX12_readMethod s m args below meth c H locs 0 0 Q (F0 m 458 ls []) := by
  obtain ⟨hx, hb, hr, hml, hown, hts, hlocks, hK⟩ := id hX
  unfold jX12_readMethod_458 at hf
  refine lv_iconst (v := 0) hx hb dX12_readMethod_458 (by decide) ?_
  exact wX12_readMethod_j459 hX hrec hex0 hf hP hS (lv_sub hl [0, 1, 2, 3, 4, 5, 6] rfl)

set_option maxHeartbeats 4000000 in
set_option maxRecDepth 100000 in
theorem wX12_readMethod_j441 {p : Program} {l : Launch} {e : Env} {s : State} {m : MethodId} {args : Array Value} {below : List Frame} {meth : Method} {c : Code} {B : Nat} {D : va_G} {E : Nat → ClassId} (hX : hs_cx cX12_readMethod (some .int) 13 RX12 wcX12_readMethod p s m args meth c D E) {Q : State → Prop} {o : Int32 × hs_S} {rec : Int32 → Int32 → hs_S → Option (Int32 × hs_S)} {v0 : Nat} {v1 : Int32} {v5 : Int32} {v6 : Int32} {v7 : Int32} {v8 : Int32} {v9 : Int32} {v10 : Int32}  (hrec : ∀ (y0 : Int32) (y1 : Int32) (g : hs_S) (H : Heap) (locs : List Loc) (ls : Array Slot), rec y0 y1 g = some o → hs_P B D E g H → hs_Sx B s.heap H locs → lv_has ls 13 [(0, .ref (B + v0)), (1, .int v1), (5, .int v5), (6, .int v6), (7, .int v7), (8, .int y0), (9, .int y1)] → W p l e rmX12_readMethod s m args below meth c H locs 0 0 Q (F0 m 346 ls [])) (hex0 : ∀ (H : Heap) (locs : List Loc) (ls : Array Slot), hs_P B D E (o.2) H → hs_Sx B s.heap H locs → lv_has ls 13 [(0, .ref (B + v0)), (1, .int v1), (5, .int v5), (8, .int (o.1))] → W p l e rmX12_readMethod s m args below meth c H locs 0 0 Q (F0 m 486 ls [])) {g : hs_S} {H : Heap} {locs : List Loc} {ls : Array Slot} (hf : jX12_readMethod_441 rec v0 v1 v5 v6 v7 v8 v9 v10 g = some o) (hP : hs_P B D E g H) (hS : hs_Sx B s.heap H locs) (hl : lv_has ls 13 [(0, .ref (B + v0)), (1, .int v1), (5, .int v5), (6, .int v6), (7, .int v7), (8, .int v8), (9, .int v9), (10, .int v10)]) : W p l e rmX12_readMethod s m args below meth c H locs 0 0 Q (F0 m 441 ls []) := by
  obtain ⟨hx, hb, hr, hml, hown, hts, hlocks, hK⟩ := id hX
  unfold jX12_readMethod_441 at hf
  refine lv_aload_n hx hb dX12_readMethod_441 rfl (lv_at hl 0 rfl) ?_
  obtain ⟨h152, hf⟩ := hs_ck hf
  obtain ⟨h153, hf⟩ := hs_ck hf
  refine hs_getr (C := RX12) (T := TX12) (N := 48) hx hb hts (fun w h => List.mem_cons_of_mem _ (inlX12 w h)) hown hK.1 hP h152 (by decide) rfl 20 (by decide) (hts _ (List.mem_cons_of_mem _ wq139)) (fun _ h => h) rfl h153 dX12_readMethod_442 ?_
  refine lv_iload hx hb dX12_readMethod_445 (lv_at hl 7 rfl) ?_
  refine lv_iconst (v := 3) hx hb dX12_readMethod_447 (by decide) ?_
  refine lv_iadd hx hb dX12_readMethod_448 ?_
  obtain ⟨h154, hf⟩ := hs_ck hf
  obtain ⟨h155, hf⟩ := hs_ck hf
  refine hs_iald hx hb hK.1 hP h154 h155 dX12_readMethod_449 ?_
  refine lv_iconst (v := 4) hx hb dX12_readMethod_450 (by decide) ?_
  refine lv_icmp_gt (tgt := 458) hx hb dX12_readMethod_451 (by decide) (fun hc => ?_) (fun hc => ?_)
  · replace hf := hs_t hf hc
    exact wX12_readMethod_j458 hX hrec hex0 hf hP hS (lv_sub hl [0, 1, 2, 3, 4, 5, 6] rfl)
  · replace hf := hs_f hf hc
    refine lv_iconst (v := 1) hx hb dX12_readMethod_454 (by decide) ?_
    refine lv_goto (tgt := 459) hx hb dX12_readMethod_455 (by decide) ?_
    exact wX12_readMethod_j459 hX hrec hex0 hf hP hS (lv_sub hl [0, 1, 2, 3, 4, 5, 6] rfl)

set_option maxHeartbeats 4000000 in
set_option maxRecDepth 100000 in
theorem wX12_readMethod_346 {p : Program} {l : Launch} {e : Env} {s : State} {m : MethodId} {args : Array Value} {below : List Frame} {meth : Method} {c : Code} {B : Nat} {D : va_G} {E : Nat → ClassId} (hX : hs_cx cX12_readMethod (some .int) 13 RX12 wcX12_readMethod p s m args meth c D E) {Q : State → Prop} {o : Int32 × hs_S} {v0 : Nat} {v1 : Int32} {v5 : Int32} {v6 : Int32} {v7 : Int32} (hex0 : ∀ (H : Heap) (locs : List Loc) (ls : Array Slot), hs_P B D E (o.2) H → hs_Sx B s.heap H locs → lv_has ls 13 [(0, .ref (B + v0)), (1, .int v1), (5, .int v5), (8, .int (o.1))] → W p l e rmX12_readMethod s m args below meth c H locs 0 0 Q (F0 m 486 ls [])) : ∀ (n : Nat) (v8 : Int32) (v9 : Int32) (g : hs_S), lX12_readMethod_346 n v0 v1 v5 v6 v7 v8 v9 g = some o → ∀ (H : Heap) (locs : List Loc) (ls : Array Slot), hs_P B D E g H → hs_Sx B s.heap H locs → lv_has ls 13 [(0, .ref (B + v0)), (1, .int v1), (5, .int v5), (6, .int v6), (7, .int v7), (8, .int v8), (9, .int v9)] → W p l e rmX12_readMethod s m args below meth c H locs 0 0 Q (F0 m 346 ls []) := by
  obtain ⟨hx, hb, hr, hml, hown, hts, hlocks, hK⟩ := id hX
  intro n
  induction n with
  | zero =>
    intro v8 v9 g hf
    cases hf
  | succ n ih =>
    intro v8 v9 g hf H locs ls hP hS hl
    replace hf := (lX12_readMethod_346_s n v0 v1 v5 v6 v7 v8 v9 g).symm.trans hf
    refine lv_iload hx hb dX12_readMethod_346 (lv_at hl 6 rfl) ?_
    refine lv_iload hx hb dX12_readMethod_348 (lv_at hl 3 rfl) ?_
    refine lv_icmp_ge (tgt := 486) hx hb dX12_readMethod_350 (by decide) (fun hc => ?_) (fun hc => ?_)
    · replace hf := hs_t hf hc
      obtain rfl := Option.some.inj hf
      exact hex0 _ _ _ hP hS (lv_sub hl [0, 1, 2, 5] rfl)
    · replace hf := hs_f hf hc
      refine lv_iload hx hb dX12_readMethod_353 (lv_at hl 5 rfl) ?_
      refine lv_if_ne (tgt := 486) hx hb dX12_readMethod_355 (by decide) (fun hc => ?_) (fun hc => ?_)
      · replace hf := hs_f hf hc
        obtain rfl := Option.some.inj hf
        exact hex0 _ _ _ hP hS (lv_sub hl [0, 1, 2, 5] rfl)
      · replace hf := hs_t hf hc
        refine lv_bipush (v := 32) hx hb dX12_readMethod_358 (by decide) ?_
        refine lv_iload_n hx hb dX12_readMethod_360 rfl (lv_at hl 1 rfl) ?_
        refine lv_imul hx hb dX12_readMethod_361 ?_
        refine lv_iconst (v := 4) hx hb dX12_readMethod_362 (by decide) ?_
        refine lv_iload hx hb dX12_readMethod_363 (lv_at hl 6 rfl) ?_
        refine lv_imul hx hb dX12_readMethod_365 ?_
        refine lv_iadd hx hb dX12_readMethod_366 ?_
        refine lv_istore (lv' := [(10, .int (((32 : Int32) * v1) + ((4 : Int32) * v9))), (0, .ref (B + v0)), (1, .int v1), (5, .int v5), (6, .int v6), (7, .int v7), (8, .int v8), (9, .int v9)]) hx hb dX12_readMethod_367 hl (by decide) rfl (fun ls hl => ?_)
        refine lv_aload_n hx hb dX12_readMethod_369 rfl (lv_at hl 1 rfl) ?_
        obtain ⟨h129, hf⟩ := hs_ck hf
        obtain ⟨h130, hf⟩ := hs_ck hf
        refine hs_getr (C := RX12) (T := TX12) (N := 48) hx hb hts (fun w h => List.mem_cons_of_mem _ (inlX12 w h)) hown hK.1 hP h129 (by decide) rfl 20 (by decide) (hts _ (List.mem_cons_of_mem _ wq139)) (fun _ h => h) rfl h130 dX12_readMethod_370 ?_
        refine lv_iload hx hb dX12_readMethod_373 (lv_at hl 0 rfl) ?_
        refine lv_iconst (v := 1) hx hb dX12_readMethod_375 (by decide) ?_
        refine lv_iadd hx hb dX12_readMethod_376 ?_
        obtain ⟨h131, hf⟩ := hs_ck hf
        obtain ⟨h132, hf⟩ := hs_ck hf
        refine hs_iald hx hb hK.1 hP h131 h132 dX12_readMethod_377 ?_
        refine lv_istore (lv' := [(11, .int (hs_I g ((hs_R g v0 20) - 1) ((((32 : Int32) * v1) + ((4 : Int32) * v9)) + (1 : Int32)).toNatClampNeg)), (10, .int (((32 : Int32) * v1) + ((4 : Int32) * v9))), (0, .ref (B + v0)), (1, .int v1), (5, .int v5), (6, .int v6), (7, .int v7), (8, .int v8), (9, .int v9)]) hx hb dX12_readMethod_378 hl (by decide) rfl (fun ls hl => ?_)
        refine lv_aload_n hx hb dX12_readMethod_380 rfl (lv_at hl 2 rfl) ?_
        refine lv_iload_n hx hb dX12_readMethod_381 rfl (lv_at hl 3 rfl) ?_
        refine lv_aload_n hx hb dX12_readMethod_382 rfl (lv_at hl 2 rfl) ?_
        refine hs_getr (C := RX12) (T := TX12) (N := 48) hx hb hts (fun w h => List.mem_cons_of_mem _ (inlX12 w h)) hown hK.1 hP h129 (by decide) rfl 20 (by decide) (hts _ (List.mem_cons_of_mem _ wq139)) (fun _ h => h) rfl h130 dX12_readMethod_383 ?_
        refine lv_iload hx hb dX12_readMethod_386 (lv_at hl 1 rfl) ?_
        obtain ⟨h133, hf⟩ := hs_ck hf
        refine hs_iald hx hb hK.1 hP h131 h133 dX12_readMethod_388 ?_
        obtain ⟨r135, g134, h136, hf⟩ := hs_bd_some hf
        refine hs_calli (va_runV (As := [.int v1, .int (hs_I g ((hs_R g v0 20) - 1) (((32 : Int32) * v1) + ((4 : Int32) * v9)).toNatClampNeg)]) (rest := []) ⟨hx, hb, hml, hown, hts⟩ (ctX12_isBegin l B D E v0 v1 (hs_I g ((hs_R g v0 20) - 1) (((32 : Int32) * v1) + ((4 : Int32) * v9)).toNatClampNeg) g _ h136) (cwV 2 hts (hs_gV (fun _ h => List.mem_cons_of_mem _ h) wq426 wq427 wq428 wq5 wq429) rfl rfl rfl (by decide +kernel) ⟨Nat.le_of_ble_eq_true rfl, Nat.le_of_ble_eq_true rfl⟩) (hs_preV (r := (RX12, TX12, 48)) hP hK h129 (by decide) rfl) rfl rfl hl.1 rfl (lv_room (Nat.le_of_ble_eq_true rfl)) dX12_readMethod_389 ⟨(Nat.le_of_ble_eq_true rfl), (Nat.le_of_ble_eq_true rfl)⟩) hS (fun H locs hP hS => ?_)
        refine lv_if_eq (tgt := 458) hx hb dX12_readMethod_392 (by decide) (fun hc => ?_) (fun hc => ?_)
        · replace hf := hs_t hf hc
          exact wX12_readMethod_j458 hX (fun z0 z1 g H locs ls hf hP hS hl => ih z0 z1 g hf H locs ls hP hS hl) hex0 hf hP hS (lv_sub hl [2, 3, 4, 5, 6, 7, 8] rfl)
        · replace hf := hs_f hf hc
          refine lv_aload_n hx hb dX12_readMethod_395 rfl (lv_at hl 2 rfl) ?_
          refine lv_iload_n hx hb dX12_readMethod_396 rfl (lv_at hl 3 rfl) ?_
          refine lv_aload_n hx hb dX12_readMethod_397 rfl (lv_at hl 2 rfl) ?_
          obtain ⟨h141, hf⟩ := hs_ck hf
          obtain ⟨h142, hf⟩ := hs_ck hf
          refine hs_getr (C := RX12) (T := TX12) (N := 48) hx hb hts (fun w h => List.mem_cons_of_mem _ (inlX12 w h)) hown hK.1 hP h141 (by decide) rfl 20 (by decide) (hts _ (List.mem_cons_of_mem _ wq139)) (fun _ h => h) rfl h142 dX12_readMethod_398 ?_
          refine lv_iload hx hb dX12_readMethod_401 (lv_at hl 1 rfl) ?_
          refine lv_iconst (v := 2) hx hb dX12_readMethod_403 (by decide) ?_
          refine lv_iadd hx hb dX12_readMethod_404 ?_
          obtain ⟨h143, hf⟩ := hs_ck hf
          obtain ⟨h144, hf⟩ := hs_ck hf
          refine hs_iald hx hb hK.1 hP h143 h144 dX12_readMethod_405 ?_
          obtain ⟨r146, g145, h147, hf⟩ := hs_bd_some hf
          refine hs_calli (va_runV (As := [.int v1, .int (hs_I g134 ((hs_R g134 v0 20) - 1) ((((32 : Int32) * v1) + ((4 : Int32) * v9)) + (2 : Int32)).toNatClampNeg)]) (rest := []) ⟨hx, hb, hml, hown, hts⟩ (ctX12_isBegin l B D E v0 v1 (hs_I g134 ((hs_R g134 v0 20) - 1) ((((32 : Int32) * v1) + ((4 : Int32) * v9)) + (2 : Int32)).toNatClampNeg) g134 _ h147) (cwV 2 hts (hs_gV (fun _ h => List.mem_cons_of_mem _ h) wq426 wq427 wq428 wq5 wq429) rfl rfl rfl (by decide +kernel) ⟨Nat.le_of_ble_eq_true rfl, Nat.le_of_ble_eq_true rfl⟩) (hs_preV (r := (RX12, TX12, 48)) hP hK h141 (by decide) rfl) rfl rfl hl.1 rfl (lv_room (Nat.le_of_ble_eq_true rfl)) dX12_readMethod_406 ⟨(Nat.le_of_ble_eq_true rfl), (Nat.le_of_ble_eq_true rfl)⟩) hS (fun H locs hP hS => ?_)
          refine lv_if_eq (tgt := 458) hx hb dX12_readMethod_409 (by decide) (fun hc => ?_) (fun hc => ?_)
          · replace hf := hs_t hf hc
            exact wX12_readMethod_j458 hX (fun z0 z1 g H locs ls hf hP hS hl => ih z0 z1 g hf H locs ls hP hS hl) hex0 hf hP hS (lv_sub hl [2, 3, 4, 5, 6, 7, 8] rfl)
          · replace hf := hs_f hf hc
            refine lv_iload hx hb dX12_readMethod_412 (lv_at hl 0 rfl) ?_
            refine lv_aload_n hx hb dX12_readMethod_414 rfl (lv_at hl 2 rfl) ?_
            obtain ⟨h148, hf⟩ := hs_ck hf
            obtain ⟨h149, hf⟩ := hs_ck hf
            refine hs_getr (C := RX12) (T := TX12) (N := 48) hx hb hts (fun w h => List.mem_cons_of_mem _ (inlX12 w h)) hown hK.1 hP h148 (by decide) rfl 20 (by decide) (hts _ (List.mem_cons_of_mem _ wq139)) (fun _ h => h) rfl h149 dX12_readMethod_415 ?_
            refine lv_iload hx hb dX12_readMethod_418 (lv_at hl 1 rfl) ?_
            obtain ⟨h150, hf⟩ := hs_ck hf
            obtain ⟨h151, hf⟩ := hs_ck hf
            refine hs_iald hx hb hK.1 hP h150 h151 dX12_readMethod_420 ?_
            refine lv_icmp_le (tgt := 458) hx hb dX12_readMethod_421 (by decide) (fun hc => ?_) (fun hc => ?_)
            · replace hf := hs_t hf hc
              exact wX12_readMethod_j458 hX (fun z0 z1 g H locs ls hf hP hS hl => ih z0 z1 g hf H locs ls hP hS hl) hex0 hf hP hS (lv_sub hl [2, 3, 4, 5, 6, 7, 8] rfl)
            · replace hf := hs_f hf hc
              refine lv_iload hx hb dX12_readMethod_424 (lv_at hl 0 rfl) ?_
              refine lv_iload hx hb dX12_readMethod_426 (lv_at hl 4 rfl) ?_
              refine lv_icmp_eq (tgt := 441) hx hb dX12_readMethod_428 (by decide) (fun hc => ?_) (fun hc => ?_)
              · replace hf := hs_t hf hc
                exact wX12_readMethod_j441 hX (fun z0 z1 g H locs ls hf hP hS hl => ih z0 z1 g hf H locs ls hP hS hl) hex0 hf hP hS (lv_sub hl [2, 3, 4, 5, 6, 7, 8, 1] rfl)
              · replace hf := hs_f hf hc
                refine lv_aload_n hx hb dX12_readMethod_431 rfl (lv_at hl 2 rfl) ?_
                refine lv_iload_n hx hb dX12_readMethod_432 rfl (lv_at hl 3 rfl) ?_
                refine lv_iload hx hb dX12_readMethod_433 (lv_at hl 0 rfl) ?_
                obtain ⟨r157, g156, h158, hf⟩ := hs_bd_some hf
                refine hs_calli (va_runV (As := [.int v1, .int (hs_I g ((hs_R g v0 20) - 1) ((((32 : Int32) * v1) + ((4 : Int32) * v9)) + (1 : Int32)).toNatClampNeg)]) (rest := []) ⟨hx, hb, hml, hown, hts⟩ (ctX12_isBegin l B D E v0 v1 (hs_I g ((hs_R g v0 20) - 1) ((((32 : Int32) * v1) + ((4 : Int32) * v9)) + (1 : Int32)).toNatClampNeg) g145 _ h158) (cwV 2 hts (hs_gV (fun _ h => List.mem_cons_of_mem _ h) wq426 wq427 wq428 wq5 wq429) rfl rfl rfl (by decide +kernel) ⟨Nat.le_of_ble_eq_true rfl, Nat.le_of_ble_eq_true rfl⟩) (hs_preV (r := (RX12, TX12, 48)) hP hK h148 (by decide) rfl) rfl rfl hl.1 rfl (lv_room (Nat.le_of_ble_eq_true rfl)) dX12_readMethod_435 ⟨(Nat.le_of_ble_eq_true rfl), (Nat.le_of_ble_eq_true rfl)⟩) hS (fun H locs hP hS => ?_)
                refine lv_if_eq (tgt := 458) hx hb dX12_readMethod_438 (by decide) (fun hc => ?_) (fun hc => ?_)
                · replace hf := hs_t hf hc
                  exact wX12_readMethod_j458 hX (fun z0 z1 g H locs ls hf hP hS hl => ih z0 z1 g hf H locs ls hP hS hl) hex0 hf hP hS (lv_sub hl [2, 3, 4, 5, 6, 7, 8] rfl)
                · replace hf := hs_f hf hc
                  exact wX12_readMethod_j441 hX (fun z0 z1 g H locs ls hf hP hS hl => ih z0 z1 g hf H locs ls hP hS hl) hex0 hf hP hS (lv_sub hl [2, 3, 4, 5, 6, 7, 8, 1] rfl)

set_option maxHeartbeats 4000000 in
set_option maxRecDepth 100000 in
theorem wX12_readMethod_j587 {p : Program} {l : Launch} {e : Env} {s : State} {m : MethodId} {args : Array Value} {below : List Frame} {meth : Method} {c : Code} {B : Nat} {D : va_G} {E : Nat → ClassId} (hX : hs_cx cX12_readMethod (some .int) 13 RX12 wcX12_readMethod p s m args meth c D E) {Q : State → Prop} {o : Int32 × hs_S} {rec : Int32 → Int32 → hs_S → Option (Int32 × hs_S)} {v0 : Nat} {v1 : Int32} {v5 : Int32} {v8 : Int32} {v9 : Int32}  (hrec : ∀ (y0 : Int32) (y1 : Int32) (g : hs_S) (H : Heap) (locs : List Loc) (ls : Array Slot), rec y0 y1 g = some o → hs_P B D E g H → hs_Sx B s.heap H locs → lv_has ls 13 [(0, .ref (B + v0)), (1, .int v1), (5, .int v5), (8, .int y0), (9, .int y1)] → W p l e rmX12_readMethod s m args below meth c H locs 0 0 Q (F0 m 489 ls [])) (hex0 : ∀ (H : Heap) (locs : List Loc) (ls : Array Slot), hs_P B D E (o.2) H → hs_Sx B s.heap H locs → lv_has ls 13 [(8, .int (o.1))] → W p l e rmX12_readMethod s m args below meth c H locs 0 0 Q (F0 m 593 ls [])) {g : hs_S} {H : Heap} {locs : List Loc} {ls : Array Slot} (hf : jX12_readMethod_587 rec v0 v1 v5 v8 v9 g = some o) (hP : hs_P B D E g H) (hS : hs_Sx B s.heap H locs) (hl : lv_has ls 13 [(0, .ref (B + v0)), (1, .int v1), (5, .int v5), (8, .int v8), (9, .int v9)]) : W p l e rmX12_readMethod s m args below meth c H locs 0 0 Q (F0 m 587 ls []) := by
  obtain ⟨hx, hb, hr, hml, hown, hts, hlocks, hK⟩ := id hX
  unfold jX12_readMethod_587 at hf
  refine lv_iinc (v := (v9 + (1 : Int32))) (lv' := [(9, .int (v9 + (1 : Int32))), (0, .ref (B + v0)), (1, .int v1), (5, .int v5), (8, .int v8)]) hx hb dX12_readMethod_587 hl (k := 4) rfl (by rfl) (by decide) rfl (fun ls hl => ?_)
  refine lv_goto (tgt := 489) hx hb dX12_readMethod_590 (by decide) ?_
  exact hrec _ _ _ _ _ _ hf hP hS (lv_sub hl [1, 2, 3, 4, 0] rfl)

set_option maxHeartbeats 4000000 in
set_option maxRecDepth 100000 in
theorem wX12_readMethod_489 {p : Program} {l : Launch} {e : Env} {s : State} {m : MethodId} {args : Array Value} {below : List Frame} {meth : Method} {c : Code} {B : Nat} {D : va_G} {E : Nat → ClassId} (hX : hs_cx cX12_readMethod (some .int) 13 RX12 wcX12_readMethod p s m args meth c D E) {Q : State → Prop} {o : Int32 × hs_S} {v0 : Nat} {v1 : Int32} {v5 : Int32} (hex0 : ∀ (H : Heap) (locs : List Loc) (ls : Array Slot), hs_P B D E (o.2) H → hs_Sx B s.heap H locs → lv_has ls 13 [(8, .int (o.1))] → W p l e rmX12_readMethod s m args below meth c H locs 0 0 Q (F0 m 593 ls [])) : ∀ (n : Nat) (v8 : Int32) (v9 : Int32) (g : hs_S), lX12_readMethod_489 n v0 v1 v5 v8 v9 g = some o → ∀ (H : Heap) (locs : List Loc) (ls : Array Slot), hs_P B D E g H → hs_Sx B s.heap H locs → lv_has ls 13 [(0, .ref (B + v0)), (1, .int v1), (5, .int v5), (8, .int v8), (9, .int v9)] → W p l e rmX12_readMethod s m args below meth c H locs 0 0 Q (F0 m 489 ls []) := by
  obtain ⟨hx, hb, hr, hml, hown, hts, hlocks, hK⟩ := id hX
  intro n
  induction n with
  | zero =>
    intro v8 v9 g hf
    cases hf
  | succ n ih =>
    intro v8 v9 g hf H locs ls hP hS hl
    replace hf := (lX12_readMethod_489_s n v0 v1 v5 v8 v9 g).symm.trans hf
    refine lv_iload hx hb dX12_readMethod_489 (lv_at hl 4 rfl) ?_
    refine lv_iload hx hb dX12_readMethod_491 (lv_at hl 2 rfl) ?_
    refine lv_icmp_ge (tgt := 593) hx hb dX12_readMethod_493 (by decide) (fun hc => ?_) (fun hc => ?_)
    · replace hf := hs_t hf hc
      obtain rfl := Option.some.inj hf
      exact hex0 _ _ _ hP hS (lv_sub hl [3] rfl)
    · replace hf := hs_f hf hc
      refine lv_iload hx hb dX12_readMethod_496 (lv_at hl 3 rfl) ?_
      refine lv_if_ne (tgt := 593) hx hb dX12_readMethod_498 (by decide) (fun hc => ?_) (fun hc => ?_)
      · replace hf := hs_f hf hc
        obtain rfl := Option.some.inj hf
        exact hex0 _ _ _ hP hS (lv_sub hl [3] rfl)
      · replace hf := hs_t hf hc
        refine lv_sipush (v := 2001) hx hb dX12_readMethod_501 (by decide) ?_
        refine lv_iload_n hx hb dX12_readMethod_504 rfl (lv_at hl 1 rfl) ?_
        refine lv_imul hx hb dX12_readMethod_505 ?_
        refine lv_iload hx hb dX12_readMethod_506 (lv_at hl 4 rfl) ?_
        refine lv_iadd hx hb dX12_readMethod_508 ?_
        refine lv_istore (lv' := [(10, .int (((2001 : Int32) * v1) + v9)), (0, .ref (B + v0)), (1, .int v1), (5, .int v5), (8, .int v8), (9, .int v9)]) hx hb dX12_readMethod_509 hl (by decide) rfl (fun ls hl => ?_)
        refine lv_aload_n hx hb dX12_readMethod_511 rfl (lv_at hl 1 rfl) ?_
        obtain ⟨h163, hf⟩ := hs_ck hf
        obtain ⟨h164, hf⟩ := hs_ck hf
        refine hs_getr (C := RX12) (T := TX12) (N := 48) hx hb hts (fun w h => List.mem_cons_of_mem _ (inlX12 w h)) hown hK.1 hP h163 (by decide) rfl 11 (by decide) (hts _ (List.mem_cons_of_mem _ wq130)) (fun _ h => h) rfl h164 dX12_readMethod_512 ?_
        refine lv_iload hx hb dX12_readMethod_515 (lv_at hl 0 rfl) ?_
        obtain ⟨h165, hf⟩ := hs_ck hf
        obtain ⟨h166, hf⟩ := hs_ck hf
        refine hs_zald hx hb hK.1 hP h165 h166 dX12_readMethod_517 ?_
        refine lv_if_eq (tgt := 587) hx hb dX12_readMethod_518 (by decide) (fun hc => ?_) (fun hc => ?_)
        · replace hf := hs_t hf hc
          exact wX12_readMethod_j587 hX (fun z0 z1 g H locs ls hf hP hS hl => ih z0 z1 g hf H locs ls hP hS hl) hex0 hf hP hS (lv_sub hl [1, 2, 3, 4, 5] rfl)
        · replace hf := hs_f hf hc
          refine lv_aload_n hx hb dX12_readMethod_521 rfl (lv_at hl 1 rfl) ?_
          obtain ⟨h167, hf⟩ := hs_ck hf
          refine hs_getr (C := RX12) (T := TX12) (N := 48) hx hb hts (fun w h => List.mem_cons_of_mem _ (inlX12 w h)) hown hK.1 hP h163 (by decide) rfl 21 (by decide) (hts _ (List.mem_cons_of_mem _ wq140)) (fun _ h => h) rfl h167 dX12_readMethod_522 ?_
          refine lv_iload hx hb dX12_readMethod_525 (lv_at hl 0 rfl) ?_
          obtain ⟨h168, hf⟩ := hs_ck hf
          obtain ⟨h169, hf⟩ := hs_ck hf
          refine hs_iald hx hb hK.1 hP h168 h169 dX12_readMethod_527 ?_
          obtain ⟨r171, g170, h172, hf⟩ := hs_bd_some hf
          refine hs_calli (va_runS (As := [.int (hs_I g ((hs_R g v0 21) - 1) (((2001 : Int32) * v1) + v9).toNatClampNeg)]) (rest := []) ⟨hx, hb, hml, hown, hts⟩ (ctX12_isJump l B D E (hs_I g ((hs_R g v0 21) - 1) (((2001 : Int32) * v1) + v9).toNatClampNeg) g _ h172) (va_cwS 1 hts (hs_gS (fun _ h => List.mem_cons_of_mem _ h) wq430 wq431 wq5 wq432) rfl rfl rfl (by decide +kernel) ⟨Nat.le_of_ble_eq_true rfl, Nat.le_of_ble_eq_true rfl⟩) (hs_pre hP hK) rfl rfl hl.1 rfl (lv_room (Nat.le_of_ble_eq_true rfl)) dX12_readMethod_528 ⟨(Nat.le_of_ble_eq_true rfl), (Nat.le_of_ble_eq_true rfl)⟩) hS (fun H locs hP hS => ?_)
          refine lv_if_eq (tgt := 587) hx hb dX12_readMethod_531 (by decide) (fun hc => ?_) (fun hc => ?_)
          · replace hf := hs_t hf hc
            exact wX12_readMethod_j587 hX (fun z0 z1 g H locs ls hf hP hS hl => ih z0 z1 g hf H locs ls hP hS hl) hex0 hf hP hS (lv_sub hl [1, 2, 3, 4, 5] rfl)
          · replace hf := hs_f hf hc
            refine lv_aload_n hx hb dX12_readMethod_534 rfl (lv_at hl 1 rfl) ?_
            refine lv_iload_n hx hb dX12_readMethod_535 rfl (lv_at hl 2 rfl) ?_
            refine lv_aload_n hx hb dX12_readMethod_536 rfl (lv_at hl 1 rfl) ?_
            obtain ⟨h173, hf⟩ := hs_ck hf
            obtain ⟨h174, hf⟩ := hs_ck hf
            refine hs_getr (C := RX12) (T := TX12) (N := 48) hx hb hts (fun w h => List.mem_cons_of_mem _ (inlX12 w h)) hown hK.1 hP h173 (by decide) rfl 21 (by decide) (hts _ (List.mem_cons_of_mem _ wq140)) (fun _ h => h) rfl h174 dX12_readMethod_537 ?_
            refine lv_iload hx hb dX12_readMethod_540 (lv_at hl 0 rfl) ?_
            obtain ⟨h175, hf⟩ := hs_ck hf
            obtain ⟨h176, hf⟩ := hs_ck hf
            refine hs_iald hx hb hK.1 hP h175 h176 dX12_readMethod_542 ?_
            refine lv_iload hx hb dX12_readMethod_543 (lv_at hl 5 rfl) ?_
            refine lv_aload_n hx hb dX12_readMethod_545 rfl (lv_at hl 1 rfl) ?_
            refine hs_getr (C := RX12) (T := TX12) (N := 48) hx hb hts (fun w h => List.mem_cons_of_mem _ (inlX12 w h)) hown hK.1 hP h173 (by decide) rfl 21 (by decide) (hts _ (List.mem_cons_of_mem _ wq140)) (fun _ h => h) rfl h174 dX12_readMethod_546 ?_
            refine lv_iload hx hb dX12_readMethod_549 (lv_at hl 0 rfl) ?_
            refine lv_iconst (v := 1) hx hb dX12_readMethod_551 (by decide) ?_
            refine lv_iadd hx hb dX12_readMethod_552 ?_
            obtain ⟨h177, hf⟩ := hs_ck hf
            refine hs_iald hx hb hK.1 hP h175 h177 dX12_readMethod_553 ?_
            refine lv_aload_n hx hb dX12_readMethod_554 rfl (lv_at hl 1 rfl) ?_
            refine hs_getr (C := RX12) (T := TX12) (N := 48) hx hb hts (fun w h => List.mem_cons_of_mem _ (inlX12 w h)) hown hK.1 hP h173 (by decide) rfl 21 (by decide) (hts _ (List.mem_cons_of_mem _ wq140)) (fun _ h => h) rfl h174 dX12_readMethod_555 ?_
            refine lv_iload hx hb dX12_readMethod_558 (lv_at hl 0 rfl) ?_
            refine lv_iconst (v := 2) hx hb dX12_readMethod_560 (by decide) ?_
            refine lv_iadd hx hb dX12_readMethod_561 ?_
            obtain ⟨h178, hf⟩ := hs_ck hf
            refine hs_iald hx hb hK.1 hP h175 h178 dX12_readMethod_562 ?_
            obtain ⟨r180, g179, h181, hf⟩ := hs_bd_some hf
            refine hs_calli (va_runS (As := [.int (hs_I g170 ((hs_R g170 v0 21) - 1) (((2001 : Int32) * v1) + v9).toNatClampNeg), .int v9, .int (hs_I g170 ((hs_R g170 v0 21) - 1) ((((2001 : Int32) * v1) + v9) + (1 : Int32)).toNatClampNeg), .int (hs_I g170 ((hs_R g170 v0 21) - 1) ((((2001 : Int32) * v1) + v9) + (2 : Int32)).toNatClampNeg)]) (rest := [.int v1, .ref (B + v0)]) ⟨hx, hb, hml, hown, hts⟩ (ctX12_target l B D E (hs_I g170 ((hs_R g170 v0 21) - 1) (((2001 : Int32) * v1) + v9).toNatClampNeg) v9 (hs_I g170 ((hs_R g170 v0 21) - 1) ((((2001 : Int32) * v1) + v9) + (1 : Int32)).toNatClampNeg) (hs_I g170 ((hs_R g170 v0 21) - 1) ((((2001 : Int32) * v1) + v9) + (2 : Int32)).toNatClampNeg) g170 _ h181) (va_cwS 4 hts (hs_gS (fun _ h => List.mem_cons_of_mem _ h) wq433 wq434 wq5 wq435) rfl rfl rfl (by decide +kernel) ⟨Nat.le_of_ble_eq_true rfl, Nat.le_of_ble_eq_true rfl⟩) (hs_pre hP hK) rfl rfl hl.1 rfl (lv_room (Nat.le_of_ble_eq_true rfl)) dX12_readMethod_563 ⟨(Nat.le_of_ble_eq_true rfl), (Nat.le_of_ble_eq_true rfl)⟩) hS (fun H locs hP hS => ?_)
            obtain ⟨h182, hf⟩ := hs_ck hf
            obtain ⟨r184, g183, h185, hf⟩ := hs_bd_some hf
            refine hs_calli (va_runV (As := [.int v1, .int r180]) (rest := []) ⟨hx, hb, hml, hown, hts⟩ (ctX12_isBegin l B D E v0 v1 r180 g179 _ h185) (cwV 2 hts (hs_gV (fun _ h => List.mem_cons_of_mem _ h) wq426 wq427 wq428 wq5 wq429) rfl rfl rfl (by decide +kernel) ⟨Nat.le_of_ble_eq_true rfl, Nat.le_of_ble_eq_true rfl⟩) (hs_preV (r := (RX12, TX12, 48)) hP hK h182 (by decide) rfl) rfl rfl hl.1 rfl (lv_room (Nat.le_of_ble_eq_true rfl)) dX12_readMethod_566 ⟨(Nat.le_of_ble_eq_true rfl), (Nat.le_of_ble_eq_true rfl)⟩) hS (fun H locs hP hS => ?_)
            refine lv_if_ne (tgt := 587) hx hb dX12_readMethod_569 (by decide) (fun hc => ?_) (fun hc => ?_)
            · replace hf := hs_f hf hc
              exact wX12_readMethod_j587 hX (fun z0 z1 g H locs ls hf hP hS hl => ih z0 z1 g hf H locs ls hP hS hl) hex0 hf hP hS (lv_sub hl [1, 2, 3, 4, 5] rfl)
            · replace hf := hs_t hf hc
              refine lv_aload_n hx hb dX12_readMethod_572 rfl (lv_at hl 1 rfl) ?_
              refine lv_aload_n hx hb dX12_readMethod_573 rfl (lv_at hl 1 rfl) ?_
              obtain ⟨h186, hf⟩ := hs_ck hf
              obtain ⟨h187, hf⟩ := hs_ck hf
              refine hs_getr (C := RX12) (T := TX12) (N := 48) hx hb hts (fun w h => List.mem_cons_of_mem _ (inlX12 w h)) hown hK.1 hP h186 (by decide) rfl 18 (by decide) (hts _ (List.mem_cons_of_mem _ wq137)) (fun _ h => h) rfl h187 dX12_readMethod_574 ?_
              refine lv_iload_n hx hb dX12_readMethod_577 rfl (lv_at hl 2 rfl) ?_
              obtain ⟨h188, hf⟩ := hs_ck hf
              obtain ⟨h189, hf⟩ := hs_ck hf
              refine hs_iald hx hb hK.1 hP h188 h189 dX12_readMethod_578 ?_
              refine lv_iload hx hb dX12_readMethod_579 (lv_at hl 5 rfl) ?_
              refine lv_iadd hx hb dX12_readMethod_581 ?_
              obtain ⟨r191, g190, h192, hf⟩ := hs_bd_some hf
              refine hs_calli (va_runV (As := [.int ((hs_I g183 ((hs_R g183 v0 18) - 1) v1.toNatClampNeg) + v9)]) (rest := []) ⟨hx, hb, hml, hown, hts⟩ (ctX12_wrong l B D E v0 ((hs_I g183 ((hs_R g183 v0 18) - 1) v1.toNatClampNeg) + v9) g183 _ h192) (cwV 1 hts (hs_gV (fun _ h => List.mem_cons_of_mem _ h) wq404 wq405 wq406 wq5 wq407) rfl rfl rfl (by decide +kernel) ⟨Nat.le_of_ble_eq_true rfl, Nat.le_of_ble_eq_true rfl⟩) (hs_preV (r := (RX12, TX12, 48)) hP hK h186 (by decide) rfl) rfl rfl hl.1 rfl (lv_room (Nat.le_of_ble_eq_true rfl)) dX12_readMethod_582 ⟨(Nat.le_of_ble_eq_true rfl), (Nat.le_of_ble_eq_true rfl)⟩) hS (fun H locs hP hS => ?_)
              refine lv_istore (lv' := [(8, .int r191), (10, .int (((2001 : Int32) * v1) + v9)), (0, .ref (B + v0)), (1, .int v1), (5, .int v5), (9, .int v9)]) hx hb dX12_readMethod_585 hl (by decide) rfl (fun ls hl => ?_)
              exact wX12_readMethod_j587 hX (fun z0 z1 g H locs ls hf hP hS hl => ih z0 z1 g hf H locs ls hP hS hl) hex0 hf hP hS (lv_sub hl [2, 3, 4, 0, 5] rfl)

set_option maxHeartbeats 4000000 in
set_option maxRecDepth 100000 in
theorem wX12_readMethod_j486 {p : Program} {l : Launch} {e : Env} {s : State} {m : MethodId} {args : Array Value} {below : List Frame} {meth : Method} {c : Code} {B : Nat} {D : va_G} {E : Nat → ClassId} (hX : hs_cx cX12_readMethod (some .int) 13 RX12 wcX12_readMethod p s m args meth c D E) {o : Int32 × hs_S}  {v0 : Nat} {v1 : Int32} {v5 : Int32} {v8 : Int32}   {g : hs_S} {H : Heap} {locs : List Loc} {ls : Array Slot} (hf : jX12_readMethod_486 v0 v1 v5 v8 g = some o) (hP : hs_P B D E g H) (hS : hs_Sx B s.heap H locs) (hl : lv_has ls 13 [(0, .ref (B + v0)), (1, .int v1), (5, .int v5), (8, .int v8)]) : W p l e rmX12_readMethod s m args below meth c H locs 0 0 (MQ below (hs_Qi B D E o) args s 0 0 (hs_F B)) (F0 m 486 ls []) := by
  obtain ⟨hx, hb, hr, hml, hown, hts, hlocks, hK⟩ := id hX
  unfold jX12_readMethod_486 at hf
  refine lv_iconst (v := 0) hx hb dX12_readMethod_486 (by decide) ?_
  refine lv_istore (lv' := [(9, .int (0 : Int32)), (0, .ref (B + v0)), (1, .int v1), (5, .int v5), (8, .int v8)]) hx hb dX12_readMethod_487 hl (by decide) rfl (fun ls hl => ?_)
  obtain ⟨x193, g195, h196, hf⟩ := hs_bd_some hf
  refine wX12_readMethod_489 hX (fun H locs ls hP hS hl => ?_) hs_N _ _ _ h196 _ _ _ hP hS (lv_sub hl [1, 2, 3, 4, 0] rfl)
  refine lv_iload hx hb dX12_readMethod_593 (lv_at hl 0 rfl) ?_
  exact hs_iret hx hb hr hlocks rfl hK hP hS hf dX12_readMethod_595

set_option maxHeartbeats 4000000 in
set_option maxRecDepth 100000 in
theorem ctX12_readMethod (l : Launch) (B : Nat) (D : va_G) (E : Nat → ClassId) (v0 : Nat) (v1 : Int32) (v2 : Int32) (g : hs_S) (o : Int32 × hs_S) (hf : fX12_readMethod v0 v1 v2 g = some o) : Met l yX12_readMethod wcX12_readMethod rmX12_readMethod (hs_Pc B D E g [.ref (B + v0), .int v1, .int v2]) (hs_Qi B D E o) (0) (0) (hs_F B) := by
  refine Met.ofW (cc := cX12_readMethod) (maxL := 13) (ret := (some .int)) (by decide) rfl ?_
  intro p e s m args below meth c s₁ Bd hml hv
  obtain ⟨rfl, hP, hK⟩ := hv
  have hx := Bd.exec
  have hb := Bd.bytes
  have hr := Bd.returns
  have hts := atoms_spec (ws := wcX12_readMethod) Bd.pre
  have hown : s.vm.findClass RX12 = some m.cls := findClass_of_methodNamed Bd.named
  have hlocks := Bd.notSynchronized
  have hS : hs_Sx B s.heap s.heap [] := va_S.rf
  have hX : hs_cx cX12_readMethod (some .int) 13 RX12 wcX12_readMethod p s m (List.toArray [.ref (B + v0), .int v1, .int v2]) meth c D E := ⟨hx, hb, hr, hml, hown, hts, hlocks, hK⟩
  have hl := lv_entry ([.ref (B + v0), .int v1, .int v2]) (n := 13) (Nat.le_of_ble_eq_true rfl)
  rw [lg_entry_eq]
  generalize (lg_sl ([.ref (B + v0), .int v1, .int v2]) ++ List.replicate (13 - (lg_sl ([.ref (B + v0), .int v1, .int v2])).length) Slot.unset).toArray = ls at hl ⊢
  have hl : lv_has ls 13 [(0, .ref (B + v0)), (1, .int v1), (2, .int v2)] := hl
  have hP : hs_P B D E g s.heap := hP
  unfold fX12_readMethod at hf
  refine lv_aload_n hx hb dX12_readMethod_0 rfl (lv_at hl 0 rfl) ?_
  obtain ⟨h1, hf⟩ := hs_ck hf
  obtain ⟨r3, g2, h4, hf⟩ := hs_bd_some hf
  refine hs_calli (va_runV (As := []) (rest := []) ⟨hx, hb, hml, hown, hts⟩ (ctX12_one l B D E v0 g _ h4) (cwV 0 hts (hs_gV (fun _ h => List.mem_cons_of_mem _ h) wq400 wq401 wq402 wq5 wq403) rfl rfl rfl (by decide +kernel) ⟨Nat.le_of_ble_eq_true rfl, Nat.le_of_ble_eq_true rfl⟩) (hs_preV (r := (RX12, TX12, 48)) hP hK h1 (by decide) rfl) rfl rfl hl.1 rfl (lv_room (Nat.le_of_ble_eq_true rfl)) dX12_readMethod_1 ⟨(Nat.le_of_ble_eq_true rfl), (Nat.le_of_ble_eq_true rfl)⟩) hS (fun H locs hP hS => ?_)
  refine lv_istore_n (lv' := [(3, .int r3), (0, .ref (B + v0)), (1, .int v1), (2, .int v2)]) hx hb dX12_readMethod_4 rfl hl (by decide) rfl (fun ls hl => ?_)
  refine lv_iload_n hx hb dX12_readMethod_5 rfl (lv_at hl 0 rfl) ?_
  refine lv_if_lt (tgt := 14) hx hb dX12_readMethod_6 (by decide) (fun hc => ?_) (fun hc => ?_)
  · replace hf := hs_t hf hc
    exact wX12_readMethod_j14 hX hf hP hS (lv_sub hl [1] rfl)
  · replace hf := hs_f hf hc
    refine lv_iload_n hx hb dX12_readMethod_9 rfl (lv_at hl 0 rfl) ?_
    refine lv_iconst (v := 4) hx hb dX12_readMethod_10 (by decide) ?_
    refine lv_icmp_le (tgt := 25) hx hb dX12_readMethod_11 (by decide) (fun hc => ?_) (fun hc => ?_)
    · replace hf := hs_t hf hc
      refine lv_aload_n hx hb dX12_readMethod_25 rfl (lv_at hl 1 rfl) ?_
      obtain ⟨h9, hf⟩ := hs_ck hf
      obtain ⟨r11, g10, h12, hf⟩ := hs_bd_some hf
      refine hs_calli (va_runV (As := []) (rest := []) ⟨hx, hb, hml, hown, hts⟩ (ctX12_one l B D E v0 g2 _ h12) (cwV 0 hts (hs_gV (fun _ h => List.mem_cons_of_mem _ h) wq400 wq401 wq402 wq5 wq403) rfl rfl rfl (by decide +kernel) ⟨Nat.le_of_ble_eq_true rfl, Nat.le_of_ble_eq_true rfl⟩) (hs_preV (r := (RX12, TX12, 48)) hP hK h9 (by decide) rfl) rfl rfl hl.1 rfl (lv_room (Nat.le_of_ble_eq_true rfl)) dX12_readMethod_26 ⟨(Nat.le_of_ble_eq_true rfl), (Nat.le_of_ble_eq_true rfl)⟩) hS (fun H locs hP hS => ?_)
      refine lv_istore (lv' := [(4, .int r11), (3, .int r3), (0, .ref (B + v0)), (1, .int v1), (2, .int v2)]) hx hb dX12_readMethod_29 hl (by decide) rfl (fun ls hl => ?_)
      refine lv_iload hx hb dX12_readMethod_31 (lv_at hl 0 rfl) ?_
      refine lv_iload_n hx hb dX12_readMethod_33 rfl (lv_at hl 1 rfl) ?_
      refine lv_icmp_lt (tgt := 44) hx hb dX12_readMethod_34 (by decide) (fun hc => ?_) (fun hc => ?_)
      · replace hf := hs_t hf hc
        exact wX12_readMethod_j44 hX hf hP hS (lv_sub hl [2] rfl)
      · replace hf := hs_f hf hc
        refine lv_iload hx hb dX12_readMethod_37 (lv_at hl 0 rfl) ?_
        refine lv_bipush (v := 20) hx hb dX12_readMethod_39 (by decide) ?_
        refine lv_icmp_le (tgt := 55) hx hb dX12_readMethod_41 (by decide) (fun hc => ?_) (fun hc => ?_)
        · replace hf := hs_t hf hc
          refine lv_aload_n hx hb dX12_readMethod_55 rfl (lv_at hl 2 rfl) ?_
          obtain ⟨h17, hf⟩ := hs_ck hf
          obtain ⟨r19, g18, h20, hf⟩ := hs_bd_some hf
          refine hs_calli (va_runV (As := []) (rest := []) ⟨hx, hb, hml, hown, hts⟩ (ctX12_two l B D E v0 g10 _ h20) (cwV 0 hts (hs_gV (fun _ h => List.mem_cons_of_mem _ h) wq412 wq413 wq414 wq5 wq415) rfl rfl rfl (by decide +kernel) ⟨Nat.le_of_ble_eq_true rfl, Nat.le_of_ble_eq_true rfl⟩) (hs_preV (r := (RX12, TX12, 48)) hP hK h17 (by decide) rfl) rfl rfl hl.1 rfl (lv_room (Nat.le_of_ble_eq_true rfl)) dX12_readMethod_56 ⟨(Nat.le_of_ble_eq_true rfl), (Nat.le_of_ble_eq_true rfl)⟩) hS (fun H locs hP hS => ?_)
          refine lv_istore (lv' := [(5, .int r19), (4, .int r11), (3, .int r3), (0, .ref (B + v0)), (1, .int v1), (2, .int v2)]) hx hb dX12_readMethod_59 hl (by decide) rfl (fun ls hl => ?_)
          refine lv_iload hx hb dX12_readMethod_61 (lv_at hl 0 rfl) ?_
          refine lv_if_ge (tgt := 75) hx hb dX12_readMethod_63 (by decide) (fun hc => ?_) (fun hc => ?_)
          · replace hf := hs_t hf hc
            refine lv_iload hx hb dX12_readMethod_75 (lv_at hl 0 rfl) ?_
            refine lv_iconst (v := 1) hx hb dX12_readMethod_77 (by decide) ?_
            refine lv_icmp_lt (tgt := 89) hx hb dX12_readMethod_78 (by decide) (fun hc => ?_) (fun hc => ?_)
            · replace hf := hs_t hf hc
              exact wX12_readMethod_j89 hX hf hP hS (lv_sub hl [3] rfl)
            · replace hf := hs_f hf hc
              refine lv_iload hx hb dX12_readMethod_81 (lv_at hl 0 rfl) ?_
              refine lv_sipush (v := 2000) hx hb dX12_readMethod_83 (by decide) ?_
              refine lv_icmp_le (tgt := 100) hx hb dX12_readMethod_86 (by decide) (fun hc => ?_) (fun hc => ?_)
              · replace hf := hs_t hf hc
                refine lv_aload_n hx hb dX12_readMethod_100 rfl (lv_at hl 3 rfl) ?_
                obtain ⟨h25, hf⟩ := hs_ck hf
                obtain ⟨h26, hf⟩ := hs_ck hf
                refine hs_getr (C := RX12) (T := TX12) (N := 48) hx hb hts (fun w h => List.mem_cons_of_mem _ (inlX12 w h)) hown hK.1 hP h25 (by decide) rfl 15 (by decide) (hts _ (List.mem_cons_of_mem _ wq134)) (fun _ h => h) rfl h26 dX12_readMethod_101 ?_
                refine lv_iload_n hx hb dX12_readMethod_104 rfl (lv_at hl 4 rfl) ?_
                refine lv_iload_n hx hb dX12_readMethod_105 rfl (lv_at hl 2 rfl) ?_
                obtain ⟨h27, hf⟩ := hs_ck hf
                obtain ⟨h28, hf⟩ := hs_ck hf
                refine hs_iast hx hb hK.1 hP hS h27 h28 dX12_readMethod_106 (fun H locs hP hS => ?_)
                refine lv_aload_n hx hb dX12_readMethod_107 rfl (lv_at hl 3 rfl) ?_
                obtain ⟨h29, hf⟩ := hs_ck hf
                refine hs_getr (C := RX12) (T := TX12) (N := 48) hx hb hts (fun w h => List.mem_cons_of_mem _ (inlX12 w h)) hown hK.1 hP h25 (by decide) rfl 16 (by decide) (hts _ (List.mem_cons_of_mem _ wq135)) (fun _ h => h) rfl h29 dX12_readMethod_108 ?_
                refine lv_iload_n hx hb dX12_readMethod_111 rfl (lv_at hl 4 rfl) ?_
                refine lv_iload hx hb dX12_readMethod_112 (lv_at hl 1 rfl) ?_
                obtain ⟨h30, hf⟩ := hs_ck hf
                obtain ⟨h31, hf⟩ := hs_ck hf
                refine hs_iast hx hb hK.1 hP hS h30 h31 dX12_readMethod_114 (fun H locs hP hS => ?_)
                obtain ⟨g32, e33, hf⟩ := hs_bv_some hf
                replace e33 := Option.some.inj e33
                rw [e33] at hP
                have h34 : hs_kd g32 v0 = 10 := by rw [← e33]; exact h25
                have h35 : hs_kd g32 ((hs_R g18 v0 15) - 1) = 100 := by rw [← e33]; exact h27
                have h36 : hs_in v1 (hs_ln g32 ((hs_R g18 v0 15) - 1)) = true := by rw [← e33]; exact h28
                have h37 : hs_kd g32 ((hs_R (hs_wI g18 ((hs_R g18 v0 15) - 1) v1.toNatClampNeg r3) v0 16) - 1) = 100 := by rw [← e33]; exact h30
                have h38 : hs_in v1 (hs_ln g32 ((hs_R (hs_wI g18 ((hs_R g18 v0 15) - 1) v1.toNatClampNeg r3) v0 16) - 1)) = true := by rw [← e33]; exact h31
                refine lv_aload_n hx hb dX12_readMethod_115 rfl (lv_at hl 3 rfl) ?_
                obtain ⟨h39, hf⟩ := hs_ck hf
                refine hs_getr (C := RX12) (T := TX12) (N := 48) hx hb hts (fun w h => List.mem_cons_of_mem _ (inlX12 w h)) hown hK.1 hP h34 (by decide) rfl 17 (by decide) (hts _ (List.mem_cons_of_mem _ wq136)) (fun _ h => h) rfl h39 dX12_readMethod_116 ?_
                refine lv_iload_n hx hb dX12_readMethod_119 rfl (lv_at hl 4 rfl) ?_
                refine lv_iload hx hb dX12_readMethod_120 (lv_at hl 0 rfl) ?_
                obtain ⟨h40, hf⟩ := hs_ck hf
                obtain ⟨h41, hf⟩ := hs_ck hf
                refine hs_iast hx hb hK.1 hP hS h40 h41 dX12_readMethod_122 (fun H locs hP hS => ?_)
                refine lv_aload_n hx hb dX12_readMethod_123 rfl (lv_at hl 3 rfl) ?_
                obtain ⟨h42, hf⟩ := hs_ck hf
                refine hs_getr (C := RX12) (T := TX12) (N := 48) hx hb hts (fun w h => List.mem_cons_of_mem _ (inlX12 w h)) hown hK.1 hP h34 (by decide) rfl 18 (by decide) (hts _ (List.mem_cons_of_mem _ wq137)) (fun _ h => h) rfl h42 dX12_readMethod_124 ?_
                refine lv_iload_n hx hb dX12_readMethod_127 rfl (lv_at hl 4 rfl) ?_
                refine lv_aload_n hx hb dX12_readMethod_128 rfl (lv_at hl 3 rfl) ?_
                refine hs_geti (C := RX12) (T := TX12) (N := 48) hx hb hts (fun w h => List.mem_cons_of_mem _ (inlX12 w h)) hown hK.1 hP h34 (by decide) rfl 33 (by decide) (hts _ (List.mem_cons_of_mem _ wq399)) (fun _ h => h) rfl dX12_readMethod_129 ?_
                obtain ⟨h43, hf⟩ := hs_ck hf
                obtain ⟨h44, hf⟩ := hs_ck hf
                refine hs_iast hx hb hK.1 hP hS h43 h44 dX12_readMethod_132 (fun H locs hP hS => ?_)
                obtain ⟨g45, e46, hf⟩ := hs_bv_some hf
                replace e46 := Option.some.inj e46
                rw [e46] at hP
                have h47 : hs_kd g45 v0 = 10 := by rw [← e46]; exact h34
                have h48 : hs_kd g45 ((hs_R g18 v0 15) - 1) = 100 := by rw [← e46]; exact h35
                have h49 : hs_in v1 (hs_ln g45 ((hs_R g18 v0 15) - 1)) = true := by rw [← e46]; exact h36
                have h50 : hs_kd g45 ((hs_R (hs_wI g18 ((hs_R g18 v0 15) - 1) v1.toNatClampNeg r3) v0 16) - 1) = 100 := by rw [← e46]; exact h37
                have h51 : hs_in v1 (hs_ln g45 ((hs_R (hs_wI g18 ((hs_R g18 v0 15) - 1) v1.toNatClampNeg r3) v0 16) - 1)) = true := by rw [← e46]; exact h38
                have h52 : hs_kd g45 ((hs_R g32 v0 17) - 1) = 100 := by rw [← e46]; exact h40
                have h53 : hs_in v1 (hs_ln g45 ((hs_R g32 v0 17) - 1)) = true := by rw [← e46]; exact h41
                have h54 : hs_kd g45 ((hs_R (hs_wI g32 ((hs_R g32 v0 17) - 1) v1.toNatClampNeg r19) v0 18) - 1) = 100 := by rw [← e46]; exact h43
                have h55 : hs_in v1 (hs_ln g45 ((hs_R (hs_wI g32 ((hs_R g32 v0 17) - 1) v1.toNatClampNeg r19) v0 18) - 1)) = true := by rw [← e46]; exact h44
                refine lv_aload_n hx hb dX12_readMethod_133 rfl (lv_at hl 3 rfl) ?_
                refine hs_geti (C := RX12) (T := TX12) (N := 48) hx hb hts (fun w h => List.mem_cons_of_mem _ (inlX12 w h)) hown hK.1 hP h47 (by decide) rfl 33 (by decide) (hts _ (List.mem_cons_of_mem _ wq399)) (fun _ h => h) rfl dX12_readMethod_134 ?_
                refine lv_iload hx hb dX12_readMethod_137 (lv_at hl 0 rfl) ?_
                refine lv_iadd hx hb dX12_readMethod_139 ?_
                refine lv_aload_n hx hb dX12_readMethod_140 rfl (lv_at hl 3 rfl) ?_
                refine hs_geti (C := RX12) (T := TX12) (N := 48) hx hb hts (fun w h => List.mem_cons_of_mem _ (inlX12 w h)) hown hK.1 hP h47 (by decide) rfl 2 (by decide) (hts _ (List.mem_cons_of_mem _ wq176)) (fun _ h => h) rfl dX12_readMethod_141 ?_
                refine lv_icmp_le (tgt := 156) hx hb dX12_readMethod_144 (by decide) (fun hc => ?_) (fun hc => ?_)
                · replace hf := hs_t hf hc
                  refine lv_iconst (v := 0) hx hb dX12_readMethod_156 (by decide) ?_
                  refine lv_istore (lv' := [(6, .int (0 : Int32)), (5, .int r19), (4, .int r11), (3, .int r3), (0, .ref (B + v0)), (1, .int v1), (2, .int v2)]) hx hb dX12_readMethod_157 hl (by decide) rfl (fun ls hl => ?_)
                  obtain ⟨g64, h65, hf⟩ := hs_bv_some hf
                  refine wX12_readMethod_159 hX (fun H locs ls hP hS hl => ?_) hs_N _ _ h65 _ _ _ hP hS (lv_sub hl [4, 5, 6, 1, 0] rfl)
                  refine lv_aload_n hx hb dX12_readMethod_189 rfl (lv_at hl 0 rfl) ?_
                  obtain ⟨h66, hf⟩ := hs_ck hf
                  obtain ⟨r68, g67, h69, hf⟩ := hs_bd_some hf
                  refine hs_calli (va_runV (As := []) (rest := []) ⟨hx, hb, hml, hown, hts⟩ (ctX12_one l B D E v0 g64 _ h69) (cwV 0 hts (hs_gV (fun _ h => List.mem_cons_of_mem _ h) wq400 wq401 wq402 wq5 wq403) rfl rfl rfl (by decide +kernel) ⟨Nat.le_of_ble_eq_true rfl, Nat.le_of_ble_eq_true rfl⟩) (hs_preV (r := (RX12, TX12, 48)) hP hK h66 (by decide) rfl) rfl rfl hl.1 rfl (lv_room (Nat.le_of_ble_eq_true rfl)) dX12_readMethod_190 ⟨(Nat.le_of_ble_eq_true rfl), (Nat.le_of_ble_eq_true rfl)⟩) hS (fun H locs hP hS => ?_)
                  refine lv_istore (lv' := [(6, .int r68), (0, .ref (B + v0)), (1, .int v1), (2, .int v2), (5, .int r19)]) hx hb dX12_readMethod_193 hl (by decide) rfl (fun ls hl => ?_)
                  refine lv_iload hx hb dX12_readMethod_195 (lv_at hl 0 rfl) ?_
                  refine lv_if_lt (tgt := 207) hx hb dX12_readMethod_197 (by decide) (fun hc => ?_) (fun hc => ?_)
                  · replace hf := hs_t hf hc
                    exact wX12_readMethod_j207 hX hf hP hS (lv_sub hl [1] rfl)
                  · replace hf := hs_f hf hc
                    refine lv_iload hx hb dX12_readMethod_200 (lv_at hl 0 rfl) ?_
                    refine lv_bipush (v := 8) hx hb dX12_readMethod_202 (by decide) ?_
                    refine lv_icmp_le (tgt := 218) hx hb dX12_readMethod_204 (by decide) (fun hc => ?_) (fun hc => ?_)
                    · replace hf := hs_t hf hc
                      refine lv_aload_n hx hb dX12_readMethod_218 rfl (lv_at hl 1 rfl) ?_
                      obtain ⟨h74, hf⟩ := hs_ck hf
                      obtain ⟨h75, hf⟩ := hs_ck hf
                      refine hs_getr (C := RX12) (T := TX12) (N := 48) hx hb hts (fun w h => List.mem_cons_of_mem _ (inlX12 w h)) hown hK.1 hP h74 (by decide) rfl 19 (by decide) (hts _ (List.mem_cons_of_mem _ wq138)) (fun _ h => h) rfl h75 dX12_readMethod_219 ?_
                      refine lv_iload_n hx hb dX12_readMethod_222 rfl (lv_at hl 2 rfl) ?_
                      refine lv_iload hx hb dX12_readMethod_223 (lv_at hl 0 rfl) ?_
                      obtain ⟨h76, hf⟩ := hs_ck hf
                      obtain ⟨h77, hf⟩ := hs_ck hf
                      refine hs_iast hx hb hK.1 hP hS h76 h77 dX12_readMethod_225 (fun H locs hP hS => ?_)
                      refine lv_aload_n hx hb dX12_readMethod_226 rfl (lv_at hl 1 rfl) ?_
                      refine hs_geti (C := RX12) (T := TX12) (N := 48) hx hb hts (fun w h => List.mem_cons_of_mem _ (inlX12 w h)) hown hK.1 hP h74 (by decide) rfl 33 (by decide) (hts _ (List.mem_cons_of_mem _ wq399)) (fun _ h => h) rfl dX12_readMethod_227 ?_
                      refine lv_istore (lv' := [(7, .int (hs_I (hs_wI g67 ((hs_R g67 v0 19) - 1) v1.toNatClampNeg r68) v0 33)), (6, .int r68), (0, .ref (B + v0)), (1, .int v1), (2, .int v2), (5, .int r19)]) hx hb dX12_readMethod_230 hl (by decide) rfl (fun ls hl => ?_)
                      refine lv_aload_n hx hb dX12_readMethod_232 rfl (lv_at hl 2 rfl) ?_
                      refine hs_geti (C := RX12) (T := TX12) (N := 48) hx hb hts (fun w h => List.mem_cons_of_mem _ (inlX12 w h)) hown hK.1 hP h74 (by decide) rfl 33 (by decide) (hts _ (List.mem_cons_of_mem _ wq399)) (fun _ h => h) rfl dX12_readMethod_233 ?_
                      refine lv_bipush (v := 7) hx hb dX12_readMethod_236 (by decide) ?_
                      refine lv_iload hx hb dX12_readMethod_238 (lv_at hl 1 rfl) ?_
                      refine lv_imul hx hb dX12_readMethod_240 ?_
                      refine lv_iadd hx hb dX12_readMethod_241 ?_
                      refine lv_aload_n hx hb dX12_readMethod_242 rfl (lv_at hl 2 rfl) ?_
                      refine hs_geti (C := RX12) (T := TX12) (N := 48) hx hb hts (fun w h => List.mem_cons_of_mem _ (inlX12 w h)) hown hK.1 hP h74 (by decide) rfl 2 (by decide) (hts _ (List.mem_cons_of_mem _ wq176)) (fun _ h => h) rfl dX12_readMethod_243 ?_
                      refine lv_icmp_le (tgt := 258) hx hb dX12_readMethod_246 (by decide) (fun hc => ?_) (fun hc => ?_)
                      · replace hf := hs_t hf hc
                        refine lv_iconst (v := 0) hx hb dX12_readMethod_258 (by decide) ?_
                        refine lv_istore (lv' := [(8, .int (0 : Int32)), (7, .int (hs_I (hs_wI g67 ((hs_R g67 v0 19) - 1) v1.toNatClampNeg r68) v0 33)), (6, .int r68), (0, .ref (B + v0)), (1, .int v1), (2, .int v2), (5, .int r19)]) hx hb dX12_readMethod_259 hl (by decide) rfl (fun ls hl => ?_)
                        obtain ⟨g123, h124, hf⟩ := hs_bv_some hf
                        refine wX12_readMethod_261 hX (fun H locs ls hP hS hl => ?_) hs_N _ _ h124 _ _ _ hP hS (lv_sub hl [3, 4, 5, 6, 2, 1, 0] rfl)
                        refine lv_aload_n hx hb dX12_readMethod_335 rfl (lv_at hl 0 rfl) ?_
                        refine lv_iload_n hx hb dX12_readMethod_336 rfl (lv_at hl 1 rfl) ?_
                        refine lv_iload_n hx hb dX12_readMethod_337 rfl (lv_at hl 2 rfl) ?_
                        obtain ⟨h125, hf⟩ := hs_ck hf
                        obtain ⟨r127, g126, h128, hf⟩ := hs_bd_some hf
                        refine hs_calli (va_runV (As := [.int v1, .int v2]) (rest := []) ⟨hx, hb, hml, hown, hts⟩ (ctX12_instructions l B D E v0 v1 v2 g123 _ h128) (cwV 2 hts (hs_gV (fun _ h => List.mem_cons_of_mem _ h) wq416 wq417 wq418 wq5 wq419) rfl rfl rfl (by decide +kernel) ⟨Nat.le_of_ble_eq_true rfl, Nat.le_of_ble_eq_true rfl⟩) (hs_preV (r := (RX12, TX12, 48)) hP hK h125 (by decide) rfl) rfl rfl hl.1 rfl (lv_room (Nat.le_of_ble_eq_true rfl)) dX12_readMethod_338 ⟨(Nat.le_of_ble_eq_true rfl), (Nat.le_of_ble_eq_true rfl)⟩) hS (fun H locs hP hS => ?_)
                        refine lv_istore (lv' := [(8, .int r127), (0, .ref (B + v0)), (1, .int v1), (2, .int v2), (5, .int r19), (6, .int r68), (7, .int (hs_I (hs_wI g67 ((hs_R g67 v0 19) - 1) v1.toNatClampNeg r68) v0 33))]) hx hb dX12_readMethod_341 hl (by decide) rfl (fun ls hl => ?_)
                        refine lv_iconst (v := 0) hx hb dX12_readMethod_343 (by decide) ?_
                        refine lv_istore (lv' := [(9, .int (0 : Int32)), (8, .int r127), (0, .ref (B + v0)), (1, .int v1), (2, .int v2), (5, .int r19), (6, .int r68), (7, .int (hs_I (hs_wI g67 ((hs_R g67 v0 19) - 1) v1.toNatClampNeg r68) v0 33))]) hx hb dX12_readMethod_344 hl (by decide) rfl (fun ls hl => ?_)
                        obtain ⟨x159, g161, h162, hf⟩ := hs_bd_some hf
                        refine wX12_readMethod_346 hX (fun H locs ls hP hS hl => ?_) hs_N _ _ _ h162 _ _ _ hP hS (lv_sub hl [2, 3, 5, 6, 7, 1, 0] rfl)
                        exact wX12_readMethod_j486 hX hf hP hS (lv_sub hl [0, 1, 2, 3] rfl)
                      · replace hf := hs_f hf hc
                        refine lv_aload_n hx hb dX12_readMethod_249 rfl (lv_at hl 2 rfl) ?_
                        refine lv_aload_n hx hb dX12_readMethod_250 rfl (lv_at hl 2 rfl) ?_
                        refine hs_geti (C := RX12) (T := TX12) (N := 48) hx hb hts (fun w h => List.mem_cons_of_mem _ (inlX12 w h)) hown hK.1 hP h74 (by decide) rfl 2 (by decide) (hts _ (List.mem_cons_of_mem _ wq176)) (fun _ h => h) rfl dX12_readMethod_251 ?_
                        obtain ⟨r198, g197, h199, hf⟩ := hs_bd_some hf
                        refine hs_calli (va_runV (As := [.int (hs_I (hs_wI g67 ((hs_R g67 v0 19) - 1) v1.toNatClampNeg r68) v0 2)]) (rest := []) ⟨hx, hb, hml, hown, hts⟩ (ctX12_wrong l B D E v0 (hs_I (hs_wI g67 ((hs_R g67 v0 19) - 1) v1.toNatClampNeg r68) v0 2) (hs_wI g67 ((hs_R g67 v0 19) - 1) v1.toNatClampNeg r68) _ h199) (cwV 1 hts (hs_gV (fun _ h => List.mem_cons_of_mem _ h) wq404 wq405 wq406 wq5 wq407) rfl rfl rfl (by decide +kernel) ⟨Nat.le_of_ble_eq_true rfl, Nat.le_of_ble_eq_true rfl⟩) (hs_preV (r := (RX12, TX12, 48)) hP hK h74 (by decide) rfl) rfl rfl hl.1 rfl (lv_room (Nat.le_of_ble_eq_true rfl)) dX12_readMethod_254 ⟨(Nat.le_of_ble_eq_true rfl), (Nat.le_of_ble_eq_true rfl)⟩) hS (fun H locs hP hS => ?_)
                        exact hs_iret hx hb hr hlocks rfl hK hP hS hf dX12_readMethod_257
                    · replace hf := hs_f hf hc
                      exact wX12_readMethod_j207 hX hf hP hS (lv_sub hl [1] rfl)
                · replace hf := hs_f hf hc
                  refine lv_aload_n hx hb dX12_readMethod_147 rfl (lv_at hl 3 rfl) ?_
                  refine lv_aload_n hx hb dX12_readMethod_148 rfl (lv_at hl 3 rfl) ?_
                  refine hs_geti (C := RX12) (T := TX12) (N := 48) hx hb hts (fun w h => List.mem_cons_of_mem _ (inlX12 w h)) hown hK.1 hP h47 (by decide) rfl 2 (by decide) (hts _ (List.mem_cons_of_mem _ wq176)) (fun _ h => h) rfl dX12_readMethod_149 ?_
                  obtain ⟨r201, g200, h202, hf⟩ := hs_bd_some hf
                  refine hs_calli (va_runV (As := [.int (hs_I g45 v0 2)]) (rest := []) ⟨hx, hb, hml, hown, hts⟩ (ctX12_wrong l B D E v0 (hs_I g45 v0 2) g45 _ h202) (cwV 1 hts (hs_gV (fun _ h => List.mem_cons_of_mem _ h) wq404 wq405 wq406 wq5 wq407) rfl rfl rfl (by decide +kernel) ⟨Nat.le_of_ble_eq_true rfl, Nat.le_of_ble_eq_true rfl⟩) (hs_preV (r := (RX12, TX12, 48)) hP hK h47 (by decide) rfl) rfl rfl hl.1 rfl (lv_room (Nat.le_of_ble_eq_true rfl)) dX12_readMethod_152 ⟨(Nat.le_of_ble_eq_true rfl), (Nat.le_of_ble_eq_true rfl)⟩) hS (fun H locs hP hS => ?_)
                  exact hs_iret hx hb hr hlocks rfl hK hP hS hf dX12_readMethod_155
              · replace hf := hs_f hf hc
                exact wX12_readMethod_j89 hX hf hP hS (lv_sub hl [3] rfl)
          · replace hf := hs_f hf hc
            refine lv_aload_n hx hb dX12_readMethod_66 rfl (lv_at hl 3 rfl) ?_
            refine lv_aload_n hx hb dX12_readMethod_67 rfl (lv_at hl 3 rfl) ?_
            obtain ⟨h203, hf⟩ := hs_ck hf
            refine hs_geti (C := RX12) (T := TX12) (N := 48) hx hb hts (fun w h => List.mem_cons_of_mem _ (inlX12 w h)) hown hK.1 hP h203 (by decide) rfl 2 (by decide) (hts _ (List.mem_cons_of_mem _ wq176)) (fun _ h => h) rfl dX12_readMethod_68 ?_
            obtain ⟨r205, g204, h206, hf⟩ := hs_bd_some hf
            refine hs_calli (va_runV (As := [.int (hs_I g18 v0 2)]) (rest := []) ⟨hx, hb, hml, hown, hts⟩ (ctX12_wrong l B D E v0 (hs_I g18 v0 2) g18 _ h206) (cwV 1 hts (hs_gV (fun _ h => List.mem_cons_of_mem _ h) wq404 wq405 wq406 wq5 wq407) rfl rfl rfl (by decide +kernel) ⟨Nat.le_of_ble_eq_true rfl, Nat.le_of_ble_eq_true rfl⟩) (hs_preV (r := (RX12, TX12, 48)) hP hK h203 (by decide) rfl) rfl rfl hl.1 rfl (lv_room (Nat.le_of_ble_eq_true rfl)) dX12_readMethod_71 ⟨(Nat.le_of_ble_eq_true rfl), (Nat.le_of_ble_eq_true rfl)⟩) hS (fun H locs hP hS => ?_)
            exact hs_iret hx hb hr hlocks rfl hK hP hS hf dX12_readMethod_74
        · replace hf := hs_f hf hc
          exact wX12_readMethod_j44 hX hf hP hS (lv_sub hl [2] rfl)
    · replace hf := hs_f hf hc
      exact wX12_readMethod_j14 hX hf hP hS (lv_sub hl [1] rfl)

theorem dX12_takes_0 : decode cX12_takes 0 = .ok (.iload_n 1, 1) := by decide +kernel
theorem dX12_takes_1 : decode cX12_takes 1 = .ok (.sipush 184, 3) := by decide +kernel
theorem dX12_takes_4 : decode cX12_takes 4 = .ok (.if_icmp .ne 10, 3) := by decide +kernel
theorem dX12_takes_7 : decode cX12_takes 7 = .ok (.aload_n 0, 1) := by decide +kernel
theorem dX12_takes_8 : decode cX12_takes 8 = .ok (.getfield 48, 3) := by decide +kernel
theorem dX12_takes_11 : decode cX12_takes 11 = .ok (.iload_n 2, 1) := by decide +kernel
theorem dX12_takes_12 : decode cX12_takes 12 = .ok (.iaload, 1) := by decide +kernel
theorem dX12_takes_13 : decode cX12_takes 13 = .ok (.ireturn, 1) := by decide +kernel
theorem dX12_takes_14 : decode cX12_takes 14 = .ok (.iload_n 1, 1) := by decide +kernel
theorem dX12_takes_15 : decode cX12_takes 15 = .ok (.bipush 54, 2) := by decide +kernel
theorem dX12_takes_17 : decode cX12_takes 17 = .ok (.if_icmp .eq 55, 3) := by decide +kernel
theorem dX12_takes_20 : decode cX12_takes 20 = .ok (.iload_n 1, 1) := by decide +kernel
theorem dX12_takes_21 : decode cX12_takes 21 = .ok (.bipush 87, 2) := by decide +kernel
theorem dX12_takes_23 : decode cX12_takes 23 = .ok (.if_icmp .eq 49, 3) := by decide +kernel
theorem dX12_takes_26 : decode cX12_takes 26 = .ok (.iload_n 1, 1) := by decide +kernel
theorem dX12_takes_27 : decode cX12_takes 27 = .ok (.bipush 89, 2) := by decide +kernel
theorem dX12_takes_29 : decode cX12_takes 29 = .ok (.if_icmp .eq 43, 3) := by decide +kernel
theorem dX12_takes_32 : decode cX12_takes 32 = .ok (.iload_n 1, 1) := by decide +kernel
theorem dX12_takes_33 : decode cX12_takes 33 = .ok (.bipush 116, 2) := by decide +kernel
theorem dX12_takes_35 : decode cX12_takes 35 = .ok (.if_icmp .eq 37, 3) := by decide +kernel
theorem dX12_takes_38 : decode cX12_takes 38 = .ok (.iload_n 1, 1) := by decide +kernel
theorem dX12_takes_39 : decode cX12_takes 39 = .ok (.sipush 172, 3) := by decide +kernel
theorem dX12_takes_42 : decode cX12_takes 42 = .ok (.if_icmp .eq 30, 3) := by decide +kernel
theorem dX12_takes_45 : decode cX12_takes 45 = .ok (.iload_n 1, 1) := by decide +kernel
theorem dX12_takes_46 : decode cX12_takes 46 = .ok (.sipush 188, 3) := by decide +kernel
theorem dX12_takes_49 : decode cX12_takes 49 = .ok (.if_icmp .eq 23, 3) := by decide +kernel
theorem dX12_takes_52 : decode cX12_takes 52 = .ok (.iload_n 1, 1) := by decide +kernel
theorem dX12_takes_53 : decode cX12_takes 53 = .ok (.bipush 46, 2) := by decide +kernel
theorem dX12_takes_55 : decode cX12_takes 55 = .ok (.if_icmp .eq 17, 3) := by decide +kernel
theorem dX12_takes_58 : decode cX12_takes 58 = .ok (.iload_n 1, 1) := by decide +kernel
theorem dX12_takes_59 : decode cX12_takes 59 = .ok (.sipush 153, 3) := by decide +kernel
theorem dX12_takes_62 : decode cX12_takes 62 = .ok (.if_icmp .lt 12, 3) := by decide +kernel
theorem dX12_takes_65 : decode cX12_takes 65 = .ok (.iload_n 1, 1) := by decide +kernel
theorem dX12_takes_66 : decode cX12_takes 66 = .ok (.sipush 158, 3) := by decide +kernel
theorem dX12_takes_69 : decode cX12_takes 69 = .ok (.if_icmp .gt 5, 3) := by decide +kernel
theorem dX12_takes_72 : decode cX12_takes 72 = .ok (.iconst 1, 1) := by decide +kernel
theorem dX12_takes_73 : decode cX12_takes 73 = .ok (.ireturn, 1) := by decide +kernel
theorem dX12_takes_74 : decode cX12_takes 74 = .ok (.iload_n 1, 1) := by decide +kernel
theorem dX12_takes_75 : decode cX12_takes 75 = .ok (.bipush 79, 2) := by decide +kernel
theorem dX12_takes_77 : decode cX12_takes 77 = .ok (.if_icmp .eq 53, 3) := by decide +kernel
theorem dX12_takes_80 : decode cX12_takes 80 = .ok (.iload_n 1, 1) := by decide +kernel
theorem dX12_takes_81 : decode cX12_takes 81 = .ok (.bipush 96, 2) := by decide +kernel
theorem dX12_takes_83 : decode cX12_takes 83 = .ok (.if_icmp .eq 47, 3) := by decide +kernel
theorem dX12_takes_86 : decode cX12_takes 86 = .ok (.iload_n 1, 1) := by decide +kernel
theorem dX12_takes_87 : decode cX12_takes 87 = .ok (.bipush 100, 2) := by decide +kernel
theorem dX12_takes_89 : decode cX12_takes 89 = .ok (.if_icmp .eq 41, 3) := by decide +kernel
theorem dX12_takes_92 : decode cX12_takes 92 = .ok (.iload_n 1, 1) := by decide +kernel
theorem dX12_takes_93 : decode cX12_takes 93 = .ok (.bipush 104, 2) := by decide +kernel
theorem dX12_takes_95 : decode cX12_takes 95 = .ok (.if_icmp .eq 35, 3) := by decide +kernel
theorem dX12_takes_98 : decode cX12_takes 98 = .ok (.iload_n 1, 1) := by decide +kernel
theorem dX12_takes_99 : decode cX12_takes 99 = .ok (.bipush 108, 2) := by decide +kernel
theorem dX12_takes_101 : decode cX12_takes 101 = .ok (.if_icmp .eq 29, 3) := by decide +kernel
theorem dX12_takes_104 : decode cX12_takes 104 = .ok (.iload_n 1, 1) := by decide +kernel
theorem dX12_takes_105 : decode cX12_takes 105 = .ok (.bipush 112, 2) := by decide +kernel
theorem dX12_takes_107 : decode cX12_takes 107 = .ok (.if_icmp .eq 23, 3) := by decide +kernel
theorem dX12_takes_110 : decode cX12_takes 110 = .ok (.iload_n 1, 1) := by decide +kernel
theorem dX12_takes_111 : decode cX12_takes 111 = .ok (.bipush 126, 2) := by decide +kernel
theorem dX12_takes_113 : decode cX12_takes 113 = .ok (.if_icmp .eq 17, 3) := by decide +kernel
theorem dX12_takes_116 : decode cX12_takes 116 = .ok (.iload_n 1, 1) := by decide +kernel
theorem dX12_takes_117 : decode cX12_takes 117 = .ok (.sipush 128, 3) := by decide +kernel
theorem dX12_takes_120 : decode cX12_takes 120 = .ok (.if_icmp .eq 10, 3) := by decide +kernel
theorem dX12_takes_123 : decode cX12_takes 123 = .ok (.iload_n 1, 1) := by decide +kernel
theorem dX12_takes_124 : decode cX12_takes 124 = .ok (.sipush 130, 3) := by decide +kernel
theorem dX12_takes_127 : decode cX12_takes 127 = .ok (.if_icmp .ne 7, 3) := by decide +kernel
theorem dX12_takes_130 : decode cX12_takes 130 = .ok (.iconst 2, 1) := by decide +kernel
theorem dX12_takes_131 : decode cX12_takes 131 = .ok (.goto 4, 3) := by decide +kernel
theorem dX12_takes_134 : decode cX12_takes 134 = .ok (.iconst 0, 1) := by decide +kernel
theorem dX12_takes_135 : decode cX12_takes 135 = .ok (.ireturn, 1) := by decide +kernel
abbrev wcX12_takes : List Cond := .code yX12_takes cX12_takes 3 (some .int) :: wsL_law
def jX12_takes_130  (g : hs_S) : Option (Int32 × hs_S) :=
  some ((2 : Int32), g)
def jX12_takes_74 (v1 : Int32) (g : hs_S) : Option (Int32 × hs_S) :=
  if v1 = (79 : Int32) then (
    jX12_takes_130 g
  ) else (
    if v1 = (96 : Int32) then (
      jX12_takes_130 g
    ) else (
      if v1 = (100 : Int32) then (
        jX12_takes_130 g
      ) else (
        if v1 = (104 : Int32) then (
          jX12_takes_130 g
        ) else (
          if v1 = (108 : Int32) then (
            jX12_takes_130 g
          ) else (
            if v1 = (112 : Int32) then (
              jX12_takes_130 g
            ) else (
              if v1 = (126 : Int32) then (
                jX12_takes_130 g
              ) else (
                if v1 = (128 : Int32) then (
                  jX12_takes_130 g
                ) else (
                  if v1 = (130 : Int32) then (
                    jX12_takes_130 g
                  ) else (
                    some ((0 : Int32), g)
                  )
                )
              )
            )
          )
        )
      )
    )
  )
def fX12_takes (v0 : Nat) (v1 : Int32) (v2 : Int32) (g : hs_S) : Option (Int32 × hs_S) :=
  if v1 = (184 : Int32) then (
    if hs_kd g v0 = 10 then
    if ¬ (hs_R g v0 15) = 0 then
    if hs_kd g ((hs_R g v0 15) - 1) = 100 then
    if hs_in v2 (hs_ln g ((hs_R g v0 15) - 1)) = true then
    some ((hs_I g ((hs_R g v0 15) - 1) v2.toNatClampNeg), g)
    else none else none else none else none
  ) else (
    if v1 = (54 : Int32) then (
      some ((1 : Int32), g)
    ) else (
      if v1 = (87 : Int32) then (
        some ((1 : Int32), g)
      ) else (
        if v1 = (89 : Int32) then (
          some ((1 : Int32), g)
        ) else (
          if v1 = (116 : Int32) then (
            some ((1 : Int32), g)
          ) else (
            if v1 = (172 : Int32) then (
              some ((1 : Int32), g)
            ) else (
              if v1 = (188 : Int32) then (
                some ((1 : Int32), g)
              ) else (
                if v1 = (46 : Int32) then (
                  some ((1 : Int32), g)
                ) else (
                  if v1 < (153 : Int32) then (
                    jX12_takes_74 v1 g
                  ) else (
                    if (158 : Int32) < v1 then (
                      jX12_takes_74 v1 g
                    ) else (
                      some ((1 : Int32), g)
                    )
                  )
                )
              )
            )
          )
        )
      )
    )
  )
abbrev rmX12_takes : Room := { frames := 0, cells := 0, slots := 0, locals := 0 }
set_option maxHeartbeats 4000000 in
set_option maxRecDepth 100000 in
theorem wX12_takes_j130 {p : Program} {l : Launch} {e : Env} {s : State} {m : MethodId} {args : Array Value} {below : List Frame} {meth : Method} {c : Code} {B : Nat} {D : va_G} {E : Nat → ClassId} (hX : hs_cx cX12_takes (some .int) 3 RX12 wcX12_takes p s m args meth c D E) {o : Int32 × hs_S}     {g : hs_S} {H : Heap} {locs : List Loc} {ls : Array Slot} (hf : jX12_takes_130  g = some o) (hP : hs_P B D E g H) (hS : hs_Sx B s.heap H locs) (hl : lv_has ls 3 []) : W p l e rmX12_takes s m args below meth c H locs 0 0 (MQ below (hs_Qi B D E o) args s 0 0 (hs_F B)) (F0 m 130 ls []) := by
  obtain ⟨hx, hb, hr, hml, hown, hts, hlocks, hK⟩ := id hX
  unfold jX12_takes_130 at hf
  refine lv_iconst (v := 2) hx hb dX12_takes_130 (by decide) ?_
  refine lv_goto (tgt := 135) hx hb dX12_takes_131 (by decide) ?_
  exact hs_iret hx hb hr hlocks rfl hK hP hS hf dX12_takes_135

set_option maxHeartbeats 4000000 in
set_option maxRecDepth 100000 in
theorem wX12_takes_j74 {p : Program} {l : Launch} {e : Env} {s : State} {m : MethodId} {args : Array Value} {below : List Frame} {meth : Method} {c : Code} {B : Nat} {D : va_G} {E : Nat → ClassId} (hX : hs_cx cX12_takes (some .int) 3 RX12 wcX12_takes p s m args meth c D E) {o : Int32 × hs_S}  {v1 : Int32}   {g : hs_S} {H : Heap} {locs : List Loc} {ls : Array Slot} (hf : jX12_takes_74 v1 g = some o) (hP : hs_P B D E g H) (hS : hs_Sx B s.heap H locs) (hl : lv_has ls 3 [(1, .int v1)]) : W p l e rmX12_takes s m args below meth c H locs 0 0 (MQ below (hs_Qi B D E o) args s 0 0 (hs_F B)) (F0 m 74 ls []) := by
  obtain ⟨hx, hb, hr, hml, hown, hts, hlocks, hK⟩ := id hX
  unfold jX12_takes_74 at hf
  refine lv_iload_n hx hb dX12_takes_74 rfl (lv_at hl 0 rfl) ?_
  refine lv_bipush (v := 79) hx hb dX12_takes_75 (by decide) ?_
  refine lv_icmp_eq (tgt := 130) hx hb dX12_takes_77 (by decide) (fun hc => ?_) (fun hc => ?_)
  · replace hf := hs_t hf hc
    exact wX12_takes_j130 hX hf hP hS (lv_sub hl [] rfl)
  · replace hf := hs_f hf hc
    refine lv_iload_n hx hb dX12_takes_80 rfl (lv_at hl 0 rfl) ?_
    refine lv_bipush (v := 96) hx hb dX12_takes_81 (by decide) ?_
    refine lv_icmp_eq (tgt := 130) hx hb dX12_takes_83 (by decide) (fun hc => ?_) (fun hc => ?_)
    · replace hf := hs_t hf hc
      exact wX12_takes_j130 hX hf hP hS (lv_sub hl [] rfl)
    · replace hf := hs_f hf hc
      refine lv_iload_n hx hb dX12_takes_86 rfl (lv_at hl 0 rfl) ?_
      refine lv_bipush (v := 100) hx hb dX12_takes_87 (by decide) ?_
      refine lv_icmp_eq (tgt := 130) hx hb dX12_takes_89 (by decide) (fun hc => ?_) (fun hc => ?_)
      · replace hf := hs_t hf hc
        exact wX12_takes_j130 hX hf hP hS (lv_sub hl [] rfl)
      · replace hf := hs_f hf hc
        refine lv_iload_n hx hb dX12_takes_92 rfl (lv_at hl 0 rfl) ?_
        refine lv_bipush (v := 104) hx hb dX12_takes_93 (by decide) ?_
        refine lv_icmp_eq (tgt := 130) hx hb dX12_takes_95 (by decide) (fun hc => ?_) (fun hc => ?_)
        · replace hf := hs_t hf hc
          exact wX12_takes_j130 hX hf hP hS (lv_sub hl [] rfl)
        · replace hf := hs_f hf hc
          refine lv_iload_n hx hb dX12_takes_98 rfl (lv_at hl 0 rfl) ?_
          refine lv_bipush (v := 108) hx hb dX12_takes_99 (by decide) ?_
          refine lv_icmp_eq (tgt := 130) hx hb dX12_takes_101 (by decide) (fun hc => ?_) (fun hc => ?_)
          · replace hf := hs_t hf hc
            exact wX12_takes_j130 hX hf hP hS (lv_sub hl [] rfl)
          · replace hf := hs_f hf hc
            refine lv_iload_n hx hb dX12_takes_104 rfl (lv_at hl 0 rfl) ?_
            refine lv_bipush (v := 112) hx hb dX12_takes_105 (by decide) ?_
            refine lv_icmp_eq (tgt := 130) hx hb dX12_takes_107 (by decide) (fun hc => ?_) (fun hc => ?_)
            · replace hf := hs_t hf hc
              exact wX12_takes_j130 hX hf hP hS (lv_sub hl [] rfl)
            · replace hf := hs_f hf hc
              refine lv_iload_n hx hb dX12_takes_110 rfl (lv_at hl 0 rfl) ?_
              refine lv_bipush (v := 126) hx hb dX12_takes_111 (by decide) ?_
              refine lv_icmp_eq (tgt := 130) hx hb dX12_takes_113 (by decide) (fun hc => ?_) (fun hc => ?_)
              · replace hf := hs_t hf hc
                exact wX12_takes_j130 hX hf hP hS (lv_sub hl [] rfl)
              · replace hf := hs_f hf hc
                refine lv_iload_n hx hb dX12_takes_116 rfl (lv_at hl 0 rfl) ?_
                refine lv_sipush (v := 128) hx hb dX12_takes_117 (by decide) ?_
                refine lv_icmp_eq (tgt := 130) hx hb dX12_takes_120 (by decide) (fun hc => ?_) (fun hc => ?_)
                · replace hf := hs_t hf hc
                  exact wX12_takes_j130 hX hf hP hS (lv_sub hl [] rfl)
                · replace hf := hs_f hf hc
                  refine lv_iload_n hx hb dX12_takes_123 rfl (lv_at hl 0 rfl) ?_
                  refine lv_sipush (v := 130) hx hb dX12_takes_124 (by decide) ?_
                  refine lv_icmp_ne (tgt := 134) hx hb dX12_takes_127 (by decide) (fun hc => ?_) (fun hc => ?_)
                  · replace hf := hs_f hf hc
                    refine lv_iconst (v := 0) hx hb dX12_takes_134 (by decide) ?_
                    exact hs_iret hx hb hr hlocks rfl hK hP hS hf dX12_takes_135
                  · replace hf := hs_t hf hc
                    exact wX12_takes_j130 hX hf hP hS (lv_sub hl [] rfl)

set_option maxHeartbeats 4000000 in
set_option maxRecDepth 100000 in
theorem ctX12_takes (l : Launch) (B : Nat) (D : va_G) (E : Nat → ClassId) (v0 : Nat) (v1 : Int32) (v2 : Int32) (g : hs_S) (o : Int32 × hs_S) (hf : fX12_takes v0 v1 v2 g = some o) : Met l yX12_takes wcX12_takes rmX12_takes (hs_Pc B D E g [.ref (B + v0), .int v1, .int v2]) (hs_Qi B D E o) (0) (0) (hs_F B) := by
  refine Met.ofW (cc := cX12_takes) (maxL := 3) (ret := (some .int)) (by decide) rfl ?_
  intro p e s m args below meth c s₁ Bd hml hv
  obtain ⟨rfl, hP, hK⟩ := hv
  have hx := Bd.exec
  have hb := Bd.bytes
  have hr := Bd.returns
  have hts := atoms_spec (ws := wcX12_takes) Bd.pre
  have hown : s.vm.findClass RX12 = some m.cls := findClass_of_methodNamed Bd.named
  have hlocks := Bd.notSynchronized
  have hS : hs_Sx B s.heap s.heap [] := va_S.rf
  have hX : hs_cx cX12_takes (some .int) 3 RX12 wcX12_takes p s m (List.toArray [.ref (B + v0), .int v1, .int v2]) meth c D E := ⟨hx, hb, hr, hml, hown, hts, hlocks, hK⟩
  have hl := lv_entry ([.ref (B + v0), .int v1, .int v2]) (n := 3) (Nat.le_of_ble_eq_true rfl)
  rw [lg_entry_eq]
  generalize (lg_sl ([.ref (B + v0), .int v1, .int v2]) ++ List.replicate (3 - (lg_sl ([.ref (B + v0), .int v1, .int v2])).length) Slot.unset).toArray = ls at hl ⊢
  have hl : lv_has ls 3 [(0, .ref (B + v0)), (1, .int v1), (2, .int v2)] := hl
  have hP : hs_P B D E g s.heap := hP
  unfold fX12_takes at hf
  refine lv_iload_n hx hb dX12_takes_0 rfl (lv_at hl 1 rfl) ?_
  refine lv_sipush (v := 184) hx hb dX12_takes_1 (by decide) ?_
  refine lv_icmp_ne (tgt := 14) hx hb dX12_takes_4 (by decide) (fun hc => ?_) (fun hc => ?_)
  · replace hf := hs_f hf hc
    refine lv_iload_n hx hb dX12_takes_14 rfl (lv_at hl 1 rfl) ?_
    refine lv_bipush (v := 54) hx hb dX12_takes_15 (by decide) ?_
    refine lv_icmp_eq (tgt := 72) hx hb dX12_takes_17 (by decide) (fun hc => ?_) (fun hc => ?_)
    · replace hf := hs_t hf hc
      refine lv_iconst (v := 1) hx hb dX12_takes_72 (by decide) ?_
      exact hs_iret hx hb hr hlocks rfl hK hP hS hf dX12_takes_73
    · replace hf := hs_f hf hc
      refine lv_iload_n hx hb dX12_takes_20 rfl (lv_at hl 1 rfl) ?_
      refine lv_bipush (v := 87) hx hb dX12_takes_21 (by decide) ?_
      refine lv_icmp_eq (tgt := 72) hx hb dX12_takes_23 (by decide) (fun hc => ?_) (fun hc => ?_)
      · replace hf := hs_t hf hc
        refine lv_iconst (v := 1) hx hb dX12_takes_72 (by decide) ?_
        exact hs_iret hx hb hr hlocks rfl hK hP hS hf dX12_takes_73
      · replace hf := hs_f hf hc
        refine lv_iload_n hx hb dX12_takes_26 rfl (lv_at hl 1 rfl) ?_
        refine lv_bipush (v := 89) hx hb dX12_takes_27 (by decide) ?_
        refine lv_icmp_eq (tgt := 72) hx hb dX12_takes_29 (by decide) (fun hc => ?_) (fun hc => ?_)
        · replace hf := hs_t hf hc
          refine lv_iconst (v := 1) hx hb dX12_takes_72 (by decide) ?_
          exact hs_iret hx hb hr hlocks rfl hK hP hS hf dX12_takes_73
        · replace hf := hs_f hf hc
          refine lv_iload_n hx hb dX12_takes_32 rfl (lv_at hl 1 rfl) ?_
          refine lv_bipush (v := 116) hx hb dX12_takes_33 (by decide) ?_
          refine lv_icmp_eq (tgt := 72) hx hb dX12_takes_35 (by decide) (fun hc => ?_) (fun hc => ?_)
          · replace hf := hs_t hf hc
            refine lv_iconst (v := 1) hx hb dX12_takes_72 (by decide) ?_
            exact hs_iret hx hb hr hlocks rfl hK hP hS hf dX12_takes_73
          · replace hf := hs_f hf hc
            refine lv_iload_n hx hb dX12_takes_38 rfl (lv_at hl 1 rfl) ?_
            refine lv_sipush (v := 172) hx hb dX12_takes_39 (by decide) ?_
            refine lv_icmp_eq (tgt := 72) hx hb dX12_takes_42 (by decide) (fun hc => ?_) (fun hc => ?_)
            · replace hf := hs_t hf hc
              refine lv_iconst (v := 1) hx hb dX12_takes_72 (by decide) ?_
              exact hs_iret hx hb hr hlocks rfl hK hP hS hf dX12_takes_73
            · replace hf := hs_f hf hc
              refine lv_iload_n hx hb dX12_takes_45 rfl (lv_at hl 1 rfl) ?_
              refine lv_sipush (v := 188) hx hb dX12_takes_46 (by decide) ?_
              refine lv_icmp_eq (tgt := 72) hx hb dX12_takes_49 (by decide) (fun hc => ?_) (fun hc => ?_)
              · replace hf := hs_t hf hc
                refine lv_iconst (v := 1) hx hb dX12_takes_72 (by decide) ?_
                exact hs_iret hx hb hr hlocks rfl hK hP hS hf dX12_takes_73
              · replace hf := hs_f hf hc
                refine lv_iload_n hx hb dX12_takes_52 rfl (lv_at hl 1 rfl) ?_
                refine lv_bipush (v := 46) hx hb dX12_takes_53 (by decide) ?_
                refine lv_icmp_eq (tgt := 72) hx hb dX12_takes_55 (by decide) (fun hc => ?_) (fun hc => ?_)
                · replace hf := hs_t hf hc
                  refine lv_iconst (v := 1) hx hb dX12_takes_72 (by decide) ?_
                  exact hs_iret hx hb hr hlocks rfl hK hP hS hf dX12_takes_73
                · replace hf := hs_f hf hc
                  refine lv_iload_n hx hb dX12_takes_58 rfl (lv_at hl 1 rfl) ?_
                  refine lv_sipush (v := 153) hx hb dX12_takes_59 (by decide) ?_
                  refine lv_icmp_lt (tgt := 74) hx hb dX12_takes_62 (by decide) (fun hc => ?_) (fun hc => ?_)
                  · replace hf := hs_t hf hc
                    exact wX12_takes_j74 hX hf hP hS (lv_sub hl [1] rfl)
                  · replace hf := hs_f hf hc
                    refine lv_iload_n hx hb dX12_takes_65 rfl (lv_at hl 1 rfl) ?_
                    refine lv_sipush (v := 158) hx hb dX12_takes_66 (by decide) ?_
                    refine lv_icmp_gt (tgt := 74) hx hb dX12_takes_69 (by decide) (fun hc => ?_) (fun hc => ?_)
                    · replace hf := hs_t hf hc
                      exact wX12_takes_j74 hX hf hP hS (lv_sub hl [1] rfl)
                    · replace hf := hs_f hf hc
                      refine lv_iconst (v := 1) hx hb dX12_takes_72 (by decide) ?_
                      exact hs_iret hx hb hr hlocks rfl hK hP hS hf dX12_takes_73
  · replace hf := hs_t hf hc
    refine lv_aload_n hx hb dX12_takes_7 rfl (lv_at hl 0 rfl) ?_
    obtain ⟨h1, hf⟩ := hs_ck hf
    obtain ⟨h2, hf⟩ := hs_ck hf
    refine hs_getr (C := RX12) (T := TX12) (N := 48) hx hb hts (fun w h => List.mem_cons_of_mem _ (inlX12 w h)) hown hK.1 hP h1 (by decide) rfl 15 (by decide) (hts _ (List.mem_cons_of_mem _ wq134)) (fun _ h => h) rfl h2 dX12_takes_8 ?_
    refine lv_iload_n hx hb dX12_takes_11 rfl (lv_at hl 2 rfl) ?_
    obtain ⟨h3, hf⟩ := hs_ck hf
    obtain ⟨h4, hf⟩ := hs_ck hf
    refine hs_iald hx hb hK.1 hP h3 h4 dX12_takes_12 ?_
    exact hs_iret hx hb hr hlocks rfl hK hP hS hf dX12_takes_13

