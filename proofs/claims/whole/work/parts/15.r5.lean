theorem dX5_run_0 : decode cX5_run 0 = .ok (.iload_n 1, 1) := by decide +kernel
theorem dX5_run_1 : decode cX5_run 1 = .ok (.invokestatic 230, 3) := by decide +kernel
theorem dX5_run_4 : decode cX5_run 4 = .ok (.istore_n 2, 1) := by decide +kernel
theorem dX5_run_5 : decode cX5_run 5 = .ok (.iconst 0, 1) := by decide +kernel
theorem dX5_run_6 : decode cX5_run 6 = .ok (.istore_n 3, 1) := by decide +kernel
theorem dX5_run_7 : decode cX5_run 7 = .ok (.iconst 0, 1) := by decide +kernel
theorem dX5_run_8 : decode cX5_run 8 = .ok (.istore 4, 2) := by decide +kernel
theorem dX5_run_10 : decode cX5_run 10 = .ok (.iload 4, 2) := by decide +kernel
theorem dX5_run_12 : decode cX5_run 12 = .ok (.sipush 150, 3) := by decide +kernel
theorem dX5_run_15 : decode cX5_run 15 = .ok (.if_icmp .ge 35, 3) := by decide +kernel
theorem dX5_run_18 : decode cX5_run 18 = .ok (.aload_n 0, 1) := by decide +kernel
theorem dX5_run_19 : decode cX5_run 19 = .ok (.getfield 27, 3) := by decide +kernel
theorem dX5_run_22 : decode cX5_run 22 = .ok (.iload 4, 2) := by decide +kernel
theorem dX5_run_24 : decode cX5_run 24 = .ok (.baload, 1) := by decide +kernel
theorem dX5_run_25 : decode cX5_run 25 = .ok (.ifCond .eq 19, 3) := by decide +kernel
theorem dX5_run_28 : decode cX5_run 28 = .ok (.aload_n 0, 1) := by decide +kernel
theorem dX5_run_29 : decode cX5_run 29 = .ok (.getfield 8, 3) := by decide +kernel
theorem dX5_run_32 : decode cX5_run 32 = .ok (.iload_n 2, 1) := by decide +kernel
theorem dX5_run_33 : decode cX5_run 33 = .ok (.bipush 10, 2) := by decide +kernel
theorem dX5_run_35 : decode cX5_run 35 = .ok (.iadd, 1) := by decide +kernel
theorem dX5_run_36 : decode cX5_run 36 = .ok (.iload_n 3, 1) := by decide +kernel
theorem dX5_run_37 : decode cX5_run 37 = .ok (.iadd, 1) := by decide +kernel
theorem dX5_run_38 : decode cX5_run 38 = .ok (.iload 4, 2) := by decide +kernel
theorem dX5_run_40 : decode cX5_run 40 = .ok (.iastore, 1) := by decide +kernel
theorem dX5_run_41 : decode cX5_run 41 = .ok (.iinc 3 1, 3) := by decide +kernel
theorem dX5_run_44 : decode cX5_run 44 = .ok (.iinc 4 1, 3) := by decide +kernel
theorem dX5_run_47 : decode cX5_run 47 = .ok (.goto (-37), 3) := by decide +kernel
theorem dX5_run_50 : decode cX5_run 50 = .ok (.aload_n 0, 1) := by decide +kernel
theorem dX5_run_51 : decode cX5_run 51 = .ok (.getfield 8, 3) := by decide +kernel
theorem dX5_run_54 : decode cX5_run 54 = .ok (.iload_n 2, 1) := by decide +kernel
theorem dX5_run_55 : decode cX5_run 55 = .ok (.bipush 8, 2) := by decide +kernel
theorem dX5_run_57 : decode cX5_run 57 = .ok (.iadd, 1) := by decide +kernel
theorem dX5_run_58 : decode cX5_run 58 = .ok (.iload_n 3, 1) := by decide +kernel
theorem dX5_run_59 : decode cX5_run 59 = .ok (.iastore, 1) := by decide +kernel
theorem dX5_run_60 : decode cX5_run 60 = .ok (.aload_n 0, 1) := by decide +kernel
theorem dX5_run_61 : decode cX5_run 61 = .ok (.iconst 0, 1) := by decide +kernel
theorem dX5_run_62 : decode cX5_run 62 = .ok (.putfield 159, 3) := by decide +kernel
theorem dX5_run_65 : decode cX5_run 65 = .ok (.aload_n 0, 1) := by decide +kernel
theorem dX5_run_66 : decode cX5_run 66 = .ok (.iconst 0, 1) := by decide +kernel
theorem dX5_run_67 : decode cX5_run 67 = .ok (.putfield 156, 3) := by decide +kernel
theorem dX5_run_70 : decode cX5_run 70 = .ok (.aload_n 0, 1) := by decide +kernel
theorem dX5_run_71 : decode cX5_run 71 = .ok (.iconst 0, 1) := by decide +kernel
theorem dX5_run_72 : decode cX5_run 72 = .ok (.putfield 215, 3) := by decide +kernel
theorem dX5_run_75 : decode cX5_run 75 = .ok (.aload_n 0, 1) := by decide +kernel
theorem dX5_run_76 : decode cX5_run 76 = .ok (.iconst 0, 1) := by decide +kernel
theorem dX5_run_77 : decode cX5_run 77 = .ok (.putfield 147, 3) := by decide +kernel
theorem dX5_run_80 : decode cX5_run 80 = .ok (.aload_n 0, 1) := by decide +kernel
theorem dX5_run_81 : decode cX5_run 81 = .ok (.iconst 0, 1) := by decide +kernel
theorem dX5_run_82 : decode cX5_run 82 = .ok (.putfield 150, 3) := by decide +kernel
theorem dX5_run_85 : decode cX5_run 85 = .ok (.aload_n 0, 1) := by decide +kernel
theorem dX5_run_86 : decode cX5_run 86 = .ok (.iconst 0, 1) := by decide +kernel
theorem dX5_run_87 : decode cX5_run 87 = .ok (.putfield 153, 3) := by decide +kernel
theorem dX5_run_90 : decode cX5_run 90 = .ok (.aload_n 0, 1) := by decide +kernel
theorem dX5_run_91 : decode cX5_run 91 = .ok (.getfield 8, 3) := by decide +kernel
theorem dX5_run_94 : decode cX5_run 94 = .ok (.iload_n 2, 1) := by decide +kernel
theorem dX5_run_95 : decode cX5_run 95 = .ok (.iconst 1, 1) := by decide +kernel
theorem dX5_run_96 : decode cX5_run 96 = .ok (.iadd, 1) := by decide +kernel
theorem dX5_run_97 : decode cX5_run 97 = .ok (.iaload, 1) := by decide +kernel
theorem dX5_run_98 : decode cX5_run 98 = .ok (.ifCond .ne 19, 3) := by decide +kernel
theorem dX5_run_101 : decode cX5_run 101 = .ok (.aload_n 0, 1) := by decide +kernel
theorem dX5_run_102 : decode cX5_run 102 = .ok (.iconst (-1), 1) := by decide +kernel
theorem dX5_run_103 : decode cX5_run 103 = .ok (.iconst 0, 1) := by decide +kernel
theorem dX5_run_104 : decode cX5_run 104 = .ok (.aload_n 0, 1) := by decide +kernel
theorem dX5_run_105 : decode cX5_run 105 = .ok (.getfield 90, 3) := by decide +kernel
theorem dX5_run_108 : decode cX5_run 108 = .ok (.iconst (-1), 1) := by decide +kernel
theorem dX5_run_109 : decode cX5_run 109 = .ok (.iconst (-1), 1) := by decide +kernel
theorem dX5_run_110 : decode cX5_run 110 = .ok (.invokevirtual 211, 3) := by decide +kernel
theorem dX5_run_113 : decode cX5_run 113 = .ok (.aload_n 0, 1) := by decide +kernel
theorem dX5_run_114 : decode cX5_run 114 = .ok (.invokevirtual 233, 3) := by decide +kernel
theorem dX5_run_117 : decode cX5_run 117 = .ok (.aload_n 0, 1) := by decide +kernel
theorem dX5_run_118 : decode cX5_run 118 = .ok (.getfield 8, 3) := by decide +kernel
theorem dX5_run_121 : decode cX5_run 121 = .ok (.iload_n 2, 1) := by decide +kernel
theorem dX5_run_122 : decode cX5_run 122 = .ok (.iconst 3, 1) := by decide +kernel
theorem dX5_run_123 : decode cX5_run 123 = .ok (.iadd, 1) := by decide +kernel
theorem dX5_run_124 : decode cX5_run 124 = .ok (.aload_n 0, 1) := by decide +kernel
theorem dX5_run_125 : decode cX5_run 125 = .ok (.getfield 156, 3) := by decide +kernel
theorem dX5_run_128 : decode cX5_run 128 = .ok (.ifCond .ne 7, 3) := by decide +kernel
theorem dX5_run_131 : decode cX5_run 131 = .ok (.iconst 0, 1) := by decide +kernel
theorem dX5_run_132 : decode cX5_run 132 = .ok (.goto 17, 3) := by decide +kernel
theorem dX5_run_135 : decode cX5_run 135 = .ok (.aload_n 0, 1) := by decide +kernel
theorem dX5_run_136 : decode cX5_run 136 = .ok (.getfield 156, 3) := by decide +kernel
theorem dX5_run_139 : decode cX5_run 139 = .ok (.bipush 100, 2) := by decide +kernel
theorem dX5_run_141 : decode cX5_run 141 = .ok (.if_icmp .ne 7, 3) := by decide +kernel
theorem dX5_run_144 : decode cX5_run 144 = .ok (.iconst 2, 1) := by decide +kernel
theorem dX5_run_145 : decode cX5_run 145 = .ok (.goto 4, 3) := by decide +kernel
theorem dX5_run_148 : decode cX5_run 148 = .ok (.iconst 1, 1) := by decide +kernel
theorem dX5_run_149 : decode cX5_run 149 = .ok (.iastore, 1) := by decide +kernel
theorem dX5_run_150 : decode cX5_run 150 = .ok (.aload_n 0, 1) := by decide +kernel
theorem dX5_run_151 : decode cX5_run 151 = .ok (.getfield 8, 3) := by decide +kernel
theorem dX5_run_154 : decode cX5_run 154 = .ok (.iload_n 2, 1) := by decide +kernel
theorem dX5_run_155 : decode cX5_run 155 = .ok (.iconst 4, 1) := by decide +kernel
theorem dX5_run_156 : decode cX5_run 156 = .ok (.iadd, 1) := by decide +kernel
theorem dX5_run_157 : decode cX5_run 157 = .ok (.aload_n 0, 1) := by decide +kernel
theorem dX5_run_158 : decode cX5_run 158 = .ok (.getfield 156, 3) := by decide +kernel
theorem dX5_run_161 : decode cX5_run 161 = .ok (.bipush 100, 2) := by decide +kernel
theorem dX5_run_163 : decode cX5_run 163 = .ok (.if_icmp .ne 7, 3) := by decide +kernel
theorem dX5_run_166 : decode cX5_run 166 = .ok (.iconst 0, 1) := by decide +kernel
theorem dX5_run_167 : decode cX5_run 167 = .ok (.goto 7, 3) := by decide +kernel
theorem dX5_run_170 : decode cX5_run 170 = .ok (.aload_n 0, 1) := by decide +kernel
theorem dX5_run_171 : decode cX5_run 171 = .ok (.getfield 156, 3) := by decide +kernel
theorem dX5_run_174 : decode cX5_run 174 = .ok (.iastore, 1) := by decide +kernel
theorem dX5_run_175 : decode cX5_run 175 = .ok (.aload_n 0, 1) := by decide +kernel
theorem dX5_run_176 : decode cX5_run 176 = .ok (.getfield 8, 3) := by decide +kernel
theorem dX5_run_179 : decode cX5_run 179 = .ok (.iload_n 2, 1) := by decide +kernel
theorem dX5_run_180 : decode cX5_run 180 = .ok (.iconst 5, 1) := by decide +kernel
theorem dX5_run_181 : decode cX5_run 181 = .ok (.iadd, 1) := by decide +kernel
theorem dX5_run_182 : decode cX5_run 182 = .ok (.aload_n 0, 1) := by decide +kernel
theorem dX5_run_183 : decode cX5_run 183 = .ok (.getfield 159, 3) := by decide +kernel
theorem dX5_run_186 : decode cX5_run 186 = .ok (.iastore, 1) := by decide +kernel
theorem dX5_run_187 : decode cX5_run 187 = .ok (.aload_n 0, 1) := by decide +kernel
theorem dX5_run_188 : decode cX5_run 188 = .ok (.getfield 8, 3) := by decide +kernel
theorem dX5_run_191 : decode cX5_run 191 = .ok (.iload_n 2, 1) := by decide +kernel
theorem dX5_run_192 : decode cX5_run 192 = .ok (.bipush 6, 2) := by decide +kernel
theorem dX5_run_194 : decode cX5_run 194 = .ok (.iadd, 1) := by decide +kernel
theorem dX5_run_195 : decode cX5_run 195 = .ok (.aload_n 0, 1) := by decide +kernel
theorem dX5_run_196 : decode cX5_run 196 = .ok (.getfield 215, 3) := by decide +kernel
theorem dX5_run_199 : decode cX5_run 199 = .ok (.iastore, 1) := by decide +kernel
theorem dX5_run_200 : decode cX5_run 200 = .ok (.iconst 0, 1) := by decide +kernel
theorem dX5_run_201 : decode cX5_run 201 = .ok (.istore 4, 2) := by decide +kernel
theorem dX5_run_203 : decode cX5_run 203 = .ok (.iload 4, 2) := by decide +kernel
theorem dX5_run_205 : decode cX5_run 205 = .ok (.bipush 20, 2) := by decide +kernel
theorem dX5_run_207 : decode cX5_run 207 = .ok (.if_icmp .ge 83, 3) := by decide +kernel
theorem dX5_run_210 : decode cX5_run 210 = .ok (.aload_n 0, 1) := by decide +kernel
theorem dX5_run_211 : decode cX5_run 211 = .ok (.getfield 8, 3) := by decide +kernel
theorem dX5_run_214 : decode cX5_run 214 = .ok (.iload_n 2, 1) := by decide +kernel
theorem dX5_run_215 : decode cX5_run 215 = .ok (.bipush 71, 2) := by decide +kernel
theorem dX5_run_217 : decode cX5_run 217 = .ok (.iadd, 1) := by decide +kernel
theorem dX5_run_218 : decode cX5_run 218 = .ok (.iconst 2, 1) := by decide +kernel
theorem dX5_run_219 : decode cX5_run 219 = .ok (.iload 4, 2) := by decide +kernel
theorem dX5_run_221 : decode cX5_run 221 = .ok (.imul, 1) := by decide +kernel
theorem dX5_run_222 : decode cX5_run 222 = .ok (.iadd, 1) := by decide +kernel
theorem dX5_run_223 : decode cX5_run 223 = .ok (.iload 4, 2) := by decide +kernel
theorem dX5_run_225 : decode cX5_run 225 = .ok (.aload_n 0, 1) := by decide +kernel
theorem dX5_run_226 : decode cX5_run 226 = .ok (.getfield 215, 3) := by decide +kernel
theorem dX5_run_229 : decode cX5_run 229 = .ok (.if_icmp .ge 17, 3) := by decide +kernel
theorem dX5_run_232 : decode cX5_run 232 = .ok (.aload_n 0, 1) := by decide +kernel
theorem dX5_run_233 : decode cX5_run 233 = .ok (.getfield 57, 3) := by decide +kernel
theorem dX5_run_236 : decode cX5_run 236 = .ok (.iload 4, 2) := by decide +kernel
theorem dX5_run_238 : decode cX5_run 238 = .ok (.baload, 1) := by decide +kernel
theorem dX5_run_239 : decode cX5_run 239 = .ok (.ifCond .eq 7, 3) := by decide +kernel
theorem dX5_run_242 : decode cX5_run 242 = .ok (.iconst 1, 1) := by decide +kernel
theorem dX5_run_243 : decode cX5_run 243 = .ok (.goto 4, 3) := by decide +kernel
theorem dX5_run_246 : decode cX5_run 246 = .ok (.iconst 0, 1) := by decide +kernel
theorem dX5_run_247 : decode cX5_run 247 = .ok (.iastore, 1) := by decide +kernel
theorem dX5_run_248 : decode cX5_run 248 = .ok (.aload_n 0, 1) := by decide +kernel
theorem dX5_run_249 : decode cX5_run 249 = .ok (.getfield 8, 3) := by decide +kernel
theorem dX5_run_252 : decode cX5_run 252 = .ok (.iload_n 2, 1) := by decide +kernel
theorem dX5_run_253 : decode cX5_run 253 = .ok (.bipush 71, 2) := by decide +kernel
theorem dX5_run_255 : decode cX5_run 255 = .ok (.iadd, 1) := by decide +kernel
theorem dX5_run_256 : decode cX5_run 256 = .ok (.iconst 2, 1) := by decide +kernel
theorem dX5_run_257 : decode cX5_run 257 = .ok (.iload 4, 2) := by decide +kernel
theorem dX5_run_259 : decode cX5_run 259 = .ok (.imul, 1) := by decide +kernel
theorem dX5_run_260 : decode cX5_run 260 = .ok (.iadd, 1) := by decide +kernel
theorem dX5_run_261 : decode cX5_run 261 = .ok (.iconst 1, 1) := by decide +kernel
theorem dX5_run_262 : decode cX5_run 262 = .ok (.iadd, 1) := by decide +kernel
theorem dX5_run_263 : decode cX5_run 263 = .ok (.iload 4, 2) := by decide +kernel
theorem dX5_run_265 : decode cX5_run 265 = .ok (.aload_n 0, 1) := by decide +kernel
theorem dX5_run_266 : decode cX5_run 266 = .ok (.getfield 215, 3) := by decide +kernel
theorem dX5_run_269 : decode cX5_run 269 = .ok (.if_icmp .ge 13, 3) := by decide +kernel
theorem dX5_run_272 : decode cX5_run 272 = .ok (.aload_n 0, 1) := by decide +kernel
theorem dX5_run_273 : decode cX5_run 273 = .ok (.getfield 60, 3) := by decide +kernel
theorem dX5_run_276 : decode cX5_run 276 = .ok (.iload 4, 2) := by decide +kernel
theorem dX5_run_278 : decode cX5_run 278 = .ok (.iaload, 1) := by decide +kernel
theorem dX5_run_279 : decode cX5_run 279 = .ok (.goto 4, 3) := by decide +kernel
theorem dX5_run_282 : decode cX5_run 282 = .ok (.iconst 0, 1) := by decide +kernel
theorem dX5_run_283 : decode cX5_run 283 = .ok (.iastore, 1) := by decide +kernel
theorem dX5_run_284 : decode cX5_run 284 = .ok (.iinc 4 1, 3) := by decide +kernel
theorem dX5_run_287 : decode cX5_run 287 = .ok (.goto (-84), 3) := by decide +kernel
theorem dX5_run_290 : decode cX5_run 290 = .ok (.aload_n 0, 1) := by decide +kernel
theorem dX5_run_291 : decode cX5_run 291 = .ok (.getfield 8, 3) := by decide +kernel
theorem dX5_run_294 : decode cX5_run 294 = .ok (.iload_n 2, 1) := by decide +kernel
theorem dX5_run_295 : decode cX5_run 295 = .ok (.bipush 7, 2) := by decide +kernel
theorem dX5_run_297 : decode cX5_run 297 = .ok (.iadd, 1) := by decide +kernel
theorem dX5_run_298 : decode cX5_run 298 = .ok (.iconst 0, 1) := by decide +kernel
theorem dX5_run_299 : decode cX5_run 299 = .ok (.iastore, 1) := by decide +kernel
theorem dX5_run_300 : decode cX5_run 300 = .ok (.aload_n 0, 1) := by decide +kernel
theorem dX5_run_301 : decode cX5_run 301 = .ok (.getfield 156, 3) := by decide +kernel
theorem dX5_run_304 : decode cX5_run 304 = .ok (.ifCond .ne 93, 3) := by decide +kernel
theorem dX5_run_307 : decode cX5_run 307 = .ok (.aload_n 0, 1) := by decide +kernel
theorem dX5_run_308 : decode cX5_run 308 = .ok (.iload_n 1, 1) := by decide +kernel
theorem dX5_run_309 : decode cX5_run 309 = .ok (.invokevirtual 236, 3) := by decide +kernel
theorem dX5_run_312 : decode cX5_run 312 = .ok (.istore 4, 2) := by decide +kernel
theorem dX5_run_314 : decode cX5_run 314 = .ok (.aload_n 0, 1) := by decide +kernel
theorem dX5_run_315 : decode cX5_run 315 = .ok (.getfield 8, 3) := by decide +kernel
theorem dX5_run_318 : decode cX5_run 318 = .ok (.iload_n 2, 1) := by decide +kernel
theorem dX5_run_319 : decode cX5_run 319 = .ok (.bipush 7, 2) := by decide +kernel
theorem dX5_run_321 : decode cX5_run 321 = .ok (.iadd, 1) := by decide +kernel
theorem dX5_run_322 : decode cX5_run 322 = .ok (.iload 4, 2) := by decide +kernel
theorem dX5_run_324 : decode cX5_run 324 = .ok (.iconst 1, 1) := by decide +kernel
theorem dX5_run_325 : decode cX5_run 325 = .ok (.iadd, 1) := by decide +kernel
theorem dX5_run_326 : decode cX5_run 326 = .ok (.iastore, 1) := by decide +kernel
theorem dX5_run_327 : decode cX5_run 327 = .ok (.aload_n 0, 1) := by decide +kernel
theorem dX5_run_328 : decode cX5_run 328 = .ok (.getfield 8, 3) := by decide +kernel
theorem dX5_run_331 : decode cX5_run 331 = .ok (.iload 4, 2) := by decide +kernel
theorem dX5_run_333 : decode cX5_run 333 = .ok (.invokestatic 73, 3) := by decide +kernel
theorem dX5_run_336 : decode cX5_run 336 = .ok (.iconst 3, 1) := by decide +kernel
theorem dX5_run_337 : decode cX5_run 337 = .ok (.iadd, 1) := by decide +kernel
theorem dX5_run_338 : decode cX5_run 338 = .ok (.aload_n 0, 1) := by decide +kernel
theorem dX5_run_339 : decode cX5_run 339 = .ok (.getfield 8, 3) := by decide +kernel
theorem dX5_run_342 : decode cX5_run 342 = .ok (.iload_n 2, 1) := by decide +kernel
theorem dX5_run_343 : decode cX5_run 343 = .ok (.iconst 1, 1) := by decide +kernel
theorem dX5_run_344 : decode cX5_run 344 = .ok (.iadd, 1) := by decide +kernel
theorem dX5_run_345 : decode cX5_run 345 = .ok (.iaload, 1) := by decide +kernel
theorem dX5_run_346 : decode cX5_run 346 = .ok (.ifCond .ne 16, 3) := by decide +kernel
theorem dX5_run_349 : decode cX5_run 349 = .ok (.aload_n 0, 1) := by decide +kernel
theorem dX5_run_350 : decode cX5_run 350 = .ok (.getfield 30, 3) := by decide +kernel
theorem dX5_run_353 : decode cX5_run 353 = .ok (.iconst 0, 1) := by decide +kernel
theorem dX5_run_354 : decode cX5_run 354 = .ok (.baload, 1) := by decide +kernel
theorem dX5_run_355 : decode cX5_run 355 = .ok (.ifCond .eq 7, 3) := by decide +kernel
theorem dX5_run_358 : decode cX5_run 358 = .ok (.iconst 1, 1) := by decide +kernel
theorem dX5_run_359 : decode cX5_run 359 = .ok (.goto 4, 3) := by decide +kernel
theorem dX5_run_362 : decode cX5_run 362 = .ok (.iconst 0, 1) := by decide +kernel
theorem dX5_run_363 : decode cX5_run 363 = .ok (.iastore, 1) := by decide +kernel
theorem dX5_run_364 : decode cX5_run 364 = .ok (.aload_n 0, 1) := by decide +kernel
theorem dX5_run_365 : decode cX5_run 365 = .ok (.getfield 8, 3) := by decide +kernel
theorem dX5_run_368 : decode cX5_run 368 = .ok (.iload 4, 2) := by decide +kernel
theorem dX5_run_370 : decode cX5_run 370 = .ok (.invokestatic 73, 3) := by decide +kernel
theorem dX5_run_373 : decode cX5_run 373 = .ok (.iconst 4, 1) := by decide +kernel
theorem dX5_run_374 : decode cX5_run 374 = .ok (.iadd, 1) := by decide +kernel
theorem dX5_run_375 : decode cX5_run 375 = .ok (.aload_n 0, 1) := by decide +kernel
theorem dX5_run_376 : decode cX5_run 376 = .ok (.getfield 8, 3) := by decide +kernel
theorem dX5_run_379 : decode cX5_run 379 = .ok (.iload_n 2, 1) := by decide +kernel
theorem dX5_run_380 : decode cX5_run 380 = .ok (.iconst 1, 1) := by decide +kernel
theorem dX5_run_381 : decode cX5_run 381 = .ok (.iadd, 1) := by decide +kernel
theorem dX5_run_382 : decode cX5_run 382 = .ok (.iaload, 1) := by decide +kernel
theorem dX5_run_383 : decode cX5_run 383 = .ok (.ifCond .ne 12, 3) := by decide +kernel
theorem dX5_run_386 : decode cX5_run 386 = .ok (.aload_n 0, 1) := by decide +kernel
theorem dX5_run_387 : decode cX5_run 387 = .ok (.getfield 33, 3) := by decide +kernel
theorem dX5_run_390 : decode cX5_run 390 = .ok (.iconst 0, 1) := by decide +kernel
theorem dX5_run_391 : decode cX5_run 391 = .ok (.iaload, 1) := by decide +kernel
theorem dX5_run_392 : decode cX5_run 392 = .ok (.goto 4, 3) := by decide +kernel
theorem dX5_run_395 : decode cX5_run 395 = .ok (.iconst 0, 1) := by decide +kernel
theorem dX5_run_396 : decode cX5_run 396 = .ok (.iastore, 1) := by decide +kernel
theorem dX5_run_397 : decode cX5_run 397 = .ok (.aload_n 0, 1) := by decide +kernel
theorem dX5_run_398 : decode cX5_run 398 = .ok (.getfield 8, 3) := by decide +kernel
theorem dX5_run_401 : decode cX5_run 401 = .ok (.iload_n 2, 1) := by decide +kernel
theorem dX5_run_402 : decode cX5_run 402 = .ok (.iconst 3, 1) := by decide +kernel
theorem dX5_run_403 : decode cX5_run 403 = .ok (.iadd, 1) := by decide +kernel
theorem dX5_run_404 : decode cX5_run 404 = .ok (.iaload, 1) := by decide +kernel
theorem dX5_run_405 : decode cX5_run 405 = .ok (.ireturn, 1) := by decide +kernel
theorem dX5_lookAtTape_0 : decode cX5_lookAtTape 0 = .ok (.aload_n 0, 1) := by decide +kernel
theorem dX5_lookAtTape_1 : decode cX5_lookAtTape 1 = .ok (.aload_n 0, 1) := by decide +kernel
theorem dX5_lookAtTape_2 : decode cX5_lookAtTape 2 = .ok (.getfield 80, 3) := by decide +kernel
theorem dX5_lookAtTape_5 : decode cX5_lookAtTape 5 = .ok (.putfield 90, 3) := by decide +kernel
theorem dX5_lookAtTape_8 : decode cX5_lookAtTape 8 = .ok (.iconst 0, 1) := by decide +kernel
theorem dX5_lookAtTape_9 : decode cX5_lookAtTape 9 = .ok (.istore_n 2, 1) := by decide +kernel
theorem dX5_lookAtTape_10 : decode cX5_lookAtTape 10 = .ok (.iload_n 2, 1) := by decide +kernel
theorem dX5_lookAtTape_11 : decode cX5_lookAtTape 11 = .ok (.aload_n 0, 1) := by decide +kernel
theorem dX5_lookAtTape_12 : decode cX5_lookAtTape 12 = .ok (.getfield 80, 3) := by decide +kernel
theorem dX5_lookAtTape_15 : decode cX5_lookAtTape 15 = .ok (.if_icmp .ge 21, 3) := by decide +kernel
theorem dX5_lookAtTape_18 : decode cX5_lookAtTape 18 = .ok (.aload_n 0, 1) := by decide +kernel
theorem dX5_lookAtTape_19 : decode cX5_lookAtTape 19 = .ok (.getfield 21, 3) := by decide +kernel
theorem dX5_lookAtTape_22 : decode cX5_lookAtTape 22 = .ok (.iload_n 2, 1) := by decide +kernel
theorem dX5_lookAtTape_23 : decode cX5_lookAtTape 23 = .ok (.aload_n 0, 1) := by decide +kernel
theorem dX5_lookAtTape_24 : decode cX5_lookAtTape 24 = .ok (.getfield 18, 3) := by decide +kernel
theorem dX5_lookAtTape_27 : decode cX5_lookAtTape 27 = .ok (.iload_n 2, 1) := by decide +kernel
theorem dX5_lookAtTape_28 : decode cX5_lookAtTape 28 = .ok (.iaload, 1) := by decide +kernel
theorem dX5_lookAtTape_29 : decode cX5_lookAtTape 29 = .ok (.iastore, 1) := by decide +kernel
theorem dX5_lookAtTape_30 : decode cX5_lookAtTape 30 = .ok (.iinc 2 1, 3) := by decide +kernel
theorem dX5_lookAtTape_33 : decode cX5_lookAtTape 33 = .ok (.goto (-23), 3) := by decide +kernel
theorem dX5_lookAtTape_36 : decode cX5_lookAtTape 36 = .ok (.aload_n 0, 1) := by decide +kernel
theorem dX5_lookAtTape_37 : decode cX5_lookAtTape 37 = .ok (.iload_n 1, 1) := by decide +kernel
theorem dX5_lookAtTape_38 : decode cX5_lookAtTape 38 = .ok (.invokevirtual 239, 3) := by decide +kernel
theorem dX5_lookAtTape_41 : decode cX5_lookAtTape 41 = .ok (.ireturn, 1) := by decide +kernel
theorem dX5_lookAtCell_0 : decode cX5_lookAtCell 0 = .ok (.aload_n 0, 1) := by decide +kernel
theorem dX5_lookAtCell_1 : decode cX5_lookAtCell 1 = .ok (.aload_n 0, 1) := by decide +kernel
theorem dX5_lookAtCell_2 : decode cX5_lookAtCell 2 = .ok (.getfield 8, 3) := by decide +kernel
theorem dX5_lookAtCell_5 : decode cX5_lookAtCell 5 = .ok (.iload_n 1, 1) := by decide +kernel
theorem dX5_lookAtCell_6 : decode cX5_lookAtCell 6 = .ok (.invokestatic 230, 3) := by decide +kernel
theorem dX5_lookAtCell_9 : decode cX5_lookAtCell 9 = .ok (.iconst 2, 1) := by decide +kernel
theorem dX5_lookAtCell_10 : decode cX5_lookAtCell 10 = .ok (.iadd, 1) := by decide +kernel
theorem dX5_lookAtCell_11 : decode cX5_lookAtCell 11 = .ok (.iaload, 1) := by decide +kernel
theorem dX5_lookAtCell_12 : decode cX5_lookAtCell 12 = .ok (.putfield 90, 3) := by decide +kernel
theorem dX5_lookAtCell_15 : decode cX5_lookAtCell 15 = .ok (.iconst 0, 1) := by decide +kernel
theorem dX5_lookAtCell_16 : decode cX5_lookAtCell 16 = .ok (.istore_n 2, 1) := by decide +kernel
theorem dX5_lookAtCell_17 : decode cX5_lookAtCell 17 = .ok (.iload_n 2, 1) := by decide +kernel
theorem dX5_lookAtCell_18 : decode cX5_lookAtCell 18 = .ok (.aload_n 0, 1) := by decide +kernel
theorem dX5_lookAtCell_19 : decode cX5_lookAtCell 19 = .ok (.getfield 90, 3) := by decide +kernel
theorem dX5_lookAtCell_22 : decode cX5_lookAtCell 22 = .ok (.if_icmp .ge 29, 3) := by decide +kernel
theorem dX5_lookAtCell_25 : decode cX5_lookAtCell 25 = .ok (.aload_n 0, 1) := by decide +kernel
theorem dX5_lookAtCell_26 : decode cX5_lookAtCell 26 = .ok (.getfield 21, 3) := by decide +kernel
theorem dX5_lookAtCell_29 : decode cX5_lookAtCell 29 = .ok (.iload_n 2, 1) := by decide +kernel
theorem dX5_lookAtCell_30 : decode cX5_lookAtCell 30 = .ok (.aload_n 0, 1) := by decide +kernel
theorem dX5_lookAtCell_31 : decode cX5_lookAtCell 31 = .ok (.getfield 8, 3) := by decide +kernel
theorem dX5_lookAtCell_34 : decode cX5_lookAtCell 34 = .ok (.iload_n 1, 1) := by decide +kernel
theorem dX5_lookAtCell_35 : decode cX5_lookAtCell 35 = .ok (.invokestatic 230, 3) := by decide +kernel
theorem dX5_lookAtCell_38 : decode cX5_lookAtCell 38 = .ok (.bipush 112, 2) := by decide +kernel
theorem dX5_lookAtCell_40 : decode cX5_lookAtCell 40 = .ok (.iadd, 1) := by decide +kernel
theorem dX5_lookAtCell_41 : decode cX5_lookAtCell 41 = .ok (.iload_n 2, 1) := by decide +kernel
theorem dX5_lookAtCell_42 : decode cX5_lookAtCell 42 = .ok (.iadd, 1) := by decide +kernel
theorem dX5_lookAtCell_43 : decode cX5_lookAtCell 43 = .ok (.iaload, 1) := by decide +kernel
theorem dX5_lookAtCell_44 : decode cX5_lookAtCell 44 = .ok (.iastore, 1) := by decide +kernel
theorem dX5_lookAtCell_45 : decode cX5_lookAtCell 45 = .ok (.iinc 2 1, 3) := by decide +kernel
theorem dX5_lookAtCell_48 : decode cX5_lookAtCell 48 = .ok (.goto (-31), 3) := by decide +kernel
theorem dX5_lookAtCell_51 : decode cX5_lookAtCell 51 = .ok (.aload_n 0, 1) := by decide +kernel
theorem dX5_lookAtCell_52 : decode cX5_lookAtCell 52 = .ok (.aload_n 0, 1) := by decide +kernel
theorem dX5_lookAtCell_53 : decode cX5_lookAtCell 53 = .ok (.getfield 8, 3) := by decide +kernel
theorem dX5_lookAtCell_56 : decode cX5_lookAtCell 56 = .ok (.iload_n 1, 1) := by decide +kernel
theorem dX5_lookAtCell_57 : decode cX5_lookAtCell 57 = .ok (.invokestatic 230, 3) := by decide +kernel
theorem dX5_lookAtCell_60 : decode cX5_lookAtCell 60 = .ok (.iconst 1, 1) := by decide +kernel
theorem dX5_lookAtCell_61 : decode cX5_lookAtCell 61 = .ok (.iadd, 1) := by decide +kernel
theorem dX5_lookAtCell_62 : decode cX5_lookAtCell 62 = .ok (.iaload, 1) := by decide +kernel
theorem dX5_lookAtCell_63 : decode cX5_lookAtCell 63 = .ok (.invokevirtual 239, 3) := by decide +kernel
theorem dX5_lookAtCell_66 : decode cX5_lookAtCell 66 = .ok (.ireturn, 1) := by decide +kernel
theorem dX5_layText_0 : decode cX5_layText 0 = .ok (.aload_n 0, 1) := by decide +kernel
theorem dX5_layText_1 : decode cX5_layText 1 = .ok (.getfield 8, 3) := by decide +kernel
theorem dX5_layText_4 : decode cX5_layText 4 = .ok (.iload_n 1, 1) := by decide +kernel
theorem dX5_layText_5 : decode cX5_layText 5 = .ok (.invokestatic 230, 3) := by decide +kernel
theorem dX5_layText_8 : decode cX5_layText 8 = .ok (.iconst 2, 1) := by decide +kernel
theorem dX5_layText_9 : decode cX5_layText 9 = .ok (.iadd, 1) := by decide +kernel
theorem dX5_layText_10 : decode cX5_layText 10 = .ok (.aload_n 0, 1) := by decide +kernel
theorem dX5_layText_11 : decode cX5_layText 11 = .ok (.getfield 90, 3) := by decide +kernel
theorem dX5_layText_14 : decode cX5_layText 14 = .ok (.iastore, 1) := by decide +kernel
theorem dX5_layText_15 : decode cX5_layText 15 = .ok (.iconst 0, 1) := by decide +kernel
theorem dX5_layText_16 : decode cX5_layText 16 = .ok (.istore_n 2, 1) := by decide +kernel
theorem dX5_layText_17 : decode cX5_layText 17 = .ok (.iload_n 2, 1) := by decide +kernel
theorem dX5_layText_18 : decode cX5_layText 18 = .ok (.aload_n 0, 1) := by decide +kernel
theorem dX5_layText_19 : decode cX5_layText 19 = .ok (.getfield 90, 3) := by decide +kernel
theorem dX5_layText_22 : decode cX5_layText 22 = .ok (.if_icmp .ge 29, 3) := by decide +kernel
theorem dX5_layText_25 : decode cX5_layText 25 = .ok (.aload_n 0, 1) := by decide +kernel
theorem dX5_layText_26 : decode cX5_layText 26 = .ok (.getfield 8, 3) := by decide +kernel
theorem dX5_layText_29 : decode cX5_layText 29 = .ok (.iload_n 1, 1) := by decide +kernel
theorem dX5_layText_30 : decode cX5_layText 30 = .ok (.invokestatic 230, 3) := by decide +kernel
theorem dX5_layText_33 : decode cX5_layText 33 = .ok (.bipush 112, 2) := by decide +kernel
theorem dX5_layText_35 : decode cX5_layText 35 = .ok (.iadd, 1) := by decide +kernel
theorem dX5_layText_36 : decode cX5_layText 36 = .ok (.iload_n 2, 1) := by decide +kernel
theorem dX5_layText_37 : decode cX5_layText 37 = .ok (.iadd, 1) := by decide +kernel
theorem dX5_layText_38 : decode cX5_layText 38 = .ok (.aload_n 0, 1) := by decide +kernel
theorem dX5_layText_39 : decode cX5_layText 39 = .ok (.getfield 21, 3) := by decide +kernel
theorem dX5_layText_42 : decode cX5_layText 42 = .ok (.iload_n 2, 1) := by decide +kernel
theorem dX5_layText_43 : decode cX5_layText 43 = .ok (.iaload, 1) := by decide +kernel
theorem dX5_layText_44 : decode cX5_layText 44 = .ok (.iastore, 1) := by decide +kernel
theorem dX5_layText_45 : decode cX5_layText 45 = .ok (.iinc 2 1, 3) := by decide +kernel
theorem dX5_layText_48 : decode cX5_layText 48 = .ok (.goto (-31), 3) := by decide +kernel
theorem dX5_layText_51 : decode cX5_layText 51 = .ok (.aload_n 0, 1) := by decide +kernel
theorem dX5_layText_52 : decode cX5_layText 52 = .ok (.iconst 0, 1) := by decide +kernel
theorem dX5_layText_53 : decode cX5_layText 53 = .ok (.putfield 80, 3) := by decide +kernel
theorem dX5_layText_56 : decode cX5_layText 56 = .ok (.return_, 1) := by decide +kernel
theorem dX5_cell_0 : decode cX5_cell 0 = .ok (.iload_n 1, 1) := by decide +kernel
theorem dX5_cell_1 : decode cX5_cell 1 = .ok (.invokestatic 77, 3) := by decide +kernel
theorem dX5_cell_4 : decode cX5_cell 4 = .ok (.ifCond .eq 12, 3) := by decide +kernel
theorem dX5_cell_7 : decode cX5_cell 7 = .ok (.iload_n 2, 1) := by decide +kernel
theorem dX5_cell_8 : decode cX5_cell 8 = .ok (.ifCond .lt 8, 3) := by decide +kernel
theorem dX5_cell_11 : decode cX5_cell 11 = .ok (.iload_n 2, 1) := by decide +kernel
theorem dX5_cell_12 : decode cX5_cell 12 = .ok (.iconst 1, 1) := by decide +kernel
theorem dX5_cell_13 : decode cX5_cell 13 = .ok (.if_icmp .le 5, 3) := by decide +kernel
theorem dX5_cell_16 : decode cX5_cell 16 = .ok (.iconst (-1), 1) := by decide +kernel
theorem dX5_cell_17 : decode cX5_cell 17 = .ok (.ireturn, 1) := by decide +kernel
theorem dX5_cell_18 : decode cX5_cell 18 = .ok (.aload_n 0, 1) := by decide +kernel
theorem dX5_cell_19 : decode cX5_cell 19 = .ok (.getfield 8, 3) := by decide +kernel
theorem dX5_cell_22 : decode cX5_cell 22 = .ok (.iconst 0, 1) := by decide +kernel
theorem dX5_cell_23 : decode cX5_cell 23 = .ok (.iaload, 1) := by decide +kernel
theorem dX5_cell_24 : decode cX5_cell 24 = .ok (.bipush 40, 2) := by decide +kernel
theorem dX5_cell_26 : decode cX5_cell 26 = .ok (.if_icmp .eq 15, 3) := by decide +kernel
theorem dX5_cell_29 : decode cX5_cell 29 = .ok (.aload_n 0, 1) := by decide +kernel
theorem dX5_cell_30 : decode cX5_cell 30 = .ok (.getfield 8, 3) := by decide +kernel
theorem dX5_cell_33 : decode cX5_cell 33 = .ok (.iconst 1, 1) := by decide +kernel
theorem dX5_cell_34 : decode cX5_cell 34 = .ok (.iaload, 1) := by decide +kernel
theorem dX5_cell_35 : decode cX5_cell 35 = .ok (.sipush 150, 3) := by decide +kernel
theorem dX5_cell_38 : decode cX5_cell 38 = .ok (.if_icmp .ne 6, 3) := by decide +kernel
theorem dX5_cell_41 : decode cX5_cell 41 = .ok (.bipush (-2), 2) := by decide +kernel
theorem dX5_cell_43 : decode cX5_cell 43 = .ok (.ireturn, 1) := by decide +kernel
theorem dX5_cell_44 : decode cX5_cell 44 = .ok (.aload_n 0, 1) := by decide +kernel
theorem dX5_cell_45 : decode cX5_cell 45 = .ok (.iload_n 2, 1) := by decide +kernel
theorem dX5_cell_46 : decode cX5_cell 46 = .ok (.invokevirtual 242, 3) := by decide +kernel
theorem dX5_cell_49 : decode cX5_cell 49 = .ok (.istore_n 3, 1) := by decide +kernel
theorem dX5_cell_50 : decode cX5_cell 50 = .ok (.iload_n 3, 1) := by decide +kernel
theorem dX5_cell_51 : decode cX5_cell 51 = .ok (.ifCond .lt 8, 3) := by decide +kernel
theorem dX5_cell_54 : decode cX5_cell 54 = .ok (.bipush (-100), 2) := by decide +kernel
theorem dX5_cell_56 : decode cX5_cell 56 = .ok (.iload_n 3, 1) := by decide +kernel
theorem dX5_cell_57 : decode cX5_cell 57 = .ok (.isub, 1) := by decide +kernel
theorem dX5_cell_58 : decode cX5_cell 58 = .ok (.ireturn, 1) := by decide +kernel
theorem dX5_cell_59 : decode cX5_cell 59 = .ok (.aload_n 0, 1) := by decide +kernel
theorem dX5_cell_60 : decode cX5_cell 60 = .ok (.getfield 8, 3) := by decide +kernel
theorem dX5_cell_63 : decode cX5_cell 63 = .ok (.iconst 0, 1) := by decide +kernel
theorem dX5_cell_64 : decode cX5_cell 64 = .ok (.iaload, 1) := by decide +kernel
theorem dX5_cell_65 : decode cX5_cell 65 = .ok (.istore 4, 2) := by decide +kernel
theorem dX5_cell_67 : decode cX5_cell 67 = .ok (.aload_n 0, 1) := by decide +kernel
theorem dX5_cell_68 : decode cX5_cell 68 = .ok (.getfield 8, 3) := by decide +kernel
theorem dX5_cell_71 : decode cX5_cell 71 = .ok (.iconst 0, 1) := by decide +kernel
theorem dX5_cell_72 : decode cX5_cell 72 = .ok (.dup2, 1) := by decide +kernel
theorem dX5_cell_73 : decode cX5_cell 73 = .ok (.iaload, 1) := by decide +kernel
theorem dX5_cell_74 : decode cX5_cell 74 = .ok (.iconst 1, 1) := by decide +kernel
theorem dX5_cell_75 : decode cX5_cell 75 = .ok (.iadd, 1) := by decide +kernel
theorem dX5_cell_76 : decode cX5_cell 76 = .ok (.iastore, 1) := by decide +kernel
theorem dX5_cell_77 : decode cX5_cell 77 = .ok (.aload_n 0, 1) := by decide +kernel
theorem dX5_cell_78 : decode cX5_cell 78 = .ok (.getfield 8, 3) := by decide +kernel
theorem dX5_cell_81 : decode cX5_cell 81 = .ok (.iload 4, 2) := by decide +kernel
theorem dX5_cell_83 : decode cX5_cell 83 = .ok (.invokestatic 230, 3) := by decide +kernel
theorem dX5_cell_86 : decode cX5_cell 86 = .ok (.iconst 0, 1) := by decide +kernel
theorem dX5_cell_87 : decode cX5_cell 87 = .ok (.iadd, 1) := by decide +kernel
theorem dX5_cell_88 : decode cX5_cell 88 = .ok (.iload_n 1, 1) := by decide +kernel
theorem dX5_cell_89 : decode cX5_cell 89 = .ok (.iastore, 1) := by decide +kernel
theorem dX5_cell_90 : decode cX5_cell 90 = .ok (.aload_n 0, 1) := by decide +kernel
theorem dX5_cell_91 : decode cX5_cell 91 = .ok (.getfield 8, 3) := by decide +kernel
theorem dX5_cell_94 : decode cX5_cell 94 = .ok (.iload 4, 2) := by decide +kernel
theorem dX5_cell_96 : decode cX5_cell 96 = .ok (.invokestatic 230, 3) := by decide +kernel
theorem dX5_cell_99 : decode cX5_cell 99 = .ok (.iconst 1, 1) := by decide +kernel
theorem dX5_cell_100 : decode cX5_cell 100 = .ok (.iadd, 1) := by decide +kernel
theorem dX5_cell_101 : decode cX5_cell 101 = .ok (.iload_n 2, 1) := by decide +kernel
theorem dX5_cell_102 : decode cX5_cell 102 = .ok (.iastore, 1) := by decide +kernel
theorem dX5_cell_103 : decode cX5_cell 103 = .ok (.aload_n 0, 1) := by decide +kernel
theorem dX5_cell_104 : decode cX5_cell 104 = .ok (.iload 4, 2) := by decide +kernel
theorem dX5_cell_106 : decode cX5_cell 106 = .ok (.invokevirtual 245, 3) := by decide +kernel
theorem dX5_cell_109 : decode cX5_cell 109 = .ok (.aload_n 0, 1) := by decide +kernel
theorem dX5_cell_110 : decode cX5_cell 110 = .ok (.iload 4, 2) := by decide +kernel
theorem dX5_cell_112 : decode cX5_cell 112 = .ok (.invokevirtual 248, 3) := by decide +kernel
theorem dX5_cell_115 : decode cX5_cell 115 = .ok (.istore 5, 2) := by decide +kernel
theorem dX5_cell_117 : decode cX5_cell 117 = .ok (.iload 4, 2) := by decide +kernel
theorem dX5_cell_119 : decode cX5_cell 119 = .ok (.ireturn, 1) := by decide +kernel
theorem dX5_redo_0 : decode cX5_redo 0 = .ok (.aload_n 0, 1) := by decide +kernel
theorem dX5_redo_1 : decode cX5_redo 1 = .ok (.iload_n 1, 1) := by decide +kernel
theorem dX5_redo_2 : decode cX5_redo 2 = .ok (.invokevirtual 251, 3) := by decide +kernel
theorem dX5_redo_5 : decode cX5_redo 5 = .ok (.ifCond .ne 5, 3) := by decide +kernel
theorem dX5_redo_8 : decode cX5_redo 8 = .ok (.iconst (-1), 1) := by decide +kernel
theorem dX5_redo_9 : decode cX5_redo 9 = .ok (.ireturn, 1) := by decide +kernel
theorem dX5_redo_10 : decode cX5_redo 10 = .ok (.aload_n 0, 1) := by decide +kernel
theorem dX5_redo_11 : decode cX5_redo 11 = .ok (.getfield 8, 3) := by decide +kernel
theorem dX5_redo_14 : decode cX5_redo 14 = .ok (.iconst 1, 1) := by decide +kernel
theorem dX5_redo_15 : decode cX5_redo 15 = .ok (.iaload, 1) := by decide +kernel
theorem dX5_redo_16 : decode cX5_redo 16 = .ok (.sipush 150, 3) := by decide +kernel
theorem dX5_redo_19 : decode cX5_redo 19 = .ok (.if_icmp .ne 6, 3) := by decide +kernel
theorem dX5_redo_22 : decode cX5_redo 22 = .ok (.bipush (-2), 2) := by decide +kernel
theorem dX5_redo_24 : decode cX5_redo 24 = .ok (.ireturn, 1) := by decide +kernel
theorem dX5_redo_25 : decode cX5_redo 25 = .ok (.aload_n 0, 1) := by decide +kernel
theorem dX5_redo_26 : decode cX5_redo 26 = .ok (.aload_n 0, 1) := by decide +kernel
theorem dX5_redo_27 : decode cX5_redo 27 = .ok (.getfield 8, 3) := by decide +kernel
theorem dX5_redo_30 : decode cX5_redo 30 = .ok (.iload_n 1, 1) := by decide +kernel
theorem dX5_redo_31 : decode cX5_redo 31 = .ok (.invokestatic 230, 3) := by decide +kernel
theorem dX5_redo_34 : decode cX5_redo 34 = .ok (.iconst 1, 1) := by decide +kernel
theorem dX5_redo_35 : decode cX5_redo 35 = .ok (.iadd, 1) := by decide +kernel
theorem dX5_redo_36 : decode cX5_redo 36 = .ok (.iaload, 1) := by decide +kernel
theorem dX5_redo_37 : decode cX5_redo 37 = .ok (.invokevirtual 242, 3) := by decide +kernel
theorem dX5_redo_40 : decode cX5_redo 40 = .ok (.istore_n 2, 1) := by decide +kernel
theorem dX5_redo_41 : decode cX5_redo 41 = .ok (.iload_n 2, 1) := by decide +kernel
theorem dX5_redo_42 : decode cX5_redo 42 = .ok (.ifCond .lt 8, 3) := by decide +kernel
theorem dX5_redo_45 : decode cX5_redo 45 = .ok (.bipush (-100), 2) := by decide +kernel
theorem dX5_redo_47 : decode cX5_redo 47 = .ok (.iload_n 2, 1) := by decide +kernel
theorem dX5_redo_48 : decode cX5_redo 48 = .ok (.isub, 1) := by decide +kernel
theorem dX5_redo_49 : decode cX5_redo 49 = .ok (.ireturn, 1) := by decide +kernel
theorem dX5_redo_50 : decode cX5_redo 50 = .ok (.aload_n 0, 1) := by decide +kernel
theorem dX5_redo_51 : decode cX5_redo 51 = .ok (.iload_n 1, 1) := by decide +kernel
theorem dX5_redo_52 : decode cX5_redo 52 = .ok (.invokevirtual 245, 3) := by decide +kernel
theorem dX5_redo_55 : decode cX5_redo 55 = .ok (.aload_n 0, 1) := by decide +kernel
theorem dX5_redo_56 : decode cX5_redo 56 = .ok (.iload_n 1, 1) := by decide +kernel
theorem dX5_redo_57 : decode cX5_redo 57 = .ok (.invokevirtual 248, 3) := by decide +kernel
theorem dX5_redo_60 : decode cX5_redo 60 = .ok (.ireturn, 1) := by decide +kernel
section RM
variable {ρ : Type} {p : Program} {l : Launch} {e : Env} {R : Room} {s : State} {m : MethodId} {args : Array Value} {below : List Frame} {meth : Method} {c : Code}
variable {cc : ByteArray} {nL : Nat} {rt : Option FieldType} {D : va_G} {cI cZ : ClassId} {q : Nat → Nat} {QQ : ρ → State → Prop} {pc : Nat} {lv : List (Nat × Value)}

-- run
def fR_run_b44 (n : Nat) (k10 : Int32 → Int32 → Int32 → Int32 → MR → Option (Int32 × MR)) (x1 : Int32) (x2 : Int32) (x3 : Int32) (x4 : Int32) (M : MR) : Option (Int32 × MR) :=
    k10 x1 x2 x3 (x4 + (nI 1)) M
theorem wR_run_b44 (X : gX p s m args meth c cX5_run 5 RX5 (some .int) D (tyR cI cZ)) (n : Nat) (k10 : Int32 → Int32 → Int32 → Int32 → MR → Option (Int32 × MR)) (hk10 : ∀ (x1 : Int32) (x2 : Int32) (x3 : Int32) (x4 : Int32) (M : MR), gG p l e (rmR 9 207) s m args below meth c 5 (ZR D cI cZ q (AR q s.heap.size) s.heap M) 0 0 (fun r => MQ below (QI D cI cZ q s.heap.size r) args s 0 0 (AR q s.heap.size)) 10 [(0, .ref (q 34)), (1, .int x1), (2, .int x2), (3, .int x3), (4, .int x4)] [] (k10 x1 x2 x3 x4 M)) (x1 : Int32) (x2 : Int32) (x3 : Int32) (x4 : Int32) (M : MR) : gG p l e (rmR 9 207) s m args below meth c 5 (ZR D cI cZ q (AR q s.heap.size) s.heap M) 0 0 (fun r => MQ below (QI D cI cZ q s.heap.size r) args s 0 0 (AR q s.heap.size)) 44 [(0, .ref (q 34)), (1, .int x1), (2, .int x2), (3, .int x3), (4, .int x4)] [] (fR_run_b44 n k10 x1 x2 x3 x4 M) := by
  unfold fR_run_b44
  refine g_iinc (v := (nI 1)) (lv' := [(4, .int (x4 + (nI 1))), (0, .ref (q 34)), (1, .int x1), (2, .int x2), (3, .int x3)]) X dX5_run_44 rfl (by decide) (by decide) rfl ?_
  refine g_goto (tgt := 10) X dX5_run_47 (by decide) ?_
  exact g_pick [1, 2, 3, 4, 0] rfl (hk10 x1 x2 x3 (x4 + (nI 1)) M)
def fR_run_b283 (n : Nat) (k203 : Int32 → Int32 → Int32 → MR → Option (Int32 × MR)) (x1 : Int32) (x2 : Int32) (x4 : Int32) (s0 : Int32) (s1 : Int32) (M : MR) : Option (Int32 × MR) :=
    wr M 0 62610 s0 s1 fun M1 =>
    k203 x1 x2 (x4 + (nI 1)) M1
theorem wR_run_b283 (X : gX p s m args meth c cX5_run 5 RX5 (some .int) D (tyR cI cZ)) (n : Nat) (k203 : Int32 → Int32 → Int32 → MR → Option (Int32 × MR)) (hk203 : ∀ (x1 : Int32) (x2 : Int32) (x4 : Int32) (M : MR), gG p l e (rmR 9 207) s m args below meth c 5 (ZR D cI cZ q (AR q s.heap.size) s.heap M) 0 0 (fun r => MQ below (QI D cI cZ q s.heap.size r) args s 0 0 (AR q s.heap.size)) 203 [(0, .ref (q 34)), (1, .int x1), (2, .int x2), (4, .int x4)] [] (k203 x1 x2 x4 M)) (x1 : Int32) (x2 : Int32) (x4 : Int32) (s0 : Int32) (s1 : Int32) (M : MR) : gG p l e (rmR 9 207) s m args below meth c 5 (ZR D cI cZ q (AR q s.heap.size) s.heap M) 0 0 (fun r => MQ below (QI D cI cZ q s.heap.size r) args s 0 0 (AR q s.heap.size)) 283 [(0, .ref (q 34)), (1, .int x1), (2, .int x2), (4, .int x4)] [.int s1, .int s0, .ref (q 0)] (fR_run_b283 n k203 x1 x2 x4 s0 s1 M) := by
  unfold fR_run_b283
  refine r_s_m X dX5_run_283 ?_
  intro M1
  refine g_iinc (v := (nI 1)) (lv' := [(4, .int (x4 + (nI 1))), (0, .ref (q 34)), (1, .int x1), (2, .int x2)]) X dX5_run_284 rfl (by decide) (by decide) rfl ?_
  refine g_goto (tgt := 203) X dX5_run_287 (by decide) ?_
  exact g_pick [1, 2, 3, 0] rfl (hk203 x1 x2 (x4 + (nI 1)) M1)
def fR_run_b247 (n : Nat) (k203 : Int32 → Int32 → Int32 → MR → Option (Int32 × MR)) (x1 : Int32) (x2 : Int32) (x4 : Int32) (s0 : Int32) (s1 : Int32) (M : MR) : Option (Int32 × MR) :=
    wr M 0 62610 s0 s1 fun M1 =>
    gf M1 25 fun v2 =>
    if v2 ≤ x4 then
      (fR_run_b283 n k203 x1 x2 x4 (((x2 + (nI 71)) + ((nI 2) * x4)) + (nI 1)) (nI 0) M1)
    else
      (rd M1 27 20 x4 fun v3 =>
      fR_run_b283 n k203 x1 x2 x4 (((x2 + (nI 71)) + ((nI 2) * x4)) + (nI 1)) v3 M1)
theorem wR_run_b247 (X : gX p s m args meth c cX5_run 5 RX5 (some .int) D (tyR cI cZ)) (n : Nat) (k203 : Int32 → Int32 → Int32 → MR → Option (Int32 × MR)) (hk203 : ∀ (x1 : Int32) (x2 : Int32) (x4 : Int32) (M : MR), gG p l e (rmR 9 207) s m args below meth c 5 (ZR D cI cZ q (AR q s.heap.size) s.heap M) 0 0 (fun r => MQ below (QI D cI cZ q s.heap.size r) args s 0 0 (AR q s.heap.size)) 203 [(0, .ref (q 34)), (1, .int x1), (2, .int x2), (4, .int x4)] [] (k203 x1 x2 x4 M)) (x1 : Int32) (x2 : Int32) (x4 : Int32) (s0 : Int32) (s1 : Int32) (M : MR) : gG p l e (rmR 9 207) s m args below meth c 5 (ZR D cI cZ q (AR q s.heap.size) s.heap M) 0 0 (fun r => MQ below (QI D cI cZ q s.heap.size r) args s 0 0 (AR q s.heap.size)) 247 [(0, .ref (q 34)), (1, .int x1), (2, .int x2), (4, .int x4)] [.int s1, .int s0, .ref (q 0)] (fR_run_b247 n k203 x1 x2 x4 s0 s1 M) := by
  unfold fR_run_b247
  refine r_s_m X dX5_run_247 ?_
  intro M1
  refine g_aload_n X dX5_run_248 rfl rfl ?_
  refine r_g_m X dX5_run_249 ?_
  refine g_iload_n X dX5_run_252 rfl rfl ?_
  refine g_bipush (v := (nI 71)) X dX5_run_253 (by decide) ?_
  refine g_iadd X dX5_run_255 ?_
  refine g_iconst (v := (nI 2)) X dX5_run_256 (by decide) ?_
  refine g_iload X dX5_run_257 rfl ?_
  refine g_imul X dX5_run_259 ?_
  refine g_iadd X dX5_run_260 ?_
  refine g_iconst (v := (nI 1)) X dX5_run_261 (by decide) ?_
  refine g_iadd X dX5_run_262 ?_
  refine g_iload X dX5_run_263 rfl ?_
  refine g_aload_n X dX5_run_265 rfl rfl ?_
  refine r_g_wrote X dX5_run_266 ?_
  intro v2
  refine g_icmp_ge (tgt := 282) X dX5_run_269 (by decide) ?_ ?_
  · refine g_iconst (v := (nI 0)) X dX5_run_282 (by decide) ?_
    exact g_pick [0, 1, 2, 3] rfl (wR_run_b283 X n k203 hk203 x1 x2 x4 (((x2 + (nI 71)) + ((nI 2) * x4)) + (nI 1)) (nI 0) M1)
  · refine g_aload_n X dX5_run_272 rfl rfl ?_
    refine r_g_writtenValue X dX5_run_273 ?_
    refine g_iload X dX5_run_276 rfl ?_
    refine r_l_writtenValue X dX5_run_278 ?_
    intro v3
    refine g_goto (tgt := 283) X dX5_run_279 (by decide) ?_
    exact g_pick [0, 1, 2, 3] rfl (wR_run_b283 X n k203 hk203 x1 x2 x4 (((x2 + (nI 71)) + ((nI 2) * x4)) + (nI 1)) v3 M1)
def fR_run_b246 (n : Nat) (k203 : Int32 → Int32 → Int32 → MR → Option (Int32 × MR)) (x1 : Int32) (x2 : Int32) (x4 : Int32) (s0 : Int32) (M : MR) : Option (Int32 × MR) :=
    fR_run_b247 n k203 x1 x2 x4 s0 (nI 0) M
theorem wR_run_b246 (X : gX p s m args meth c cX5_run 5 RX5 (some .int) D (tyR cI cZ)) (n : Nat) (k203 : Int32 → Int32 → Int32 → MR → Option (Int32 × MR)) (hk203 : ∀ (x1 : Int32) (x2 : Int32) (x4 : Int32) (M : MR), gG p l e (rmR 9 207) s m args below meth c 5 (ZR D cI cZ q (AR q s.heap.size) s.heap M) 0 0 (fun r => MQ below (QI D cI cZ q s.heap.size r) args s 0 0 (AR q s.heap.size)) 203 [(0, .ref (q 34)), (1, .int x1), (2, .int x2), (4, .int x4)] [] (k203 x1 x2 x4 M)) (x1 : Int32) (x2 : Int32) (x4 : Int32) (s0 : Int32) (M : MR) : gG p l e (rmR 9 207) s m args below meth c 5 (ZR D cI cZ q (AR q s.heap.size) s.heap M) 0 0 (fun r => MQ below (QI D cI cZ q s.heap.size r) args s 0 0 (AR q s.heap.size)) 246 [(0, .ref (q 34)), (1, .int x1), (2, .int x2), (4, .int x4)] [.int s0, .ref (q 0)] (fR_run_b246 n k203 x1 x2 x4 s0 M) := by
  unfold fR_run_b246
  refine g_iconst (v := (nI 0)) X dX5_run_246 (by decide) ?_
  exact g_pick [0, 1, 2, 3] rfl (wR_run_b247 X n k203 hk203 x1 x2 x4 s0 (nI 0) M)
def fR_run_b397 (n : Nat) (x2 : Int32) (M : MR) : Option (Int32 × MR) :=
    rd M 0 62610 (x2 + (nI 3)) fun v1 =>
    some (v1, M)
theorem wR_run_b397 (X : gX p s m args meth c cX5_run 5 RX5 (some .int) D (tyR cI cZ)) (n : Nat) (x2 : Int32) (M : MR) : gG p l e (rmR 9 207) s m args below meth c 5 (ZR D cI cZ q (AR q s.heap.size) s.heap M) 0 0 (fun r => MQ below (QI D cI cZ q s.heap.size r) args s 0 0 (AR q s.heap.size)) 397 [(0, .ref (q 34)), (2, .int x2)] [] (fR_run_b397 n x2 M) := by
  unfold fR_run_b397
  refine g_aload_n X dX5_run_397 rfl rfl ?_
  refine r_g_m X dX5_run_398 ?_
  refine g_iload_n X dX5_run_401 rfl rfl ?_
  refine g_iconst (v := (nI 3)) X dX5_run_402 (by decide) ?_
  refine g_iadd X dX5_run_403 ?_
  refine r_l_m X dX5_run_404 ?_
  intro v1
  exact r_iret X dX5_run_405
def fR_run_b396 (n : Nat) (x2 : Int32) (s0 : Int32) (s1 : Int32) (M : MR) : Option (Int32 × MR) :=
    wr M 0 62610 s0 s1 fun M1 =>
    fR_run_b397 n x2 M1
theorem wR_run_b396 (X : gX p s m args meth c cX5_run 5 RX5 (some .int) D (tyR cI cZ)) (n : Nat) (x2 : Int32) (s0 : Int32) (s1 : Int32) (M : MR) : gG p l e (rmR 9 207) s m args below meth c 5 (ZR D cI cZ q (AR q s.heap.size) s.heap M) 0 0 (fun r => MQ below (QI D cI cZ q s.heap.size r) args s 0 0 (AR q s.heap.size)) 396 [(0, .ref (q 34)), (2, .int x2)] [.int s1, .int s0, .ref (q 0)] (fR_run_b396 n x2 s0 s1 M) := by
  unfold fR_run_b396
  refine r_s_m X dX5_run_396 ?_
  intro M1
  exact g_pick [0, 1] rfl (wR_run_b397 X n x2 M1)
def fR_run_b363 (n : Nat) (x2 : Int32) (x4 : Int32) (s0 : Int32) (s1 : Int32) (M : MR) : Option (Int32 × MR) :=
    wr M 0 62610 s0 s1 fun M1 =>
    bnd (fR_editAt n x4 M1) fun v2 M2 =>
    rd M2 0 62610 (x2 + (nI 1)) fun v3 =>
    if v3 = 0 then
      (rd M2 11 2000 (nI 0) fun v4 =>
      fR_run_b396 n x2 (v2 + (nI 4)) v4 M2)
    else
      (fR_run_b396 n x2 (v2 + (nI 4)) (nI 0) M2)
theorem wR_run_b363 (X : gX p s m args meth c cX5_run 5 RX5 (some .int) D (tyR cI cZ)) (n : Nat) (x2 : Int32) (x4 : Int32) (s0 : Int32) (s1 : Int32) (M : MR) : gG p l e (rmR 9 207) s m args below meth c 5 (ZR D cI cZ q (AR q s.heap.size) s.heap M) 0 0 (fun r => MQ below (QI D cI cZ q s.heap.size r) args s 0 0 (AR q s.heap.size)) 363 [(0, .ref (q 34)), (2, .int x2), (4, .int x4)] [.int s1, .int s0, .ref (q 0)] (fR_run_b363 n x2 x4 s0 s1 M) := by
  unfold fR_run_b363
  refine r_s_m X dX5_run_363 ?_
  intro M1
  refine g_aload_n X dX5_run_364 rfl rfl ?_
  refine r_g_m X dX5_run_365 ?_
  refine g_iload X dX5_run_368 rfl ?_
  refine k_editAt X ⟨Nat.le_of_ble_eq_true rfl, Nat.le_of_ble_eq_true rfl⟩ (Nat.le_of_ble_eq_true rfl) dX5_run_370 ?_
  intro v2 M2
  refine g_iconst (v := (nI 4)) X dX5_run_373 (by decide) ?_
  refine g_iadd X dX5_run_374 ?_
  refine g_aload_n X dX5_run_375 rfl rfl ?_
  refine r_g_m X dX5_run_376 ?_
  refine g_iload_n X dX5_run_379 rfl rfl ?_
  refine g_iconst (v := (nI 1)) X dX5_run_380 (by decide) ?_
  refine g_iadd X dX5_run_381 ?_
  refine r_l_m X dX5_run_382 ?_
  intro v3
  refine g_if_ne (tgt := 395) X dX5_run_383 (by decide) ?_ ?_
  · refine g_iconst (v := (nI 0)) X dX5_run_395 (by decide) ?_
    exact g_pick [0, 1] rfl (wR_run_b396 X n x2 (v2 + (nI 4)) (nI 0) M2)
  · refine g_aload_n X dX5_run_386 rfl rfl ?_
    refine r_g_value X dX5_run_387 ?_
    refine g_iconst (v := (nI 0)) X dX5_run_390 (by decide) ?_
    refine r_l_value X dX5_run_391 ?_
    intro v4
    refine g_goto (tgt := 396) X dX5_run_392 (by decide) ?_
    exact g_pick [0, 1] rfl (wR_run_b396 X n x2 (v2 + (nI 4)) v4 M2)
def fR_run_b362 (n : Nat) (x2 : Int32) (x4 : Int32) (s0 : Int32) (M : MR) : Option (Int32 × MR) :=
    fR_run_b363 n x2 x4 s0 (nI 0) M
theorem wR_run_b362 (X : gX p s m args meth c cX5_run 5 RX5 (some .int) D (tyR cI cZ)) (n : Nat) (x2 : Int32) (x4 : Int32) (s0 : Int32) (M : MR) : gG p l e (rmR 9 207) s m args below meth c 5 (ZR D cI cZ q (AR q s.heap.size) s.heap M) 0 0 (fun r => MQ below (QI D cI cZ q s.heap.size r) args s 0 0 (AR q s.heap.size)) 362 [(0, .ref (q 34)), (2, .int x2), (4, .int x4)] [.int s0, .ref (q 0)] (fR_run_b362 n x2 x4 s0 M) := by
  unfold fR_run_b362
  refine g_iconst (v := (nI 0)) X dX5_run_362 (by decide) ?_
  exact g_pick [0, 1, 2] rfl (wR_run_b363 X n x2 x4 s0 (nI 0) M)
def fR_run_l203 (n : Nat) : Nat → Int32 → Int32 → Int32 → MR → Option (Int32 × MR)
  | 0, _, _, _, _ => none
  | k + 1, x1, x2, x4, M => if (nI 20) ≤ x4 then
      (wr M 0 62610 (x2 + (nI 7)) (nI 0) fun M1 =>
      gf M1 24 fun v2 =>
      if v2 = 0 then
        (bnd (fR_newEdition n x1 M1) fun v3 M3 =>
        wr M3 0 62610 (x2 + (nI 7)) (v3 + (nI 1)) fun M4 =>
        bnd (fR_editAt n v3 M4) fun v5 M5 =>
        rd M5 0 62610 (x2 + (nI 1)) fun v6 =>
        if v6 = 0 then
          (rd M5 10 2000 (nI 0) fun v7 =>
          if v7 = 0 then (fR_run_b362 n x2 v3 (v5 + (nI 3)) M5) else (fR_run_b363 n x2 v3 (v5 + (nI 3)) (nI 1) M5))
        else
          (fR_run_b362 n x2 v3 (v5 + (nI 3)) M5))
      else
        (fR_run_b397 n x2 M1))
    else
      (gf M 25 fun v8 =>
      if v8 ≤ x4 then
        (fR_run_b246 n (fR_run_l203 n k) x1 x2 x4 ((x2 + (nI 71)) + ((nI 2) * x4)) M)
      else
        (rd M 26 20 x4 fun v9 =>
        if v9 = 0 then
          (fR_run_b246 n (fR_run_l203 n k) x1 x2 x4 ((x2 + (nI 71)) + ((nI 2) * x4)) M)
        else
          (fR_run_b247 n (fR_run_l203 n k) x1 x2 x4 ((x2 + (nI 71)) + ((nI 2) * x4)) (nI 1) M)))
theorem wR_run_l203 (X : gX p s m args meth c cX5_run 5 RX5 (some .int) D (tyR cI cZ)) (n : Nat) : ∀ (k : Nat) (x1 : Int32) (x2 : Int32) (x4 : Int32) (M : MR), gG p l e (rmR 9 207) s m args below meth c 5 (ZR D cI cZ q (AR q s.heap.size) s.heap M) 0 0 (fun r => MQ below (QI D cI cZ q s.heap.size r) args s 0 0 (AR q s.heap.size)) 203 [(0, .ref (q 34)), (1, .int x1), (2, .int x2), (4, .int x4)] [] (fR_run_l203 n k x1 x2 x4 M) := by
  intro k
  induction k with
  | zero =>
    intro x1 x2 x4 M
    exact g_none
  | succ k ih =>
    intro x1 x2 x4 M
    rw [fR_run_l203]
    refine g_iload X dX5_run_203 rfl ?_
    refine g_bipush (v := (nI 20)) X dX5_run_205 (by decide) ?_
    refine g_icmp_ge (tgt := 290) X dX5_run_207 (by decide) ?_ ?_
    · refine g_aload_n X dX5_run_290 rfl rfl ?_
      refine r_g_m X dX5_run_291 ?_
      refine g_iload_n X dX5_run_294 rfl rfl ?_
      refine g_bipush (v := (nI 7)) X dX5_run_295 (by decide) ?_
      refine g_iadd X dX5_run_297 ?_
      refine g_iconst (v := (nI 0)) X dX5_run_298 (by decide) ?_
      refine r_s_m X dX5_run_299 ?_
      intro M1
      refine g_aload_n X dX5_run_300 rfl rfl ?_
      refine r_g_failure X dX5_run_301 ?_
      intro v2
      refine g_if_ne (tgt := 397) X dX5_run_304 (by decide) ?_ ?_
      · exact g_pick [0, 2] rfl (wR_run_b397 X n x2 M1)
      · refine g_aload_n X dX5_run_307 rfl rfl ?_
        refine g_iload_n X dX5_run_308 rfl rfl ?_
        refine k_newEdition X ⟨Nat.le_of_ble_eq_true rfl, Nat.le_of_ble_eq_true rfl⟩ (Nat.le_of_ble_eq_true rfl) dX5_run_309 ?_
        intro v3 M3
        refine g_istore (lv' := [(4, .int v3), (0, .ref (q 34)), (1, .int x1), (2, .int x2)]) X dX5_run_312 (by decide) rfl ?_
        refine g_aload_n X dX5_run_314 rfl rfl ?_
        refine r_g_m X dX5_run_315 ?_
        refine g_iload_n X dX5_run_318 rfl rfl ?_
        refine g_bipush (v := (nI 7)) X dX5_run_319 (by decide) ?_
        refine g_iadd X dX5_run_321 ?_
        refine g_iload X dX5_run_322 rfl ?_
        refine g_iconst (v := (nI 1)) X dX5_run_324 (by decide) ?_
        refine g_iadd X dX5_run_325 ?_
        refine r_s_m X dX5_run_326 ?_
        intro M4
        refine g_aload_n X dX5_run_327 rfl rfl ?_
        refine r_g_m X dX5_run_328 ?_
        refine g_iload X dX5_run_331 rfl ?_
        refine k_editAt X ⟨Nat.le_of_ble_eq_true rfl, Nat.le_of_ble_eq_true rfl⟩ (Nat.le_of_ble_eq_true rfl) dX5_run_333 ?_
        intro v5 M5
        refine g_iconst (v := (nI 3)) X dX5_run_336 (by decide) ?_
        refine g_iadd X dX5_run_337 ?_
        refine g_aload_n X dX5_run_338 rfl rfl ?_
        refine r_g_m X dX5_run_339 ?_
        refine g_iload_n X dX5_run_342 rfl rfl ?_
        refine g_iconst (v := (nI 1)) X dX5_run_343 (by decide) ?_
        refine g_iadd X dX5_run_344 ?_
        refine r_l_m X dX5_run_345 ?_
        intro v6
        refine g_if_ne (tgt := 362) X dX5_run_346 (by decide) ?_ ?_
        · exact g_pick [1, 3, 0] rfl (wR_run_b362 X n x2 v3 (v5 + (nI 3)) M5)
        · refine g_aload_n X dX5_run_349 rfl rfl ?_
          refine r_g_isObj X dX5_run_350 ?_
          refine g_iconst (v := (nI 0)) X dX5_run_353 (by decide) ?_
          refine r_l_isObj X dX5_run_354 ?_
          intro v7
          refine g_if_eq (tgt := 362) X dX5_run_355 (by decide) ?_ ?_
          · exact g_pick [1, 3, 0] rfl (wR_run_b362 X n x2 v3 (v5 + (nI 3)) M5)
          · refine g_iconst (v := (nI 1)) X dX5_run_358 (by decide) ?_
            refine g_goto (tgt := 363) X dX5_run_359 (by decide) ?_
            exact g_pick [1, 3, 0] rfl (wR_run_b363 X n x2 v3 (v5 + (nI 3)) (nI 1) M5)
    · refine g_aload_n X dX5_run_210 rfl rfl ?_
      refine r_g_m X dX5_run_211 ?_
      refine g_iload_n X dX5_run_214 rfl rfl ?_
      refine g_bipush (v := (nI 71)) X dX5_run_215 (by decide) ?_
      refine g_iadd X dX5_run_217 ?_
      refine g_iconst (v := (nI 2)) X dX5_run_218 (by decide) ?_
      refine g_iload X dX5_run_219 rfl ?_
      refine g_imul X dX5_run_221 ?_
      refine g_iadd X dX5_run_222 ?_
      refine g_iload X dX5_run_223 rfl ?_
      refine g_aload_n X dX5_run_225 rfl rfl ?_
      refine r_g_wrote X dX5_run_226 ?_
      intro v8
      refine g_icmp_ge (tgt := 246) X dX5_run_229 (by decide) ?_ ?_
      · exact g_pick [0, 1, 2, 3] rfl (wR_run_b246 X n (fR_run_l203 n k) ih x1 x2 x4 ((x2 + (nI 71)) + ((nI 2) * x4)) M)
      · refine g_aload_n X dX5_run_232 rfl rfl ?_
        refine r_g_isWrittenObj X dX5_run_233 ?_
        refine g_iload X dX5_run_236 rfl ?_
        refine r_l_isWrittenObj X dX5_run_238 ?_
        intro v9
        refine g_if_eq (tgt := 246) X dX5_run_239 (by decide) ?_ ?_
        · exact g_pick [0, 1, 2, 3] rfl (wR_run_b246 X n (fR_run_l203 n k) ih x1 x2 x4 ((x2 + (nI 71)) + ((nI 2) * x4)) M)
        · refine g_iconst (v := (nI 1)) X dX5_run_242 (by decide) ?_
          refine g_goto (tgt := 247) X dX5_run_243 (by decide) ?_
          exact g_pick [0, 1, 2, 3] rfl (wR_run_b247 X n (fR_run_l203 n k) ih x1 x2 x4 ((x2 + (nI 71)) + ((nI 2) * x4)) (nI 1) M)
def fR_run_b174 (n : Nat) (x1 : Int32) (x2 : Int32) (s0 : Int32) (s1 : Int32) (M : MR) : Option (Int32 × MR) :=
    wr M 0 62610 s0 s1 fun M1 =>
    gf M1 23 fun v2 =>
    wr M1 0 62610 (x2 + (nI 5)) v2 fun M3 =>
    gf M3 25 fun v4 =>
    wr M3 0 62610 (x2 + (nI 6)) v4 fun M5 =>
    fR_run_l203 n n x1 x2 (nI 0) M5
theorem wR_run_b174 (X : gX p s m args meth c cX5_run 5 RX5 (some .int) D (tyR cI cZ)) (n : Nat) (x1 : Int32) (x2 : Int32) (s0 : Int32) (s1 : Int32) (M : MR) : gG p l e (rmR 9 207) s m args below meth c 5 (ZR D cI cZ q (AR q s.heap.size) s.heap M) 0 0 (fun r => MQ below (QI D cI cZ q s.heap.size r) args s 0 0 (AR q s.heap.size)) 174 [(0, .ref (q 34)), (1, .int x1), (2, .int x2)] [.int s1, .int s0, .ref (q 0)] (fR_run_b174 n x1 x2 s0 s1 M) := by
  unfold fR_run_b174
  refine r_s_m X dX5_run_174 ?_
  intro M1
  refine g_aload_n X dX5_run_175 rfl rfl ?_
  refine r_g_m X dX5_run_176 ?_
  refine g_iload_n X dX5_run_179 rfl rfl ?_
  refine g_iconst (v := (nI 5)) X dX5_run_180 (by decide) ?_
  refine g_iadd X dX5_run_181 ?_
  refine g_aload_n X dX5_run_182 rfl rfl ?_
  refine r_g_steps X dX5_run_183 ?_
  intro v2
  refine r_s_m X dX5_run_186 ?_
  intro M3
  refine g_aload_n X dX5_run_187 rfl rfl ?_
  refine r_g_m X dX5_run_188 ?_
  refine g_iload_n X dX5_run_191 rfl rfl ?_
  refine g_bipush (v := (nI 6)) X dX5_run_192 (by decide) ?_
  refine g_iadd X dX5_run_194 ?_
  refine g_aload_n X dX5_run_195 rfl rfl ?_
  refine r_g_wrote X dX5_run_196 ?_
  intro v4
  refine r_s_m X dX5_run_199 ?_
  intro M5
  refine g_iconst (v := (nI 0)) X dX5_run_200 (by decide) ?_
  refine g_istore (lv' := [(4, .int (nI 0)), (0, .ref (q 34)), (1, .int x1), (2, .int x2)]) X dX5_run_201 (by decide) rfl ?_
  exact g_pick [1, 2, 3, 0] rfl (wR_run_l203 X n n x1 x2 (nI 0) M5)
def fR_run_b149 (n : Nat) (x1 : Int32) (x2 : Int32) (s0 : Int32) (s1 : Int32) (M : MR) : Option (Int32 × MR) :=
    wr M 0 62610 s0 s1 fun M1 =>
    gf M1 24 fun v2 =>
    if v2 = (nI 100) then
      (fR_run_b174 n x1 x2 (x2 + (nI 4)) (nI 0) M1)
    else
      (gf M1 24 fun v3 =>
      fR_run_b174 n x1 x2 (x2 + (nI 4)) v3 M1)
theorem wR_run_b149 (X : gX p s m args meth c cX5_run 5 RX5 (some .int) D (tyR cI cZ)) (n : Nat) (x1 : Int32) (x2 : Int32) (s0 : Int32) (s1 : Int32) (M : MR) : gG p l e (rmR 9 207) s m args below meth c 5 (ZR D cI cZ q (AR q s.heap.size) s.heap M) 0 0 (fun r => MQ below (QI D cI cZ q s.heap.size r) args s 0 0 (AR q s.heap.size)) 149 [(0, .ref (q 34)), (1, .int x1), (2, .int x2)] [.int s1, .int s0, .ref (q 0)] (fR_run_b149 n x1 x2 s0 s1 M) := by
  unfold fR_run_b149
  refine r_s_m X dX5_run_149 ?_
  intro M1
  refine g_aload_n X dX5_run_150 rfl rfl ?_
  refine r_g_m X dX5_run_151 ?_
  refine g_iload_n X dX5_run_154 rfl rfl ?_
  refine g_iconst (v := (nI 4)) X dX5_run_155 (by decide) ?_
  refine g_iadd X dX5_run_156 ?_
  refine g_aload_n X dX5_run_157 rfl rfl ?_
  refine r_g_failure X dX5_run_158 ?_
  intro v2
  refine g_bipush (v := (nI 100)) X dX5_run_161 (by decide) ?_
  refine g_icmp_ne (tgt := 170) X dX5_run_163 (by decide) ?_ ?_
  · refine g_aload_n X dX5_run_170 rfl rfl ?_
    refine r_g_failure X dX5_run_171 ?_
    intro v3
    exact g_pick [0, 1, 2] rfl (wR_run_b174 X n x1 x2 (x2 + (nI 4)) v3 M1)
  · refine g_iconst (v := (nI 0)) X dX5_run_166 (by decide) ?_
    refine g_goto (tgt := 174) X dX5_run_167 (by decide) ?_
    exact g_pick [0, 1, 2] rfl (wR_run_b174 X n x1 x2 (x2 + (nI 4)) (nI 0) M1)
def fR_run_b117 (n : Nat) (x1 : Int32) (x2 : Int32) (M : MR) : Option (Int32 × MR) :=
    gf M 24 fun v1 =>
    if v1 = 0 then
      (fR_run_b149 n x1 x2 (x2 + (nI 3)) (nI 0) M)
    else
      (gf M 24 fun v2 =>
      if v2 = (nI 100) then
        (fR_run_b149 n x1 x2 (x2 + (nI 3)) (nI 2) M)
      else
        (fR_run_b149 n x1 x2 (x2 + (nI 3)) (nI 1) M))
theorem wR_run_b117 (X : gX p s m args meth c cX5_run 5 RX5 (some .int) D (tyR cI cZ)) (n : Nat) (x1 : Int32) (x2 : Int32) (M : MR) : gG p l e (rmR 9 207) s m args below meth c 5 (ZR D cI cZ q (AR q s.heap.size) s.heap M) 0 0 (fun r => MQ below (QI D cI cZ q s.heap.size r) args s 0 0 (AR q s.heap.size)) 117 [(0, .ref (q 34)), (1, .int x1), (2, .int x2)] [] (fR_run_b117 n x1 x2 M) := by
  unfold fR_run_b117
  refine g_aload_n X dX5_run_117 rfl rfl ?_
  refine r_g_m X dX5_run_118 ?_
  refine g_iload_n X dX5_run_121 rfl rfl ?_
  refine g_iconst (v := (nI 3)) X dX5_run_122 (by decide) ?_
  refine g_iadd X dX5_run_123 ?_
  refine g_aload_n X dX5_run_124 rfl rfl ?_
  refine r_g_failure X dX5_run_125 ?_
  intro v1
  refine g_if_ne (tgt := 135) X dX5_run_128 (by decide) ?_ ?_
  · refine g_aload_n X dX5_run_135 rfl rfl ?_
    refine r_g_failure X dX5_run_136 ?_
    intro v2
    refine g_bipush (v := (nI 100)) X dX5_run_139 (by decide) ?_
    refine g_icmp_ne (tgt := 148) X dX5_run_141 (by decide) ?_ ?_
    · refine g_iconst (v := (nI 1)) X dX5_run_148 (by decide) ?_
      exact g_pick [0, 1, 2] rfl (wR_run_b149 X n x1 x2 (x2 + (nI 3)) (nI 1) M)
    · refine g_iconst (v := (nI 2)) X dX5_run_144 (by decide) ?_
      refine g_goto (tgt := 149) X dX5_run_145 (by decide) ?_
      exact g_pick [0, 1, 2] rfl (wR_run_b149 X n x1 x2 (x2 + (nI 3)) (nI 2) M)
  · refine g_iconst (v := (nI 0)) X dX5_run_131 (by decide) ?_
    refine g_goto (tgt := 149) X dX5_run_132 (by decide) ?_
    exact g_pick [0, 1, 2] rfl (wR_run_b149 X n x1 x2 (x2 + (nI 3)) (nI 0) M)
def fR_run_l10 (n : Nat) : Nat → Int32 → Int32 → Int32 → Int32 → MR → Option (Int32 × MR)
  | 0, _, _, _, _, _ => none
  | k + 1, x1, x2, x3, x4, M => if (nI 150) ≤ x4 then
      (wr M 0 62610 (x2 + (nI 8)) x3 fun M1 =>
      pf M1 23 (nI 0) fun M2 =>
      pf M2 24 (nI 0) fun M3 =>
      pf M3 25 (nI 0) fun M4 =>
      pf M4 12 (nI 0) fun M5 =>
      pf M5 20 (nI 0) fun M6 =>
      pf M6 21 (nI 0) fun M7 =>
      rd M7 0 62610 (x2 + (nI 1)) fun v8 =>
      if v8 = 0 then
        (gf M7 6 fun v9 =>
        bnd (fR_frame n (-1 : Int32) (nI 0) v9 (-1 : Int32) (-1 : Int32) M7) fun _ M10 =>
        bnd (fR_work n M10) fun _ M11 =>
        fR_run_b117 n x1 x2 M11)
      else
        (fR_run_b117 n x1 x2 M7))
    else
      (rd M 9 150 x4 fun v12 =>
      if v12 = 0 then
        (fR_run_b44 n (fR_run_l10 n k) x1 x2 x3 x4 M)
      else
        (wr M 0 62610 ((x2 + (nI 10)) + x3) x4 fun M13 =>
        fR_run_b44 n (fR_run_l10 n k) x1 x2 (x3 + (nI 1)) x4 M13))
theorem wR_run_l10 (X : gX p s m args meth c cX5_run 5 RX5 (some .int) D (tyR cI cZ)) (n : Nat) : ∀ (k : Nat) (x1 : Int32) (x2 : Int32) (x3 : Int32) (x4 : Int32) (M : MR), gG p l e (rmR 9 207) s m args below meth c 5 (ZR D cI cZ q (AR q s.heap.size) s.heap M) 0 0 (fun r => MQ below (QI D cI cZ q s.heap.size r) args s 0 0 (AR q s.heap.size)) 10 [(0, .ref (q 34)), (1, .int x1), (2, .int x2), (3, .int x3), (4, .int x4)] [] (fR_run_l10 n k x1 x2 x3 x4 M) := by
  intro k
  induction k with
  | zero =>
    intro x1 x2 x3 x4 M
    exact g_none
  | succ k ih =>
    intro x1 x2 x3 x4 M
    rw [fR_run_l10]
    refine g_iload X dX5_run_10 rfl ?_
    refine g_sipush (v := (nI 150)) X dX5_run_12 (by decide) ?_
    refine g_icmp_ge (tgt := 50) X dX5_run_15 (by decide) ?_ ?_
    · refine g_aload_n X dX5_run_50 rfl rfl ?_
      refine r_g_m X dX5_run_51 ?_
      refine g_iload_n X dX5_run_54 rfl rfl ?_
      refine g_bipush (v := (nI 8)) X dX5_run_55 (by decide) ?_
      refine g_iadd X dX5_run_57 ?_
      refine g_iload_n X dX5_run_58 rfl rfl ?_
      refine r_s_m X dX5_run_59 ?_
      intro M1
      refine g_aload_n X dX5_run_60 rfl rfl ?_
      refine g_iconst (v := (nI 0)) X dX5_run_61 (by decide) ?_
      refine r_p_steps X dX5_run_62 ?_
      intro M2
      refine g_aload_n X dX5_run_65 rfl rfl ?_
      refine g_iconst (v := (nI 0)) X dX5_run_66 (by decide) ?_
      refine r_p_failure X dX5_run_67 ?_
      intro M3
      refine g_aload_n X dX5_run_70 rfl rfl ?_
      refine g_iconst (v := (nI 0)) X dX5_run_71 (by decide) ?_
      refine r_p_wrote X dX5_run_72 ?_
      intro M4
      refine g_aload_n X dX5_run_75 rfl rfl ?_
      refine g_iconst (v := (nI 0)) X dX5_run_76 (by decide) ?_
      refine r_p_top X dX5_run_77 ?_
      intro M5
      refine g_aload_n X dX5_run_80 rfl rfl ?_
      refine g_iconst (v := (nI 0)) X dX5_run_81 (by decide) ?_
      refine r_p_frames X dX5_run_82 ?_
      intro M6
      refine g_aload_n X dX5_run_85 rfl rfl ?_
      refine g_iconst (v := (nI 0)) X dX5_run_86 (by decide) ?_
      refine r_p_inner X dX5_run_87 ?_
      intro M7
      refine g_aload_n X dX5_run_90 rfl rfl ?_
      refine r_g_m X dX5_run_91 ?_
      refine g_iload_n X dX5_run_94 rfl rfl ?_
      refine g_iconst (v := (nI 1)) X dX5_run_95 (by decide) ?_
      refine g_iadd X dX5_run_96 ?_
      refine r_l_m X dX5_run_97 ?_
      intro v8
      refine g_if_ne (tgt := 117) X dX5_run_98 (by decide) ?_ ?_
      · exact g_pick [0, 1, 2] rfl (wR_run_b117 X n x1 x2 M7)
      · refine g_aload_n X dX5_run_101 rfl rfl ?_
        refine g_iconst (v := (-1 : Int32)) X dX5_run_102 (by decide) ?_
        refine g_iconst (v := (nI 0)) X dX5_run_103 (by decide) ?_
        refine g_aload_n X dX5_run_104 rfl rfl ?_
        refine r_g_length X dX5_run_105 ?_
        intro v9
        refine g_iconst (v := (-1 : Int32)) X dX5_run_108 (by decide) ?_
        refine g_iconst (v := (-1 : Int32)) X dX5_run_109 (by decide) ?_
        refine k_frame X ⟨Nat.le_of_ble_eq_true rfl, Nat.le_of_ble_eq_true rfl⟩ (Nat.le_of_ble_eq_true rfl) dX5_run_110 ?_
        intro v10 M10
        refine g_aload_n X dX5_run_113 rfl rfl ?_
        refine k_work X ⟨Nat.le_of_ble_eq_true rfl, Nat.le_of_ble_eq_true rfl⟩ (Nat.le_of_ble_eq_true rfl) dX5_run_114 ?_
        intro v11 M11
        exact g_pick [0, 1, 2] rfl (wR_run_b117 X n x1 x2 M11)
    · refine g_aload_n X dX5_run_18 rfl rfl ?_
      refine r_g_leaned X dX5_run_19 ?_
      refine g_iload X dX5_run_22 rfl ?_
      refine r_l_leaned X dX5_run_24 ?_
      intro v12
      refine g_if_eq (tgt := 44) X dX5_run_25 (by decide) ?_ ?_
      · exact g_pick [0, 1, 2, 3, 4] rfl (wR_run_b44 X n (fR_run_l10 n k) ih x1 x2 x3 x4 M)
      · refine g_aload_n X dX5_run_28 rfl rfl ?_
        refine r_g_m X dX5_run_29 ?_
        refine g_iload_n X dX5_run_32 rfl rfl ?_
        refine g_bipush (v := (nI 10)) X dX5_run_33 (by decide) ?_
        refine g_iadd X dX5_run_35 ?_
        refine g_iload_n X dX5_run_36 rfl rfl ?_
        refine g_iadd X dX5_run_37 ?_
        refine g_iload X dX5_run_38 rfl ?_
        refine r_s_m X dX5_run_40 ?_
        intro M13
        refine g_iinc (v := (nI 1)) (lv' := [(3, .int (x3 + (nI 1))), (0, .ref (q 34)), (1, .int x1), (2, .int x2), (4, .int x4)]) X dX5_run_41 rfl (by decide) (by decide) rfl ?_
        exact g_pick [1, 2, 3, 0, 4] rfl (wR_run_b44 X n (fR_run_l10 n k) ih x1 x2 (x3 + (nI 1)) x4 M13)
def fR_run (n : Nat) (x1 : Int32) (M : MR) : Option (Int32 × MR) :=
    bnd (fR_cellAt n x1 M) fun v1 M1 =>
    fR_run_l10 n n x1 v1 (nI 0) (nI 0) M1
theorem c_run (l : Launch) (D : va_G) (cI cZ : ClassId) (q : Nat → Nat) (n : Nat) (x1 : Int32) (M : MR) : MetR l D cI cZ q yX5_run cX5_run 5 (some .int) 9 207 QI [.ref (q 34), .int x1] M (fR_run n x1 M) := by
  refine MetR.of (by decide) rfl (Nat.le_of_ble_eq_true rfl) ?_
  intro p e s m args below meth c X
  unfold fR_run
  refine g_pick (lv' := [(0, .ref (q 34)), (1, .int x1)]) [0, 1] rfl ?_
  refine g_iload_n X dX5_run_0 rfl rfl ?_
  refine k_cellAt X ⟨Nat.le_of_ble_eq_true rfl, Nat.le_of_ble_eq_true rfl⟩ (Nat.le_of_ble_eq_true rfl) dX5_run_1 ?_
  intro v1 M1
  refine g_istore_n (lv' := [(2, .int v1), (0, .ref (q 34)), (1, .int x1)]) X dX5_run_4 rfl (by decide) rfl ?_
  refine g_iconst (v := (nI 0)) X dX5_run_5 (by decide) ?_
  refine g_istore_n (lv' := [(3, .int (nI 0)), (2, .int v1), (0, .ref (q 34)), (1, .int x1)]) X dX5_run_6 rfl (by decide) rfl ?_
  refine g_iconst (v := (nI 0)) X dX5_run_7 (by decide) ?_
  refine g_istore (lv' := [(4, .int (nI 0)), (3, .int (nI 0)), (2, .int v1), (0, .ref (q 34)), (1, .int x1)]) X dX5_run_8 (by decide) rfl ?_
  exact g_pick [3, 4, 2, 1, 0] rfl (wR_run_l10 X n n x1 v1 (nI 0) (nI 0) M1)
theorem tc_run : Cond.code yX5_run cX5_run 5 (some .int) ∈ tt := tt_in (List.mem_of_getElem? (i := 948) (by decide +kernel)) (by decide +kernel)
theorem tl_run : Cond.methodLink RX5 248 yX5_run ∈ tt := tt_in (List.mem_of_getElem? (i := 945) (by decide +kernel)) (by decide +kernel)
theorem ti_run : Cond.instanceMethod yX5_run ∈ tt := tt_in (List.mem_of_getElem? (i := 947) (by decide +kernel)) (by decide +kernel)
theorem te_run : Cond.selects RX5 yX5_run yX5_run ∈ tt := tt_in (List.mem_of_getElem? (i := 48) (by decide +kernel)) (by decide +kernel)
theorem k_run (X : gX p s m args meth c cc nL RX5 rt D (tyR cI cZ)) {n : Nat} {x1 : Int32} {M : MR} {rest : List Value} {K : Int32 → MR → Option ρ} (hR : 9 + 1 ≤ R.frames ∧ 8 + (5 + 11) + 207 ≤ R.locals) (hcat : (rest.map fun v => v.category).sum ≤ 8) (d : decode cc pc = .ok (.invokevirtual 248, 3)) (kk : ∀ v M1, gG p l e R s m args below meth c nL (ZR D cI cZ q (AR q s.heap.size) s.heap M1) 0 0 QQ (pc + 3) lv (.int v :: rest) (K v M1)) : gG p l e R s m args below meth c nL (ZR D cI cZ q (AR q s.heap.size) s.heap M) 0 0 QQ pc lv (.int x1 :: .ref (q 34) :: rest) (bnd (fR_run n x1 M) K) := r_callVi (As := [.int x1]) X (c_run l D cI cZ q n x1 M) (cwVR (k := 1) X.2.2.2.2.1 tl_run ti_run te_run tc_run ini5 (by decide +kernel) hR) rfl rfl hcat d kk
-- lookAtTape
def fR_lookAtTape_l10 (n : Nat) : Nat → Int32 → Int32 → MR → Option (Int32 × MR)
  | 0, _, _, _ => none
  | k + 1, x1, x2, M => gf M 3 fun v1 =>
    if v1 ≤ x2 then
      (bnd (fR_looked n x1 M) fun v2 M2 =>
      some (v2, M2))
    else
      (rd M 2 60 x2 fun v3 =>
      wr M 4 60 x2 v3 fun M4 =>
      (fR_lookAtTape_l10 n k) x1 (x2 + (nI 1)) M4)
theorem wR_lookAtTape_l10 (X : gX p s m args meth c cX5_lookAtTape 3 RX5 (some .int) D (tyR cI cZ)) (n : Nat) : ∀ (k : Nat) (x1 : Int32) (x2 : Int32) (M : MR), gG p l e (rmR 8 189) s m args below meth c 3 (ZR D cI cZ q (AR q s.heap.size) s.heap M) 0 0 (fun r => MQ below (QI D cI cZ q s.heap.size r) args s 0 0 (AR q s.heap.size)) 10 [(0, .ref (q 34)), (1, .int x1), (2, .int x2)] [] (fR_lookAtTape_l10 n k x1 x2 M) := by
  intro k
  induction k with
  | zero =>
    intro x1 x2 M
    exact g_none
  | succ k ih =>
    intro x1 x2 M
    rw [fR_lookAtTape_l10]
    refine g_iload_n X dX5_lookAtTape_10 rfl rfl ?_
    refine g_aload_n X dX5_lookAtTape_11 rfl rfl ?_
    refine r_g_taped X dX5_lookAtTape_12 ?_
    intro v1
    refine g_icmp_ge (tgt := 36) X dX5_lookAtTape_15 (by decide) ?_ ?_
    · refine g_aload_n X dX5_lookAtTape_36 rfl rfl ?_
      refine g_iload_n X dX5_lookAtTape_37 rfl rfl ?_
      refine k_looked X ⟨Nat.le_of_ble_eq_true rfl, Nat.le_of_ble_eq_true rfl⟩ (Nat.le_of_ble_eq_true rfl) dX5_lookAtTape_38 ?_
      intro v2 M2
      exact r_iret X dX5_lookAtTape_41
    · refine g_aload_n X dX5_lookAtTape_18 rfl rfl ?_
      refine r_g_text X dX5_lookAtTape_19 ?_
      refine g_iload_n X dX5_lookAtTape_22 rfl rfl ?_
      refine g_aload_n X dX5_lookAtTape_23 rfl rfl ?_
      refine r_g_tape X dX5_lookAtTape_24 ?_
      refine g_iload_n X dX5_lookAtTape_27 rfl rfl ?_
      refine r_l_tape X dX5_lookAtTape_28 ?_
      intro v3
      refine r_s_text X dX5_lookAtTape_29 ?_
      intro M4
      refine g_iinc (v := (nI 1)) (lv' := [(2, .int (x2 + (nI 1))), (0, .ref (q 34)), (1, .int x1)]) X dX5_lookAtTape_30 rfl (by decide) (by decide) rfl ?_
      refine g_goto (tgt := 10) X dX5_lookAtTape_33 (by decide) ?_
      exact g_pick [1, 2, 0] rfl (ih x1 (x2 + (nI 1)) M4)
def fR_lookAtTape (n : Nat) (x1 : Int32) (M : MR) : Option (Int32 × MR) :=
    gf M 3 fun v1 =>
    pf M 6 v1 fun M2 =>
    fR_lookAtTape_l10 n n x1 (nI 0) M2
theorem c_lookAtTape (l : Launch) (D : va_G) (cI cZ : ClassId) (q : Nat → Nat) (n : Nat) (x1 : Int32) (M : MR) : MetR l D cI cZ q yX5_lookAtTape cX5_lookAtTape 3 (some .int) 8 189 QI [.ref (q 34), .int x1] M (fR_lookAtTape n x1 M) := by
  refine MetR.of (by decide) rfl (Nat.le_of_ble_eq_true rfl) ?_
  intro p e s m args below meth c X
  unfold fR_lookAtTape
  refine g_pick (lv' := [(0, .ref (q 34)), (1, .int x1)]) [0, 1] rfl ?_
  refine g_aload_n X dX5_lookAtTape_0 rfl rfl ?_
  refine g_aload_n X dX5_lookAtTape_1 rfl rfl ?_
  refine r_g_taped X dX5_lookAtTape_2 ?_
  intro v1
  refine r_p_length X dX5_lookAtTape_5 ?_
  intro M2
  refine g_iconst (v := (nI 0)) X dX5_lookAtTape_8 (by decide) ?_
  refine g_istore_n (lv' := [(2, .int (nI 0)), (0, .ref (q 34)), (1, .int x1)]) X dX5_lookAtTape_9 rfl (by decide) rfl ?_
  exact g_pick [1, 2, 0] rfl (wR_lookAtTape_l10 X n n x1 (nI 0) M2)
theorem tc_lookAtTape : Cond.code yX5_lookAtTape cX5_lookAtTape 3 (some .int) ∈ tt := tt_in (List.mem_of_getElem? (i := 895) (by decide +kernel)) (by decide +kernel)
theorem tl_lookAtTape : Cond.methodLink RX5 242 yX5_lookAtTape ∈ tt := tt_in (List.mem_of_getElem? (i := 892) (by decide +kernel)) (by decide +kernel)
theorem ti_lookAtTape : Cond.instanceMethod yX5_lookAtTape ∈ tt := tt_in (List.mem_of_getElem? (i := 894) (by decide +kernel)) (by decide +kernel)
theorem te_lookAtTape : Cond.selects RX5 yX5_lookAtTape yX5_lookAtTape ∈ tt := tt_in (List.mem_of_getElem? (i := 38) (by decide +kernel)) (by decide +kernel)
theorem k_lookAtTape (X : gX p s m args meth c cc nL RX5 rt D (tyR cI cZ)) {n : Nat} {x1 : Int32} {M : MR} {rest : List Value} {K : Int32 → MR → Option ρ} (hR : 8 + 1 ≤ R.frames ∧ 8 + (3 + 11) + 189 ≤ R.locals) (hcat : (rest.map fun v => v.category).sum ≤ 8) (d : decode cc pc = .ok (.invokevirtual 242, 3)) (kk : ∀ v M1, gG p l e R s m args below meth c nL (ZR D cI cZ q (AR q s.heap.size) s.heap M1) 0 0 QQ (pc + 3) lv (.int v :: rest) (K v M1)) : gG p l e R s m args below meth c nL (ZR D cI cZ q (AR q s.heap.size) s.heap M) 0 0 QQ pc lv (.int x1 :: .ref (q 34) :: rest) (bnd (fR_lookAtTape n x1 M) K) := r_callVi (As := [.int x1]) X (c_lookAtTape l D cI cZ q n x1 M) (cwVR (k := 1) X.2.2.2.2.1 tl_lookAtTape ti_lookAtTape te_lookAtTape tc_lookAtTape ini5 (by decide +kernel) hR) rfl rfl hcat d kk
-- lookAtCell
def fR_lookAtCell_l17 (n : Nat) : Nat → Int32 → Int32 → MR → Option (Int32 × MR)
  | 0, _, _, _ => none
  | k + 1, x1, x2, M => gf M 6 fun v1 =>
    if v1 ≤ x2 then
      (bnd (fR_cellAt n x1 M) fun v2 M2 =>
      rd M2 0 62610 (v2 + (nI 1)) fun v3 =>
      bnd (fR_looked n v3 M2) fun v4 M4 =>
      some (v4, M4))
    else
      (bnd (fR_cellAt n x1 M) fun v5 M5 =>
      rd M5 0 62610 ((v5 + (nI 112)) + x2) fun v6 =>
      wr M5 4 60 x2 v6 fun M7 =>
      (fR_lookAtCell_l17 n k) x1 (x2 + (nI 1)) M7)
theorem wR_lookAtCell_l17 (X : gX p s m args meth c cX5_lookAtCell 3 RX5 (some .int) D (tyR cI cZ)) (n : Nat) : ∀ (k : Nat) (x1 : Int32) (x2 : Int32) (M : MR), gG p l e (rmR 8 189) s m args below meth c 3 (ZR D cI cZ q (AR q s.heap.size) s.heap M) 0 0 (fun r => MQ below (QI D cI cZ q s.heap.size r) args s 0 0 (AR q s.heap.size)) 17 [(0, .ref (q 34)), (1, .int x1), (2, .int x2)] [] (fR_lookAtCell_l17 n k x1 x2 M) := by
  intro k
  induction k with
  | zero =>
    intro x1 x2 M
    exact g_none
  | succ k ih =>
    intro x1 x2 M
    rw [fR_lookAtCell_l17]
    refine g_iload_n X dX5_lookAtCell_17 rfl rfl ?_
    refine g_aload_n X dX5_lookAtCell_18 rfl rfl ?_
    refine r_g_length X dX5_lookAtCell_19 ?_
    intro v1
    refine g_icmp_ge (tgt := 51) X dX5_lookAtCell_22 (by decide) ?_ ?_
    · refine g_aload_n X dX5_lookAtCell_51 rfl rfl ?_
      refine g_aload_n X dX5_lookAtCell_52 rfl rfl ?_
      refine r_g_m X dX5_lookAtCell_53 ?_
      refine g_iload_n X dX5_lookAtCell_56 rfl rfl ?_
      refine k_cellAt X ⟨Nat.le_of_ble_eq_true rfl, Nat.le_of_ble_eq_true rfl⟩ (Nat.le_of_ble_eq_true rfl) dX5_lookAtCell_57 ?_
      intro v2 M2
      refine g_iconst (v := (nI 1)) X dX5_lookAtCell_60 (by decide) ?_
      refine g_iadd X dX5_lookAtCell_61 ?_
      refine r_l_m X dX5_lookAtCell_62 ?_
      intro v3
      refine k_looked X ⟨Nat.le_of_ble_eq_true rfl, Nat.le_of_ble_eq_true rfl⟩ (Nat.le_of_ble_eq_true rfl) dX5_lookAtCell_63 ?_
      intro v4 M4
      exact r_iret X dX5_lookAtCell_66
    · refine g_aload_n X dX5_lookAtCell_25 rfl rfl ?_
      refine r_g_text X dX5_lookAtCell_26 ?_
      refine g_iload_n X dX5_lookAtCell_29 rfl rfl ?_
      refine g_aload_n X dX5_lookAtCell_30 rfl rfl ?_
      refine r_g_m X dX5_lookAtCell_31 ?_
      refine g_iload_n X dX5_lookAtCell_34 rfl rfl ?_
      refine k_cellAt X ⟨Nat.le_of_ble_eq_true rfl, Nat.le_of_ble_eq_true rfl⟩ (Nat.le_of_ble_eq_true rfl) dX5_lookAtCell_35 ?_
      intro v5 M5
      refine g_bipush (v := (nI 112)) X dX5_lookAtCell_38 (by decide) ?_
      refine g_iadd X dX5_lookAtCell_40 ?_
      refine g_iload_n X dX5_lookAtCell_41 rfl rfl ?_
      refine g_iadd X dX5_lookAtCell_42 ?_
      refine r_l_m X dX5_lookAtCell_43 ?_
      intro v6
      refine r_s_text X dX5_lookAtCell_44 ?_
      intro M7
      refine g_iinc (v := (nI 1)) (lv' := [(2, .int (x2 + (nI 1))), (0, .ref (q 34)), (1, .int x1)]) X dX5_lookAtCell_45 rfl (by decide) (by decide) rfl ?_
      refine g_goto (tgt := 17) X dX5_lookAtCell_48 (by decide) ?_
      exact g_pick [1, 2, 0] rfl (ih x1 (x2 + (nI 1)) M7)
def fR_lookAtCell (n : Nat) (x1 : Int32) (M : MR) : Option (Int32 × MR) :=
    bnd (fR_cellAt n x1 M) fun v1 M1 =>
    rd M1 0 62610 (v1 + (nI 2)) fun v2 =>
    pf M1 6 v2 fun M3 =>
    fR_lookAtCell_l17 n n x1 (nI 0) M3
theorem c_lookAtCell (l : Launch) (D : va_G) (cI cZ : ClassId) (q : Nat → Nat) (n : Nat) (x1 : Int32) (M : MR) : MetR l D cI cZ q yX5_lookAtCell cX5_lookAtCell 3 (some .int) 8 189 QI [.ref (q 34), .int x1] M (fR_lookAtCell n x1 M) := by
  refine MetR.of (by decide) rfl (Nat.le_of_ble_eq_true rfl) ?_
  intro p e s m args below meth c X
  unfold fR_lookAtCell
  refine g_pick (lv' := [(0, .ref (q 34)), (1, .int x1)]) [0, 1] rfl ?_
  refine g_aload_n X dX5_lookAtCell_0 rfl rfl ?_
  refine g_aload_n X dX5_lookAtCell_1 rfl rfl ?_
  refine r_g_m X dX5_lookAtCell_2 ?_
  refine g_iload_n X dX5_lookAtCell_5 rfl rfl ?_
  refine k_cellAt X ⟨Nat.le_of_ble_eq_true rfl, Nat.le_of_ble_eq_true rfl⟩ (Nat.le_of_ble_eq_true rfl) dX5_lookAtCell_6 ?_
  intro v1 M1
  refine g_iconst (v := (nI 2)) X dX5_lookAtCell_9 (by decide) ?_
  refine g_iadd X dX5_lookAtCell_10 ?_
  refine r_l_m X dX5_lookAtCell_11 ?_
  intro v2
  refine r_p_length X dX5_lookAtCell_12 ?_
  intro M3
  refine g_iconst (v := (nI 0)) X dX5_lookAtCell_15 (by decide) ?_
  refine g_istore_n (lv' := [(2, .int (nI 0)), (0, .ref (q 34)), (1, .int x1)]) X dX5_lookAtCell_16 rfl (by decide) rfl ?_
  exact g_pick [1, 2, 0] rfl (wR_lookAtCell_l17 X n n x1 (nI 0) M3)
theorem tc_lookAtCell : Cond.code yX5_lookAtCell cX5_lookAtCell 3 (some .int) ∈ tt := tt_in (List.mem_of_getElem? (i := 1071) (by decide +kernel)) (by decide +kernel)
theorem tl_lookAtCell : Cond.methodLink RX5 254 yX5_lookAtCell ∈ tt := tt_in (List.mem_of_getElem? (i := 1068) (by decide +kernel)) (by decide +kernel)
theorem ti_lookAtCell : Cond.instanceMethod yX5_lookAtCell ∈ tt := tt_in (List.mem_of_getElem? (i := 1070) (by decide +kernel)) (by decide +kernel)
theorem te_lookAtCell : Cond.selects RX5 yX5_lookAtCell yX5_lookAtCell ∈ tt := tt_in (List.mem_of_getElem? (i := 76) (by decide +kernel)) (by decide +kernel)
theorem k_lookAtCell (X : gX p s m args meth c cc nL RX5 rt D (tyR cI cZ)) {n : Nat} {x1 : Int32} {M : MR} {rest : List Value} {K : Int32 → MR → Option ρ} (hR : 8 + 1 ≤ R.frames ∧ 8 + (3 + 11) + 189 ≤ R.locals) (hcat : (rest.map fun v => v.category).sum ≤ 8) (d : decode cc pc = .ok (.invokevirtual 254, 3)) (kk : ∀ v M1, gG p l e R s m args below meth c nL (ZR D cI cZ q (AR q s.heap.size) s.heap M1) 0 0 QQ (pc + 3) lv (.int v :: rest) (K v M1)) : gG p l e R s m args below meth c nL (ZR D cI cZ q (AR q s.heap.size) s.heap M) 0 0 QQ pc lv (.int x1 :: .ref (q 34) :: rest) (bnd (fR_lookAtCell n x1 M) K) := r_callVi (As := [.int x1]) X (c_lookAtCell l D cI cZ q n x1 M) (cwVR (k := 1) X.2.2.2.2.1 tl_lookAtCell ti_lookAtCell te_lookAtCell tc_lookAtCell ini5 (by decide +kernel) hR) rfl rfl hcat d kk
-- layText
def fR_layText_l17 (n : Nat) : Nat → Int32 → Int32 → MR → Option (Int32 × MR)
  | 0, _, _, _ => none
  | k + 1, x1, x2, M => gf M 6 fun v1 =>
    if v1 ≤ x2 then
      (pf M 3 (nI 0) fun M2 =>
      some (0, M2))
    else
      (bnd (fR_cellAt n x1 M) fun v3 M3 =>
      rd M3 4 60 x2 fun v4 =>
      wr M3 0 62610 ((v3 + (nI 112)) + x2) v4 fun M5 =>
      (fR_layText_l17 n k) x1 (x2 + (nI 1)) M5)
theorem wR_layText_l17 (X : gX p s m args meth c cX5_layText 3 RX5 none D (tyR cI cZ)) (n : Nat) : ∀ (k : Nat) (x1 : Int32) (x2 : Int32) (M : MR), gG p l e (rmR 1 20) s m args below meth c 3 (ZR D cI cZ q (AR q s.heap.size) s.heap M) 0 0 (fun r => MQ below (QV D cI cZ q s.heap.size r) args s 0 0 (AR q s.heap.size)) 17 [(0, .ref (q 34)), (1, .int x1), (2, .int x2)] [] (fR_layText_l17 n k x1 x2 M) := by
  intro k
  induction k with
  | zero =>
    intro x1 x2 M
    exact g_none
  | succ k ih =>
    intro x1 x2 M
    rw [fR_layText_l17]
    refine g_iload_n X dX5_layText_17 rfl rfl ?_
    refine g_aload_n X dX5_layText_18 rfl rfl ?_
    refine r_g_length X dX5_layText_19 ?_
    intro v1
    refine g_icmp_ge (tgt := 51) X dX5_layText_22 (by decide) ?_ ?_
    · refine g_aload_n X dX5_layText_51 rfl rfl ?_
      refine g_iconst (v := (nI 0)) X dX5_layText_52 (by decide) ?_
      refine r_p_taped X dX5_layText_53 ?_
      intro M2
      exact r_vret X dX5_layText_56
    · refine g_aload_n X dX5_layText_25 rfl rfl ?_
      refine r_g_m X dX5_layText_26 ?_
      refine g_iload_n X dX5_layText_29 rfl rfl ?_
      refine k_cellAt X ⟨Nat.le_of_ble_eq_true rfl, Nat.le_of_ble_eq_true rfl⟩ (Nat.le_of_ble_eq_true rfl) dX5_layText_30 ?_
      intro v3 M3
      refine g_bipush (v := (nI 112)) X dX5_layText_33 (by decide) ?_
      refine g_iadd X dX5_layText_35 ?_
      refine g_iload_n X dX5_layText_36 rfl rfl ?_
      refine g_iadd X dX5_layText_37 ?_
      refine g_aload_n X dX5_layText_38 rfl rfl ?_
      refine r_g_text X dX5_layText_39 ?_
      refine g_iload_n X dX5_layText_42 rfl rfl ?_
      refine r_l_text X dX5_layText_43 ?_
      intro v4
      refine r_s_m X dX5_layText_44 ?_
      intro M5
      refine g_iinc (v := (nI 1)) (lv' := [(2, .int (x2 + (nI 1))), (0, .ref (q 34)), (1, .int x1)]) X dX5_layText_45 rfl (by decide) (by decide) rfl ?_
      refine g_goto (tgt := 17) X dX5_layText_48 (by decide) ?_
      exact g_pick [1, 2, 0] rfl (ih x1 (x2 + (nI 1)) M5)
def fR_layText (n : Nat) (x1 : Int32) (M : MR) : Option (Int32 × MR) :=
    bnd (fR_cellAt n x1 M) fun v1 M1 =>
    gf M1 6 fun v2 =>
    wr M1 0 62610 (v1 + (nI 2)) v2 fun M3 =>
    fR_layText_l17 n n x1 (nI 0) M3
theorem c_layText (l : Launch) (D : va_G) (cI cZ : ClassId) (q : Nat → Nat) (n : Nat) (x1 : Int32) (M : MR) : MetR l D cI cZ q yX5_layText cX5_layText 3 none 1 20 QV [.ref (q 34), .int x1] M (fR_layText n x1 M) := by
  refine MetR.of (by decide) rfl (Nat.le_of_ble_eq_true rfl) ?_
  intro p e s m args below meth c X
  unfold fR_layText
  refine g_pick (lv' := [(0, .ref (q 34)), (1, .int x1)]) [0, 1] rfl ?_
  refine g_aload_n X dX5_layText_0 rfl rfl ?_
  refine r_g_m X dX5_layText_1 ?_
  refine g_iload_n X dX5_layText_4 rfl rfl ?_
  refine k_cellAt X ⟨Nat.le_of_ble_eq_true rfl, Nat.le_of_ble_eq_true rfl⟩ (Nat.le_of_ble_eq_true rfl) dX5_layText_5 ?_
  intro v1 M1
  refine g_iconst (v := (nI 2)) X dX5_layText_8 (by decide) ?_
  refine g_iadd X dX5_layText_9 ?_
  refine g_aload_n X dX5_layText_10 rfl rfl ?_
  refine r_g_length X dX5_layText_11 ?_
  intro v2
  refine r_s_m X dX5_layText_14 ?_
  intro M3
  refine g_iconst (v := (nI 0)) X dX5_layText_15 (by decide) ?_
  refine g_istore_n (lv' := [(2, .int (nI 0)), (0, .ref (q 34)), (1, .int x1)]) X dX5_layText_16 rfl (by decide) rfl ?_
  exact g_pick [1, 2, 0] rfl (wR_layText_l17 X n n x1 (nI 0) M3)
theorem tc_layText : Cond.code yX5_layText cX5_layText 3 none ∈ tt := tt_in (List.mem_of_getElem? (i := 944) (by decide +kernel)) (by decide +kernel)
theorem tl_layText : Cond.methodLink RX5 245 yX5_layText ∈ tt := tt_in (List.mem_of_getElem? (i := 941) (by decide +kernel)) (by decide +kernel)
theorem ti_layText : Cond.instanceMethod yX5_layText ∈ tt := tt_in (List.mem_of_getElem? (i := 943) (by decide +kernel)) (by decide +kernel)
theorem te_layText : Cond.selects RX5 yX5_layText yX5_layText ∈ tt := tt_in (List.mem_of_getElem? (i := 47) (by decide +kernel)) (by decide +kernel)
theorem k_layText (X : gX p s m args meth c cc nL RX5 rt D (tyR cI cZ)) {n : Nat} {x1 : Int32} {M : MR} {rest : List Value} {K : Int32 → MR → Option ρ} (hR : 1 + 1 ≤ R.frames ∧ 8 + (3 + 11) + 20 ≤ R.locals) (hcat : (rest.map fun v => v.category).sum ≤ 8) (d : decode cc pc = .ok (.invokevirtual 245, 3)) (kk : ∀ v M1, gG p l e R s m args below meth c nL (ZR D cI cZ q (AR q s.heap.size) s.heap M1) 0 0 QQ (pc + 3) lv (rest) (K v M1)) : gG p l e R s m args below meth c nL (ZR D cI cZ q (AR q s.heap.size) s.heap M) 0 0 QQ pc lv (.int x1 :: .ref (q 34) :: rest) (bnd (fR_layText n x1 M) K) := r_callVv (As := [.int x1]) X (c_layText l D cI cZ q n x1 M) (cwVR (k := 1) X.2.2.2.2.1 tl_layText ti_layText te_layText tc_layText ini5 (by decide +kernel) hR) rfl rfl hcat d kk
-- cell
def fR_cell (n : Nat) (x1 : Int32) (x2 : Int32) (M : MR) : Option (Int32 × MR) :=
    bnd (fR_isName n x1 M) fun v1 M1 =>
    if v1 = 0 then
      (some ((-1 : Int32), M1))
    else
      (if x2 < 0 then
        (some ((-1 : Int32), M1))
      else
        (if x2 ≤ (nI 1) then
          (rd M1 0 62610 (nI 0) fun v2 =>
          if v2 = (nI 40) then
            (some ((-2 : Int32), M1))
          else
            (rd M1 0 62610 (nI 1) fun v3 =>
            if v3 = (nI 150) then
              (some ((-2 : Int32), M1))
            else
              (bnd (fR_lookAtTape n x2 M1) fun v4 M4 =>
              if v4 < 0 then
                (rd M4 0 62610 (nI 0) fun v5 =>
                rd M4 0 62610 (nI 0) fun v6 =>
                wr M4 0 62610 (nI 0) (v6 + (nI 1)) fun M7 =>
                bnd (fR_cellAt n v5 M7) fun v8 M8 =>
                wr M8 0 62610 (v8 + (nI 0)) x1 fun M9 =>
                bnd (fR_cellAt n v5 M9) fun v10 M10 =>
                wr M10 0 62610 (v10 + (nI 1)) x2 fun M11 =>
                bnd (fR_layText n v5 M11) fun _ M12 =>
                bnd (fR_run n v5 M12) fun v13 M13 =>
                some (v5, M13))
              else
                (some (((-100 : Int32) - v4), M4)))))
        else
          (some ((-1 : Int32), M1))))
theorem c_cell (l : Launch) (D : va_G) (cI cZ : ClassId) (q : Nat → Nat) (n : Nat) (x1 : Int32) (x2 : Int32) (M : MR) : MetR l D cI cZ q yX5_cell cX5_cell 6 (some .int) 10 231 QI [.ref (q 34), .int x1, .int x2] M (fR_cell n x1 x2 M) := by
  refine MetR.of (by decide) rfl (Nat.le_of_ble_eq_true rfl) ?_
  intro p e s m args below meth c X
  unfold fR_cell
  refine g_pick (lv' := [(0, .ref (q 34)), (1, .int x1), (2, .int x2)]) [0, 1, 2] rfl ?_
  refine g_iload_n X dX5_cell_0 rfl rfl ?_
  refine k_isName X ⟨Nat.le_of_ble_eq_true rfl, Nat.le_of_ble_eq_true rfl⟩ (Nat.le_of_ble_eq_true rfl) dX5_cell_1 ?_
  intro v1 M1
  refine g_if_eq (tgt := 16) X dX5_cell_4 (by decide) ?_ ?_
  · refine g_iconst (v := (-1 : Int32)) X dX5_cell_16 (by decide) ?_
    exact r_iret X dX5_cell_17
  · refine g_iload_n X dX5_cell_7 rfl rfl ?_
    refine g_if_lt (tgt := 16) X dX5_cell_8 (by decide) ?_ ?_
    · refine g_iconst (v := (-1 : Int32)) X dX5_cell_16 (by decide) ?_
      exact r_iret X dX5_cell_17
    · refine g_iload_n X dX5_cell_11 rfl rfl ?_
      refine g_iconst (v := (nI 1)) X dX5_cell_12 (by decide) ?_
      refine g_icmp_le (tgt := 18) X dX5_cell_13 (by decide) ?_ ?_
      · refine g_aload_n X dX5_cell_18 rfl rfl ?_
        refine r_g_m X dX5_cell_19 ?_
        refine g_iconst (v := (nI 0)) X dX5_cell_22 (by decide) ?_
        refine r_l_m X dX5_cell_23 ?_
        intro v2
        refine g_bipush (v := (nI 40)) X dX5_cell_24 (by decide) ?_
        refine g_icmp_eq (tgt := 41) X dX5_cell_26 (by decide) ?_ ?_
        · refine g_bipush (v := (-2 : Int32)) X dX5_cell_41 (by decide) ?_
          exact r_iret X dX5_cell_43
        · refine g_aload_n X dX5_cell_29 rfl rfl ?_
          refine r_g_m X dX5_cell_30 ?_
          refine g_iconst (v := (nI 1)) X dX5_cell_33 (by decide) ?_
          refine r_l_m X dX5_cell_34 ?_
          intro v3
          refine g_sipush (v := (nI 150)) X dX5_cell_35 (by decide) ?_
          refine g_icmp_ne (tgt := 44) X dX5_cell_38 (by decide) ?_ ?_
          · refine g_aload_n X dX5_cell_44 rfl rfl ?_
            refine g_iload_n X dX5_cell_45 rfl rfl ?_
            refine k_lookAtTape X ⟨Nat.le_of_ble_eq_true rfl, Nat.le_of_ble_eq_true rfl⟩ (Nat.le_of_ble_eq_true rfl) dX5_cell_46 ?_
            intro v4 M4
            refine g_istore_n (lv' := [(3, .int v4), (0, .ref (q 34)), (1, .int x1), (2, .int x2)]) X dX5_cell_49 rfl (by decide) rfl ?_
            refine g_iload_n X dX5_cell_50 rfl rfl ?_
            refine g_if_lt (tgt := 59) X dX5_cell_51 (by decide) ?_ ?_
            · refine g_aload_n X dX5_cell_59 rfl rfl ?_
              refine r_g_m X dX5_cell_60 ?_
              refine g_iconst (v := (nI 0)) X dX5_cell_63 (by decide) ?_
              refine r_l_m X dX5_cell_64 ?_
              intro v5
              refine g_istore (lv' := [(4, .int v5), (3, .int v4), (0, .ref (q 34)), (1, .int x1), (2, .int x2)]) X dX5_cell_65 (by decide) rfl ?_
              refine g_aload_n X dX5_cell_67 rfl rfl ?_
              refine r_g_m X dX5_cell_68 ?_
              refine g_iconst (v := (nI 0)) X dX5_cell_71 (by decide) ?_
              refine g_dup2 X dX5_cell_72 rfl rfl ?_
              refine r_l_m X dX5_cell_73 ?_
              intro v6
              refine g_iconst (v := (nI 1)) X dX5_cell_74 (by decide) ?_
              refine g_iadd X dX5_cell_75 ?_
              refine r_s_m X dX5_cell_76 ?_
              intro M7
              refine g_aload_n X dX5_cell_77 rfl rfl ?_
              refine r_g_m X dX5_cell_78 ?_
              refine g_iload X dX5_cell_81 rfl ?_
              refine k_cellAt X ⟨Nat.le_of_ble_eq_true rfl, Nat.le_of_ble_eq_true rfl⟩ (Nat.le_of_ble_eq_true rfl) dX5_cell_83 ?_
              intro v8 M8
              refine g_iconst (v := (nI 0)) X dX5_cell_86 (by decide) ?_
              refine g_iadd X dX5_cell_87 ?_
              refine g_iload_n X dX5_cell_88 rfl rfl ?_
              refine r_s_m X dX5_cell_89 ?_
              intro M9
              refine g_aload_n X dX5_cell_90 rfl rfl ?_
              refine r_g_m X dX5_cell_91 ?_
              refine g_iload X dX5_cell_94 rfl ?_
              refine k_cellAt X ⟨Nat.le_of_ble_eq_true rfl, Nat.le_of_ble_eq_true rfl⟩ (Nat.le_of_ble_eq_true rfl) dX5_cell_96 ?_
              intro v10 M10
              refine g_iconst (v := (nI 1)) X dX5_cell_99 (by decide) ?_
              refine g_iadd X dX5_cell_100 ?_
              refine g_iload_n X dX5_cell_101 rfl rfl ?_
              refine r_s_m X dX5_cell_102 ?_
              intro M11
              refine g_aload_n X dX5_cell_103 rfl rfl ?_
              refine g_iload X dX5_cell_104 rfl ?_
              refine k_layText X ⟨Nat.le_of_ble_eq_true rfl, Nat.le_of_ble_eq_true rfl⟩ (Nat.le_of_ble_eq_true rfl) dX5_cell_106 ?_
              intro v12 M12
              refine g_aload_n X dX5_cell_109 rfl rfl ?_
              refine g_iload X dX5_cell_110 rfl ?_
              refine k_run X ⟨Nat.le_of_ble_eq_true rfl, Nat.le_of_ble_eq_true rfl⟩ (Nat.le_of_ble_eq_true rfl) dX5_cell_112 ?_
              intro v13 M13
              refine g_istore (lv' := [(5, .int v13), (4, .int v5), (3, .int v4), (0, .ref (q 34)), (1, .int x1), (2, .int x2)]) X dX5_cell_115 (by decide) rfl ?_
              refine g_iload X dX5_cell_117 rfl ?_
              exact r_iret X dX5_cell_119
            · refine g_bipush (v := (-100 : Int32)) X dX5_cell_54 (by decide) ?_
              refine g_iload_n X dX5_cell_56 rfl rfl ?_
              refine g_isub X dX5_cell_57 ?_
              exact r_iret X dX5_cell_58
          · refine g_bipush (v := (-2 : Int32)) X dX5_cell_41 (by decide) ?_
            exact r_iret X dX5_cell_43
      · refine g_iconst (v := (-1 : Int32)) X dX5_cell_16 (by decide) ?_
        exact r_iret X dX5_cell_17
-- redo
def fR_redo (n : Nat) (x1 : Int32) (M : MR) : Option (Int32 × MR) :=
    bnd (fR_isCell n x1 M) fun v1 M1 =>
    if v1 = 0 then
      (some ((-1 : Int32), M1))
    else
      (rd M1 0 62610 (nI 1) fun v2 =>
      if v2 = (nI 150) then
        (some ((-2 : Int32), M1))
      else
        (bnd (fR_cellAt n x1 M1) fun v3 M3 =>
        rd M3 0 62610 (v3 + (nI 1)) fun v4 =>
        bnd (fR_lookAtTape n v4 M3) fun v5 M5 =>
        if v5 < 0 then
          (bnd (fR_layText n x1 M5) fun _ M6 =>
          bnd (fR_run n x1 M6) fun v7 M7 =>
          some (v7, M7))
        else
          (some (((-100 : Int32) - v5), M5))))
theorem c_redo (l : Launch) (D : va_G) (cI cZ : ClassId) (q : Nat → Nat) (n : Nat) (x1 : Int32) (M : MR) : MetR l D cI cZ q yX5_redo cX5_redo 3 (some .int) 10 231 QI [.ref (q 34), .int x1] M (fR_redo n x1 M) := by
  refine MetR.of (by decide) rfl (Nat.le_of_ble_eq_true rfl) ?_
  intro p e s m args below meth c X
  unfold fR_redo
  refine g_pick (lv' := [(0, .ref (q 34)), (1, .int x1)]) [0, 1] rfl ?_
  refine g_aload_n X dX5_redo_0 rfl rfl ?_
  refine g_iload_n X dX5_redo_1 rfl rfl ?_
  refine k_isCell X ⟨Nat.le_of_ble_eq_true rfl, Nat.le_of_ble_eq_true rfl⟩ (Nat.le_of_ble_eq_true rfl) dX5_redo_2 ?_
  intro v1 M1
  refine g_if_ne (tgt := 10) X dX5_redo_5 (by decide) ?_ ?_
  · refine g_aload_n X dX5_redo_10 rfl rfl ?_
    refine r_g_m X dX5_redo_11 ?_
    refine g_iconst (v := (nI 1)) X dX5_redo_14 (by decide) ?_
    refine r_l_m X dX5_redo_15 ?_
    intro v2
    refine g_sipush (v := (nI 150)) X dX5_redo_16 (by decide) ?_
    refine g_icmp_ne (tgt := 25) X dX5_redo_19 (by decide) ?_ ?_
    · refine g_aload_n X dX5_redo_25 rfl rfl ?_
      refine g_aload_n X dX5_redo_26 rfl rfl ?_
      refine r_g_m X dX5_redo_27 ?_
      refine g_iload_n X dX5_redo_30 rfl rfl ?_
      refine k_cellAt X ⟨Nat.le_of_ble_eq_true rfl, Nat.le_of_ble_eq_true rfl⟩ (Nat.le_of_ble_eq_true rfl) dX5_redo_31 ?_
      intro v3 M3
      refine g_iconst (v := (nI 1)) X dX5_redo_34 (by decide) ?_
      refine g_iadd X dX5_redo_35 ?_
      refine r_l_m X dX5_redo_36 ?_
      intro v4
      refine k_lookAtTape X ⟨Nat.le_of_ble_eq_true rfl, Nat.le_of_ble_eq_true rfl⟩ (Nat.le_of_ble_eq_true rfl) dX5_redo_37 ?_
      intro v5 M5
      refine g_istore_n (lv' := [(2, .int v5), (0, .ref (q 34)), (1, .int x1)]) X dX5_redo_40 rfl (by decide) rfl ?_
      refine g_iload_n X dX5_redo_41 rfl rfl ?_
      refine g_if_lt (tgt := 50) X dX5_redo_42 (by decide) ?_ ?_
      · refine g_aload_n X dX5_redo_50 rfl rfl ?_
        refine g_iload_n X dX5_redo_51 rfl rfl ?_
        refine k_layText X ⟨Nat.le_of_ble_eq_true rfl, Nat.le_of_ble_eq_true rfl⟩ (Nat.le_of_ble_eq_true rfl) dX5_redo_52 ?_
        intro v6 M6
        refine g_aload_n X dX5_redo_55 rfl rfl ?_
        refine g_iload_n X dX5_redo_56 rfl rfl ?_
        refine k_run X ⟨Nat.le_of_ble_eq_true rfl, Nat.le_of_ble_eq_true rfl⟩ (Nat.le_of_ble_eq_true rfl) dX5_redo_57 ?_
        intro v7 M7
        exact r_iret X dX5_redo_60
      · refine g_bipush (v := (-100 : Int32)) X dX5_redo_45 (by decide) ?_
        refine g_iload_n X dX5_redo_47 rfl rfl ?_
        refine g_isub X dX5_redo_48 ?_
        exact r_iret X dX5_redo_49
    · refine g_bipush (v := (-2 : Int32)) X dX5_redo_22 (by decide) ?_
      exact r_iret X dX5_redo_24
  · refine g_iconst (v := (-1 : Int32)) X dX5_redo_8 (by decide) ?_
    exact r_iret X dX5_redo_9
end RM
