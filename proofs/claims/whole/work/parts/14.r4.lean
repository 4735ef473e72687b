theorem dX5_act_0 : decode cX5_act 0 = .ok (.aload_n 0, 1) := by decide +kernel
theorem dX5_act_1 : decode cX5_act 1 = .ok (.getfield 150, 3) := by decide +kernel
theorem dX5_act_4 : decode cX5_act 4 = .ok (.iconst 1, 1) := by decide +kernel
theorem dX5_act_5 : decode cX5_act 5 = .ok (.isub, 1) := by decide +kernel
theorem dX5_act_6 : decode cX5_act 6 = .ok (.istore_n 1, 1) := by decide +kernel
theorem dX5_act_7 : decode cX5_act 7 = .ok (.aload_n 0, 1) := by decide +kernel
theorem dX5_act_8 : decode cX5_act 8 = .ok (.iconst 0, 1) := by decide +kernel
theorem dX5_act_9 : decode cX5_act 9 = .ok (.invokevirtual 175, 3) := by decide +kernel
theorem dX5_act_12 : decode cX5_act 12 = .ok (.istore_n 2, 1) := by decide +kernel
theorem dX5_act_13 : decode cX5_act 13 = .ok (.iload_n 2, 1) := by decide +kernel
theorem dX5_act_14 : decode cX5_act 14 = .ok (.bipush 7, 2) := by decide +kernel
theorem dX5_act_16 : decode cX5_act 16 = .ok (.if_icmp .gt 11, 3) := by decide +kernel
theorem dX5_act_19 : decode cX5_act 19 = .ok (.aload_n 0, 1) := by decide +kernel
theorem dX5_act_20 : decode cX5_act 20 = .ok (.iconst 1, 1) := by decide +kernel
theorem dX5_act_21 : decode cX5_act 21 = .ok (.invokevirtual 175, 3) := by decide +kernel
theorem dX5_act_24 : decode cX5_act 24 = .ok (.goto 4, 3) := by decide +kernel
theorem dX5_act_27 : decode cX5_act 27 = .ok (.iconst 0, 1) := by decide +kernel
theorem dX5_act_28 : decode cX5_act 28 = .ok (.istore_n 3, 1) := by decide +kernel
theorem dX5_act_29 : decode cX5_act 29 = .ok (.iload_n 2, 1) := by decide +kernel
theorem dX5_act_30 : decode cX5_act 30 = .ok (.iconst 2, 1) := by decide +kernel
theorem dX5_act_31 : decode cX5_act 31 = .ok (.if_icmp .ne 9, 3) := by decide +kernel
theorem dX5_act_34 : decode cX5_act 34 = .ok (.aload_n 0, 1) := by decide +kernel
theorem dX5_act_35 : decode cX5_act 35 = .ok (.iload_n 3, 1) := by decide +kernel
theorem dX5_act_36 : decode cX5_act 36 = .ok (.invokevirtual 178, 3) := by decide +kernel
theorem dX5_act_39 : decode cX5_act 39 = .ok (.return_, 1) := by decide +kernel
theorem dX5_act_40 : decode cX5_act 40 = .ok (.aload_n 0, 1) := by decide +kernel
theorem dX5_act_41 : decode cX5_act 41 = .ok (.getfield 39, 3) := by decide +kernel
theorem dX5_act_44 : decode cX5_act 44 = .ok (.iload_n 1, 1) := by decide +kernel
theorem dX5_act_45 : decode cX5_act 45 = .ok (.dup2, 1) := by decide +kernel
theorem dX5_act_46 : decode cX5_act 46 = .ok (.iaload, 1) := by decide +kernel
theorem dX5_act_47 : decode cX5_act 47 = .ok (.iload_n 2, 1) := by decide +kernel
theorem dX5_act_48 : decode cX5_act 48 = .ok (.bipush 7, 2) := by decide +kernel
theorem dX5_act_50 : decode cX5_act 50 = .ok (.if_icmp .gt 7, 3) := by decide +kernel
theorem dX5_act_53 : decode cX5_act 53 = .ok (.iconst 2, 1) := by decide +kernel
theorem dX5_act_54 : decode cX5_act 54 = .ok (.goto 4, 3) := by decide +kernel
theorem dX5_act_57 : decode cX5_act 57 = .ok (.iconst 1, 1) := by decide +kernel
theorem dX5_act_58 : decode cX5_act 58 = .ok (.iadd, 1) := by decide +kernel
theorem dX5_act_59 : decode cX5_act 59 = .ok (.iastore, 1) := by decide +kernel
theorem dX5_act_60 : decode cX5_act 60 = .ok (.iload_n 2, 1) := by decide +kernel
theorem dX5_act_61 : decode cX5_act 61 = .ok (.ifCond .ne 12, 3) := by decide +kernel
theorem dX5_act_64 : decode cX5_act 64 = .ok (.aload_n 0, 1) := by decide +kernel
theorem dX5_act_65 : decode cX5_act 65 = .ok (.iconst 0, 1) := by decide +kernel
theorem dX5_act_66 : decode cX5_act 66 = .ok (.iload_n 3, 1) := by decide +kernel
theorem dX5_act_67 : decode cX5_act 67 = .ok (.invokevirtual 181, 3) := by decide +kernel
theorem dX5_act_70 : decode cX5_act 70 = .ok (.goto 315, 3) := by decide +kernel
theorem dX5_act_73 : decode cX5_act 73 = .ok (.iload_n 2, 1) := by decide +kernel
theorem dX5_act_74 : decode cX5_act 74 = .ok (.iconst 1, 1) := by decide +kernel
theorem dX5_act_75 : decode cX5_act 75 = .ok (.if_icmp .ne 41, 3) := by decide +kernel
theorem dX5_act_78 : decode cX5_act 78 = .ok (.aload_n 0, 1) := by decide +kernel
theorem dX5_act_79 : decode cX5_act 79 = .ok (.aload_n 0, 1) := by decide +kernel
theorem dX5_act_80 : decode cX5_act 80 = .ok (.getfield 8, 3) := by decide +kernel
theorem dX5_act_83 : decode cX5_act 83 = .ok (.iload_n 3, 1) := by decide +kernel
theorem dX5_act_84 : decode cX5_act 84 = .ok (.invokestatic 73, 3) := by decide +kernel
theorem dX5_act_87 : decode cX5_act 87 = .ok (.iconst 3, 1) := by decide +kernel
theorem dX5_act_88 : decode cX5_act 88 = .ok (.iadd, 1) := by decide +kernel
theorem dX5_act_89 : decode cX5_act 89 = .ok (.iaload, 1) := by decide +kernel
theorem dX5_act_90 : decode cX5_act 90 = .ok (.iconst 1, 1) := by decide +kernel
theorem dX5_act_91 : decode cX5_act 91 = .ok (.if_icmp .ne 7, 3) := by decide +kernel
theorem dX5_act_94 : decode cX5_act 94 = .ok (.iconst 1, 1) := by decide +kernel
theorem dX5_act_95 : decode cX5_act 95 = .ok (.goto 4, 3) := by decide +kernel
theorem dX5_act_98 : decode cX5_act 98 = .ok (.iconst 0, 1) := by decide +kernel
theorem dX5_act_99 : decode cX5_act 99 = .ok (.aload_n 0, 1) := by decide +kernel
theorem dX5_act_100 : decode cX5_act 100 = .ok (.getfield 8, 3) := by decide +kernel
theorem dX5_act_103 : decode cX5_act 103 = .ok (.iload_n 3, 1) := by decide +kernel
theorem dX5_act_104 : decode cX5_act 104 = .ok (.invokestatic 73, 3) := by decide +kernel
theorem dX5_act_107 : decode cX5_act 107 = .ok (.iconst 4, 1) := by decide +kernel
theorem dX5_act_108 : decode cX5_act 108 = .ok (.iadd, 1) := by decide +kernel
theorem dX5_act_109 : decode cX5_act 109 = .ok (.iaload, 1) := by decide +kernel
theorem dX5_act_110 : decode cX5_act 110 = .ok (.invokevirtual 181, 3) := by decide +kernel
theorem dX5_act_113 : decode cX5_act 113 = .ok (.goto 272, 3) := by decide +kernel
theorem dX5_act_116 : decode cX5_act 116 = .ok (.iload_n 2, 1) := by decide +kernel
theorem dX5_act_117 : decode cX5_act 117 = .ok (.iconst 4, 1) := by decide +kernel
theorem dX5_act_118 : decode cX5_act 118 = .ok (.if_icmp .gt 12, 3) := by decide +kernel
theorem dX5_act_121 : decode cX5_act 121 = .ok (.aload_n 0, 1) := by decide +kernel
theorem dX5_act_122 : decode cX5_act 122 = .ok (.iload_n 2, 1) := by decide +kernel
theorem dX5_act_123 : decode cX5_act 123 = .ok (.iload_n 3, 1) := by decide +kernel
theorem dX5_act_124 : decode cX5_act 124 = .ok (.invokevirtual 185, 3) := by decide +kernel
theorem dX5_act_127 : decode cX5_act 127 = .ok (.goto 258, 3) := by decide +kernel
theorem dX5_act_130 : decode cX5_act 130 = .ok (.iload_n 2, 1) := by decide +kernel
theorem dX5_act_131 : decode cX5_act 131 = .ok (.bipush 7, 2) := by decide +kernel
theorem dX5_act_133 : decode cX5_act 133 = .ok (.if_icmp .gt 12, 3) := by decide +kernel
theorem dX5_act_136 : decode cX5_act 136 = .ok (.aload_n 0, 1) := by decide +kernel
theorem dX5_act_137 : decode cX5_act 137 = .ok (.iload_n 2, 1) := by decide +kernel
theorem dX5_act_138 : decode cX5_act 138 = .ok (.iload_n 3, 1) := by decide +kernel
theorem dX5_act_139 : decode cX5_act 139 = .ok (.invokevirtual 189, 3) := by decide +kernel
theorem dX5_act_142 : decode cX5_act 142 = .ok (.goto 243, 3) := by decide +kernel
theorem dX5_act_145 : decode cX5_act 145 = .ok (.iload_n 2, 1) := by decide +kernel
theorem dX5_act_146 : decode cX5_act 146 = .ok (.bipush 12, 2) := by decide +kernel
theorem dX5_act_148 : decode cX5_act 148 = .ok (.if_icmp .gt 11, 3) := by decide +kernel
theorem dX5_act_151 : decode cX5_act 151 = .ok (.aload_n 0, 1) := by decide +kernel
theorem dX5_act_152 : decode cX5_act 152 = .ok (.iload_n 2, 1) := by decide +kernel
theorem dX5_act_153 : decode cX5_act 153 = .ok (.invokevirtual 192, 3) := by decide +kernel
theorem dX5_act_156 : decode cX5_act 156 = .ok (.goto 229, 3) := by decide +kernel
theorem dX5_act_159 : decode cX5_act 159 = .ok (.iload_n 2, 1) := by decide +kernel
theorem dX5_act_160 : decode cX5_act 160 = .ok (.bipush 13, 2) := by decide +kernel
theorem dX5_act_162 : decode cX5_act 162 = .ok (.if_icmp .ne 102, 3) := by decide +kernel
theorem dX5_act_165 : decode cX5_act 165 = .ok (.aload_n 0, 1) := by decide +kernel
theorem dX5_act_166 : decode cX5_act 166 = .ok (.dup, 1) := by decide +kernel
theorem dX5_act_167 : decode cX5_act 167 = .ok (.getfield 147, 3) := by decide +kernel
theorem dX5_act_170 : decode cX5_act 170 = .ok (.iconst 1, 1) := by decide +kernel
theorem dX5_act_171 : decode cX5_act 171 = .ok (.isub, 1) := by decide +kernel
theorem dX5_act_172 : decode cX5_act 172 = .ok (.putfield 147, 3) := by decide +kernel
theorem dX5_act_175 : decode cX5_act 175 = .ok (.aload_n 0, 1) := by decide +kernel
theorem dX5_act_176 : decode cX5_act 176 = .ok (.getfield 30, 3) := by decide +kernel
theorem dX5_act_179 : decode cX5_act 179 = .ok (.aload_n 0, 1) := by decide +kernel
theorem dX5_act_180 : decode cX5_act 180 = .ok (.getfield 147, 3) := by decide +kernel
theorem dX5_act_183 : decode cX5_act 183 = .ok (.baload, 1) := by decide +kernel
theorem dX5_act_184 : decode cX5_act 184 = .ok (.aload_n 0, 1) := by decide +kernel
theorem dX5_act_185 : decode cX5_act 185 = .ok (.getfield 30, 3) := by decide +kernel
theorem dX5_act_188 : decode cX5_act 188 = .ok (.aload_n 0, 1) := by decide +kernel
theorem dX5_act_189 : decode cX5_act 189 = .ok (.getfield 147, 3) := by decide +kernel
theorem dX5_act_192 : decode cX5_act 192 = .ok (.iconst 1, 1) := by decide +kernel
theorem dX5_act_193 : decode cX5_act 193 = .ok (.isub, 1) := by decide +kernel
theorem dX5_act_194 : decode cX5_act 194 = .ok (.baload, 1) := by decide +kernel
theorem dX5_act_195 : decode cX5_act 195 = .ok (.if_icmp .ne 30, 3) := by decide +kernel
theorem dX5_act_198 : decode cX5_act 198 = .ok (.aload_n 0, 1) := by decide +kernel
theorem dX5_act_199 : decode cX5_act 199 = .ok (.getfield 33, 3) := by decide +kernel
theorem dX5_act_202 : decode cX5_act 202 = .ok (.aload_n 0, 1) := by decide +kernel
theorem dX5_act_203 : decode cX5_act 203 = .ok (.getfield 147, 3) := by decide +kernel
theorem dX5_act_206 : decode cX5_act 206 = .ok (.iaload, 1) := by decide +kernel
theorem dX5_act_207 : decode cX5_act 207 = .ok (.aload_n 0, 1) := by decide +kernel
theorem dX5_act_208 : decode cX5_act 208 = .ok (.getfield 33, 3) := by decide +kernel
theorem dX5_act_211 : decode cX5_act 211 = .ok (.aload_n 0, 1) := by decide +kernel
theorem dX5_act_212 : decode cX5_act 212 = .ok (.getfield 147, 3) := by decide +kernel
theorem dX5_act_215 : decode cX5_act 215 = .ok (.iconst 1, 1) := by decide +kernel
theorem dX5_act_216 : decode cX5_act 216 = .ok (.isub, 1) := by decide +kernel
theorem dX5_act_217 : decode cX5_act 217 = .ok (.iaload, 1) := by decide +kernel
theorem dX5_act_218 : decode cX5_act 218 = .ok (.if_icmp .ne 7, 3) := by decide +kernel
theorem dX5_act_221 : decode cX5_act 221 = .ok (.iconst 1, 1) := by decide +kernel
theorem dX5_act_222 : decode cX5_act 222 = .ok (.goto 4, 3) := by decide +kernel
theorem dX5_act_225 : decode cX5_act 225 = .ok (.iconst 0, 1) := by decide +kernel
theorem dX5_act_226 : decode cX5_act 226 = .ok (.istore 4, 2) := by decide +kernel
theorem dX5_act_228 : decode cX5_act 228 = .ok (.aload_n 0, 1) := by decide +kernel
theorem dX5_act_229 : decode cX5_act 229 = .ok (.getfield 30, 3) := by decide +kernel
theorem dX5_act_232 : decode cX5_act 232 = .ok (.aload_n 0, 1) := by decide +kernel
theorem dX5_act_233 : decode cX5_act 233 = .ok (.getfield 147, 3) := by decide +kernel
theorem dX5_act_236 : decode cX5_act 236 = .ok (.iconst 1, 1) := by decide +kernel
theorem dX5_act_237 : decode cX5_act 237 = .ok (.isub, 1) := by decide +kernel
theorem dX5_act_238 : decode cX5_act 238 = .ok (.iconst 0, 1) := by decide +kernel
theorem dX5_act_239 : decode cX5_act 239 = .ok (.bastore, 1) := by decide +kernel
theorem dX5_act_240 : decode cX5_act 240 = .ok (.aload_n 0, 1) := by decide +kernel
theorem dX5_act_241 : decode cX5_act 241 = .ok (.getfield 33, 3) := by decide +kernel
theorem dX5_act_244 : decode cX5_act 244 = .ok (.aload_n 0, 1) := by decide +kernel
theorem dX5_act_245 : decode cX5_act 245 = .ok (.getfield 147, 3) := by decide +kernel
theorem dX5_act_248 : decode cX5_act 248 = .ok (.iconst 1, 1) := by decide +kernel
theorem dX5_act_249 : decode cX5_act 249 = .ok (.isub, 1) := by decide +kernel
theorem dX5_act_250 : decode cX5_act 250 = .ok (.iload 4, 2) := by decide +kernel
theorem dX5_act_252 : decode cX5_act 252 = .ok (.ifCond .eq 7, 3) := by decide +kernel
theorem dX5_act_255 : decode cX5_act 255 = .ok (.iconst 1, 1) := by decide +kernel
theorem dX5_act_256 : decode cX5_act 256 = .ok (.goto 4, 3) := by decide +kernel
theorem dX5_act_259 : decode cX5_act 259 = .ok (.iconst 0, 1) := by decide +kernel
theorem dX5_act_260 : decode cX5_act 260 = .ok (.iastore, 1) := by decide +kernel
theorem dX5_act_261 : decode cX5_act 261 = .ok (.goto 124, 3) := by decide +kernel
theorem dX5_act_264 : decode cX5_act 264 = .ok (.iload_n 2, 1) := by decide +kernel
theorem dX5_act_265 : decode cX5_act 265 = .ok (.bipush 14, 2) := by decide +kernel
theorem dX5_act_267 : decode cX5_act 267 = .ok (.if_icmp .ne 10, 3) := by decide +kernel
theorem dX5_act_270 : decode cX5_act 270 = .ok (.aload_n 0, 1) := by decide +kernel
theorem dX5_act_271 : decode cX5_act 271 = .ok (.invokevirtual 195, 3) := by decide +kernel
theorem dX5_act_274 : decode cX5_act 274 = .ok (.goto 111, 3) := by decide +kernel
theorem dX5_act_277 : decode cX5_act 277 = .ok (.iload_n 2, 1) := by decide +kernel
theorem dX5_act_278 : decode cX5_act 278 = .ok (.bipush 15, 2) := by decide +kernel
theorem dX5_act_280 : decode cX5_act 280 = .ok (.if_icmp .ne 10, 3) := by decide +kernel
theorem dX5_act_283 : decode cX5_act 283 = .ok (.aload_n 0, 1) := by decide +kernel
theorem dX5_act_284 : decode cX5_act 284 = .ok (.invokevirtual 198, 3) := by decide +kernel
theorem dX5_act_287 : decode cX5_act 287 = .ok (.goto 98, 3) := by decide +kernel
theorem dX5_act_290 : decode cX5_act 290 = .ok (.iload_n 2, 1) := by decide +kernel
theorem dX5_act_291 : decode cX5_act 291 = .ok (.bipush 16, 2) := by decide +kernel
theorem dX5_act_293 : decode cX5_act 293 = .ok (.if_icmp .ne 17, 3) := by decide +kernel
theorem dX5_act_296 : decode cX5_act 296 = .ok (.aload_n 0, 1) := by decide +kernel
theorem dX5_act_297 : decode cX5_act 297 = .ok (.iconst 1, 1) := by decide +kernel
theorem dX5_act_298 : decode cX5_act 298 = .ok (.aload_n 0, 1) := by decide +kernel
theorem dX5_act_299 : decode cX5_act 299 = .ok (.getfield 45, 3) := by decide +kernel
theorem dX5_act_302 : decode cX5_act 302 = .ok (.iload_n 1, 1) := by decide +kernel
theorem dX5_act_303 : decode cX5_act 303 = .ok (.iaload, 1) := by decide +kernel
theorem dX5_act_304 : decode cX5_act 304 = .ok (.invokevirtual 181, 3) := by decide +kernel
theorem dX5_act_307 : decode cX5_act 307 = .ok (.goto 78, 3) := by decide +kernel
theorem dX5_act_310 : decode cX5_act 310 = .ok (.iload_n 2, 1) := by decide +kernel
theorem dX5_act_311 : decode cX5_act 311 = .ok (.bipush 17, 2) := by decide +kernel
theorem dX5_act_313 : decode cX5_act 313 = .ok (.if_icmp .ne 22, 3) := by decide +kernel
theorem dX5_act_316 : decode cX5_act 316 = .ok (.aload_n 0, 1) := by decide +kernel
theorem dX5_act_317 : decode cX5_act 317 = .ok (.aload_n 0, 1) := by decide +kernel
theorem dX5_act_318 : decode cX5_act 318 = .ok (.getfield 48, 3) := by decide +kernel
theorem dX5_act_321 : decode cX5_act 321 = .ok (.iload_n 1, 1) := by decide +kernel
theorem dX5_act_322 : decode cX5_act 322 = .ok (.baload, 1) := by decide +kernel
theorem dX5_act_323 : decode cX5_act 323 = .ok (.aload_n 0, 1) := by decide +kernel
theorem dX5_act_324 : decode cX5_act 324 = .ok (.getfield 51, 3) := by decide +kernel
theorem dX5_act_327 : decode cX5_act 327 = .ok (.iload_n 1, 1) := by decide +kernel
theorem dX5_act_328 : decode cX5_act 328 = .ok (.iaload, 1) := by decide +kernel
theorem dX5_act_329 : decode cX5_act 329 = .ok (.invokevirtual 181, 3) := by decide +kernel
theorem dX5_act_332 : decode cX5_act 332 = .ok (.goto 53, 3) := by decide +kernel
theorem dX5_act_335 : decode cX5_act 335 = .ok (.aload_n 0, 1) := by decide +kernel
theorem dX5_act_336 : decode cX5_act 336 = .ok (.dup, 1) := by decide +kernel
theorem dX5_act_337 : decode cX5_act 337 = .ok (.getfield 147, 3) := by decide +kernel
theorem dX5_act_340 : decode cX5_act 340 = .ok (.iconst 1, 1) := by decide +kernel
theorem dX5_act_341 : decode cX5_act 341 = .ok (.isub, 1) := by decide +kernel
theorem dX5_act_342 : decode cX5_act 342 = .ok (.putfield 147, 3) := by decide +kernel
theorem dX5_act_345 : decode cX5_act 345 = .ok (.aload_n 0, 1) := by decide +kernel
theorem dX5_act_346 : decode cX5_act 346 = .ok (.getfield 30, 3) := by decide +kernel
theorem dX5_act_349 : decode cX5_act 349 = .ok (.aload_n 0, 1) := by decide +kernel
theorem dX5_act_350 : decode cX5_act 350 = .ok (.getfield 147, 3) := by decide +kernel
theorem dX5_act_353 : decode cX5_act 353 = .ok (.iconst 1, 1) := by decide +kernel
theorem dX5_act_354 : decode cX5_act 354 = .ok (.isub, 1) := by decide +kernel
theorem dX5_act_355 : decode cX5_act 355 = .ok (.aload_n 0, 1) := by decide +kernel
theorem dX5_act_356 : decode cX5_act 356 = .ok (.getfield 30, 3) := by decide +kernel
theorem dX5_act_359 : decode cX5_act 359 = .ok (.aload_n 0, 1) := by decide +kernel
theorem dX5_act_360 : decode cX5_act 360 = .ok (.getfield 147, 3) := by decide +kernel
theorem dX5_act_363 : decode cX5_act 363 = .ok (.baload, 1) := by decide +kernel
theorem dX5_act_364 : decode cX5_act 364 = .ok (.bastore, 1) := by decide +kernel
theorem dX5_act_365 : decode cX5_act 365 = .ok (.aload_n 0, 1) := by decide +kernel
theorem dX5_act_366 : decode cX5_act 366 = .ok (.getfield 33, 3) := by decide +kernel
theorem dX5_act_369 : decode cX5_act 369 = .ok (.aload_n 0, 1) := by decide +kernel
theorem dX5_act_370 : decode cX5_act 370 = .ok (.getfield 147, 3) := by decide +kernel
theorem dX5_act_373 : decode cX5_act 373 = .ok (.iconst 1, 1) := by decide +kernel
theorem dX5_act_374 : decode cX5_act 374 = .ok (.isub, 1) := by decide +kernel
theorem dX5_act_375 : decode cX5_act 375 = .ok (.aload_n 0, 1) := by decide +kernel
theorem dX5_act_376 : decode cX5_act 376 = .ok (.getfield 33, 3) := by decide +kernel
theorem dX5_act_379 : decode cX5_act 379 = .ok (.aload_n 0, 1) := by decide +kernel
theorem dX5_act_380 : decode cX5_act 380 = .ok (.getfield 147, 3) := by decide +kernel
theorem dX5_act_383 : decode cX5_act 383 = .ok (.iaload, 1) := by decide +kernel
theorem dX5_act_384 : decode cX5_act 384 = .ok (.iastore, 1) := by decide +kernel
theorem dX5_act_385 : decode cX5_act 385 = .ok (.return_, 1) := by decide +kernel
theorem dX5_work_0 : decode cX5_work 0 = .ok (.aload_n 0, 1) := by decide +kernel
theorem dX5_work_1 : decode cX5_work 1 = .ok (.iconst 0, 1) := by decide +kernel
theorem dX5_work_2 : decode cX5_work 2 = .ok (.putfield 159, 3) := by decide +kernel
theorem dX5_work_5 : decode cX5_work 5 = .ok (.aload_n 0, 1) := by decide +kernel
theorem dX5_work_6 : decode cX5_work 6 = .ok (.iconst 0, 1) := by decide +kernel
theorem dX5_work_7 : decode cX5_work 7 = .ok (.putfield 156, 3) := by decide +kernel
theorem dX5_work_10 : decode cX5_work 10 = .ok (.aload_n 0, 1) := by decide +kernel
theorem dX5_work_11 : decode cX5_work 11 = .ok (.iconst 0, 1) := by decide +kernel
theorem dX5_work_12 : decode cX5_work 12 = .ok (.putfield 162, 3) := by decide +kernel
theorem dX5_work_15 : decode cX5_work 15 = .ok (.aload_n 0, 1) := by decide +kernel
theorem dX5_work_16 : decode cX5_work 16 = .ok (.getfield 150, 3) := by decide +kernel
theorem dX5_work_19 : decode cX5_work 19 = .ok (.ifCond .le 98, 3) := by decide +kernel
theorem dX5_work_22 : decode cX5_work 22 = .ok (.aload_n 0, 1) := by decide +kernel
theorem dX5_work_23 : decode cX5_work 23 = .ok (.getfield 156, 3) := by decide +kernel
theorem dX5_work_26 : decode cX5_work 26 = .ok (.ifCond .ne 91, 3) := by decide +kernel
theorem dX5_work_29 : decode cX5_work 29 = .ok (.aload_n 0, 1) := by decide +kernel
theorem dX5_work_30 : decode cX5_work 30 = .ok (.getfield 150, 3) := by decide +kernel
theorem dX5_work_33 : decode cX5_work 33 = .ok (.iconst 1, 1) := by decide +kernel
theorem dX5_work_34 : decode cX5_work 34 = .ok (.isub, 1) := by decide +kernel
theorem dX5_work_35 : decode cX5_work 35 = .ok (.istore_n 1, 1) := by decide +kernel
theorem dX5_work_36 : decode cX5_work 36 = .ok (.aload_n 0, 1) := by decide +kernel
theorem dX5_work_37 : decode cX5_work 37 = .ok (.getfield 39, 3) := by decide +kernel
theorem dX5_work_40 : decode cX5_work 40 = .ok (.iload_n 1, 1) := by decide +kernel
theorem dX5_work_41 : decode cX5_work 41 = .ok (.iaload, 1) := by decide +kernel
theorem dX5_work_42 : decode cX5_work 42 = .ok (.aload_n 0, 1) := by decide +kernel
theorem dX5_work_43 : decode cX5_work 43 = .ok (.getfield 42, 3) := by decide +kernel
theorem dX5_work_46 : decode cX5_work 46 = .ok (.iload_n 1, 1) := by decide +kernel
theorem dX5_work_47 : decode cX5_work 47 = .ok (.iaload, 1) := by decide +kernel
theorem dX5_work_48 : decode cX5_work 48 = .ok (.if_icmp .ne 10, 3) := by decide +kernel
theorem dX5_work_51 : decode cX5_work 51 = .ok (.aload_n 0, 1) := by decide +kernel
theorem dX5_work_52 : decode cX5_work 52 = .ok (.invokevirtual 166, 3) := by decide +kernel
theorem dX5_work_55 : decode cX5_work 55 = .ok (.goto 59, 3) := by decide +kernel
theorem dX5_work_58 : decode cX5_work 58 = .ok (.aload_n 0, 1) := by decide +kernel
theorem dX5_work_59 : decode cX5_work 59 = .ok (.getfield 162, 3) := by decide +kernel
theorem dX5_work_62 : decode cX5_work 62 = .ok (.ifCond .ne 22, 3) := by decide +kernel
theorem dX5_work_65 : decode cX5_work 65 = .ok (.aload_n 0, 1) := by decide +kernel
theorem dX5_work_66 : decode cX5_work 66 = .ok (.getfield 159, 3) := by decide +kernel
theorem dX5_work_69 : decode cX5_work 69 = .ok (.sipush 1000, 3) := by decide +kernel
theorem dX5_work_72 : decode cX5_work 72 = .ok (.if_icmp .ne 12, 3) := by decide +kernel
theorem dX5_work_75 : decode cX5_work 75 = .ok (.aload_n 0, 1) := by decide +kernel
theorem dX5_work_76 : decode cX5_work 76 = .ok (.bipush 100, 2) := by decide +kernel
theorem dX5_work_78 : decode cX5_work 78 = .ok (.invokevirtual 169, 3) := by decide +kernel
theorem dX5_work_81 : decode cX5_work 81 = .ok (.goto 33, 3) := by decide +kernel
theorem dX5_work_84 : decode cX5_work 84 = .ok (.aload_n 0, 1) := by decide +kernel
theorem dX5_work_85 : decode cX5_work 85 = .ok (.dup, 1) := by decide +kernel
theorem dX5_work_86 : decode cX5_work 86 = .ok (.getfield 159, 3) := by decide +kernel
theorem dX5_work_89 : decode cX5_work 89 = .ok (.aload_n 0, 1) := by decide +kernel
theorem dX5_work_90 : decode cX5_work 90 = .ok (.getfield 162, 3) := by decide +kernel
theorem dX5_work_93 : decode cX5_work 93 = .ok (.ifCond .eq 7, 3) := by decide +kernel
theorem dX5_work_96 : decode cX5_work 96 = .ok (.iconst 0, 1) := by decide +kernel
theorem dX5_work_97 : decode cX5_work 97 = .ok (.goto 4, 3) := by decide +kernel
theorem dX5_work_100 : decode cX5_work 100 = .ok (.iconst 1, 1) := by decide +kernel
theorem dX5_work_101 : decode cX5_work 101 = .ok (.iadd, 1) := by decide +kernel
theorem dX5_work_102 : decode cX5_work 102 = .ok (.putfield 159, 3) := by decide +kernel
theorem dX5_work_105 : decode cX5_work 105 = .ok (.aload_n 0, 1) := by decide +kernel
theorem dX5_work_106 : decode cX5_work 106 = .ok (.iconst 0, 1) := by decide +kernel
theorem dX5_work_107 : decode cX5_work 107 = .ok (.putfield 162, 3) := by decide +kernel
theorem dX5_work_110 : decode cX5_work 110 = .ok (.aload_n 0, 1) := by decide +kernel
theorem dX5_work_111 : decode cX5_work 111 = .ok (.invokevirtual 172, 3) := by decide +kernel
theorem dX5_work_114 : decode cX5_work 114 = .ok (.goto (-99), 3) := by decide +kernel
theorem dX5_work_117 : decode cX5_work 117 = .ok (.return_, 1) := by decide +kernel
theorem dX5_newEdition_0 : decode cX5_newEdition 0 = .ok (.aload_n 0, 1) := by decide +kernel
theorem dX5_newEdition_1 : decode cX5_newEdition 1 = .ok (.getfield 8, 3) := by decide +kernel
theorem dX5_newEdition_4 : decode cX5_newEdition 4 = .ok (.iconst 1, 1) := by decide +kernel
theorem dX5_newEdition_5 : decode cX5_newEdition 5 = .ok (.iaload, 1) := by decide +kernel
theorem dX5_newEdition_6 : decode cX5_newEdition 6 = .ok (.istore_n 2, 1) := by decide +kernel
theorem dX5_newEdition_7 : decode cX5_newEdition 7 = .ok (.aload_n 0, 1) := by decide +kernel
theorem dX5_newEdition_8 : decode cX5_newEdition 8 = .ok (.getfield 8, 3) := by decide +kernel
theorem dX5_newEdition_11 : decode cX5_newEdition 11 = .ok (.iconst 1, 1) := by decide +kernel
theorem dX5_newEdition_12 : decode cX5_newEdition 12 = .ok (.dup2, 1) := by decide +kernel
theorem dX5_newEdition_13 : decode cX5_newEdition 13 = .ok (.iaload, 1) := by decide +kernel
theorem dX5_newEdition_14 : decode cX5_newEdition 14 = .ok (.iconst 1, 1) := by decide +kernel
theorem dX5_newEdition_15 : decode cX5_newEdition 15 = .ok (.iadd, 1) := by decide +kernel
theorem dX5_newEdition_16 : decode cX5_newEdition 16 = .ok (.iastore, 1) := by decide +kernel
theorem dX5_newEdition_17 : decode cX5_newEdition 17 = .ok (.iload_n 2, 1) := by decide +kernel
theorem dX5_newEdition_18 : decode cX5_newEdition 18 = .ok (.invokestatic 73, 3) := by decide +kernel
theorem dX5_newEdition_21 : decode cX5_newEdition 21 = .ok (.istore_n 3, 1) := by decide +kernel
theorem dX5_newEdition_22 : decode cX5_newEdition 22 = .ok (.aload_n 0, 1) := by decide +kernel
theorem dX5_newEdition_23 : decode cX5_newEdition 23 = .ok (.getfield 8, 3) := by decide +kernel
theorem dX5_newEdition_26 : decode cX5_newEdition 26 = .ok (.iload_n 3, 1) := by decide +kernel
theorem dX5_newEdition_27 : decode cX5_newEdition 27 = .ok (.iconst 0, 1) := by decide +kernel
theorem dX5_newEdition_28 : decode cX5_newEdition 28 = .ok (.iadd, 1) := by decide +kernel
theorem dX5_newEdition_29 : decode cX5_newEdition 29 = .ok (.aload_n 0, 1) := by decide +kernel
theorem dX5_newEdition_30 : decode cX5_newEdition 30 = .ok (.getfield 8, 3) := by decide +kernel
theorem dX5_newEdition_33 : decode cX5_newEdition 33 = .ok (.iload_n 1, 1) := by decide +kernel
theorem dX5_newEdition_34 : decode cX5_newEdition 34 = .ok (.invokestatic 230, 3) := by decide +kernel
theorem dX5_newEdition_37 : decode cX5_newEdition 37 = .ok (.iconst 0, 1) := by decide +kernel
theorem dX5_newEdition_38 : decode cX5_newEdition 38 = .ok (.iadd, 1) := by decide +kernel
theorem dX5_newEdition_39 : decode cX5_newEdition 39 = .ok (.iaload, 1) := by decide +kernel
theorem dX5_newEdition_40 : decode cX5_newEdition 40 = .ok (.iastore, 1) := by decide +kernel
theorem dX5_newEdition_41 : decode cX5_newEdition 41 = .ok (.aload_n 0, 1) := by decide +kernel
theorem dX5_newEdition_42 : decode cX5_newEdition 42 = .ok (.getfield 8, 3) := by decide +kernel
theorem dX5_newEdition_45 : decode cX5_newEdition 45 = .ok (.iload_n 3, 1) := by decide +kernel
theorem dX5_newEdition_46 : decode cX5_newEdition 46 = .ok (.iconst 1, 1) := by decide +kernel
theorem dX5_newEdition_47 : decode cX5_newEdition 47 = .ok (.iadd, 1) := by decide +kernel
theorem dX5_newEdition_48 : decode cX5_newEdition 48 = .ok (.aload_n 0, 1) := by decide +kernel
theorem dX5_newEdition_49 : decode cX5_newEdition 49 = .ok (.getfield 8, 3) := by decide +kernel
theorem dX5_newEdition_52 : decode cX5_newEdition 52 = .ok (.iload_n 1, 1) := by decide +kernel
theorem dX5_newEdition_53 : decode cX5_newEdition 53 = .ok (.invokestatic 230, 3) := by decide +kernel
theorem dX5_newEdition_56 : decode cX5_newEdition 56 = .ok (.iconst 1, 1) := by decide +kernel
theorem dX5_newEdition_57 : decode cX5_newEdition 57 = .ok (.iadd, 1) := by decide +kernel
theorem dX5_newEdition_58 : decode cX5_newEdition 58 = .ok (.iaload, 1) := by decide +kernel
theorem dX5_newEdition_59 : decode cX5_newEdition 59 = .ok (.iastore, 1) := by decide +kernel
theorem dX5_newEdition_60 : decode cX5_newEdition 60 = .ok (.aload_n 0, 1) := by decide +kernel
theorem dX5_newEdition_61 : decode cX5_newEdition 61 = .ok (.getfield 8, 3) := by decide +kernel
theorem dX5_newEdition_64 : decode cX5_newEdition 64 = .ok (.iload_n 3, 1) := by decide +kernel
theorem dX5_newEdition_65 : decode cX5_newEdition 65 = .ok (.iconst 2, 1) := by decide +kernel
theorem dX5_newEdition_66 : decode cX5_newEdition 66 = .ok (.iadd, 1) := by decide +kernel
theorem dX5_newEdition_67 : decode cX5_newEdition 67 = .ok (.iload_n 1, 1) := by decide +kernel
theorem dX5_newEdition_68 : decode cX5_newEdition 68 = .ok (.iastore, 1) := by decide +kernel
theorem dX5_newEdition_69 : decode cX5_newEdition 69 = .ok (.aload_n 0, 1) := by decide +kernel
theorem dX5_newEdition_70 : decode cX5_newEdition 70 = .ok (.getfield 8, 3) := by decide +kernel
theorem dX5_newEdition_73 : decode cX5_newEdition 73 = .ok (.iload_n 3, 1) := by decide +kernel
theorem dX5_newEdition_74 : decode cX5_newEdition 74 = .ok (.iconst 3, 1) := by decide +kernel
theorem dX5_newEdition_75 : decode cX5_newEdition 75 = .ok (.iadd, 1) := by decide +kernel
theorem dX5_newEdition_76 : decode cX5_newEdition 76 = .ok (.iconst 0, 1) := by decide +kernel
theorem dX5_newEdition_77 : decode cX5_newEdition 77 = .ok (.iastore, 1) := by decide +kernel
theorem dX5_newEdition_78 : decode cX5_newEdition 78 = .ok (.aload_n 0, 1) := by decide +kernel
theorem dX5_newEdition_79 : decode cX5_newEdition 79 = .ok (.getfield 8, 3) := by decide +kernel
theorem dX5_newEdition_82 : decode cX5_newEdition 82 = .ok (.iload_n 3, 1) := by decide +kernel
theorem dX5_newEdition_83 : decode cX5_newEdition 83 = .ok (.iconst 4, 1) := by decide +kernel
theorem dX5_newEdition_84 : decode cX5_newEdition 84 = .ok (.iadd, 1) := by decide +kernel
theorem dX5_newEdition_85 : decode cX5_newEdition 85 = .ok (.iconst 0, 1) := by decide +kernel
theorem dX5_newEdition_86 : decode cX5_newEdition 86 = .ok (.iastore, 1) := by decide +kernel
theorem dX5_newEdition_87 : decode cX5_newEdition 87 = .ok (.aload_n 0, 1) := by decide +kernel
theorem dX5_newEdition_88 : decode cX5_newEdition 88 = .ok (.getfield 8, 3) := by decide +kernel
theorem dX5_newEdition_91 : decode cX5_newEdition 91 = .ok (.iload_n 3, 1) := by decide +kernel
theorem dX5_newEdition_92 : decode cX5_newEdition 92 = .ok (.iconst 5, 1) := by decide +kernel
theorem dX5_newEdition_93 : decode cX5_newEdition 93 = .ok (.iadd, 1) := by decide +kernel
theorem dX5_newEdition_94 : decode cX5_newEdition 94 = .ok (.iconst 0, 1) := by decide +kernel
theorem dX5_newEdition_95 : decode cX5_newEdition 95 = .ok (.iastore, 1) := by decide +kernel
theorem dX5_newEdition_96 : decode cX5_newEdition 96 = .ok (.aload_n 0, 1) := by decide +kernel
theorem dX5_newEdition_97 : decode cX5_newEdition 97 = .ok (.getfield 8, 3) := by decide +kernel
theorem dX5_newEdition_100 : decode cX5_newEdition 100 = .ok (.iload_n 3, 1) := by decide +kernel
theorem dX5_newEdition_101 : decode cX5_newEdition 101 = .ok (.bipush 6, 2) := by decide +kernel
theorem dX5_newEdition_103 : decode cX5_newEdition 103 = .ok (.iadd, 1) := by decide +kernel
theorem dX5_newEdition_104 : decode cX5_newEdition 104 = .ok (.iconst 0, 1) := by decide +kernel
theorem dX5_newEdition_105 : decode cX5_newEdition 105 = .ok (.iastore, 1) := by decide +kernel
theorem dX5_newEdition_106 : decode cX5_newEdition 106 = .ok (.aload_n 0, 1) := by decide +kernel
theorem dX5_newEdition_107 : decode cX5_newEdition 107 = .ok (.getfield 8, 3) := by decide +kernel
theorem dX5_newEdition_110 : decode cX5_newEdition 110 = .ok (.iload_n 3, 1) := by decide +kernel
theorem dX5_newEdition_111 : decode cX5_newEdition 111 = .ok (.bipush 7, 2) := by decide +kernel
theorem dX5_newEdition_113 : decode cX5_newEdition 113 = .ok (.iadd, 1) := by decide +kernel
theorem dX5_newEdition_114 : decode cX5_newEdition 114 = .ok (.aload_n 0, 1) := by decide +kernel
theorem dX5_newEdition_115 : decode cX5_newEdition 115 = .ok (.getfield 90, 3) := by decide +kernel
theorem dX5_newEdition_118 : decode cX5_newEdition 118 = .ok (.iastore, 1) := by decide +kernel
theorem dX5_newEdition_119 : decode cX5_newEdition 119 = .ok (.iconst 0, 1) := by decide +kernel
theorem dX5_newEdition_120 : decode cX5_newEdition 120 = .ok (.istore 4, 2) := by decide +kernel
theorem dX5_newEdition_122 : decode cX5_newEdition 122 = .ok (.iload 4, 2) := by decide +kernel
theorem dX5_newEdition_124 : decode cX5_newEdition 124 = .ok (.aload_n 0, 1) := by decide +kernel
theorem dX5_newEdition_125 : decode cX5_newEdition 125 = .ok (.getfield 90, 3) := by decide +kernel
theorem dX5_newEdition_128 : decode cX5_newEdition 128 = .ok (.if_icmp .ge 28, 3) := by decide +kernel
theorem dX5_newEdition_131 : decode cX5_newEdition 131 = .ok (.aload_n 0, 1) := by decide +kernel
theorem dX5_newEdition_132 : decode cX5_newEdition 132 = .ok (.getfield 8, 3) := by decide +kernel
theorem dX5_newEdition_135 : decode cX5_newEdition 135 = .ok (.iload_n 3, 1) := by decide +kernel
theorem dX5_newEdition_136 : decode cX5_newEdition 136 = .ok (.bipush 8, 2) := by decide +kernel
theorem dX5_newEdition_138 : decode cX5_newEdition 138 = .ok (.iadd, 1) := by decide +kernel
theorem dX5_newEdition_139 : decode cX5_newEdition 139 = .ok (.iload 4, 2) := by decide +kernel
theorem dX5_newEdition_141 : decode cX5_newEdition 141 = .ok (.iadd, 1) := by decide +kernel
theorem dX5_newEdition_142 : decode cX5_newEdition 142 = .ok (.aload_n 0, 1) := by decide +kernel
theorem dX5_newEdition_143 : decode cX5_newEdition 143 = .ok (.getfield 24, 3) := by decide +kernel
theorem dX5_newEdition_146 : decode cX5_newEdition 146 = .ok (.iload 4, 2) := by decide +kernel
theorem dX5_newEdition_148 : decode cX5_newEdition 148 = .ok (.iaload, 1) := by decide +kernel
theorem dX5_newEdition_149 : decode cX5_newEdition 149 = .ok (.iastore, 1) := by decide +kernel
theorem dX5_newEdition_150 : decode cX5_newEdition 150 = .ok (.iinc 4 1, 3) := by decide +kernel
theorem dX5_newEdition_153 : decode cX5_newEdition 153 = .ok (.goto (-31), 3) := by decide +kernel
theorem dX5_newEdition_156 : decode cX5_newEdition 156 = .ok (.aload_n 0, 1) := by decide +kernel
theorem dX5_newEdition_157 : decode cX5_newEdition 157 = .ok (.getfield 8, 3) := by decide +kernel
theorem dX5_newEdition_160 : decode cX5_newEdition 160 = .ok (.iconst 4, 1) := by decide +kernel
theorem dX5_newEdition_161 : decode cX5_newEdition 161 = .ok (.aload_n 0, 1) := by decide +kernel
theorem dX5_newEdition_162 : decode cX5_newEdition 162 = .ok (.getfield 8, 3) := by decide +kernel
theorem dX5_newEdition_165 : decode cX5_newEdition 165 = .ok (.iload_n 3, 1) := by decide +kernel
theorem dX5_newEdition_166 : decode cX5_newEdition 166 = .ok (.iconst 0, 1) := by decide +kernel
theorem dX5_newEdition_167 : decode cX5_newEdition 167 = .ok (.iadd, 1) := by decide +kernel
theorem dX5_newEdition_168 : decode cX5_newEdition 168 = .ok (.iaload, 1) := by decide +kernel
theorem dX5_newEdition_169 : decode cX5_newEdition 169 = .ok (.iadd, 1) := by decide +kernel
theorem dX5_newEdition_170 : decode cX5_newEdition 170 = .ok (.iload_n 2, 1) := by decide +kernel
theorem dX5_newEdition_171 : decode cX5_newEdition 171 = .ok (.iconst 1, 1) := by decide +kernel
theorem dX5_newEdition_172 : decode cX5_newEdition 172 = .ok (.iadd, 1) := by decide +kernel
theorem dX5_newEdition_173 : decode cX5_newEdition 173 = .ok (.iastore, 1) := by decide +kernel
theorem dX5_newEdition_174 : decode cX5_newEdition 174 = .ok (.iload_n 2, 1) := by decide +kernel
theorem dX5_newEdition_175 : decode cX5_newEdition 175 = .ok (.ireturn, 1) := by decide +kernel
section RM
variable {ρ : Type} {p : Program} {l : Launch} {e : Env} {R : Room} {s : State} {m : MethodId} {args : Array Value} {below : List Frame} {meth : Method} {c : Code}
variable {cc : ByteArray} {nL : Nat} {rt : Option FieldType} {D : va_G} {cI cZ : ClassId} {q : Nat → Nat} {QQ : ρ → State → Prop} {pc : Nat} {lv : List (Nat × Value)}

-- act
def fR_act_b99 (n : Nat) (x3 : Int32) (s0 : Int32) (M : MR) : Option (Int32 × MR) :=
    bnd (fR_editAt n x3 M) fun v1 M1 =>
    rd M1 0 62610 (v1 + (nI 4)) fun v2 =>
    bnd (fR_push n s0 v2 M1) fun _ M3 =>
    some (0, M3)
theorem wR_act_b99 (X : gX p s m args meth c cX5_act 5 RX5 none D (tyR cI cZ)) (n : Nat) (x3 : Int32) (s0 : Int32) (M : MR) : gG p l e (rmR 7 162) s m args below meth c 5 (ZR D cI cZ q (AR q s.heap.size) s.heap M) 0 0 (fun r => MQ below (QV D cI cZ q s.heap.size r) args s 0 0 (AR q s.heap.size)) 99 [(0, .ref (q 34)), (3, .int x3)] [.int s0, .ref (q 34)] (fR_act_b99 n x3 s0 M) := by
  unfold fR_act_b99
  refine g_aload_n X dX5_act_99 rfl rfl ?_
  refine r_g_m X dX5_act_100 ?_
  refine g_iload_n X dX5_act_103 rfl rfl ?_
  refine k_editAt X ⟨Nat.le_of_ble_eq_true rfl, Nat.le_of_ble_eq_true rfl⟩ (Nat.le_of_ble_eq_true rfl) dX5_act_104 ?_
  intro v1 M1
  refine g_iconst (v := (nI 4)) X dX5_act_107 (by decide) ?_
  refine g_iadd X dX5_act_108 ?_
  refine r_l_m X dX5_act_109 ?_
  intro v2
  refine k_push X ⟨Nat.le_of_ble_eq_true rfl, Nat.le_of_ble_eq_true rfl⟩ (Nat.le_of_ble_eq_true rfl) dX5_act_110 ?_
  intro v3 M3
  refine g_goto (tgt := 385) X dX5_act_113 (by decide) ?_
  exact r_vret X dX5_act_385
def fR_act_b226 (n : Nat) (s0 : Int32) (M : MR) : Option (Int32 × MR) :=
    gf M 12 fun v1 =>
    wz M 10 2000 (v1 - (nI 1)) (nI 0) fun M2 =>
    gf M2 12 fun v3 =>
    if s0 = 0 then
      (wr M2 11 2000 (v3 - (nI 1)) (nI 0) fun M4 =>
      some (0, M4))
    else
      (wr M2 11 2000 (v3 - (nI 1)) (nI 1) fun M5 =>
      some (0, M5))
theorem wR_act_b226 (X : gX p s m args meth c cX5_act 5 RX5 none D (tyR cI cZ)) (n : Nat) (s0 : Int32) (M : MR) : gG p l e (rmR 7 162) s m args below meth c 5 (ZR D cI cZ q (AR q s.heap.size) s.heap M) 0 0 (fun r => MQ below (QV D cI cZ q s.heap.size r) args s 0 0 (AR q s.heap.size)) 226 [(0, .ref (q 34))] [.int s0] (fR_act_b226 n s0 M) := by
  unfold fR_act_b226
  refine g_istore (lv' := [(4, .int s0), (0, .ref (q 34))]) X dX5_act_226 (by decide) rfl ?_
  refine g_aload_n X dX5_act_228 rfl rfl ?_
  refine r_g_isObj X dX5_act_229 ?_
  refine g_aload_n X dX5_act_232 rfl rfl ?_
  refine r_g_top X dX5_act_233 ?_
  intro v1
  refine g_iconst (v := (nI 1)) X dX5_act_236 (by decide) ?_
  refine g_isub X dX5_act_237 ?_
  refine g_iconst (v := (nI 0)) X dX5_act_238 (by decide) ?_
  refine r_s_isObj X dX5_act_239 ?_
  intro M2
  refine g_aload_n X dX5_act_240 rfl rfl ?_
  refine r_g_value X dX5_act_241 ?_
  refine g_aload_n X dX5_act_244 rfl rfl ?_
  refine r_g_top X dX5_act_245 ?_
  intro v3
  refine g_iconst (v := (nI 1)) X dX5_act_248 (by decide) ?_
  refine g_isub X dX5_act_249 ?_
  refine g_iload X dX5_act_250 rfl ?_
  refine g_if_eq (tgt := 259) X dX5_act_252 (by decide) ?_ ?_
  · refine g_iconst (v := (nI 0)) X dX5_act_259 (by decide) ?_
    refine r_s_value X dX5_act_260 ?_
    intro M4
    refine g_goto (tgt := 385) X dX5_act_261 (by decide) ?_
    exact r_vret X dX5_act_385
  · refine g_iconst (v := (nI 1)) X dX5_act_255 (by decide) ?_
    refine g_goto (tgt := 260) X dX5_act_256 (by decide) ?_
    refine r_s_value X dX5_act_260 ?_
    intro M5
    refine g_goto (tgt := 385) X dX5_act_261 (by decide) ?_
    exact r_vret X dX5_act_385
def fR_act_b225 (n : Nat) (M : MR) : Option (Int32 × MR) :=
    fR_act_b226 n (nI 0) M
theorem wR_act_b225 (X : gX p s m args meth c cX5_act 5 RX5 none D (tyR cI cZ)) (n : Nat) (M : MR) : gG p l e (rmR 7 162) s m args below meth c 5 (ZR D cI cZ q (AR q s.heap.size) s.heap M) 0 0 (fun r => MQ below (QV D cI cZ q s.heap.size r) args s 0 0 (AR q s.heap.size)) 225 [(0, .ref (q 34))] [] (fR_act_b225 n M) := by
  unfold fR_act_b225
  refine g_iconst (v := (nI 0)) X dX5_act_225 (by decide) ?_
  exact g_pick [0] rfl (wR_act_b226 X n (nI 0) M)
def fR_act_b58 (n : Nat) (x1 : Int32) (x2 : Int32) (x3 : Int32) (s0 : Int32) (s1 : Int32) (s2 : Int32) (M : MR) : Option (Int32 × MR) :=
    wr M 14 22 s0 (s1 + s2) fun M1 =>
    if x2 = 0 then
      (bnd (fR_push n (nI 0) x3 M1) fun _ M34 =>
      some (0, M34))
    else
      (if x2 = (nI 1) then
        (bnd (fR_editAt n x3 M1) fun v32 M32 =>
        rd M32 0 62610 (v32 + (nI 3)) fun v33 =>
        if v33 = (nI 1) then (fR_act_b99 n x3 (nI 1) M32) else (fR_act_b99 n x3 (nI 0) M32))
      else
        (if (nI 4) < x2 then
          (if (nI 7) < x2 then
            (if (nI 12) < x2 then
              (if x2 = (nI 13) then
                (gf M1 12 fun v19 =>
                pf M1 12 (v19 - (nI 1)) fun M20 =>
                gf M20 12 fun v21 =>
                rd M20 10 2000 v21 fun v22 =>
                gf M20 12 fun v23 =>
                rd M20 10 2000 (v23 - (nI 1)) fun v24 =>
                if v22 = v24 then
                  (gf M20 12 fun v25 =>
                  rd M20 11 2000 v25 fun v26 =>
                  gf M20 12 fun v27 =>
                  rd M20 11 2000 (v27 - (nI 1)) fun v28 =>
                  if v26 = v28 then (fR_act_b226 n (nI 1) M20) else (fR_act_b225 n M20))
                else
                  (fR_act_b225 n M20))
              else
                (if x2 = (nI 14) then
                  (bnd (fR_choose n M1) fun _ M18 =>
                  some (0, M18))
                else
                  (if x2 = (nI 15) then
                    (bnd (fR_write n M1) fun _ M17 =>
                    some (0, M17))
                  else
                    (if x2 = (nI 16) then
                      (rd M1 16 22 x1 fun v15 =>
                      bnd (fR_push n (nI 1) v15 M1) fun _ M16 =>
                      some (0, M16))
                    else
                      (if x2 = (nI 17) then
                        (rd M1 17 22 x1 fun v12 =>
                        rd M1 18 22 x1 fun v13 =>
                        bnd (fR_push n v12 v13 M1) fun _ M14 =>
                        some (0, M14))
                      else
                        (gf M1 12 fun v2 =>
                        pf M1 12 (v2 - (nI 1)) fun M3 =>
                        gf M3 12 fun v4 =>
                        gf M3 12 fun v5 =>
                        rd M3 10 2000 v5 fun v6 =>
                        wz M3 10 2000 (v4 - (nI 1)) v6 fun M7 =>
                        gf M7 12 fun v8 =>
                        gf M7 12 fun v9 =>
                        rd M7 11 2000 v9 fun v10 =>
                        wr M7 11 2000 (v8 - (nI 1)) v10 fun M11 =>
                        some (0, M11)))))))
            else
              (bnd (fR_reckon n x2 M1) fun _ M29 =>
              some (0, M29)))
          else
            (bnd (fR_ofObject n x2 x3 M1) fun _ M30 =>
            some (0, M30)))
        else
          (bnd (fR_ask n x2 x3 M1) fun _ M31 =>
          some (0, M31))))
theorem wR_act_b58 (X : gX p s m args meth c cX5_act 5 RX5 none D (tyR cI cZ)) (n : Nat) (x1 : Int32) (x2 : Int32) (x3 : Int32) (s0 : Int32) (s1 : Int32) (s2 : Int32) (M : MR) : gG p l e (rmR 7 162) s m args below meth c 5 (ZR D cI cZ q (AR q s.heap.size) s.heap M) 0 0 (fun r => MQ below (QV D cI cZ q s.heap.size r) args s 0 0 (AR q s.heap.size)) 58 [(0, .ref (q 34)), (1, .int x1), (2, .int x2), (3, .int x3)] [.int s2, .int s1, .int s0, .ref (q 14)] (fR_act_b58 n x1 x2 x3 s0 s1 s2 M) := by
  unfold fR_act_b58
  refine g_iadd X dX5_act_58 ?_
  refine r_s_place X dX5_act_59 ?_
  intro M1
  refine g_iload_n X dX5_act_60 rfl rfl ?_
  refine g_if_ne (tgt := 73) X dX5_act_61 (by decide) ?_ ?_
  · refine g_iload_n X dX5_act_73 rfl rfl ?_
    refine g_iconst (v := (nI 1)) X dX5_act_74 (by decide) ?_
    refine g_icmp_ne (tgt := 116) X dX5_act_75 (by decide) ?_ ?_
    · refine g_iload_n X dX5_act_116 rfl rfl ?_
      refine g_iconst (v := (nI 4)) X dX5_act_117 (by decide) ?_
      refine g_icmp_gt (tgt := 130) X dX5_act_118 (by decide) ?_ ?_
      · refine g_iload_n X dX5_act_130 rfl rfl ?_
        refine g_bipush (v := (nI 7)) X dX5_act_131 (by decide) ?_
        refine g_icmp_gt (tgt := 145) X dX5_act_133 (by decide) ?_ ?_
        · refine g_iload_n X dX5_act_145 rfl rfl ?_
          refine g_bipush (v := (nI 12)) X dX5_act_146 (by decide) ?_
          refine g_icmp_gt (tgt := 159) X dX5_act_148 (by decide) ?_ ?_
          · refine g_iload_n X dX5_act_159 rfl rfl ?_
            refine g_bipush (v := (nI 13)) X dX5_act_160 (by decide) ?_
            refine g_icmp_ne (tgt := 264) X dX5_act_162 (by decide) ?_ ?_
            · refine g_iload_n X dX5_act_264 rfl rfl ?_
              refine g_bipush (v := (nI 14)) X dX5_act_265 (by decide) ?_
              refine g_icmp_ne (tgt := 277) X dX5_act_267 (by decide) ?_ ?_
              · refine g_iload_n X dX5_act_277 rfl rfl ?_
                refine g_bipush (v := (nI 15)) X dX5_act_278 (by decide) ?_
                refine g_icmp_ne (tgt := 290) X dX5_act_280 (by decide) ?_ ?_
                · refine g_iload_n X dX5_act_290 rfl rfl ?_
                  refine g_bipush (v := (nI 16)) X dX5_act_291 (by decide) ?_
                  refine g_icmp_ne (tgt := 310) X dX5_act_293 (by decide) ?_ ?_
                  · refine g_iload_n X dX5_act_310 rfl rfl ?_
                    refine g_bipush (v := (nI 17)) X dX5_act_311 (by decide) ?_
                    refine g_icmp_ne (tgt := 335) X dX5_act_313 (by decide) ?_ ?_
                    · refine g_aload_n X dX5_act_335 rfl rfl ?_
                      refine g_dup X dX5_act_336 rfl ?_
                      refine r_g_top X dX5_act_337 ?_
                      intro v2
                      refine g_iconst (v := (nI 1)) X dX5_act_340 (by decide) ?_
                      refine g_isub X dX5_act_341 ?_
                      refine r_p_top X dX5_act_342 ?_
                      intro M3
                      refine g_aload_n X dX5_act_345 rfl rfl ?_
                      refine r_g_isObj X dX5_act_346 ?_
                      refine g_aload_n X dX5_act_349 rfl rfl ?_
                      refine r_g_top X dX5_act_350 ?_
                      intro v4
                      refine g_iconst (v := (nI 1)) X dX5_act_353 (by decide) ?_
                      refine g_isub X dX5_act_354 ?_
                      refine g_aload_n X dX5_act_355 rfl rfl ?_
                      refine r_g_isObj X dX5_act_356 ?_
                      refine g_aload_n X dX5_act_359 rfl rfl ?_
                      refine r_g_top X dX5_act_360 ?_
                      intro v5
                      refine r_l_isObj X dX5_act_363 ?_
                      intro v6
                      refine r_s_isObj X dX5_act_364 ?_
                      intro M7
                      refine g_aload_n X dX5_act_365 rfl rfl ?_
                      refine r_g_value X dX5_act_366 ?_
                      refine g_aload_n X dX5_act_369 rfl rfl ?_
                      refine r_g_top X dX5_act_370 ?_
                      intro v8
                      refine g_iconst (v := (nI 1)) X dX5_act_373 (by decide) ?_
                      refine g_isub X dX5_act_374 ?_
                      refine g_aload_n X dX5_act_375 rfl rfl ?_
                      refine r_g_value X dX5_act_376 ?_
                      refine g_aload_n X dX5_act_379 rfl rfl ?_
                      refine r_g_top X dX5_act_380 ?_
                      intro v9
                      refine r_l_value X dX5_act_383 ?_
                      intro v10
                      refine r_s_value X dX5_act_384 ?_
                      intro M11
                      exact r_vret X dX5_act_385
                    · refine g_aload_n X dX5_act_316 rfl rfl ?_
                      refine g_aload_n X dX5_act_317 rfl rfl ?_
                      refine r_g_isArgObj X dX5_act_318 ?_
                      refine g_iload_n X dX5_act_321 rfl rfl ?_
                      refine r_l_isArgObj X dX5_act_322 ?_
                      intro v12
                      refine g_aload_n X dX5_act_323 rfl rfl ?_
                      refine r_g_argument X dX5_act_324 ?_
                      refine g_iload_n X dX5_act_327 rfl rfl ?_
                      refine r_l_argument X dX5_act_328 ?_
                      intro v13
                      refine k_push X ⟨Nat.le_of_ble_eq_true rfl, Nat.le_of_ble_eq_true rfl⟩ (Nat.le_of_ble_eq_true rfl) dX5_act_329 ?_
                      intro v14 M14
                      refine g_goto (tgt := 385) X dX5_act_332 (by decide) ?_
                      exact r_vret X dX5_act_385
                  · refine g_aload_n X dX5_act_296 rfl rfl ?_
                    refine g_iconst (v := (nI 1)) X dX5_act_297 (by decide) ?_
                    refine g_aload_n X dX5_act_298 rfl rfl ?_
                    refine r_g_self X dX5_act_299 ?_
                    refine g_iload_n X dX5_act_302 rfl rfl ?_
                    refine r_l_self X dX5_act_303 ?_
                    intro v15
                    refine k_push X ⟨Nat.le_of_ble_eq_true rfl, Nat.le_of_ble_eq_true rfl⟩ (Nat.le_of_ble_eq_true rfl) dX5_act_304 ?_
                    intro v16 M16
                    refine g_goto (tgt := 385) X dX5_act_307 (by decide) ?_
                    exact r_vret X dX5_act_385
                · refine g_aload_n X dX5_act_283 rfl rfl ?_
                  refine k_write X ⟨Nat.le_of_ble_eq_true rfl, Nat.le_of_ble_eq_true rfl⟩ (Nat.le_of_ble_eq_true rfl) dX5_act_284 ?_
                  intro v17 M17
                  refine g_goto (tgt := 385) X dX5_act_287 (by decide) ?_
                  exact r_vret X dX5_act_385
              · refine g_aload_n X dX5_act_270 rfl rfl ?_
                refine k_choose X ⟨Nat.le_of_ble_eq_true rfl, Nat.le_of_ble_eq_true rfl⟩ (Nat.le_of_ble_eq_true rfl) dX5_act_271 ?_
                intro v18 M18
                refine g_goto (tgt := 385) X dX5_act_274 (by decide) ?_
                exact r_vret X dX5_act_385
            · refine g_aload_n X dX5_act_165 rfl rfl ?_
              refine g_dup X dX5_act_166 rfl ?_
              refine r_g_top X dX5_act_167 ?_
              intro v19
              refine g_iconst (v := (nI 1)) X dX5_act_170 (by decide) ?_
              refine g_isub X dX5_act_171 ?_
              refine r_p_top X dX5_act_172 ?_
              intro M20
              refine g_aload_n X dX5_act_175 rfl rfl ?_
              refine r_g_isObj X dX5_act_176 ?_
              refine g_aload_n X dX5_act_179 rfl rfl ?_
              refine r_g_top X dX5_act_180 ?_
              intro v21
              refine r_l_isObj X dX5_act_183 ?_
              intro v22
              refine g_aload_n X dX5_act_184 rfl rfl ?_
              refine r_g_isObj X dX5_act_185 ?_
              refine g_aload_n X dX5_act_188 rfl rfl ?_
              refine r_g_top X dX5_act_189 ?_
              intro v23
              refine g_iconst (v := (nI 1)) X dX5_act_192 (by decide) ?_
              refine g_isub X dX5_act_193 ?_
              refine r_l_isObj X dX5_act_194 ?_
              intro v24
              refine g_icmp_ne (tgt := 225) X dX5_act_195 (by decide) ?_ ?_
              · exact g_pick [0] rfl (wR_act_b225 X n M20)
              · refine g_aload_n X dX5_act_198 rfl rfl ?_
                refine r_g_value X dX5_act_199 ?_
                refine g_aload_n X dX5_act_202 rfl rfl ?_
                refine r_g_top X dX5_act_203 ?_
                intro v25
                refine r_l_value X dX5_act_206 ?_
                intro v26
                refine g_aload_n X dX5_act_207 rfl rfl ?_
                refine r_g_value X dX5_act_208 ?_
                refine g_aload_n X dX5_act_211 rfl rfl ?_
                refine r_g_top X dX5_act_212 ?_
                intro v27
                refine g_iconst (v := (nI 1)) X dX5_act_215 (by decide) ?_
                refine g_isub X dX5_act_216 ?_
                refine r_l_value X dX5_act_217 ?_
                intro v28
                refine g_icmp_ne (tgt := 225) X dX5_act_218 (by decide) ?_ ?_
                · exact g_pick [0] rfl (wR_act_b225 X n M20)
                · refine g_iconst (v := (nI 1)) X dX5_act_221 (by decide) ?_
                  refine g_goto (tgt := 226) X dX5_act_222 (by decide) ?_
                  exact g_pick [0] rfl (wR_act_b226 X n (nI 1) M20)
          · refine g_aload_n X dX5_act_151 rfl rfl ?_
            refine g_iload_n X dX5_act_152 rfl rfl ?_
            refine k_reckon X ⟨Nat.le_of_ble_eq_true rfl, Nat.le_of_ble_eq_true rfl⟩ (Nat.le_of_ble_eq_true rfl) dX5_act_153 ?_
            intro v29 M29
            refine g_goto (tgt := 385) X dX5_act_156 (by decide) ?_
            exact r_vret X dX5_act_385
        · refine g_aload_n X dX5_act_136 rfl rfl ?_
          refine g_iload_n X dX5_act_137 rfl rfl ?_
          refine g_iload_n X dX5_act_138 rfl rfl ?_
          refine k_ofObject X ⟨Nat.le_of_ble_eq_true rfl, Nat.le_of_ble_eq_true rfl⟩ (Nat.le_of_ble_eq_true rfl) dX5_act_139 ?_
          intro v30 M30
          refine g_goto (tgt := 385) X dX5_act_142 (by decide) ?_
          exact r_vret X dX5_act_385
      · refine g_aload_n X dX5_act_121 rfl rfl ?_
        refine g_iload_n X dX5_act_122 rfl rfl ?_
        refine g_iload_n X dX5_act_123 rfl rfl ?_
        refine k_ask X ⟨Nat.le_of_ble_eq_true rfl, Nat.le_of_ble_eq_true rfl⟩ (Nat.le_of_ble_eq_true rfl) dX5_act_124 ?_
        intro v31 M31
        refine g_goto (tgt := 385) X dX5_act_127 (by decide) ?_
        exact r_vret X dX5_act_385
    · refine g_aload_n X dX5_act_78 rfl rfl ?_
      refine g_aload_n X dX5_act_79 rfl rfl ?_
      refine r_g_m X dX5_act_80 ?_
      refine g_iload_n X dX5_act_83 rfl rfl ?_
      refine k_editAt X ⟨Nat.le_of_ble_eq_true rfl, Nat.le_of_ble_eq_true rfl⟩ (Nat.le_of_ble_eq_true rfl) dX5_act_84 ?_
      intro v32 M32
      refine g_iconst (v := (nI 3)) X dX5_act_87 (by decide) ?_
      refine g_iadd X dX5_act_88 ?_
      refine r_l_m X dX5_act_89 ?_
      intro v33
      refine g_iconst (v := (nI 1)) X dX5_act_90 (by decide) ?_
      refine g_icmp_ne (tgt := 98) X dX5_act_91 (by decide) ?_ ?_
      · refine g_iconst (v := (nI 0)) X dX5_act_98 (by decide) ?_
        exact g_pick [0, 3] rfl (wR_act_b99 X n x3 (nI 0) M32)
      · refine g_iconst (v := (nI 1)) X dX5_act_94 (by decide) ?_
        refine g_goto (tgt := 99) X dX5_act_95 (by decide) ?_
        exact g_pick [0, 3] rfl (wR_act_b99 X n x3 (nI 1) M32)
  · refine g_aload_n X dX5_act_64 rfl rfl ?_
    refine g_iconst (v := (nI 0)) X dX5_act_65 (by decide) ?_
    refine g_iload_n X dX5_act_66 rfl rfl ?_
    refine k_push X ⟨Nat.le_of_ble_eq_true rfl, Nat.le_of_ble_eq_true rfl⟩ (Nat.le_of_ble_eq_true rfl) dX5_act_67 ?_
    intro v34 M34
    refine g_goto (tgt := 385) X dX5_act_70 (by decide) ?_
    exact r_vret X dX5_act_385
def fR_act_b28 (n : Nat) (x1 : Int32) (x2 : Int32) (s0 : Int32) (M : MR) : Option (Int32 × MR) :=
    if x2 = (nI 2) then
      (bnd (fR_make n s0 M) fun _ M2 =>
      some (0, M2))
    else
      (rd M 14 22 x1 fun v1 =>
      if (nI 7) < x2 then (fR_act_b58 n x1 x2 s0 x1 v1 (nI 1) M) else (fR_act_b58 n x1 x2 s0 x1 v1 (nI 2) M))
theorem wR_act_b28 (X : gX p s m args meth c cX5_act 5 RX5 none D (tyR cI cZ)) (n : Nat) (x1 : Int32) (x2 : Int32) (s0 : Int32) (M : MR) : gG p l e (rmR 7 162) s m args below meth c 5 (ZR D cI cZ q (AR q s.heap.size) s.heap M) 0 0 (fun r => MQ below (QV D cI cZ q s.heap.size r) args s 0 0 (AR q s.heap.size)) 28 [(0, .ref (q 34)), (1, .int x1), (2, .int x2)] [.int s0] (fR_act_b28 n x1 x2 s0 M) := by
  unfold fR_act_b28
  refine g_istore_n (lv' := [(3, .int s0), (0, .ref (q 34)), (1, .int x1), (2, .int x2)]) X dX5_act_28 rfl (by decide) rfl ?_
  refine g_iload_n X dX5_act_29 rfl rfl ?_
  refine g_iconst (v := (nI 2)) X dX5_act_30 (by decide) ?_
  refine g_icmp_ne (tgt := 40) X dX5_act_31 (by decide) ?_ ?_
  · refine g_aload_n X dX5_act_40 rfl rfl ?_
    refine r_g_place X dX5_act_41 ?_
    refine g_iload_n X dX5_act_44 rfl rfl ?_
    refine g_dup2 X dX5_act_45 rfl rfl ?_
    refine r_l_place X dX5_act_46 ?_
    intro v1
    refine g_iload_n X dX5_act_47 rfl rfl ?_
    refine g_bipush (v := (nI 7)) X dX5_act_48 (by decide) ?_
    refine g_icmp_gt (tgt := 57) X dX5_act_50 (by decide) ?_ ?_
    · refine g_iconst (v := (nI 1)) X dX5_act_57 (by decide) ?_
      exact g_pick [1, 2, 3, 0] rfl (wR_act_b58 X n x1 x2 s0 x1 v1 (nI 1) M)
    · refine g_iconst (v := (nI 2)) X dX5_act_53 (by decide) ?_
      refine g_goto (tgt := 58) X dX5_act_54 (by decide) ?_
      exact g_pick [1, 2, 3, 0] rfl (wR_act_b58 X n x1 x2 s0 x1 v1 (nI 2) M)
  · refine g_aload_n X dX5_act_34 rfl rfl ?_
    refine g_iload_n X dX5_act_35 rfl rfl ?_
    refine k_make X ⟨Nat.le_of_ble_eq_true rfl, Nat.le_of_ble_eq_true rfl⟩ (Nat.le_of_ble_eq_true rfl) dX5_act_36 ?_
    intro v2 M2
    exact r_vret X dX5_act_39
def fR_act (n : Nat) (M : MR) : Option (Int32 × MR) :=
    gf M 20 fun v1 =>
    bnd (fR_intAt n (nI 0) M) fun v2 M2 =>
    if (nI 7) < v2 then
      (fR_act_b28 n (v1 - (nI 1)) v2 (nI 0) M2)
    else
      (bnd (fR_intAt n (nI 1) M2) fun v3 M3 =>
      fR_act_b28 n (v1 - (nI 1)) v2 v3 M3)
theorem c_act (l : Launch) (D : va_G) (cI cZ : ClassId) (q : Nat → Nat) (n : Nat) (M : MR) : MetR l D cI cZ q yX5_act cX5_act 5 none 7 162 QV [.ref (q 34)] M (fR_act n M) := by
  refine MetR.of (by decide) rfl (Nat.le_of_ble_eq_true rfl) ?_
  intro p e s m args below meth c X
  unfold fR_act
  refine g_pick (lv' := [(0, .ref (q 34))]) [0] rfl ?_
  refine g_aload_n X dX5_act_0 rfl rfl ?_
  refine r_g_frames X dX5_act_1 ?_
  intro v1
  refine g_iconst (v := (nI 1)) X dX5_act_4 (by decide) ?_
  refine g_isub X dX5_act_5 ?_
  refine g_istore_n (lv' := [(1, .int (v1 - (nI 1))), (0, .ref (q 34))]) X dX5_act_6 rfl (by decide) rfl ?_
  refine g_aload_n X dX5_act_7 rfl rfl ?_
  refine g_iconst (v := (nI 0)) X dX5_act_8 (by decide) ?_
  refine k_intAt X ⟨Nat.le_of_ble_eq_true rfl, Nat.le_of_ble_eq_true rfl⟩ (Nat.le_of_ble_eq_true rfl) dX5_act_9 ?_
  intro v2 M2
  refine g_istore_n (lv' := [(2, .int v2), (1, .int (v1 - (nI 1))), (0, .ref (q 34))]) X dX5_act_12 rfl (by decide) rfl ?_
  refine g_iload_n X dX5_act_13 rfl rfl ?_
  refine g_bipush (v := (nI 7)) X dX5_act_14 (by decide) ?_
  refine g_icmp_gt (tgt := 27) X dX5_act_16 (by decide) ?_ ?_
  · refine g_iconst (v := (nI 0)) X dX5_act_27 (by decide) ?_
    exact g_pick [2, 1, 0] rfl (wR_act_b28 X n (v1 - (nI 1)) v2 (nI 0) M2)
  · refine g_aload_n X dX5_act_19 rfl rfl ?_
    refine g_iconst (v := (nI 1)) X dX5_act_20 (by decide) ?_
    refine k_intAt X ⟨Nat.le_of_ble_eq_true rfl, Nat.le_of_ble_eq_true rfl⟩ (Nat.le_of_ble_eq_true rfl) dX5_act_21 ?_
    intro v3 M3
    refine g_goto (tgt := 28) X dX5_act_24 (by decide) ?_
    exact g_pick [2, 1, 0] rfl (wR_act_b28 X n (v1 - (nI 1)) v2 v3 M3)
theorem tc_act : Cond.code yX5_act cX5_act 5 none ∈ tt := tt_in (List.mem_of_getElem? (i := 968) (by decide +kernel)) (by decide +kernel)
theorem tl_act : Cond.methodLink RX5 172 yX5_act ∈ tt := tt_in (List.mem_of_getElem? (i := 965) (by decide +kernel)) (by decide +kernel)
theorem ti_act : Cond.instanceMethod yX5_act ∈ tt := tt_in (List.mem_of_getElem? (i := 967) (by decide +kernel)) (by decide +kernel)
theorem te_act : Cond.selects RX5 yX5_act yX5_act ∈ tt := tt_in (List.mem_of_getElem? (i := 53) (by decide +kernel)) (by decide +kernel)
theorem k_act (X : gX p s m args meth c cc nL RX5 rt D (tyR cI cZ)) {n : Nat} {M : MR} {rest : List Value} {K : Int32 → MR → Option ρ} (hR : 7 + 1 ≤ R.frames ∧ 8 + (5 + 11) + 162 ≤ R.locals) (hcat : (rest.map fun v => v.category).sum ≤ 8) (d : decode cc pc = .ok (.invokevirtual 172, 3)) (kk : ∀ v M1, gG p l e R s m args below meth c nL (ZR D cI cZ q (AR q s.heap.size) s.heap M1) 0 0 QQ (pc + 3) lv (rest) (K v M1)) : gG p l e R s m args below meth c nL (ZR D cI cZ q (AR q s.heap.size) s.heap M) 0 0 QQ pc lv (.ref (q 34) :: rest) (bnd (fR_act n M) K) := r_callVv (As := []) X (c_act l D cI cZ q n M) (cwVR (k := 0) X.2.2.2.2.1 tl_act ti_act te_act tc_act ini5 (by decide +kernel) hR) rfl rfl hcat d kk
-- work
def fR_work_b114 (n : Nat) (k15 : MR → Option (Int32 × MR)) (M : MR) : Option (Int32 × MR) :=
    k15 M
theorem wR_work_b114 (X : gX p s m args meth c cX5_work 2 RX5 none D (tyR cI cZ)) (n : Nat) (k15 : MR → Option (Int32 × MR)) (hk15 : ∀  (M : MR), gG p l e (rmR 8 186) s m args below meth c 2 (ZR D cI cZ q (AR q s.heap.size) s.heap M) 0 0 (fun r => MQ below (QV D cI cZ q s.heap.size r) args s 0 0 (AR q s.heap.size)) 15 [(0, .ref (q 34))] [] (k15 M)) (M : MR) : gG p l e (rmR 8 186) s m args below meth c 2 (ZR D cI cZ q (AR q s.heap.size) s.heap M) 0 0 (fun r => MQ below (QV D cI cZ q s.heap.size r) args s 0 0 (AR q s.heap.size)) 114 [(0, .ref (q 34))] [] (fR_work_b114 n k15 M) := by
  unfold fR_work_b114
  refine g_goto (tgt := 15) X dX5_work_114 (by decide) ?_
  exact g_pick [0] rfl (hk15 M)
def fR_work_b101 (n : Nat) (k15 : MR → Option (Int32 × MR)) (s0 : Int32) (s1 : Int32) (M : MR) : Option (Int32 × MR) :=
    pf M 23 (s0 + s1) fun M1 =>
    zt (nI 0) (pf M1 22 (nI 0) fun M2 =>
    bnd (fR_act n M2) fun _ M3 =>
    fR_work_b114 n k15 M3)
theorem wR_work_b101 (X : gX p s m args meth c cX5_work 2 RX5 none D (tyR cI cZ)) (n : Nat) (k15 : MR → Option (Int32 × MR)) (hk15 : ∀  (M : MR), gG p l e (rmR 8 186) s m args below meth c 2 (ZR D cI cZ q (AR q s.heap.size) s.heap M) 0 0 (fun r => MQ below (QV D cI cZ q s.heap.size r) args s 0 0 (AR q s.heap.size)) 15 [(0, .ref (q 34))] [] (k15 M)) (s0 : Int32) (s1 : Int32) (M : MR) : gG p l e (rmR 8 186) s m args below meth c 2 (ZR D cI cZ q (AR q s.heap.size) s.heap M) 0 0 (fun r => MQ below (QV D cI cZ q s.heap.size r) args s 0 0 (AR q s.heap.size)) 101 [(0, .ref (q 34))] [.int s1, .int s0, .ref (q 34)] (fR_work_b101 n k15 s0 s1 M) := by
  unfold fR_work_b101
  refine g_iadd X dX5_work_101 ?_
  refine r_p_steps X dX5_work_102 ?_
  intro M1
  refine g_aload_n X dX5_work_105 rfl rfl ?_
  refine g_iconst (v := (nI 0)) X dX5_work_106 (by decide) ?_
  refine r_p_again X dX5_work_107 ?_
  intro M2
  refine g_aload_n X dX5_work_110 rfl rfl ?_
  refine k_act X ⟨Nat.le_of_ble_eq_true rfl, Nat.le_of_ble_eq_true rfl⟩ (Nat.le_of_ble_eq_true rfl) dX5_work_111 ?_
  intro v3 M3
  exact g_pick [0] rfl (wR_work_b114 X n k15 hk15 M3)
def fR_work_b84 (n : Nat) (k15 : MR → Option (Int32 × MR)) (M : MR) : Option (Int32 × MR) :=
    gf M 23 fun v1 =>
    gf M 22 fun v2 =>
    if v2 = 0 then (fR_work_b101 n k15 v1 (nI 1) M) else (fR_work_b101 n k15 v1 (nI 0) M)
theorem wR_work_b84 (X : gX p s m args meth c cX5_work 2 RX5 none D (tyR cI cZ)) (n : Nat) (k15 : MR → Option (Int32 × MR)) (hk15 : ∀  (M : MR), gG p l e (rmR 8 186) s m args below meth c 2 (ZR D cI cZ q (AR q s.heap.size) s.heap M) 0 0 (fun r => MQ below (QV D cI cZ q s.heap.size r) args s 0 0 (AR q s.heap.size)) 15 [(0, .ref (q 34))] [] (k15 M)) (M : MR) : gG p l e (rmR 8 186) s m args below meth c 2 (ZR D cI cZ q (AR q s.heap.size) s.heap M) 0 0 (fun r => MQ below (QV D cI cZ q s.heap.size r) args s 0 0 (AR q s.heap.size)) 84 [(0, .ref (q 34))] [] (fR_work_b84 n k15 M) := by
  unfold fR_work_b84
  refine g_aload_n X dX5_work_84 rfl rfl ?_
  refine g_dup X dX5_work_85 rfl ?_
  refine r_g_steps X dX5_work_86 ?_
  intro v1
  refine g_aload_n X dX5_work_89 rfl rfl ?_
  refine r_g_again X dX5_work_90 ?_
  intro v2
  refine g_if_eq (tgt := 100) X dX5_work_93 (by decide) ?_ ?_
  · refine g_iconst (v := (nI 1)) X dX5_work_100 (by decide) ?_
    exact g_pick [0] rfl (wR_work_b101 X n k15 hk15 v1 (nI 1) M)
  · refine g_iconst (v := (nI 0)) X dX5_work_96 (by decide) ?_
    refine g_goto (tgt := 101) X dX5_work_97 (by decide) ?_
    exact g_pick [0] rfl (wR_work_b101 X n k15 hk15 v1 (nI 0) M)
def fR_work_l15 (n : Nat) : Nat → MR → Option (Int32 × MR)
  | 0, _ => none
  | k + 1, M => gf M 20 fun v1 =>
    if v1 ≤ 0 then
      (some (0, M))
    else
      (gf M 24 fun v2 =>
      if v2 = 0 then
        (gf M 20 fun v3 =>
        rd M 14 22 (v3 - (nI 1)) fun v4 =>
        rd M 15 22 (v3 - (nI 1)) fun v5 =>
        if v4 = v5 then
          (bnd (fR_finish n M) fun _ M9 =>
          fR_work_b114 n (fR_work_l15 n k) M9)
        else
          (gf M 22 fun v6 =>
          if v6 = 0 then
            (gf M 23 fun v7 =>
            if v7 = (nI 1000) then
              (bnd (fR_fail n (nI 100) M) fun _ M8 =>
              fR_work_b114 n (fR_work_l15 n k) M8)
            else
              (fR_work_b84 n (fR_work_l15 n k) M))
          else
            (fR_work_b84 n (fR_work_l15 n k) M)))
      else
        (some (0, M)))
theorem wR_work_l15 (X : gX p s m args meth c cX5_work 2 RX5 none D (tyR cI cZ)) (n : Nat) : ∀ (k : Nat) (M : MR), gG p l e (rmR 8 186) s m args below meth c 2 (ZR D cI cZ q (AR q s.heap.size) s.heap M) 0 0 (fun r => MQ below (QV D cI cZ q s.heap.size r) args s 0 0 (AR q s.heap.size)) 15 [(0, .ref (q 34))] [] (fR_work_l15 n k M) := by
  intro k
  induction k with
  | zero =>
    intro M
    exact g_none
  | succ k ih =>
    intro M
    rw [fR_work_l15]
    refine g_aload_n X dX5_work_15 rfl rfl ?_
    refine r_g_frames X dX5_work_16 ?_
    intro v1
    refine g_if_le (tgt := 117) X dX5_work_19 (by decide) ?_ ?_
    · exact r_vret X dX5_work_117
    · refine g_aload_n X dX5_work_22 rfl rfl ?_
      refine r_g_failure X dX5_work_23 ?_
      intro v2
      refine g_if_ne (tgt := 117) X dX5_work_26 (by decide) ?_ ?_
      · exact r_vret X dX5_work_117
      · refine g_aload_n X dX5_work_29 rfl rfl ?_
        refine r_g_frames X dX5_work_30 ?_
        intro v3
        refine g_iconst (v := (nI 1)) X dX5_work_33 (by decide) ?_
        refine g_isub X dX5_work_34 ?_
        refine g_istore_n (lv' := [(1, .int (v3 - (nI 1))), (0, .ref (q 34))]) X dX5_work_35 rfl (by decide) rfl ?_
        refine g_aload_n X dX5_work_36 rfl rfl ?_
        refine r_g_place X dX5_work_37 ?_
        refine g_iload_n X dX5_work_40 rfl rfl ?_
        refine r_l_place X dX5_work_41 ?_
        intro v4
        refine g_aload_n X dX5_work_42 rfl rfl ?_
        refine r_g_end X dX5_work_43 ?_
        refine g_iload_n X dX5_work_46 rfl rfl ?_
        refine r_l_end X dX5_work_47 ?_
        intro v5
        refine g_icmp_ne (tgt := 58) X dX5_work_48 (by decide) ?_ ?_
        · refine g_aload_n X dX5_work_58 rfl rfl ?_
          refine r_g_again X dX5_work_59 ?_
          intro v6
          refine g_if_ne (tgt := 84) X dX5_work_62 (by decide) ?_ ?_
          · exact g_pick [1] rfl (wR_work_b84 X n (fR_work_l15 n k) ih M)
          · refine g_aload_n X dX5_work_65 rfl rfl ?_
            refine r_g_steps X dX5_work_66 ?_
            intro v7
            refine g_sipush (v := (nI 1000)) X dX5_work_69 (by decide) ?_
            refine g_icmp_ne (tgt := 84) X dX5_work_72 (by decide) ?_ ?_
            · exact g_pick [1] rfl (wR_work_b84 X n (fR_work_l15 n k) ih M)
            · refine g_aload_n X dX5_work_75 rfl rfl ?_
              refine g_bipush (v := (nI 100)) X dX5_work_76 (by decide) ?_
              refine k_fail X ⟨Nat.le_of_ble_eq_true rfl, Nat.le_of_ble_eq_true rfl⟩ (Nat.le_of_ble_eq_true rfl) dX5_work_78 ?_
              intro v8 M8
              refine g_goto (tgt := 114) X dX5_work_81 (by decide) ?_
              exact g_pick [1] rfl (wR_work_b114 X n (fR_work_l15 n k) ih M8)
        · refine g_aload_n X dX5_work_51 rfl rfl ?_
          refine k_finish X ⟨Nat.le_of_ble_eq_true rfl, Nat.le_of_ble_eq_true rfl⟩ (Nat.le_of_ble_eq_true rfl) dX5_work_52 ?_
          intro v9 M9
          refine g_goto (tgt := 114) X dX5_work_55 (by decide) ?_
          exact g_pick [1] rfl (wR_work_b114 X n (fR_work_l15 n k) ih M9)
def fR_work (n : Nat) (M : MR) : Option (Int32 × MR) :=
    pf M 23 (nI 0) fun M1 =>
    pf M1 24 (nI 0) fun M2 =>
    zt (nI 0) (pf M2 22 (nI 0) fun M3 =>
    fR_work_l15 n n M3)
theorem c_work (l : Launch) (D : va_G) (cI cZ : ClassId) (q : Nat → Nat) (n : Nat) (M : MR) : MetR l D cI cZ q yX5_work cX5_work 2 none 8 186 QV [.ref (q 34)] M (fR_work n M) := by
  refine MetR.of (by decide) rfl (Nat.le_of_ble_eq_true rfl) ?_
  intro p e s m args below meth c X
  unfold fR_work
  refine g_pick (lv' := [(0, .ref (q 34))]) [0] rfl ?_
  refine g_aload_n X dX5_work_0 rfl rfl ?_
  refine g_iconst (v := (nI 0)) X dX5_work_1 (by decide) ?_
  refine r_p_steps X dX5_work_2 ?_
  intro M1
  refine g_aload_n X dX5_work_5 rfl rfl ?_
  refine g_iconst (v := (nI 0)) X dX5_work_6 (by decide) ?_
  refine r_p_failure X dX5_work_7 ?_
  intro M2
  refine g_aload_n X dX5_work_10 rfl rfl ?_
  refine g_iconst (v := (nI 0)) X dX5_work_11 (by decide) ?_
  refine r_p_again X dX5_work_12 ?_
  intro M3
  exact g_pick [0] rfl (wR_work_l15 X n n M3)
theorem tc_work : Cond.code yX5_work cX5_work 2 none ∈ tt := tt_in (List.mem_of_getElem? (i := 956) (by decide +kernel)) (by decide +kernel)
theorem tl_work : Cond.methodLink RX5 233 yX5_work ∈ tt := tt_in (List.mem_of_getElem? (i := 953) (by decide +kernel)) (by decide +kernel)
theorem ti_work : Cond.instanceMethod yX5_work ∈ tt := tt_in (List.mem_of_getElem? (i := 955) (by decide +kernel)) (by decide +kernel)
theorem te_work : Cond.selects RX5 yX5_work yX5_work ∈ tt := tt_in (List.mem_of_getElem? (i := 50) (by decide +kernel)) (by decide +kernel)
theorem k_work (X : gX p s m args meth c cc nL RX5 rt D (tyR cI cZ)) {n : Nat} {M : MR} {rest : List Value} {K : Int32 → MR → Option ρ} (hR : 8 + 1 ≤ R.frames ∧ 8 + (2 + 11) + 186 ≤ R.locals) (hcat : (rest.map fun v => v.category).sum ≤ 8) (d : decode cc pc = .ok (.invokevirtual 233, 3)) (kk : ∀ v M1, gG p l e R s m args below meth c nL (ZR D cI cZ q (AR q s.heap.size) s.heap M1) 0 0 QQ (pc + 3) lv (rest) (K v M1)) : gG p l e R s m args below meth c nL (ZR D cI cZ q (AR q s.heap.size) s.heap M) 0 0 QQ pc lv (.ref (q 34) :: rest) (bnd (fR_work n M) K) := r_callVv (As := []) X (c_work l D cI cZ q n M) (cwVR (k := 0) X.2.2.2.2.1 tl_work ti_work te_work tc_work ini5 (by decide +kernel) hR) rfl rfl hcat d kk
-- newEdition
def fR_newEdition_l122 (n : Nat) : Nat → Int32 → Int32 → Int32 → MR → Option (Int32 × MR)
  | 0, _, _, _, _ => none
  | k + 1, x2, x3, x4, M => gf M 6 fun v1 =>
    if v1 ≤ x4 then
      (rd M 0 62610 (x3 + (nI 0)) fun v2 =>
      wr M 0 62610 ((nI 4) + v2) (x2 + (nI 1)) fun M3 =>
      some (x2, M3))
    else
      (rd M 5 60 x4 fun v4 =>
      wr M 0 62610 ((x3 + (nI 8)) + x4) v4 fun M5 =>
      (fR_newEdition_l122 n k) x2 x3 (x4 + (nI 1)) M5)
theorem wR_newEdition_l122 (X : gX p s m args meth c cX5_newEdition 5 RX5 (some .int) D (tyR cI cZ)) (n : Nat) : ∀ (k : Nat) (x2 : Int32) (x3 : Int32) (x4 : Int32) (M : MR), gG p l e (rmR 1 20) s m args below meth c 5 (ZR D cI cZ q (AR q s.heap.size) s.heap M) 0 0 (fun r => MQ below (QI D cI cZ q s.heap.size r) args s 0 0 (AR q s.heap.size)) 122 [(0, .ref (q 34)), (2, .int x2), (3, .int x3), (4, .int x4)] [] (fR_newEdition_l122 n k x2 x3 x4 M) := by
  intro k
  induction k with
  | zero =>
    intro x2 x3 x4 M
    exact g_none
  | succ k ih =>
    intro x2 x3 x4 M
    rw [fR_newEdition_l122]
    refine g_iload X dX5_newEdition_122 rfl ?_
    refine g_aload_n X dX5_newEdition_124 rfl rfl ?_
    refine r_g_length X dX5_newEdition_125 ?_
    intro v1
    refine g_icmp_ge (tgt := 156) X dX5_newEdition_128 (by decide) ?_ ?_
    · refine g_aload_n X dX5_newEdition_156 rfl rfl ?_
      refine r_g_m X dX5_newEdition_157 ?_
      refine g_iconst (v := (nI 4)) X dX5_newEdition_160 (by decide) ?_
      refine g_aload_n X dX5_newEdition_161 rfl rfl ?_
      refine r_g_m X dX5_newEdition_162 ?_
      refine g_iload_n X dX5_newEdition_165 rfl rfl ?_
      refine g_iconst (v := (nI 0)) X dX5_newEdition_166 (by decide) ?_
      refine g_iadd X dX5_newEdition_167 ?_
      refine r_l_m X dX5_newEdition_168 ?_
      intro v2
      refine g_iadd X dX5_newEdition_169 ?_
      refine g_iload_n X dX5_newEdition_170 rfl rfl ?_
      refine g_iconst (v := (nI 1)) X dX5_newEdition_171 (by decide) ?_
      refine g_iadd X dX5_newEdition_172 ?_
      refine r_s_m X dX5_newEdition_173 ?_
      intro M3
      refine g_iload_n X dX5_newEdition_174 rfl rfl ?_
      exact r_iret X dX5_newEdition_175
    · refine g_aload_n X dX5_newEdition_131 rfl rfl ?_
      refine r_g_m X dX5_newEdition_132 ?_
      refine g_iload_n X dX5_newEdition_135 rfl rfl ?_
      refine g_bipush (v := (nI 8)) X dX5_newEdition_136 (by decide) ?_
      refine g_iadd X dX5_newEdition_138 ?_
      refine g_iload X dX5_newEdition_139 rfl ?_
      refine g_iadd X dX5_newEdition_141 ?_
      refine g_aload_n X dX5_newEdition_142 rfl rfl ?_
      refine r_g_meant X dX5_newEdition_143 ?_
      refine g_iload X dX5_newEdition_146 rfl ?_
      refine r_l_meant X dX5_newEdition_148 ?_
      intro v4
      refine r_s_m X dX5_newEdition_149 ?_
      intro M5
      refine g_iinc (v := (nI 1)) (lv' := [(4, .int (x4 + (nI 1))), (0, .ref (q 34)), (2, .int x2), (3, .int x3)]) X dX5_newEdition_150 rfl (by decide) (by decide) rfl ?_
      refine g_goto (tgt := 122) X dX5_newEdition_153 (by decide) ?_
      exact g_pick [1, 2, 3, 0] rfl (ih x2 x3 (x4 + (nI 1)) M5)
def fR_newEdition (n : Nat) (x1 : Int32) (M : MR) : Option (Int32 × MR) :=
    rd M 0 62610 (nI 1) fun v1 =>
    rd M 0 62610 (nI 1) fun v2 =>
    wr M 0 62610 (nI 1) (v2 + (nI 1)) fun M3 =>
    bnd (fR_editAt n v1 M3) fun v4 M4 =>
    bnd (fR_cellAt n x1 M4) fun v5 M5 =>
    rd M5 0 62610 (v5 + (nI 0)) fun v6 =>
    wr M5 0 62610 (v4 + (nI 0)) v6 fun M7 =>
    bnd (fR_cellAt n x1 M7) fun v8 M8 =>
    rd M8 0 62610 (v8 + (nI 1)) fun v9 =>
    wr M8 0 62610 (v4 + (nI 1)) v9 fun M10 =>
    wr M10 0 62610 (v4 + (nI 2)) x1 fun M11 =>
    wr M11 0 62610 (v4 + (nI 3)) (nI 0) fun M12 =>
    wr M12 0 62610 (v4 + (nI 4)) (nI 0) fun M13 =>
    wr M13 0 62610 (v4 + (nI 5)) (nI 0) fun M14 =>
    wr M14 0 62610 (v4 + (nI 6)) (nI 0) fun M15 =>
    gf M15 6 fun v16 =>
    wr M15 0 62610 (v4 + (nI 7)) v16 fun M17 =>
    fR_newEdition_l122 n n v1 v4 (nI 0) M17
theorem c_newEdition (l : Launch) (D : va_G) (cI cZ : ClassId) (q : Nat → Nat) (n : Nat) (x1 : Int32) (M : MR) : MetR l D cI cZ q yX5_newEdition cX5_newEdition 5 (some .int) 1 20 QI [.ref (q 34), .int x1] M (fR_newEdition n x1 M) := by
  refine MetR.of (by decide) rfl (Nat.le_of_ble_eq_true rfl) ?_
  intro p e s m args below meth c X
  unfold fR_newEdition
  refine g_pick (lv' := [(0, .ref (q 34)), (1, .int x1)]) [0, 1] rfl ?_
  refine g_aload_n X dX5_newEdition_0 rfl rfl ?_
  refine r_g_m X dX5_newEdition_1 ?_
  refine g_iconst (v := (nI 1)) X dX5_newEdition_4 (by decide) ?_
  refine r_l_m X dX5_newEdition_5 ?_
  intro v1
  refine g_istore_n (lv' := [(2, .int v1), (0, .ref (q 34)), (1, .int x1)]) X dX5_newEdition_6 rfl (by decide) rfl ?_
  refine g_aload_n X dX5_newEdition_7 rfl rfl ?_
  refine r_g_m X dX5_newEdition_8 ?_
  refine g_iconst (v := (nI 1)) X dX5_newEdition_11 (by decide) ?_
  refine g_dup2 X dX5_newEdition_12 rfl rfl ?_
  refine r_l_m X dX5_newEdition_13 ?_
  intro v2
  refine g_iconst (v := (nI 1)) X dX5_newEdition_14 (by decide) ?_
  refine g_iadd X dX5_newEdition_15 ?_
  refine r_s_m X dX5_newEdition_16 ?_
  intro M3
  refine g_iload_n X dX5_newEdition_17 rfl rfl ?_
  refine k_editAt X ⟨Nat.le_of_ble_eq_true rfl, Nat.le_of_ble_eq_true rfl⟩ (Nat.le_of_ble_eq_true rfl) dX5_newEdition_18 ?_
  intro v4 M4
  refine g_istore_n (lv' := [(3, .int v4), (2, .int v1), (0, .ref (q 34)), (1, .int x1)]) X dX5_newEdition_21 rfl (by decide) rfl ?_
  refine g_aload_n X dX5_newEdition_22 rfl rfl ?_
  refine r_g_m X dX5_newEdition_23 ?_
  refine g_iload_n X dX5_newEdition_26 rfl rfl ?_
  refine g_iconst (v := (nI 0)) X dX5_newEdition_27 (by decide) ?_
  refine g_iadd X dX5_newEdition_28 ?_
  refine g_aload_n X dX5_newEdition_29 rfl rfl ?_
  refine r_g_m X dX5_newEdition_30 ?_
  refine g_iload_n X dX5_newEdition_33 rfl rfl ?_
  refine k_cellAt X ⟨Nat.le_of_ble_eq_true rfl, Nat.le_of_ble_eq_true rfl⟩ (Nat.le_of_ble_eq_true rfl) dX5_newEdition_34 ?_
  intro v5 M5
  refine g_iconst (v := (nI 0)) X dX5_newEdition_37 (by decide) ?_
  refine g_iadd X dX5_newEdition_38 ?_
  refine r_l_m X dX5_newEdition_39 ?_
  intro v6
  refine r_s_m X dX5_newEdition_40 ?_
  intro M7
  refine g_aload_n X dX5_newEdition_41 rfl rfl ?_
  refine r_g_m X dX5_newEdition_42 ?_
  refine g_iload_n X dX5_newEdition_45 rfl rfl ?_
  refine g_iconst (v := (nI 1)) X dX5_newEdition_46 (by decide) ?_
  refine g_iadd X dX5_newEdition_47 ?_
  refine g_aload_n X dX5_newEdition_48 rfl rfl ?_
  refine r_g_m X dX5_newEdition_49 ?_
  refine g_iload_n X dX5_newEdition_52 rfl rfl ?_
  refine k_cellAt X ⟨Nat.le_of_ble_eq_true rfl, Nat.le_of_ble_eq_true rfl⟩ (Nat.le_of_ble_eq_true rfl) dX5_newEdition_53 ?_
  intro v8 M8
  refine g_iconst (v := (nI 1)) X dX5_newEdition_56 (by decide) ?_
  refine g_iadd X dX5_newEdition_57 ?_
  refine r_l_m X dX5_newEdition_58 ?_
  intro v9
  refine r_s_m X dX5_newEdition_59 ?_
  intro M10
  refine g_aload_n X dX5_newEdition_60 rfl rfl ?_
  refine r_g_m X dX5_newEdition_61 ?_
  refine g_iload_n X dX5_newEdition_64 rfl rfl ?_
  refine g_iconst (v := (nI 2)) X dX5_newEdition_65 (by decide) ?_
  refine g_iadd X dX5_newEdition_66 ?_
  refine g_iload_n X dX5_newEdition_67 rfl rfl ?_
  refine r_s_m X dX5_newEdition_68 ?_
  intro M11
  refine g_aload_n X dX5_newEdition_69 rfl rfl ?_
  refine r_g_m X dX5_newEdition_70 ?_
  refine g_iload_n X dX5_newEdition_73 rfl rfl ?_
  refine g_iconst (v := (nI 3)) X dX5_newEdition_74 (by decide) ?_
  refine g_iadd X dX5_newEdition_75 ?_
  refine g_iconst (v := (nI 0)) X dX5_newEdition_76 (by decide) ?_
  refine r_s_m X dX5_newEdition_77 ?_
  intro M12
  refine g_aload_n X dX5_newEdition_78 rfl rfl ?_
  refine r_g_m X dX5_newEdition_79 ?_
  refine g_iload_n X dX5_newEdition_82 rfl rfl ?_
  refine g_iconst (v := (nI 4)) X dX5_newEdition_83 (by decide) ?_
  refine g_iadd X dX5_newEdition_84 ?_
  refine g_iconst (v := (nI 0)) X dX5_newEdition_85 (by decide) ?_
  refine r_s_m X dX5_newEdition_86 ?_
  intro M13
  refine g_aload_n X dX5_newEdition_87 rfl rfl ?_
  refine r_g_m X dX5_newEdition_88 ?_
  refine g_iload_n X dX5_newEdition_91 rfl rfl ?_
  refine g_iconst (v := (nI 5)) X dX5_newEdition_92 (by decide) ?_
  refine g_iadd X dX5_newEdition_93 ?_
  refine g_iconst (v := (nI 0)) X dX5_newEdition_94 (by decide) ?_
  refine r_s_m X dX5_newEdition_95 ?_
  intro M14
  refine g_aload_n X dX5_newEdition_96 rfl rfl ?_
  refine r_g_m X dX5_newEdition_97 ?_
  refine g_iload_n X dX5_newEdition_100 rfl rfl ?_
  refine g_bipush (v := (nI 6)) X dX5_newEdition_101 (by decide) ?_
  refine g_iadd X dX5_newEdition_103 ?_
  refine g_iconst (v := (nI 0)) X dX5_newEdition_104 (by decide) ?_
  refine r_s_m X dX5_newEdition_105 ?_
  intro M15
  refine g_aload_n X dX5_newEdition_106 rfl rfl ?_
  refine r_g_m X dX5_newEdition_107 ?_
  refine g_iload_n X dX5_newEdition_110 rfl rfl ?_
  refine g_bipush (v := (nI 7)) X dX5_newEdition_111 (by decide) ?_
  refine g_iadd X dX5_newEdition_113 ?_
  refine g_aload_n X dX5_newEdition_114 rfl rfl ?_
  refine r_g_length X dX5_newEdition_115 ?_
  intro v16
  refine r_s_m X dX5_newEdition_118 ?_
  intro M17
  refine g_iconst (v := (nI 0)) X dX5_newEdition_119 (by decide) ?_
  refine g_istore (lv' := [(4, .int (nI 0)), (3, .int v4), (2, .int v1), (0, .ref (q 34)), (1, .int x1)]) X dX5_newEdition_120 (by decide) rfl ?_
  exact g_pick [3, 2, 1, 0] rfl (wR_newEdition_l122 X n n v1 v4 (nI 0) M17)
theorem tc_newEdition : Cond.code yX5_newEdition cX5_newEdition 5 (some .int) ∈ tt := tt_in (List.mem_of_getElem? (i := 1055) (by decide +kernel)) (by decide +kernel)
theorem tl_newEdition : Cond.methodLink RX5 236 yX5_newEdition ∈ tt := tt_in (List.mem_of_getElem? (i := 1052) (by decide +kernel)) (by decide +kernel)
theorem ti_newEdition : Cond.instanceMethod yX5_newEdition ∈ tt := tt_in (List.mem_of_getElem? (i := 1054) (by decide +kernel)) (by decide +kernel)
theorem te_newEdition : Cond.selects RX5 yX5_newEdition yX5_newEdition ∈ tt := tt_in (List.mem_of_getElem? (i := 74) (by decide +kernel)) (by decide +kernel)
theorem k_newEdition (X : gX p s m args meth c cc nL RX5 rt D (tyR cI cZ)) {n : Nat} {x1 : Int32} {M : MR} {rest : List Value} {K : Int32 → MR → Option ρ} (hR : 1 + 1 ≤ R.frames ∧ 8 + (5 + 11) + 20 ≤ R.locals) (hcat : (rest.map fun v => v.category).sum ≤ 8) (d : decode cc pc = .ok (.invokevirtual 236, 3)) (kk : ∀ v M1, gG p l e R s m args below meth c nL (ZR D cI cZ q (AR q s.heap.size) s.heap M1) 0 0 QQ (pc + 3) lv (.int v :: rest) (K v M1)) : gG p l e R s m args below meth c nL (ZR D cI cZ q (AR q s.heap.size) s.heap M) 0 0 QQ pc lv (.int x1 :: .ref (q 34) :: rest) (bnd (fR_newEdition n x1 M) K) := r_callVi (As := [.int x1]) X (c_newEdition l D cI cZ q n x1 M) (cwVR (k := 1) X.2.2.2.2.1 tl_newEdition ti_newEdition te_newEdition tc_newEdition ini5 (by decide +kernel) hR) rfl rfl hcat d kk
end RM
