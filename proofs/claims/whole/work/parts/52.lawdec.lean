theorem dL_law_0 : decode code 0 = .ok (.new 7, 3) := by decide +kernel
theorem dL_law_3 : decode code 3 = .ok (.dup, 1) := by decide +kernel
theorem dL_law_4 : decode code 4 = .ok (.invokespecial 9, 3) := by decide +kernel
theorem dL_law_7 : decode code 7 = .ok (.astore_n 1, 1) := by decide +kernel
theorem dL_law_8 : decode code 8 = .ok (.new 10, 3) := by decide +kernel
theorem dL_law_11 : decode code 11 = .ok (.dup, 1) := by decide +kernel
theorem dL_law_12 : decode code 12 = .ok (.invokespecial 12, 3) := by decide +kernel
theorem dL_law_15 : decode code 15 = .ok (.astore_n 2, 1) := by decide +kernel
theorem dL_law_16 : decode code 16 = .ok (.iconst 0, 1) := by decide +kernel
theorem dL_law_17 : decode code 17 = .ok (.istore_n 3, 1) := by decide +kernel
theorem dL_law_18 : decode code 18 = .ok (.iload_n 3, 1) := by decide +kernel
theorem dL_law_19 : decode code 19 = .ok (.aload_n 0, 1) := by decide +kernel
theorem dL_law_20 : decode code 20 = .ok (.arraylength, 1) := by decide +kernel
theorem dL_law_21 : decode code 21 = .ok (.bipush 6, 2) := by decide +kernel
theorem dL_law_23 : decode code 23 = .ok (.isub, 1) := by decide +kernel
theorem dL_law_24 : decode code 24 = .ok (.if_icmp .gt 764, 3) := by decide +kernel
theorem dL_law_27 : decode code 27 = .ok (.aload_n 0, 1) := by decide +kernel
theorem dL_law_28 : decode code 28 = .ok (.iload_n 3, 1) := by decide +kernel
theorem dL_law_29 : decode code 29 = .ok (.iaload, 1) := by decide +kernel
theorem dL_law_30 : decode code 30 = .ok (.bipush 31, 2) := by decide +kernel
theorem dL_law_32 : decode code 32 = .ok (.iand, 1) := by decide +kernel
theorem dL_law_33 : decode code 33 = .ok (.tableswitch 749 0 21 #[103, 166, 179, 212, 235, 258, 271, 294, 327, 360, 383, 426, 449, 472, 505, 528, 571, 604, 647, 670, 703, 726], 103) := by decide +kernel
theorem dL_law_136 : decode code 136 = .ok (.aload_n 1, 1) := by decide +kernel
theorem dL_law_137 : decode code 137 = .ok (.aload_n 0, 1) := by decide +kernel
theorem dL_law_138 : decode code 138 = .ok (.iload_n 3, 1) := by decide +kernel
theorem dL_law_139 : decode code 139 = .ok (.iconst 1, 1) := by decide +kernel
theorem dL_law_140 : decode code 140 = .ok (.iadd, 1) := by decide +kernel
theorem dL_law_141 : decode code 141 = .ok (.iaload, 1) := by decide +kernel
theorem dL_law_142 : decode code 142 = .ok (.aload_n 0, 1) := by decide +kernel
theorem dL_law_143 : decode code 143 = .ok (.iload_n 3, 1) := by decide +kernel
theorem dL_law_144 : decode code 144 = .ok (.iconst 2, 1) := by decide +kernel
theorem dL_law_145 : decode code 145 = .ok (.iadd, 1) := by decide +kernel
theorem dL_law_146 : decode code 146 = .ok (.iaload, 1) := by decide +kernel
theorem dL_law_147 : decode code 147 = .ok (.aload_n 0, 1) := by decide +kernel
theorem dL_law_148 : decode code 148 = .ok (.iload_n 3, 1) := by decide +kernel
theorem dL_law_149 : decode code 149 = .ok (.iconst 3, 1) := by decide +kernel
theorem dL_law_150 : decode code 150 = .ok (.iadd, 1) := by decide +kernel
theorem dL_law_151 : decode code 151 = .ok (.iaload, 1) := by decide +kernel
theorem dL_law_152 : decode code 152 = .ok (.aload_n 0, 1) := by decide +kernel
theorem dL_law_153 : decode code 153 = .ok (.iload_n 3, 1) := by decide +kernel
theorem dL_law_154 : decode code 154 = .ok (.iconst 4, 1) := by decide +kernel
theorem dL_law_155 : decode code 155 = .ok (.iadd, 1) := by decide +kernel
theorem dL_law_156 : decode code 156 = .ok (.iaload, 1) := by decide +kernel
theorem dL_law_157 : decode code 157 = .ok (.aload_n 0, 1) := by decide +kernel
theorem dL_law_158 : decode code 158 = .ok (.iload_n 3, 1) := by decide +kernel
theorem dL_law_159 : decode code 159 = .ok (.iconst 5, 1) := by decide +kernel
theorem dL_law_160 : decode code 160 = .ok (.iadd, 1) := by decide +kernel
theorem dL_law_161 : decode code 161 = .ok (.iaload, 1) := by decide +kernel
theorem dL_law_162 : decode code 162 = .ok (.invokevirtual 13, 3) := by decide +kernel
theorem dL_law_165 : decode code 165 = .ok (.aload_n 2, 1) := by decide +kernel
theorem dL_law_166 : decode code 166 = .ok (.aload_n 0, 1) := by decide +kernel
theorem dL_law_167 : decode code 167 = .ok (.iload_n 3, 1) := by decide +kernel
theorem dL_law_168 : decode code 168 = .ok (.iconst 1, 1) := by decide +kernel
theorem dL_law_169 : decode code 169 = .ok (.iadd, 1) := by decide +kernel
theorem dL_law_170 : decode code 170 = .ok (.iaload, 1) := by decide +kernel
theorem dL_law_171 : decode code 171 = .ok (.aload_n 0, 1) := by decide +kernel
theorem dL_law_172 : decode code 172 = .ok (.iload_n 3, 1) := by decide +kernel
theorem dL_law_173 : decode code 173 = .ok (.iconst 2, 1) := by decide +kernel
theorem dL_law_174 : decode code 174 = .ok (.iadd, 1) := by decide +kernel
theorem dL_law_175 : decode code 175 = .ok (.iaload, 1) := by decide +kernel
theorem dL_law_176 : decode code 176 = .ok (.aload_n 0, 1) := by decide +kernel
theorem dL_law_177 : decode code 177 = .ok (.iload_n 3, 1) := by decide +kernel
theorem dL_law_178 : decode code 178 = .ok (.iconst 3, 1) := by decide +kernel
theorem dL_law_179 : decode code 179 = .ok (.iadd, 1) := by decide +kernel
theorem dL_law_180 : decode code 180 = .ok (.iaload, 1) := by decide +kernel
theorem dL_law_181 : decode code 181 = .ok (.aload_n 0, 1) := by decide +kernel
theorem dL_law_182 : decode code 182 = .ok (.iload_n 3, 1) := by decide +kernel
theorem dL_law_183 : decode code 183 = .ok (.iconst 4, 1) := by decide +kernel
theorem dL_law_184 : decode code 184 = .ok (.iadd, 1) := by decide +kernel
theorem dL_law_185 : decode code 185 = .ok (.iaload, 1) := by decide +kernel
theorem dL_law_186 : decode code 186 = .ok (.aload_n 0, 1) := by decide +kernel
theorem dL_law_187 : decode code 187 = .ok (.iload_n 3, 1) := by decide +kernel
theorem dL_law_188 : decode code 188 = .ok (.iconst 5, 1) := by decide +kernel
theorem dL_law_189 : decode code 189 = .ok (.iadd, 1) := by decide +kernel
theorem dL_law_190 : decode code 190 = .ok (.iaload, 1) := by decide +kernel
theorem dL_law_191 : decode code 191 = .ok (.invokevirtual 17, 3) := by decide +kernel
theorem dL_law_194 : decode code 194 = .ok (.if_icmp .eq 588, 3) := by decide +kernel
theorem dL_law_197 : decode code 197 = .ok (.iconst 0, 1) := by decide +kernel
theorem dL_law_198 : decode code 198 = .ok (.ireturn, 1) := by decide +kernel
theorem dL_law_199 : decode code 199 = .ok (.aload_n 1, 1) := by decide +kernel
theorem dL_law_200 : decode code 200 = .ok (.invokevirtual 18, 3) := by decide +kernel
theorem dL_law_203 : decode code 203 = .ok (.aload_n 2, 1) := by decide +kernel
theorem dL_law_204 : decode code 204 = .ok (.invokevirtual 22, 3) := by decide +kernel
theorem dL_law_207 : decode code 207 = .ok (.if_icmp .eq 575, 3) := by decide +kernel
theorem dL_law_210 : decode code 210 = .ok (.iconst 0, 1) := by decide +kernel
theorem dL_law_211 : decode code 211 = .ok (.ireturn, 1) := by decide +kernel
theorem dL_law_212 : decode code 212 = .ok (.aload_n 1, 1) := by decide +kernel
theorem dL_law_213 : decode code 213 = .ok (.aload_n 0, 1) := by decide +kernel
theorem dL_law_214 : decode code 214 = .ok (.iload_n 3, 1) := by decide +kernel
theorem dL_law_215 : decode code 215 = .ok (.iconst 1, 1) := by decide +kernel
theorem dL_law_216 : decode code 216 = .ok (.iadd, 1) := by decide +kernel
theorem dL_law_217 : decode code 217 = .ok (.iaload, 1) := by decide +kernel
theorem dL_law_218 : decode code 218 = .ok (.aload_n 0, 1) := by decide +kernel
theorem dL_law_219 : decode code 219 = .ok (.iload_n 3, 1) := by decide +kernel
theorem dL_law_220 : decode code 220 = .ok (.iconst 2, 1) := by decide +kernel
theorem dL_law_221 : decode code 221 = .ok (.iadd, 1) := by decide +kernel
theorem dL_law_222 : decode code 222 = .ok (.iaload, 1) := by decide +kernel
theorem dL_law_223 : decode code 223 = .ok (.invokevirtual 23, 3) := by decide +kernel
theorem dL_law_226 : decode code 226 = .ok (.aload_n 2, 1) := by decide +kernel
theorem dL_law_227 : decode code 227 = .ok (.aload_n 0, 1) := by decide +kernel
theorem dL_law_228 : decode code 228 = .ok (.iload_n 3, 1) := by decide +kernel
theorem dL_law_229 : decode code 229 = .ok (.iconst 1, 1) := by decide +kernel
theorem dL_law_230 : decode code 230 = .ok (.iadd, 1) := by decide +kernel
theorem dL_law_231 : decode code 231 = .ok (.iaload, 1) := by decide +kernel
theorem dL_law_232 : decode code 232 = .ok (.aload_n 0, 1) := by decide +kernel
theorem dL_law_233 : decode code 233 = .ok (.iload_n 3, 1) := by decide +kernel
theorem dL_law_234 : decode code 234 = .ok (.iconst 2, 1) := by decide +kernel
theorem dL_law_235 : decode code 235 = .ok (.iadd, 1) := by decide +kernel
theorem dL_law_236 : decode code 236 = .ok (.iaload, 1) := by decide +kernel
theorem dL_law_237 : decode code 237 = .ok (.invokevirtual 27, 3) := by decide +kernel
theorem dL_law_240 : decode code 240 = .ok (.if_icmp .eq 542, 3) := by decide +kernel
theorem dL_law_243 : decode code 243 = .ok (.iconst 0, 1) := by decide +kernel
theorem dL_law_244 : decode code 244 = .ok (.ireturn, 1) := by decide +kernel
theorem dL_law_245 : decode code 245 = .ok (.aload_n 1, 1) := by decide +kernel
theorem dL_law_246 : decode code 246 = .ok (.aload_n 0, 1) := by decide +kernel
theorem dL_law_247 : decode code 247 = .ok (.iload_n 3, 1) := by decide +kernel
theorem dL_law_248 : decode code 248 = .ok (.iconst 1, 1) := by decide +kernel
theorem dL_law_249 : decode code 249 = .ok (.iadd, 1) := by decide +kernel
theorem dL_law_250 : decode code 250 = .ok (.iaload, 1) := by decide +kernel
theorem dL_law_251 : decode code 251 = .ok (.invokevirtual 28, 3) := by decide +kernel
theorem dL_law_254 : decode code 254 = .ok (.aload_n 2, 1) := by decide +kernel
theorem dL_law_255 : decode code 255 = .ok (.aload_n 0, 1) := by decide +kernel
theorem dL_law_256 : decode code 256 = .ok (.iload_n 3, 1) := by decide +kernel
theorem dL_law_257 : decode code 257 = .ok (.iconst 1, 1) := by decide +kernel
theorem dL_law_258 : decode code 258 = .ok (.iadd, 1) := by decide +kernel
theorem dL_law_259 : decode code 259 = .ok (.iaload, 1) := by decide +kernel
theorem dL_law_260 : decode code 260 = .ok (.invokevirtual 32, 3) := by decide +kernel
theorem dL_law_263 : decode code 263 = .ok (.if_icmp .eq 519, 3) := by decide +kernel
theorem dL_law_266 : decode code 266 = .ok (.iconst 0, 1) := by decide +kernel
theorem dL_law_267 : decode code 267 = .ok (.ireturn, 1) := by decide +kernel
theorem dL_law_268 : decode code 268 = .ok (.aload_n 1, 1) := by decide +kernel
theorem dL_law_269 : decode code 269 = .ok (.aload_n 0, 1) := by decide +kernel
theorem dL_law_270 : decode code 270 = .ok (.iload_n 3, 1) := by decide +kernel
theorem dL_law_271 : decode code 271 = .ok (.iconst 1, 1) := by decide +kernel
theorem dL_law_272 : decode code 272 = .ok (.iadd, 1) := by decide +kernel
theorem dL_law_273 : decode code 273 = .ok (.iaload, 1) := by decide +kernel
theorem dL_law_274 : decode code 274 = .ok (.invokevirtual 33, 3) := by decide +kernel
theorem dL_law_277 : decode code 277 = .ok (.aload_n 2, 1) := by decide +kernel
theorem dL_law_278 : decode code 278 = .ok (.aload_n 0, 1) := by decide +kernel
theorem dL_law_279 : decode code 279 = .ok (.iload_n 3, 1) := by decide +kernel
theorem dL_law_280 : decode code 280 = .ok (.iconst 1, 1) := by decide +kernel
theorem dL_law_281 : decode code 281 = .ok (.iadd, 1) := by decide +kernel
theorem dL_law_282 : decode code 282 = .ok (.iaload, 1) := by decide +kernel
theorem dL_law_283 : decode code 283 = .ok (.invokevirtual 36, 3) := by decide +kernel
theorem dL_law_286 : decode code 286 = .ok (.if_icmp .eq 496, 3) := by decide +kernel
theorem dL_law_289 : decode code 289 = .ok (.iconst 0, 1) := by decide +kernel
theorem dL_law_290 : decode code 290 = .ok (.ireturn, 1) := by decide +kernel
theorem dL_law_291 : decode code 291 = .ok (.aload_n 1, 1) := by decide +kernel
theorem dL_law_292 : decode code 292 = .ok (.invokevirtual 37, 3) := by decide +kernel
theorem dL_law_295 : decode code 295 = .ok (.aload_n 2, 1) := by decide +kernel
theorem dL_law_296 : decode code 296 = .ok (.invokevirtual 40, 3) := by decide +kernel
theorem dL_law_299 : decode code 299 = .ok (.if_icmp .eq 483, 3) := by decide +kernel
theorem dL_law_302 : decode code 302 = .ok (.iconst 0, 1) := by decide +kernel
theorem dL_law_303 : decode code 303 = .ok (.ireturn, 1) := by decide +kernel
theorem dL_law_304 : decode code 304 = .ok (.aload_n 1, 1) := by decide +kernel
theorem dL_law_305 : decode code 305 = .ok (.aload_n 0, 1) := by decide +kernel
theorem dL_law_306 : decode code 306 = .ok (.iload_n 3, 1) := by decide +kernel
theorem dL_law_307 : decode code 307 = .ok (.iconst 1, 1) := by decide +kernel
theorem dL_law_308 : decode code 308 = .ok (.iadd, 1) := by decide +kernel
theorem dL_law_309 : decode code 309 = .ok (.iaload, 1) := by decide +kernel
theorem dL_law_310 : decode code 310 = .ok (.invokevirtual 41, 3) := by decide +kernel
theorem dL_law_313 : decode code 313 = .ok (.aload_n 2, 1) := by decide +kernel
theorem dL_law_314 : decode code 314 = .ok (.aload_n 0, 1) := by decide +kernel
theorem dL_law_315 : decode code 315 = .ok (.iload_n 3, 1) := by decide +kernel
theorem dL_law_316 : decode code 316 = .ok (.iconst 1, 1) := by decide +kernel
theorem dL_law_317 : decode code 317 = .ok (.iadd, 1) := by decide +kernel
theorem dL_law_318 : decode code 318 = .ok (.iaload, 1) := by decide +kernel
theorem dL_law_319 : decode code 319 = .ok (.invokevirtual 44, 3) := by decide +kernel
theorem dL_law_322 : decode code 322 = .ok (.if_icmp .eq 460, 3) := by decide +kernel
theorem dL_law_325 : decode code 325 = .ok (.iconst 0, 1) := by decide +kernel
theorem dL_law_326 : decode code 326 = .ok (.ireturn, 1) := by decide +kernel
theorem dL_law_327 : decode code 327 = .ok (.aload_n 1, 1) := by decide +kernel
theorem dL_law_328 : decode code 328 = .ok (.aload_n 0, 1) := by decide +kernel
theorem dL_law_329 : decode code 329 = .ok (.iload_n 3, 1) := by decide +kernel
theorem dL_law_330 : decode code 330 = .ok (.iconst 1, 1) := by decide +kernel
theorem dL_law_331 : decode code 331 = .ok (.iadd, 1) := by decide +kernel
theorem dL_law_332 : decode code 332 = .ok (.iaload, 1) := by decide +kernel
theorem dL_law_333 : decode code 333 = .ok (.aload_n 0, 1) := by decide +kernel
theorem dL_law_334 : decode code 334 = .ok (.iload_n 3, 1) := by decide +kernel
theorem dL_law_335 : decode code 335 = .ok (.iconst 2, 1) := by decide +kernel
theorem dL_law_336 : decode code 336 = .ok (.iadd, 1) := by decide +kernel
theorem dL_law_337 : decode code 337 = .ok (.iaload, 1) := by decide +kernel
theorem dL_law_338 : decode code 338 = .ok (.invokevirtual 45, 3) := by decide +kernel
theorem dL_law_341 : decode code 341 = .ok (.aload_n 2, 1) := by decide +kernel
theorem dL_law_342 : decode code 342 = .ok (.aload_n 0, 1) := by decide +kernel
theorem dL_law_343 : decode code 343 = .ok (.iload_n 3, 1) := by decide +kernel
theorem dL_law_344 : decode code 344 = .ok (.iconst 1, 1) := by decide +kernel
theorem dL_law_345 : decode code 345 = .ok (.iadd, 1) := by decide +kernel
theorem dL_law_346 : decode code 346 = .ok (.iaload, 1) := by decide +kernel
theorem dL_law_347 : decode code 347 = .ok (.aload_n 0, 1) := by decide +kernel
theorem dL_law_348 : decode code 348 = .ok (.iload_n 3, 1) := by decide +kernel
theorem dL_law_349 : decode code 349 = .ok (.iconst 2, 1) := by decide +kernel
theorem dL_law_350 : decode code 350 = .ok (.iadd, 1) := by decide +kernel
theorem dL_law_351 : decode code 351 = .ok (.iaload, 1) := by decide +kernel
theorem dL_law_352 : decode code 352 = .ok (.invokevirtual 48, 3) := by decide +kernel
theorem dL_law_355 : decode code 355 = .ok (.if_icmp .eq 427, 3) := by decide +kernel
theorem dL_law_358 : decode code 358 = .ok (.iconst 0, 1) := by decide +kernel
theorem dL_law_359 : decode code 359 = .ok (.ireturn, 1) := by decide +kernel
theorem dL_law_360 : decode code 360 = .ok (.aload_n 1, 1) := by decide +kernel
theorem dL_law_361 : decode code 361 = .ok (.aload_n 0, 1) := by decide +kernel
theorem dL_law_362 : decode code 362 = .ok (.iload_n 3, 1) := by decide +kernel
theorem dL_law_363 : decode code 363 = .ok (.iconst 1, 1) := by decide +kernel
theorem dL_law_364 : decode code 364 = .ok (.iadd, 1) := by decide +kernel
theorem dL_law_365 : decode code 365 = .ok (.iaload, 1) := by decide +kernel
theorem dL_law_366 : decode code 366 = .ok (.aload_n 0, 1) := by decide +kernel
theorem dL_law_367 : decode code 367 = .ok (.iload_n 3, 1) := by decide +kernel
theorem dL_law_368 : decode code 368 = .ok (.iconst 2, 1) := by decide +kernel
theorem dL_law_369 : decode code 369 = .ok (.iadd, 1) := by decide +kernel
theorem dL_law_370 : decode code 370 = .ok (.iaload, 1) := by decide +kernel
theorem dL_law_371 : decode code 371 = .ok (.invokevirtual 49, 3) := by decide +kernel
theorem dL_law_374 : decode code 374 = .ok (.aload_n 2, 1) := by decide +kernel
theorem dL_law_375 : decode code 375 = .ok (.aload_n 0, 1) := by decide +kernel
theorem dL_law_376 : decode code 376 = .ok (.iload_n 3, 1) := by decide +kernel
theorem dL_law_377 : decode code 377 = .ok (.iconst 1, 1) := by decide +kernel
theorem dL_law_378 : decode code 378 = .ok (.iadd, 1) := by decide +kernel
theorem dL_law_379 : decode code 379 = .ok (.iaload, 1) := by decide +kernel
theorem dL_law_380 : decode code 380 = .ok (.aload_n 0, 1) := by decide +kernel
theorem dL_law_381 : decode code 381 = .ok (.iload_n 3, 1) := by decide +kernel
theorem dL_law_382 : decode code 382 = .ok (.iconst 2, 1) := by decide +kernel
theorem dL_law_383 : decode code 383 = .ok (.iadd, 1) := by decide +kernel
theorem dL_law_384 : decode code 384 = .ok (.iaload, 1) := by decide +kernel
theorem dL_law_385 : decode code 385 = .ok (.invokevirtual 52, 3) := by decide +kernel
theorem dL_law_388 : decode code 388 = .ok (.if_icmp .eq 394, 3) := by decide +kernel
theorem dL_law_391 : decode code 391 = .ok (.iconst 0, 1) := by decide +kernel
theorem dL_law_392 : decode code 392 = .ok (.ireturn, 1) := by decide +kernel
theorem dL_law_393 : decode code 393 = .ok (.aload_n 1, 1) := by decide +kernel
theorem dL_law_394 : decode code 394 = .ok (.aload_n 0, 1) := by decide +kernel
theorem dL_law_395 : decode code 395 = .ok (.iload_n 3, 1) := by decide +kernel
theorem dL_law_396 : decode code 396 = .ok (.iconst 1, 1) := by decide +kernel
theorem dL_law_397 : decode code 397 = .ok (.iadd, 1) := by decide +kernel
theorem dL_law_398 : decode code 398 = .ok (.iaload, 1) := by decide +kernel
theorem dL_law_399 : decode code 399 = .ok (.invokevirtual 53, 3) := by decide +kernel
theorem dL_law_402 : decode code 402 = .ok (.aload_n 2, 1) := by decide +kernel
theorem dL_law_403 : decode code 403 = .ok (.aload_n 0, 1) := by decide +kernel
theorem dL_law_404 : decode code 404 = .ok (.iload_n 3, 1) := by decide +kernel
theorem dL_law_405 : decode code 405 = .ok (.iconst 1, 1) := by decide +kernel
theorem dL_law_406 : decode code 406 = .ok (.iadd, 1) := by decide +kernel
theorem dL_law_407 : decode code 407 = .ok (.iaload, 1) := by decide +kernel
theorem dL_law_408 : decode code 408 = .ok (.invokevirtual 57, 3) := by decide +kernel
theorem dL_law_411 : decode code 411 = .ok (.if_icmp .eq 371, 3) := by decide +kernel
theorem dL_law_414 : decode code 414 = .ok (.iconst 0, 1) := by decide +kernel
theorem dL_law_415 : decode code 415 = .ok (.ireturn, 1) := by decide +kernel
theorem dL_law_416 : decode code 416 = .ok (.aload_n 1, 1) := by decide +kernel
theorem dL_law_417 : decode code 417 = .ok (.aload_n 0, 1) := by decide +kernel
theorem dL_law_418 : decode code 418 = .ok (.iload_n 3, 1) := by decide +kernel
theorem dL_law_419 : decode code 419 = .ok (.iconst 1, 1) := by decide +kernel
theorem dL_law_420 : decode code 420 = .ok (.iadd, 1) := by decide +kernel
theorem dL_law_421 : decode code 421 = .ok (.iaload, 1) := by decide +kernel
theorem dL_law_422 : decode code 422 = .ok (.aload_n 0, 1) := by decide +kernel
theorem dL_law_423 : decode code 423 = .ok (.iload_n 3, 1) := by decide +kernel
theorem dL_law_424 : decode code 424 = .ok (.iconst 2, 1) := by decide +kernel
theorem dL_law_425 : decode code 425 = .ok (.iadd, 1) := by decide +kernel
theorem dL_law_426 : decode code 426 = .ok (.iaload, 1) := by decide +kernel
theorem dL_law_427 : decode code 427 = .ok (.aload_n 0, 1) := by decide +kernel
theorem dL_law_428 : decode code 428 = .ok (.iload_n 3, 1) := by decide +kernel
theorem dL_law_429 : decode code 429 = .ok (.iconst 3, 1) := by decide +kernel
theorem dL_law_430 : decode code 430 = .ok (.iadd, 1) := by decide +kernel
theorem dL_law_431 : decode code 431 = .ok (.iaload, 1) := by decide +kernel
theorem dL_law_432 : decode code 432 = .ok (.invokevirtual 58, 3) := by decide +kernel
theorem dL_law_435 : decode code 435 = .ok (.aload_n 2, 1) := by decide +kernel
theorem dL_law_436 : decode code 436 = .ok (.aload_n 0, 1) := by decide +kernel
theorem dL_law_437 : decode code 437 = .ok (.iload_n 3, 1) := by decide +kernel
theorem dL_law_438 : decode code 438 = .ok (.iconst 1, 1) := by decide +kernel
theorem dL_law_439 : decode code 439 = .ok (.iadd, 1) := by decide +kernel
theorem dL_law_440 : decode code 440 = .ok (.iaload, 1) := by decide +kernel
theorem dL_law_441 : decode code 441 = .ok (.aload_n 0, 1) := by decide +kernel
theorem dL_law_442 : decode code 442 = .ok (.iload_n 3, 1) := by decide +kernel
theorem dL_law_443 : decode code 443 = .ok (.iconst 2, 1) := by decide +kernel
theorem dL_law_444 : decode code 444 = .ok (.iadd, 1) := by decide +kernel
theorem dL_law_445 : decode code 445 = .ok (.iaload, 1) := by decide +kernel
theorem dL_law_446 : decode code 446 = .ok (.aload_n 0, 1) := by decide +kernel
theorem dL_law_447 : decode code 447 = .ok (.iload_n 3, 1) := by decide +kernel
theorem dL_law_448 : decode code 448 = .ok (.iconst 3, 1) := by decide +kernel
theorem dL_law_449 : decode code 449 = .ok (.iadd, 1) := by decide +kernel
theorem dL_law_450 : decode code 450 = .ok (.iaload, 1) := by decide +kernel
theorem dL_law_451 : decode code 451 = .ok (.invokevirtual 62, 3) := by decide +kernel
theorem dL_law_454 : decode code 454 = .ok (.if_icmp .eq 328, 3) := by decide +kernel
theorem dL_law_457 : decode code 457 = .ok (.iconst 0, 1) := by decide +kernel
theorem dL_law_458 : decode code 458 = .ok (.ireturn, 1) := by decide +kernel
theorem dL_law_459 : decode code 459 = .ok (.aload_n 1, 1) := by decide +kernel
theorem dL_law_460 : decode code 460 = .ok (.aload_n 0, 1) := by decide +kernel
theorem dL_law_461 : decode code 461 = .ok (.iload_n 3, 1) := by decide +kernel
theorem dL_law_462 : decode code 462 = .ok (.iconst 1, 1) := by decide +kernel
theorem dL_law_463 : decode code 463 = .ok (.iadd, 1) := by decide +kernel
theorem dL_law_464 : decode code 464 = .ok (.iaload, 1) := by decide +kernel
theorem dL_law_465 : decode code 465 = .ok (.invokevirtual 63, 3) := by decide +kernel
theorem dL_law_468 : decode code 468 = .ok (.aload_n 2, 1) := by decide +kernel
theorem dL_law_469 : decode code 469 = .ok (.aload_n 0, 1) := by decide +kernel
theorem dL_law_470 : decode code 470 = .ok (.iload_n 3, 1) := by decide +kernel
theorem dL_law_471 : decode code 471 = .ok (.iconst 1, 1) := by decide +kernel
theorem dL_law_472 : decode code 472 = .ok (.iadd, 1) := by decide +kernel
theorem dL_law_473 : decode code 473 = .ok (.iaload, 1) := by decide +kernel
theorem dL_law_474 : decode code 474 = .ok (.invokevirtual 66, 3) := by decide +kernel
theorem dL_law_477 : decode code 477 = .ok (.if_icmp .eq 305, 3) := by decide +kernel
theorem dL_law_480 : decode code 480 = .ok (.iconst 0, 1) := by decide +kernel
theorem dL_law_481 : decode code 481 = .ok (.ireturn, 1) := by decide +kernel
theorem dL_law_482 : decode code 482 = .ok (.aload_n 1, 1) := by decide +kernel
theorem dL_law_483 : decode code 483 = .ok (.aload_n 0, 1) := by decide +kernel
theorem dL_law_484 : decode code 484 = .ok (.iload_n 3, 1) := by decide +kernel
theorem dL_law_485 : decode code 485 = .ok (.iconst 1, 1) := by decide +kernel
theorem dL_law_486 : decode code 486 = .ok (.iadd, 1) := by decide +kernel
theorem dL_law_487 : decode code 487 = .ok (.iaload, 1) := by decide +kernel
theorem dL_law_488 : decode code 488 = .ok (.invokevirtual 67, 3) := by decide +kernel
theorem dL_law_491 : decode code 491 = .ok (.aload_n 2, 1) := by decide +kernel
theorem dL_law_492 : decode code 492 = .ok (.aload_n 0, 1) := by decide +kernel
theorem dL_law_493 : decode code 493 = .ok (.iload_n 3, 1) := by decide +kernel
theorem dL_law_494 : decode code 494 = .ok (.iconst 1, 1) := by decide +kernel
theorem dL_law_495 : decode code 495 = .ok (.iadd, 1) := by decide +kernel
theorem dL_law_496 : decode code 496 = .ok (.iaload, 1) := by decide +kernel
theorem dL_law_497 : decode code 497 = .ok (.invokevirtual 70, 3) := by decide +kernel
theorem dL_law_500 : decode code 500 = .ok (.if_icmp .eq 282, 3) := by decide +kernel
theorem dL_law_503 : decode code 503 = .ok (.iconst 0, 1) := by decide +kernel
theorem dL_law_504 : decode code 504 = .ok (.ireturn, 1) := by decide +kernel
theorem dL_law_505 : decode code 505 = .ok (.aload_n 1, 1) := by decide +kernel
theorem dL_law_506 : decode code 506 = .ok (.aload_n 0, 1) := by decide +kernel
theorem dL_law_507 : decode code 507 = .ok (.iload_n 3, 1) := by decide +kernel
theorem dL_law_508 : decode code 508 = .ok (.iconst 1, 1) := by decide +kernel
theorem dL_law_509 : decode code 509 = .ok (.iadd, 1) := by decide +kernel
theorem dL_law_510 : decode code 510 = .ok (.iaload, 1) := by decide +kernel
theorem dL_law_511 : decode code 511 = .ok (.aload_n 0, 1) := by decide +kernel
theorem dL_law_512 : decode code 512 = .ok (.iload_n 3, 1) := by decide +kernel
theorem dL_law_513 : decode code 513 = .ok (.iconst 2, 1) := by decide +kernel
theorem dL_law_514 : decode code 514 = .ok (.iadd, 1) := by decide +kernel
theorem dL_law_515 : decode code 515 = .ok (.iaload, 1) := by decide +kernel
theorem dL_law_516 : decode code 516 = .ok (.invokevirtual 71, 3) := by decide +kernel
theorem dL_law_519 : decode code 519 = .ok (.aload_n 2, 1) := by decide +kernel
theorem dL_law_520 : decode code 520 = .ok (.aload_n 0, 1) := by decide +kernel
theorem dL_law_521 : decode code 521 = .ok (.iload_n 3, 1) := by decide +kernel
theorem dL_law_522 : decode code 522 = .ok (.iconst 1, 1) := by decide +kernel
theorem dL_law_523 : decode code 523 = .ok (.iadd, 1) := by decide +kernel
theorem dL_law_524 : decode code 524 = .ok (.iaload, 1) := by decide +kernel
theorem dL_law_525 : decode code 525 = .ok (.aload_n 0, 1) := by decide +kernel
theorem dL_law_526 : decode code 526 = .ok (.iload_n 3, 1) := by decide +kernel
theorem dL_law_527 : decode code 527 = .ok (.iconst 2, 1) := by decide +kernel
theorem dL_law_528 : decode code 528 = .ok (.iadd, 1) := by decide +kernel
theorem dL_law_529 : decode code 529 = .ok (.iaload, 1) := by decide +kernel
theorem dL_law_530 : decode code 530 = .ok (.invokevirtual 74, 3) := by decide +kernel
theorem dL_law_533 : decode code 533 = .ok (.if_icmp .eq 249, 3) := by decide +kernel
theorem dL_law_536 : decode code 536 = .ok (.iconst 0, 1) := by decide +kernel
theorem dL_law_537 : decode code 537 = .ok (.ireturn, 1) := by decide +kernel
theorem dL_law_538 : decode code 538 = .ok (.aload_n 1, 1) := by decide +kernel
theorem dL_law_539 : decode code 539 = .ok (.aload_n 0, 1) := by decide +kernel
theorem dL_law_540 : decode code 540 = .ok (.iload_n 3, 1) := by decide +kernel
theorem dL_law_541 : decode code 541 = .ok (.iconst 1, 1) := by decide +kernel
theorem dL_law_542 : decode code 542 = .ok (.iadd, 1) := by decide +kernel
theorem dL_law_543 : decode code 543 = .ok (.iaload, 1) := by decide +kernel
theorem dL_law_544 : decode code 544 = .ok (.invokevirtual 75, 3) := by decide +kernel
theorem dL_law_547 : decode code 547 = .ok (.aload_n 2, 1) := by decide +kernel
theorem dL_law_548 : decode code 548 = .ok (.aload_n 0, 1) := by decide +kernel
theorem dL_law_549 : decode code 549 = .ok (.iload_n 3, 1) := by decide +kernel
theorem dL_law_550 : decode code 550 = .ok (.iconst 1, 1) := by decide +kernel
theorem dL_law_551 : decode code 551 = .ok (.iadd, 1) := by decide +kernel
theorem dL_law_552 : decode code 552 = .ok (.iaload, 1) := by decide +kernel
theorem dL_law_553 : decode code 553 = .ok (.invokevirtual 78, 3) := by decide +kernel
theorem dL_law_556 : decode code 556 = .ok (.if_icmp .eq 226, 3) := by decide +kernel
theorem dL_law_559 : decode code 559 = .ok (.iconst 0, 1) := by decide +kernel
theorem dL_law_560 : decode code 560 = .ok (.ireturn, 1) := by decide +kernel
theorem dL_law_561 : decode code 561 = .ok (.aload_n 1, 1) := by decide +kernel
theorem dL_law_562 : decode code 562 = .ok (.aload_n 0, 1) := by decide +kernel
theorem dL_law_563 : decode code 563 = .ok (.iload_n 3, 1) := by decide +kernel
theorem dL_law_564 : decode code 564 = .ok (.iconst 1, 1) := by decide +kernel
theorem dL_law_565 : decode code 565 = .ok (.iadd, 1) := by decide +kernel
theorem dL_law_566 : decode code 566 = .ok (.iaload, 1) := by decide +kernel
theorem dL_law_567 : decode code 567 = .ok (.aload_n 0, 1) := by decide +kernel
theorem dL_law_568 : decode code 568 = .ok (.iload_n 3, 1) := by decide +kernel
theorem dL_law_569 : decode code 569 = .ok (.iconst 2, 1) := by decide +kernel
theorem dL_law_570 : decode code 570 = .ok (.iadd, 1) := by decide +kernel
theorem dL_law_571 : decode code 571 = .ok (.iaload, 1) := by decide +kernel
theorem dL_law_572 : decode code 572 = .ok (.aload_n 0, 1) := by decide +kernel
theorem dL_law_573 : decode code 573 = .ok (.iload_n 3, 1) := by decide +kernel
theorem dL_law_574 : decode code 574 = .ok (.iconst 3, 1) := by decide +kernel
theorem dL_law_575 : decode code 575 = .ok (.iadd, 1) := by decide +kernel
theorem dL_law_576 : decode code 576 = .ok (.iaload, 1) := by decide +kernel
theorem dL_law_577 : decode code 577 = .ok (.invokevirtual 79, 3) := by decide +kernel
theorem dL_law_580 : decode code 580 = .ok (.aload_n 2, 1) := by decide +kernel
theorem dL_law_581 : decode code 581 = .ok (.aload_n 0, 1) := by decide +kernel
theorem dL_law_582 : decode code 582 = .ok (.iload_n 3, 1) := by decide +kernel
theorem dL_law_583 : decode code 583 = .ok (.iconst 1, 1) := by decide +kernel
theorem dL_law_584 : decode code 584 = .ok (.iadd, 1) := by decide +kernel
theorem dL_law_585 : decode code 585 = .ok (.iaload, 1) := by decide +kernel
theorem dL_law_586 : decode code 586 = .ok (.aload_n 0, 1) := by decide +kernel
theorem dL_law_587 : decode code 587 = .ok (.iload_n 3, 1) := by decide +kernel
theorem dL_law_588 : decode code 588 = .ok (.iconst 2, 1) := by decide +kernel
theorem dL_law_589 : decode code 589 = .ok (.iadd, 1) := by decide +kernel
theorem dL_law_590 : decode code 590 = .ok (.iaload, 1) := by decide +kernel
theorem dL_law_591 : decode code 591 = .ok (.aload_n 0, 1) := by decide +kernel
theorem dL_law_592 : decode code 592 = .ok (.iload_n 3, 1) := by decide +kernel
theorem dL_law_593 : decode code 593 = .ok (.iconst 3, 1) := by decide +kernel
theorem dL_law_594 : decode code 594 = .ok (.iadd, 1) := by decide +kernel
theorem dL_law_595 : decode code 595 = .ok (.iaload, 1) := by decide +kernel
theorem dL_law_596 : decode code 596 = .ok (.invokevirtual 82, 3) := by decide +kernel
theorem dL_law_599 : decode code 599 = .ok (.if_icmp .eq 183, 3) := by decide +kernel
theorem dL_law_602 : decode code 602 = .ok (.iconst 0, 1) := by decide +kernel
theorem dL_law_603 : decode code 603 = .ok (.ireturn, 1) := by decide +kernel
theorem dL_law_604 : decode code 604 = .ok (.aload_n 1, 1) := by decide +kernel
theorem dL_law_605 : decode code 605 = .ok (.aload_n 0, 1) := by decide +kernel
theorem dL_law_606 : decode code 606 = .ok (.iload_n 3, 1) := by decide +kernel
theorem dL_law_607 : decode code 607 = .ok (.iconst 1, 1) := by decide +kernel
theorem dL_law_608 : decode code 608 = .ok (.iadd, 1) := by decide +kernel
theorem dL_law_609 : decode code 609 = .ok (.iaload, 1) := by decide +kernel
theorem dL_law_610 : decode code 610 = .ok (.aload_n 0, 1) := by decide +kernel
theorem dL_law_611 : decode code 611 = .ok (.iload_n 3, 1) := by decide +kernel
theorem dL_law_612 : decode code 612 = .ok (.iconst 2, 1) := by decide +kernel
theorem dL_law_613 : decode code 613 = .ok (.iadd, 1) := by decide +kernel
theorem dL_law_614 : decode code 614 = .ok (.iaload, 1) := by decide +kernel
theorem dL_law_615 : decode code 615 = .ok (.invokevirtual 83, 3) := by decide +kernel
theorem dL_law_618 : decode code 618 = .ok (.aload_n 2, 1) := by decide +kernel
theorem dL_law_619 : decode code 619 = .ok (.aload_n 0, 1) := by decide +kernel
theorem dL_law_620 : decode code 620 = .ok (.iload_n 3, 1) := by decide +kernel
theorem dL_law_621 : decode code 621 = .ok (.iconst 1, 1) := by decide +kernel
theorem dL_law_622 : decode code 622 = .ok (.iadd, 1) := by decide +kernel
theorem dL_law_623 : decode code 623 = .ok (.iaload, 1) := by decide +kernel
theorem dL_law_624 : decode code 624 = .ok (.aload_n 0, 1) := by decide +kernel
theorem dL_law_625 : decode code 625 = .ok (.iload_n 3, 1) := by decide +kernel
theorem dL_law_626 : decode code 626 = .ok (.iconst 2, 1) := by decide +kernel
theorem dL_law_627 : decode code 627 = .ok (.iadd, 1) := by decide +kernel
theorem dL_law_628 : decode code 628 = .ok (.iaload, 1) := by decide +kernel
theorem dL_law_629 : decode code 629 = .ok (.invokevirtual 87, 3) := by decide +kernel
theorem dL_law_632 : decode code 632 = .ok (.if_icmp .eq 150, 3) := by decide +kernel
theorem dL_law_635 : decode code 635 = .ok (.iconst 0, 1) := by decide +kernel
theorem dL_law_636 : decode code 636 = .ok (.ireturn, 1) := by decide +kernel
theorem dL_law_637 : decode code 637 = .ok (.aload_n 1, 1) := by decide +kernel
theorem dL_law_638 : decode code 638 = .ok (.aload_n 0, 1) := by decide +kernel
theorem dL_law_639 : decode code 639 = .ok (.iload_n 3, 1) := by decide +kernel
theorem dL_law_640 : decode code 640 = .ok (.iconst 1, 1) := by decide +kernel
theorem dL_law_641 : decode code 641 = .ok (.iadd, 1) := by decide +kernel
theorem dL_law_642 : decode code 642 = .ok (.iaload, 1) := by decide +kernel
theorem dL_law_643 : decode code 643 = .ok (.aload_n 0, 1) := by decide +kernel
theorem dL_law_644 : decode code 644 = .ok (.iload_n 3, 1) := by decide +kernel
theorem dL_law_645 : decode code 645 = .ok (.iconst 2, 1) := by decide +kernel
theorem dL_law_646 : decode code 646 = .ok (.iadd, 1) := by decide +kernel
theorem dL_law_647 : decode code 647 = .ok (.iaload, 1) := by decide +kernel
theorem dL_law_648 : decode code 648 = .ok (.aload_n 0, 1) := by decide +kernel
theorem dL_law_649 : decode code 649 = .ok (.iload_n 3, 1) := by decide +kernel
theorem dL_law_650 : decode code 650 = .ok (.iconst 3, 1) := by decide +kernel
theorem dL_law_651 : decode code 651 = .ok (.iadd, 1) := by decide +kernel
theorem dL_law_652 : decode code 652 = .ok (.iaload, 1) := by decide +kernel
theorem dL_law_653 : decode code 653 = .ok (.invokevirtual 88, 3) := by decide +kernel
theorem dL_law_656 : decode code 656 = .ok (.aload_n 2, 1) := by decide +kernel
theorem dL_law_657 : decode code 657 = .ok (.aload_n 0, 1) := by decide +kernel
theorem dL_law_658 : decode code 658 = .ok (.iload_n 3, 1) := by decide +kernel
theorem dL_law_659 : decode code 659 = .ok (.iconst 1, 1) := by decide +kernel
theorem dL_law_660 : decode code 660 = .ok (.iadd, 1) := by decide +kernel
theorem dL_law_661 : decode code 661 = .ok (.iaload, 1) := by decide +kernel
theorem dL_law_662 : decode code 662 = .ok (.aload_n 0, 1) := by decide +kernel
theorem dL_law_663 : decode code 663 = .ok (.iload_n 3, 1) := by decide +kernel
theorem dL_law_664 : decode code 664 = .ok (.iconst 2, 1) := by decide +kernel
theorem dL_law_665 : decode code 665 = .ok (.iadd, 1) := by decide +kernel
theorem dL_law_666 : decode code 666 = .ok (.iaload, 1) := by decide +kernel
theorem dL_law_667 : decode code 667 = .ok (.aload_n 0, 1) := by decide +kernel
theorem dL_law_668 : decode code 668 = .ok (.iload_n 3, 1) := by decide +kernel
theorem dL_law_669 : decode code 669 = .ok (.iconst 3, 1) := by decide +kernel
theorem dL_law_670 : decode code 670 = .ok (.iadd, 1) := by decide +kernel
theorem dL_law_671 : decode code 671 = .ok (.iaload, 1) := by decide +kernel
theorem dL_law_672 : decode code 672 = .ok (.invokevirtual 91, 3) := by decide +kernel
theorem dL_law_675 : decode code 675 = .ok (.if_icmp .eq 107, 3) := by decide +kernel
theorem dL_law_678 : decode code 678 = .ok (.iconst 0, 1) := by decide +kernel
theorem dL_law_679 : decode code 679 = .ok (.ireturn, 1) := by decide +kernel
theorem dL_law_680 : decode code 680 = .ok (.aload_n 1, 1) := by decide +kernel
theorem dL_law_681 : decode code 681 = .ok (.aload_n 0, 1) := by decide +kernel
theorem dL_law_682 : decode code 682 = .ok (.iload_n 3, 1) := by decide +kernel
theorem dL_law_683 : decode code 683 = .ok (.iconst 1, 1) := by decide +kernel
theorem dL_law_684 : decode code 684 = .ok (.iadd, 1) := by decide +kernel
theorem dL_law_685 : decode code 685 = .ok (.iaload, 1) := by decide +kernel
theorem dL_law_686 : decode code 686 = .ok (.invokevirtual 92, 3) := by decide +kernel
theorem dL_law_689 : decode code 689 = .ok (.aload_n 2, 1) := by decide +kernel
theorem dL_law_690 : decode code 690 = .ok (.aload_n 0, 1) := by decide +kernel
theorem dL_law_691 : decode code 691 = .ok (.iload_n 3, 1) := by decide +kernel
theorem dL_law_692 : decode code 692 = .ok (.iconst 1, 1) := by decide +kernel
theorem dL_law_693 : decode code 693 = .ok (.iadd, 1) := by decide +kernel
theorem dL_law_694 : decode code 694 = .ok (.iaload, 1) := by decide +kernel
theorem dL_law_695 : decode code 695 = .ok (.invokevirtual 95, 3) := by decide +kernel
theorem dL_law_698 : decode code 698 = .ok (.if_icmp .eq 84, 3) := by decide +kernel
theorem dL_law_701 : decode code 701 = .ok (.iconst 0, 1) := by decide +kernel
theorem dL_law_702 : decode code 702 = .ok (.ireturn, 1) := by decide +kernel
theorem dL_law_703 : decode code 703 = .ok (.aload_n 1, 1) := by decide +kernel
theorem dL_law_704 : decode code 704 = .ok (.aload_n 0, 1) := by decide +kernel
theorem dL_law_705 : decode code 705 = .ok (.iload_n 3, 1) := by decide +kernel
theorem dL_law_706 : decode code 706 = .ok (.iconst 1, 1) := by decide +kernel
theorem dL_law_707 : decode code 707 = .ok (.iadd, 1) := by decide +kernel
theorem dL_law_708 : decode code 708 = .ok (.iaload, 1) := by decide +kernel
theorem dL_law_709 : decode code 709 = .ok (.aload_n 0, 1) := by decide +kernel
theorem dL_law_710 : decode code 710 = .ok (.iload_n 3, 1) := by decide +kernel
theorem dL_law_711 : decode code 711 = .ok (.iconst 2, 1) := by decide +kernel
theorem dL_law_712 : decode code 712 = .ok (.iadd, 1) := by decide +kernel
theorem dL_law_713 : decode code 713 = .ok (.iaload, 1) := by decide +kernel
theorem dL_law_714 : decode code 714 = .ok (.invokevirtual 96, 3) := by decide +kernel
theorem dL_law_717 : decode code 717 = .ok (.aload_n 2, 1) := by decide +kernel
theorem dL_law_718 : decode code 718 = .ok (.aload_n 0, 1) := by decide +kernel
theorem dL_law_719 : decode code 719 = .ok (.iload_n 3, 1) := by decide +kernel
theorem dL_law_720 : decode code 720 = .ok (.iconst 1, 1) := by decide +kernel
theorem dL_law_721 : decode code 721 = .ok (.iadd, 1) := by decide +kernel
theorem dL_law_722 : decode code 722 = .ok (.iaload, 1) := by decide +kernel
theorem dL_law_723 : decode code 723 = .ok (.aload_n 0, 1) := by decide +kernel
theorem dL_law_724 : decode code 724 = .ok (.iload_n 3, 1) := by decide +kernel
theorem dL_law_725 : decode code 725 = .ok (.iconst 2, 1) := by decide +kernel
theorem dL_law_726 : decode code 726 = .ok (.iadd, 1) := by decide +kernel
theorem dL_law_727 : decode code 727 = .ok (.iaload, 1) := by decide +kernel
theorem dL_law_728 : decode code 728 = .ok (.invokevirtual 99, 3) := by decide +kernel
theorem dL_law_731 : decode code 731 = .ok (.if_icmp .eq 51, 3) := by decide +kernel
theorem dL_law_734 : decode code 734 = .ok (.iconst 0, 1) := by decide +kernel
theorem dL_law_735 : decode code 735 = .ok (.ireturn, 1) := by decide +kernel
theorem dL_law_736 : decode code 736 = .ok (.aload_n 1, 1) := by decide +kernel
theorem dL_law_737 : decode code 737 = .ok (.aload_n 0, 1) := by decide +kernel
theorem dL_law_738 : decode code 738 = .ok (.iload_n 3, 1) := by decide +kernel
theorem dL_law_739 : decode code 739 = .ok (.iconst 1, 1) := by decide +kernel
theorem dL_law_740 : decode code 740 = .ok (.iadd, 1) := by decide +kernel
theorem dL_law_741 : decode code 741 = .ok (.iaload, 1) := by decide +kernel
theorem dL_law_742 : decode code 742 = .ok (.invokevirtual 100, 3) := by decide +kernel
theorem dL_law_745 : decode code 745 = .ok (.aload_n 2, 1) := by decide +kernel
theorem dL_law_746 : decode code 746 = .ok (.aload_n 0, 1) := by decide +kernel
theorem dL_law_747 : decode code 747 = .ok (.iload_n 3, 1) := by decide +kernel
theorem dL_law_748 : decode code 748 = .ok (.iconst 1, 1) := by decide +kernel
theorem dL_law_749 : decode code 749 = .ok (.iadd, 1) := by decide +kernel
theorem dL_law_750 : decode code 750 = .ok (.iaload, 1) := by decide +kernel
theorem dL_law_751 : decode code 751 = .ok (.invokevirtual 103, 3) := by decide +kernel
theorem dL_law_754 : decode code 754 = .ok (.if_icmp .eq 28, 3) := by decide +kernel
theorem dL_law_757 : decode code 757 = .ok (.iconst 0, 1) := by decide +kernel
theorem dL_law_758 : decode code 758 = .ok (.ireturn, 1) := by decide +kernel
theorem dL_law_759 : decode code 759 = .ok (.aload_n 1, 1) := by decide +kernel
theorem dL_law_760 : decode code 760 = .ok (.aload_n 0, 1) := by decide +kernel
theorem dL_law_761 : decode code 761 = .ok (.iload_n 3, 1) := by decide +kernel
theorem dL_law_762 : decode code 762 = .ok (.iconst 1, 1) := by decide +kernel
theorem dL_law_763 : decode code 763 = .ok (.iadd, 1) := by decide +kernel
theorem dL_law_764 : decode code 764 = .ok (.iaload, 1) := by decide +kernel
theorem dL_law_765 : decode code 765 = .ok (.invokevirtual 104, 3) := by decide +kernel
theorem dL_law_768 : decode code 768 = .ok (.aload_n 2, 1) := by decide +kernel
theorem dL_law_769 : decode code 769 = .ok (.aload_n 0, 1) := by decide +kernel
theorem dL_law_770 : decode code 770 = .ok (.iload_n 3, 1) := by decide +kernel
theorem dL_law_771 : decode code 771 = .ok (.iconst 1, 1) := by decide +kernel
theorem dL_law_772 : decode code 772 = .ok (.iadd, 1) := by decide +kernel
theorem dL_law_773 : decode code 773 = .ok (.iaload, 1) := by decide +kernel
theorem dL_law_774 : decode code 774 = .ok (.invokevirtual 107, 3) := by decide +kernel
theorem dL_law_777 : decode code 777 = .ok (.if_icmp .eq 5, 3) := by decide +kernel
theorem dL_law_780 : decode code 780 = .ok (.iconst 0, 1) := by decide +kernel
theorem dL_law_781 : decode code 781 = .ok (.ireturn, 1) := by decide +kernel
theorem dL_law_782 : decode code 782 = .ok (.iinc 3 6, 3) := by decide +kernel
theorem dL_law_785 : decode code 785 = .ok (.goto (-767), 3) := by decide +kernel
theorem dL_law_788 : decode code 788 = .ok (.iconst 1, 1) := by decide +kernel
theorem dL_law_789 : decode code 789 = .ok (.ireturn, 1) := by decide +kernel
theorem tlL_9 : Cond.methodLink RL 9 yX4_init ∈ tt := tt_in (by decide +kernel) (by decide +kernel)
theorem tlL_13 : Cond.methodLink RL 13 yX4_put ∈ tt := tt_in (by decide +kernel) (by decide +kernel)
theorem tcL_X4_put : Cond.code yX4_put cX4_put 6 (some .int) ∈ tt := tt_in (by decide +kernel) (by decide +kernel)
theorem tiL_X4_put : Cond.instanceMethod yX4_put ∈ tt := tt_in (by decide +kernel) (by decide +kernel)
theorem teL_X4_put : Cond.selects RX4 yX4_put yX4_put ∈ tt := tt_in (by decide +kernel) (by decide +kernel)
theorem tlL_18 : Cond.methodLink RL 18 yX4_wipe ∈ tt := tt_in (by decide +kernel) (by decide +kernel)
theorem tcL_X4_wipe : Cond.code yX4_wipe cX4_wipe 2 (some .int) ∈ tt := tt_in (by decide +kernel) (by decide +kernel)
theorem tiL_X4_wipe : Cond.instanceMethod yX4_wipe ∈ tt := tt_in (by decide +kernel) (by decide +kernel)
theorem teL_X4_wipe : Cond.selects RX4 yX4_wipe yX4_wipe ∈ tt := tt_in (by decide +kernel) (by decide +kernel)
theorem tlL_23 : Cond.methodLink RL 23 yX4_cell ∈ tt := tt_in (by decide +kernel) (by decide +kernel)
theorem tcL_X4_cell : Cond.code yX4_cell cX4_cell 5 (some .int) ∈ tt := tt_in (by decide +kernel) (by decide +kernel)
theorem tiL_X4_cell : Cond.instanceMethod yX4_cell ∈ tt := tt_in (by decide +kernel) (by decide +kernel)
theorem teL_X4_cell : Cond.selects RX4 yX4_cell yX4_cell ∈ tt := tt_in (by decide +kernel) (by decide +kernel)
theorem tlL_28 : Cond.methodLink RL 28 yX4_redo ∈ tt := tt_in (by decide +kernel) (by decide +kernel)
theorem tcL_X4_redo : Cond.code yX4_redo cX4_redo 3 (some .int) ∈ tt := tt_in (by decide +kernel) (by decide +kernel)
theorem tiL_X4_redo : Cond.instanceMethod yX4_redo ∈ tt := tt_in (by decide +kernel) (by decide +kernel)
theorem teL_X4_redo : Cond.selects RX4 yX4_redo yX4_redo ∈ tt := tt_in (by decide +kernel) (by decide +kernel)
theorem tlL_33 : Cond.methodLink RL 33 yX4_rerun ∈ tt := tt_in (by decide +kernel) (by decide +kernel)
theorem tcL_X4_rerun : Cond.code yX4_rerun cX4_rerun 3 (some .int) ∈ tt := tt_in (by decide +kernel) (by decide +kernel)
theorem tiL_X4_rerun : Cond.instanceMethod yX4_rerun ∈ tt := tt_in (by decide +kernel) (by decide +kernel)
theorem teL_X4_rerun : Cond.selects RX4 yX4_rerun yX4_rerun ∈ tt := tt_in (by decide +kernel) (by decide +kernel)
theorem tlL_37 : Cond.methodLink RL 37 yX4_rerunStale ∈ tt := tt_in (by decide +kernel) (by decide +kernel)
theorem tcL_X4_rerunStale : Cond.code yX4_rerunStale cX4_rerunStale 7 (some .int) ∈ tt := tt_in (by decide +kernel) (by decide +kernel)
theorem tiL_X4_rerunStale : Cond.instanceMethod yX4_rerunStale ∈ tt := tt_in (by decide +kernel) (by decide +kernel)
theorem teL_X4_rerunStale : Cond.selects RX4 yX4_rerunStale yX4_rerunStale ∈ tt := tt_in (by decide +kernel) (by decide +kernel)
theorem tlL_41 : Cond.methodLink RL 41 yX4_forget ∈ tt := tt_in (by decide +kernel) (by decide +kernel)
theorem tcL_X4_forget : Cond.code yX4_forget cX4_forget 2 (some .int) ∈ tt := tt_in (by decide +kernel) (by decide +kernel)
theorem tiL_X4_forget : Cond.instanceMethod yX4_forget ∈ tt := tt_in (by decide +kernel) (by decide +kernel)
theorem teL_X4_forget : Cond.selects RX4 yX4_forget yX4_forget ∈ tt := tt_in (by decide +kernel) (by decide +kernel)
theorem tlL_45 : Cond.methodLink RL 45 yX4_of ∈ tt := tt_in (by decide +kernel) (by decide +kernel)
theorem tcL_X4_of : Cond.code yX4_of cX4_of 3 (some .int) ∈ tt := tt_in (by decide +kernel) (by decide +kernel)
theorem tiL_X4_of : Cond.instanceMethod yX4_of ∈ tt := tt_in (by decide +kernel) (by decide +kernel)
theorem teL_X4_of : Cond.selects RX4 yX4_of yX4_of ∈ tt := tt_in (by decide +kernel) (by decide +kernel)
theorem tlL_49 : Cond.methodLink RL 49 yX4_leans ∈ tt := tt_in (by decide +kernel) (by decide +kernel)
theorem tcL_X4_leans : Cond.code yX4_leans cX4_leans 3 (some .int) ∈ tt := tt_in (by decide +kernel) (by decide +kernel)
theorem tiL_X4_leans : Cond.instanceMethod yX4_leans ∈ tt := tt_in (by decide +kernel) (by decide +kernel)
theorem teL_X4_leans : Cond.selects RX4 yX4_leans yX4_leans ∈ tt := tt_in (by decide +kernel) (by decide +kernel)
theorem tlL_53 : Cond.methodLink RL 53 yX4_stale ∈ tt := tt_in (by decide +kernel) (by decide +kernel)
theorem tcL_X4_stale : Cond.code yX4_stale cX4_stale 2 (some .boolean) ∈ tt := tt_in (by decide +kernel) (by decide +kernel)
theorem tiL_X4_stale : Cond.instanceMethod yX4_stale ∈ tt := tt_in (by decide +kernel) (by decide +kernel)
theorem teL_X4_stale : Cond.selects RX4 yX4_stale yX4_stale ∈ tt := tt_in (by decide +kernel) (by decide +kernel)
theorem tlL_58 : Cond.methodLink RL 58 yX4_written ∈ tt := tt_in (by decide +kernel) (by decide +kernel)
theorem tcL_X4_written : Cond.code yX4_written cX4_written 4 (some .int) ∈ tt := tt_in (by decide +kernel) (by decide +kernel)
theorem tiL_X4_written : Cond.instanceMethod yX4_written ∈ tt := tt_in (by decide +kernel) (by decide +kernel)
theorem teL_X4_written : Cond.selects RX4 yX4_written yX4_written ∈ tt := tt_in (by decide +kernel) (by decide +kernel)
theorem tlL_63 : Cond.methodLink RL 63 yX4_count ∈ tt := tt_in (by decide +kernel) (by decide +kernel)
theorem tcL_X4_count : Cond.code yX4_count cX4_count 2 (some .int) ∈ tt := tt_in (by decide +kernel) (by decide +kernel)
theorem tiL_X4_count : Cond.instanceMethod yX4_count ∈ tt := tt_in (by decide +kernel) (by decide +kernel)
theorem teL_X4_count : Cond.selects RX4 yX4_count yX4_count ∈ tt := tt_in (by decide +kernel) (by decide +kernel)
theorem tlL_67 : Cond.methodLink RL 67 yX4_newest ∈ tt := tt_in (by decide +kernel) (by decide +kernel)
theorem tcL_X4_newest : Cond.code yX4_newest cX4_newest 2 (some .int) ∈ tt := tt_in (by decide +kernel) (by decide +kernel)
theorem tiL_X4_newest : Cond.instanceMethod yX4_newest ∈ tt := tt_in (by decide +kernel) (by decide +kernel)
theorem teL_X4_newest : Cond.selects RX4 yX4_newest yX4_newest ∈ tt := tt_in (by decide +kernel) (by decide +kernel)
theorem tlL_71 : Cond.methodLink RL 71 yX4_edition ∈ tt := tt_in (by decide +kernel) (by decide +kernel)
theorem tcL_X4_edition : Cond.code yX4_edition cX4_edition 4 (some .int) ∈ tt := tt_in (by decide +kernel) (by decide +kernel)
theorem tiL_X4_edition : Cond.instanceMethod yX4_edition ∈ tt := tt_in (by decide +kernel) (by decide +kernel)
theorem teL_X4_edition : Cond.selects RX4 yX4_edition yX4_edition ∈ tt := tt_in (by decide +kernel) (by decide +kernel)
theorem tlL_75 : Cond.methodLink RL 75 yX4_classOf ∈ tt := tt_in (by decide +kernel) (by decide +kernel)
theorem tcL_X4_classOf : Cond.code yX4_classOf cX4_classOf 2 (some .int) ∈ tt := tt_in (by decide +kernel) (by decide +kernel)
theorem tiL_X4_classOf : Cond.instanceMethod yX4_classOf ∈ tt := tt_in (by decide +kernel) (by decide +kernel)
theorem teL_X4_classOf : Cond.selects RX4 yX4_classOf yX4_classOf ∈ tt := tt_in (by decide +kernel) (by decide +kernel)
theorem tlL_79 : Cond.methodLink RL 79 yX4_field ∈ tt := tt_in (by decide +kernel) (by decide +kernel)
theorem tcL_X4_field : Cond.code yX4_field cX4_field 5 (some .int) ∈ tt := tt_in (by decide +kernel) (by decide +kernel)
theorem tiL_X4_field : Cond.instanceMethod yX4_field ∈ tt := tt_in (by decide +kernel) (by decide +kernel)
theorem teL_X4_field : Cond.selects RX4 yX4_field yX4_field ∈ tt := tt_in (by decide +kernel) (by decide +kernel)
theorem tlL_83 : Cond.methodLink RL 83 yX4_is ∈ tt := tt_in (by decide +kernel) (by decide +kernel)
theorem tcL_X4_is : Cond.code yX4_is cX4_is 3 (some .boolean) ∈ tt := tt_in (by decide +kernel) (by decide +kernel)
theorem tiL_X4_is : Cond.instanceMethod yX4_is ∈ tt := tt_in (by decide +kernel) (by decide +kernel)
theorem teL_X4_is : Cond.selects RX4 yX4_is yX4_is ∈ tt := tt_in (by decide +kernel) (by decide +kernel)
theorem tlL_88 : Cond.methodLink RL 88 yX4_call ∈ tt := tt_in (by decide +kernel) (by decide +kernel)
theorem tcL_X4_call : Cond.code yX4_call cX4_call 5 (some .int) ∈ tt := tt_in (by decide +kernel) (by decide +kernel)
theorem tiL_X4_call : Cond.instanceMethod yX4_call ∈ tt := tt_in (by decide +kernel) (by decide +kernel)
theorem teL_X4_call : Cond.selects RX4 yX4_call yX4_call ∈ tt := tt_in (by decide +kernel) (by decide +kernel)
theorem tlL_92 : Cond.methodLink RL 92 yX4_came ∈ tt := tt_in (by decide +kernel) (by decide +kernel)
theorem tcL_X4_came : Cond.code yX4_came cX4_came 2 (some .int) ∈ tt := tt_in (by decide +kernel) (by decide +kernel)
theorem tiL_X4_came : Cond.instanceMethod yX4_came ∈ tt := tt_in (by decide +kernel) (by decide +kernel)
theorem teL_X4_came : Cond.selects RX4 yX4_came yX4_came ∈ tt := tt_in (by decide +kernel) (by decide +kernel)
theorem tlL_96 : Cond.methodLink RL 96 yX4_convert ∈ tt := tt_in (by decide +kernel) (by decide +kernel)
theorem tcL_X4_convert : Cond.code yX4_convert cX4_convert 5 (some .int) ∈ tt := tt_in (by decide +kernel) (by decide +kernel)
theorem tiL_X4_convert : Cond.instanceMethod yX4_convert ∈ tt := tt_in (by decide +kernel) (by decide +kernel)
theorem teL_X4_convert : Cond.selects RX4 yX4_convert yX4_convert ∈ tt := tt_in (by decide +kernel) (by decide +kernel)
theorem tlL_12 : Cond.methodLink RL 12 yX5_init ∈ tt := tt_in (by decide +kernel) (by decide +kernel)
theorem tlL_70 : Cond.methodLink RL 70 yX5_newest ∈ tt := tt_in (by decide +kernel) (by decide +kernel)
theorem tcL_X5_newest : Cond.code yX5_newest cX5_newest 2 (some .int) ∈ tt := tt_in (by decide +kernel) (by decide +kernel)
theorem tiL_X5_newest : Cond.instanceMethod yX5_newest ∈ tt := tt_in (by decide +kernel) (by decide +kernel)
theorem teL_X5_newest : Cond.selects RX5 yX5_newest yX5_newest ∈ tt := tt_in (by decide +kernel) (by decide +kernel)
theorem tlL_17 : Cond.methodLink RL 17 yX5_put ∈ tt := tt_in (by decide +kernel) (by decide +kernel)
theorem tcL_X5_put : Cond.code yX5_put cX5_put 7 (some .int) ∈ tt := tt_in (by decide +kernel) (by decide +kernel)
theorem tiL_X5_put : Cond.instanceMethod yX5_put ∈ tt := tt_in (by decide +kernel) (by decide +kernel)
theorem teL_X5_put : Cond.selects RX5 yX5_put yX5_put ∈ tt := tt_in (by decide +kernel) (by decide +kernel)
theorem tlL_22 : Cond.methodLink RL 22 yX5_wipe ∈ tt := tt_in (by decide +kernel) (by decide +kernel)
theorem tcL_X5_wipe : Cond.code yX5_wipe cX5_wipe 2 (some .int) ∈ tt := tt_in (by decide +kernel) (by decide +kernel)
theorem tiL_X5_wipe : Cond.instanceMethod yX5_wipe ∈ tt := tt_in (by decide +kernel) (by decide +kernel)
theorem teL_X5_wipe : Cond.selects RX5 yX5_wipe yX5_wipe ∈ tt := tt_in (by decide +kernel) (by decide +kernel)
theorem tlL_27 : Cond.methodLink RL 27 yX5_cell ∈ tt := tt_in (by decide +kernel) (by decide +kernel)
theorem tcL_X5_cell : Cond.code yX5_cell cX5_cell 6 (some .int) ∈ tt := tt_in (by decide +kernel) (by decide +kernel)
theorem tiL_X5_cell : Cond.instanceMethod yX5_cell ∈ tt := tt_in (by decide +kernel) (by decide +kernel)
theorem teL_X5_cell : Cond.selects RX5 yX5_cell yX5_cell ∈ tt := tt_in (by decide +kernel) (by decide +kernel)
theorem tlL_32 : Cond.methodLink RL 32 yX5_redo ∈ tt := tt_in (by decide +kernel) (by decide +kernel)
theorem tcL_X5_redo : Cond.code yX5_redo cX5_redo 3 (some .int) ∈ tt := tt_in (by decide +kernel) (by decide +kernel)
theorem tiL_X5_redo : Cond.instanceMethod yX5_redo ∈ tt := tt_in (by decide +kernel) (by decide +kernel)
theorem teL_X5_redo : Cond.selects RX5 yX5_redo yX5_redo ∈ tt := tt_in (by decide +kernel) (by decide +kernel)
theorem tlL_36 : Cond.methodLink RL 36 yX5_rerun ∈ tt := tt_in (by decide +kernel) (by decide +kernel)
theorem tcL_X5_rerun : Cond.code yX5_rerun cX5_rerun 3 (some .int) ∈ tt := tt_in (by decide +kernel) (by decide +kernel)
theorem tiL_X5_rerun : Cond.instanceMethod yX5_rerun ∈ tt := tt_in (by decide +kernel) (by decide +kernel)
theorem teL_X5_rerun : Cond.selects RX5 yX5_rerun yX5_rerun ∈ tt := tt_in (by decide +kernel) (by decide +kernel)
theorem tlL_40 : Cond.methodLink RL 40 yX5_rerunStale ∈ tt := tt_in (by decide +kernel) (by decide +kernel)
theorem tcL_X5_rerunStale : Cond.code yX5_rerunStale cX5_rerunStale 7 (some .int) ∈ tt := tt_in (by decide +kernel) (by decide +kernel)
theorem tiL_X5_rerunStale : Cond.instanceMethod yX5_rerunStale ∈ tt := tt_in (by decide +kernel) (by decide +kernel)
theorem teL_X5_rerunStale : Cond.selects RX5 yX5_rerunStale yX5_rerunStale ∈ tt := tt_in (by decide +kernel) (by decide +kernel)
theorem tlL_44 : Cond.methodLink RL 44 yX5_forget ∈ tt := tt_in (by decide +kernel) (by decide +kernel)
theorem tcL_X5_forget : Cond.code yX5_forget cX5_forget 3 (some .int) ∈ tt := tt_in (by decide +kernel) (by decide +kernel)
theorem tiL_X5_forget : Cond.instanceMethod yX5_forget ∈ tt := tt_in (by decide +kernel) (by decide +kernel)
theorem teL_X5_forget : Cond.selects RX5 yX5_forget yX5_forget ∈ tt := tt_in (by decide +kernel) (by decide +kernel)
theorem tlL_48 : Cond.methodLink RL 48 yX5_of ∈ tt := tt_in (by decide +kernel) (by decide +kernel)
theorem tcL_X5_of : Cond.code yX5_of cX5_of 4 (some .int) ∈ tt := tt_in (by decide +kernel) (by decide +kernel)
theorem tiL_X5_of : Cond.instanceMethod yX5_of ∈ tt := tt_in (by decide +kernel) (by decide +kernel)
theorem teL_X5_of : Cond.selects RX5 yX5_of yX5_of ∈ tt := tt_in (by decide +kernel) (by decide +kernel)
theorem tlL_52 : Cond.methodLink RL 52 yX5_leans ∈ tt := tt_in (by decide +kernel) (by decide +kernel)
theorem tcL_X5_leans : Cond.code yX5_leans cX5_leans 3 (some .int) ∈ tt := tt_in (by decide +kernel) (by decide +kernel)
theorem tiL_X5_leans : Cond.instanceMethod yX5_leans ∈ tt := tt_in (by decide +kernel) (by decide +kernel)
theorem teL_X5_leans : Cond.selects RX5 yX5_leans yX5_leans ∈ tt := tt_in (by decide +kernel) (by decide +kernel)
theorem tlL_57 : Cond.methodLink RL 57 yX5_stale ∈ tt := tt_in (by decide +kernel) (by decide +kernel)
theorem tcL_X5_stale : Cond.code yX5_stale cX5_stale 2 (some .boolean) ∈ tt := tt_in (by decide +kernel) (by decide +kernel)
theorem tiL_X5_stale : Cond.instanceMethod yX5_stale ∈ tt := tt_in (by decide +kernel) (by decide +kernel)
theorem teL_X5_stale : Cond.selects RX5 yX5_stale yX5_stale ∈ tt := tt_in (by decide +kernel) (by decide +kernel)
theorem tlL_62 : Cond.methodLink RL 62 yX5_written ∈ tt := tt_in (by decide +kernel) (by decide +kernel)
theorem tcL_X5_written : Cond.code yX5_written cX5_written 4 (some .int) ∈ tt := tt_in (by decide +kernel) (by decide +kernel)
theorem tiL_X5_written : Cond.instanceMethod yX5_written ∈ tt := tt_in (by decide +kernel) (by decide +kernel)
theorem teL_X5_written : Cond.selects RX5 yX5_written yX5_written ∈ tt := tt_in (by decide +kernel) (by decide +kernel)
theorem tlL_66 : Cond.methodLink RL 66 yX5_count ∈ tt := tt_in (by decide +kernel) (by decide +kernel)
theorem tcL_X5_count : Cond.code yX5_count cX5_count 2 (some .int) ∈ tt := tt_in (by decide +kernel) (by decide +kernel)
theorem tiL_X5_count : Cond.instanceMethod yX5_count ∈ tt := tt_in (by decide +kernel) (by decide +kernel)
theorem teL_X5_count : Cond.selects RX5 yX5_count yX5_count ∈ tt := tt_in (by decide +kernel) (by decide +kernel)
theorem tlL_74 : Cond.methodLink RL 74 yX5_edition ∈ tt := tt_in (by decide +kernel) (by decide +kernel)
theorem tcL_X5_edition : Cond.code yX5_edition cX5_edition 7 (some .int) ∈ tt := tt_in (by decide +kernel) (by decide +kernel)
theorem tiL_X5_edition : Cond.instanceMethod yX5_edition ∈ tt := tt_in (by decide +kernel) (by decide +kernel)
theorem teL_X5_edition : Cond.selects RX5 yX5_edition yX5_edition ∈ tt := tt_in (by decide +kernel) (by decide +kernel)
theorem tlL_78 : Cond.methodLink RL 78 yX5_classOf ∈ tt := tt_in (by decide +kernel) (by decide +kernel)
theorem tcL_X5_classOf : Cond.code yX5_classOf cX5_classOf 2 (some .int) ∈ tt := tt_in (by decide +kernel) (by decide +kernel)
theorem tiL_X5_classOf : Cond.instanceMethod yX5_classOf ∈ tt := tt_in (by decide +kernel) (by decide +kernel)
theorem teL_X5_classOf : Cond.selects RX5 yX5_classOf yX5_classOf ∈ tt := tt_in (by decide +kernel) (by decide +kernel)
theorem tlL_82 : Cond.methodLink RL 82 yX5_field ∈ tt := tt_in (by decide +kernel) (by decide +kernel)
theorem tcL_X5_field : Cond.code yX5_field cX5_field 5 (some .int) ∈ tt := tt_in (by decide +kernel) (by decide +kernel)
theorem tiL_X5_field : Cond.instanceMethod yX5_field ∈ tt := tt_in (by decide +kernel) (by decide +kernel)
theorem teL_X5_field : Cond.selects RX5 yX5_field yX5_field ∈ tt := tt_in (by decide +kernel) (by decide +kernel)
theorem tlL_87 : Cond.methodLink RL 87 yX5_is ∈ tt := tt_in (by decide +kernel) (by decide +kernel)
theorem tcL_X5_is : Cond.code yX5_is cX5_is 3 (some .boolean) ∈ tt := tt_in (by decide +kernel) (by decide +kernel)
theorem tiL_X5_is : Cond.instanceMethod yX5_is ∈ tt := tt_in (by decide +kernel) (by decide +kernel)
theorem teL_X5_is : Cond.selects RX5 yX5_is yX5_is ∈ tt := tt_in (by decide +kernel) (by decide +kernel)
theorem tlL_91 : Cond.methodLink RL 91 yX5_call ∈ tt := tt_in (by decide +kernel) (by decide +kernel)
theorem tcL_X5_call : Cond.code yX5_call cX5_call 4 (some .int) ∈ tt := tt_in (by decide +kernel) (by decide +kernel)
theorem tiL_X5_call : Cond.instanceMethod yX5_call ∈ tt := tt_in (by decide +kernel) (by decide +kernel)
theorem teL_X5_call : Cond.selects RX5 yX5_call yX5_call ∈ tt := tt_in (by decide +kernel) (by decide +kernel)
theorem tlL_95 : Cond.methodLink RL 95 yX5_came ∈ tt := tt_in (by decide +kernel) (by decide +kernel)
theorem tcL_X5_came : Cond.code yX5_came cX5_came 2 (some .int) ∈ tt := tt_in (by decide +kernel) (by decide +kernel)
theorem tiL_X5_came : Cond.instanceMethod yX5_came ∈ tt := tt_in (by decide +kernel) (by decide +kernel)
theorem teL_X5_came : Cond.selects RX5 yX5_came yX5_came ∈ tt := tt_in (by decide +kernel) (by decide +kernel)
theorem tlL_99 : Cond.methodLink RL 99 yX5_convert ∈ tt := tt_in (by decide +kernel) (by decide +kernel)
theorem tcL_X5_convert : Cond.code yX5_convert cX5_convert 6 (some .int) ∈ tt := tt_in (by decide +kernel) (by decide +kernel)
theorem tiL_X5_convert : Cond.instanceMethod yX5_convert ∈ tt := tt_in (by decide +kernel) (by decide +kernel)
theorem teL_X5_convert : Cond.selects RX5 yX5_convert yX5_convert ∈ tt := tt_in (by decide +kernel) (by decide +kernel)
theorem tlL_103 : Cond.methodLink RL 103 yX5_keep ∈ tt := tt_in (by decide +kernel) (by decide +kernel)
theorem tcL_X5_keep : Cond.code yX5_keep cX5_keep 3 (some .boolean) ∈ tt := tt_in (by decide +kernel) (by decide +kernel)
theorem tiL_X5_keep : Cond.instanceMethod yX5_keep ∈ tt := tt_in (by decide +kernel) (by decide +kernel)
theorem teL_X5_keep : Cond.selects RX5 yX5_keep yX5_keep ∈ tt := tt_in (by decide +kernel) (by decide +kernel)
theorem tlL_107 : Cond.methodLink RL 107 yX5_back ∈ tt := tt_in (by decide +kernel) (by decide +kernel)
theorem tcL_X5_back : Cond.code yX5_back cX5_back 3 (some .boolean) ∈ tt := tt_in (by decide +kernel) (by decide +kernel)
theorem tiL_X5_back : Cond.instanceMethod yX5_back ∈ tt := tt_in (by decide +kernel) (by decide +kernel)
theorem teL_X5_back : Cond.selects RX5 yX5_back yX5_back ∈ tt := tt_in (by decide +kernel) (by decide +kernel)
