theorem dX3_choose_0 : decode cX3_choose 0 = .ok (.aload_n 0, 1) := by decide +kernel
theorem dX3_choose_1 : decode cX3_choose 1 = .ok (.iconst 2, 1) := by decide +kernel
theorem dX3_choose_2 : decode cX3_choose 2 = .ok (.invokevirtual 73, 3) := by decide +kernel
theorem dX3_choose_5 : decode cX3_choose 5 = .ok (.ifCond .eq 5, 3) := by decide +kernel
theorem dX3_choose_8 : decode cX3_choose 8 = .ok (.iconst 1, 1) := by decide +kernel
theorem dX3_choose_9 : decode cX3_choose 9 = .ok (.ireturn, 1) := by decide +kernel
theorem dX3_choose_10 : decode cX3_choose 10 = .ok (.aload_n 0, 1) := by decide +kernel
theorem dX3_choose_11 : decode cX3_choose 11 = .ok (.iconst 2, 1) := by decide +kernel
theorem dX3_choose_12 : decode cX3_choose 12 = .ok (.invokevirtual 76, 3) := by decide +kernel
theorem dX3_choose_15 : decode cX3_choose 15 = .ok (.ifCond .eq 7, 3) := by decide +kernel
theorem dX3_choose_18 : decode cX3_choose 18 = .ok (.iconst 1, 1) := by decide +kernel
theorem dX3_choose_19 : decode cX3_choose 19 = .ok (.goto 4, 3) := by decide +kernel
theorem dX3_choose_22 : decode cX3_choose 22 = .ok (.iconst 0, 1) := by decide +kernel
theorem dX3_choose_23 : decode cX3_choose 23 = .ok (.istore_n 1, 1) := by decide +kernel
theorem dX3_choose_24 : decode cX3_choose 24 = .ok (.aload_n 0, 1) := by decide +kernel
theorem dX3_choose_25 : decode cX3_choose 25 = .ok (.iconst 3, 1) := by decide +kernel
theorem dX3_choose_26 : decode cX3_choose 26 = .ok (.aload_n 0, 1) := by decide +kernel
theorem dX3_choose_27 : decode cX3_choose 27 = .ok (.iload_n 1, 1) := by decide +kernel
theorem dX3_choose_28 : decode cX3_choose 28 = .ok (.invokevirtual 73, 3) := by decide +kernel
theorem dX3_choose_31 : decode cX3_choose 31 = .ok (.aload_n 0, 1) := by decide +kernel
theorem dX3_choose_32 : decode cX3_choose 32 = .ok (.iload_n 1, 1) := by decide +kernel
theorem dX3_choose_33 : decode cX3_choose 33 = .ok (.invokevirtual 76, 3) := by decide +kernel
theorem dX3_choose_36 : decode cX3_choose 36 = .ok (.invokevirtual 120, 3) := by decide +kernel
theorem dX3_choose_39 : decode cX3_choose 39 = .ok (.ireturn, 1) := by decide +kernel
theorem dX3_write_0 : decode cX3_write 0 = .ok (.aload_n 0, 1) := by decide +kernel
theorem dX3_write_1 : decode cX3_write 1 = .ok (.dup, 1) := by decide +kernel
theorem dX3_write_2 : decode cX3_write 2 = .ok (.getfield 27, 3) := by decide +kernel
theorem dX3_write_5 : decode cX3_write 5 = .ok (.iconst 1, 1) := by decide +kernel
theorem dX3_write_6 : decode cX3_write 6 = .ok (.iadd, 1) := by decide +kernel
theorem dX3_write_7 : decode cX3_write 7 = .ok (.putfield 27, 3) := by decide +kernel
theorem dX3_write_10 : decode cX3_write 10 = .ok (.aload_n 0, 1) := by decide +kernel
theorem dX3_write_11 : decode cX3_write 11 = .ok (.getfield 23, 3) := by decide +kernel
theorem dX3_write_14 : decode cX3_write 14 = .ok (.aload_n 0, 1) := by decide +kernel
theorem dX3_write_15 : decode cX3_write 15 = .ok (.iconst 0, 1) := by decide +kernel
theorem dX3_write_16 : decode cX3_write 16 = .ok (.invokevirtual 73, 3) := by decide +kernel
theorem dX3_write_19 : decode cX3_write 19 = .ok (.aload_n 0, 1) := by decide +kernel
theorem dX3_write_20 : decode cX3_write 20 = .ok (.iconst 0, 1) := by decide +kernel
theorem dX3_write_21 : decode cX3_write 21 = .ok (.invokevirtual 76, 3) := by decide +kernel
theorem dX3_write_24 : decode cX3_write 24 = .ok (.invokevirtual 67, 3) := by decide +kernel
theorem dX3_write_27 : decode cX3_write 27 = .ok (.iconst 0, 1) := by decide +kernel
theorem dX3_write_28 : decode cX3_write 28 = .ok (.ireturn, 1) := by decide +kernel
theorem dX3_reckon_0 : decode cX3_reckon 0 = .ok (.aload_n 0, 1) := by decide +kernel
theorem dX3_reckon_1 : decode cX3_reckon 1 = .ok (.iconst 0, 1) := by decide +kernel
theorem dX3_reckon_2 : decode cX3_reckon 2 = .ok (.invokevirtual 73, 3) := by decide +kernel
theorem dX3_reckon_5 : decode cX3_reckon 5 = .ok (.ifCond .ne 11, 3) := by decide +kernel
theorem dX3_reckon_8 : decode cX3_reckon 8 = .ok (.aload_n 0, 1) := by decide +kernel
theorem dX3_reckon_9 : decode cX3_reckon 9 = .ok (.iconst 1, 1) := by decide +kernel
theorem dX3_reckon_10 : decode cX3_reckon 10 = .ok (.invokevirtual 73, 3) := by decide +kernel
theorem dX3_reckon_13 : decode cX3_reckon 13 = .ok (.ifCond .eq 5, 3) := by decide +kernel
theorem dX3_reckon_16 : decode cX3_reckon 16 = .ok (.iconst 1, 1) := by decide +kernel
theorem dX3_reckon_17 : decode cX3_reckon 17 = .ok (.ireturn, 1) := by decide +kernel
theorem dX3_reckon_18 : decode cX3_reckon 18 = .ok (.aload_n 0, 1) := by decide +kernel
theorem dX3_reckon_19 : decode cX3_reckon 19 = .ok (.iconst 0, 1) := by decide +kernel
theorem dX3_reckon_20 : decode cX3_reckon 20 = .ok (.invokevirtual 76, 3) := by decide +kernel
theorem dX3_reckon_23 : decode cX3_reckon 23 = .ok (.istore_n 2, 1) := by decide +kernel
theorem dX3_reckon_24 : decode cX3_reckon 24 = .ok (.aload_n 0, 1) := by decide +kernel
theorem dX3_reckon_25 : decode cX3_reckon 25 = .ok (.iconst 1, 1) := by decide +kernel
theorem dX3_reckon_26 : decode cX3_reckon 26 = .ok (.invokevirtual 76, 3) := by decide +kernel
theorem dX3_reckon_29 : decode cX3_reckon 29 = .ok (.istore_n 3, 1) := by decide +kernel
theorem dX3_reckon_30 : decode cX3_reckon 30 = .ok (.iload_n 1, 1) := by decide +kernel
theorem dX3_reckon_31 : decode cX3_reckon 31 = .ok (.tableswitch 77 8 11 #[29, 39, 49, 59], 29) := by decide +kernel
theorem dX3_reckon_60 : decode cX3_reckon 60 = .ok (.aload_n 0, 1) := by decide +kernel
theorem dX3_reckon_61 : decode cX3_reckon 61 = .ok (.iconst 2, 1) := by decide +kernel
theorem dX3_reckon_62 : decode cX3_reckon 62 = .ok (.iconst 0, 1) := by decide +kernel
theorem dX3_reckon_63 : decode cX3_reckon 63 = .ok (.iload_n 3, 1) := by decide +kernel
theorem dX3_reckon_64 : decode cX3_reckon 64 = .ok (.iload_n 2, 1) := by decide +kernel
theorem dX3_reckon_65 : decode cX3_reckon 65 = .ok (.iadd, 1) := by decide +kernel
theorem dX3_reckon_66 : decode cX3_reckon 66 = .ok (.invokevirtual 120, 3) := by decide +kernel
theorem dX3_reckon_69 : decode cX3_reckon 69 = .ok (.ireturn, 1) := by decide +kernel
theorem dX3_reckon_70 : decode cX3_reckon 70 = .ok (.aload_n 0, 1) := by decide +kernel
theorem dX3_reckon_71 : decode cX3_reckon 71 = .ok (.iconst 2, 1) := by decide +kernel
theorem dX3_reckon_72 : decode cX3_reckon 72 = .ok (.iconst 0, 1) := by decide +kernel
theorem dX3_reckon_73 : decode cX3_reckon 73 = .ok (.iload_n 3, 1) := by decide +kernel
theorem dX3_reckon_74 : decode cX3_reckon 74 = .ok (.iload_n 2, 1) := by decide +kernel
theorem dX3_reckon_75 : decode cX3_reckon 75 = .ok (.isub, 1) := by decide +kernel
theorem dX3_reckon_76 : decode cX3_reckon 76 = .ok (.invokevirtual 120, 3) := by decide +kernel
theorem dX3_reckon_79 : decode cX3_reckon 79 = .ok (.ireturn, 1) := by decide +kernel
theorem dX3_reckon_80 : decode cX3_reckon 80 = .ok (.aload_n 0, 1) := by decide +kernel
theorem dX3_reckon_81 : decode cX3_reckon 81 = .ok (.iconst 2, 1) := by decide +kernel
theorem dX3_reckon_82 : decode cX3_reckon 82 = .ok (.iconst 0, 1) := by decide +kernel
theorem dX3_reckon_83 : decode cX3_reckon 83 = .ok (.iload_n 3, 1) := by decide +kernel
theorem dX3_reckon_84 : decode cX3_reckon 84 = .ok (.iload_n 2, 1) := by decide +kernel
theorem dX3_reckon_85 : decode cX3_reckon 85 = .ok (.imul, 1) := by decide +kernel
theorem dX3_reckon_86 : decode cX3_reckon 86 = .ok (.invokevirtual 120, 3) := by decide +kernel
theorem dX3_reckon_89 : decode cX3_reckon 89 = .ok (.ireturn, 1) := by decide +kernel
theorem dX3_reckon_90 : decode cX3_reckon 90 = .ok (.iload_n 2, 1) := by decide +kernel
theorem dX3_reckon_91 : decode cX3_reckon 91 = .ok (.ifCond .ne 7, 3) := by decide +kernel
theorem dX3_reckon_94 : decode cX3_reckon 94 = .ok (.iconst 2, 1) := by decide +kernel
theorem dX3_reckon_95 : decode cX3_reckon 95 = .ok (.goto 12, 3) := by decide +kernel
theorem dX3_reckon_98 : decode cX3_reckon 98 = .ok (.aload_n 0, 1) := by decide +kernel
theorem dX3_reckon_99 : decode cX3_reckon 99 = .ok (.iconst 2, 1) := by decide +kernel
theorem dX3_reckon_100 : decode cX3_reckon 100 = .ok (.iconst 0, 1) := by decide +kernel
theorem dX3_reckon_101 : decode cX3_reckon 101 = .ok (.iload_n 3, 1) := by decide +kernel
theorem dX3_reckon_102 : decode cX3_reckon 102 = .ok (.iload_n 2, 1) := by decide +kernel
theorem dX3_reckon_103 : decode cX3_reckon 103 = .ok (.idiv, 1) := by decide +kernel
theorem dX3_reckon_104 : decode cX3_reckon 104 = .ok (.invokevirtual 120, 3) := by decide +kernel
theorem dX3_reckon_107 : decode cX3_reckon 107 = .ok (.ireturn, 1) := by decide +kernel
theorem dX3_reckon_108 : decode cX3_reckon 108 = .ok (.aload_n 0, 1) := by decide +kernel
theorem dX3_reckon_109 : decode cX3_reckon 109 = .ok (.iconst 2, 1) := by decide +kernel
theorem dX3_reckon_110 : decode cX3_reckon 110 = .ok (.iconst 0, 1) := by decide +kernel
theorem dX3_reckon_111 : decode cX3_reckon 111 = .ok (.iload_n 3, 1) := by decide +kernel
theorem dX3_reckon_112 : decode cX3_reckon 112 = .ok (.iload_n 2, 1) := by decide +kernel
theorem dX3_reckon_113 : decode cX3_reckon 113 = .ok (.if_icmp .ge 7, 3) := by decide +kernel
theorem dX3_reckon_116 : decode cX3_reckon 116 = .ok (.iconst 1, 1) := by decide +kernel
theorem dX3_reckon_117 : decode cX3_reckon 117 = .ok (.goto 4, 3) := by decide +kernel
theorem dX3_reckon_120 : decode cX3_reckon 120 = .ok (.iconst 0, 1) := by decide +kernel
theorem dX3_reckon_121 : decode cX3_reckon 121 = .ok (.invokevirtual 120, 3) := by decide +kernel
theorem dX3_reckon_124 : decode cX3_reckon 124 = .ok (.ireturn, 1) := by decide +kernel
theorem dX3_act_0 : decode cX3_act 0 = .ok (.aload_n 0, 1) := by decide +kernel
theorem dX3_act_1 : decode cX3_act 1 = .ok (.getfield 40, 3) := by decide +kernel
theorem dX3_act_4 : decode cX3_act 4 = .ok (.iload_n 1, 1) := by decide +kernel
theorem dX3_act_5 : decode cX3_act 5 = .ok (.iconst 0, 1) := by decide +kernel
theorem dX3_act_6 : decode cX3_act 6 = .ok (.invokevirtual 84, 3) := by decide +kernel
theorem dX3_act_9 : decode cX3_act 9 = .ok (.istore_n 2, 1) := by decide +kernel
theorem dX3_act_10 : decode cX3_act 10 = .ok (.aload_n 0, 1) := by decide +kernel
theorem dX3_act_11 : decode cX3_act 11 = .ok (.getfield 40, 3) := by decide +kernel
theorem dX3_act_14 : decode cX3_act 14 = .ok (.iload_n 1, 1) := by decide +kernel
theorem dX3_act_15 : decode cX3_act 15 = .ok (.iconst 1, 1) := by decide +kernel
theorem dX3_act_16 : decode cX3_act 16 = .ok (.invokevirtual 84, 3) := by decide +kernel
theorem dX3_act_19 : decode cX3_act 19 = .ok (.istore_n 3, 1) := by decide +kernel
theorem dX3_act_20 : decode cX3_act 20 = .ok (.aload_n 0, 1) := by decide +kernel
theorem dX3_act_21 : decode cX3_act 21 = .ok (.iload_n 2, 1) := by decide +kernel
theorem dX3_act_22 : decode cX3_act 22 = .ok (.iload_n 3, 1) := by decide +kernel
theorem dX3_act_23 : decode cX3_act 23 = .ok (.invokevirtual 114, 3) := by decide +kernel
theorem dX3_act_26 : decode cX3_act 26 = .ok (.istore 4, 2) := by decide +kernel
theorem dX3_act_28 : decode cX3_act 28 = .ok (.aload_n 0, 1) := by decide +kernel
theorem dX3_act_29 : decode cX3_act 29 = .ok (.iload_n 2, 1) := by decide +kernel
theorem dX3_act_30 : decode cX3_act 30 = .ok (.iload_n 3, 1) := by decide +kernel
theorem dX3_act_31 : decode cX3_act 31 = .ok (.iconst 1, 1) := by decide +kernel
theorem dX3_act_32 : decode cX3_act 32 = .ok (.iadd, 1) := by decide +kernel
theorem dX3_act_33 : decode cX3_act 33 = .ok (.invokevirtual 114, 3) := by decide +kernel
theorem dX3_act_36 : decode cX3_act 36 = .ok (.istore 5, 2) := by decide +kernel
theorem dX3_act_38 : decode cX3_act 38 = .ok (.aload_n 0, 1) := by decide +kernel
theorem dX3_act_39 : decode cX3_act 39 = .ok (.getfield 40, 3) := by decide +kernel
theorem dX3_act_42 : decode cX3_act 42 = .ok (.iload_n 1, 1) := by decide +kernel
theorem dX3_act_43 : decode cX3_act 43 = .ok (.iconst 1, 1) := by decide +kernel
theorem dX3_act_44 : decode cX3_act 44 = .ok (.iload_n 3, 1) := by decide +kernel
theorem dX3_act_45 : decode cX3_act 45 = .ok (.iload 4, 2) := by decide +kernel
theorem dX3_act_47 : decode cX3_act 47 = .ok (.invokestatic 117, 3) := by decide +kernel
theorem dX3_act_50 : decode cX3_act 50 = .ok (.iadd, 1) := by decide +kernel
theorem dX3_act_51 : decode cX3_act 51 = .ok (.invokevirtual 101, 3) := by decide +kernel
theorem dX3_act_54 : decode cX3_act 54 = .ok (.iload 4, 2) := by decide +kernel
theorem dX3_act_56 : decode cX3_act 56 = .ok (.tableswitch 282 0 18 #[92, 101, 133, 140, 161, 176, 183, 190, 282, 282, 282, 282, 282, 197, 216, 221, 226, 242, 266], 92) := by decide +kernel
theorem dX3_act_148 : decode cX3_act 148 = .ok (.aload_n 0, 1) := by decide +kernel
theorem dX3_act_149 : decode cX3_act 149 = .ok (.iconst 0, 1) := by decide +kernel
theorem dX3_act_150 : decode cX3_act 150 = .ok (.iconst 0, 1) := by decide +kernel
theorem dX3_act_151 : decode cX3_act 151 = .ok (.iload 5, 2) := by decide +kernel
theorem dX3_act_153 : decode cX3_act 153 = .ok (.invokevirtual 120, 3) := by decide +kernel
theorem dX3_act_156 : decode cX3_act 156 = .ok (.ireturn, 1) := by decide +kernel
theorem dX3_act_157 : decode cX3_act 157 = .ok (.aload_n 0, 1) := by decide +kernel
theorem dX3_act_158 : decode cX3_act 158 = .ok (.iconst 0, 1) := by decide +kernel
theorem dX3_act_159 : decode cX3_act 159 = .ok (.aload_n 0, 1) := by decide +kernel
theorem dX3_act_160 : decode cX3_act 160 = .ok (.getfield 14, 3) := by decide +kernel
theorem dX3_act_163 : decode cX3_act 163 = .ok (.getfield 98, 3) := by decide +kernel
theorem dX3_act_166 : decode cX3_act 166 = .ok (.iload 5, 2) := by decide +kernel
theorem dX3_act_168 : decode cX3_act 168 = .ok (.iconst 3, 1) := by decide +kernel
theorem dX3_act_169 : decode cX3_act 169 = .ok (.invokevirtual 84, 3) := by decide +kernel
theorem dX3_act_172 : decode cX3_act 172 = .ok (.aload_n 0, 1) := by decide +kernel
theorem dX3_act_173 : decode cX3_act 173 = .ok (.getfield 14, 3) := by decide +kernel
theorem dX3_act_176 : decode cX3_act 176 = .ok (.getfield 98, 3) := by decide +kernel
theorem dX3_act_179 : decode cX3_act 179 = .ok (.iload 5, 2) := by decide +kernel
theorem dX3_act_181 : decode cX3_act 181 = .ok (.iconst 4, 1) := by decide +kernel
theorem dX3_act_182 : decode cX3_act 182 = .ok (.invokevirtual 84, 3) := by decide +kernel
theorem dX3_act_185 : decode cX3_act 185 = .ok (.invokevirtual 120, 3) := by decide +kernel
theorem dX3_act_188 : decode cX3_act 188 = .ok (.ireturn, 1) := by decide +kernel
theorem dX3_act_189 : decode cX3_act 189 = .ok (.aload_n 0, 1) := by decide +kernel
theorem dX3_act_190 : decode cX3_act 190 = .ok (.iload 5, 2) := by decide +kernel
theorem dX3_act_192 : decode cX3_act 192 = .ok (.invokevirtual 111, 3) := by decide +kernel
theorem dX3_act_195 : decode cX3_act 195 = .ok (.ireturn, 1) := by decide +kernel
theorem dX3_act_196 : decode cX3_act 196 = .ok (.aload_n 0, 1) := by decide +kernel
theorem dX3_act_197 : decode cX3_act 197 = .ok (.iconst 1, 1) := by decide +kernel
theorem dX3_act_198 : decode cX3_act 198 = .ok (.iconst 0, 1) := by decide +kernel
theorem dX3_act_199 : decode cX3_act 199 = .ok (.aload_n 0, 1) := by decide +kernel
theorem dX3_act_200 : decode cX3_act 200 = .ok (.iload 5, 2) := by decide +kernel
theorem dX3_act_202 : decode cX3_act 202 = .ok (.invokevirtual 123, 3) := by decide +kernel
theorem dX3_act_205 : decode cX3_act 205 = .ok (.ifCond .eq 7, 3) := by decide +kernel
theorem dX3_act_208 : decode cX3_act 208 = .ok (.iconst 1, 1) := by decide +kernel
theorem dX3_act_209 : decode cX3_act 209 = .ok (.goto 4, 3) := by decide +kernel
theorem dX3_act_212 : decode cX3_act 212 = .ok (.iconst 0, 1) := by decide +kernel
theorem dX3_act_213 : decode cX3_act 213 = .ok (.invokevirtual 120, 3) := by decide +kernel
theorem dX3_act_216 : decode cX3_act 216 = .ok (.ireturn, 1) := by decide +kernel
theorem dX3_act_217 : decode cX3_act 217 = .ok (.aload_n 0, 1) := by decide +kernel
theorem dX3_act_218 : decode cX3_act 218 = .ok (.iload 5, 2) := by decide +kernel
theorem dX3_act_220 : decode cX3_act 220 = .ok (.invokevirtual 123, 3) := by decide +kernel
theorem dX3_act_223 : decode cX3_act 223 = .ok (.ifCond .eq 7, 3) := by decide +kernel
theorem dX3_act_226 : decode cX3_act 226 = .ok (.iconst 0, 1) := by decide +kernel
theorem dX3_act_227 : decode cX3_act 227 = .ok (.goto 4, 3) := by decide +kernel
theorem dX3_act_230 : decode cX3_act 230 = .ok (.iconst 5, 1) := by decide +kernel
theorem dX3_act_231 : decode cX3_act 231 = .ok (.ireturn, 1) := by decide +kernel
theorem dX3_act_232 : decode cX3_act 232 = .ok (.aload_n 0, 1) := by decide +kernel
theorem dX3_act_233 : decode cX3_act 233 = .ok (.iload 5, 2) := by decide +kernel
theorem dX3_act_235 : decode cX3_act 235 = .ok (.invokevirtual 127, 3) := by decide +kernel
theorem dX3_act_238 : decode cX3_act 238 = .ok (.ireturn, 1) := by decide +kernel
theorem dX3_act_239 : decode cX3_act 239 = .ok (.aload_n 0, 1) := by decide +kernel
theorem dX3_act_240 : decode cX3_act 240 = .ok (.iload 5, 2) := by decide +kernel
theorem dX3_act_242 : decode cX3_act 242 = .ok (.invokevirtual 130, 3) := by decide +kernel
theorem dX3_act_245 : decode cX3_act 245 = .ok (.ireturn, 1) := by decide +kernel
theorem dX3_act_246 : decode cX3_act 246 = .ok (.aload_n 0, 1) := by decide +kernel
theorem dX3_act_247 : decode cX3_act 247 = .ok (.iload 5, 2) := by decide +kernel
theorem dX3_act_249 : decode cX3_act 249 = .ok (.invokevirtual 70, 3) := by decide +kernel
theorem dX3_act_252 : decode cX3_act 252 = .ok (.ireturn, 1) := by decide +kernel
theorem dX3_act_253 : decode cX3_act 253 = .ok (.aload_n 0, 1) := by decide +kernel
theorem dX3_act_254 : decode cX3_act 254 = .ok (.iconst 2, 1) := by decide +kernel
theorem dX3_act_255 : decode cX3_act 255 = .ok (.iconst 0, 1) := by decide +kernel
theorem dX3_act_256 : decode cX3_act 256 = .ok (.aload_n 0, 1) := by decide +kernel
theorem dX3_act_257 : decode cX3_act 257 = .ok (.invokevirtual 133, 3) := by decide +kernel
theorem dX3_act_260 : decode cX3_act 260 = .ok (.ifCond .eq 7, 3) := by decide +kernel
theorem dX3_act_263 : decode cX3_act 263 = .ok (.iconst 1, 1) := by decide +kernel
theorem dX3_act_264 : decode cX3_act 264 = .ok (.goto 4, 3) := by decide +kernel
theorem dX3_act_267 : decode cX3_act 267 = .ok (.iconst 0, 1) := by decide +kernel
theorem dX3_act_268 : decode cX3_act 268 = .ok (.invokevirtual 120, 3) := by decide +kernel
theorem dX3_act_271 : decode cX3_act 271 = .ok (.ireturn, 1) := by decide +kernel
theorem dX3_act_272 : decode cX3_act 272 = .ok (.aload_n 0, 1) := by decide +kernel
theorem dX3_act_273 : decode cX3_act 273 = .ok (.invokevirtual 136, 3) := by decide +kernel
theorem dX3_act_276 : decode cX3_act 276 = .ok (.ireturn, 1) := by decide +kernel
theorem dX3_act_277 : decode cX3_act 277 = .ok (.aload_n 0, 1) := by decide +kernel
theorem dX3_act_278 : decode cX3_act 278 = .ok (.invokevirtual 139, 3) := by decide +kernel
theorem dX3_act_281 : decode cX3_act 281 = .ok (.ireturn, 1) := by decide +kernel
theorem dX3_act_282 : decode cX3_act 282 = .ok (.aload_n 0, 1) := by decide +kernel
theorem dX3_act_283 : decode cX3_act 283 = .ok (.iconst 0, 1) := by decide +kernel
theorem dX3_act_284 : decode cX3_act 284 = .ok (.iconst 1, 1) := by decide +kernel
theorem dX3_act_285 : decode cX3_act 285 = .ok (.aload_n 0, 1) := by decide +kernel
theorem dX3_act_286 : decode cX3_act 286 = .ok (.getfield 40, 3) := by decide +kernel
theorem dX3_act_289 : decode cX3_act 289 = .ok (.iload_n 1, 1) := by decide +kernel
theorem dX3_act_290 : decode cX3_act 290 = .ok (.iconst 3, 1) := by decide +kernel
theorem dX3_act_291 : decode cX3_act 291 = .ok (.invokevirtual 84, 3) := by decide +kernel
theorem dX3_act_294 : decode cX3_act 294 = .ok (.invokevirtual 120, 3) := by decide +kernel
theorem dX3_act_297 : decode cX3_act 297 = .ok (.ireturn, 1) := by decide +kernel
theorem dX3_act_298 : decode cX3_act 298 = .ok (.aload_n 0, 1) := by decide +kernel
theorem dX3_act_299 : decode cX3_act 299 = .ok (.iconst 0, 1) := by decide +kernel
theorem dX3_act_300 : decode cX3_act 300 = .ok (.aload_n 0, 1) := by decide +kernel
theorem dX3_act_301 : decode cX3_act 301 = .ok (.getfield 40, 3) := by decide +kernel
theorem dX3_act_304 : decode cX3_act 304 = .ok (.iload_n 1, 1) := by decide +kernel
theorem dX3_act_305 : decode cX3_act 305 = .ok (.iconst 4, 1) := by decide +kernel
theorem dX3_act_306 : decode cX3_act 306 = .ok (.invokevirtual 84, 3) := by decide +kernel
theorem dX3_act_309 : decode cX3_act 309 = .ok (.aload_n 0, 1) := by decide +kernel
theorem dX3_act_310 : decode cX3_act 310 = .ok (.getfield 40, 3) := by decide +kernel
theorem dX3_act_313 : decode cX3_act 313 = .ok (.iload_n 1, 1) := by decide +kernel
theorem dX3_act_314 : decode cX3_act 314 = .ok (.iconst 5, 1) := by decide +kernel
theorem dX3_act_315 : decode cX3_act 315 = .ok (.invokevirtual 84, 3) := by decide +kernel
theorem dX3_act_318 : decode cX3_act 318 = .ok (.invokevirtual 120, 3) := by decide +kernel
theorem dX3_act_321 : decode cX3_act 321 = .ok (.ireturn, 1) := by decide +kernel
theorem dX3_act_322 : decode cX3_act 322 = .ok (.aload_n 0, 1) := by decide +kernel
theorem dX3_act_323 : decode cX3_act 323 = .ok (.iconst 2, 1) := by decide +kernel
theorem dX3_act_324 : decode cX3_act 324 = .ok (.aload_n 0, 1) := by decide +kernel
theorem dX3_act_325 : decode cX3_act 325 = .ok (.iconst 0, 1) := by decide +kernel
theorem dX3_act_326 : decode cX3_act 326 = .ok (.invokevirtual 73, 3) := by decide +kernel
theorem dX3_act_329 : decode cX3_act 329 = .ok (.aload_n 0, 1) := by decide +kernel
theorem dX3_act_330 : decode cX3_act 330 = .ok (.iconst 0, 1) := by decide +kernel
theorem dX3_act_331 : decode cX3_act 331 = .ok (.invokevirtual 76, 3) := by decide +kernel
theorem dX3_act_334 : decode cX3_act 334 = .ok (.invokevirtual 120, 3) := by decide +kernel
theorem dX3_act_337 : decode cX3_act 337 = .ok (.ireturn, 1) := by decide +kernel
theorem dX3_act_338 : decode cX3_act 338 = .ok (.aload_n 0, 1) := by decide +kernel
theorem dX3_act_339 : decode cX3_act 339 = .ok (.iload 4, 2) := by decide +kernel
theorem dX3_act_341 : decode cX3_act 341 = .ok (.invokevirtual 142, 3) := by decide +kernel
theorem dX3_act_344 : decode cX3_act 344 = .ok (.ireturn, 1) := by decide +kernel
theorem dX3_work_0 : decode cX3_work 0 = .ok (.aload_n 0, 1) := by decide +kernel
theorem dX3_work_1 : decode cX3_work 1 = .ok (.getfield 34, 3) := by decide +kernel
theorem dX3_work_4 : decode cX3_work 4 = .ok (.ifCond .eq 5, 3) := by decide +kernel
theorem dX3_work_7 : decode cX3_work 7 = .ok (.iconst 1, 1) := by decide +kernel
theorem dX3_work_8 : decode cX3_work 8 = .ok (.ireturn, 1) := by decide +kernel
theorem dX3_work_9 : decode cX3_work 9 = .ok (.iconst 0, 1) := by decide +kernel
theorem dX3_work_10 : decode cX3_work 10 = .ok (.istore_n 1, 1) := by decide +kernel
theorem dX3_work_11 : decode cX3_work 11 = .ok (.iload_n 1, 1) := by decide +kernel
theorem dX3_work_12 : decode cX3_work 12 = .ok (.ldc 79, 2) := by decide +kernel
theorem dX3_work_14 : decode cX3_work 14 = .ok (.if_icmp .ge 116, 3) := by decide +kernel
theorem dX3_work_17 : decode cX3_work 17 = .ok (.aload_n 0, 1) := by decide +kernel
theorem dX3_work_18 : decode cX3_work 18 = .ok (.getfield 40, 3) := by decide +kernel
theorem dX3_work_21 : decode cX3_work 21 = .ok (.invokevirtual 80, 3) := by decide +kernel
theorem dX3_work_24 : decode cX3_work 24 = .ok (.ifCond .le 106, 3) := by decide +kernel
theorem dX3_work_27 : decode cX3_work 27 = .ok (.iconst 0, 1) := by decide +kernel
theorem dX3_work_28 : decode cX3_work 28 = .ok (.istore_n 2, 1) := by decide +kernel
theorem dX3_work_29 : decode cX3_work 29 = .ok (.aload_n 0, 1) := by decide +kernel
theorem dX3_work_30 : decode cX3_work 30 = .ok (.getfield 40, 3) := by decide +kernel
theorem dX3_work_33 : decode cX3_work 33 = .ok (.invokevirtual 80, 3) := by decide +kernel
theorem dX3_work_36 : decode cX3_work 36 = .ok (.iconst 1, 1) := by decide +kernel
theorem dX3_work_37 : decode cX3_work 37 = .ok (.isub, 1) := by decide +kernel
theorem dX3_work_38 : decode cX3_work 38 = .ok (.istore_n 3, 1) := by decide +kernel
theorem dX3_work_39 : decode cX3_work 39 = .ok (.aload_n 0, 1) := by decide +kernel
theorem dX3_work_40 : decode cX3_work 40 = .ok (.getfield 40, 3) := by decide +kernel
theorem dX3_work_43 : decode cX3_work 43 = .ok (.iload_n 3, 1) := by decide +kernel
theorem dX3_work_44 : decode cX3_work 44 = .ok (.iconst 1, 1) := by decide +kernel
theorem dX3_work_45 : decode cX3_work 45 = .ok (.invokevirtual 84, 3) := by decide +kernel
theorem dX3_work_48 : decode cX3_work 48 = .ok (.aload_n 0, 1) := by decide +kernel
theorem dX3_work_49 : decode cX3_work 49 = .ok (.getfield 40, 3) := by decide +kernel
theorem dX3_work_52 : decode cX3_work 52 = .ok (.iload_n 3, 1) := by decide +kernel
theorem dX3_work_53 : decode cX3_work 53 = .ok (.iconst 2, 1) := by decide +kernel
theorem dX3_work_54 : decode cX3_work 54 = .ok (.invokevirtual 84, 3) := by decide +kernel
theorem dX3_work_57 : decode cX3_work 57 = .ok (.if_icmp .lt 11, 3) := by decide +kernel
theorem dX3_work_60 : decode cX3_work 60 = .ok (.aload_n 0, 1) := by decide +kernel
theorem dX3_work_61 : decode cX3_work 61 = .ok (.invokevirtual 88, 3) := by decide +kernel
theorem dX3_work_64 : decode cX3_work 64 = .ok (.istore_n 2, 1) := by decide +kernel
theorem dX3_work_65 : decode cX3_work 65 = .ok (.goto 36, 3) := by decide +kernel
theorem dX3_work_68 : decode cX3_work 68 = .ok (.aload_n 0, 1) := by decide +kernel
theorem dX3_work_69 : decode cX3_work 69 = .ok (.getfield 31, 3) := by decide +kernel
theorem dX3_work_72 : decode cX3_work 72 = .ok (.sipush 1000, 3) := by decide +kernel
theorem dX3_work_75 : decode cX3_work 75 = .ok (.if_icmp .lt 10, 3) := by decide +kernel
theorem dX3_work_78 : decode cX3_work 78 = .ok (.aload_n 0, 1) := by decide +kernel
theorem dX3_work_79 : decode cX3_work 79 = .ok (.invokevirtual 91, 3) := by decide +kernel
theorem dX3_work_82 : decode cX3_work 82 = .ok (.pop, 1) := by decide +kernel
theorem dX3_work_83 : decode cX3_work 83 = .ok (.iconst 2, 1) := by decide +kernel
theorem dX3_work_84 : decode cX3_work 84 = .ok (.ireturn, 1) := by decide +kernel
theorem dX3_work_85 : decode cX3_work 85 = .ok (.aload_n 0, 1) := by decide +kernel
theorem dX3_work_86 : decode cX3_work 86 = .ok (.dup, 1) := by decide +kernel
theorem dX3_work_87 : decode cX3_work 87 = .ok (.getfield 31, 3) := by decide +kernel
theorem dX3_work_90 : decode cX3_work 90 = .ok (.iconst 1, 1) := by decide +kernel
theorem dX3_work_91 : decode cX3_work 91 = .ok (.iadd, 1) := by decide +kernel
theorem dX3_work_92 : decode cX3_work 92 = .ok (.putfield 31, 3) := by decide +kernel
theorem dX3_work_95 : decode cX3_work 95 = .ok (.aload_n 0, 1) := by decide +kernel
theorem dX3_work_96 : decode cX3_work 96 = .ok (.iload_n 3, 1) := by decide +kernel
theorem dX3_work_97 : decode cX3_work 97 = .ok (.invokevirtual 95, 3) := by decide +kernel
theorem dX3_work_100 : decode cX3_work 100 = .ok (.istore_n 2, 1) := by decide +kernel
theorem dX3_work_101 : decode cX3_work 101 = .ok (.iload_n 2, 1) := by decide +kernel
theorem dX3_work_102 : decode cX3_work 102 = .ok (.ifCond .eq 22, 3) := by decide +kernel
theorem dX3_work_105 : decode cX3_work 105 = .ok (.aload_n 0, 1) := by decide +kernel
theorem dX3_work_106 : decode cX3_work 106 = .ok (.aload_n 0, 1) := by decide +kernel
theorem dX3_work_107 : decode cX3_work 107 = .ok (.invokevirtual 91, 3) := by decide +kernel
theorem dX3_work_110 : decode cX3_work 110 = .ok (.ifCond .eq 8, 3) := by decide +kernel
theorem dX3_work_113 : decode cX3_work 113 = .ok (.bipush 6, 2) := by decide +kernel
theorem dX3_work_115 : decode cX3_work 115 = .ok (.goto 4, 3) := by decide +kernel
theorem dX3_work_118 : decode cX3_work 118 = .ok (.iload_n 2, 1) := by decide +kernel
theorem dX3_work_119 : decode cX3_work 119 = .ok (.putfield 34, 3) := by decide +kernel
theorem dX3_work_122 : decode cX3_work 122 = .ok (.iconst 1, 1) := by decide +kernel
theorem dX3_work_123 : decode cX3_work 123 = .ok (.ireturn, 1) := by decide +kernel
theorem dX3_work_124 : decode cX3_work 124 = .ok (.iinc 1 1, 3) := by decide +kernel
theorem dX3_work_127 : decode cX3_work 127 = .ok (.goto (-116), 3) := by decide +kernel
theorem dX3_work_130 : decode cX3_work 130 = .ok (.iconst 0, 1) := by decide +kernel
theorem dX3_work_131 : decode cX3_work 131 = .ok (.ireturn, 1) := by decide +kernel
theorem dX4_putOne_0 : decode cX4_putOne 0 = .ok (.aload_n 0, 1) := by decide +kernel
theorem dX4_putOne_1 : decode cX4_putOne 1 = .ok (.getfield 13, 3) := by decide +kernel
theorem dX4_putOne_4 : decode cX4_putOne 4 = .ok (.ifCond .lt 32, 3) := by decide +kernel
theorem dX4_putOne_7 : decode cX4_putOne 7 = .ok (.aload_n 0, 1) := by decide +kernel
theorem dX4_putOne_8 : decode cX4_putOne 8 = .ok (.getfield 13, 3) := by decide +kernel
theorem dX4_putOne_11 : decode cX4_putOne 11 = .ok (.bipush 60, 2) := by decide +kernel
theorem dX4_putOne_13 : decode cX4_putOne 13 = .ok (.if_icmp .ge 23, 3) := by decide +kernel
theorem dX4_putOne_16 : decode cX4_putOne 16 = .ok (.aload_n 0, 1) := by decide +kernel
theorem dX4_putOne_17 : decode cX4_putOne 17 = .ok (.getfield 9, 3) := by decide +kernel
theorem dX4_putOne_20 : decode cX4_putOne 20 = .ok (.aload_n 0, 1) := by decide +kernel
theorem dX4_putOne_21 : decode cX4_putOne 21 = .ok (.getfield 13, 3) := by decide +kernel
theorem dX4_putOne_24 : decode cX4_putOne 24 = .ok (.iload_n 1, 1) := by decide +kernel
theorem dX4_putOne_25 : decode cX4_putOne 25 = .ok (.iastore, 1) := by decide +kernel
theorem dX4_putOne_26 : decode cX4_putOne 26 = .ok (.aload_n 0, 1) := by decide +kernel
theorem dX4_putOne_27 : decode cX4_putOne 27 = .ok (.dup, 1) := by decide +kernel
theorem dX4_putOne_28 : decode cX4_putOne 28 = .ok (.getfield 13, 3) := by decide +kernel
theorem dX4_putOne_31 : decode cX4_putOne 31 = .ok (.iconst 1, 1) := by decide +kernel
theorem dX4_putOne_32 : decode cX4_putOne 32 = .ok (.iadd, 1) := by decide +kernel
theorem dX4_putOne_33 : decode cX4_putOne 33 = .ok (.putfield 13, 3) := by decide +kernel
theorem dX4_putOne_36 : decode cX4_putOne 36 = .ok (.return_, 1) := by decide +kernel
theorem dX4_put_0 : decode cX4_put 0 = .ok (.iload_n 1, 1) := by decide +kernel
theorem dX4_put_1 : decode cX4_put 1 = .ok (.iconst 1, 1) := by decide +kernel
theorem dX4_put_2 : decode cX4_put 2 = .ok (.if_icmp .lt 8, 3) := by decide +kernel
theorem dX4_put_5 : decode cX4_put 5 = .ok (.iload_n 1, 1) := by decide +kernel
theorem dX4_put_6 : decode cX4_put 6 = .ok (.iconst 4, 1) := by decide +kernel
theorem dX4_put_7 : decode cX4_put 7 = .ok (.if_icmp .le 5, 3) := by decide +kernel
theorem dX4_put_10 : decode cX4_put 10 = .ok (.iconst (-1), 1) := by decide +kernel
theorem dX4_put_11 : decode cX4_put 11 = .ok (.ireturn, 1) := by decide +kernel
theorem dX4_put_12 : decode cX4_put 12 = .ok (.aload_n 0, 1) := by decide +kernel
theorem dX4_put_13 : decode cX4_put 13 = .ok (.getfield 13, 3) := by decide +kernel
theorem dX4_put_16 : decode cX4_put 16 = .ok (.iload_n 1, 1) := by decide +kernel
theorem dX4_put_17 : decode cX4_put 17 = .ok (.iadd, 1) := by decide +kernel
theorem dX4_put_18 : decode cX4_put 18 = .ok (.bipush 60, 2) := by decide +kernel
theorem dX4_put_20 : decode cX4_put 20 = .ok (.if_icmp .le 6, 3) := by decide +kernel
theorem dX4_put_23 : decode cX4_put 23 = .ok (.bipush (-2), 2) := by decide +kernel
theorem dX4_put_25 : decode cX4_put 25 = .ok (.ireturn, 1) := by decide +kernel
theorem dX4_put_26 : decode cX4_put 26 = .ok (.aload_n 0, 1) := by decide +kernel
theorem dX4_put_27 : decode cX4_put 27 = .ok (.iload_n 2, 1) := by decide +kernel
theorem dX4_put_28 : decode cX4_put 28 = .ok (.invokevirtual 56, 3) := by decide +kernel
theorem dX4_put_31 : decode cX4_put 31 = .ok (.iload_n 1, 1) := by decide +kernel
theorem dX4_put_32 : decode cX4_put 32 = .ok (.iconst 1, 1) := by decide +kernel
theorem dX4_put_33 : decode cX4_put 33 = .ok (.if_icmp .le 8, 3) := by decide +kernel
theorem dX4_put_36 : decode cX4_put 36 = .ok (.aload_n 0, 1) := by decide +kernel
theorem dX4_put_37 : decode cX4_put 37 = .ok (.iload_n 3, 1) := by decide +kernel
theorem dX4_put_38 : decode cX4_put 38 = .ok (.invokevirtual 56, 3) := by decide +kernel
theorem dX4_put_41 : decode cX4_put 41 = .ok (.iload_n 1, 1) := by decide +kernel
theorem dX4_put_42 : decode cX4_put 42 = .ok (.iconst 2, 1) := by decide +kernel
theorem dX4_put_43 : decode cX4_put 43 = .ok (.if_icmp .le 9, 3) := by decide +kernel
theorem dX4_put_46 : decode cX4_put 46 = .ok (.aload_n 0, 1) := by decide +kernel
theorem dX4_put_47 : decode cX4_put 47 = .ok (.iload 4, 2) := by decide +kernel
theorem dX4_put_49 : decode cX4_put 49 = .ok (.invokevirtual 56, 3) := by decide +kernel
theorem dX4_put_52 : decode cX4_put 52 = .ok (.iload_n 1, 1) := by decide +kernel
theorem dX4_put_53 : decode cX4_put 53 = .ok (.iconst 3, 1) := by decide +kernel
theorem dX4_put_54 : decode cX4_put 54 = .ok (.if_icmp .le 9, 3) := by decide +kernel
theorem dX4_put_57 : decode cX4_put 57 = .ok (.aload_n 0, 1) := by decide +kernel
theorem dX4_put_58 : decode cX4_put 58 = .ok (.iload 5, 2) := by decide +kernel
theorem dX4_put_60 : decode cX4_put 60 = .ok (.invokevirtual 56, 3) := by decide +kernel
theorem dX4_put_63 : decode cX4_put 63 = .ok (.aload_n 0, 1) := by decide +kernel
theorem dX4_put_64 : decode cX4_put 64 = .ok (.getfield 13, 3) := by decide +kernel
theorem dX4_put_67 : decode cX4_put 67 = .ok (.ireturn, 1) := by decide +kernel
theorem dX4_wipe_0 : decode cX4_wipe 0 = .ok (.aload_n 0, 1) := by decide +kernel
theorem dX4_wipe_1 : decode cX4_wipe 1 = .ok (.getfield 13, 3) := by decide +kernel
theorem dX4_wipe_4 : decode cX4_wipe 4 = .ok (.istore_n 1, 1) := by decide +kernel
theorem dX4_wipe_5 : decode cX4_wipe 5 = .ok (.aload_n 0, 1) := by decide +kernel
theorem dX4_wipe_6 : decode cX4_wipe 6 = .ok (.iconst 0, 1) := by decide +kernel
theorem dX4_wipe_7 : decode cX4_wipe 7 = .ok (.putfield 13, 3) := by decide +kernel
theorem dX4_wipe_10 : decode cX4_wipe 10 = .ok (.iload_n 1, 1) := by decide +kernel
theorem dX4_wipe_11 : decode cX4_wipe 11 = .ok (.ireturn, 1) := by decide +kernel
theorem dX4_faultOfTape_0 : decode cX4_faultOfTape 0 = .ok (.aload_n 0, 1) := by decide +kernel
theorem dX4_faultOfTape_1 : decode cX4_faultOfTape 1 = .ok (.getfield 20, 3) := by decide +kernel
theorem dX4_faultOfTape_4 : decode cX4_faultOfTape 4 = .ok (.aload_n 0, 1) := by decide +kernel
theorem dX4_faultOfTape_5 : decode cX4_faultOfTape 5 = .ok (.getfield 35, 3) := by decide +kernel
theorem dX4_faultOfTape_8 : decode cX4_faultOfTape 8 = .ok (.invokevirtual 185, 3) := by decide +kernel
theorem dX4_faultOfTape_11 : decode cX4_faultOfTape 11 = .ok (.iconst 0, 1) := by decide +kernel
theorem dX4_faultOfTape_12 : decode cX4_faultOfTape 12 = .ok (.istore_n 2, 1) := by decide +kernel
theorem dX4_faultOfTape_13 : decode cX4_faultOfTape 13 = .ok (.iload_n 2, 1) := by decide +kernel
theorem dX4_faultOfTape_14 : decode cX4_faultOfTape 14 = .ok (.aload_n 0, 1) := by decide +kernel
theorem dX4_faultOfTape_15 : decode cX4_faultOfTape 15 = .ok (.getfield 13, 3) := by decide +kernel
theorem dX4_faultOfTape_18 : decode cX4_faultOfTape 18 = .ok (.if_icmp .ge 28, 3) := by decide +kernel
theorem dX4_faultOfTape_21 : decode cX4_faultOfTape 21 = .ok (.iload_n 2, 1) := by decide +kernel
theorem dX4_faultOfTape_22 : decode cX4_faultOfTape 22 = .ok (.bipush 60, 2) := by decide +kernel
theorem dX4_faultOfTape_24 : decode cX4_faultOfTape 24 = .ok (.if_icmp .ge 22, 3) := by decide +kernel
theorem dX4_faultOfTape_27 : decode cX4_faultOfTape 27 = .ok (.aload_n 0, 1) := by decide +kernel
theorem dX4_faultOfTape_28 : decode cX4_faultOfTape 28 = .ok (.getfield 20, 3) := by decide +kernel
theorem dX4_faultOfTape_31 : decode cX4_faultOfTape 31 = .ok (.aload_n 0, 1) := by decide +kernel
theorem dX4_faultOfTape_32 : decode cX4_faultOfTape 32 = .ok (.getfield 9, 3) := by decide +kernel
theorem dX4_faultOfTape_35 : decode cX4_faultOfTape 35 = .ok (.iload_n 2, 1) := by decide +kernel
theorem dX4_faultOfTape_36 : decode cX4_faultOfTape 36 = .ok (.iaload, 1) := by decide +kernel
theorem dX4_faultOfTape_37 : decode cX4_faultOfTape 37 = .ok (.invokevirtual 188, 3) := by decide +kernel
theorem dX4_faultOfTape_40 : decode cX4_faultOfTape 40 = .ok (.iinc 2 1, 3) := by decide +kernel
theorem dX4_faultOfTape_43 : decode cX4_faultOfTape 43 = .ok (.goto (-30), 3) := by decide +kernel
theorem dX4_faultOfTape_46 : decode cX4_faultOfTape 46 = .ok (.aload_n 0, 1) := by decide +kernel
theorem dX4_faultOfTape_47 : decode cX4_faultOfTape 47 = .ok (.getfield 20, 3) := by decide +kernel
theorem dX4_faultOfTape_50 : decode cX4_faultOfTape 50 = .ok (.iload_n 1, 1) := by decide +kernel
theorem dX4_faultOfTape_51 : decode cX4_faultOfTape 51 = .ok (.invokevirtual 191, 3) := by decide +kernel
theorem dX4_faultOfTape_54 : decode cX4_faultOfTape 54 = .ok (.ireturn, 1) := by decide +kernel
section CM
variable {ρ : Type} {p : Program} {l : Launch} {e : Env} {s : State} {m : MethodId} {args : Array Value} {below : List Frame} {meth : Method} {c : Code}
variable {cc : ByteArray} {nL : Nat} {own : String} {rt : Option FieldType} {D : va_G} {cI : ClassId} {sf : sfT} {A : Nat → Prop} {q : Nat → Nat} {tk : Nat} {fr lo : Nat} {S0 S : CS} {QQ : ρ × CS → State → Prop} {pc : Nat} {lv : List (Nat × Value)}

-- X3.choose
def f3_choose_b23 (n : Nat) (s0 : Int32) (S : CS) : Option (Int32 × CS) :=
    bnd (f3_kindAt n s0 S) fun v1 S1 =>
    bnd (f3_numberAt n s0 S1) fun v2 S2 =>
    bnd (f3_takeAndPut n (nI 3) v1 v2 S2) fun v3 S3 =>
    some (v3, S3)
theorem mw3_choose_b23 (n : Nat) (s0 : Int32) (S : CS) : mo S (f3_choose_b23 n s0 S) := by
  unfold f3_choose_b23
  refine m_bnd (mo3_kindAt _ _ _) (fun v1 S1 => ?_)
  refine m_bnd (mo3_numberAt _ _ _) (fun v2 S2 => ?_)
  refine m_bnd (mo3_takeAndPut _ _ _ _ _) (fun v3 S3 => ?_)
  exact m_some
theorem w3_choose_b23 (hsf : sfOk (SF tk)) (X : hX p s m args meth c cX3_choose 2 RX3 (some .int) D (tyC cI) (SF tk) A) (n : Nat) (s0 : Int32) (S : CS) : hG p l e (fun r => rmC 4 92 (cS r.2 - cS S0) (sS r.2 - sS S0)) s m args below meth c 2 (ZW D (wC cI q) A s.heap S0 S) (cS S - cS S0) (sS S - sS S0) (fun r => MQ below (QWi D (tyC cI) (wC cI q) A r) args s (cS r.2 - cS S0) (sS r.2 - sS S0) A) (fun r => le S r.2) 23 [(0, .ref (q 52))] [.int s0] (f3_choose_b23 n s0 S) := by
  unfold f3_choose_b23
  refine h_istore_n (lv' := [(1, .int s0), (0, .ref (q 52))]) X dX3_choose_23 rfl (by decide) rfl ?_
  refine h_aload_n X dX3_choose_24 rfl rfl ?_
  refine h_iconst (v := (nI 3)) X dX3_choose_25 (by decide) ?_
  refine h_aload_n X dX3_choose_26 rfl rfl ?_
  refine h_iload_n X dX3_choose_27 rfl rfl ?_
  refine k3_kindAt hsf X tlX3_73 ⟨Nat.le_of_ble_eq_true rfl, Nat.le_of_ble_eq_true rfl⟩ (Nat.le_of_ble_eq_true rfl) dX3_choose_28 ?_
  intro v1 S1
  refine h_aload_n X dX3_choose_31 rfl rfl ?_
  refine h_iload_n X dX3_choose_32 rfl rfl ?_
  refine k3_numberAt hsf X tlX3_76 ⟨Nat.le_of_ble_eq_true rfl, Nat.le_of_ble_eq_true rfl⟩ (Nat.le_of_ble_eq_true rfl) dX3_choose_33 ?_
  intro v2 S2
  refine k3_takeAndPut hsf X tlX3_120 ⟨Nat.le_of_ble_eq_true rfl, Nat.le_of_ble_eq_true rfl⟩ (Nat.le_of_ble_eq_true rfl) dX3_choose_36 ?_
  intro v3 S3
  exact h_iret X dX3_choose_39
def f3_choose (n : Nat) (S : CS) : Option (Int32 × CS) :=
    bnd (f3_kindAt n (nI 2) S) fun v1 S1 =>
    if v1 = 0 then
      (bnd (f3_numberAt n (nI 2) S1) fun v2 S2 =>
      if v2 = 0 then (f3_choose_b23 n (nI 0) S2) else (f3_choose_b23 n (nI 1) S2))
    else
      (some ((nI 1), S1))
theorem w3_choose (hsf : sfOk (SF tk)) (X : hX p s m args meth c cX3_choose 2 RX3 (some .int) D (tyC cI) (SF tk) A) {S0 : CS} (n : Nat) (S : CS) : hG p l e (fun r => rmC 4 92 (cS r.2 - cS S0) (sS r.2 - sS S0)) s m args below meth c 2 (ZW D (wC cI q) A s.heap S0 S) (cS S - cS S0) (sS S - sS S0) (fun r => MQ below (QWi D (tyC cI) (wC cI q) A r) args s (cS r.2 - cS S0) (sS r.2 - sS S0) A) (fun r => le S r.2) 0 [(0, .ref (q 52))] [] (f3_choose n S) := by
    unfold f3_choose
    refine h_aload_n X dX3_choose_0 rfl rfl ?_
    refine h_iconst (v := (nI 2)) X dX3_choose_1 (by decide) ?_
    refine k3_kindAt hsf X tlX3_73 ⟨Nat.le_of_ble_eq_true rfl, Nat.le_of_ble_eq_true rfl⟩ (Nat.le_of_ble_eq_true rfl) dX3_choose_2 ?_
    intro v1 S1
    refine h_if_eq (tgt := 10) X dX3_choose_5 (by decide) ?_ ?_
    · refine h_aload_n X dX3_choose_10 rfl rfl ?_
      refine h_iconst (v := (nI 2)) X dX3_choose_11 (by decide) ?_
      refine k3_numberAt hsf X tlX3_76 ⟨Nat.le_of_ble_eq_true rfl, Nat.le_of_ble_eq_true rfl⟩ (Nat.le_of_ble_eq_true rfl) dX3_choose_12 ?_
      intro v2 S2
      refine h_if_eq (tgt := 22) X dX3_choose_15 (by decide) ?_ ?_
      · refine h_iconst (v := (nI 0)) X dX3_choose_22 (by decide) ?_
        exact h_pick [0] rfl (w3_choose_b23 hsf X n (nI 0) S2)
      · refine h_iconst (v := (nI 1)) X dX3_choose_18 (by decide) ?_
        refine h_goto (tgt := 23) X dX3_choose_19 (by decide) ?_
        exact h_pick [0] rfl (w3_choose_b23 hsf X n (nI 1) S2)
    · refine h_iconst (v := (nI 1)) X dX3_choose_8 (by decide) ?_
      exact h_iret X dX3_choose_9
theorem mo3_choose (n : Nat) (S : CS) : mo S (f3_choose n S) := by
    unfold f3_choose
    refine m_bnd (mo3_kindAt _ _ _) (fun v1 S1 => ?_)
    refine m_ite ?_ ?_
    · refine m_bnd (mo3_numberAt _ _ _) (fun v2 S2 => ?_)
      refine m_ite ?_ ?_
      · exact mw3_choose_b23 n (nI 0) S2
      · exact mw3_choose_b23 n (nI 1) S2
    · exact m_some
theorem c3_choose (hsf : sfOk (SF tk)) (l : Launch) (D : va_G) (cI : ClassId) (q : Nat → Nat) (n : Nat) (S : CS) : MetW l D (tyC cI) (SF tk) (wC cI q) yX3_choose cX3_choose 2 (some .int) 4 92 QWi [.ref (q 52)] S (f3_choose n S) := by
  refine MetW.of (own := RX3) (by decide) rfl (Nat.le_of_ble_eq_true rfl) (mo3_choose n S) ?_
  intro x p e s m args below meth c X
  refine h_pick (lv' := [(0, .ref (q 52))]) [0] rfl ?_
  exact h_close (w3_choose hsf X n S)
theorem tc3_choose : Cond.code yX3_choose cX3_choose 2 (some .int) ∈ tt := tt_in (List.mem_of_getElem? (i := 581) (by decide +kernel)) (by decide +kernel)
theorem ti3_choose : Cond.instanceMethod yX3_choose ∈ tt := tt_in (List.mem_of_getElem? (i := 580) (by decide +kernel)) (by decide +kernel)
theorem te3_choose : Cond.selects RX3 yX3_choose yX3_choose ∈ tt := tt_in (List.mem_of_getElem? (i := 31) (by decide +kernel)) (by decide +kernel)
theorem k3_choose (hsf : sfOk (SF tk)) (X : hX p s m args meth c cc nL own rt D (tyC cI) (SF tk) A) {n : Nat} {ix : Nat} (hlk : Cond.methodLink own ix yX3_choose ∈ tt) {rest : List Value} {K : Int32 → CS → Option (ρ × CS)} (hR : 4 + 1 ≤ fr ∧ 8 + (2 + 11) + 92 ≤ lo) (hcat : (rest.map fun v => v.category).sum ≤ 8) (d : decode cc pc = .ok (.invokevirtual ix, 3)) (kk : ∀ v S1, hG p l e (fun r => rmC fr lo (cS r.2 - cS S0) (sS r.2 - sS S0)) s m args below meth c nL (ZW D (wC cI q) A s.heap S0 S1) (cS S1 - cS S0) (sS S1 - sS S0) QQ (fun r => le S1 r.2) (pc + 3) lv (.int v :: rest) (K v S1)) : hG p l e (fun r => rmC fr lo (cS r.2 - cS S0) (sS r.2 - sS S0)) s m args below meth c nL (ZW D (wC cI q) A s.heap S0 S) (cS S - cS S0) (sS S - sS S0) QQ (fun r => le S r.2) pc lv (.ref (q 52) :: rest) (bnd (f3_choose n S) K) := h_callVi (As := []) (b := q 52) (C := RX3) hsf X (c3_choose hsf l D cI q n S) (cwVC (k := 0) X.1.2.2.2.2.1 hlk ti3_choose te3_choose tc3_choose ini_3 (by decide +kernel) hR) (fun x H h1 h2 => va_recv h1 h2 (ci := 3) (q0 := 7) rfl rfl) rfl rfl hcat d kk
-- X3.write
def f3_write (n : Nat) (S : CS) : Option (Int32 × CS) :=
    cg S 15 fun v1 =>
    cp S 15 (v1 + (nI 1)) fun S2 =>
    bnd (f3_kindAt n (nI 0) S2) fun v3 S3 =>
    bnd (f3_numberAt n (nI 0) S3) fun v4 S4 =>
    bT 2 S4 (f2_addPair n v3 v4 (tOf 2 S4)) fun _ S5 =>
    some ((nI 0), S5)
theorem w3_write (hsf : sfOk (SF tk)) (X : hX p s m args meth c cX3_write 1 RX3 (some .int) D (tyC cI) (SF tk) A) {S0 : CS} (n : Nat) (S : CS) : hG p l e (fun r => rmC 4 91 (cS r.2 - cS S0) (sS r.2 - sS S0)) s m args below meth c 1 (ZW D (wC cI q) A s.heap S0 S) (cS S - cS S0) (sS S - sS S0) (fun r => MQ below (QWi D (tyC cI) (wC cI q) A r) args s (cS r.2 - cS S0) (sS r.2 - sS S0) A) (fun r => le S r.2) 0 [(0, .ref (q 52))] [] (f3_write n S) := by
    unfold f3_write
    refine h_aload_n X dX3_write_0 rfl rfl ?_
    refine h_dup X dX3_write_1 rfl ?_
    refine c_g_WK_wrote X fl3_27 dX3_write_2 ?_
    intro v1
    refine h_iconst (v := (nI 1)) X dX3_write_5 (by decide) ?_
    refine h_iadd X dX3_write_6 ?_
    refine c_p_WK_wrote X fl3_27 dX3_write_7 ?_
    intro S2
    refine h_aload_n X dX3_write_10 rfl rfl ?_
    refine c_g_WK_written X fl3_23 dX3_write_11 ?_
    refine h_aload_n X dX3_write_14 rfl rfl ?_
    refine h_iconst (v := (nI 0)) X dX3_write_15 (by decide) ?_
    refine k3_kindAt hsf X tlX3_73 ⟨Nat.le_of_ble_eq_true rfl, Nat.le_of_ble_eq_true rfl⟩ (Nat.le_of_ble_eq_true rfl) dX3_write_16 ?_
    intro v3 S3
    refine h_aload_n X dX3_write_19 rfl rfl ?_
    refine h_iconst (v := (nI 0)) X dX3_write_20 (by decide) ?_
    refine k3_numberAt hsf X tlX3_76 ⟨Nat.le_of_ble_eq_true rfl, Nat.le_of_ble_eq_true rfl⟩ (Nat.le_of_ble_eq_true rfl) dX3_write_21 ?_
    intro v4 S4
    refine kt2_addPair_2 hsf X tlX3_67 ⟨Nat.le_of_ble_eq_true rfl, Nat.le_of_ble_eq_true rfl⟩ (Nat.le_of_ble_eq_true rfl) dX3_write_24 ?_
    intro v5 S5
    refine h_iconst (v := (nI 0)) X dX3_write_27 (by decide) ?_
    exact h_iret X dX3_write_28
theorem mo3_write (n : Nat) (S : CS) : mo S (f3_write n S) := by
    unfold f3_write
    refine m_cg (fun v1 => ?_)
    refine m_cp (fun S2 => ?_)
    refine m_bnd (mo3_kindAt _ _ _) (fun v3 S3 => ?_)
    refine m_bnd (mo3_numberAt _ _ _) (fun v4 S4 => ?_)
    refine m_bT (mo2_addPair _ _ _ _) (fun v5 S5 => ?_)
    exact m_some
theorem c3_write (hsf : sfOk (SF tk)) (l : Launch) (D : va_G) (cI : ClassId) (q : Nat → Nat) (n : Nat) (S : CS) : MetW l D (tyC cI) (SF tk) (wC cI q) yX3_write cX3_write 1 (some .int) 4 91 QWi [.ref (q 52)] S (f3_write n S) := by
  refine MetW.of (own := RX3) (by decide) rfl (Nat.le_of_ble_eq_true rfl) (mo3_write n S) ?_
  intro x p e s m args below meth c X
  refine h_pick (lv' := [(0, .ref (q 52))]) [0] rfl ?_
  exact h_close (w3_write hsf X n S)
theorem tc3_write : Cond.code yX3_write cX3_write 1 (some .int) ∈ tt := tt_in (List.mem_of_getElem? (i := 585) (by decide +kernel)) (by decide +kernel)
theorem ti3_write : Cond.instanceMethod yX3_write ∈ tt := tt_in (List.mem_of_getElem? (i := 584) (by decide +kernel)) (by decide +kernel)
theorem te3_write : Cond.selects RX3 yX3_write yX3_write ∈ tt := tt_in (List.mem_of_getElem? (i := 32) (by decide +kernel)) (by decide +kernel)
theorem k3_write (hsf : sfOk (SF tk)) (X : hX p s m args meth c cc nL own rt D (tyC cI) (SF tk) A) {n : Nat} {ix : Nat} (hlk : Cond.methodLink own ix yX3_write ∈ tt) {rest : List Value} {K : Int32 → CS → Option (ρ × CS)} (hR : 4 + 1 ≤ fr ∧ 8 + (1 + 11) + 91 ≤ lo) (hcat : (rest.map fun v => v.category).sum ≤ 8) (d : decode cc pc = .ok (.invokevirtual ix, 3)) (kk : ∀ v S1, hG p l e (fun r => rmC fr lo (cS r.2 - cS S0) (sS r.2 - sS S0)) s m args below meth c nL (ZW D (wC cI q) A s.heap S0 S1) (cS S1 - cS S0) (sS S1 - sS S0) QQ (fun r => le S1 r.2) (pc + 3) lv (.int v :: rest) (K v S1)) : hG p l e (fun r => rmC fr lo (cS r.2 - cS S0) (sS r.2 - sS S0)) s m args below meth c nL (ZW D (wC cI q) A s.heap S0 S) (cS S - cS S0) (sS S - sS S0) QQ (fun r => le S r.2) pc lv (.ref (q 52) :: rest) (bnd (f3_write n S) K) := h_callVi (As := []) (b := q 52) (C := RX3) hsf X (c3_write hsf l D cI q n S) (cwVC (k := 0) X.1.2.2.2.2.1 hlk ti3_write te3_write tc3_write ini_3 (by decide +kernel) hR) (fun x H h1 h2 => va_recv h1 h2 (ci := 3) (q0 := 7) rfl rfl) rfl rfl hcat d kk
-- X3.reckon
def f3_reckon_b121 (n : Nat) (s0 : Int32) (s1 : Int32) (s2 : Int32) (S : CS) : Option (Int32 × CS) :=
    bnd (f3_takeAndPut n s0 s1 s2 S) fun v1 S1 =>
    some (v1, S1)
theorem mw3_reckon_b121 (n : Nat) (s0 : Int32) (s1 : Int32) (s2 : Int32) (S : CS) : mo S (f3_reckon_b121 n s0 s1 s2 S) := by
  unfold f3_reckon_b121
  refine m_bnd (mo3_takeAndPut _ _ _ _ _) (fun v1 S1 => ?_)
  exact m_some
theorem w3_reckon_b121 (hsf : sfOk (SF tk)) (X : hX p s m args meth c cX3_reckon 4 RX3 (some .int) D (tyC cI) (SF tk) A) (n : Nat) (s0 : Int32) (s1 : Int32) (s2 : Int32) (S : CS) : hG p l e (fun r => rmC 4 92 (cS r.2 - cS S0) (sS r.2 - sS S0)) s m args below meth c 4 (ZW D (wC cI q) A s.heap S0 S) (cS S - cS S0) (sS S - sS S0) (fun r => MQ below (QWi D (tyC cI) (wC cI q) A r) args s (cS r.2 - cS S0) (sS r.2 - sS S0) A) (fun r => le S r.2) 121 [] [.int s2, .int s1, .int s0, .ref (q 52)] (f3_reckon_b121 n s0 s1 s2 S) := by
  unfold f3_reckon_b121
  refine k3_takeAndPut hsf X tlX3_120 ⟨Nat.le_of_ble_eq_true rfl, Nat.le_of_ble_eq_true rfl⟩ (Nat.le_of_ble_eq_true rfl) dX3_reckon_121 ?_
  intro v1 S1
  exact h_iret X dX3_reckon_124
def f3_reckon (n : Nat) (x1 : Int32) (S : CS) : Option (Int32 × CS) :=
    bnd (f3_kindAt n (nI 0) S) fun v1 S1 =>
    if v1 = 0 then
      (bnd (f3_kindAt n (nI 1) S1) fun v2 S2 =>
      if v2 = 0 then
        (bnd (f3_numberAt n (nI 0) S2) fun v3 S3 =>
        bnd (f3_numberAt n (nI 1) S3) fun v4 S4 =>
        if x1 = (nI 8) then
          (bnd (f3_takeAndPut n (nI 2) (nI 0) (v4 + v3) S4) fun v6 S6 =>
          some (v6, S6))
        else if x1 = (nI 9) then
          (bnd (f3_takeAndPut n (nI 2) (nI 0) (v4 - v3) S4) fun v8 S8 =>
          some (v8, S8))
        else if x1 = (nI 10) then
          (bnd (f3_takeAndPut n (nI 2) (nI 0) (v4 * v3) S4) fun v10 S10 =>
          some (v10, S10))
        else if x1 = (nI 11) then
          (if v3 = 0 then
            (some ((nI 2), S4))
          else
            (if v3 = 0 then none else bnd (f3_takeAndPut n (nI 2) (nI 0) (v4 / v3) S4) fun v12 S12 =>
            some (v12, S12)))
        else (if v3 ≤ v4 then
          (f3_reckon_b121 n (nI 2) (nI 0) (nI 0) S4)
        else
          (f3_reckon_b121 n (nI 2) (nI 0) (nI 1) S4)))
      else
        (some ((nI 1), S2)))
    else
      (some ((nI 1), S1))
theorem w3_reckon (hsf : sfOk (SF tk)) (X : hX p s m args meth c cX3_reckon 4 RX3 (some .int) D (tyC cI) (SF tk) A) {S0 : CS} (n : Nat) (x1 : Int32) (S : CS) : hG p l e (fun r => rmC 4 92 (cS r.2 - cS S0) (sS r.2 - sS S0)) s m args below meth c 4 (ZW D (wC cI q) A s.heap S0 S) (cS S - cS S0) (sS S - sS S0) (fun r => MQ below (QWi D (tyC cI) (wC cI q) A r) args s (cS r.2 - cS S0) (sS r.2 - sS S0) A) (fun r => le S r.2) 0 [(0, .ref (q 52)), (1, .int x1)] [] (f3_reckon n x1 S) := by
    unfold f3_reckon
    refine h_aload_n X dX3_reckon_0 rfl rfl ?_
    refine h_iconst (v := (nI 0)) X dX3_reckon_1 (by decide) ?_
    refine k3_kindAt hsf X tlX3_73 ⟨Nat.le_of_ble_eq_true rfl, Nat.le_of_ble_eq_true rfl⟩ (Nat.le_of_ble_eq_true rfl) dX3_reckon_2 ?_
    intro v1 S1
    refine h_if_ne (tgt := 16) X dX3_reckon_5 (by decide) ?_ ?_
    · refine h_iconst (v := (nI 1)) X dX3_reckon_16 (by decide) ?_
      exact h_iret X dX3_reckon_17
    · refine h_aload_n X dX3_reckon_8 rfl rfl ?_
      refine h_iconst (v := (nI 1)) X dX3_reckon_9 (by decide) ?_
      refine k3_kindAt hsf X tlX3_73 ⟨Nat.le_of_ble_eq_true rfl, Nat.le_of_ble_eq_true rfl⟩ (Nat.le_of_ble_eq_true rfl) dX3_reckon_10 ?_
      intro v2 S2
      refine h_if_eq (tgt := 18) X dX3_reckon_13 (by decide) ?_ ?_
      · refine h_aload_n X dX3_reckon_18 rfl rfl ?_
        refine h_iconst (v := (nI 0)) X dX3_reckon_19 (by decide) ?_
        refine k3_numberAt hsf X tlX3_76 ⟨Nat.le_of_ble_eq_true rfl, Nat.le_of_ble_eq_true rfl⟩ (Nat.le_of_ble_eq_true rfl) dX3_reckon_20 ?_
        intro v3 S3
        refine h_istore_n (lv' := [(2, .int v3), (0, .ref (q 52)), (1, .int x1)]) X dX3_reckon_23 rfl (by decide) rfl ?_
        refine h_aload_n X dX3_reckon_24 rfl rfl ?_
        refine h_iconst (v := (nI 1)) X dX3_reckon_25 (by decide) ?_
        refine k3_numberAt hsf X tlX3_76 ⟨Nat.le_of_ble_eq_true rfl, Nat.le_of_ble_eq_true rfl⟩ (Nat.le_of_ble_eq_true rfl) dX3_reckon_26 ?_
        intro v4 S4
        refine h_istore_n (lv' := [(3, .int v4), (2, .int v3), (0, .ref (q 52)), (1, .int x1)]) X dX3_reckon_29 rfl (by decide) rfl ?_
        refine h_iload_n X dX3_reckon_30 rfl rfl ?_
        refine h_ite (fun h5 => ?_) (fun h5 => ?_)
        · refine h_tIn (off := 29) (tgt := 60) X dX3_reckon_31 (by rw [h5]; decide) (by rw [h5]; decide) (by rw [h5]; rfl) (by decide) ?_
          refine h_aload_n X dX3_reckon_60 rfl rfl ?_
          refine h_iconst (v := (nI 2)) X dX3_reckon_61 (by decide) ?_
          refine h_iconst (v := (nI 0)) X dX3_reckon_62 (by decide) ?_
          refine h_iload_n X dX3_reckon_63 rfl rfl ?_
          refine h_iload_n X dX3_reckon_64 rfl rfl ?_
          refine h_iadd X dX3_reckon_65 ?_
          refine k3_takeAndPut hsf X tlX3_120 ⟨Nat.le_of_ble_eq_true rfl, Nat.le_of_ble_eq_true rfl⟩ (Nat.le_of_ble_eq_true rfl) dX3_reckon_66 ?_
          intro v6 S6
          exact h_iret X dX3_reckon_69
        have eh5 := tn_i (n := 8) h5 (by decide)
        refine h_ite (fun h7 => ?_) (fun h7 => ?_)
        · refine h_tIn (off := 39) (tgt := 70) X dX3_reckon_31 (by rw [h7]; decide) (by rw [h7]; decide) (by rw [h7]; rfl) (by decide) ?_
          refine h_aload_n X dX3_reckon_70 rfl rfl ?_
          refine h_iconst (v := (nI 2)) X dX3_reckon_71 (by decide) ?_
          refine h_iconst (v := (nI 0)) X dX3_reckon_72 (by decide) ?_
          refine h_iload_n X dX3_reckon_73 rfl rfl ?_
          refine h_iload_n X dX3_reckon_74 rfl rfl ?_
          refine h_isub X dX3_reckon_75 ?_
          refine k3_takeAndPut hsf X tlX3_120 ⟨Nat.le_of_ble_eq_true rfl, Nat.le_of_ble_eq_true rfl⟩ (Nat.le_of_ble_eq_true rfl) dX3_reckon_76 ?_
          intro v8 S8
          exact h_iret X dX3_reckon_79
        have eh7 := tn_i (n := 9) h7 (by decide)
        refine h_ite (fun h9 => ?_) (fun h9 => ?_)
        · refine h_tIn (off := 49) (tgt := 80) X dX3_reckon_31 (by rw [h9]; decide) (by rw [h9]; decide) (by rw [h9]; rfl) (by decide) ?_
          refine h_aload_n X dX3_reckon_80 rfl rfl ?_
          refine h_iconst (v := (nI 2)) X dX3_reckon_81 (by decide) ?_
          refine h_iconst (v := (nI 0)) X dX3_reckon_82 (by decide) ?_
          refine h_iload_n X dX3_reckon_83 rfl rfl ?_
          refine h_iload_n X dX3_reckon_84 rfl rfl ?_
          refine h_imul X dX3_reckon_85 ?_
          refine k3_takeAndPut hsf X tlX3_120 ⟨Nat.le_of_ble_eq_true rfl, Nat.le_of_ble_eq_true rfl⟩ (Nat.le_of_ble_eq_true rfl) dX3_reckon_86 ?_
          intro v10 S10
          exact h_iret X dX3_reckon_89
        have eh9 := tn_i (n := 10) h9 (by decide)
        refine h_ite (fun h11 => ?_) (fun h11 => ?_)
        · refine h_tIn (off := 59) (tgt := 90) X dX3_reckon_31 (by rw [h11]; decide) (by rw [h11]; decide) (by rw [h11]; rfl) (by decide) ?_
          refine h_iload_n X dX3_reckon_90 rfl rfl ?_
          refine h_if_ne (tgt := 98) X dX3_reckon_91 (by decide) ?_ ?_
          · refine h_aload_n X dX3_reckon_98 rfl rfl ?_
            refine h_iconst (v := (nI 2)) X dX3_reckon_99 (by decide) ?_
            refine h_iconst (v := (nI 0)) X dX3_reckon_100 (by decide) ?_
            refine h_iload_n X dX3_reckon_101 rfl rfl ?_
            refine h_iload_n X dX3_reckon_102 rfl rfl ?_
            refine h_idiv X dX3_reckon_103 ?_
            refine k3_takeAndPut hsf X tlX3_120 ⟨Nat.le_of_ble_eq_true rfl, Nat.le_of_ble_eq_true rfl⟩ (Nat.le_of_ble_eq_true rfl) dX3_reckon_104 ?_
            intro v12 S12
            exact h_iret X dX3_reckon_107
          · refine h_iconst (v := (nI 2)) X dX3_reckon_94 (by decide) ?_
            refine h_goto (tgt := 107) X dX3_reckon_95 (by decide) ?_
            exact h_iret X dX3_reckon_107
        have eh11 := tn_i (n := 11) h11 (by decide)
        refine h_tOut (tgt := 108) X dX3_reckon_31 (by omega) (by decide) ?_
        refine h_aload_n X dX3_reckon_108 rfl rfl ?_
        refine h_iconst (v := (nI 2)) X dX3_reckon_109 (by decide) ?_
        refine h_iconst (v := (nI 0)) X dX3_reckon_110 (by decide) ?_
        refine h_iload_n X dX3_reckon_111 rfl rfl ?_
        refine h_iload_n X dX3_reckon_112 rfl rfl ?_
        refine h_icmp_ge (tgt := 120) X dX3_reckon_113 (by decide) ?_ ?_
        · refine h_iconst (v := (nI 0)) X dX3_reckon_120 (by decide) ?_
          exact h_pick [] rfl (w3_reckon_b121 hsf X n (nI 2) (nI 0) (nI 0) S4)
        · refine h_iconst (v := (nI 1)) X dX3_reckon_116 (by decide) ?_
          refine h_goto (tgt := 121) X dX3_reckon_117 (by decide) ?_
          exact h_pick [] rfl (w3_reckon_b121 hsf X n (nI 2) (nI 0) (nI 1) S4)
      · refine h_iconst (v := (nI 1)) X dX3_reckon_16 (by decide) ?_
        exact h_iret X dX3_reckon_17
theorem mo3_reckon (n : Nat) (x1 : Int32) (S : CS) : mo S (f3_reckon n x1 S) := by
    unfold f3_reckon
    refine m_bnd (mo3_kindAt _ _ _) (fun v1 S1 => ?_)
    refine m_ite ?_ ?_
    · refine m_bnd (mo3_kindAt _ _ _) (fun v2 S2 => ?_)
      refine m_ite ?_ ?_
      · refine m_bnd (mo3_numberAt _ _ _) (fun v3 S3 => ?_)
        refine m_bnd (mo3_numberAt _ _ _) (fun v4 S4 => ?_)
        refine m_ite ?_ ?_
        · refine m_bnd (mo3_takeAndPut _ _ _ _ _) (fun v6 S6 => ?_)
          exact m_some
        refine m_ite ?_ ?_
        · refine m_bnd (mo3_takeAndPut _ _ _ _ _) (fun v8 S8 => ?_)
          exact m_some
        refine m_ite ?_ ?_
        · refine m_bnd (mo3_takeAndPut _ _ _ _ _) (fun v10 S10 => ?_)
          exact m_some
        refine m_ite ?_ ?_
        · refine m_ite ?_ ?_
          · exact m_some
          · refine m_ite m_none ?_
            refine m_bnd (mo3_takeAndPut _ _ _ _ _) (fun v12 S12 => ?_)
            exact m_some
        refine m_ite ?_ ?_
        · exact mw3_reckon_b121 n (nI 2) (nI 0) (nI 0) S4
        · exact mw3_reckon_b121 n (nI 2) (nI 0) (nI 1) S4
      · exact m_some
    · exact m_some
theorem c3_reckon (hsf : sfOk (SF tk)) (l : Launch) (D : va_G) (cI : ClassId) (q : Nat → Nat) (n : Nat) (x1 : Int32) (S : CS) : MetW l D (tyC cI) (SF tk) (wC cI q) yX3_reckon cX3_reckon 4 (some .int) 4 92 QWi [.ref (q 52), .int x1] S (f3_reckon n x1 S) := by
  refine MetW.of (own := RX3) (by decide) rfl (Nat.le_of_ble_eq_true rfl) (mo3_reckon n x1 S) ?_
  intro x p e s m args below meth c X
  refine h_pick (lv' := [(0, .ref (q 52)), (1, .int x1)]) [0, 1] rfl ?_
  exact h_close (w3_reckon hsf X n x1 S)
theorem tc3_reckon : Cond.code yX3_reckon cX3_reckon 4 (some .int) ∈ tt := tt_in (List.mem_of_getElem? (i := 590) (by decide +kernel)) (by decide +kernel)
theorem ti3_reckon : Cond.instanceMethod yX3_reckon ∈ tt := tt_in (List.mem_of_getElem? (i := 589) (by decide +kernel)) (by decide +kernel)
theorem te3_reckon : Cond.selects RX3 yX3_reckon yX3_reckon ∈ tt := tt_in (List.mem_of_getElem? (i := 33) (by decide +kernel)) (by decide +kernel)
theorem k3_reckon (hsf : sfOk (SF tk)) (X : hX p s m args meth c cc nL own rt D (tyC cI) (SF tk) A) {n : Nat} {x1 : Int32} {ix : Nat} (hlk : Cond.methodLink own ix yX3_reckon ∈ tt) {rest : List Value} {K : Int32 → CS → Option (ρ × CS)} (hR : 4 + 1 ≤ fr ∧ 8 + (4 + 11) + 92 ≤ lo) (hcat : (rest.map fun v => v.category).sum ≤ 8) (d : decode cc pc = .ok (.invokevirtual ix, 3)) (kk : ∀ v S1, hG p l e (fun r => rmC fr lo (cS r.2 - cS S0) (sS r.2 - sS S0)) s m args below meth c nL (ZW D (wC cI q) A s.heap S0 S1) (cS S1 - cS S0) (sS S1 - sS S0) QQ (fun r => le S1 r.2) (pc + 3) lv (.int v :: rest) (K v S1)) : hG p l e (fun r => rmC fr lo (cS r.2 - cS S0) (sS r.2 - sS S0)) s m args below meth c nL (ZW D (wC cI q) A s.heap S0 S) (cS S - cS S0) (sS S - sS S0) QQ (fun r => le S r.2) pc lv (.int x1 :: .ref (q 52) :: rest) (bnd (f3_reckon n x1 S) K) := h_callVi (As := [.int x1]) (b := q 52) (C := RX3) hsf X (c3_reckon hsf l D cI q n x1 S) (cwVC (k := 1) X.1.2.2.2.2.1 hlk ti3_reckon te3_reckon tc3_reckon ini_3 (by decide +kernel) hR) (fun x H h1 h2 => va_recv h1 h2 (ci := 3) (q0 := 7) rfl rfl) rfl rfl hcat d kk
-- X3.act
def f3_act_b213 (n : Nat) (s0 : Int32) (s1 : Int32) (s2 : Int32) (S : CS) : Option (Int32 × CS) :=
    bnd (f3_takeAndPut n s0 s1 s2 S) fun v1 S1 =>
    some (v1, S1)
theorem mw3_act_b213 (n : Nat) (s0 : Int32) (s1 : Int32) (s2 : Int32) (S : CS) : mo S (f3_act_b213 n s0 s1 s2 S) := by
  unfold f3_act_b213
  refine m_bnd (mo3_takeAndPut _ _ _ _ _) (fun v1 S1 => ?_)
  exact m_some
theorem w3_act_b213 (hsf : sfOk (SF tk)) (X : hX p s m args meth c cX3_act 6 RX3 (some .int) D (tyC cI) (SF tk) A) (n : Nat) (s0 : Int32) (s1 : Int32) (s2 : Int32) (S : CS) : hG p l e (fun r => rmC 5 118 (cS r.2 - cS S0) (sS r.2 - sS S0)) s m args below meth c 6 (ZW D (wC cI q) A s.heap S0 S) (cS S - cS S0) (sS S - sS S0) (fun r => MQ below (QWi D (tyC cI) (wC cI q) A r) args s (cS r.2 - cS S0) (sS r.2 - sS S0) A) (fun r => le S r.2) 213 [] [.int s2, .int s1, .int s0, .ref (q 52)] (f3_act_b213 n s0 s1 s2 S) := by
  unfold f3_act_b213
  refine k3_takeAndPut hsf X tlX3_120 ⟨Nat.le_of_ble_eq_true rfl, Nat.le_of_ble_eq_true rfl⟩ (Nat.le_of_ble_eq_true rfl) dX3_act_213 ?_
  intro v1 S1
  exact h_iret X dX3_act_216
def f3_act_b268 (n : Nat) (s0 : Int32) (s1 : Int32) (s2 : Int32) (S : CS) : Option (Int32 × CS) :=
    bnd (f3_takeAndPut n s0 s1 s2 S) fun v1 S1 =>
    some (v1, S1)
theorem mw3_act_b268 (n : Nat) (s0 : Int32) (s1 : Int32) (s2 : Int32) (S : CS) : mo S (f3_act_b268 n s0 s1 s2 S) := by
  unfold f3_act_b268
  refine m_bnd (mo3_takeAndPut _ _ _ _ _) (fun v1 S1 => ?_)
  exact m_some
theorem w3_act_b268 (hsf : sfOk (SF tk)) (X : hX p s m args meth c cX3_act 6 RX3 (some .int) D (tyC cI) (SF tk) A) (n : Nat) (s0 : Int32) (s1 : Int32) (s2 : Int32) (S : CS) : hG p l e (fun r => rmC 5 118 (cS r.2 - cS S0) (sS r.2 - sS S0)) s m args below meth c 6 (ZW D (wC cI q) A s.heap S0 S) (cS S - cS S0) (sS S - sS S0) (fun r => MQ below (QWi D (tyC cI) (wC cI q) A r) args s (cS r.2 - cS S0) (sS r.2 - sS S0) A) (fun r => le S r.2) 268 [] [.int s2, .int s1, .int s0, .ref (q 52)] (f3_act_b268 n s0 s1 s2 S) := by
  unfold f3_act_b268
  refine k3_takeAndPut hsf X tlX3_120 ⟨Nat.le_of_ble_eq_true rfl, Nat.le_of_ble_eq_true rfl⟩ (Nat.le_of_ble_eq_true rfl) dX3_act_268 ?_
  intro v1 S1
  exact h_iret X dX3_act_271
theorem tlX3_114 : Cond.methodLink RX3 114 yX3_codeAt ∈ tt := tt_in (List.mem_of_getElem? (i := 533) (by decide +kernel)) (by decide +kernel)
theorem tlX3_117 : Cond.methodLink RX3 117 yX1_sizeOf ∈ tt := tt_in (List.mem_of_getElem? (i := 537) (by decide +kernel)) (by decide +kernel)
theorem tlX3_123 : Cond.methodLink RX3 123 yX3_isLastOf ∈ tt := tt_in (List.mem_of_getElem? (i := 538) (by decide +kernel)) (by decide +kernel)
theorem tlX3_127 : Cond.methodLink RX3 127 yX3_readField ∈ tt := tt_in (List.mem_of_getElem? (i := 554) (by decide +kernel)) (by decide +kernel)
theorem tlX3_130 : Cond.methodLink RX3 130 yX3_writeField ∈ tt := tt_in (List.mem_of_getElem? (i := 562) (by decide +kernel)) (by decide +kernel)
theorem tlX3_142 : Cond.methodLink RX3 142 yX3_reckon ∈ tt := tt_in (List.mem_of_getElem? (i := 587) (by decide +kernel)) (by decide +kernel)
theorem tlX3_133 : Cond.methodLink RX3 133 yX3_isSame ∈ tt := tt_in (List.mem_of_getElem? (i := 574) (by decide +kernel)) (by decide +kernel)
theorem tlX3_136 : Cond.methodLink RX3 136 yX3_choose ∈ tt := tt_in (List.mem_of_getElem? (i := 578) (by decide +kernel)) (by decide +kernel)
theorem tlX3_139 : Cond.methodLink RX3 139 yX3_write ∈ tt := tt_in (List.mem_of_getElem? (i := 582) (by decide +kernel)) (by decide +kernel)
def f3_act (n : Nat) (x1 : Int32) (S : CS) : Option (Int32 × CS) :=
    bT 4 S (f2_get n x1 (nI 0) (tOf 4 S)) fun v1 S1 =>
    bT 4 S1 (f2_get n x1 (nI 1) (tOf 4 S1)) fun v2 S2 =>
    bnd (f3_codeAt n v1 v2 S2) fun v3 S3 =>
    bnd (f3_codeAt n v1 (v2 + (nI 1)) S3) fun v4 S4 =>
    bnd (f1_sizeOf n v3 S4) fun v5 S5 =>
    bT 4 S5 (f2_set n x1 (nI 1) (v2 + v5) (tOf 4 S5)) fun _ S6 =>
    if v3 = (nI 0) then
      (bnd (f3_takeAndPut n (nI 0) (nI 0) v4 S6) fun v8 S8 =>
      some (v8, S8))
    else if v3 = (nI 1) then
      (bT 6 S6 (f2_get n v4 (nI 3) (tOf 6 S6)) fun v10 S10 =>
      bT 6 S10 (f2_get n v4 (nI 4) (tOf 6 S10)) fun v11 S11 =>
      bnd (f3_takeAndPut n (nI 0) v10 v11 S11) fun v12 S12 =>
      some (v12, S12))
    else if v3 = (nI 2) then
      (bnd (f3_make n v4 S6) fun v14 S14 =>
      some (v14, S14))
    else if v3 = (nI 3) then
      (bnd (f3_isLastOf n v4 S6) fun v16 S16 =>
      if v16 = 0 then (f3_act_b213 n (nI 1) (nI 0) (nI 0) S16) else (f3_act_b213 n (nI 1) (nI 0) (nI 1) S16))
    else if v3 = (nI 4) then
      (bnd (f3_isLastOf n v4 S6) fun v18 S18 =>
      if v18 = 0 then (some ((nI 5), S18)) else (some ((nI 0), S18)))
    else if v3 = (nI 5) then
      (bnd (f3_readField n v4 S6) fun v20 S20 =>
      some (v20, S20))
    else if v3 = (nI 6) then
      (bnd (f3_writeField n v4 S6) fun v22 S22 =>
      some (v22, S22))
    else if v3 = (nI 7) then
      (bnd (f3_callMethod n v4 S6) fun v24 S24 =>
      some (v24, S24))
    else if v3 = (nI 8) then
      (bnd (f3_reckon n v3 S6) fun v26 S26 =>
      some (v26, S26))
    else if v3 = (nI 9) then
      (bnd (f3_reckon n v3 S6) fun v28 S28 =>
      some (v28, S28))
    else if v3 = (nI 10) then
      (bnd (f3_reckon n v3 S6) fun v30 S30 =>
      some (v30, S30))
    else if v3 = (nI 11) then
      (bnd (f3_reckon n v3 S6) fun v32 S32 =>
      some (v32, S32))
    else if v3 = (nI 12) then
      (bnd (f3_reckon n v3 S6) fun v34 S34 =>
      some (v34, S34))
    else if v3 = (nI 13) then
      (bnd (f3_isSame n S6) fun v36 S36 =>
      if v36 = 0 then (f3_act_b268 n (nI 2) (nI 0) (nI 0) S36) else (f3_act_b268 n (nI 2) (nI 0) (nI 1) S36))
    else if v3 = (nI 14) then
      (bnd (f3_choose n S6) fun v38 S38 =>
      some (v38, S38))
    else if v3 = (nI 15) then
      (bnd (f3_write n S6) fun v40 S40 =>
      some (v40, S40))
    else if v3 = (nI 16) then
      (bT 4 S6 (f2_get n x1 (nI 3) (tOf 4 S6)) fun v42 S42 =>
      bnd (f3_takeAndPut n (nI 0) (nI 1) v42 S42) fun v43 S43 =>
      some (v43, S43))
    else if v3 = (nI 17) then
      (bT 4 S6 (f2_get n x1 (nI 4) (tOf 4 S6)) fun v45 S45 =>
      bT 4 S45 (f2_get n x1 (nI 5) (tOf 4 S45)) fun v46 S46 =>
      bnd (f3_takeAndPut n (nI 0) v45 v46 S46) fun v47 S47 =>
      some (v47, S47))
    else if v3 = (nI 18) then
      (bnd (f3_kindAt n (nI 0) S6) fun v49 S49 =>
      bnd (f3_numberAt n (nI 0) S49) fun v50 S50 =>
      bnd (f3_takeAndPut n (nI 2) v49 v50 S50) fun v51 S51 =>
      some (v51, S51))
    else (bnd (f3_reckon n v3 S6) fun v52 S52 =>
    some (v52, S52))
theorem w3_act (hsf : sfOk (SF tk)) (X : hX p s m args meth c cX3_act 6 RX3 (some .int) D (tyC cI) (SF tk) A) {S0 : CS} (n : Nat) (x1 : Int32) (S : CS) : hG p l e (fun r => rmC 5 118 (cS r.2 - cS S0) (sS r.2 - sS S0)) s m args below meth c 6 (ZW D (wC cI q) A s.heap S0 S) (cS S - cS S0) (sS S - sS S0) (fun r => MQ below (QWi D (tyC cI) (wC cI q) A r) args s (cS r.2 - cS S0) (sS r.2 - sS S0) A) (fun r => le S r.2) 0 [(0, .ref (q 52)), (1, .int x1)] [] (f3_act n x1 S) := by
    unfold f3_act
    refine h_aload_n X dX3_act_0 rfl rfl ?_
    refine c_g_WK_frames X fl3_40 dX3_act_1 ?_
    refine h_iload_n X dX3_act_4 rfl rfl ?_
    refine h_iconst (v := (nI 0)) X dX3_act_5 (by decide) ?_
    refine kt2_get_4 hsf X tlX3_84 ⟨Nat.le_of_ble_eq_true rfl, Nat.le_of_ble_eq_true rfl⟩ (Nat.le_of_ble_eq_true rfl) dX3_act_6 ?_
    intro v1 S1
    refine h_istore_n (lv' := [(2, .int v1), (0, .ref (q 52)), (1, .int x1)]) X dX3_act_9 rfl (by decide) rfl ?_
    refine h_aload_n X dX3_act_10 rfl rfl ?_
    refine c_g_WK_frames X fl3_40 dX3_act_11 ?_
    refine h_iload_n X dX3_act_14 rfl rfl ?_
    refine h_iconst (v := (nI 1)) X dX3_act_15 (by decide) ?_
    refine kt2_get_4 hsf X tlX3_84 ⟨Nat.le_of_ble_eq_true rfl, Nat.le_of_ble_eq_true rfl⟩ (Nat.le_of_ble_eq_true rfl) dX3_act_16 ?_
    intro v2 S2
    refine h_istore_n (lv' := [(3, .int v2), (2, .int v1), (0, .ref (q 52)), (1, .int x1)]) X dX3_act_19 rfl (by decide) rfl ?_
    refine h_aload_n X dX3_act_20 rfl rfl ?_
    refine h_iload_n X dX3_act_21 rfl rfl ?_
    refine h_iload_n X dX3_act_22 rfl rfl ?_
    refine k3_codeAt hsf X tlX3_114 ⟨Nat.le_of_ble_eq_true rfl, Nat.le_of_ble_eq_true rfl⟩ (Nat.le_of_ble_eq_true rfl) dX3_act_23 ?_
    intro v3 S3
    refine h_istore (lv' := [(4, .int v3), (3, .int v2), (2, .int v1), (0, .ref (q 52)), (1, .int x1)]) X dX3_act_26 (by decide) rfl ?_
    refine h_aload_n X dX3_act_28 rfl rfl ?_
    refine h_iload_n X dX3_act_29 rfl rfl ?_
    refine h_iload_n X dX3_act_30 rfl rfl ?_
    refine h_iconst (v := (nI 1)) X dX3_act_31 (by decide) ?_
    refine h_iadd X dX3_act_32 ?_
    refine k3_codeAt hsf X tlX3_114 ⟨Nat.le_of_ble_eq_true rfl, Nat.le_of_ble_eq_true rfl⟩ (Nat.le_of_ble_eq_true rfl) dX3_act_33 ?_
    intro v4 S4
    refine h_istore (lv' := [(5, .int v4), (4, .int v3), (3, .int v2), (2, .int v1), (0, .ref (q 52)), (1, .int x1)]) X dX3_act_36 (by decide) rfl ?_
    refine h_aload_n X dX3_act_38 rfl rfl ?_
    refine c_g_WK_frames X fl3_40 dX3_act_39 ?_
    refine h_iload_n X dX3_act_42 rfl rfl ?_
    refine h_iconst (v := (nI 1)) X dX3_act_43 (by decide) ?_
    refine h_iload_n X dX3_act_44 rfl rfl ?_
    refine h_iload X dX3_act_45 rfl ?_
    refine k1_sizeOf hsf X tlX3_117 ⟨Nat.le_of_ble_eq_true rfl, Nat.le_of_ble_eq_true rfl⟩ (Nat.le_of_ble_eq_true rfl) dX3_act_47 ?_
    intro v5 S5
    refine h_iadd X dX3_act_50 ?_
    refine kt2_set_4 hsf X tlX3_101 ⟨Nat.le_of_ble_eq_true rfl, Nat.le_of_ble_eq_true rfl⟩ (Nat.le_of_ble_eq_true rfl) dX3_act_51 ?_
    intro v6 S6
    refine h_iload X dX3_act_54 rfl ?_
    refine h_ite (fun h7 => ?_) (fun h7 => ?_)
    · refine h_tIn (off := 92) (tgt := 148) X dX3_act_56 (by rw [h7]; decide) (by rw [h7]; decide) (by rw [h7]; rfl) (by decide) ?_
      refine h_aload_n X dX3_act_148 rfl rfl ?_
      refine h_iconst (v := (nI 0)) X dX3_act_149 (by decide) ?_
      refine h_iconst (v := (nI 0)) X dX3_act_150 (by decide) ?_
      refine h_iload X dX3_act_151 rfl ?_
      refine k3_takeAndPut hsf X tlX3_120 ⟨Nat.le_of_ble_eq_true rfl, Nat.le_of_ble_eq_true rfl⟩ (Nat.le_of_ble_eq_true rfl) dX3_act_153 ?_
      intro v8 S8
      exact h_iret X dX3_act_156
    have eh7 := tn_i (n := 0) h7 (by decide)
    refine h_ite (fun h9 => ?_) (fun h9 => ?_)
    · refine h_tIn (off := 101) (tgt := 157) X dX3_act_56 (by rw [h9]; decide) (by rw [h9]; decide) (by rw [h9]; rfl) (by decide) ?_
      refine h_aload_n X dX3_act_157 rfl rfl ?_
      refine h_iconst (v := (nI 0)) X dX3_act_158 (by decide) ?_
      refine h_aload_n X dX3_act_159 rfl rfl ?_
      refine c_g_WK_book X fl3_14 dX3_act_160 ?_
      refine c_g_IM_editions X fl3_98 dX3_act_163 ?_
      refine h_iload X dX3_act_166 rfl ?_
      refine h_iconst (v := (nI 3)) X dX3_act_168 (by decide) ?_
      refine kt2_get_6 hsf X tlX3_84 ⟨Nat.le_of_ble_eq_true rfl, Nat.le_of_ble_eq_true rfl⟩ (Nat.le_of_ble_eq_true rfl) dX3_act_169 ?_
      intro v10 S10
      refine h_aload_n X dX3_act_172 rfl rfl ?_
      refine c_g_WK_book X fl3_14 dX3_act_173 ?_
      refine c_g_IM_editions X fl3_98 dX3_act_176 ?_
      refine h_iload X dX3_act_179 rfl ?_
      refine h_iconst (v := (nI 4)) X dX3_act_181 (by decide) ?_
      refine kt2_get_6 hsf X tlX3_84 ⟨Nat.le_of_ble_eq_true rfl, Nat.le_of_ble_eq_true rfl⟩ (Nat.le_of_ble_eq_true rfl) dX3_act_182 ?_
      intro v11 S11
      refine k3_takeAndPut hsf X tlX3_120 ⟨Nat.le_of_ble_eq_true rfl, Nat.le_of_ble_eq_true rfl⟩ (Nat.le_of_ble_eq_true rfl) dX3_act_185 ?_
      intro v12 S12
      exact h_iret X dX3_act_188
    have eh9 := tn_i (n := 1) h9 (by decide)
    refine h_ite (fun h13 => ?_) (fun h13 => ?_)
    · refine h_tIn (off := 133) (tgt := 189) X dX3_act_56 (by rw [h13]; decide) (by rw [h13]; decide) (by rw [h13]; rfl) (by decide) ?_
      refine h_aload_n X dX3_act_189 rfl rfl ?_
      refine h_iload X dX3_act_190 rfl ?_
      refine k3_make hsf X tlX3_111 ⟨Nat.le_of_ble_eq_true rfl, Nat.le_of_ble_eq_true rfl⟩ (Nat.le_of_ble_eq_true rfl) dX3_act_192 ?_
      intro v14 S14
      exact h_iret X dX3_act_195
    have eh13 := tn_i (n := 2) h13 (by decide)
    refine h_ite (fun h15 => ?_) (fun h15 => ?_)
    · refine h_tIn (off := 140) (tgt := 196) X dX3_act_56 (by rw [h15]; decide) (by rw [h15]; decide) (by rw [h15]; rfl) (by decide) ?_
      refine h_aload_n X dX3_act_196 rfl rfl ?_
      refine h_iconst (v := (nI 1)) X dX3_act_197 (by decide) ?_
      refine h_iconst (v := (nI 0)) X dX3_act_198 (by decide) ?_
      refine h_aload_n X dX3_act_199 rfl rfl ?_
      refine h_iload X dX3_act_200 rfl ?_
      refine k3_isLastOf hsf X tlX3_123 ⟨Nat.le_of_ble_eq_true rfl, Nat.le_of_ble_eq_true rfl⟩ (Nat.le_of_ble_eq_true rfl) dX3_act_202 ?_
      intro v16 S16
      refine h_if_eq (tgt := 212) X dX3_act_205 (by decide) ?_ ?_
      · refine h_iconst (v := (nI 0)) X dX3_act_212 (by decide) ?_
        exact h_pick [] rfl (w3_act_b213 hsf X n (nI 1) (nI 0) (nI 0) S16)
      · refine h_iconst (v := (nI 1)) X dX3_act_208 (by decide) ?_
        refine h_goto (tgt := 213) X dX3_act_209 (by decide) ?_
        exact h_pick [] rfl (w3_act_b213 hsf X n (nI 1) (nI 0) (nI 1) S16)
    have eh15 := tn_i (n := 3) h15 (by decide)
    refine h_ite (fun h17 => ?_) (fun h17 => ?_)
    · refine h_tIn (off := 161) (tgt := 217) X dX3_act_56 (by rw [h17]; decide) (by rw [h17]; decide) (by rw [h17]; rfl) (by decide) ?_
      refine h_aload_n X dX3_act_217 rfl rfl ?_
      refine h_iload X dX3_act_218 rfl ?_
      refine k3_isLastOf hsf X tlX3_123 ⟨Nat.le_of_ble_eq_true rfl, Nat.le_of_ble_eq_true rfl⟩ (Nat.le_of_ble_eq_true rfl) dX3_act_220 ?_
      intro v18 S18
      refine h_if_eq (tgt := 230) X dX3_act_223 (by decide) ?_ ?_
      · refine h_iconst (v := (nI 5)) X dX3_act_230 (by decide) ?_
        exact h_iret X dX3_act_231
      · refine h_iconst (v := (nI 0)) X dX3_act_226 (by decide) ?_
        refine h_goto (tgt := 231) X dX3_act_227 (by decide) ?_
        exact h_iret X dX3_act_231
    have eh17 := tn_i (n := 4) h17 (by decide)
    refine h_ite (fun h19 => ?_) (fun h19 => ?_)
    · refine h_tIn (off := 176) (tgt := 232) X dX3_act_56 (by rw [h19]; decide) (by rw [h19]; decide) (by rw [h19]; rfl) (by decide) ?_
      refine h_aload_n X dX3_act_232 rfl rfl ?_
      refine h_iload X dX3_act_233 rfl ?_
      refine k3_readField hsf X tlX3_127 ⟨Nat.le_of_ble_eq_true rfl, Nat.le_of_ble_eq_true rfl⟩ (Nat.le_of_ble_eq_true rfl) dX3_act_235 ?_
      intro v20 S20
      exact h_iret X dX3_act_238
    have eh19 := tn_i (n := 5) h19 (by decide)
    refine h_ite (fun h21 => ?_) (fun h21 => ?_)
    · refine h_tIn (off := 183) (tgt := 239) X dX3_act_56 (by rw [h21]; decide) (by rw [h21]; decide) (by rw [h21]; rfl) (by decide) ?_
      refine h_aload_n X dX3_act_239 rfl rfl ?_
      refine h_iload X dX3_act_240 rfl ?_
      refine k3_writeField hsf X tlX3_130 ⟨Nat.le_of_ble_eq_true rfl, Nat.le_of_ble_eq_true rfl⟩ (Nat.le_of_ble_eq_true rfl) dX3_act_242 ?_
      intro v22 S22
      exact h_iret X dX3_act_245
    have eh21 := tn_i (n := 6) h21 (by decide)
    refine h_ite (fun h23 => ?_) (fun h23 => ?_)
    · refine h_tIn (off := 190) (tgt := 246) X dX3_act_56 (by rw [h23]; decide) (by rw [h23]; decide) (by rw [h23]; rfl) (by decide) ?_
      refine h_aload_n X dX3_act_246 rfl rfl ?_
      refine h_iload X dX3_act_247 rfl ?_
      refine k3_callMethod hsf X tlX3_70 ⟨Nat.le_of_ble_eq_true rfl, Nat.le_of_ble_eq_true rfl⟩ (Nat.le_of_ble_eq_true rfl) dX3_act_249 ?_
      intro v24 S24
      exact h_iret X dX3_act_252
    have eh23 := tn_i (n := 7) h23 (by decide)
    refine h_ite (fun h25 => ?_) (fun h25 => ?_)
    · refine h_tIn (off := 282) (tgt := 338) X dX3_act_56 (by rw [h25]; decide) (by rw [h25]; decide) (by rw [h25]; rfl) (by decide) ?_
      refine h_aload_n X dX3_act_338 rfl rfl ?_
      refine h_iload X dX3_act_339 rfl ?_
      refine k3_reckon hsf X tlX3_142 ⟨Nat.le_of_ble_eq_true rfl, Nat.le_of_ble_eq_true rfl⟩ (Nat.le_of_ble_eq_true rfl) dX3_act_341 ?_
      intro v26 S26
      exact h_iret X dX3_act_344
    have eh25 := tn_i (n := 8) h25 (by decide)
    refine h_ite (fun h27 => ?_) (fun h27 => ?_)
    · refine h_tIn (off := 282) (tgt := 338) X dX3_act_56 (by rw [h27]; decide) (by rw [h27]; decide) (by rw [h27]; rfl) (by decide) ?_
      refine h_aload_n X dX3_act_338 rfl rfl ?_
      refine h_iload X dX3_act_339 rfl ?_
      refine k3_reckon hsf X tlX3_142 ⟨Nat.le_of_ble_eq_true rfl, Nat.le_of_ble_eq_true rfl⟩ (Nat.le_of_ble_eq_true rfl) dX3_act_341 ?_
      intro v28 S28
      exact h_iret X dX3_act_344
    have eh27 := tn_i (n := 9) h27 (by decide)
    refine h_ite (fun h29 => ?_) (fun h29 => ?_)
    · refine h_tIn (off := 282) (tgt := 338) X dX3_act_56 (by rw [h29]; decide) (by rw [h29]; decide) (by rw [h29]; rfl) (by decide) ?_
      refine h_aload_n X dX3_act_338 rfl rfl ?_
      refine h_iload X dX3_act_339 rfl ?_
      refine k3_reckon hsf X tlX3_142 ⟨Nat.le_of_ble_eq_true rfl, Nat.le_of_ble_eq_true rfl⟩ (Nat.le_of_ble_eq_true rfl) dX3_act_341 ?_
      intro v30 S30
      exact h_iret X dX3_act_344
    have eh29 := tn_i (n := 10) h29 (by decide)
    refine h_ite (fun h31 => ?_) (fun h31 => ?_)
    · refine h_tIn (off := 282) (tgt := 338) X dX3_act_56 (by rw [h31]; decide) (by rw [h31]; decide) (by rw [h31]; rfl) (by decide) ?_
      refine h_aload_n X dX3_act_338 rfl rfl ?_
      refine h_iload X dX3_act_339 rfl ?_
      refine k3_reckon hsf X tlX3_142 ⟨Nat.le_of_ble_eq_true rfl, Nat.le_of_ble_eq_true rfl⟩ (Nat.le_of_ble_eq_true rfl) dX3_act_341 ?_
      intro v32 S32
      exact h_iret X dX3_act_344
    have eh31 := tn_i (n := 11) h31 (by decide)
    refine h_ite (fun h33 => ?_) (fun h33 => ?_)
    · refine h_tIn (off := 282) (tgt := 338) X dX3_act_56 (by rw [h33]; decide) (by rw [h33]; decide) (by rw [h33]; rfl) (by decide) ?_
      refine h_aload_n X dX3_act_338 rfl rfl ?_
      refine h_iload X dX3_act_339 rfl ?_
      refine k3_reckon hsf X tlX3_142 ⟨Nat.le_of_ble_eq_true rfl, Nat.le_of_ble_eq_true rfl⟩ (Nat.le_of_ble_eq_true rfl) dX3_act_341 ?_
      intro v34 S34
      exact h_iret X dX3_act_344
    have eh33 := tn_i (n := 12) h33 (by decide)
    refine h_ite (fun h35 => ?_) (fun h35 => ?_)
    · refine h_tIn (off := 197) (tgt := 253) X dX3_act_56 (by rw [h35]; decide) (by rw [h35]; decide) (by rw [h35]; rfl) (by decide) ?_
      refine h_aload_n X dX3_act_253 rfl rfl ?_
      refine h_iconst (v := (nI 2)) X dX3_act_254 (by decide) ?_
      refine h_iconst (v := (nI 0)) X dX3_act_255 (by decide) ?_
      refine h_aload_n X dX3_act_256 rfl rfl ?_
      refine k3_isSame hsf X tlX3_133 ⟨Nat.le_of_ble_eq_true rfl, Nat.le_of_ble_eq_true rfl⟩ (Nat.le_of_ble_eq_true rfl) dX3_act_257 ?_
      intro v36 S36
      refine h_if_eq (tgt := 267) X dX3_act_260 (by decide) ?_ ?_
      · refine h_iconst (v := (nI 0)) X dX3_act_267 (by decide) ?_
        exact h_pick [] rfl (w3_act_b268 hsf X n (nI 2) (nI 0) (nI 0) S36)
      · refine h_iconst (v := (nI 1)) X dX3_act_263 (by decide) ?_
        refine h_goto (tgt := 268) X dX3_act_264 (by decide) ?_
        exact h_pick [] rfl (w3_act_b268 hsf X n (nI 2) (nI 0) (nI 1) S36)
    have eh35 := tn_i (n := 13) h35 (by decide)
    refine h_ite (fun h37 => ?_) (fun h37 => ?_)
    · refine h_tIn (off := 216) (tgt := 272) X dX3_act_56 (by rw [h37]; decide) (by rw [h37]; decide) (by rw [h37]; rfl) (by decide) ?_
      refine h_aload_n X dX3_act_272 rfl rfl ?_
      refine k3_choose hsf X tlX3_136 ⟨Nat.le_of_ble_eq_true rfl, Nat.le_of_ble_eq_true rfl⟩ (Nat.le_of_ble_eq_true rfl) dX3_act_273 ?_
      intro v38 S38
      exact h_iret X dX3_act_276
    have eh37 := tn_i (n := 14) h37 (by decide)
    refine h_ite (fun h39 => ?_) (fun h39 => ?_)
    · refine h_tIn (off := 221) (tgt := 277) X dX3_act_56 (by rw [h39]; decide) (by rw [h39]; decide) (by rw [h39]; rfl) (by decide) ?_
      refine h_aload_n X dX3_act_277 rfl rfl ?_
      refine k3_write hsf X tlX3_139 ⟨Nat.le_of_ble_eq_true rfl, Nat.le_of_ble_eq_true rfl⟩ (Nat.le_of_ble_eq_true rfl) dX3_act_278 ?_
      intro v40 S40
      exact h_iret X dX3_act_281
    have eh39 := tn_i (n := 15) h39 (by decide)
    refine h_ite (fun h41 => ?_) (fun h41 => ?_)
    · refine h_tIn (off := 226) (tgt := 282) X dX3_act_56 (by rw [h41]; decide) (by rw [h41]; decide) (by rw [h41]; rfl) (by decide) ?_
      refine h_aload_n X dX3_act_282 rfl rfl ?_
      refine h_iconst (v := (nI 0)) X dX3_act_283 (by decide) ?_
      refine h_iconst (v := (nI 1)) X dX3_act_284 (by decide) ?_
      refine h_aload_n X dX3_act_285 rfl rfl ?_
      refine c_g_WK_frames X fl3_40 dX3_act_286 ?_
      refine h_iload_n X dX3_act_289 rfl rfl ?_
      refine h_iconst (v := (nI 3)) X dX3_act_290 (by decide) ?_
      refine kt2_get_4 hsf X tlX3_84 ⟨Nat.le_of_ble_eq_true rfl, Nat.le_of_ble_eq_true rfl⟩ (Nat.le_of_ble_eq_true rfl) dX3_act_291 ?_
      intro v42 S42
      refine k3_takeAndPut hsf X tlX3_120 ⟨Nat.le_of_ble_eq_true rfl, Nat.le_of_ble_eq_true rfl⟩ (Nat.le_of_ble_eq_true rfl) dX3_act_294 ?_
      intro v43 S43
      exact h_iret X dX3_act_297
    have eh41 := tn_i (n := 16) h41 (by decide)
    refine h_ite (fun h44 => ?_) (fun h44 => ?_)
    · refine h_tIn (off := 242) (tgt := 298) X dX3_act_56 (by rw [h44]; decide) (by rw [h44]; decide) (by rw [h44]; rfl) (by decide) ?_
      refine h_aload_n X dX3_act_298 rfl rfl ?_
      refine h_iconst (v := (nI 0)) X dX3_act_299 (by decide) ?_
      refine h_aload_n X dX3_act_300 rfl rfl ?_
      refine c_g_WK_frames X fl3_40 dX3_act_301 ?_
      refine h_iload_n X dX3_act_304 rfl rfl ?_
      refine h_iconst (v := (nI 4)) X dX3_act_305 (by decide) ?_
      refine kt2_get_4 hsf X tlX3_84 ⟨Nat.le_of_ble_eq_true rfl, Nat.le_of_ble_eq_true rfl⟩ (Nat.le_of_ble_eq_true rfl) dX3_act_306 ?_
      intro v45 S45
      refine h_aload_n X dX3_act_309 rfl rfl ?_
      refine c_g_WK_frames X fl3_40 dX3_act_310 ?_
      refine h_iload_n X dX3_act_313 rfl rfl ?_
      refine h_iconst (v := (nI 5)) X dX3_act_314 (by decide) ?_
      refine kt2_get_4 hsf X tlX3_84 ⟨Nat.le_of_ble_eq_true rfl, Nat.le_of_ble_eq_true rfl⟩ (Nat.le_of_ble_eq_true rfl) dX3_act_315 ?_
      intro v46 S46
      refine k3_takeAndPut hsf X tlX3_120 ⟨Nat.le_of_ble_eq_true rfl, Nat.le_of_ble_eq_true rfl⟩ (Nat.le_of_ble_eq_true rfl) dX3_act_318 ?_
      intro v47 S47
      exact h_iret X dX3_act_321
    have eh44 := tn_i (n := 17) h44 (by decide)
    refine h_ite (fun h48 => ?_) (fun h48 => ?_)
    · refine h_tIn (off := 266) (tgt := 322) X dX3_act_56 (by rw [h48]; decide) (by rw [h48]; decide) (by rw [h48]; rfl) (by decide) ?_
      refine h_aload_n X dX3_act_322 rfl rfl ?_
      refine h_iconst (v := (nI 2)) X dX3_act_323 (by decide) ?_
      refine h_aload_n X dX3_act_324 rfl rfl ?_
      refine h_iconst (v := (nI 0)) X dX3_act_325 (by decide) ?_
      refine k3_kindAt hsf X tlX3_73 ⟨Nat.le_of_ble_eq_true rfl, Nat.le_of_ble_eq_true rfl⟩ (Nat.le_of_ble_eq_true rfl) dX3_act_326 ?_
      intro v49 S49
      refine h_aload_n X dX3_act_329 rfl rfl ?_
      refine h_iconst (v := (nI 0)) X dX3_act_330 (by decide) ?_
      refine k3_numberAt hsf X tlX3_76 ⟨Nat.le_of_ble_eq_true rfl, Nat.le_of_ble_eq_true rfl⟩ (Nat.le_of_ble_eq_true rfl) dX3_act_331 ?_
      intro v50 S50
      refine k3_takeAndPut hsf X tlX3_120 ⟨Nat.le_of_ble_eq_true rfl, Nat.le_of_ble_eq_true rfl⟩ (Nat.le_of_ble_eq_true rfl) dX3_act_334 ?_
      intro v51 S51
      exact h_iret X dX3_act_337
    have eh48 := tn_i (n := 18) h48 (by decide)
    refine h_tOut (tgt := 338) X dX3_act_56 (by omega) (by decide) ?_
    refine h_aload_n X dX3_act_338 rfl rfl ?_
    refine h_iload X dX3_act_339 rfl ?_
    refine k3_reckon hsf X tlX3_142 ⟨Nat.le_of_ble_eq_true rfl, Nat.le_of_ble_eq_true rfl⟩ (Nat.le_of_ble_eq_true rfl) dX3_act_341 ?_
    intro v52 S52
    exact h_iret X dX3_act_344
theorem mo3_act (n : Nat) (x1 : Int32) (S : CS) : mo S (f3_act n x1 S) := by
    unfold f3_act
    refine m_bT (mo2_get _ _ _ _) (fun v1 S1 => ?_)
    refine m_bT (mo2_get _ _ _ _) (fun v2 S2 => ?_)
    refine m_bnd (mo3_codeAt _ _ _ _) (fun v3 S3 => ?_)
    refine m_bnd (mo3_codeAt _ _ _ _) (fun v4 S4 => ?_)
    refine m_bnd (mo1_sizeOf _ _ _) (fun v5 S5 => ?_)
    refine m_bT (mo2_set _ _ _ _ _) (fun v6 S6 => ?_)
    refine m_ite ?_ ?_
    · refine m_bnd (mo3_takeAndPut _ _ _ _ _) (fun v8 S8 => ?_)
      exact m_some
    refine m_ite ?_ ?_
    · refine m_bT (mo2_get _ _ _ _) (fun v10 S10 => ?_)
      refine m_bT (mo2_get _ _ _ _) (fun v11 S11 => ?_)
      refine m_bnd (mo3_takeAndPut _ _ _ _ _) (fun v12 S12 => ?_)
      exact m_some
    refine m_ite ?_ ?_
    · refine m_bnd (mo3_make _ _ _) (fun v14 S14 => ?_)
      exact m_some
    refine m_ite ?_ ?_
    · refine m_bnd (mo3_isLastOf _ _ _) (fun v16 S16 => ?_)
      refine m_ite ?_ ?_
      · exact mw3_act_b213 n (nI 1) (nI 0) (nI 0) S16
      · exact mw3_act_b213 n (nI 1) (nI 0) (nI 1) S16
    refine m_ite ?_ ?_
    · refine m_bnd (mo3_isLastOf _ _ _) (fun v18 S18 => ?_)
      refine m_ite ?_ ?_
      · exact m_some
      · exact m_some
    refine m_ite ?_ ?_
    · refine m_bnd (mo3_readField _ _ _) (fun v20 S20 => ?_)
      exact m_some
    refine m_ite ?_ ?_
    · refine m_bnd (mo3_writeField _ _ _) (fun v22 S22 => ?_)
      exact m_some
    refine m_ite ?_ ?_
    · refine m_bnd (mo3_callMethod _ _ _) (fun v24 S24 => ?_)
      exact m_some
    refine m_ite ?_ ?_
    · refine m_bnd (mo3_reckon _ _ _) (fun v26 S26 => ?_)
      exact m_some
    refine m_ite ?_ ?_
    · refine m_bnd (mo3_reckon _ _ _) (fun v28 S28 => ?_)
      exact m_some
    refine m_ite ?_ ?_
    · refine m_bnd (mo3_reckon _ _ _) (fun v30 S30 => ?_)
      exact m_some
    refine m_ite ?_ ?_
    · refine m_bnd (mo3_reckon _ _ _) (fun v32 S32 => ?_)
      exact m_some
    refine m_ite ?_ ?_
    · refine m_bnd (mo3_reckon _ _ _) (fun v34 S34 => ?_)
      exact m_some
    refine m_ite ?_ ?_
    · refine m_bnd (mo3_isSame _ _) (fun v36 S36 => ?_)
      refine m_ite ?_ ?_
      · exact mw3_act_b268 n (nI 2) (nI 0) (nI 0) S36
      · exact mw3_act_b268 n (nI 2) (nI 0) (nI 1) S36
    refine m_ite ?_ ?_
    · refine m_bnd (mo3_choose _ _) (fun v38 S38 => ?_)
      exact m_some
    refine m_ite ?_ ?_
    · refine m_bnd (mo3_write _ _) (fun v40 S40 => ?_)
      exact m_some
    refine m_ite ?_ ?_
    · refine m_bT (mo2_get _ _ _ _) (fun v42 S42 => ?_)
      refine m_bnd (mo3_takeAndPut _ _ _ _ _) (fun v43 S43 => ?_)
      exact m_some
    refine m_ite ?_ ?_
    · refine m_bT (mo2_get _ _ _ _) (fun v45 S45 => ?_)
      refine m_bT (mo2_get _ _ _ _) (fun v46 S46 => ?_)
      refine m_bnd (mo3_takeAndPut _ _ _ _ _) (fun v47 S47 => ?_)
      exact m_some
    refine m_ite ?_ ?_
    · refine m_bnd (mo3_kindAt _ _ _) (fun v49 S49 => ?_)
      refine m_bnd (mo3_numberAt _ _ _) (fun v50 S50 => ?_)
      refine m_bnd (mo3_takeAndPut _ _ _ _ _) (fun v51 S51 => ?_)
      exact m_some
    refine m_bnd (mo3_reckon _ _ _) (fun v52 S52 => ?_)
    exact m_some
theorem c3_act (hsf : sfOk (SF tk)) (l : Launch) (D : va_G) (cI : ClassId) (q : Nat → Nat) (n : Nat) (x1 : Int32) (S : CS) : MetW l D (tyC cI) (SF tk) (wC cI q) yX3_act cX3_act 6 (some .int) 5 118 QWi [.ref (q 52), .int x1] S (f3_act n x1 S) := by
  refine MetW.of (own := RX3) (by decide) rfl (Nat.le_of_ble_eq_true rfl) (mo3_act n x1 S) ?_
  intro x p e s m args below meth c X
  refine h_pick (lv' := [(0, .ref (q 52)), (1, .int x1)]) [0, 1] rfl ?_
  exact h_close (w3_act hsf X n x1 S)
theorem tc3_act : Cond.code yX3_act cX3_act 6 (some .int) ∈ tt := tt_in (List.mem_of_getElem? (i := 532) (by decide +kernel)) (by decide +kernel)
theorem ti3_act : Cond.instanceMethod yX3_act ∈ tt := tt_in (List.mem_of_getElem? (i := 531) (by decide +kernel)) (by decide +kernel)
theorem te3_act : Cond.selects RX3 yX3_act yX3_act ∈ tt := tt_in (List.mem_of_getElem? (i := 22) (by decide +kernel)) (by decide +kernel)
theorem k3_act (hsf : sfOk (SF tk)) (X : hX p s m args meth c cc nL own rt D (tyC cI) (SF tk) A) {n : Nat} {x1 : Int32} {ix : Nat} (hlk : Cond.methodLink own ix yX3_act ∈ tt) {rest : List Value} {K : Int32 → CS → Option (ρ × CS)} (hR : 5 + 1 ≤ fr ∧ 8 + (6 + 11) + 118 ≤ lo) (hcat : (rest.map fun v => v.category).sum ≤ 8) (d : decode cc pc = .ok (.invokevirtual ix, 3)) (kk : ∀ v S1, hG p l e (fun r => rmC fr lo (cS r.2 - cS S0) (sS r.2 - sS S0)) s m args below meth c nL (ZW D (wC cI q) A s.heap S0 S1) (cS S1 - cS S0) (sS S1 - sS S0) QQ (fun r => le S1 r.2) (pc + 3) lv (.int v :: rest) (K v S1)) : hG p l e (fun r => rmC fr lo (cS r.2 - cS S0) (sS r.2 - sS S0)) s m args below meth c nL (ZW D (wC cI q) A s.heap S0 S) (cS S - cS S0) (sS S - sS S0) QQ (fun r => le S r.2) pc lv (.int x1 :: .ref (q 52) :: rest) (bnd (f3_act n x1 S) K) := h_callVi (As := [.int x1]) (b := q 52) (C := RX3) hsf X (c3_act hsf l D cI q n x1 S) (cwVC (k := 1) X.1.2.2.2.2.1 hlk ti3_act te3_act tc3_act ini_3 (by decide +kernel) hR) (fun x H h1 h2 => va_recv h1 h2 (ci := 3) (q0 := 7) rfl rfl) rfl rfl hcat d kk
-- X3.work
theorem kcX3_79 : Cond.constant RX3 79 (nI 1000000) ∈ tt := tt_in (List.mem_of_getElem? (i := 486) (by decide +kernel)) (by decide +kernel)
theorem tlX3_91 : Cond.methodLink RX3 91 yX3_breakStarts ∈ tt := tt_in (List.mem_of_getElem? (i := 525) (by decide +kernel)) (by decide +kernel)
def f3_work_b101 (n : Nat) (k11 : Int32 → CS → Option (Int32 × CS)) (x1 : Int32) (x2 : Int32) (S : CS) : Option (Int32 × CS) :=
    if x2 = 0 then
      (k11 (x1 + (nI 1)) S)
    else
      (bnd (f3_breakStarts n S) fun v1 S1 =>
      if v1 = 0 then
        (cp S1 17 x2 fun S2 =>
        some ((nI 1), S2))
      else
        (cp S1 17 (nI 6) fun S3 =>
        some ((nI 1), S3)))
theorem mw3_work_b101 (n : Nat) (k11 : Int32 → CS → Option (Int32 × CS)) (mhk11 : ∀ (x1 : Int32) (S : CS), mo S (k11 x1 S)) (x1 : Int32) (x2 : Int32) (S : CS) : mo S (f3_work_b101 n k11 x1 x2 S) := by
  unfold f3_work_b101
  refine m_ite ?_ ?_
  · exact mhk11 (x1 + (nI 1)) S
  · refine m_bnd (mo3_breakStarts _ _) (fun v1 S1 => ?_)
    refine m_ite ?_ ?_
    · refine m_cp (fun S2 => ?_)
      exact m_some
    · refine m_cp (fun S3 => ?_)
      exact m_some
theorem w3_work_b101 (hsf : sfOk (SF tk)) (X : hX p s m args meth c cX3_work 4 RX3 (some .int) D (tyC cI) (SF tk) A) (n : Nat) (k11 : Int32 → CS → Option (Int32 × CS)) (hk11 : ∀ (x1 : Int32) (S : CS), hG p l e (fun r => rmC 6 143 (cS r.2 - cS S0) (sS r.2 - sS S0)) s m args below meth c 4 (ZW D (wC cI q) A s.heap S0 S) (cS S - cS S0) (sS S - sS S0) (fun r => MQ below (QWi D (tyC cI) (wC cI q) A r) args s (cS r.2 - cS S0) (sS r.2 - sS S0) A) (fun r => le S r.2) 11 [(0, .ref (q 52)), (1, .int x1)] [] (k11 x1 S)) (x1 : Int32) (x2 : Int32) (S : CS) : hG p l e (fun r => rmC 6 143 (cS r.2 - cS S0) (sS r.2 - sS S0)) s m args below meth c 4 (ZW D (wC cI q) A s.heap S0 S) (cS S - cS S0) (sS S - sS S0) (fun r => MQ below (QWi D (tyC cI) (wC cI q) A r) args s (cS r.2 - cS S0) (sS r.2 - sS S0) A) (fun r => le S r.2) 101 [(0, .ref (q 52)), (1, .int x1), (2, .int x2)] [] (f3_work_b101 n k11 x1 x2 S) := by
  unfold f3_work_b101
  refine h_iload_n X dX3_work_101 rfl rfl ?_
  refine h_if_eq (tgt := 124) X dX3_work_102 (by decide) ?_ ?_
  · refine h_iinc (v := (nI 1)) (lv' := [(1, .int (x1 + (nI 1))), (0, .ref (q 52)), (2, .int x2)]) X dX3_work_124 rfl (by decide) (by decide) rfl ?_
    refine h_goto (tgt := 11) X dX3_work_127 (by decide) ?_
    exact h_pick [1, 0] rfl (hk11 (x1 + (nI 1)) S)
  · refine h_aload_n X dX3_work_105 rfl rfl ?_
    refine h_aload_n X dX3_work_106 rfl rfl ?_
    refine k3_breakStarts hsf X tlX3_91 ⟨Nat.le_of_ble_eq_true rfl, Nat.le_of_ble_eq_true rfl⟩ (Nat.le_of_ble_eq_true rfl) dX3_work_107 ?_
    intro v1 S1
    refine h_if_eq (tgt := 118) X dX3_work_110 (by decide) ?_ ?_
    · refine h_iload_n X dX3_work_118 rfl rfl ?_
      refine c_p_WK_failure X fl3_34 dX3_work_119 ?_
      intro S2
      refine h_iconst (v := (nI 1)) X dX3_work_122 (by decide) ?_
      exact h_iret X dX3_work_123
    · refine h_bipush (v := (nI 6)) X dX3_work_113 (by decide) ?_
      refine h_goto (tgt := 119) X dX3_work_115 (by decide) ?_
      refine c_p_WK_failure X fl3_34 dX3_work_119 ?_
      intro S3
      refine h_iconst (v := (nI 1)) X dX3_work_122 (by decide) ?_
      exact h_iret X dX3_work_123
theorem tlX3_95 : Cond.methodLink RX3 95 yX3_act ∈ tt := tt_in (List.mem_of_getElem? (i := 529) (by decide +kernel)) (by decide +kernel)
theorem tlX3_88 : Cond.methodLink RX3 88 yX3_closeFrame ∈ tt := tt_in (List.mem_of_getElem? (i := 489) (by decide +kernel)) (by decide +kernel)
def f3_work_l11 (n : Nat) : Nat → Int32 → CS → Option (Int32 × CS)
  | 0, _, _ => none
  | k + 1, x1, S => if (nI 1000000) ≤ x1 then
      (some ((nI 0), S))
    else
      (bT 4 S (f2_size n (tOf 4 S)) fun v1 S1 =>
      if v1 ≤ 0 then
        (some ((nI 0), S1))
      else
        (bT 4 S1 (f2_size n (tOf 4 S1)) fun v2 S2 =>
        bT 4 S2 (f2_get n (v2 - (nI 1)) (nI 1) (tOf 4 S2)) fun v3 S3 =>
        bT 4 S3 (f2_get n (v2 - (nI 1)) (nI 2) (tOf 4 S3)) fun v4 S4 =>
        if v3 < v4 then
          (cg S4 16 fun v5 =>
          if v5 < (nI 1000) then
            (cg S4 16 fun v6 =>
            cp S4 16 (v6 + (nI 1)) fun S7 =>
            bnd (f3_act n (v2 - (nI 1)) S7) fun v8 S8 =>
            f3_work_b101 n (f3_work_l11 n k) x1 v8 S8)
          else
            (bnd (f3_breakStarts n S4) fun v9 S9 =>
            some ((nI 2), S9)))
        else
          (bnd (f3_closeFrame n S4) fun v10 S10 =>
          f3_work_b101 n (f3_work_l11 n k) x1 v10 S10)))
theorem mw3_work_l11 (n : Nat) : ∀ (k : Nat) (x1 : Int32) (S : CS), mo S (f3_work_l11 n k x1 S) := by
  intro k
  induction k with
  | zero =>
    intro x1 S
    exact m_none
  | succ k ih =>
    intro x1 S
    rw [f3_work_l11]
    refine m_ite ?_ ?_
    · exact m_some
    · refine m_bT (mo2_size _ _) (fun v1 S1 => ?_)
      refine m_ite ?_ ?_
      · exact m_some
      · refine m_bT (mo2_size _ _) (fun v2 S2 => ?_)
        refine m_bT (mo2_get _ _ _ _) (fun v3 S3 => ?_)
        refine m_bT (mo2_get _ _ _ _) (fun v4 S4 => ?_)
        refine m_ite ?_ ?_
        · refine m_cg (fun v5 => ?_)
          refine m_ite ?_ ?_
          · refine m_cg (fun v6 => ?_)
            refine m_cp (fun S7 => ?_)
            refine m_bnd (mo3_act _ _ _) (fun v8 S8 => ?_)
            exact mw3_work_b101 n (f3_work_l11 n k) ih x1 v8 S8
          · refine m_bnd (mo3_breakStarts _ _) (fun v9 S9 => ?_)
            exact m_some
        · refine m_bnd (mo3_closeFrame _ _) (fun v10 S10 => ?_)
          exact mw3_work_b101 n (f3_work_l11 n k) ih x1 v10 S10
theorem w3_work_l11 (hsf : sfOk (SF tk)) (X : hX p s m args meth c cX3_work 4 RX3 (some .int) D (tyC cI) (SF tk) A) (n : Nat) : ∀ (k : Nat) (x1 : Int32) (S : CS), hG p l e (fun r => rmC 6 143 (cS r.2 - cS S0) (sS r.2 - sS S0)) s m args below meth c 4 (ZW D (wC cI q) A s.heap S0 S) (cS S - cS S0) (sS S - sS S0) (fun r => MQ below (QWi D (tyC cI) (wC cI q) A r) args s (cS r.2 - cS S0) (sS r.2 - sS S0) A) (fun r => le S r.2) 11 [(0, .ref (q 52)), (1, .int x1)] [] (f3_work_l11 n k x1 S) := by
  intro k
  induction k with
  | zero =>
    intro x1 S
    exact h_none
  | succ k ih =>
    intro x1 S
    rw [f3_work_l11]
    refine h_iload_n X dX3_work_11 rfl rfl ?_
    refine h_ldc (v := (nI 1000000)) X kcX3_79 dX3_work_12 ?_
    refine h_icmp_ge (tgt := 130) X dX3_work_14 (by decide) ?_ ?_
    · refine h_iconst (v := (nI 0)) X dX3_work_130 (by decide) ?_
      exact h_iret X dX3_work_131
    · refine h_aload_n X dX3_work_17 rfl rfl ?_
      refine c_g_WK_frames X fl3_40 dX3_work_18 ?_
      refine kt2_size_4 hsf X tlX3_80 ⟨Nat.le_of_ble_eq_true rfl, Nat.le_of_ble_eq_true rfl⟩ (Nat.le_of_ble_eq_true rfl) dX3_work_21 ?_
      intro v1 S1
      refine h_if_le (tgt := 130) X dX3_work_24 (by decide) ?_ ?_
      · refine h_iconst (v := (nI 0)) X dX3_work_130 (by decide) ?_
        exact h_iret X dX3_work_131
      · refine h_iconst (v := (nI 0)) X dX3_work_27 (by decide) ?_
        refine h_istore_n (lv' := [(2, .int (nI 0)), (0, .ref (q 52)), (1, .int x1)]) X dX3_work_28 rfl (by decide) rfl ?_
        refine h_aload_n X dX3_work_29 rfl rfl ?_
        refine c_g_WK_frames X fl3_40 dX3_work_30 ?_
        refine kt2_size_4 hsf X tlX3_80 ⟨Nat.le_of_ble_eq_true rfl, Nat.le_of_ble_eq_true rfl⟩ (Nat.le_of_ble_eq_true rfl) dX3_work_33 ?_
        intro v2 S2
        refine h_iconst (v := (nI 1)) X dX3_work_36 (by decide) ?_
        refine h_isub X dX3_work_37 ?_
        refine h_istore_n (lv' := [(3, .int (v2 - (nI 1))), (2, .int (nI 0)), (0, .ref (q 52)), (1, .int x1)]) X dX3_work_38 rfl (by decide) rfl ?_
        refine h_aload_n X dX3_work_39 rfl rfl ?_
        refine c_g_WK_frames X fl3_40 dX3_work_40 ?_
        refine h_iload_n X dX3_work_43 rfl rfl ?_
        refine h_iconst (v := (nI 1)) X dX3_work_44 (by decide) ?_
        refine kt2_get_4 hsf X tlX3_84 ⟨Nat.le_of_ble_eq_true rfl, Nat.le_of_ble_eq_true rfl⟩ (Nat.le_of_ble_eq_true rfl) dX3_work_45 ?_
        intro v3 S3
        refine h_aload_n X dX3_work_48 rfl rfl ?_
        refine c_g_WK_frames X fl3_40 dX3_work_49 ?_
        refine h_iload_n X dX3_work_52 rfl rfl ?_
        refine h_iconst (v := (nI 2)) X dX3_work_53 (by decide) ?_
        refine kt2_get_4 hsf X tlX3_84 ⟨Nat.le_of_ble_eq_true rfl, Nat.le_of_ble_eq_true rfl⟩ (Nat.le_of_ble_eq_true rfl) dX3_work_54 ?_
        intro v4 S4
        refine h_icmp_lt (tgt := 68) X dX3_work_57 (by decide) ?_ ?_
        · refine h_aload_n X dX3_work_68 rfl rfl ?_
          refine c_g_WK_steps X fl3_31 dX3_work_69 ?_
          intro v5
          refine h_sipush (v := (nI 1000)) X dX3_work_72 (by decide) ?_
          refine h_icmp_lt (tgt := 85) X dX3_work_75 (by decide) ?_ ?_
          · refine h_aload_n X dX3_work_85 rfl rfl ?_
            refine h_dup X dX3_work_86 rfl ?_
            refine c_g_WK_steps X fl3_31 dX3_work_87 ?_
            intro v6
            refine h_iconst (v := (nI 1)) X dX3_work_90 (by decide) ?_
            refine h_iadd X dX3_work_91 ?_
            refine c_p_WK_steps X fl3_31 dX3_work_92 ?_
            intro S7
            refine h_aload_n X dX3_work_95 rfl rfl ?_
            refine h_iload_n X dX3_work_96 rfl rfl ?_
            refine k3_act hsf X tlX3_95 ⟨Nat.le_of_ble_eq_true rfl, Nat.le_of_ble_eq_true rfl⟩ (Nat.le_of_ble_eq_true rfl) dX3_work_97 ?_
            intro v8 S8
            refine h_istore_n (lv' := [(2, .int v8), (3, .int (v2 - (nI 1))), (0, .ref (q 52)), (1, .int x1)]) X dX3_work_100 rfl (by decide) rfl ?_
            exact h_pick [2, 3, 0] rfl (w3_work_b101 hsf X n (f3_work_l11 n k) ih x1 v8 S8)
          · refine h_aload_n X dX3_work_78 rfl rfl ?_
            refine k3_breakStarts hsf X tlX3_91 ⟨Nat.le_of_ble_eq_true rfl, Nat.le_of_ble_eq_true rfl⟩ (Nat.le_of_ble_eq_true rfl) dX3_work_79 ?_
            intro v9 S9
            refine h_pop X dX3_work_82 rfl ?_
            refine h_iconst (v := (nI 2)) X dX3_work_83 (by decide) ?_
            exact h_iret X dX3_work_84
        · refine h_aload_n X dX3_work_60 rfl rfl ?_
          refine k3_closeFrame hsf X tlX3_88 ⟨Nat.le_of_ble_eq_true rfl, Nat.le_of_ble_eq_true rfl⟩ (Nat.le_of_ble_eq_true rfl) dX3_work_61 ?_
          intro v10 S10
          refine h_istore_n (lv' := [(2, .int v10), (3, .int (v2 - (nI 1))), (0, .ref (q 52)), (1, .int x1)]) X dX3_work_64 rfl (by decide) rfl ?_
          refine h_goto (tgt := 101) X dX3_work_65 (by decide) ?_
          exact h_pick [2, 3, 0] rfl (w3_work_b101 hsf X n (f3_work_l11 n k) ih x1 v10 S10)
def f3_work (n : Nat) (S : CS) : Option (Int32 × CS) :=
    cg S 17 fun v1 =>
    if v1 = 0 then (f3_work_l11 n n (nI 0) S) else (some ((nI 1), S))
theorem w3_work (hsf : sfOk (SF tk)) (X : hX p s m args meth c cX3_work 4 RX3 (some .int) D (tyC cI) (SF tk) A) {S0 : CS} (n : Nat) (S : CS) : hG p l e (fun r => rmC 6 143 (cS r.2 - cS S0) (sS r.2 - sS S0)) s m args below meth c 4 (ZW D (wC cI q) A s.heap S0 S) (cS S - cS S0) (sS S - sS S0) (fun r => MQ below (QWi D (tyC cI) (wC cI q) A r) args s (cS r.2 - cS S0) (sS r.2 - sS S0) A) (fun r => le S r.2) 0 [(0, .ref (q 52))] [] (f3_work n S) := by
    unfold f3_work
    refine h_aload_n X dX3_work_0 rfl rfl ?_
    refine c_g_WK_failure X fl3_34 dX3_work_1 ?_
    intro v1
    refine h_if_eq (tgt := 9) X dX3_work_4 (by decide) ?_ ?_
    · refine h_iconst (v := (nI 0)) X dX3_work_9 (by decide) ?_
      refine h_istore_n (lv' := [(1, .int (nI 0)), (0, .ref (q 52))]) X dX3_work_10 rfl (by decide) rfl ?_
      exact h_pick [1, 0] rfl (w3_work_l11 hsf X n n (nI 0) S)
    · refine h_iconst (v := (nI 1)) X dX3_work_7 (by decide) ?_
      exact h_iret X dX3_work_8
theorem mo3_work (n : Nat) (S : CS) : mo S (f3_work n S) := by
    unfold f3_work
    refine m_cg (fun v1 => ?_)
    refine m_ite ?_ ?_
    · exact mw3_work_l11 n n (nI 0) S
    · exact m_some
theorem c3_work (hsf : sfOk (SF tk)) (l : Launch) (D : va_G) (cI : ClassId) (q : Nat → Nat) (n : Nat) (S : CS) : MetW l D (tyC cI) (SF tk) (wC cI q) yX3_work cX3_work 4 (some .int) 6 143 QWi [.ref (q 52)] S (f3_work n S) := by
  refine MetW.of (own := RX3) (by decide) rfl (Nat.le_of_ble_eq_true rfl) (mo3_work n S) ?_
  intro x p e s m args below meth c X
  refine h_pick (lv' := [(0, .ref (q 52))]) [0] rfl ?_
  exact h_close (w3_work hsf X n S)
theorem tc3_work : Cond.code yX3_work cX3_work 4 (some .int) ∈ tt := tt_in (List.mem_of_getElem? (i := 485) (by decide +kernel)) (by decide +kernel)
theorem ti3_work : Cond.instanceMethod yX3_work ∈ tt := tt_in (List.mem_of_getElem? (i := 483) (by decide +kernel)) (by decide +kernel)
theorem te3_work : Cond.selects RX3 yX3_work yX3_work ∈ tt := tt_in (List.mem_of_getElem? (i := 484) (by decide +kernel)) (by decide +kernel)
theorem k3_work (hsf : sfOk (SF tk)) (X : hX p s m args meth c cc nL own rt D (tyC cI) (SF tk) A) {n : Nat} {ix : Nat} (hlk : Cond.methodLink own ix yX3_work ∈ tt) {rest : List Value} {K : Int32 → CS → Option (ρ × CS)} (hR : 6 + 1 ≤ fr ∧ 8 + (4 + 11) + 143 ≤ lo) (hcat : (rest.map fun v => v.category).sum ≤ 8) (d : decode cc pc = .ok (.invokevirtual ix, 3)) (kk : ∀ v S1, hG p l e (fun r => rmC fr lo (cS r.2 - cS S0) (sS r.2 - sS S0)) s m args below meth c nL (ZW D (wC cI q) A s.heap S0 S1) (cS S1 - cS S0) (sS S1 - sS S0) QQ (fun r => le S1 r.2) (pc + 3) lv (.int v :: rest) (K v S1)) : hG p l e (fun r => rmC fr lo (cS r.2 - cS S0) (sS r.2 - sS S0)) s m args below meth c nL (ZW D (wC cI q) A s.heap S0 S) (cS S - cS S0) (sS S - sS S0) QQ (fun r => le S r.2) pc lv (.ref (q 52) :: rest) (bnd (f3_work n S) K) := h_callVi (As := []) (b := q 52) (C := RX3) hsf X (c3_work hsf l D cI q n S) (cwVC (k := 0) X.1.2.2.2.2.1 hlk ti3_work te3_work tc3_work ini_3 (by decide +kernel) hR) (fun x H h1 h2 => va_recv h1 h2 (ci := 3) (q0 := 7) rfl rfl) rfl rfl hcat d kk
-- X4.putOne
def f4_putOne (n : Nat) (x1 : Int32) (S : CS) : Option (Int32 × CS) :=
    cg S 1 fun v1 =>
    if v1 < 0 then
      (some (0, S))
    else
      (cg S 1 fun v2 =>
      if (nI 60) ≤ v2 then
        (some (0, S))
      else
        (cg S 1 fun v3 =>
        cw S 0 60 v3 x1 fun S4 =>
        cg S4 1 fun v5 =>
        cp S4 1 (v5 + (nI 1)) fun S6 =>
        some (0, S6)))
theorem w4_putOne (hsf : sfOk (SF tk)) (X : hX p s m args meth c cX4_putOne 2 RX4 none D (tyC cI) (SF tk) A) {S0 : CS} (n : Nat) (x1 : Int32) (S : CS) : hG p l e (fun r => rmC 0 0 (cS r.2 - cS S0) (sS r.2 - sS S0)) s m args below meth c 2 (ZW D (wC cI q) A s.heap S0 S) (cS S - cS S0) (sS S - sS S0) (fun r => MQ below (QWv D (tyC cI) (wC cI q) A r) args s (cS r.2 - cS S0) (sS r.2 - sS S0) A) (fun r => le S r.2) 0 [(0, .ref (q 50)), (1, .int x1)] [] (f4_putOne n x1 S) := by
    unfold f4_putOne
    refine h_aload_n X dX4_putOne_0 rfl rfl ?_
    refine c_g_B_onTape X fl4_13 dX4_putOne_1 ?_
    intro v1
    refine h_if_lt (tgt := 36) X dX4_putOne_4 (by decide) ?_ ?_
    · exact h_vret X dX4_putOne_36
    · refine h_aload_n X dX4_putOne_7 rfl rfl ?_
      refine c_g_B_onTape X fl4_13 dX4_putOne_8 ?_
      intro v2
      refine h_bipush (v := (nI 60)) X dX4_putOne_11 (by decide) ?_
      refine h_icmp_ge (tgt := 36) X dX4_putOne_13 (by decide) ?_ ?_
      · exact h_vret X dX4_putOne_36
      · refine h_aload_n X dX4_putOne_16 rfl rfl ?_
        refine c_g_B_tape X fl4_9 dX4_putOne_17 ?_
        refine h_aload_n X dX4_putOne_20 rfl rfl ?_
        refine c_g_B_onTape X fl4_13 dX4_putOne_21 ?_
        intro v3
        refine h_iload_n X dX4_putOne_24 rfl rfl ?_
        refine c_s_0 X dX4_putOne_25 ?_
        intro S4
        refine h_aload_n X dX4_putOne_26 rfl rfl ?_
        refine h_dup X dX4_putOne_27 rfl ?_
        refine c_g_B_onTape X fl4_13 dX4_putOne_28 ?_
        intro v5
        refine h_iconst (v := (nI 1)) X dX4_putOne_31 (by decide) ?_
        refine h_iadd X dX4_putOne_32 ?_
        refine c_p_B_onTape X fl4_13 dX4_putOne_33 ?_
        intro S6
        exact h_vret X dX4_putOne_36
theorem mo4_putOne (n : Nat) (x1 : Int32) (S : CS) : mo S (f4_putOne n x1 S) := by
    unfold f4_putOne
    refine m_cg (fun v1 => ?_)
    refine m_ite ?_ ?_
    · exact m_some
    · refine m_cg (fun v2 => ?_)
      refine m_ite ?_ ?_
      · exact m_some
      · refine m_cg (fun v3 => ?_)
        refine m_cw (fun S4 => ?_)
        refine m_cg (fun v5 => ?_)
        refine m_cp (fun S6 => ?_)
        exact m_some
theorem c4_putOne (hsf : sfOk (SF tk)) (l : Launch) (D : va_G) (cI : ClassId) (q : Nat → Nat) (n : Nat) (x1 : Int32) (S : CS) : MetW l D (tyC cI) (SF tk) (wC cI q) yX4_putOne cX4_putOne 2 none 0 0 QWv [.ref (q 50), .int x1] S (f4_putOne n x1 S) := by
  refine MetW.of (own := RX4) (by decide) rfl (Nat.le_of_ble_eq_true rfl) (mo4_putOne n x1 S) ?_
  intro x p e s m args below meth c X
  refine h_pick (lv' := [(0, .ref (q 50)), (1, .int x1)]) [0, 1] rfl ?_
  exact h_close (w4_putOne hsf X n x1 S)
theorem tc4_putOne : Cond.code yX4_putOne cX4_putOne 2 none ∈ tt := tt_in (List.mem_of_getElem? (i := 282) (by decide +kernel)) (by decide +kernel)
theorem ti4_putOne : Cond.instanceMethod yX4_putOne ∈ tt := tt_in (List.mem_of_getElem? (i := 281) (by decide +kernel)) (by decide +kernel)
theorem te4_putOne : Cond.selects RX4 yX4_putOne yX4_putOne ∈ tt := tt_in (List.mem_of_getElem? (i := 0) (by decide +kernel)) (by decide +kernel)
theorem k4_putOne (hsf : sfOk (SF tk)) (X : hX p s m args meth c cc nL own rt D (tyC cI) (SF tk) A) {n : Nat} {x1 : Int32} {ix : Nat} (hlk : Cond.methodLink own ix yX4_putOne ∈ tt) {rest : List Value} {K : Int32 → CS → Option (ρ × CS)} (hR : 0 + 1 ≤ fr ∧ 8 + (2 + 11) + 0 ≤ lo) (hcat : (rest.map fun v => v.category).sum ≤ 8) (d : decode cc pc = .ok (.invokevirtual ix, 3)) (kk : ∀ v S1, hG p l e (fun r => rmC fr lo (cS r.2 - cS S0) (sS r.2 - sS S0)) s m args below meth c nL (ZW D (wC cI q) A s.heap S0 S1) (cS S1 - cS S0) (sS S1 - sS S0) QQ (fun r => le S1 r.2) (pc + 3) lv rest (K v S1)) : hG p l e (fun r => rmC fr lo (cS r.2 - cS S0) (sS r.2 - sS S0)) s m args below meth c nL (ZW D (wC cI q) A s.heap S0 S) (cS S - cS S0) (sS S - sS S0) QQ (fun r => le S r.2) pc lv (.int x1 :: .ref (q 50) :: rest) (bnd (f4_putOne n x1 S) K) := h_callVv (As := [.int x1]) (b := q 50) (C := RX4) hsf X (c4_putOne hsf l D cI q n x1 S) (cwVC (k := 1) X.1.2.2.2.2.1 hlk ti4_putOne te4_putOne tc4_putOne ini_4 (by decide +kernel) hR) (fun x H h1 h2 => va_recv h1 h2 (ci := 4) (q0 := 0) rfl rfl) rfl rfl hcat d kk
-- X4.put
theorem tlX4_56 : Cond.methodLink RX4 56 yX4_putOne ∈ tt := tt_in (List.mem_of_getElem? (i := 279) (by decide +kernel)) (by decide +kernel)
def f4_put_b52 (n : Nat) (x1 : Int32) (x5 : Int32) (S : CS) : Option (Int32 × CS) :=
    if x1 ≤ (nI 3) then
      (cg S 1 fun v1 =>
      some (v1, S))
    else
      (bnd (f4_putOne n x5 S) fun _ S2 =>
      cg S2 1 fun v3 =>
      some (v3, S2))
theorem mw4_put_b52 (n : Nat) (x1 : Int32) (x5 : Int32) (S : CS) : mo S (f4_put_b52 n x1 x5 S) := by
  unfold f4_put_b52
  refine m_ite ?_ ?_
  · refine m_cg (fun v1 => ?_)
    exact m_some
  · refine m_bnd (mo4_putOne _ _ _) (fun v2 S2 => ?_)
    refine m_cg (fun v3 => ?_)
    exact m_some
theorem w4_put_b52 (hsf : sfOk (SF tk)) (X : hX p s m args meth c cX4_put 6 RX4 (some .int) D (tyC cI) (SF tk) A) (n : Nat) (x1 : Int32) (x5 : Int32) (S : CS) : hG p l e (fun r => rmC 1 21 (cS r.2 - cS S0) (sS r.2 - sS S0)) s m args below meth c 6 (ZW D (wC cI q) A s.heap S0 S) (cS S - cS S0) (sS S - sS S0) (fun r => MQ below (QWi D (tyC cI) (wC cI q) A r) args s (cS r.2 - cS S0) (sS r.2 - sS S0) A) (fun r => le S r.2) 52 [(0, .ref (q 50)), (1, .int x1), (5, .int x5)] [] (f4_put_b52 n x1 x5 S) := by
  unfold f4_put_b52
  refine h_iload_n X dX4_put_52 rfl rfl ?_
  refine h_iconst (v := (nI 3)) X dX4_put_53 (by decide) ?_
  refine h_icmp_le (tgt := 63) X dX4_put_54 (by decide) ?_ ?_
  · refine h_aload_n X dX4_put_63 rfl rfl ?_
    refine c_g_B_onTape X fl4_13 dX4_put_64 ?_
    intro v1
    exact h_iret X dX4_put_67
  · refine h_aload_n X dX4_put_57 rfl rfl ?_
    refine h_iload X dX4_put_58 rfl ?_
    refine k4_putOne hsf X tlX4_56 ⟨Nat.le_of_ble_eq_true rfl, Nat.le_of_ble_eq_true rfl⟩ (Nat.le_of_ble_eq_true rfl) dX4_put_60 ?_
    intro v2 S2
    refine h_aload_n X dX4_put_63 rfl rfl ?_
    refine c_g_B_onTape X fl4_13 dX4_put_64 ?_
    intro v3
    exact h_iret X dX4_put_67
def f4_put_b41 (n : Nat) (x1 : Int32) (x4 : Int32) (x5 : Int32) (S : CS) : Option (Int32 × CS) :=
    if x1 ≤ (nI 2) then
      (f4_put_b52 n x1 x5 S)
    else
      (bnd (f4_putOne n x4 S) fun _ S1 =>
      f4_put_b52 n x1 x5 S1)
theorem mw4_put_b41 (n : Nat) (x1 : Int32) (x4 : Int32) (x5 : Int32) (S : CS) : mo S (f4_put_b41 n x1 x4 x5 S) := by
  unfold f4_put_b41
  refine m_ite ?_ ?_
  · exact mw4_put_b52 n x1 x5 S
  · refine m_bnd (mo4_putOne _ _ _) (fun v1 S1 => ?_)
    exact mw4_put_b52 n x1 x5 S1
theorem w4_put_b41 (hsf : sfOk (SF tk)) (X : hX p s m args meth c cX4_put 6 RX4 (some .int) D (tyC cI) (SF tk) A) (n : Nat) (x1 : Int32) (x4 : Int32) (x5 : Int32) (S : CS) : hG p l e (fun r => rmC 1 21 (cS r.2 - cS S0) (sS r.2 - sS S0)) s m args below meth c 6 (ZW D (wC cI q) A s.heap S0 S) (cS S - cS S0) (sS S - sS S0) (fun r => MQ below (QWi D (tyC cI) (wC cI q) A r) args s (cS r.2 - cS S0) (sS r.2 - sS S0) A) (fun r => le S r.2) 41 [(0, .ref (q 50)), (1, .int x1), (4, .int x4), (5, .int x5)] [] (f4_put_b41 n x1 x4 x5 S) := by
  unfold f4_put_b41
  refine h_iload_n X dX4_put_41 rfl rfl ?_
  refine h_iconst (v := (nI 2)) X dX4_put_42 (by decide) ?_
  refine h_icmp_le (tgt := 52) X dX4_put_43 (by decide) ?_ ?_
  · exact h_pick [0, 1, 3] rfl (w4_put_b52 hsf X n x1 x5 S)
  · refine h_aload_n X dX4_put_46 rfl rfl ?_
    refine h_iload X dX4_put_47 rfl ?_
    refine k4_putOne hsf X tlX4_56 ⟨Nat.le_of_ble_eq_true rfl, Nat.le_of_ble_eq_true rfl⟩ (Nat.le_of_ble_eq_true rfl) dX4_put_49 ?_
    intro v1 S1
    exact h_pick [0, 1, 3] rfl (w4_put_b52 hsf X n x1 x5 S1)
def f4_put (n : Nat) (x1 : Int32) (x2 : Int32) (x3 : Int32) (x4 : Int32) (x5 : Int32) (S : CS) : Option (Int32 × CS) :=
    if x1 < (nI 1) then
      (some ((-1 : Int32), S))
    else
      (if x1 ≤ (nI 4) then
        (cg S 1 fun v1 =>
        if (v1 + x1) ≤ (nI 60) then
          (bnd (f4_putOne n x2 S) fun _ S2 =>
          if x1 ≤ (nI 1) then
            (f4_put_b41 n x1 x4 x5 S2)
          else
            (bnd (f4_putOne n x3 S2) fun _ S3 =>
            f4_put_b41 n x1 x4 x5 S3))
        else
          (some ((-2 : Int32), S)))
      else
        (some ((-1 : Int32), S)))
theorem w4_put (hsf : sfOk (SF tk)) (X : hX p s m args meth c cX4_put 6 RX4 (some .int) D (tyC cI) (SF tk) A) {S0 : CS} (n : Nat) (x1 : Int32) (x2 : Int32) (x3 : Int32) (x4 : Int32) (x5 : Int32) (S : CS) : hG p l e (fun r => rmC 1 21 (cS r.2 - cS S0) (sS r.2 - sS S0)) s m args below meth c 6 (ZW D (wC cI q) A s.heap S0 S) (cS S - cS S0) (sS S - sS S0) (fun r => MQ below (QWi D (tyC cI) (wC cI q) A r) args s (cS r.2 - cS S0) (sS r.2 - sS S0) A) (fun r => le S r.2) 0 [(0, .ref (q 50)), (1, .int x1), (2, .int x2), (3, .int x3), (4, .int x4), (5, .int x5)] [] (f4_put n x1 x2 x3 x4 x5 S) := by
    unfold f4_put
    refine h_iload_n X dX4_put_0 rfl rfl ?_
    refine h_iconst (v := (nI 1)) X dX4_put_1 (by decide) ?_
    refine h_icmp_lt (tgt := 10) X dX4_put_2 (by decide) ?_ ?_
    · refine h_iconst (v := (-1 : Int32)) X dX4_put_10 (by decide) ?_
      exact h_iret X dX4_put_11
    · refine h_iload_n X dX4_put_5 rfl rfl ?_
      refine h_iconst (v := (nI 4)) X dX4_put_6 (by decide) ?_
      refine h_icmp_le (tgt := 12) X dX4_put_7 (by decide) ?_ ?_
      · refine h_aload_n X dX4_put_12 rfl rfl ?_
        refine c_g_B_onTape X fl4_13 dX4_put_13 ?_
        intro v1
        refine h_iload_n X dX4_put_16 rfl rfl ?_
        refine h_iadd X dX4_put_17 ?_
        refine h_bipush (v := (nI 60)) X dX4_put_18 (by decide) ?_
        refine h_icmp_le (tgt := 26) X dX4_put_20 (by decide) ?_ ?_
        · refine h_aload_n X dX4_put_26 rfl rfl ?_
          refine h_iload_n X dX4_put_27 rfl rfl ?_
          refine k4_putOne hsf X tlX4_56 ⟨Nat.le_of_ble_eq_true rfl, Nat.le_of_ble_eq_true rfl⟩ (Nat.le_of_ble_eq_true rfl) dX4_put_28 ?_
          intro v2 S2
          refine h_iload_n X dX4_put_31 rfl rfl ?_
          refine h_iconst (v := (nI 1)) X dX4_put_32 (by decide) ?_
          refine h_icmp_le (tgt := 41) X dX4_put_33 (by decide) ?_ ?_
          · exact h_pick [0, 1, 4, 5] rfl (w4_put_b41 hsf X n x1 x4 x5 S2)
          · refine h_aload_n X dX4_put_36 rfl rfl ?_
            refine h_iload_n X dX4_put_37 rfl rfl ?_
            refine k4_putOne hsf X tlX4_56 ⟨Nat.le_of_ble_eq_true rfl, Nat.le_of_ble_eq_true rfl⟩ (Nat.le_of_ble_eq_true rfl) dX4_put_38 ?_
            intro v3 S3
            exact h_pick [0, 1, 4, 5] rfl (w4_put_b41 hsf X n x1 x4 x5 S3)
        · refine h_bipush (v := (-2 : Int32)) X dX4_put_23 (by decide) ?_
          exact h_iret X dX4_put_25
      · refine h_iconst (v := (-1 : Int32)) X dX4_put_10 (by decide) ?_
        exact h_iret X dX4_put_11
theorem mo4_put (n : Nat) (x1 : Int32) (x2 : Int32) (x3 : Int32) (x4 : Int32) (x5 : Int32) (S : CS) : mo S (f4_put n x1 x2 x3 x4 x5 S) := by
    unfold f4_put
    refine m_ite ?_ ?_
    · exact m_some
    · refine m_ite ?_ ?_
      · refine m_cg (fun v1 => ?_)
        refine m_ite ?_ ?_
        · refine m_bnd (mo4_putOne _ _ _) (fun v2 S2 => ?_)
          refine m_ite ?_ ?_
          · exact mw4_put_b41 n x1 x4 x5 S2
          · refine m_bnd (mo4_putOne _ _ _) (fun v3 S3 => ?_)
            exact mw4_put_b41 n x1 x4 x5 S3
        · exact m_some
      · exact m_some
theorem c4_put (hsf : sfOk (SF tk)) (l : Launch) (D : va_G) (cI : ClassId) (q : Nat → Nat) (n : Nat) (x1 : Int32) (x2 : Int32) (x3 : Int32) (x4 : Int32) (x5 : Int32) (S : CS) : MetW l D (tyC cI) (SF tk) (wC cI q) yX4_put cX4_put 6 (some .int) 1 21 QWi [.ref (q 50), .int x1, .int x2, .int x3, .int x4, .int x5] S (f4_put n x1 x2 x3 x4 x5 S) := by
  refine MetW.of (own := RX4) (by decide) rfl (Nat.le_of_ble_eq_true rfl) (mo4_put n x1 x2 x3 x4 x5 S) ?_
  intro x p e s m args below meth c X
  refine h_pick (lv' := [(0, .ref (q 50)), (1, .int x1), (2, .int x2), (3, .int x3), (4, .int x4), (5, .int x5)]) [0, 1, 2, 3, 4, 5] rfl ?_
  exact h_close (w4_put hsf X n x1 x2 x3 x4 x5 S)
-- X4.wipe
def f4_wipe (n : Nat) (S : CS) : Option (Int32 × CS) :=
    cg S 1 fun v1 =>
    cp S 1 (nI 0) fun S2 =>
    some (v1, S2)
theorem w4_wipe (hsf : sfOk (SF tk)) (X : hX p s m args meth c cX4_wipe 2 RX4 (some .int) D (tyC cI) (SF tk) A) {S0 : CS} (n : Nat) (S : CS) : hG p l e (fun r => rmC 0 0 (cS r.2 - cS S0) (sS r.2 - sS S0)) s m args below meth c 2 (ZW D (wC cI q) A s.heap S0 S) (cS S - cS S0) (sS S - sS S0) (fun r => MQ below (QWi D (tyC cI) (wC cI q) A r) args s (cS r.2 - cS S0) (sS r.2 - sS S0) A) (fun r => le S r.2) 0 [(0, .ref (q 50))] [] (f4_wipe n S) := by
    unfold f4_wipe
    refine h_aload_n X dX4_wipe_0 rfl rfl ?_
    refine c_g_B_onTape X fl4_13 dX4_wipe_1 ?_
    intro v1
    refine h_istore_n (lv' := [(1, .int v1), (0, .ref (q 50))]) X dX4_wipe_4 rfl (by decide) rfl ?_
    refine h_aload_n X dX4_wipe_5 rfl rfl ?_
    refine h_iconst (v := (nI 0)) X dX4_wipe_6 (by decide) ?_
    refine c_p_B_onTape X fl4_13 dX4_wipe_7 ?_
    intro S2
    refine h_iload_n X dX4_wipe_10 rfl rfl ?_
    exact h_iret X dX4_wipe_11
theorem mo4_wipe (n : Nat) (S : CS) : mo S (f4_wipe n S) := by
    unfold f4_wipe
    refine m_cg (fun v1 => ?_)
    refine m_cp (fun S2 => ?_)
    exact m_some
theorem c4_wipe (hsf : sfOk (SF tk)) (l : Launch) (D : va_G) (cI : ClassId) (q : Nat → Nat) (n : Nat) (S : CS) : MetW l D (tyC cI) (SF tk) (wC cI q) yX4_wipe cX4_wipe 2 (some .int) 0 0 QWi [.ref (q 50)] S (f4_wipe n S) := by
  refine MetW.of (own := RX4) (by decide) rfl (Nat.le_of_ble_eq_true rfl) (mo4_wipe n S) ?_
  intro x p e s m args below meth c X
  refine h_pick (lv' := [(0, .ref (q 50))]) [0] rfl ?_
  exact h_close (w4_wipe hsf X n S)
-- X4.faultOfTape
theorem tlX4_191 : Cond.methodLink RX4 191 yX1_findFault ∈ tt := tt_in (List.mem_of_getElem? (i := 328) (by decide +kernel)) (by decide +kernel)
def f4_faultOfTape_b46 (n : Nat) (x1 : Int32) (S : CS) : Option (Int32 × CS) :=
    bnd (f1_findFault n x1 S) fun v1 S1 =>
    some (v1, S1)
theorem mw4_faultOfTape_b46 (n : Nat) (x1 : Int32) (S : CS) : mo S (f4_faultOfTape_b46 n x1 S) := by
  unfold f4_faultOfTape_b46
  refine m_bnd (mo1_findFault _ _ _) (fun v1 S1 => ?_)
  exact m_some
theorem w4_faultOfTape_b46 (hsf : sfOk (SF tk)) (X : hX p s m args meth c cX4_faultOfTape 3 RX4 (some .int) D (tyC cI) (SF tk) A) (n : Nat) (x1 : Int32) (S : CS) : hG p l e (fun r => rmC 6 139 (cS r.2 - cS S0) (sS r.2 - sS S0)) s m args below meth c 3 (ZW D (wC cI q) A s.heap S0 S) (cS S - cS S0) (sS S - sS S0) (fun r => MQ below (QWi D (tyC cI) (wC cI q) A r) args s (cS r.2 - cS S0) (sS r.2 - sS S0) A) (fun r => le S r.2) 46 [(0, .ref (q 50)), (1, .int x1)] [] (f4_faultOfTape_b46 n x1 S) := by
  unfold f4_faultOfTape_b46
  refine h_aload_n X dX4_faultOfTape_46 rfl rfl ?_
  refine c_g_B_reader X fl4_20 dX4_faultOfTape_47 ?_
  refine h_iload_n X dX4_faultOfTape_50 rfl rfl ?_
  refine k1_findFault hsf X tlX4_191 ⟨Nat.le_of_ble_eq_true rfl, Nat.le_of_ble_eq_true rfl⟩ (Nat.le_of_ble_eq_true rfl) dX4_faultOfTape_51 ?_
  intro v1 S1
  exact h_iret X dX4_faultOfTape_54
theorem tlX4_188 : Cond.methodLink RX4 188 yX1_addInt ∈ tt := tt_in (List.mem_of_getElem? (i := 324) (by decide +kernel)) (by decide +kernel)
def f4_faultOfTape_l13 (n : Nat) : Nat → Int32 → Int32 → CS → Option (Int32 × CS)
  | 0, _, _, _ => none
  | k + 1, x1, x2, S => cg S 1 fun v1 =>
    if v1 ≤ x2 then
      (f4_faultOfTape_b46 n x1 S)
    else
      (if (nI 60) ≤ x2 then
        (f4_faultOfTape_b46 n x1 S)
      else
        (cr S 0 60 x2 fun v2 =>
        bnd (f1_addInt n v2 S) fun _ S3 =>
        (f4_faultOfTape_l13 n k) x1 (x2 + (nI 1)) S3))
theorem mw4_faultOfTape_l13 (n : Nat) : ∀ (k : Nat) (x1 : Int32) (x2 : Int32) (S : CS), mo S (f4_faultOfTape_l13 n k x1 x2 S) := by
  intro k
  induction k with
  | zero =>
    intro x1 x2 S
    exact m_none
  | succ k ih =>
    intro x1 x2 S
    rw [f4_faultOfTape_l13]
    refine m_cg (fun v1 => ?_)
    refine m_ite ?_ ?_
    · exact mw4_faultOfTape_b46 n x1 S
    · refine m_ite ?_ ?_
      · exact mw4_faultOfTape_b46 n x1 S
      · refine m_cr (fun v2 => ?_)
        refine m_bnd (mo1_addInt _ _ _) (fun v3 S3 => ?_)
        exact ih x1 (x2 + (nI 1)) S3
theorem w4_faultOfTape_l13 (hsf : sfOk (SF tk)) (X : hX p s m args meth c cX4_faultOfTape 3 RX4 (some .int) D (tyC cI) (SF tk) A) (n : Nat) : ∀ (k : Nat) (x1 : Int32) (x2 : Int32) (S : CS), hG p l e (fun r => rmC 6 139 (cS r.2 - cS S0) (sS r.2 - sS S0)) s m args below meth c 3 (ZW D (wC cI q) A s.heap S0 S) (cS S - cS S0) (sS S - sS S0) (fun r => MQ below (QWi D (tyC cI) (wC cI q) A r) args s (cS r.2 - cS S0) (sS r.2 - sS S0) A) (fun r => le S r.2) 13 [(0, .ref (q 50)), (1, .int x1), (2, .int x2)] [] (f4_faultOfTape_l13 n k x1 x2 S) := by
  intro k
  induction k with
  | zero =>
    intro x1 x2 S
    exact h_none
  | succ k ih =>
    intro x1 x2 S
    rw [f4_faultOfTape_l13]
    refine h_iload_n X dX4_faultOfTape_13 rfl rfl ?_
    refine h_aload_n X dX4_faultOfTape_14 rfl rfl ?_
    refine c_g_B_onTape X fl4_13 dX4_faultOfTape_15 ?_
    intro v1
    refine h_icmp_ge (tgt := 46) X dX4_faultOfTape_18 (by decide) ?_ ?_
    · exact h_pick [0, 1] rfl (w4_faultOfTape_b46 hsf X n x1 S)
    · refine h_iload_n X dX4_faultOfTape_21 rfl rfl ?_
      refine h_bipush (v := (nI 60)) X dX4_faultOfTape_22 (by decide) ?_
      refine h_icmp_ge (tgt := 46) X dX4_faultOfTape_24 (by decide) ?_ ?_
      · exact h_pick [0, 1] rfl (w4_faultOfTape_b46 hsf X n x1 S)
      · refine h_aload_n X dX4_faultOfTape_27 rfl rfl ?_
        refine c_g_B_reader X fl4_20 dX4_faultOfTape_28 ?_
        refine h_aload_n X dX4_faultOfTape_31 rfl rfl ?_
        refine c_g_B_tape X fl4_9 dX4_faultOfTape_32 ?_
        refine h_iload_n X dX4_faultOfTape_35 rfl rfl ?_
        refine c_l_0 X dX4_faultOfTape_36 ?_
        intro v2
        refine k1_addInt hsf X tlX4_188 ⟨Nat.le_of_ble_eq_true rfl, Nat.le_of_ble_eq_true rfl⟩ (Nat.le_of_ble_eq_true rfl) dX4_faultOfTape_37 ?_
        intro v3 S3
        refine h_iinc (v := (nI 1)) (lv' := [(2, .int (x2 + (nI 1))), (0, .ref (q 50)), (1, .int x1)]) X dX4_faultOfTape_40 rfl (by decide) (by decide) rfl ?_
        refine h_goto (tgt := 13) X dX4_faultOfTape_43 (by decide) ?_
        exact h_pick [1, 2, 0] rfl (ih x1 (x2 + (nI 1)) S3)
theorem tlX4_185 : Cond.methodLink RX4 185 yX1_open ∈ tt := tt_in (List.mem_of_getElem? (i := 307) (by decide +kernel)) (by decide +kernel)
def f4_faultOfTape (n : Nat) (x1 : Int32) (S : CS) : Option (Int32 × CS) :=
    bnd (f1_open n S) fun _ S1 =>
    f4_faultOfTape_l13 n n x1 (nI 0) S1
theorem w4_faultOfTape (hsf : sfOk (SF tk)) (X : hX p s m args meth c cX4_faultOfTape 3 RX4 (some .int) D (tyC cI) (SF tk) A) {S0 : CS} (n : Nat) (x1 : Int32) (S : CS) : hG p l e (fun r => rmC 6 139 (cS r.2 - cS S0) (sS r.2 - sS S0)) s m args below meth c 3 (ZW D (wC cI q) A s.heap S0 S) (cS S - cS S0) (sS S - sS S0) (fun r => MQ below (QWi D (tyC cI) (wC cI q) A r) args s (cS r.2 - cS S0) (sS r.2 - sS S0) A) (fun r => le S r.2) 0 [(0, .ref (q 50)), (1, .int x1)] [] (f4_faultOfTape n x1 S) := by
    unfold f4_faultOfTape
    refine h_aload_n X dX4_faultOfTape_0 rfl rfl ?_
    refine c_g_B_reader X fl4_20 dX4_faultOfTape_1 ?_
    refine h_aload_n X dX4_faultOfTape_4 rfl rfl ?_
    refine c_g_B_now X fl4_35 dX4_faultOfTape_5 ?_
    refine k1_open hsf X tlX4_185 ⟨Nat.le_of_ble_eq_true rfl, Nat.le_of_ble_eq_true rfl⟩ (Nat.le_of_ble_eq_true rfl) dX4_faultOfTape_8 ?_
    intro v1 S1
    refine h_iconst (v := (nI 0)) X dX4_faultOfTape_11 (by decide) ?_
    refine h_istore_n (lv' := [(2, .int (nI 0)), (0, .ref (q 50)), (1, .int x1)]) X dX4_faultOfTape_12 rfl (by decide) rfl ?_
    exact h_pick [1, 2, 0] rfl (w4_faultOfTape_l13 hsf X n n x1 (nI 0) S1)
theorem mo4_faultOfTape (n : Nat) (x1 : Int32) (S : CS) : mo S (f4_faultOfTape n x1 S) := by
    unfold f4_faultOfTape
    refine m_bnd (mo1_open _ _) (fun v1 S1 => ?_)
    exact mw4_faultOfTape_l13 n n x1 (nI 0) S1
theorem c4_faultOfTape (hsf : sfOk (SF tk)) (l : Launch) (D : va_G) (cI : ClassId) (q : Nat → Nat) (n : Nat) (x1 : Int32) (S : CS) : MetW l D (tyC cI) (SF tk) (wC cI q) yX4_faultOfTape cX4_faultOfTape 3 (some .int) 6 139 QWi [.ref (q 50), .int x1] S (f4_faultOfTape n x1 S) := by
  refine MetW.of (own := RX4) (by decide) rfl (Nat.le_of_ble_eq_true rfl) (mo4_faultOfTape n x1 S) ?_
  intro x p e s m args below meth c X
  refine h_pick (lv' := [(0, .ref (q 50)), (1, .int x1)]) [0, 1] rfl ?_
  exact h_close (w4_faultOfTape hsf X n x1 S)
theorem tc4_faultOfTape : Cond.code yX4_faultOfTape cX4_faultOfTape 3 (some .int) ∈ tt := tt_in (List.mem_of_getElem? (i := 306) (by decide +kernel)) (by decide +kernel)
theorem ti4_faultOfTape : Cond.instanceMethod yX4_faultOfTape ∈ tt := tt_in (List.mem_of_getElem? (i := 305) (by decide +kernel)) (by decide +kernel)
theorem te4_faultOfTape : Cond.selects RX4 yX4_faultOfTape yX4_faultOfTape ∈ tt := tt_in (List.mem_of_getElem? (i := 1) (by decide +kernel)) (by decide +kernel)
theorem k4_faultOfTape (hsf : sfOk (SF tk)) (X : hX p s m args meth c cc nL own rt D (tyC cI) (SF tk) A) {n : Nat} {x1 : Int32} {ix : Nat} (hlk : Cond.methodLink own ix yX4_faultOfTape ∈ tt) {rest : List Value} {K : Int32 → CS → Option (ρ × CS)} (hR : 6 + 1 ≤ fr ∧ 8 + (3 + 11) + 139 ≤ lo) (hcat : (rest.map fun v => v.category).sum ≤ 8) (d : decode cc pc = .ok (.invokevirtual ix, 3)) (kk : ∀ v S1, hG p l e (fun r => rmC fr lo (cS r.2 - cS S0) (sS r.2 - sS S0)) s m args below meth c nL (ZW D (wC cI q) A s.heap S0 S1) (cS S1 - cS S0) (sS S1 - sS S0) QQ (fun r => le S1 r.2) (pc + 3) lv (.int v :: rest) (K v S1)) : hG p l e (fun r => rmC fr lo (cS r.2 - cS S0) (sS r.2 - sS S0)) s m args below meth c nL (ZW D (wC cI q) A s.heap S0 S) (cS S - cS S0) (sS S - sS S0) QQ (fun r => le S r.2) pc lv (.int x1 :: .ref (q 50) :: rest) (bnd (f4_faultOfTape n x1 S) K) := h_callVi (As := [.int x1]) (b := q 50) (C := RX4) hsf X (c4_faultOfTape hsf l D cI q n x1 S) (cwVC (k := 1) X.1.2.2.2.2.1 hlk ti4_faultOfTape te4_faultOfTape tc4_faultOfTape ini_4 (by decide +kernel) hR) (fun x H h1 h2 => va_recv h1 h2 (ci := 4) (q0 := 0) rfl rfl) rfl rfl hcat d kk
end CM
