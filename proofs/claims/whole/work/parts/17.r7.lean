theorem dX5_written_0 : decode cX5_written 0 = .ok (.aload_n 0, 1) := by decide +kernel
theorem dX5_written_1 : decode cX5_written 1 = .ok (.iload_n 1, 1) := by decide +kernel
theorem dX5_written_2 : decode cX5_written 2 = .ok (.invokevirtual 251, 3) := by decide +kernel
theorem dX5_written_5 : decode cX5_written 5 = .ok (.ifCond .eq 38, 3) := by decide +kernel
theorem dX5_written_8 : decode cX5_written 8 = .ok (.iload_n 2, 1) := by decide +kernel
theorem dX5_written_9 : decode cX5_written 9 = .ok (.ifCond .lt 34, 3) := by decide +kernel
theorem dX5_written_12 : decode cX5_written 12 = .ok (.iload_n 2, 1) := by decide +kernel
theorem dX5_written_13 : decode cX5_written 13 = .ok (.bipush 20, 2) := by decide +kernel
theorem dX5_written_15 : decode cX5_written 15 = .ok (.if_icmp .ge 28, 3) := by decide +kernel
theorem dX5_written_18 : decode cX5_written 18 = .ok (.iload_n 2, 1) := by decide +kernel
theorem dX5_written_19 : decode cX5_written 19 = .ok (.aload_n 0, 1) := by decide +kernel
theorem dX5_written_20 : decode cX5_written 20 = .ok (.getfield 8, 3) := by decide +kernel
theorem dX5_written_23 : decode cX5_written 23 = .ok (.iload_n 1, 1) := by decide +kernel
theorem dX5_written_24 : decode cX5_written 24 = .ok (.invokestatic 230, 3) := by decide +kernel
theorem dX5_written_27 : decode cX5_written 27 = .ok (.bipush 6, 2) := by decide +kernel
theorem dX5_written_29 : decode cX5_written 29 = .ok (.iadd, 1) := by decide +kernel
theorem dX5_written_30 : decode cX5_written 30 = .ok (.iaload, 1) := by decide +kernel
theorem dX5_written_31 : decode cX5_written 31 = .ok (.if_icmp .ge 12, 3) := by decide +kernel
theorem dX5_written_34 : decode cX5_written 34 = .ok (.iload_n 3, 1) := by decide +kernel
theorem dX5_written_35 : decode cX5_written 35 = .ok (.ifCond .lt 8, 3) := by decide +kernel
theorem dX5_written_38 : decode cX5_written 38 = .ok (.iload_n 3, 1) := by decide +kernel
theorem dX5_written_39 : decode cX5_written 39 = .ok (.iconst 1, 1) := by decide +kernel
theorem dX5_written_40 : decode cX5_written 40 = .ok (.if_icmp .le 5, 3) := by decide +kernel
theorem dX5_written_43 : decode cX5_written 43 = .ok (.iconst 0, 1) := by decide +kernel
theorem dX5_written_44 : decode cX5_written 44 = .ok (.ireturn, 1) := by decide +kernel
theorem dX5_written_45 : decode cX5_written 45 = .ok (.aload_n 0, 1) := by decide +kernel
theorem dX5_written_46 : decode cX5_written 46 = .ok (.getfield 8, 3) := by decide +kernel
theorem dX5_written_49 : decode cX5_written 49 = .ok (.iload_n 1, 1) := by decide +kernel
theorem dX5_written_50 : decode cX5_written 50 = .ok (.invokestatic 230, 3) := by decide +kernel
theorem dX5_written_53 : decode cX5_written 53 = .ok (.bipush 71, 2) := by decide +kernel
theorem dX5_written_55 : decode cX5_written 55 = .ok (.iadd, 1) := by decide +kernel
theorem dX5_written_56 : decode cX5_written 56 = .ok (.iconst 2, 1) := by decide +kernel
theorem dX5_written_57 : decode cX5_written 57 = .ok (.iload_n 2, 1) := by decide +kernel
theorem dX5_written_58 : decode cX5_written 58 = .ok (.imul, 1) := by decide +kernel
theorem dX5_written_59 : decode cX5_written 59 = .ok (.iadd, 1) := by decide +kernel
theorem dX5_written_60 : decode cX5_written 60 = .ok (.iload_n 3, 1) := by decide +kernel
theorem dX5_written_61 : decode cX5_written 61 = .ok (.iadd, 1) := by decide +kernel
theorem dX5_written_62 : decode cX5_written 62 = .ok (.iaload, 1) := by decide +kernel
theorem dX5_written_63 : decode cX5_written 63 = .ok (.ireturn, 1) := by decide +kernel
theorem dX5_count_0 : decode cX5_count 0 = .ok (.iload_n 1, 1) := by decide +kernel
theorem dX5_count_1 : decode cX5_count 1 = .ok (.ifCond .ne 12, 3) := by decide +kernel
theorem dX5_count_4 : decode cX5_count 4 = .ok (.aload_n 0, 1) := by decide +kernel
theorem dX5_count_5 : decode cX5_count 5 = .ok (.getfield 8, 3) := by decide +kernel
theorem dX5_count_8 : decode cX5_count 8 = .ok (.iconst 1, 1) := by decide +kernel
theorem dX5_count_9 : decode cX5_count 9 = .ok (.iaload, 1) := by decide +kernel
theorem dX5_count_10 : decode cX5_count 10 = .ok (.goto 44, 3) := by decide +kernel
theorem dX5_count_13 : decode cX5_count 13 = .ok (.iload_n 1, 1) := by decide +kernel
theorem dX5_count_14 : decode cX5_count 14 = .ok (.iconst 1, 1) := by decide +kernel
theorem dX5_count_15 : decode cX5_count 15 = .ok (.if_icmp .ne 12, 3) := by decide +kernel
theorem dX5_count_18 : decode cX5_count 18 = .ok (.aload_n 0, 1) := by decide +kernel
theorem dX5_count_19 : decode cX5_count 19 = .ok (.getfield 8, 3) := by decide +kernel
theorem dX5_count_22 : decode cX5_count 22 = .ok (.iconst 2, 1) := by decide +kernel
theorem dX5_count_23 : decode cX5_count 23 = .ok (.iaload, 1) := by decide +kernel
theorem dX5_count_24 : decode cX5_count 24 = .ok (.goto 30, 3) := by decide +kernel
theorem dX5_count_27 : decode cX5_count 27 = .ok (.iload_n 1, 1) := by decide +kernel
theorem dX5_count_28 : decode cX5_count 28 = .ok (.iconst 2, 1) := by decide +kernel
theorem dX5_count_29 : decode cX5_count 29 = .ok (.if_icmp .ne 12, 3) := by decide +kernel
theorem dX5_count_32 : decode cX5_count 32 = .ok (.aload_n 0, 1) := by decide +kernel
theorem dX5_count_33 : decode cX5_count 33 = .ok (.getfield 8, 3) := by decide +kernel
theorem dX5_count_36 : decode cX5_count 36 = .ok (.iconst 0, 1) := by decide +kernel
theorem dX5_count_37 : decode cX5_count 37 = .ok (.iaload, 1) := by decide +kernel
theorem dX5_count_38 : decode cX5_count 38 = .ok (.goto 16, 3) := by decide +kernel
theorem dX5_count_41 : decode cX5_count 41 = .ok (.iload_n 1, 1) := by decide +kernel
theorem dX5_count_42 : decode cX5_count 42 = .ok (.iconst 3, 1) := by decide +kernel
theorem dX5_count_43 : decode cX5_count 43 = .ok (.if_icmp .ne 10, 3) := by decide +kernel
theorem dX5_count_46 : decode cX5_count 46 = .ok (.aload_n 0, 1) := by decide +kernel
theorem dX5_count_47 : decode cX5_count 47 = .ok (.getfield 80, 3) := by decide +kernel
theorem dX5_count_50 : decode cX5_count 50 = .ok (.goto 4, 3) := by decide +kernel
theorem dX5_count_53 : decode cX5_count 53 = .ok (.iconst (-1), 1) := by decide +kernel
theorem dX5_count_54 : decode cX5_count 54 = .ok (.ireturn, 1) := by decide +kernel
theorem dX5_edition_0 : decode cX5_edition 0 = .ok (.aload_n 0, 1) := by decide +kernel
theorem dX5_edition_1 : decode cX5_edition 1 = .ok (.iload_n 1, 1) := by decide +kernel
theorem dX5_edition_2 : decode cX5_edition 2 = .ok (.invokevirtual 69, 3) := by decide +kernel
theorem dX5_edition_5 : decode cX5_edition 5 = .ok (.ifCond .ne 6, 3) := by decide +kernel
theorem dX5_edition_8 : decode cX5_edition 8 = .ok (.bipush (-3), 2) := by decide +kernel
theorem dX5_edition_10 : decode cX5_edition 10 = .ok (.ireturn, 1) := by decide +kernel
theorem dX5_edition_11 : decode cX5_edition 11 = .ok (.iload_n 1, 1) := by decide +kernel
theorem dX5_edition_12 : decode cX5_edition 12 = .ok (.invokestatic 73, 3) := by decide +kernel
theorem dX5_edition_15 : decode cX5_edition 15 = .ok (.istore_n 3, 1) := by decide +kernel
theorem dX5_edition_16 : decode cX5_edition 16 = .ok (.aload_n 0, 1) := by decide +kernel
theorem dX5_edition_17 : decode cX5_edition 17 = .ok (.getfield 8, 3) := by decide +kernel
theorem dX5_edition_20 : decode cX5_edition 20 = .ok (.iload_n 3, 1) := by decide +kernel
theorem dX5_edition_21 : decode cX5_edition 21 = .ok (.iconst 1, 1) := by decide +kernel
theorem dX5_edition_22 : decode cX5_edition 22 = .ok (.iadd, 1) := by decide +kernel
theorem dX5_edition_23 : decode cX5_edition 23 = .ok (.iaload, 1) := by decide +kernel
theorem dX5_edition_24 : decode cX5_edition 24 = .ok (.iconst 1, 1) := by decide +kernel
theorem dX5_edition_25 : decode cX5_edition 25 = .ok (.if_icmp .ne 7, 3) := by decide +kernel
theorem dX5_edition_28 : decode cX5_edition 28 = .ok (.iconst 1, 1) := by decide +kernel
theorem dX5_edition_29 : decode cX5_edition 29 = .ok (.goto 4, 3) := by decide +kernel
theorem dX5_edition_32 : decode cX5_edition 32 = .ok (.iconst 0, 1) := by decide +kernel
theorem dX5_edition_33 : decode cX5_edition 33 = .ok (.istore 4, 2) := by decide +kernel
theorem dX5_edition_35 : decode cX5_edition 35 = .ok (.iconst 0, 1) := by decide +kernel
theorem dX5_edition_36 : decode cX5_edition 36 = .ok (.istore 5, 2) := by decide +kernel
theorem dX5_edition_38 : decode cX5_edition 38 = .ok (.iconst 0, 1) := by decide +kernel
theorem dX5_edition_39 : decode cX5_edition 39 = .ok (.istore 6, 2) := by decide +kernel
theorem dX5_edition_41 : decode cX5_edition 41 = .ok (.iload 6, 2) := by decide +kernel
theorem dX5_edition_43 : decode cX5_edition 43 = .ok (.iload_n 1, 1) := by decide +kernel
theorem dX5_edition_44 : decode cX5_edition 44 = .ok (.if_icmp .ge 42, 3) := by decide +kernel
theorem dX5_edition_47 : decode cX5_edition 47 = .ok (.iload 5, 2) := by decide +kernel
theorem dX5_edition_49 : decode cX5_edition 49 = .ok (.aload_n 0, 1) := by decide +kernel
theorem dX5_edition_50 : decode cX5_edition 50 = .ok (.getfield 8, 3) := by decide +kernel
theorem dX5_edition_53 : decode cX5_edition 53 = .ok (.iload 6, 2) := by decide +kernel
theorem dX5_edition_55 : decode cX5_edition 55 = .ok (.invokestatic 73, 3) := by decide +kernel
theorem dX5_edition_58 : decode cX5_edition 58 = .ok (.iconst 0, 1) := by decide +kernel
theorem dX5_edition_59 : decode cX5_edition 59 = .ok (.iadd, 1) := by decide +kernel
theorem dX5_edition_60 : decode cX5_edition 60 = .ok (.iaload, 1) := by decide +kernel
theorem dX5_edition_61 : decode cX5_edition 61 = .ok (.aload_n 0, 1) := by decide +kernel
theorem dX5_edition_62 : decode cX5_edition 62 = .ok (.getfield 8, 3) := by decide +kernel
theorem dX5_edition_65 : decode cX5_edition 65 = .ok (.iload_n 3, 1) := by decide +kernel
theorem dX5_edition_66 : decode cX5_edition 66 = .ok (.iconst 0, 1) := by decide +kernel
theorem dX5_edition_67 : decode cX5_edition 67 = .ok (.iadd, 1) := by decide +kernel
theorem dX5_edition_68 : decode cX5_edition 68 = .ok (.iaload, 1) := by decide +kernel
theorem dX5_edition_69 : decode cX5_edition 69 = .ok (.if_icmp .ne 7, 3) := by decide +kernel
theorem dX5_edition_72 : decode cX5_edition 72 = .ok (.iconst 1, 1) := by decide +kernel
theorem dX5_edition_73 : decode cX5_edition 73 = .ok (.goto 4, 3) := by decide +kernel
theorem dX5_edition_76 : decode cX5_edition 76 = .ok (.iconst 0, 1) := by decide +kernel
theorem dX5_edition_77 : decode cX5_edition 77 = .ok (.iadd, 1) := by decide +kernel
theorem dX5_edition_78 : decode cX5_edition 78 = .ok (.istore 5, 2) := by decide +kernel
theorem dX5_edition_80 : decode cX5_edition 80 = .ok (.iinc 6 1, 3) := by decide +kernel
theorem dX5_edition_83 : decode cX5_edition 83 = .ok (.goto (-42), 3) := by decide +kernel
theorem dX5_edition_86 : decode cX5_edition 86 = .ok (.iload_n 2, 1) := by decide +kernel
theorem dX5_edition_87 : decode cX5_edition 87 = .ok (.tableswitch 163 0 7 #[45, 54, 57, 66, 75, 97, 119, 144], 45) := by decide +kernel
theorem dX5_edition_132 : decode cX5_edition 132 = .ok (.aload_n 0, 1) := by decide +kernel
theorem dX5_edition_133 : decode cX5_edition 133 = .ok (.getfield 8, 3) := by decide +kernel
theorem dX5_edition_136 : decode cX5_edition 136 = .ok (.iload_n 3, 1) := by decide +kernel
theorem dX5_edition_137 : decode cX5_edition 137 = .ok (.iconst 0, 1) := by decide +kernel
theorem dX5_edition_138 : decode cX5_edition 138 = .ok (.iadd, 1) := by decide +kernel
theorem dX5_edition_139 : decode cX5_edition 139 = .ok (.iaload, 1) := by decide +kernel
theorem dX5_edition_140 : decode cX5_edition 140 = .ok (.ireturn, 1) := by decide +kernel
theorem dX5_edition_141 : decode cX5_edition 141 = .ok (.iload 5, 2) := by decide +kernel
theorem dX5_edition_143 : decode cX5_edition 143 = .ok (.ireturn, 1) := by decide +kernel
theorem dX5_edition_144 : decode cX5_edition 144 = .ok (.aload_n 0, 1) := by decide +kernel
theorem dX5_edition_145 : decode cX5_edition 145 = .ok (.getfield 8, 3) := by decide +kernel
theorem dX5_edition_148 : decode cX5_edition 148 = .ok (.iload_n 3, 1) := by decide +kernel
theorem dX5_edition_149 : decode cX5_edition 149 = .ok (.iconst 2, 1) := by decide +kernel
theorem dX5_edition_150 : decode cX5_edition 150 = .ok (.iadd, 1) := by decide +kernel
theorem dX5_edition_151 : decode cX5_edition 151 = .ok (.iaload, 1) := by decide +kernel
theorem dX5_edition_152 : decode cX5_edition 152 = .ok (.ireturn, 1) := by decide +kernel
theorem dX5_edition_153 : decode cX5_edition 153 = .ok (.aload_n 0, 1) := by decide +kernel
theorem dX5_edition_154 : decode cX5_edition 154 = .ok (.getfield 8, 3) := by decide +kernel
theorem dX5_edition_157 : decode cX5_edition 157 = .ok (.iload_n 3, 1) := by decide +kernel
theorem dX5_edition_158 : decode cX5_edition 158 = .ok (.iconst 1, 1) := by decide +kernel
theorem dX5_edition_159 : decode cX5_edition 159 = .ok (.iadd, 1) := by decide +kernel
theorem dX5_edition_160 : decode cX5_edition 160 = .ok (.iaload, 1) := by decide +kernel
theorem dX5_edition_161 : decode cX5_edition 161 = .ok (.ireturn, 1) := by decide +kernel
theorem dX5_edition_162 : decode cX5_edition 162 = .ok (.aload_n 0, 1) := by decide +kernel
theorem dX5_edition_163 : decode cX5_edition 163 = .ok (.aload_n 0, 1) := by decide +kernel
theorem dX5_edition_164 : decode cX5_edition 164 = .ok (.getfield 8, 3) := by decide +kernel
theorem dX5_edition_167 : decode cX5_edition 167 = .ok (.iload_n 3, 1) := by decide +kernel
theorem dX5_edition_168 : decode cX5_edition 168 = .ok (.iconst 0, 1) := by decide +kernel
theorem dX5_edition_169 : decode cX5_edition 169 = .ok (.iadd, 1) := by decide +kernel
theorem dX5_edition_170 : decode cX5_edition 170 = .ok (.iaload, 1) := by decide +kernel
theorem dX5_edition_171 : decode cX5_edition 171 = .ok (.invokevirtual 97, 3) := by decide +kernel
theorem dX5_edition_174 : decode cX5_edition 174 = .ok (.iload_n 1, 1) := by decide +kernel
theorem dX5_edition_175 : decode cX5_edition 175 = .ok (.if_icmp .ne 7, 3) := by decide +kernel
theorem dX5_edition_178 : decode cX5_edition 178 = .ok (.iconst 1, 1) := by decide +kernel
theorem dX5_edition_179 : decode cX5_edition 179 = .ok (.goto 4, 3) := by decide +kernel
theorem dX5_edition_182 : decode cX5_edition 182 = .ok (.iconst 0, 1) := by decide +kernel
theorem dX5_edition_183 : decode cX5_edition 183 = .ok (.ireturn, 1) := by decide +kernel
theorem dX5_edition_184 : decode cX5_edition 184 = .ok (.iload 4, 2) := by decide +kernel
theorem dX5_edition_186 : decode cX5_edition 186 = .ok (.ifCond .eq 11, 3) := by decide +kernel
theorem dX5_edition_189 : decode cX5_edition 189 = .ok (.aload_n 0, 1) := by decide +kernel
theorem dX5_edition_190 : decode cX5_edition 190 = .ok (.iload_n 1, 1) := by decide +kernel
theorem dX5_edition_191 : decode cX5_edition 191 = .ok (.invokevirtual 138, 3) := by decide +kernel
theorem dX5_edition_194 : decode cX5_edition 194 = .ok (.goto 11, 3) := by decide +kernel
theorem dX5_edition_197 : decode cX5_edition 197 = .ok (.aload_n 0, 1) := by decide +kernel
theorem dX5_edition_198 : decode cX5_edition 198 = .ok (.getfield 8, 3) := by decide +kernel
theorem dX5_edition_201 : decode cX5_edition 201 = .ok (.iload_n 3, 1) := by decide +kernel
theorem dX5_edition_202 : decode cX5_edition 202 = .ok (.iconst 3, 1) := by decide +kernel
theorem dX5_edition_203 : decode cX5_edition 203 = .ok (.iadd, 1) := by decide +kernel
theorem dX5_edition_204 : decode cX5_edition 204 = .ok (.iaload, 1) := by decide +kernel
theorem dX5_edition_205 : decode cX5_edition 205 = .ok (.ireturn, 1) := by decide +kernel
theorem dX5_edition_206 : decode cX5_edition 206 = .ok (.iload 4, 2) := by decide +kernel
theorem dX5_edition_208 : decode cX5_edition 208 = .ok (.ifCond .eq 14, 3) := by decide +kernel
theorem dX5_edition_211 : decode cX5_edition 211 = .ok (.aload_n 0, 1) := by decide +kernel
theorem dX5_edition_212 : decode cX5_edition 212 = .ok (.getfield 8, 3) := by decide +kernel
theorem dX5_edition_215 : decode cX5_edition 215 = .ok (.iload_n 3, 1) := by decide +kernel
theorem dX5_edition_216 : decode cX5_edition 216 = .ok (.iconst 5, 1) := by decide +kernel
theorem dX5_edition_217 : decode cX5_edition 217 = .ok (.iadd, 1) := by decide +kernel
theorem dX5_edition_218 : decode cX5_edition 218 = .ok (.iaload, 1) := by decide +kernel
theorem dX5_edition_219 : decode cX5_edition 219 = .ok (.goto 11, 3) := by decide +kernel
theorem dX5_edition_222 : decode cX5_edition 222 = .ok (.aload_n 0, 1) := by decide +kernel
theorem dX5_edition_223 : decode cX5_edition 223 = .ok (.getfield 8, 3) := by decide +kernel
theorem dX5_edition_226 : decode cX5_edition 226 = .ok (.iload_n 3, 1) := by decide +kernel
theorem dX5_edition_227 : decode cX5_edition 227 = .ok (.iconst 4, 1) := by decide +kernel
theorem dX5_edition_228 : decode cX5_edition 228 = .ok (.iadd, 1) := by decide +kernel
theorem dX5_edition_229 : decode cX5_edition 229 = .ok (.iaload, 1) := by decide +kernel
theorem dX5_edition_230 : decode cX5_edition 230 = .ok (.ireturn, 1) := by decide +kernel
theorem dX5_edition_231 : decode cX5_edition 231 = .ok (.iload 4, 2) := by decide +kernel
theorem dX5_edition_233 : decode cX5_edition 233 = .ok (.ifCond .eq 15, 3) := by decide +kernel
theorem dX5_edition_236 : decode cX5_edition 236 = .ok (.aload_n 0, 1) := by decide +kernel
theorem dX5_edition_237 : decode cX5_edition 237 = .ok (.getfield 8, 3) := by decide +kernel
theorem dX5_edition_240 : decode cX5_edition 240 = .ok (.iload_n 3, 1) := by decide +kernel
theorem dX5_edition_241 : decode cX5_edition 241 = .ok (.bipush 6, 2) := by decide +kernel
theorem dX5_edition_243 : decode cX5_edition 243 = .ok (.iadd, 1) := by decide +kernel
theorem dX5_edition_244 : decode cX5_edition 244 = .ok (.iaload, 1) := by decide +kernel
theorem dX5_edition_245 : decode cX5_edition 245 = .ok (.goto 4, 3) := by decide +kernel
theorem dX5_edition_248 : decode cX5_edition 248 = .ok (.iconst 0, 1) := by decide +kernel
theorem dX5_edition_249 : decode cX5_edition 249 = .ok (.ireturn, 1) := by decide +kernel
theorem dX5_edition_250 : decode cX5_edition 250 = .ok (.bipush (-3), 2) := by decide +kernel
theorem dX5_edition_252 : decode cX5_edition 252 = .ok (.ireturn, 1) := by decide +kernel
theorem dX5_classOf_0 : decode cX5_classOf 0 = .ok (.aload_n 0, 1) := by decide +kernel
theorem dX5_classOf_1 : decode cX5_classOf 1 = .ok (.iload_n 1, 1) := by decide +kernel
theorem dX5_classOf_2 : decode cX5_classOf 2 = .ok (.invokevirtual 263, 3) := by decide +kernel
theorem dX5_classOf_5 : decode cX5_classOf 5 = .ok (.ifCond .eq 15, 3) := by decide +kernel
theorem dX5_classOf_8 : decode cX5_classOf 8 = .ok (.aload_n 0, 1) := by decide +kernel
theorem dX5_classOf_9 : decode cX5_classOf 9 = .ok (.getfield 8, 3) := by decide +kernel
theorem dX5_classOf_12 : decode cX5_classOf 12 = .ok (.iload_n 1, 1) := by decide +kernel
theorem dX5_classOf_13 : decode cX5_classOf 13 = .ok (.invokestatic 141, 3) := by decide +kernel
theorem dX5_classOf_16 : decode cX5_classOf 16 = .ok (.iaload, 1) := by decide +kernel
theorem dX5_classOf_17 : decode cX5_classOf 17 = .ok (.goto 4, 3) := by decide +kernel
theorem dX5_classOf_20 : decode cX5_classOf 20 = .ok (.iconst (-1), 1) := by decide +kernel
theorem dX5_classOf_21 : decode cX5_classOf 21 = .ok (.ireturn, 1) := by decide +kernel
theorem dX5_field_0 : decode cX5_field 0 = .ok (.aload_n 0, 1) := by decide +kernel
theorem dX5_field_1 : decode cX5_field 1 = .ok (.iload_n 1, 1) := by decide +kernel
theorem dX5_field_2 : decode cX5_field 2 = .ok (.invokevirtual 263, 3) := by decide +kernel
theorem dX5_field_5 : decode cX5_field 5 = .ok (.ifCond .eq 33, 3) := by decide +kernel
theorem dX5_field_8 : decode cX5_field 8 = .ok (.iload_n 2, 1) := by decide +kernel
theorem dX5_field_9 : decode cX5_field 9 = .ok (.ifCond .lt 29, 3) := by decide +kernel
theorem dX5_field_12 : decode cX5_field 12 = .ok (.iload_n 2, 1) := by decide +kernel
theorem dX5_field_13 : decode cX5_field 13 = .ok (.bipush 9, 2) := by decide +kernel
theorem dX5_field_15 : decode cX5_field 15 = .ok (.if_icmp .gt 23, 3) := by decide +kernel
theorem dX5_field_18 : decode cX5_field 18 = .ok (.aload_n 0, 1) := by decide +kernel
theorem dX5_field_19 : decode cX5_field 19 = .ok (.getfield 8, 3) := by decide +kernel
theorem dX5_field_22 : decode cX5_field 22 = .ok (.iload_n 1, 1) := by decide +kernel
theorem dX5_field_23 : decode cX5_field 23 = .ok (.invokestatic 141, 3) := by decide +kernel
theorem dX5_field_26 : decode cX5_field 26 = .ok (.iconst 1, 1) := by decide +kernel
theorem dX5_field_27 : decode cX5_field 27 = .ok (.iadd, 1) := by decide +kernel
theorem dX5_field_28 : decode cX5_field 28 = .ok (.iload_n 2, 1) := by decide +kernel
theorem dX5_field_29 : decode cX5_field 29 = .ok (.iadd, 1) := by decide +kernel
theorem dX5_field_30 : decode cX5_field 30 = .ok (.iaload, 1) := by decide +kernel
theorem dX5_field_31 : decode cX5_field 31 = .ok (.ifCond .eq 7, 3) := by decide +kernel
theorem dX5_field_34 : decode cX5_field 34 = .ok (.iconst 1, 1) := by decide +kernel
theorem dX5_field_35 : decode cX5_field 35 = .ok (.goto 4, 3) := by decide +kernel
theorem dX5_field_38 : decode cX5_field 38 = .ok (.iconst 0, 1) := by decide +kernel
theorem dX5_field_39 : decode cX5_field 39 = .ok (.istore 4, 2) := by decide +kernel
theorem dX5_field_41 : decode cX5_field 41 = .ok (.iload_n 3, 1) := by decide +kernel
theorem dX5_field_42 : decode cX5_field 42 = .ok (.ifCond .ne 30, 3) := by decide +kernel
theorem dX5_field_45 : decode cX5_field 45 = .ok (.iload 4, 2) := by decide +kernel
theorem dX5_field_47 : decode cX5_field 47 = .ok (.ifCond .eq 21, 3) := by decide +kernel
theorem dX5_field_50 : decode cX5_field 50 = .ok (.aload_n 0, 1) := by decide +kernel
theorem dX5_field_51 : decode cX5_field 51 = .ok (.getfield 8, 3) := by decide +kernel
theorem dX5_field_54 : decode cX5_field 54 = .ok (.iload_n 1, 1) := by decide +kernel
theorem dX5_field_55 : decode cX5_field 55 = .ok (.invokestatic 141, 3) := by decide +kernel
theorem dX5_field_58 : decode cX5_field 58 = .ok (.iconst 1, 1) := by decide +kernel
theorem dX5_field_59 : decode cX5_field 59 = .ok (.iadd, 1) := by decide +kernel
theorem dX5_field_60 : decode cX5_field 60 = .ok (.iload_n 2, 1) := by decide +kernel
theorem dX5_field_61 : decode cX5_field 61 = .ok (.iadd, 1) := by decide +kernel
theorem dX5_field_62 : decode cX5_field 62 = .ok (.iaload, 1) := by decide +kernel
theorem dX5_field_63 : decode cX5_field 63 = .ok (.iconst 1, 1) := by decide +kernel
theorem dX5_field_64 : decode cX5_field 64 = .ok (.isub, 1) := by decide +kernel
theorem dX5_field_65 : decode cX5_field 65 = .ok (.goto 35, 3) := by decide +kernel
theorem dX5_field_68 : decode cX5_field 68 = .ok (.iconst (-1), 1) := by decide +kernel
theorem dX5_field_69 : decode cX5_field 69 = .ok (.goto 31, 3) := by decide +kernel
theorem dX5_field_72 : decode cX5_field 72 = .ok (.iload_n 3, 1) := by decide +kernel
theorem dX5_field_73 : decode cX5_field 73 = .ok (.iconst 1, 1) := by decide +kernel
theorem dX5_field_74 : decode cX5_field 74 = .ok (.if_icmp .ne 25, 3) := by decide +kernel
theorem dX5_field_77 : decode cX5_field 77 = .ok (.iload 4, 2) := by decide +kernel
theorem dX5_field_79 : decode cX5_field 79 = .ok (.ifCond .eq 20, 3) := by decide +kernel
theorem dX5_field_82 : decode cX5_field 82 = .ok (.aload_n 0, 1) := by decide +kernel
theorem dX5_field_83 : decode cX5_field 83 = .ok (.getfield 8, 3) := by decide +kernel
theorem dX5_field_86 : decode cX5_field 86 = .ok (.iload_n 1, 1) := by decide +kernel
theorem dX5_field_87 : decode cX5_field 87 = .ok (.invokestatic 141, 3) := by decide +kernel
theorem dX5_field_90 : decode cX5_field 90 = .ok (.bipush 11, 2) := by decide +kernel
theorem dX5_field_92 : decode cX5_field 92 = .ok (.iadd, 1) := by decide +kernel
theorem dX5_field_93 : decode cX5_field 93 = .ok (.iload_n 2, 1) := by decide +kernel
theorem dX5_field_94 : decode cX5_field 94 = .ok (.iadd, 1) := by decide +kernel
theorem dX5_field_95 : decode cX5_field 95 = .ok (.iaload, 1) := by decide +kernel
theorem dX5_field_96 : decode cX5_field 96 = .ok (.goto 4, 3) := by decide +kernel
theorem dX5_field_99 : decode cX5_field 99 = .ok (.iconst 0, 1) := by decide +kernel
theorem dX5_field_100 : decode cX5_field 100 = .ok (.ireturn, 1) := by decide +kernel
theorem dX5_is_0 : decode cX5_is 0 = .ok (.aload_n 0, 1) := by decide +kernel
theorem dX5_is_1 : decode cX5_is 1 = .ok (.iload_n 1, 1) := by decide +kernel
theorem dX5_is_2 : decode cX5_is 2 = .ok (.invokevirtual 263, 3) := by decide +kernel
theorem dX5_is_5 : decode cX5_is 5 = .ok (.ifCond .eq 32, 3) := by decide +kernel
theorem dX5_is_8 : decode cX5_is 8 = .ok (.aload_n 0, 1) := by decide +kernel
theorem dX5_is_9 : decode cX5_is 9 = .ok (.iload_n 2, 1) := by decide +kernel
theorem dX5_is_10 : decode cX5_is 10 = .ok (.invokevirtual 266, 3) := by decide +kernel
theorem dX5_is_13 : decode cX5_is 13 = .ok (.ifCond .eq 24, 3) := by decide +kernel
theorem dX5_is_16 : decode cX5_is 16 = .ok (.aload_n 0, 1) := by decide +kernel
theorem dX5_is_17 : decode cX5_is 17 = .ok (.aload_n 0, 1) := by decide +kernel
theorem dX5_is_18 : decode cX5_is 18 = .ok (.getfield 8, 3) := by decide +kernel
theorem dX5_is_21 : decode cX5_is 21 = .ok (.iload_n 1, 1) := by decide +kernel
theorem dX5_is_22 : decode cX5_is 22 = .ok (.invokestatic 141, 3) := by decide +kernel
theorem dX5_is_25 : decode cX5_is 25 = .ok (.iaload, 1) := by decide +kernel
theorem dX5_is_26 : decode cX5_is 26 = .ok (.iload_n 2, 1) := by decide +kernel
theorem dX5_is_27 : decode cX5_is 27 = .ok (.invokevirtual 201, 3) := by decide +kernel
theorem dX5_is_30 : decode cX5_is 30 = .ok (.ifCond .eq 7, 3) := by decide +kernel
theorem dX5_is_33 : decode cX5_is 33 = .ok (.iconst 1, 1) := by decide +kernel
theorem dX5_is_34 : decode cX5_is 34 = .ok (.goto 4, 3) := by decide +kernel
theorem dX5_is_37 : decode cX5_is 37 = .ok (.iconst 0, 1) := by decide +kernel
theorem dX5_is_38 : decode cX5_is 38 = .ok (.ireturn, 1) := by decide +kernel
theorem dX5_call_0 : decode cX5_call 0 = .ok (.aload_n 0, 1) := by decide +kernel
theorem dX5_call_1 : decode cX5_call 1 = .ok (.iload_n 1, 1) := by decide +kernel
theorem dX5_call_2 : decode cX5_call 2 = .ok (.invokevirtual 263, 3) := by decide +kernel
theorem dX5_call_5 : decode cX5_call 5 = .ok (.ifCond .eq 12, 3) := by decide +kernel
theorem dX5_call_8 : decode cX5_call 8 = .ok (.iload_n 2, 1) := by decide +kernel
theorem dX5_call_9 : decode cX5_call 9 = .ok (.ifCond .lt 8, 3) := by decide +kernel
theorem dX5_call_12 : decode cX5_call 12 = .ok (.iload_n 2, 1) := by decide +kernel
theorem dX5_call_13 : decode cX5_call 13 = .ok (.iconst 4, 1) := by decide +kernel
theorem dX5_call_14 : decode cX5_call 14 = .ok (.if_icmp .le 5, 3) := by decide +kernel
theorem dX5_call_17 : decode cX5_call 17 = .ok (.iconst (-1), 1) := by decide +kernel
theorem dX5_call_18 : decode cX5_call 18 = .ok (.ireturn, 1) := by decide +kernel
theorem dX5_call_19 : decode cX5_call 19 = .ok (.aload_n 0, 1) := by decide +kernel
theorem dX5_call_20 : decode cX5_call 20 = .ok (.iconst 0, 1) := by decide +kernel
theorem dX5_call_21 : decode cX5_call 21 = .ok (.putfield 147, 3) := by decide +kernel
theorem dX5_call_24 : decode cX5_call 24 = .ok (.aload_n 0, 1) := by decide +kernel
theorem dX5_call_25 : decode cX5_call 25 = .ok (.iconst 0, 1) := by decide +kernel
theorem dX5_call_26 : decode cX5_call 26 = .ok (.putfield 150, 3) := by decide +kernel
theorem dX5_call_29 : decode cX5_call 29 = .ok (.aload_n 0, 1) := by decide +kernel
theorem dX5_call_30 : decode cX5_call 30 = .ok (.iconst 0, 1) := by decide +kernel
theorem dX5_call_31 : decode cX5_call 31 = .ok (.putfield 153, 3) := by decide +kernel
theorem dX5_call_34 : decode cX5_call 34 = .ok (.aload_n 0, 1) := by decide +kernel
theorem dX5_call_35 : decode cX5_call 35 = .ok (.iconst 0, 1) := by decide +kernel
theorem dX5_call_36 : decode cX5_call 36 = .ok (.putfield 159, 3) := by decide +kernel
theorem dX5_call_39 : decode cX5_call 39 = .ok (.aload_n 0, 1) := by decide +kernel
theorem dX5_call_40 : decode cX5_call 40 = .ok (.iconst 0, 1) := by decide +kernel
theorem dX5_call_41 : decode cX5_call 41 = .ok (.putfield 156, 3) := by decide +kernel
theorem dX5_call_44 : decode cX5_call 44 = .ok (.aload_n 0, 1) := by decide +kernel
theorem dX5_call_45 : decode cX5_call 45 = .ok (.iconst 0, 1) := by decide +kernel
theorem dX5_call_46 : decode cX5_call 46 = .ok (.putfield 215, 3) := by decide +kernel
theorem dX5_call_49 : decode cX5_call 49 = .ok (.aload_n 0, 1) := by decide +kernel
theorem dX5_call_50 : decode cX5_call 50 = .ok (.iconst 1, 1) := by decide +kernel
theorem dX5_call_51 : decode cX5_call 51 = .ok (.iload_n 1, 1) := by decide +kernel
theorem dX5_call_52 : decode cX5_call 52 = .ok (.invokevirtual 181, 3) := by decide +kernel
theorem dX5_call_55 : decode cX5_call 55 = .ok (.aload_n 0, 1) := by decide +kernel
theorem dX5_call_56 : decode cX5_call 56 = .ok (.iconst 0, 1) := by decide +kernel
theorem dX5_call_57 : decode cX5_call 57 = .ok (.iload_n 3, 1) := by decide +kernel
theorem dX5_call_58 : decode cX5_call 58 = .ok (.invokevirtual 181, 3) := by decide +kernel
theorem dX5_call_61 : decode cX5_call 61 = .ok (.aload_n 0, 1) := by decide +kernel
theorem dX5_call_62 : decode cX5_call 62 = .ok (.iload_n 1, 1) := by decide +kernel
theorem dX5_call_63 : decode cX5_call 63 = .ok (.iload_n 2, 1) := by decide +kernel
theorem dX5_call_64 : decode cX5_call 64 = .ok (.invokevirtual 205, 3) := by decide +kernel
theorem dX5_call_67 : decode cX5_call 67 = .ok (.aload_n 0, 1) := by decide +kernel
theorem dX5_call_68 : decode cX5_call 68 = .ok (.getfield 156, 3) := by decide +kernel
theorem dX5_call_71 : decode cX5_call 71 = .ok (.ifCond .ne 7, 3) := by decide +kernel
theorem dX5_call_74 : decode cX5_call 74 = .ok (.aload_n 0, 1) := by decide +kernel
theorem dX5_call_75 : decode cX5_call 75 = .ok (.invokevirtual 233, 3) := by decide +kernel
theorem dX5_call_78 : decode cX5_call 78 = .ok (.aload_n 0, 1) := by decide +kernel
theorem dX5_call_79 : decode cX5_call 79 = .ok (.aload_n 0, 1) := by decide +kernel
theorem dX5_call_80 : decode cX5_call 80 = .ok (.getfield 156, 3) := by decide +kernel
theorem dX5_call_83 : decode cX5_call 83 = .ok (.ifCond .ne 16, 3) := by decide +kernel
theorem dX5_call_86 : decode cX5_call 86 = .ok (.aload_n 0, 1) := by decide +kernel
theorem dX5_call_87 : decode cX5_call 87 = .ok (.getfield 30, 3) := by decide +kernel
theorem dX5_call_90 : decode cX5_call 90 = .ok (.iconst 0, 1) := by decide +kernel
theorem dX5_call_91 : decode cX5_call 91 = .ok (.baload, 1) := by decide +kernel
theorem dX5_call_92 : decode cX5_call 92 = .ok (.ifCond .eq 7, 3) := by decide +kernel
theorem dX5_call_95 : decode cX5_call 95 = .ok (.iconst 1, 1) := by decide +kernel
theorem dX5_call_96 : decode cX5_call 96 = .ok (.goto 4, 3) := by decide +kernel
theorem dX5_call_99 : decode cX5_call 99 = .ok (.iconst 0, 1) := by decide +kernel
theorem dX5_call_100 : decode cX5_call 100 = .ok (.putfield 269, 3) := by decide +kernel
theorem dX5_call_103 : decode cX5_call 103 = .ok (.aload_n 0, 1) := by decide +kernel
theorem dX5_call_104 : decode cX5_call 104 = .ok (.aload_n 0, 1) := by decide +kernel
theorem dX5_call_105 : decode cX5_call 105 = .ok (.getfield 156, 3) := by decide +kernel
theorem dX5_call_108 : decode cX5_call 108 = .ok (.ifCond .ne 12, 3) := by decide +kernel
theorem dX5_call_111 : decode cX5_call 111 = .ok (.aload_n 0, 1) := by decide +kernel
theorem dX5_call_112 : decode cX5_call 112 = .ok (.getfield 33, 3) := by decide +kernel
theorem dX5_call_115 : decode cX5_call 115 = .ok (.iconst 0, 1) := by decide +kernel
theorem dX5_call_116 : decode cX5_call 116 = .ok (.iaload, 1) := by decide +kernel
theorem dX5_call_117 : decode cX5_call 117 = .ok (.goto 4, 3) := by decide +kernel
theorem dX5_call_120 : decode cX5_call 120 = .ok (.iconst 0, 1) := by decide +kernel
theorem dX5_call_121 : decode cX5_call 121 = .ok (.putfield 272, 3) := by decide +kernel
theorem dX5_call_124 : decode cX5_call 124 = .ok (.aload_n 0, 1) := by decide +kernel
theorem dX5_call_125 : decode cX5_call 125 = .ok (.aload_n 0, 1) := by decide +kernel
theorem dX5_call_126 : decode cX5_call 126 = .ok (.getfield 156, 3) := by decide +kernel
theorem dX5_call_129 : decode cX5_call 129 = .ok (.bipush 100, 2) := by decide +kernel
theorem dX5_call_131 : decode cX5_call 131 = .ok (.if_icmp .ne 7, 3) := by decide +kernel
theorem dX5_call_134 : decode cX5_call 134 = .ok (.iconst 0, 1) := by decide +kernel
theorem dX5_call_135 : decode cX5_call 135 = .ok (.goto 7, 3) := by decide +kernel
theorem dX5_call_138 : decode cX5_call 138 = .ok (.aload_n 0, 1) := by decide +kernel
theorem dX5_call_139 : decode cX5_call 139 = .ok (.getfield 156, 3) := by decide +kernel
theorem dX5_call_142 : decode cX5_call 142 = .ok (.putfield 275, 3) := by decide +kernel
theorem dX5_call_145 : decode cX5_call 145 = .ok (.aload_n 0, 1) := by decide +kernel
theorem dX5_call_146 : decode cX5_call 146 = .ok (.aload_n 0, 1) := by decide +kernel
theorem dX5_call_147 : decode cX5_call 147 = .ok (.getfield 159, 3) := by decide +kernel
theorem dX5_call_150 : decode cX5_call 150 = .ok (.putfield 278, 3) := by decide +kernel
theorem dX5_call_153 : decode cX5_call 153 = .ok (.aload_n 0, 1) := by decide +kernel
theorem dX5_call_154 : decode cX5_call 154 = .ok (.getfield 156, 3) := by decide +kernel
theorem dX5_call_157 : decode cX5_call 157 = .ok (.ifCond .ne 7, 3) := by decide +kernel
theorem dX5_call_160 : decode cX5_call 160 = .ok (.iconst 0, 1) := by decide +kernel
theorem dX5_call_161 : decode cX5_call 161 = .ok (.goto 17, 3) := by decide +kernel
theorem dX5_call_164 : decode cX5_call 164 = .ok (.aload_n 0, 1) := by decide +kernel
theorem dX5_call_165 : decode cX5_call 165 = .ok (.getfield 156, 3) := by decide +kernel
theorem dX5_call_168 : decode cX5_call 168 = .ok (.bipush 100, 2) := by decide +kernel
theorem dX5_call_170 : decode cX5_call 170 = .ok (.if_icmp .ne 7, 3) := by decide +kernel
theorem dX5_call_173 : decode cX5_call 173 = .ok (.iconst 2, 1) := by decide +kernel
theorem dX5_call_174 : decode cX5_call 174 = .ok (.goto 4, 3) := by decide +kernel
theorem dX5_call_177 : decode cX5_call 177 = .ok (.iconst 1, 1) := by decide +kernel
theorem dX5_call_178 : decode cX5_call 178 = .ok (.ireturn, 1) := by decide +kernel
theorem dX5_came_0 : decode cX5_came 0 = .ok (.iload_n 1, 1) := by decide +kernel
theorem dX5_came_1 : decode cX5_came 1 = .ok (.ifCond .ne 10, 3) := by decide +kernel
theorem dX5_came_4 : decode cX5_came 4 = .ok (.aload_n 0, 1) := by decide +kernel
theorem dX5_came_5 : decode cX5_came 5 = .ok (.getfield 269, 3) := by decide +kernel
theorem dX5_came_8 : decode cX5_came 8 = .ok (.goto 40, 3) := by decide +kernel
theorem dX5_came_11 : decode cX5_came 11 = .ok (.iload_n 1, 1) := by decide +kernel
theorem dX5_came_12 : decode cX5_came 12 = .ok (.iconst 1, 1) := by decide +kernel
theorem dX5_came_13 : decode cX5_came 13 = .ok (.if_icmp .ne 10, 3) := by decide +kernel
theorem dX5_came_16 : decode cX5_came 16 = .ok (.aload_n 0, 1) := by decide +kernel
theorem dX5_came_17 : decode cX5_came 17 = .ok (.getfield 272, 3) := by decide +kernel
theorem dX5_came_20 : decode cX5_came 20 = .ok (.goto 28, 3) := by decide +kernel
theorem dX5_came_23 : decode cX5_came 23 = .ok (.iload_n 1, 1) := by decide +kernel
theorem dX5_came_24 : decode cX5_came 24 = .ok (.iconst 2, 1) := by decide +kernel
theorem dX5_came_25 : decode cX5_came 25 = .ok (.if_icmp .ne 10, 3) := by decide +kernel
theorem dX5_came_28 : decode cX5_came 28 = .ok (.aload_n 0, 1) := by decide +kernel
theorem dX5_came_29 : decode cX5_came 29 = .ok (.getfield 275, 3) := by decide +kernel
theorem dX5_came_32 : decode cX5_came 32 = .ok (.goto 16, 3) := by decide +kernel
theorem dX5_came_35 : decode cX5_came 35 = .ok (.iload_n 1, 1) := by decide +kernel
theorem dX5_came_36 : decode cX5_came 36 = .ok (.iconst 3, 1) := by decide +kernel
theorem dX5_came_37 : decode cX5_came 37 = .ok (.if_icmp .ne 10, 3) := by decide +kernel
theorem dX5_came_40 : decode cX5_came 40 = .ok (.aload_n 0, 1) := by decide +kernel
theorem dX5_came_41 : decode cX5_came 41 = .ok (.getfield 278, 3) := by decide +kernel
theorem dX5_came_44 : decode cX5_came 44 = .ok (.goto 4, 3) := by decide +kernel
theorem dX5_came_47 : decode cX5_came 47 = .ok (.iconst 0, 1) := by decide +kernel
theorem dX5_came_48 : decode cX5_came 48 = .ok (.ireturn, 1) := by decide +kernel
section RM
variable {ρ : Type} {p : Program} {l : Launch} {e : Env} {R : Room} {s : State} {m : MethodId} {args : Array Value} {below : List Frame} {meth : Method} {c : Code}
variable {cc : ByteArray} {nL : Nat} {rt : Option FieldType} {D : va_G} {cI cZ : ClassId} {q : Nat → Nat} {QQ : ρ → State → Prop} {pc : Nat} {lv : List (Nat × Value)}

-- written
def fR_written (n : Nat) (x1 : Int32) (x2 : Int32) (x3 : Int32) (M : MR) : Option (Int32 × MR) :=
    bnd (fR_isCell n x1 M) fun v1 M1 =>
    if v1 = 0 then
      (some ((nI 0), M1))
    else
      (if x2 < 0 then
        (some ((nI 0), M1))
      else
        (if (nI 20) ≤ x2 then
          (some ((nI 0), M1))
        else
          (bnd (fR_cellAt n x1 M1) fun v2 M2 =>
          rd M2 0 62610 (v2 + (nI 6)) fun v3 =>
          if v3 ≤ x2 then
            (some ((nI 0), M2))
          else
            (if x3 < 0 then
              (some ((nI 0), M2))
            else
              (if x3 ≤ (nI 1) then
                (bnd (fR_cellAt n x1 M2) fun v4 M4 =>
                rd M4 0 62610 (((v4 + (nI 71)) + ((nI 2) * x2)) + x3) fun v5 =>
                some (v5, M4))
              else
                (some ((nI 0), M2)))))))
theorem c_written (l : Launch) (D : va_G) (cI cZ : ClassId) (q : Nat → Nat) (n : Nat) (x1 : Int32) (x2 : Int32) (x3 : Int32) (M : MR) : MetR l D cI cZ q yX5_written cX5_written 4 (some .int) 1 21 QI [.ref (q 34), .int x1, .int x2, .int x3] M (fR_written n x1 x2 x3 M) := by
  refine MetR.of (by decide) rfl (Nat.le_of_ble_eq_true rfl) ?_
  intro p e s m args below meth c X
  unfold fR_written
  refine g_pick (lv' := [(0, .ref (q 34)), (1, .int x1), (2, .int x2), (3, .int x3)]) [0, 1, 2, 3] rfl ?_
  refine g_aload_n X dX5_written_0 rfl rfl ?_
  refine g_iload_n X dX5_written_1 rfl rfl ?_
  refine k_isCell X ⟨Nat.le_of_ble_eq_true rfl, Nat.le_of_ble_eq_true rfl⟩ (Nat.le_of_ble_eq_true rfl) dX5_written_2 ?_
  intro v1 M1
  refine g_if_eq (tgt := 43) X dX5_written_5 (by decide) ?_ ?_
  · refine g_iconst (v := (nI 0)) X dX5_written_43 (by decide) ?_
    exact r_iret X dX5_written_44
  · refine g_iload_n X dX5_written_8 rfl rfl ?_
    refine g_if_lt (tgt := 43) X dX5_written_9 (by decide) ?_ ?_
    · refine g_iconst (v := (nI 0)) X dX5_written_43 (by decide) ?_
      exact r_iret X dX5_written_44
    · refine g_iload_n X dX5_written_12 rfl rfl ?_
      refine g_bipush (v := (nI 20)) X dX5_written_13 (by decide) ?_
      refine g_icmp_ge (tgt := 43) X dX5_written_15 (by decide) ?_ ?_
      · refine g_iconst (v := (nI 0)) X dX5_written_43 (by decide) ?_
        exact r_iret X dX5_written_44
      · refine g_iload_n X dX5_written_18 rfl rfl ?_
        refine g_aload_n X dX5_written_19 rfl rfl ?_
        refine r_g_m X dX5_written_20 ?_
        refine g_iload_n X dX5_written_23 rfl rfl ?_
        refine k_cellAt X ⟨Nat.le_of_ble_eq_true rfl, Nat.le_of_ble_eq_true rfl⟩ (Nat.le_of_ble_eq_true rfl) dX5_written_24 ?_
        intro v2 M2
        refine g_bipush (v := (nI 6)) X dX5_written_27 (by decide) ?_
        refine g_iadd X dX5_written_29 ?_
        refine r_l_m X dX5_written_30 ?_
        intro v3
        refine g_icmp_ge (tgt := 43) X dX5_written_31 (by decide) ?_ ?_
        · refine g_iconst (v := (nI 0)) X dX5_written_43 (by decide) ?_
          exact r_iret X dX5_written_44
        · refine g_iload_n X dX5_written_34 rfl rfl ?_
          refine g_if_lt (tgt := 43) X dX5_written_35 (by decide) ?_ ?_
          · refine g_iconst (v := (nI 0)) X dX5_written_43 (by decide) ?_
            exact r_iret X dX5_written_44
          · refine g_iload_n X dX5_written_38 rfl rfl ?_
            refine g_iconst (v := (nI 1)) X dX5_written_39 (by decide) ?_
            refine g_icmp_le (tgt := 45) X dX5_written_40 (by decide) ?_ ?_
            · refine g_aload_n X dX5_written_45 rfl rfl ?_
              refine r_g_m X dX5_written_46 ?_
              refine g_iload_n X dX5_written_49 rfl rfl ?_
              refine k_cellAt X ⟨Nat.le_of_ble_eq_true rfl, Nat.le_of_ble_eq_true rfl⟩ (Nat.le_of_ble_eq_true rfl) dX5_written_50 ?_
              intro v4 M4
              refine g_bipush (v := (nI 71)) X dX5_written_53 (by decide) ?_
              refine g_iadd X dX5_written_55 ?_
              refine g_iconst (v := (nI 2)) X dX5_written_56 (by decide) ?_
              refine g_iload_n X dX5_written_57 rfl rfl ?_
              refine g_imul X dX5_written_58 ?_
              refine g_iadd X dX5_written_59 ?_
              refine g_iload_n X dX5_written_60 rfl rfl ?_
              refine g_iadd X dX5_written_61 ?_
              refine r_l_m X dX5_written_62 ?_
              intro v5
              exact r_iret X dX5_written_63
            · refine g_iconst (v := (nI 0)) X dX5_written_43 (by decide) ?_
              exact r_iret X dX5_written_44
-- count
def fR_count (n : Nat) (x1 : Int32) (M : MR) : Option (Int32 × MR) :=
    if x1 = 0 then
      (rd M 0 62610 (nI 1) fun v4 =>
      some (v4, M))
    else
      (if x1 = (nI 1) then
        (rd M 0 62610 (nI 2) fun v3 =>
        some (v3, M))
      else
        (if x1 = (nI 2) then
          (rd M 0 62610 (nI 0) fun v2 =>
          some (v2, M))
        else
          (if x1 = (nI 3) then
            (gf M 3 fun v1 =>
            some (v1, M))
          else
            (some ((-1 : Int32), M)))))
theorem c_count (l : Launch) (D : va_G) (cI cZ : ClassId) (q : Nat → Nat) (n : Nat) (x1 : Int32) (M : MR) : MetR l D cI cZ q yX5_count cX5_count 2 (some .int) 0 0 QI [.ref (q 34), .int x1] M (fR_count n x1 M) := by
  refine MetR.of (by decide) rfl (Nat.le_of_ble_eq_true rfl) ?_
  intro p e s m args below meth c X
  unfold fR_count
  refine g_pick (lv' := [(0, .ref (q 34)), (1, .int x1)]) [0, 1] rfl ?_
  refine g_iload_n X dX5_count_0 rfl rfl ?_
  refine g_if_ne (tgt := 13) X dX5_count_1 (by decide) ?_ ?_
  · refine g_iload_n X dX5_count_13 rfl rfl ?_
    refine g_iconst (v := (nI 1)) X dX5_count_14 (by decide) ?_
    refine g_icmp_ne (tgt := 27) X dX5_count_15 (by decide) ?_ ?_
    · refine g_iload_n X dX5_count_27 rfl rfl ?_
      refine g_iconst (v := (nI 2)) X dX5_count_28 (by decide) ?_
      refine g_icmp_ne (tgt := 41) X dX5_count_29 (by decide) ?_ ?_
      · refine g_iload_n X dX5_count_41 rfl rfl ?_
        refine g_iconst (v := (nI 3)) X dX5_count_42 (by decide) ?_
        refine g_icmp_ne (tgt := 53) X dX5_count_43 (by decide) ?_ ?_
        · refine g_iconst (v := (-1 : Int32)) X dX5_count_53 (by decide) ?_
          exact r_iret X dX5_count_54
        · refine g_aload_n X dX5_count_46 rfl rfl ?_
          refine r_g_taped X dX5_count_47 ?_
          intro v1
          refine g_goto (tgt := 54) X dX5_count_50 (by decide) ?_
          exact r_iret X dX5_count_54
      · refine g_aload_n X dX5_count_32 rfl rfl ?_
        refine r_g_m X dX5_count_33 ?_
        refine g_iconst (v := (nI 0)) X dX5_count_36 (by decide) ?_
        refine r_l_m X dX5_count_37 ?_
        intro v2
        refine g_goto (tgt := 54) X dX5_count_38 (by decide) ?_
        exact r_iret X dX5_count_54
    · refine g_aload_n X dX5_count_18 rfl rfl ?_
      refine r_g_m X dX5_count_19 ?_
      refine g_iconst (v := (nI 2)) X dX5_count_22 (by decide) ?_
      refine r_l_m X dX5_count_23 ?_
      intro v3
      refine g_goto (tgt := 54) X dX5_count_24 (by decide) ?_
      exact r_iret X dX5_count_54
  · refine g_aload_n X dX5_count_4 rfl rfl ?_
    refine r_g_m X dX5_count_5 ?_
    refine g_iconst (v := (nI 1)) X dX5_count_8 (by decide) ?_
    refine r_l_m X dX5_count_9 ?_
    intro v4
    refine g_goto (tgt := 54) X dX5_count_10 (by decide) ?_
    exact r_iret X dX5_count_54
-- edition
def fR_edition_b77 (n : Nat) (k41 : Int32 → Int32 → Int32 → Int32 → Int32 → Int32 → MR → Option (Int32 × MR)) (x1 : Int32) (x2 : Int32) (x3 : Int32) (x4 : Int32) (x6 : Int32) (s0 : Int32) (s1 : Int32) (M : MR) : Option (Int32 × MR) :=
    k41 x1 x2 x3 x4 (s0 + s1) (x6 + (nI 1)) M
theorem wR_edition_b77 (X : gX p s m args meth c cX5_edition 7 RX5 (some .int) D (tyR cI cZ)) (n : Nat) (k41 : Int32 → Int32 → Int32 → Int32 → Int32 → Int32 → MR → Option (Int32 × MR)) (hk41 : ∀ (x1 : Int32) (x2 : Int32) (x3 : Int32) (x4 : Int32) (x5 : Int32) (x6 : Int32) (M : MR), gG p l e (rmR 3 63) s m args below meth c 7 (ZR D cI cZ q (AR q s.heap.size) s.heap M) 0 0 (fun r => MQ below (QI D cI cZ q s.heap.size r) args s 0 0 (AR q s.heap.size)) 41 [(0, .ref (q 34)), (1, .int x1), (2, .int x2), (3, .int x3), (4, .int x4), (5, .int x5), (6, .int x6)] [] (k41 x1 x2 x3 x4 x5 x6 M)) (x1 : Int32) (x2 : Int32) (x3 : Int32) (x4 : Int32) (x6 : Int32) (s0 : Int32) (s1 : Int32) (M : MR) : gG p l e (rmR 3 63) s m args below meth c 7 (ZR D cI cZ q (AR q s.heap.size) s.heap M) 0 0 (fun r => MQ below (QI D cI cZ q s.heap.size r) args s 0 0 (AR q s.heap.size)) 77 [(0, .ref (q 34)), (1, .int x1), (2, .int x2), (3, .int x3), (4, .int x4), (6, .int x6)] [.int s1, .int s0] (fR_edition_b77 n k41 x1 x2 x3 x4 x6 s0 s1 M) := by
  unfold fR_edition_b77
  refine g_iadd X dX5_edition_77 ?_
  refine g_istore (lv' := [(5, .int (s0 + s1)), (0, .ref (q 34)), (1, .int x1), (2, .int x2), (3, .int x3), (4, .int x4), (6, .int x6)]) X dX5_edition_78 (by decide) rfl ?_
  refine g_iinc (v := (nI 1)) (lv' := [(6, .int (x6 + (nI 1))), (5, .int (s0 + s1)), (0, .ref (q 34)), (1, .int x1), (2, .int x2), (3, .int x3), (4, .int x4)]) X dX5_edition_80 rfl (by decide) (by decide) rfl ?_
  refine g_goto (tgt := 41) X dX5_edition_83 (by decide) ?_
  exact g_pick [2, 3, 4, 5, 6, 1, 0] rfl (hk41 x1 x2 x3 x4 (s0 + s1) (x6 + (nI 1)) M)
def fR_edition_l41 (n : Nat) : Nat → Int32 → Int32 → Int32 → Int32 → Int32 → Int32 → MR → Option (Int32 × MR)
  | 0, _, _, _, _, _, _, _ => none
  | k + 1, x1, x2, x3, x4, x5, x6, M => if x1 ≤ x6 then
      (if x2 = (nI 0) then
        (rd M 0 62610 (x3 + (nI 0)) fun v2 =>
        some (v2, M))
      else if x2 = (nI 1) then
        (some (x5, M))
      else if x2 = (nI 2) then
        (rd M 0 62610 (x3 + (nI 2)) fun v5 =>
        some (v5, M))
      else if x2 = (nI 3) then
        (rd M 0 62610 (x3 + (nI 1)) fun v7 =>
        some (v7, M))
      else if x2 = (nI 4) then
        (rd M 0 62610 (x3 + (nI 0)) fun v9 =>
        bnd (fR_newest n v9 M) fun v10 M10 =>
        if v10 = x1 then (some ((nI 1), M10)) else (some ((nI 0), M10)))
      else if x2 = (nI 5) then
        (if x4 = 0 then
          (rd M 0 62610 (x3 + (nI 3)) fun v12 =>
          some (v12, M))
        else
          (bnd (fR_parentOf n x1 M) fun v13 M13 =>
          some (v13, M13)))
      else if x2 = (nI 6) then
        (if x4 = 0 then
          (rd M 0 62610 (x3 + (nI 4)) fun v15 =>
          some (v15, M))
        else
          (rd M 0 62610 (x3 + (nI 5)) fun v16 =>
          some (v16, M)))
      else if x2 = (nI 7) then
        (if x4 = 0 then
          (some ((nI 0), M))
        else
          (rd M 0 62610 (x3 + (nI 6)) fun v18 =>
          some (v18, M)))
      else (some ((-3 : Int32), M)))
    else
      (bnd (fR_editAt n x6 M) fun v19 M19 =>
      rd M19 0 62610 (v19 + (nI 0)) fun v20 =>
      rd M19 0 62610 (x3 + (nI 0)) fun v21 =>
      if v20 = v21 then
        (fR_edition_b77 n (fR_edition_l41 n k) x1 x2 x3 x4 x6 x5 (nI 1) M19)
      else
        (fR_edition_b77 n (fR_edition_l41 n k) x1 x2 x3 x4 x6 x5 (nI 0) M19))
theorem wR_edition_l41 (X : gX p s m args meth c cX5_edition 7 RX5 (some .int) D (tyR cI cZ)) (n : Nat) : ∀ (k : Nat) (x1 : Int32) (x2 : Int32) (x3 : Int32) (x4 : Int32) (x5 : Int32) (x6 : Int32) (M : MR), gG p l e (rmR 3 63) s m args below meth c 7 (ZR D cI cZ q (AR q s.heap.size) s.heap M) 0 0 (fun r => MQ below (QI D cI cZ q s.heap.size r) args s 0 0 (AR q s.heap.size)) 41 [(0, .ref (q 34)), (1, .int x1), (2, .int x2), (3, .int x3), (4, .int x4), (5, .int x5), (6, .int x6)] [] (fR_edition_l41 n k x1 x2 x3 x4 x5 x6 M) := by
  intro k
  induction k with
  | zero =>
    intro x1 x2 x3 x4 x5 x6 M
    exact g_none
  | succ k ih =>
    intro x1 x2 x3 x4 x5 x6 M
    rw [fR_edition_l41]
    refine g_iload X dX5_edition_41 rfl ?_
    refine g_iload_n X dX5_edition_43 rfl rfl ?_
    refine g_icmp_ge (tgt := 86) X dX5_edition_44 (by decide) ?_ ?_
    · refine g_iload_n X dX5_edition_86 rfl rfl ?_
      refine g_ite (fun h1 => ?_) (fun h1 => ?_)
      · refine g_tIn (off := 45) (tgt := 132) X dX5_edition_87 (by rw [h1]; decide) (by rw [h1]; decide) (by rw [h1]; rfl) (by decide) ?_
        refine g_aload_n X dX5_edition_132 rfl rfl ?_
        refine r_g_m X dX5_edition_133 ?_
        refine g_iload_n X dX5_edition_136 rfl rfl ?_
        refine g_iconst (v := (nI 0)) X dX5_edition_137 (by decide) ?_
        refine g_iadd X dX5_edition_138 ?_
        refine r_l_m X dX5_edition_139 ?_
        intro v2
        exact r_iret X dX5_edition_140
      have eh1 := tn_i (n := 0) h1 (by decide)
      refine g_ite (fun h3 => ?_) (fun h3 => ?_)
      · refine g_tIn (off := 54) (tgt := 141) X dX5_edition_87 (by rw [h3]; decide) (by rw [h3]; decide) (by rw [h3]; rfl) (by decide) ?_
        refine g_iload X dX5_edition_141 rfl ?_
        exact r_iret X dX5_edition_143
      have eh3 := tn_i (n := 1) h3 (by decide)
      refine g_ite (fun h4 => ?_) (fun h4 => ?_)
      · refine g_tIn (off := 57) (tgt := 144) X dX5_edition_87 (by rw [h4]; decide) (by rw [h4]; decide) (by rw [h4]; rfl) (by decide) ?_
        refine g_aload_n X dX5_edition_144 rfl rfl ?_
        refine r_g_m X dX5_edition_145 ?_
        refine g_iload_n X dX5_edition_148 rfl rfl ?_
        refine g_iconst (v := (nI 2)) X dX5_edition_149 (by decide) ?_
        refine g_iadd X dX5_edition_150 ?_
        refine r_l_m X dX5_edition_151 ?_
        intro v5
        exact r_iret X dX5_edition_152
      have eh4 := tn_i (n := 2) h4 (by decide)
      refine g_ite (fun h6 => ?_) (fun h6 => ?_)
      · refine g_tIn (off := 66) (tgt := 153) X dX5_edition_87 (by rw [h6]; decide) (by rw [h6]; decide) (by rw [h6]; rfl) (by decide) ?_
        refine g_aload_n X dX5_edition_153 rfl rfl ?_
        refine r_g_m X dX5_edition_154 ?_
        refine g_iload_n X dX5_edition_157 rfl rfl ?_
        refine g_iconst (v := (nI 1)) X dX5_edition_158 (by decide) ?_
        refine g_iadd X dX5_edition_159 ?_
        refine r_l_m X dX5_edition_160 ?_
        intro v7
        exact r_iret X dX5_edition_161
      have eh6 := tn_i (n := 3) h6 (by decide)
      refine g_ite (fun h8 => ?_) (fun h8 => ?_)
      · refine g_tIn (off := 75) (tgt := 162) X dX5_edition_87 (by rw [h8]; decide) (by rw [h8]; decide) (by rw [h8]; rfl) (by decide) ?_
        refine g_aload_n X dX5_edition_162 rfl rfl ?_
        refine g_aload_n X dX5_edition_163 rfl rfl ?_
        refine r_g_m X dX5_edition_164 ?_
        refine g_iload_n X dX5_edition_167 rfl rfl ?_
        refine g_iconst (v := (nI 0)) X dX5_edition_168 (by decide) ?_
        refine g_iadd X dX5_edition_169 ?_
        refine r_l_m X dX5_edition_170 ?_
        intro v9
        refine k_newest X ⟨Nat.le_of_ble_eq_true rfl, Nat.le_of_ble_eq_true rfl⟩ (Nat.le_of_ble_eq_true rfl) dX5_edition_171 ?_
        intro v10 M10
        refine g_iload_n X dX5_edition_174 rfl rfl ?_
        refine g_icmp_ne (tgt := 182) X dX5_edition_175 (by decide) ?_ ?_
        · refine g_iconst (v := (nI 0)) X dX5_edition_182 (by decide) ?_
          exact r_iret X dX5_edition_183
        · refine g_iconst (v := (nI 1)) X dX5_edition_178 (by decide) ?_
          refine g_goto (tgt := 183) X dX5_edition_179 (by decide) ?_
          exact r_iret X dX5_edition_183
      have eh8 := tn_i (n := 4) h8 (by decide)
      refine g_ite (fun h11 => ?_) (fun h11 => ?_)
      · refine g_tIn (off := 97) (tgt := 184) X dX5_edition_87 (by rw [h11]; decide) (by rw [h11]; decide) (by rw [h11]; rfl) (by decide) ?_
        refine g_iload X dX5_edition_184 rfl ?_
        refine g_if_eq (tgt := 197) X dX5_edition_186 (by decide) ?_ ?_
        · refine g_aload_n X dX5_edition_197 rfl rfl ?_
          refine r_g_m X dX5_edition_198 ?_
          refine g_iload_n X dX5_edition_201 rfl rfl ?_
          refine g_iconst (v := (nI 3)) X dX5_edition_202 (by decide) ?_
          refine g_iadd X dX5_edition_203 ?_
          refine r_l_m X dX5_edition_204 ?_
          intro v12
          exact r_iret X dX5_edition_205
        · refine g_aload_n X dX5_edition_189 rfl rfl ?_
          refine g_iload_n X dX5_edition_190 rfl rfl ?_
          refine k_parentOf X ⟨Nat.le_of_ble_eq_true rfl, Nat.le_of_ble_eq_true rfl⟩ (Nat.le_of_ble_eq_true rfl) dX5_edition_191 ?_
          intro v13 M13
          refine g_goto (tgt := 205) X dX5_edition_194 (by decide) ?_
          exact r_iret X dX5_edition_205
      have eh11 := tn_i (n := 5) h11 (by decide)
      refine g_ite (fun h14 => ?_) (fun h14 => ?_)
      · refine g_tIn (off := 119) (tgt := 206) X dX5_edition_87 (by rw [h14]; decide) (by rw [h14]; decide) (by rw [h14]; rfl) (by decide) ?_
        refine g_iload X dX5_edition_206 rfl ?_
        refine g_if_eq (tgt := 222) X dX5_edition_208 (by decide) ?_ ?_
        · refine g_aload_n X dX5_edition_222 rfl rfl ?_
          refine r_g_m X dX5_edition_223 ?_
          refine g_iload_n X dX5_edition_226 rfl rfl ?_
          refine g_iconst (v := (nI 4)) X dX5_edition_227 (by decide) ?_
          refine g_iadd X dX5_edition_228 ?_
          refine r_l_m X dX5_edition_229 ?_
          intro v15
          exact r_iret X dX5_edition_230
        · refine g_aload_n X dX5_edition_211 rfl rfl ?_
          refine r_g_m X dX5_edition_212 ?_
          refine g_iload_n X dX5_edition_215 rfl rfl ?_
          refine g_iconst (v := (nI 5)) X dX5_edition_216 (by decide) ?_
          refine g_iadd X dX5_edition_217 ?_
          refine r_l_m X dX5_edition_218 ?_
          intro v16
          refine g_goto (tgt := 230) X dX5_edition_219 (by decide) ?_
          exact r_iret X dX5_edition_230
      have eh14 := tn_i (n := 6) h14 (by decide)
      refine g_ite (fun h17 => ?_) (fun h17 => ?_)
      · refine g_tIn (off := 144) (tgt := 231) X dX5_edition_87 (by rw [h17]; decide) (by rw [h17]; decide) (by rw [h17]; rfl) (by decide) ?_
        refine g_iload X dX5_edition_231 rfl ?_
        refine g_if_eq (tgt := 248) X dX5_edition_233 (by decide) ?_ ?_
        · refine g_iconst (v := (nI 0)) X dX5_edition_248 (by decide) ?_
          exact r_iret X dX5_edition_249
        · refine g_aload_n X dX5_edition_236 rfl rfl ?_
          refine r_g_m X dX5_edition_237 ?_
          refine g_iload_n X dX5_edition_240 rfl rfl ?_
          refine g_bipush (v := (nI 6)) X dX5_edition_241 (by decide) ?_
          refine g_iadd X dX5_edition_243 ?_
          refine r_l_m X dX5_edition_244 ?_
          intro v18
          refine g_goto (tgt := 249) X dX5_edition_245 (by decide) ?_
          exact r_iret X dX5_edition_249
      have eh17 := tn_i (n := 7) h17 (by decide)
      refine g_tOut (tgt := 250) X dX5_edition_87 (by omega) (by decide) ?_
      refine g_bipush (v := (-3 : Int32)) X dX5_edition_250 (by decide) ?_
      exact r_iret X dX5_edition_252
    · refine g_iload X dX5_edition_47 rfl ?_
      refine g_aload_n X dX5_edition_49 rfl rfl ?_
      refine r_g_m X dX5_edition_50 ?_
      refine g_iload X dX5_edition_53 rfl ?_
      refine k_editAt X ⟨Nat.le_of_ble_eq_true rfl, Nat.le_of_ble_eq_true rfl⟩ (Nat.le_of_ble_eq_true rfl) dX5_edition_55 ?_
      intro v19 M19
      refine g_iconst (v := (nI 0)) X dX5_edition_58 (by decide) ?_
      refine g_iadd X dX5_edition_59 ?_
      refine r_l_m X dX5_edition_60 ?_
      intro v20
      refine g_aload_n X dX5_edition_61 rfl rfl ?_
      refine r_g_m X dX5_edition_62 ?_
      refine g_iload_n X dX5_edition_65 rfl rfl ?_
      refine g_iconst (v := (nI 0)) X dX5_edition_66 (by decide) ?_
      refine g_iadd X dX5_edition_67 ?_
      refine r_l_m X dX5_edition_68 ?_
      intro v21
      refine g_icmp_ne (tgt := 76) X dX5_edition_69 (by decide) ?_ ?_
      · refine g_iconst (v := (nI 0)) X dX5_edition_76 (by decide) ?_
        exact g_pick [0, 1, 2, 3, 4, 6] rfl (wR_edition_b77 X n (fR_edition_l41 n k) ih x1 x2 x3 x4 x6 x5 (nI 0) M19)
      · refine g_iconst (v := (nI 1)) X dX5_edition_72 (by decide) ?_
        refine g_goto (tgt := 77) X dX5_edition_73 (by decide) ?_
        exact g_pick [0, 1, 2, 3, 4, 6] rfl (wR_edition_b77 X n (fR_edition_l41 n k) ih x1 x2 x3 x4 x6 x5 (nI 1) M19)
def fR_edition_b33 (n : Nat) (x1 : Int32) (x2 : Int32) (x3 : Int32) (s0 : Int32) (M : MR) : Option (Int32 × MR) :=
    fR_edition_l41 n n x1 x2 x3 s0 (nI 0) (nI 0) M
theorem wR_edition_b33 (X : gX p s m args meth c cX5_edition 7 RX5 (some .int) D (tyR cI cZ)) (n : Nat) (x1 : Int32) (x2 : Int32) (x3 : Int32) (s0 : Int32) (M : MR) : gG p l e (rmR 3 63) s m args below meth c 7 (ZR D cI cZ q (AR q s.heap.size) s.heap M) 0 0 (fun r => MQ below (QI D cI cZ q s.heap.size r) args s 0 0 (AR q s.heap.size)) 33 [(0, .ref (q 34)), (1, .int x1), (2, .int x2), (3, .int x3)] [.int s0] (fR_edition_b33 n x1 x2 x3 s0 M) := by
  unfold fR_edition_b33
  refine g_istore (lv' := [(4, .int s0), (0, .ref (q 34)), (1, .int x1), (2, .int x2), (3, .int x3)]) X dX5_edition_33 (by decide) rfl ?_
  refine g_iconst (v := (nI 0)) X dX5_edition_35 (by decide) ?_
  refine g_istore (lv' := [(5, .int (nI 0)), (4, .int s0), (0, .ref (q 34)), (1, .int x1), (2, .int x2), (3, .int x3)]) X dX5_edition_36 (by decide) rfl ?_
  refine g_iconst (v := (nI 0)) X dX5_edition_38 (by decide) ?_
  refine g_istore (lv' := [(6, .int (nI 0)), (5, .int (nI 0)), (4, .int s0), (0, .ref (q 34)), (1, .int x1), (2, .int x2), (3, .int x3)]) X dX5_edition_39 (by decide) rfl ?_
  exact g_pick [3, 4, 5, 6, 2, 1, 0] rfl (wR_edition_l41 X n n x1 x2 x3 s0 (nI 0) (nI 0) M)
def fR_edition (n : Nat) (x1 : Int32) (x2 : Int32) (M : MR) : Option (Int32 × MR) :=
    bnd (fR_isEdition n x1 M) fun v1 M1 =>
    if v1 = 0 then
      (some ((-3 : Int32), M1))
    else
      (bnd (fR_editAt n x1 M1) fun v2 M2 =>
      rd M2 0 62610 (v2 + (nI 1)) fun v3 =>
      if v3 = (nI 1) then (fR_edition_b33 n x1 x2 v2 (nI 1) M2) else (fR_edition_b33 n x1 x2 v2 (nI 0) M2))
theorem c_edition (l : Launch) (D : va_G) (cI cZ : ClassId) (q : Nat → Nat) (n : Nat) (x1 : Int32) (x2 : Int32) (M : MR) : MetR l D cI cZ q yX5_edition cX5_edition 7 (some .int) 3 63 QI [.ref (q 34), .int x1, .int x2] M (fR_edition n x1 x2 M) := by
  refine MetR.of (by decide) rfl (Nat.le_of_ble_eq_true rfl) ?_
  intro p e s m args below meth c X
  unfold fR_edition
  refine g_pick (lv' := [(0, .ref (q 34)), (1, .int x1), (2, .int x2)]) [0, 1, 2] rfl ?_
  refine g_aload_n X dX5_edition_0 rfl rfl ?_
  refine g_iload_n X dX5_edition_1 rfl rfl ?_
  refine k_isEdition X ⟨Nat.le_of_ble_eq_true rfl, Nat.le_of_ble_eq_true rfl⟩ (Nat.le_of_ble_eq_true rfl) dX5_edition_2 ?_
  intro v1 M1
  refine g_if_ne (tgt := 11) X dX5_edition_5 (by decide) ?_ ?_
  · refine g_iload_n X dX5_edition_11 rfl rfl ?_
    refine k_editAt X ⟨Nat.le_of_ble_eq_true rfl, Nat.le_of_ble_eq_true rfl⟩ (Nat.le_of_ble_eq_true rfl) dX5_edition_12 ?_
    intro v2 M2
    refine g_istore_n (lv' := [(3, .int v2), (0, .ref (q 34)), (1, .int x1), (2, .int x2)]) X dX5_edition_15 rfl (by decide) rfl ?_
    refine g_aload_n X dX5_edition_16 rfl rfl ?_
    refine r_g_m X dX5_edition_17 ?_
    refine g_iload_n X dX5_edition_20 rfl rfl ?_
    refine g_iconst (v := (nI 1)) X dX5_edition_21 (by decide) ?_
    refine g_iadd X dX5_edition_22 ?_
    refine r_l_m X dX5_edition_23 ?_
    intro v3
    refine g_iconst (v := (nI 1)) X dX5_edition_24 (by decide) ?_
    refine g_icmp_ne (tgt := 32) X dX5_edition_25 (by decide) ?_ ?_
    · refine g_iconst (v := (nI 0)) X dX5_edition_32 (by decide) ?_
      exact g_pick [1, 2, 3, 0] rfl (wR_edition_b33 X n x1 x2 v2 (nI 0) M2)
    · refine g_iconst (v := (nI 1)) X dX5_edition_28 (by decide) ?_
      refine g_goto (tgt := 33) X dX5_edition_29 (by decide) ?_
      exact g_pick [1, 2, 3, 0] rfl (wR_edition_b33 X n x1 x2 v2 (nI 1) M2)
  · refine g_bipush (v := (-3 : Int32)) X dX5_edition_8 (by decide) ?_
    exact r_iret X dX5_edition_10
-- classOf
def fR_classOf (n : Nat) (x1 : Int32) (M : MR) : Option (Int32 × MR) :=
    bnd (fR_isObject n x1 M) fun v1 M1 =>
    if v1 = 0 then
      (some ((-1 : Int32), M1))
    else
      (bnd (fR_objAt n x1 M1) fun v2 M2 =>
      rd M2 0 62610 v2 fun v3 =>
      some (v3, M2))
theorem c_classOf (l : Launch) (D : va_G) (cI cZ : ClassId) (q : Nat → Nat) (n : Nat) (x1 : Int32) (M : MR) : MetR l D cI cZ q yX5_classOf cX5_classOf 2 (some .int) 1 21 QI [.ref (q 34), .int x1] M (fR_classOf n x1 M) := by
  refine MetR.of (by decide) rfl (Nat.le_of_ble_eq_true rfl) ?_
  intro p e s m args below meth c X
  unfold fR_classOf
  refine g_pick (lv' := [(0, .ref (q 34)), (1, .int x1)]) [0, 1] rfl ?_
  refine g_aload_n X dX5_classOf_0 rfl rfl ?_
  refine g_iload_n X dX5_classOf_1 rfl rfl ?_
  refine k_isObject X ⟨Nat.le_of_ble_eq_true rfl, Nat.le_of_ble_eq_true rfl⟩ (Nat.le_of_ble_eq_true rfl) dX5_classOf_2 ?_
  intro v1 M1
  refine g_if_eq (tgt := 20) X dX5_classOf_5 (by decide) ?_ ?_
  · refine g_iconst (v := (-1 : Int32)) X dX5_classOf_20 (by decide) ?_
    exact r_iret X dX5_classOf_21
  · refine g_aload_n X dX5_classOf_8 rfl rfl ?_
    refine r_g_m X dX5_classOf_9 ?_
    refine g_iload_n X dX5_classOf_12 rfl rfl ?_
    refine k_objAt X ⟨Nat.le_of_ble_eq_true rfl, Nat.le_of_ble_eq_true rfl⟩ (Nat.le_of_ble_eq_true rfl) dX5_classOf_13 ?_
    intro v2 M2
    refine r_l_m X dX5_classOf_16 ?_
    intro v3
    refine g_goto (tgt := 21) X dX5_classOf_17 (by decide) ?_
    exact r_iret X dX5_classOf_21
-- field
def fR_field_b39 (n : Nat) (x1 : Int32) (x2 : Int32) (x3 : Int32) (s0 : Int32) (M : MR) : Option (Int32 × MR) :=
    if x3 = 0 then
      (if s0 = 0 then
        (some ((-1 : Int32), M))
      else
        (bnd (fR_objAt n x1 M) fun v3 M3 =>
        rd M3 0 62610 ((v3 + (nI 1)) + x2) fun v4 =>
        some ((v4 - (nI 1)), M3)))
    else
      (if x3 = (nI 1) then
        (if s0 = 0 then
          (some ((nI 0), M))
        else
          (bnd (fR_objAt n x1 M) fun v1 M1 =>
          rd M1 0 62610 ((v1 + (nI 11)) + x2) fun v2 =>
          some (v2, M1)))
      else
        (some ((nI 0), M)))
theorem wR_field_b39 (X : gX p s m args meth c cX5_field 5 RX5 (some .int) D (tyR cI cZ)) (n : Nat) (x1 : Int32) (x2 : Int32) (x3 : Int32) (s0 : Int32) (M : MR) : gG p l e (rmR 1 21) s m args below meth c 5 (ZR D cI cZ q (AR q s.heap.size) s.heap M) 0 0 (fun r => MQ below (QI D cI cZ q s.heap.size r) args s 0 0 (AR q s.heap.size)) 39 [(0, .ref (q 34)), (1, .int x1), (2, .int x2), (3, .int x3)] [.int s0] (fR_field_b39 n x1 x2 x3 s0 M) := by
  unfold fR_field_b39
  refine g_istore (lv' := [(4, .int s0), (0, .ref (q 34)), (1, .int x1), (2, .int x2), (3, .int x3)]) X dX5_field_39 (by decide) rfl ?_
  refine g_iload_n X dX5_field_41 rfl rfl ?_
  refine g_if_ne (tgt := 72) X dX5_field_42 (by decide) ?_ ?_
  · refine g_iload_n X dX5_field_72 rfl rfl ?_
    refine g_iconst (v := (nI 1)) X dX5_field_73 (by decide) ?_
    refine g_icmp_ne (tgt := 99) X dX5_field_74 (by decide) ?_ ?_
    · refine g_iconst (v := (nI 0)) X dX5_field_99 (by decide) ?_
      exact r_iret X dX5_field_100
    · refine g_iload X dX5_field_77 rfl ?_
      refine g_if_eq (tgt := 99) X dX5_field_79 (by decide) ?_ ?_
      · refine g_iconst (v := (nI 0)) X dX5_field_99 (by decide) ?_
        exact r_iret X dX5_field_100
      · refine g_aload_n X dX5_field_82 rfl rfl ?_
        refine r_g_m X dX5_field_83 ?_
        refine g_iload_n X dX5_field_86 rfl rfl ?_
        refine k_objAt X ⟨Nat.le_of_ble_eq_true rfl, Nat.le_of_ble_eq_true rfl⟩ (Nat.le_of_ble_eq_true rfl) dX5_field_87 ?_
        intro v1 M1
        refine g_bipush (v := (nI 11)) X dX5_field_90 (by decide) ?_
        refine g_iadd X dX5_field_92 ?_
        refine g_iload_n X dX5_field_93 rfl rfl ?_
        refine g_iadd X dX5_field_94 ?_
        refine r_l_m X dX5_field_95 ?_
        intro v2
        refine g_goto (tgt := 100) X dX5_field_96 (by decide) ?_
        exact r_iret X dX5_field_100
  · refine g_iload X dX5_field_45 rfl ?_
    refine g_if_eq (tgt := 68) X dX5_field_47 (by decide) ?_ ?_
    · refine g_iconst (v := (-1 : Int32)) X dX5_field_68 (by decide) ?_
      refine g_goto (tgt := 100) X dX5_field_69 (by decide) ?_
      exact r_iret X dX5_field_100
    · refine g_aload_n X dX5_field_50 rfl rfl ?_
      refine r_g_m X dX5_field_51 ?_
      refine g_iload_n X dX5_field_54 rfl rfl ?_
      refine k_objAt X ⟨Nat.le_of_ble_eq_true rfl, Nat.le_of_ble_eq_true rfl⟩ (Nat.le_of_ble_eq_true rfl) dX5_field_55 ?_
      intro v3 M3
      refine g_iconst (v := (nI 1)) X dX5_field_58 (by decide) ?_
      refine g_iadd X dX5_field_59 ?_
      refine g_iload_n X dX5_field_60 rfl rfl ?_
      refine g_iadd X dX5_field_61 ?_
      refine r_l_m X dX5_field_62 ?_
      intro v4
      refine g_iconst (v := (nI 1)) X dX5_field_63 (by decide) ?_
      refine g_isub X dX5_field_64 ?_
      refine g_goto (tgt := 100) X dX5_field_65 (by decide) ?_
      exact r_iret X dX5_field_100
def fR_field_b38 (n : Nat) (x1 : Int32) (x2 : Int32) (x3 : Int32) (M : MR) : Option (Int32 × MR) :=
    fR_field_b39 n x1 x2 x3 (nI 0) M
theorem wR_field_b38 (X : gX p s m args meth c cX5_field 5 RX5 (some .int) D (tyR cI cZ)) (n : Nat) (x1 : Int32) (x2 : Int32) (x3 : Int32) (M : MR) : gG p l e (rmR 1 21) s m args below meth c 5 (ZR D cI cZ q (AR q s.heap.size) s.heap M) 0 0 (fun r => MQ below (QI D cI cZ q s.heap.size r) args s 0 0 (AR q s.heap.size)) 38 [(0, .ref (q 34)), (1, .int x1), (2, .int x2), (3, .int x3)] [] (fR_field_b38 n x1 x2 x3 M) := by
  unfold fR_field_b38
  refine g_iconst (v := (nI 0)) X dX5_field_38 (by decide) ?_
  exact g_pick [0, 1, 2, 3] rfl (wR_field_b39 X n x1 x2 x3 (nI 0) M)
def fR_field (n : Nat) (x1 : Int32) (x2 : Int32) (x3 : Int32) (M : MR) : Option (Int32 × MR) :=
    bnd (fR_isObject n x1 M) fun v1 M1 =>
    if v1 = 0 then
      (fR_field_b38 n x1 x2 x3 M1)
    else
      (if x2 < 0 then
        (fR_field_b38 n x1 x2 x3 M1)
      else
        (if (nI 9) < x2 then
          (fR_field_b38 n x1 x2 x3 M1)
        else
          (bnd (fR_objAt n x1 M1) fun v2 M2 =>
          rd M2 0 62610 ((v2 + (nI 1)) + x2) fun v3 =>
          if v3 = 0 then (fR_field_b38 n x1 x2 x3 M2) else (fR_field_b39 n x1 x2 x3 (nI 1) M2))))
theorem c_field (l : Launch) (D : va_G) (cI cZ : ClassId) (q : Nat → Nat) (n : Nat) (x1 : Int32) (x2 : Int32) (x3 : Int32) (M : MR) : MetR l D cI cZ q yX5_field cX5_field 5 (some .int) 1 21 QI [.ref (q 34), .int x1, .int x2, .int x3] M (fR_field n x1 x2 x3 M) := by
  refine MetR.of (by decide) rfl (Nat.le_of_ble_eq_true rfl) ?_
  intro p e s m args below meth c X
  unfold fR_field
  refine g_pick (lv' := [(0, .ref (q 34)), (1, .int x1), (2, .int x2), (3, .int x3)]) [0, 1, 2, 3] rfl ?_
  refine g_aload_n X dX5_field_0 rfl rfl ?_
  refine g_iload_n X dX5_field_1 rfl rfl ?_
  refine k_isObject X ⟨Nat.le_of_ble_eq_true rfl, Nat.le_of_ble_eq_true rfl⟩ (Nat.le_of_ble_eq_true rfl) dX5_field_2 ?_
  intro v1 M1
  refine g_if_eq (tgt := 38) X dX5_field_5 (by decide) ?_ ?_
  · exact g_pick [0, 1, 2, 3] rfl (wR_field_b38 X n x1 x2 x3 M1)
  · refine g_iload_n X dX5_field_8 rfl rfl ?_
    refine g_if_lt (tgt := 38) X dX5_field_9 (by decide) ?_ ?_
    · exact g_pick [0, 1, 2, 3] rfl (wR_field_b38 X n x1 x2 x3 M1)
    · refine g_iload_n X dX5_field_12 rfl rfl ?_
      refine g_bipush (v := (nI 9)) X dX5_field_13 (by decide) ?_
      refine g_icmp_gt (tgt := 38) X dX5_field_15 (by decide) ?_ ?_
      · exact g_pick [0, 1, 2, 3] rfl (wR_field_b38 X n x1 x2 x3 M1)
      · refine g_aload_n X dX5_field_18 rfl rfl ?_
        refine r_g_m X dX5_field_19 ?_
        refine g_iload_n X dX5_field_22 rfl rfl ?_
        refine k_objAt X ⟨Nat.le_of_ble_eq_true rfl, Nat.le_of_ble_eq_true rfl⟩ (Nat.le_of_ble_eq_true rfl) dX5_field_23 ?_
        intro v2 M2
        refine g_iconst (v := (nI 1)) X dX5_field_26 (by decide) ?_
        refine g_iadd X dX5_field_27 ?_
        refine g_iload_n X dX5_field_28 rfl rfl ?_
        refine g_iadd X dX5_field_29 ?_
        refine r_l_m X dX5_field_30 ?_
        intro v3
        refine g_if_eq (tgt := 38) X dX5_field_31 (by decide) ?_ ?_
        · exact g_pick [0, 1, 2, 3] rfl (wR_field_b38 X n x1 x2 x3 M2)
        · refine g_iconst (v := (nI 1)) X dX5_field_34 (by decide) ?_
          refine g_goto (tgt := 39) X dX5_field_35 (by decide) ?_
          exact g_pick [0, 1, 2, 3] rfl (wR_field_b39 X n x1 x2 x3 (nI 1) M2)
-- is
def fR_is (n : Nat) (x1 : Int32) (x2 : Int32) (M : MR) : Option (Int32 × MR) :=
    bnd (fR_isObject n x1 M) fun v1 M1 =>
    if v1 = 0 then
      (zt (nI 0) (some ((nI 0), M1)))
    else
      (bnd (fR_isClass n x2 M1) fun v2 M2 =>
      if v2 = 0 then
        (zt (nI 0) (some ((nI 0), M2)))
      else
        (bnd (fR_objAt n x1 M2) fun v3 M3 =>
        rd M3 0 62610 v3 fun v4 =>
        bnd (fR_isBelow n v4 x2 M3) fun v5 M5 =>
        if v5 = 0 then (zt (nI 0) (some ((nI 0), M5))) else (zt (nI 1) (some ((nI 1), M5)))))
theorem c_is (l : Launch) (D : va_G) (cI cZ : ClassId) (q : Nat → Nat) (n : Nat) (x1 : Int32) (x2 : Int32) (M : MR) : MetR l D cI cZ q yX5_is cX5_is 3 (some .boolean) 4 86 QI [.ref (q 34), .int x1, .int x2] M (fR_is n x1 x2 M) := by
  refine MetR.of (by decide) rfl (Nat.le_of_ble_eq_true rfl) ?_
  intro p e s m args below meth c X
  unfold fR_is
  refine g_pick (lv' := [(0, .ref (q 34)), (1, .int x1), (2, .int x2)]) [0, 1, 2] rfl ?_
  refine g_aload_n X dX5_is_0 rfl rfl ?_
  refine g_iload_n X dX5_is_1 rfl rfl ?_
  refine k_isObject X ⟨Nat.le_of_ble_eq_true rfl, Nat.le_of_ble_eq_true rfl⟩ (Nat.le_of_ble_eq_true rfl) dX5_is_2 ?_
  intro v1 M1
  refine g_if_eq (tgt := 37) X dX5_is_5 (by decide) ?_ ?_
  · refine g_iconst (v := (nI 0)) X dX5_is_37 (by decide) ?_
    exact r_zret X dX5_is_38
  · refine g_aload_n X dX5_is_8 rfl rfl ?_
    refine g_iload_n X dX5_is_9 rfl rfl ?_
    refine k_isClass X ⟨Nat.le_of_ble_eq_true rfl, Nat.le_of_ble_eq_true rfl⟩ (Nat.le_of_ble_eq_true rfl) dX5_is_10 ?_
    intro v2 M2
    refine g_if_eq (tgt := 37) X dX5_is_13 (by decide) ?_ ?_
    · refine g_iconst (v := (nI 0)) X dX5_is_37 (by decide) ?_
      exact r_zret X dX5_is_38
    · refine g_aload_n X dX5_is_16 rfl rfl ?_
      refine g_aload_n X dX5_is_17 rfl rfl ?_
      refine r_g_m X dX5_is_18 ?_
      refine g_iload_n X dX5_is_21 rfl rfl ?_
      refine k_objAt X ⟨Nat.le_of_ble_eq_true rfl, Nat.le_of_ble_eq_true rfl⟩ (Nat.le_of_ble_eq_true rfl) dX5_is_22 ?_
      intro v3 M3
      refine r_l_m X dX5_is_25 ?_
      intro v4
      refine g_iload_n X dX5_is_26 rfl rfl ?_
      refine k_isBelow X ⟨Nat.le_of_ble_eq_true rfl, Nat.le_of_ble_eq_true rfl⟩ (Nat.le_of_ble_eq_true rfl) dX5_is_27 ?_
      intro v5 M5
      refine g_if_eq (tgt := 37) X dX5_is_30 (by decide) ?_ ?_
      · refine g_iconst (v := (nI 0)) X dX5_is_37 (by decide) ?_
        exact r_zret X dX5_is_38
      · refine g_iconst (v := (nI 1)) X dX5_is_33 (by decide) ?_
        refine g_goto (tgt := 38) X dX5_is_34 (by decide) ?_
        exact r_zret X dX5_is_38
-- call
def fR_call_b142 (n : Nat) (s0 : Int32) (M : MR) : Option (Int32 × MR) :=
    pf M 32 s0 fun M1 =>
    gf M1 23 fun v2 =>
    pf M1 33 v2 fun M3 =>
    gf M3 24 fun v4 =>
    if v4 = 0 then
      (some ((nI 0), M3))
    else
      (gf M3 24 fun v5 =>
      if v5 = (nI 100) then (some ((nI 2), M3)) else (some ((nI 1), M3)))
theorem wR_call_b142 (X : gX p s m args meth c cX5_call 4 RX5 (some .int) D (tyR cI cZ)) (n : Nat) (s0 : Int32) (M : MR) : gG p l e (rmR 9 207) s m args below meth c 4 (ZR D cI cZ q (AR q s.heap.size) s.heap M) 0 0 (fun r => MQ below (QI D cI cZ q s.heap.size r) args s 0 0 (AR q s.heap.size)) 142 [(0, .ref (q 34))] [.int s0, .ref (q 34)] (fR_call_b142 n s0 M) := by
  unfold fR_call_b142
  refine r_p_cameFailure X dX5_call_142 ?_
  intro M1
  refine g_aload_n X dX5_call_145 rfl rfl ?_
  refine g_aload_n X dX5_call_146 rfl rfl ?_
  refine r_g_steps X dX5_call_147 ?_
  intro v2
  refine r_p_cameSteps X dX5_call_150 ?_
  intro M3
  refine g_aload_n X dX5_call_153 rfl rfl ?_
  refine r_g_failure X dX5_call_154 ?_
  intro v4
  refine g_if_ne (tgt := 164) X dX5_call_157 (by decide) ?_ ?_
  · refine g_aload_n X dX5_call_164 rfl rfl ?_
    refine r_g_failure X dX5_call_165 ?_
    intro v5
    refine g_bipush (v := (nI 100)) X dX5_call_168 (by decide) ?_
    refine g_icmp_ne (tgt := 177) X dX5_call_170 (by decide) ?_ ?_
    · refine g_iconst (v := (nI 1)) X dX5_call_177 (by decide) ?_
      exact r_iret X dX5_call_178
    · refine g_iconst (v := (nI 2)) X dX5_call_173 (by decide) ?_
      refine g_goto (tgt := 178) X dX5_call_174 (by decide) ?_
      exact r_iret X dX5_call_178
  · refine g_iconst (v := (nI 0)) X dX5_call_160 (by decide) ?_
    refine g_goto (tgt := 178) X dX5_call_161 (by decide) ?_
    exact r_iret X dX5_call_178
def fR_call_b121 (n : Nat) (s0 : Int32) (M : MR) : Option (Int32 × MR) :=
    pf M 31 s0 fun M1 =>
    gf M1 24 fun v2 =>
    if v2 = (nI 100) then
      (fR_call_b142 n (nI 0) M1)
    else
      (gf M1 24 fun v3 =>
      fR_call_b142 n v3 M1)
theorem wR_call_b121 (X : gX p s m args meth c cX5_call 4 RX5 (some .int) D (tyR cI cZ)) (n : Nat) (s0 : Int32) (M : MR) : gG p l e (rmR 9 207) s m args below meth c 4 (ZR D cI cZ q (AR q s.heap.size) s.heap M) 0 0 (fun r => MQ below (QI D cI cZ q s.heap.size r) args s 0 0 (AR q s.heap.size)) 121 [(0, .ref (q 34))] [.int s0, .ref (q 34)] (fR_call_b121 n s0 M) := by
  unfold fR_call_b121
  refine r_p_cameValue X dX5_call_121 ?_
  intro M1
  refine g_aload_n X dX5_call_124 rfl rfl ?_
  refine g_aload_n X dX5_call_125 rfl rfl ?_
  refine r_g_failure X dX5_call_126 ?_
  intro v2
  refine g_bipush (v := (nI 100)) X dX5_call_129 (by decide) ?_
  refine g_icmp_ne (tgt := 138) X dX5_call_131 (by decide) ?_ ?_
  · refine g_aload_n X dX5_call_138 rfl rfl ?_
    refine r_g_failure X dX5_call_139 ?_
    intro v3
    exact g_pick [0] rfl (wR_call_b142 X n v3 M1)
  · refine g_iconst (v := (nI 0)) X dX5_call_134 (by decide) ?_
    refine g_goto (tgt := 142) X dX5_call_135 (by decide) ?_
    exact g_pick [0] rfl (wR_call_b142 X n (nI 0) M1)
def fR_call_b100 (n : Nat) (s0 : Int32) (M : MR) : Option (Int32 × MR) :=
    pf M 30 s0 fun M1 =>
    gf M1 24 fun v2 =>
    if v2 = 0 then
      (rd M1 11 2000 (nI 0) fun v3 =>
      fR_call_b121 n v3 M1)
    else
      (fR_call_b121 n (nI 0) M1)
theorem wR_call_b100 (X : gX p s m args meth c cX5_call 4 RX5 (some .int) D (tyR cI cZ)) (n : Nat) (s0 : Int32) (M : MR) : gG p l e (rmR 9 207) s m args below meth c 4 (ZR D cI cZ q (AR q s.heap.size) s.heap M) 0 0 (fun r => MQ below (QI D cI cZ q s.heap.size r) args s 0 0 (AR q s.heap.size)) 100 [(0, .ref (q 34))] [.int s0, .ref (q 34)] (fR_call_b100 n s0 M) := by
  unfold fR_call_b100
  refine r_p_cameKind X dX5_call_100 ?_
  intro M1
  refine g_aload_n X dX5_call_103 rfl rfl ?_
  refine g_aload_n X dX5_call_104 rfl rfl ?_
  refine r_g_failure X dX5_call_105 ?_
  intro v2
  refine g_if_ne (tgt := 120) X dX5_call_108 (by decide) ?_ ?_
  · refine g_iconst (v := (nI 0)) X dX5_call_120 (by decide) ?_
    exact g_pick [0] rfl (wR_call_b121 X n (nI 0) M1)
  · refine g_aload_n X dX5_call_111 rfl rfl ?_
    refine r_g_value X dX5_call_112 ?_
    refine g_iconst (v := (nI 0)) X dX5_call_115 (by decide) ?_
    refine r_l_value X dX5_call_116 ?_
    intro v3
    refine g_goto (tgt := 121) X dX5_call_117 (by decide) ?_
    exact g_pick [0] rfl (wR_call_b121 X n v3 M1)
def fR_call_b99 (n : Nat) (M : MR) : Option (Int32 × MR) :=
    fR_call_b100 n (nI 0) M
theorem wR_call_b99 (X : gX p s m args meth c cX5_call 4 RX5 (some .int) D (tyR cI cZ)) (n : Nat) (M : MR) : gG p l e (rmR 9 207) s m args below meth c 4 (ZR D cI cZ q (AR q s.heap.size) s.heap M) 0 0 (fun r => MQ below (QI D cI cZ q s.heap.size r) args s 0 0 (AR q s.heap.size)) 99 [(0, .ref (q 34))] [.ref (q 34)] (fR_call_b99 n M) := by
  unfold fR_call_b99
  refine g_iconst (v := (nI 0)) X dX5_call_99 (by decide) ?_
  exact g_pick [0] rfl (wR_call_b100 X n (nI 0) M)
def fR_call_b78 (n : Nat) (M : MR) : Option (Int32 × MR) :=
    gf M 24 fun v1 =>
    if v1 = 0 then
      (rd M 10 2000 (nI 0) fun v2 =>
      if v2 = 0 then (fR_call_b99 n M) else (fR_call_b100 n (nI 1) M))
    else
      (fR_call_b99 n M)
theorem wR_call_b78 (X : gX p s m args meth c cX5_call 4 RX5 (some .int) D (tyR cI cZ)) (n : Nat) (M : MR) : gG p l e (rmR 9 207) s m args below meth c 4 (ZR D cI cZ q (AR q s.heap.size) s.heap M) 0 0 (fun r => MQ below (QI D cI cZ q s.heap.size r) args s 0 0 (AR q s.heap.size)) 78 [(0, .ref (q 34))] [] (fR_call_b78 n M) := by
  unfold fR_call_b78
  refine g_aload_n X dX5_call_78 rfl rfl ?_
  refine g_aload_n X dX5_call_79 rfl rfl ?_
  refine r_g_failure X dX5_call_80 ?_
  intro v1
  refine g_if_ne (tgt := 99) X dX5_call_83 (by decide) ?_ ?_
  · exact g_pick [0] rfl (wR_call_b99 X n M)
  · refine g_aload_n X dX5_call_86 rfl rfl ?_
    refine r_g_isObj X dX5_call_87 ?_
    refine g_iconst (v := (nI 0)) X dX5_call_90 (by decide) ?_
    refine r_l_isObj X dX5_call_91 ?_
    intro v2
    refine g_if_eq (tgt := 99) X dX5_call_92 (by decide) ?_ ?_
    · exact g_pick [0] rfl (wR_call_b99 X n M)
    · refine g_iconst (v := (nI 1)) X dX5_call_95 (by decide) ?_
      refine g_goto (tgt := 100) X dX5_call_96 (by decide) ?_
      exact g_pick [0] rfl (wR_call_b100 X n (nI 1) M)
def fR_call (n : Nat) (x1 : Int32) (x2 : Int32) (x3 : Int32) (M : MR) : Option (Int32 × MR) :=
    bnd (fR_isObject n x1 M) fun v1 M1 =>
    if v1 = 0 then
      (some ((-1 : Int32), M1))
    else
      (if x2 < 0 then
        (some ((-1 : Int32), M1))
      else
        (if x2 ≤ (nI 4) then
          (pf M1 12 (nI 0) fun M2 =>
          pf M2 20 (nI 0) fun M3 =>
          pf M3 21 (nI 0) fun M4 =>
          pf M4 23 (nI 0) fun M5 =>
          pf M5 24 (nI 0) fun M6 =>
          pf M6 25 (nI 0) fun M7 =>
          bnd (fR_push n (nI 1) x1 M7) fun _ M8 =>
          bnd (fR_push n (nI 0) x3 M8) fun _ M9 =>
          bnd (fR_method n x1 x2 M9) fun _ M10 =>
          gf M10 24 fun v11 =>
          if v11 = 0 then
            (bnd (fR_work n M10) fun _ M12 =>
            fR_call_b78 n M12)
          else
            (fR_call_b78 n M10))
        else
          (some ((-1 : Int32), M1))))
theorem c_call (l : Launch) (D : va_G) (cI cZ : ClassId) (q : Nat → Nat) (n : Nat) (x1 : Int32) (x2 : Int32) (x3 : Int32) (M : MR) : MetR l D cI cZ q yX5_call cX5_call 4 (some .int) 9 207 QI [.ref (q 34), .int x1, .int x2, .int x3] M (fR_call n x1 x2 x3 M) := by
  refine MetR.of (by decide) rfl (Nat.le_of_ble_eq_true rfl) ?_
  intro p e s m args below meth c X
  unfold fR_call
  refine g_pick (lv' := [(0, .ref (q 34)), (1, .int x1), (2, .int x2), (3, .int x3)]) [0, 1, 2, 3] rfl ?_
  refine g_aload_n X dX5_call_0 rfl rfl ?_
  refine g_iload_n X dX5_call_1 rfl rfl ?_
  refine k_isObject X ⟨Nat.le_of_ble_eq_true rfl, Nat.le_of_ble_eq_true rfl⟩ (Nat.le_of_ble_eq_true rfl) dX5_call_2 ?_
  intro v1 M1
  refine g_if_eq (tgt := 17) X dX5_call_5 (by decide) ?_ ?_
  · refine g_iconst (v := (-1 : Int32)) X dX5_call_17 (by decide) ?_
    exact r_iret X dX5_call_18
  · refine g_iload_n X dX5_call_8 rfl rfl ?_
    refine g_if_lt (tgt := 17) X dX5_call_9 (by decide) ?_ ?_
    · refine g_iconst (v := (-1 : Int32)) X dX5_call_17 (by decide) ?_
      exact r_iret X dX5_call_18
    · refine g_iload_n X dX5_call_12 rfl rfl ?_
      refine g_iconst (v := (nI 4)) X dX5_call_13 (by decide) ?_
      refine g_icmp_le (tgt := 19) X dX5_call_14 (by decide) ?_ ?_
      · refine g_aload_n X dX5_call_19 rfl rfl ?_
        refine g_iconst (v := (nI 0)) X dX5_call_20 (by decide) ?_
        refine r_p_top X dX5_call_21 ?_
        intro M2
        refine g_aload_n X dX5_call_24 rfl rfl ?_
        refine g_iconst (v := (nI 0)) X dX5_call_25 (by decide) ?_
        refine r_p_frames X dX5_call_26 ?_
        intro M3
        refine g_aload_n X dX5_call_29 rfl rfl ?_
        refine g_iconst (v := (nI 0)) X dX5_call_30 (by decide) ?_
        refine r_p_inner X dX5_call_31 ?_
        intro M4
        refine g_aload_n X dX5_call_34 rfl rfl ?_
        refine g_iconst (v := (nI 0)) X dX5_call_35 (by decide) ?_
        refine r_p_steps X dX5_call_36 ?_
        intro M5
        refine g_aload_n X dX5_call_39 rfl rfl ?_
        refine g_iconst (v := (nI 0)) X dX5_call_40 (by decide) ?_
        refine r_p_failure X dX5_call_41 ?_
        intro M6
        refine g_aload_n X dX5_call_44 rfl rfl ?_
        refine g_iconst (v := (nI 0)) X dX5_call_45 (by decide) ?_
        refine r_p_wrote X dX5_call_46 ?_
        intro M7
        refine g_aload_n X dX5_call_49 rfl rfl ?_
        refine g_iconst (v := (nI 1)) X dX5_call_50 (by decide) ?_
        refine g_iload_n X dX5_call_51 rfl rfl ?_
        refine k_push X ⟨Nat.le_of_ble_eq_true rfl, Nat.le_of_ble_eq_true rfl⟩ (Nat.le_of_ble_eq_true rfl) dX5_call_52 ?_
        intro v8 M8
        refine g_aload_n X dX5_call_55 rfl rfl ?_
        refine g_iconst (v := (nI 0)) X dX5_call_56 (by decide) ?_
        refine g_iload_n X dX5_call_57 rfl rfl ?_
        refine k_push X ⟨Nat.le_of_ble_eq_true rfl, Nat.le_of_ble_eq_true rfl⟩ (Nat.le_of_ble_eq_true rfl) dX5_call_58 ?_
        intro v9 M9
        refine g_aload_n X dX5_call_61 rfl rfl ?_
        refine g_iload_n X dX5_call_62 rfl rfl ?_
        refine g_iload_n X dX5_call_63 rfl rfl ?_
        refine k_method X ⟨Nat.le_of_ble_eq_true rfl, Nat.le_of_ble_eq_true rfl⟩ (Nat.le_of_ble_eq_true rfl) dX5_call_64 ?_
        intro v10 M10
        refine g_aload_n X dX5_call_67 rfl rfl ?_
        refine r_g_failure X dX5_call_68 ?_
        intro v11
        refine g_if_ne (tgt := 78) X dX5_call_71 (by decide) ?_ ?_
        · exact g_pick [0] rfl (wR_call_b78 X n M10)
        · refine g_aload_n X dX5_call_74 rfl rfl ?_
          refine k_work X ⟨Nat.le_of_ble_eq_true rfl, Nat.le_of_ble_eq_true rfl⟩ (Nat.le_of_ble_eq_true rfl) dX5_call_75 ?_
          intro v12 M12
          exact g_pick [0] rfl (wR_call_b78 X n M12)
      · refine g_iconst (v := (-1 : Int32)) X dX5_call_17 (by decide) ?_
        exact r_iret X dX5_call_18
-- came
def fR_came (n : Nat) (x1 : Int32) (M : MR) : Option (Int32 × MR) :=
    if x1 = 0 then
      (gf M 30 fun v4 =>
      some (v4, M))
    else
      (if x1 = (nI 1) then
        (gf M 31 fun v3 =>
        some (v3, M))
      else
        (if x1 = (nI 2) then
          (gf M 32 fun v2 =>
          some (v2, M))
        else
          (if x1 = (nI 3) then
            (gf M 33 fun v1 =>
            some (v1, M))
          else
            (some ((nI 0), M)))))
theorem c_came (l : Launch) (D : va_G) (cI cZ : ClassId) (q : Nat → Nat) (n : Nat) (x1 : Int32) (M : MR) : MetR l D cI cZ q yX5_came cX5_came 2 (some .int) 0 0 QI [.ref (q 34), .int x1] M (fR_came n x1 M) := by
  refine MetR.of (by decide) rfl (Nat.le_of_ble_eq_true rfl) ?_
  intro p e s m args below meth c X
  unfold fR_came
  refine g_pick (lv' := [(0, .ref (q 34)), (1, .int x1)]) [0, 1] rfl ?_
  refine g_iload_n X dX5_came_0 rfl rfl ?_
  refine g_if_ne (tgt := 11) X dX5_came_1 (by decide) ?_ ?_
  · refine g_iload_n X dX5_came_11 rfl rfl ?_
    refine g_iconst (v := (nI 1)) X dX5_came_12 (by decide) ?_
    refine g_icmp_ne (tgt := 23) X dX5_came_13 (by decide) ?_ ?_
    · refine g_iload_n X dX5_came_23 rfl rfl ?_
      refine g_iconst (v := (nI 2)) X dX5_came_24 (by decide) ?_
      refine g_icmp_ne (tgt := 35) X dX5_came_25 (by decide) ?_ ?_
      · refine g_iload_n X dX5_came_35 rfl rfl ?_
        refine g_iconst (v := (nI 3)) X dX5_came_36 (by decide) ?_
        refine g_icmp_ne (tgt := 47) X dX5_came_37 (by decide) ?_ ?_
        · refine g_iconst (v := (nI 0)) X dX5_came_47 (by decide) ?_
          exact r_iret X dX5_came_48
        · refine g_aload_n X dX5_came_40 rfl rfl ?_
          refine r_g_cameSteps X dX5_came_41 ?_
          intro v1
          refine g_goto (tgt := 48) X dX5_came_44 (by decide) ?_
          exact r_iret X dX5_came_48
      · refine g_aload_n X dX5_came_28 rfl rfl ?_
        refine r_g_cameFailure X dX5_came_29 ?_
        intro v2
        refine g_goto (tgt := 48) X dX5_came_32 (by decide) ?_
        exact r_iret X dX5_came_48
    · refine g_aload_n X dX5_came_16 rfl rfl ?_
      refine r_g_cameValue X dX5_came_17 ?_
      intro v3
      refine g_goto (tgt := 48) X dX5_came_20 (by decide) ?_
      exact r_iret X dX5_came_48
  · refine g_aload_n X dX5_came_4 rfl rfl ?_
    refine r_g_cameKind X dX5_came_5 ?_
    intro v4
    refine g_goto (tgt := 48) X dX5_came_8 (by decide) ?_
    exact r_iret X dX5_came_48
end RM
