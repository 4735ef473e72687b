theorem dX5_ofObject_0 : decode cX5_ofObject 0 = .ok (.iload_n 1, 1) := by decide +kernel
theorem dX5_ofObject_1 : decode cX5_ofObject 1 = .ok (.iconst 5, 1) := by decide +kernel
theorem dX5_ofObject_2 : decode cX5_ofObject 2 = .ok (.if_icmp .ne 12, 3) := by decide +kernel
theorem dX5_ofObject_5 : decode cX5_ofObject 5 = .ok (.aload_n 0, 1) := by decide +kernel
theorem dX5_ofObject_6 : decode cX5_ofObject 6 = .ok (.getfield 147, 3) := by decide +kernel
theorem dX5_ofObject_9 : decode cX5_ofObject 9 = .ok (.iconst 1, 1) := by decide +kernel
theorem dX5_ofObject_10 : decode cX5_ofObject 10 = .ok (.isub, 1) := by decide +kernel
theorem dX5_ofObject_11 : decode cX5_ofObject 11 = .ok (.goto 9, 3) := by decide +kernel
theorem dX5_ofObject_14 : decode cX5_ofObject 14 = .ok (.aload_n 0, 1) := by decide +kernel
theorem dX5_ofObject_15 : decode cX5_ofObject 15 = .ok (.getfield 147, 3) := by decide +kernel
theorem dX5_ofObject_18 : decode cX5_ofObject 18 = .ok (.iconst 2, 1) := by decide +kernel
theorem dX5_ofObject_19 : decode cX5_ofObject 19 = .ok (.isub, 1) := by decide +kernel
theorem dX5_ofObject_20 : decode cX5_ofObject 20 = .ok (.istore_n 3, 1) := by decide +kernel
theorem dX5_ofObject_21 : decode cX5_ofObject 21 = .ok (.aload_n 0, 1) := by decide +kernel
theorem dX5_ofObject_22 : decode cX5_ofObject 22 = .ok (.getfield 30, 3) := by decide +kernel
theorem dX5_ofObject_25 : decode cX5_ofObject 25 = .ok (.iload_n 3, 1) := by decide +kernel
theorem dX5_ofObject_26 : decode cX5_ofObject 26 = .ok (.baload, 1) := by decide +kernel
theorem dX5_ofObject_27 : decode cX5_ofObject 27 = .ok (.ifCond .ne 9, 3) := by decide +kernel
theorem dX5_ofObject_30 : decode cX5_ofObject 30 = .ok (.aload_n 0, 1) := by decide +kernel
theorem dX5_ofObject_31 : decode cX5_ofObject 31 = .ok (.iconst 1, 1) := by decide +kernel
theorem dX5_ofObject_32 : decode cX5_ofObject 32 = .ok (.invokevirtual 169, 3) := by decide +kernel
theorem dX5_ofObject_35 : decode cX5_ofObject 35 = .ok (.return_, 1) := by decide +kernel
theorem dX5_ofObject_36 : decode cX5_ofObject 36 = .ok (.aload_n 0, 1) := by decide +kernel
theorem dX5_ofObject_37 : decode cX5_ofObject 37 = .ok (.getfield 33, 3) := by decide +kernel
theorem dX5_ofObject_40 : decode cX5_ofObject 40 = .ok (.iload_n 3, 1) := by decide +kernel
theorem dX5_ofObject_41 : decode cX5_ofObject 41 = .ok (.iaload, 1) := by decide +kernel
theorem dX5_ofObject_42 : decode cX5_ofObject 42 = .ok (.istore 4, 2) := by decide +kernel
theorem dX5_ofObject_44 : decode cX5_ofObject 44 = .ok (.iload_n 1, 1) := by decide +kernel
theorem dX5_ofObject_45 : decode cX5_ofObject 45 = .ok (.bipush 7, 2) := by decide +kernel
theorem dX5_ofObject_47 : decode cX5_ofObject 47 = .ok (.if_icmp .ne 11, 3) := by decide +kernel
theorem dX5_ofObject_50 : decode cX5_ofObject 50 = .ok (.aload_n 0, 1) := by decide +kernel
theorem dX5_ofObject_51 : decode cX5_ofObject 51 = .ok (.iload 4, 2) := by decide +kernel
theorem dX5_ofObject_53 : decode cX5_ofObject 53 = .ok (.iload_n 2, 1) := by decide +kernel
theorem dX5_ofObject_54 : decode cX5_ofObject 54 = .ok (.invokevirtual 205, 3) := by decide +kernel
theorem dX5_ofObject_57 : decode cX5_ofObject 57 = .ok (.return_, 1) := by decide +kernel
theorem dX5_ofObject_58 : decode cX5_ofObject 58 = .ok (.iload 4, 2) := by decide +kernel
theorem dX5_ofObject_60 : decode cX5_ofObject 60 = .ok (.invokestatic 141, 3) := by decide +kernel
theorem dX5_ofObject_63 : decode cX5_ofObject 63 = .ok (.iconst 1, 1) := by decide +kernel
theorem dX5_ofObject_64 : decode cX5_ofObject 64 = .ok (.iadd, 1) := by decide +kernel
theorem dX5_ofObject_65 : decode cX5_ofObject 65 = .ok (.iload_n 2, 1) := by decide +kernel
theorem dX5_ofObject_66 : decode cX5_ofObject 66 = .ok (.iadd, 1) := by decide +kernel
theorem dX5_ofObject_67 : decode cX5_ofObject 67 = .ok (.istore 5, 2) := by decide +kernel
theorem dX5_ofObject_69 : decode cX5_ofObject 69 = .ok (.aload_n 0, 1) := by decide +kernel
theorem dX5_ofObject_70 : decode cX5_ofObject 70 = .ok (.getfield 8, 3) := by decide +kernel
theorem dX5_ofObject_73 : decode cX5_ofObject 73 = .ok (.iload 5, 2) := by decide +kernel
theorem dX5_ofObject_75 : decode cX5_ofObject 75 = .ok (.iaload, 1) := by decide +kernel
theorem dX5_ofObject_76 : decode cX5_ofObject 76 = .ok (.ifCond .ne 11, 3) := by decide +kernel
theorem dX5_ofObject_79 : decode cX5_ofObject 79 = .ok (.aload_n 0, 1) := by decide +kernel
theorem dX5_ofObject_80 : decode cX5_ofObject 80 = .ok (.iconst 3, 1) := by decide +kernel
theorem dX5_ofObject_81 : decode cX5_ofObject 81 = .ok (.invokevirtual 169, 3) := by decide +kernel
theorem dX5_ofObject_84 : decode cX5_ofObject 84 = .ok (.goto 136, 3) := by decide +kernel
theorem dX5_ofObject_87 : decode cX5_ofObject 87 = .ok (.iload_n 1, 1) := by decide +kernel
theorem dX5_ofObject_88 : decode cX5_ofObject 88 = .ok (.iconst 5, 1) := by decide +kernel
theorem dX5_ofObject_89 : decode cX5_ofObject 89 = .ok (.if_icmp .ne 44, 3) := by decide +kernel
theorem dX5_ofObject_92 : decode cX5_ofObject 92 = .ok (.aload_n 0, 1) := by decide +kernel
theorem dX5_ofObject_93 : decode cX5_ofObject 93 = .ok (.getfield 30, 3) := by decide +kernel
theorem dX5_ofObject_96 : decode cX5_ofObject 96 = .ok (.iload_n 3, 1) := by decide +kernel
theorem dX5_ofObject_97 : decode cX5_ofObject 97 = .ok (.aload_n 0, 1) := by decide +kernel
theorem dX5_ofObject_98 : decode cX5_ofObject 98 = .ok (.getfield 8, 3) := by decide +kernel
theorem dX5_ofObject_101 : decode cX5_ofObject 101 = .ok (.iload 5, 2) := by decide +kernel
theorem dX5_ofObject_103 : decode cX5_ofObject 103 = .ok (.iaload, 1) := by decide +kernel
theorem dX5_ofObject_104 : decode cX5_ofObject 104 = .ok (.iconst 2, 1) := by decide +kernel
theorem dX5_ofObject_105 : decode cX5_ofObject 105 = .ok (.if_icmp .ne 7, 3) := by decide +kernel
theorem dX5_ofObject_108 : decode cX5_ofObject 108 = .ok (.iconst 1, 1) := by decide +kernel
theorem dX5_ofObject_109 : decode cX5_ofObject 109 = .ok (.goto 4, 3) := by decide +kernel
theorem dX5_ofObject_112 : decode cX5_ofObject 112 = .ok (.iconst 0, 1) := by decide +kernel
theorem dX5_ofObject_113 : decode cX5_ofObject 113 = .ok (.bastore, 1) := by decide +kernel
theorem dX5_ofObject_114 : decode cX5_ofObject 114 = .ok (.aload_n 0, 1) := by decide +kernel
theorem dX5_ofObject_115 : decode cX5_ofObject 115 = .ok (.getfield 33, 3) := by decide +kernel
theorem dX5_ofObject_118 : decode cX5_ofObject 118 = .ok (.iload_n 3, 1) := by decide +kernel
theorem dX5_ofObject_119 : decode cX5_ofObject 119 = .ok (.aload_n 0, 1) := by decide +kernel
theorem dX5_ofObject_120 : decode cX5_ofObject 120 = .ok (.getfield 8, 3) := by decide +kernel
theorem dX5_ofObject_123 : decode cX5_ofObject 123 = .ok (.iload 5, 2) := by decide +kernel
theorem dX5_ofObject_125 : decode cX5_ofObject 125 = .ok (.bipush 10, 2) := by decide +kernel
theorem dX5_ofObject_127 : decode cX5_ofObject 127 = .ok (.iadd, 1) := by decide +kernel
theorem dX5_ofObject_128 : decode cX5_ofObject 128 = .ok (.iaload, 1) := by decide +kernel
theorem dX5_ofObject_129 : decode cX5_ofObject 129 = .ok (.iastore, 1) := by decide +kernel
theorem dX5_ofObject_130 : decode cX5_ofObject 130 = .ok (.goto 90, 3) := by decide +kernel
theorem dX5_ofObject_133 : decode cX5_ofObject 133 = .ok (.aload_n 0, 1) := by decide +kernel
theorem dX5_ofObject_134 : decode cX5_ofObject 134 = .ok (.getfield 8, 3) := by decide +kernel
theorem dX5_ofObject_137 : decode cX5_ofObject 137 = .ok (.iload 5, 2) := by decide +kernel
theorem dX5_ofObject_139 : decode cX5_ofObject 139 = .ok (.aload_n 0, 1) := by decide +kernel
theorem dX5_ofObject_140 : decode cX5_ofObject 140 = .ok (.getfield 30, 3) := by decide +kernel
theorem dX5_ofObject_143 : decode cX5_ofObject 143 = .ok (.aload_n 0, 1) := by decide +kernel
theorem dX5_ofObject_144 : decode cX5_ofObject 144 = .ok (.getfield 147, 3) := by decide +kernel
theorem dX5_ofObject_147 : decode cX5_ofObject 147 = .ok (.iconst 1, 1) := by decide +kernel
theorem dX5_ofObject_148 : decode cX5_ofObject 148 = .ok (.isub, 1) := by decide +kernel
theorem dX5_ofObject_149 : decode cX5_ofObject 149 = .ok (.baload, 1) := by decide +kernel
theorem dX5_ofObject_150 : decode cX5_ofObject 150 = .ok (.ifCond .eq 7, 3) := by decide +kernel
theorem dX5_ofObject_153 : decode cX5_ofObject 153 = .ok (.iconst 2, 1) := by decide +kernel
theorem dX5_ofObject_154 : decode cX5_ofObject 154 = .ok (.goto 4, 3) := by decide +kernel
theorem dX5_ofObject_157 : decode cX5_ofObject 157 = .ok (.iconst 1, 1) := by decide +kernel
theorem dX5_ofObject_158 : decode cX5_ofObject 158 = .ok (.iastore, 1) := by decide +kernel
theorem dX5_ofObject_159 : decode cX5_ofObject 159 = .ok (.aload_n 0, 1) := by decide +kernel
theorem dX5_ofObject_160 : decode cX5_ofObject 160 = .ok (.getfield 8, 3) := by decide +kernel
theorem dX5_ofObject_163 : decode cX5_ofObject 163 = .ok (.iload 5, 2) := by decide +kernel
theorem dX5_ofObject_165 : decode cX5_ofObject 165 = .ok (.bipush 10, 2) := by decide +kernel
theorem dX5_ofObject_167 : decode cX5_ofObject 167 = .ok (.iadd, 1) := by decide +kernel
theorem dX5_ofObject_168 : decode cX5_ofObject 168 = .ok (.aload_n 0, 1) := by decide +kernel
theorem dX5_ofObject_169 : decode cX5_ofObject 169 = .ok (.getfield 33, 3) := by decide +kernel
theorem dX5_ofObject_172 : decode cX5_ofObject 172 = .ok (.aload_n 0, 1) := by decide +kernel
theorem dX5_ofObject_173 : decode cX5_ofObject 173 = .ok (.getfield 147, 3) := by decide +kernel
theorem dX5_ofObject_176 : decode cX5_ofObject 176 = .ok (.iconst 1, 1) := by decide +kernel
theorem dX5_ofObject_177 : decode cX5_ofObject 177 = .ok (.isub, 1) := by decide +kernel
theorem dX5_ofObject_178 : decode cX5_ofObject 178 = .ok (.iaload, 1) := by decide +kernel
theorem dX5_ofObject_179 : decode cX5_ofObject 179 = .ok (.iastore, 1) := by decide +kernel
theorem dX5_ofObject_180 : decode cX5_ofObject 180 = .ok (.aload_n 0, 1) := by decide +kernel
theorem dX5_ofObject_181 : decode cX5_ofObject 181 = .ok (.dup, 1) := by decide +kernel
theorem dX5_ofObject_182 : decode cX5_ofObject 182 = .ok (.getfield 147, 3) := by decide +kernel
theorem dX5_ofObject_185 : decode cX5_ofObject 185 = .ok (.iconst 1, 1) := by decide +kernel
theorem dX5_ofObject_186 : decode cX5_ofObject 186 = .ok (.isub, 1) := by decide +kernel
theorem dX5_ofObject_187 : decode cX5_ofObject 187 = .ok (.putfield 147, 3) := by decide +kernel
theorem dX5_ofObject_190 : decode cX5_ofObject 190 = .ok (.aload_n 0, 1) := by decide +kernel
theorem dX5_ofObject_191 : decode cX5_ofObject 191 = .ok (.getfield 30, 3) := by decide +kernel
theorem dX5_ofObject_194 : decode cX5_ofObject 194 = .ok (.iload_n 3, 1) := by decide +kernel
theorem dX5_ofObject_195 : decode cX5_ofObject 195 = .ok (.aload_n 0, 1) := by decide +kernel
theorem dX5_ofObject_196 : decode cX5_ofObject 196 = .ok (.getfield 30, 3) := by decide +kernel
theorem dX5_ofObject_199 : decode cX5_ofObject 199 = .ok (.aload_n 0, 1) := by decide +kernel
theorem dX5_ofObject_200 : decode cX5_ofObject 200 = .ok (.getfield 147, 3) := by decide +kernel
theorem dX5_ofObject_203 : decode cX5_ofObject 203 = .ok (.baload, 1) := by decide +kernel
theorem dX5_ofObject_204 : decode cX5_ofObject 204 = .ok (.bastore, 1) := by decide +kernel
theorem dX5_ofObject_205 : decode cX5_ofObject 205 = .ok (.aload_n 0, 1) := by decide +kernel
theorem dX5_ofObject_206 : decode cX5_ofObject 206 = .ok (.getfield 33, 3) := by decide +kernel
theorem dX5_ofObject_209 : decode cX5_ofObject 209 = .ok (.iload_n 3, 1) := by decide +kernel
theorem dX5_ofObject_210 : decode cX5_ofObject 210 = .ok (.aload_n 0, 1) := by decide +kernel
theorem dX5_ofObject_211 : decode cX5_ofObject 211 = .ok (.getfield 33, 3) := by decide +kernel
theorem dX5_ofObject_214 : decode cX5_ofObject 214 = .ok (.aload_n 0, 1) := by decide +kernel
theorem dX5_ofObject_215 : decode cX5_ofObject 215 = .ok (.getfield 147, 3) := by decide +kernel
theorem dX5_ofObject_218 : decode cX5_ofObject 218 = .ok (.iaload, 1) := by decide +kernel
theorem dX5_ofObject_219 : decode cX5_ofObject 219 = .ok (.iastore, 1) := by decide +kernel
theorem dX5_ofObject_220 : decode cX5_ofObject 220 = .ok (.return_, 1) := by decide +kernel
theorem dX5_reckon_0 : decode cX5_reckon 0 = .ok (.aload_n 0, 1) := by decide +kernel
theorem dX5_reckon_1 : decode cX5_reckon 1 = .ok (.dup, 1) := by decide +kernel
theorem dX5_reckon_2 : decode cX5_reckon 2 = .ok (.getfield 147, 3) := by decide +kernel
theorem dX5_reckon_5 : decode cX5_reckon 5 = .ok (.iconst 1, 1) := by decide +kernel
theorem dX5_reckon_6 : decode cX5_reckon 6 = .ok (.isub, 1) := by decide +kernel
theorem dX5_reckon_7 : decode cX5_reckon 7 = .ok (.putfield 147, 3) := by decide +kernel
theorem dX5_reckon_10 : decode cX5_reckon 10 = .ok (.aload_n 0, 1) := by decide +kernel
theorem dX5_reckon_11 : decode cX5_reckon 11 = .ok (.getfield 30, 3) := by decide +kernel
theorem dX5_reckon_14 : decode cX5_reckon 14 = .ok (.aload_n 0, 1) := by decide +kernel
theorem dX5_reckon_15 : decode cX5_reckon 15 = .ok (.getfield 147, 3) := by decide +kernel
theorem dX5_reckon_18 : decode cX5_reckon 18 = .ok (.baload, 1) := by decide +kernel
theorem dX5_reckon_19 : decode cX5_reckon 19 = .ok (.ifCond .ne 17, 3) := by decide +kernel
theorem dX5_reckon_22 : decode cX5_reckon 22 = .ok (.aload_n 0, 1) := by decide +kernel
theorem dX5_reckon_23 : decode cX5_reckon 23 = .ok (.getfield 30, 3) := by decide +kernel
theorem dX5_reckon_26 : decode cX5_reckon 26 = .ok (.aload_n 0, 1) := by decide +kernel
theorem dX5_reckon_27 : decode cX5_reckon 27 = .ok (.getfield 147, 3) := by decide +kernel
theorem dX5_reckon_30 : decode cX5_reckon 30 = .ok (.iconst 1, 1) := by decide +kernel
theorem dX5_reckon_31 : decode cX5_reckon 31 = .ok (.isub, 1) := by decide +kernel
theorem dX5_reckon_32 : decode cX5_reckon 32 = .ok (.baload, 1) := by decide +kernel
theorem dX5_reckon_33 : decode cX5_reckon 33 = .ok (.ifCond .eq 9, 3) := by decide +kernel
theorem dX5_reckon_36 : decode cX5_reckon 36 = .ok (.aload_n 0, 1) := by decide +kernel
theorem dX5_reckon_37 : decode cX5_reckon 37 = .ok (.iconst 1, 1) := by decide +kernel
theorem dX5_reckon_38 : decode cX5_reckon 38 = .ok (.invokevirtual 169, 3) := by decide +kernel
theorem dX5_reckon_41 : decode cX5_reckon 41 = .ok (.return_, 1) := by decide +kernel
theorem dX5_reckon_42 : decode cX5_reckon 42 = .ok (.aload_n 0, 1) := by decide +kernel
theorem dX5_reckon_43 : decode cX5_reckon 43 = .ok (.getfield 33, 3) := by decide +kernel
theorem dX5_reckon_46 : decode cX5_reckon 46 = .ok (.aload_n 0, 1) := by decide +kernel
theorem dX5_reckon_47 : decode cX5_reckon 47 = .ok (.getfield 147, 3) := by decide +kernel
theorem dX5_reckon_50 : decode cX5_reckon 50 = .ok (.iconst 1, 1) := by decide +kernel
theorem dX5_reckon_51 : decode cX5_reckon 51 = .ok (.isub, 1) := by decide +kernel
theorem dX5_reckon_52 : decode cX5_reckon 52 = .ok (.iaload, 1) := by decide +kernel
theorem dX5_reckon_53 : decode cX5_reckon 53 = .ok (.istore_n 2, 1) := by decide +kernel
theorem dX5_reckon_54 : decode cX5_reckon 54 = .ok (.aload_n 0, 1) := by decide +kernel
theorem dX5_reckon_55 : decode cX5_reckon 55 = .ok (.getfield 33, 3) := by decide +kernel
theorem dX5_reckon_58 : decode cX5_reckon 58 = .ok (.aload_n 0, 1) := by decide +kernel
theorem dX5_reckon_59 : decode cX5_reckon 59 = .ok (.getfield 147, 3) := by decide +kernel
theorem dX5_reckon_62 : decode cX5_reckon 62 = .ok (.iaload, 1) := by decide +kernel
theorem dX5_reckon_63 : decode cX5_reckon 63 = .ok (.istore_n 3, 1) := by decide +kernel
theorem dX5_reckon_64 : decode cX5_reckon 64 = .ok (.iload_n 1, 1) := by decide +kernel
theorem dX5_reckon_65 : decode cX5_reckon 65 = .ok (.bipush 11, 2) := by decide +kernel
theorem dX5_reckon_67 : decode cX5_reckon 67 = .ok (.if_icmp .ne 13, 3) := by decide +kernel
theorem dX5_reckon_70 : decode cX5_reckon 70 = .ok (.iload_n 3, 1) := by decide +kernel
theorem dX5_reckon_71 : decode cX5_reckon 71 = .ok (.ifCond .ne 9, 3) := by decide +kernel
theorem dX5_reckon_74 : decode cX5_reckon 74 = .ok (.aload_n 0, 1) := by decide +kernel
theorem dX5_reckon_75 : decode cX5_reckon 75 = .ok (.iconst 2, 1) := by decide +kernel
theorem dX5_reckon_76 : decode cX5_reckon 76 = .ok (.invokevirtual 169, 3) := by decide +kernel
theorem dX5_reckon_79 : decode cX5_reckon 79 = .ok (.return_, 1) := by decide +kernel
theorem dX5_reckon_80 : decode cX5_reckon 80 = .ok (.aload_n 0, 1) := by decide +kernel
theorem dX5_reckon_81 : decode cX5_reckon 81 = .ok (.getfield 33, 3) := by decide +kernel
theorem dX5_reckon_84 : decode cX5_reckon 84 = .ok (.aload_n 0, 1) := by decide +kernel
theorem dX5_reckon_85 : decode cX5_reckon 85 = .ok (.getfield 147, 3) := by decide +kernel
theorem dX5_reckon_88 : decode cX5_reckon 88 = .ok (.iconst 1, 1) := by decide +kernel
theorem dX5_reckon_89 : decode cX5_reckon 89 = .ok (.isub, 1) := by decide +kernel
theorem dX5_reckon_90 : decode cX5_reckon 90 = .ok (.iload_n 1, 1) := by decide +kernel
theorem dX5_reckon_91 : decode cX5_reckon 91 = .ok (.bipush 8, 2) := by decide +kernel
theorem dX5_reckon_93 : decode cX5_reckon 93 = .ok (.if_icmp .ne 9, 3) := by decide +kernel
theorem dX5_reckon_96 : decode cX5_reckon 96 = .ok (.iload_n 2, 1) := by decide +kernel
theorem dX5_reckon_97 : decode cX5_reckon 97 = .ok (.iload_n 3, 1) := by decide +kernel
theorem dX5_reckon_98 : decode cX5_reckon 98 = .ok (.iadd, 1) := by decide +kernel
theorem dX5_reckon_99 : decode cX5_reckon 99 = .ok (.goto 49, 3) := by decide +kernel
theorem dX5_reckon_102 : decode cX5_reckon 102 = .ok (.iload_n 1, 1) := by decide +kernel
theorem dX5_reckon_103 : decode cX5_reckon 103 = .ok (.bipush 9, 2) := by decide +kernel
theorem dX5_reckon_105 : decode cX5_reckon 105 = .ok (.if_icmp .ne 9, 3) := by decide +kernel
theorem dX5_reckon_108 : decode cX5_reckon 108 = .ok (.iload_n 2, 1) := by decide +kernel
theorem dX5_reckon_109 : decode cX5_reckon 109 = .ok (.iload_n 3, 1) := by decide +kernel
theorem dX5_reckon_110 : decode cX5_reckon 110 = .ok (.isub, 1) := by decide +kernel
theorem dX5_reckon_111 : decode cX5_reckon 111 = .ok (.goto 37, 3) := by decide +kernel
theorem dX5_reckon_114 : decode cX5_reckon 114 = .ok (.iload_n 1, 1) := by decide +kernel
theorem dX5_reckon_115 : decode cX5_reckon 115 = .ok (.bipush 10, 2) := by decide +kernel
theorem dX5_reckon_117 : decode cX5_reckon 117 = .ok (.if_icmp .ne 9, 3) := by decide +kernel
theorem dX5_reckon_120 : decode cX5_reckon 120 = .ok (.iload_n 2, 1) := by decide +kernel
theorem dX5_reckon_121 : decode cX5_reckon 121 = .ok (.iload_n 3, 1) := by decide +kernel
theorem dX5_reckon_122 : decode cX5_reckon 122 = .ok (.imul, 1) := by decide +kernel
theorem dX5_reckon_123 : decode cX5_reckon 123 = .ok (.goto 25, 3) := by decide +kernel
theorem dX5_reckon_126 : decode cX5_reckon 126 = .ok (.iload_n 1, 1) := by decide +kernel
theorem dX5_reckon_127 : decode cX5_reckon 127 = .ok (.bipush 11, 2) := by decide +kernel
theorem dX5_reckon_129 : decode cX5_reckon 129 = .ok (.if_icmp .ne 9, 3) := by decide +kernel
theorem dX5_reckon_132 : decode cX5_reckon 132 = .ok (.iload_n 2, 1) := by decide +kernel
theorem dX5_reckon_133 : decode cX5_reckon 133 = .ok (.iload_n 3, 1) := by decide +kernel
theorem dX5_reckon_134 : decode cX5_reckon 134 = .ok (.idiv, 1) := by decide +kernel
theorem dX5_reckon_135 : decode cX5_reckon 135 = .ok (.goto 13, 3) := by decide +kernel
theorem dX5_reckon_138 : decode cX5_reckon 138 = .ok (.iload_n 2, 1) := by decide +kernel
theorem dX5_reckon_139 : decode cX5_reckon 139 = .ok (.iload_n 3, 1) := by decide +kernel
theorem dX5_reckon_140 : decode cX5_reckon 140 = .ok (.if_icmp .ge 7, 3) := by decide +kernel
theorem dX5_reckon_143 : decode cX5_reckon 143 = .ok (.iconst 1, 1) := by decide +kernel
theorem dX5_reckon_144 : decode cX5_reckon 144 = .ok (.goto 4, 3) := by decide +kernel
theorem dX5_reckon_147 : decode cX5_reckon 147 = .ok (.iconst 0, 1) := by decide +kernel
theorem dX5_reckon_148 : decode cX5_reckon 148 = .ok (.iastore, 1) := by decide +kernel
theorem dX5_reckon_149 : decode cX5_reckon 149 = .ok (.return_, 1) := by decide +kernel
theorem dX5_choose_0 : decode cX5_choose 0 = .ok (.aload_n 0, 1) := by decide +kernel
theorem dX5_choose_1 : decode cX5_choose 1 = .ok (.dup, 1) := by decide +kernel
theorem dX5_choose_2 : decode cX5_choose 2 = .ok (.getfield 147, 3) := by decide +kernel
theorem dX5_choose_5 : decode cX5_choose 5 = .ok (.iconst 2, 1) := by decide +kernel
theorem dX5_choose_6 : decode cX5_choose 6 = .ok (.isub, 1) := by decide +kernel
theorem dX5_choose_7 : decode cX5_choose 7 = .ok (.putfield 147, 3) := by decide +kernel
theorem dX5_choose_10 : decode cX5_choose 10 = .ok (.aload_n 0, 1) := by decide +kernel
theorem dX5_choose_11 : decode cX5_choose 11 = .ok (.getfield 30, 3) := by decide +kernel
theorem dX5_choose_14 : decode cX5_choose 14 = .ok (.aload_n 0, 1) := by decide +kernel
theorem dX5_choose_15 : decode cX5_choose 15 = .ok (.getfield 147, 3) := by decide +kernel
theorem dX5_choose_18 : decode cX5_choose 18 = .ok (.iconst 1, 1) := by decide +kernel
theorem dX5_choose_19 : decode cX5_choose 19 = .ok (.isub, 1) := by decide +kernel
theorem dX5_choose_20 : decode cX5_choose 20 = .ok (.baload, 1) := by decide +kernel
theorem dX5_choose_21 : decode cX5_choose 21 = .ok (.ifCond .eq 9, 3) := by decide +kernel
theorem dX5_choose_24 : decode cX5_choose 24 = .ok (.aload_n 0, 1) := by decide +kernel
theorem dX5_choose_25 : decode cX5_choose 25 = .ok (.iconst 1, 1) := by decide +kernel
theorem dX5_choose_26 : decode cX5_choose 26 = .ok (.invokevirtual 169, 3) := by decide +kernel
theorem dX5_choose_29 : decode cX5_choose 29 = .ok (.return_, 1) := by decide +kernel
theorem dX5_choose_30 : decode cX5_choose 30 = .ok (.aload_n 0, 1) := by decide +kernel
theorem dX5_choose_31 : decode cX5_choose 31 = .ok (.getfield 33, 3) := by decide +kernel
theorem dX5_choose_34 : decode cX5_choose 34 = .ok (.aload_n 0, 1) := by decide +kernel
theorem dX5_choose_35 : decode cX5_choose 35 = .ok (.getfield 147, 3) := by decide +kernel
theorem dX5_choose_38 : decode cX5_choose 38 = .ok (.iconst 1, 1) := by decide +kernel
theorem dX5_choose_39 : decode cX5_choose 39 = .ok (.isub, 1) := by decide +kernel
theorem dX5_choose_40 : decode cX5_choose 40 = .ok (.iaload, 1) := by decide +kernel
theorem dX5_choose_41 : decode cX5_choose 41 = .ok (.ifCond .eq 10, 3) := by decide +kernel
theorem dX5_choose_44 : decode cX5_choose 44 = .ok (.aload_n 0, 1) := by decide +kernel
theorem dX5_choose_45 : decode cX5_choose 45 = .ok (.getfield 147, 3) := by decide +kernel
theorem dX5_choose_48 : decode cX5_choose 48 = .ok (.goto 9, 3) := by decide +kernel
theorem dX5_choose_51 : decode cX5_choose 51 = .ok (.aload_n 0, 1) := by decide +kernel
theorem dX5_choose_52 : decode cX5_choose 52 = .ok (.getfield 147, 3) := by decide +kernel
theorem dX5_choose_55 : decode cX5_choose 55 = .ok (.iconst 1, 1) := by decide +kernel
theorem dX5_choose_56 : decode cX5_choose 56 = .ok (.iadd, 1) := by decide +kernel
theorem dX5_choose_57 : decode cX5_choose 57 = .ok (.istore_n 1, 1) := by decide +kernel
theorem dX5_choose_58 : decode cX5_choose 58 = .ok (.aload_n 0, 1) := by decide +kernel
theorem dX5_choose_59 : decode cX5_choose 59 = .ok (.getfield 30, 3) := by decide +kernel
theorem dX5_choose_62 : decode cX5_choose 62 = .ok (.aload_n 0, 1) := by decide +kernel
theorem dX5_choose_63 : decode cX5_choose 63 = .ok (.getfield 147, 3) := by decide +kernel
theorem dX5_choose_66 : decode cX5_choose 66 = .ok (.iconst 1, 1) := by decide +kernel
theorem dX5_choose_67 : decode cX5_choose 67 = .ok (.isub, 1) := by decide +kernel
theorem dX5_choose_68 : decode cX5_choose 68 = .ok (.aload_n 0, 1) := by decide +kernel
theorem dX5_choose_69 : decode cX5_choose 69 = .ok (.getfield 30, 3) := by decide +kernel
theorem dX5_choose_72 : decode cX5_choose 72 = .ok (.iload_n 1, 1) := by decide +kernel
theorem dX5_choose_73 : decode cX5_choose 73 = .ok (.baload, 1) := by decide +kernel
theorem dX5_choose_74 : decode cX5_choose 74 = .ok (.bastore, 1) := by decide +kernel
theorem dX5_choose_75 : decode cX5_choose 75 = .ok (.aload_n 0, 1) := by decide +kernel
theorem dX5_choose_76 : decode cX5_choose 76 = .ok (.getfield 33, 3) := by decide +kernel
theorem dX5_choose_79 : decode cX5_choose 79 = .ok (.aload_n 0, 1) := by decide +kernel
theorem dX5_choose_80 : decode cX5_choose 80 = .ok (.getfield 147, 3) := by decide +kernel
theorem dX5_choose_83 : decode cX5_choose 83 = .ok (.iconst 1, 1) := by decide +kernel
theorem dX5_choose_84 : decode cX5_choose 84 = .ok (.isub, 1) := by decide +kernel
theorem dX5_choose_85 : decode cX5_choose 85 = .ok (.aload_n 0, 1) := by decide +kernel
theorem dX5_choose_86 : decode cX5_choose 86 = .ok (.getfield 33, 3) := by decide +kernel
theorem dX5_choose_89 : decode cX5_choose 89 = .ok (.iload_n 1, 1) := by decide +kernel
theorem dX5_choose_90 : decode cX5_choose 90 = .ok (.iaload, 1) := by decide +kernel
theorem dX5_choose_91 : decode cX5_choose 91 = .ok (.iastore, 1) := by decide +kernel
theorem dX5_choose_92 : decode cX5_choose 92 = .ok (.return_, 1) := by decide +kernel
theorem dX5_write_0 : decode cX5_write 0 = .ok (.aload_n 0, 1) := by decide +kernel
theorem dX5_write_1 : decode cX5_write 1 = .ok (.getfield 215, 3) := by decide +kernel
theorem dX5_write_4 : decode cX5_write 4 = .ok (.bipush 20, 2) := by decide +kernel
theorem dX5_write_6 : decode cX5_write 6 = .ok (.if_icmp .ge 43, 3) := by decide +kernel
theorem dX5_write_9 : decode cX5_write 9 = .ok (.aload_n 0, 1) := by decide +kernel
theorem dX5_write_10 : decode cX5_write 10 = .ok (.getfield 57, 3) := by decide +kernel
theorem dX5_write_13 : decode cX5_write 13 = .ok (.aload_n 0, 1) := by decide +kernel
theorem dX5_write_14 : decode cX5_write 14 = .ok (.getfield 215, 3) := by decide +kernel
theorem dX5_write_17 : decode cX5_write 17 = .ok (.aload_n 0, 1) := by decide +kernel
theorem dX5_write_18 : decode cX5_write 18 = .ok (.getfield 30, 3) := by decide +kernel
theorem dX5_write_21 : decode cX5_write 21 = .ok (.aload_n 0, 1) := by decide +kernel
theorem dX5_write_22 : decode cX5_write 22 = .ok (.getfield 147, 3) := by decide +kernel
theorem dX5_write_25 : decode cX5_write 25 = .ok (.iconst 1, 1) := by decide +kernel
theorem dX5_write_26 : decode cX5_write 26 = .ok (.isub, 1) := by decide +kernel
theorem dX5_write_27 : decode cX5_write 27 = .ok (.baload, 1) := by decide +kernel
theorem dX5_write_28 : decode cX5_write 28 = .ok (.bastore, 1) := by decide +kernel
theorem dX5_write_29 : decode cX5_write 29 = .ok (.aload_n 0, 1) := by decide +kernel
theorem dX5_write_30 : decode cX5_write 30 = .ok (.getfield 60, 3) := by decide +kernel
theorem dX5_write_33 : decode cX5_write 33 = .ok (.aload_n 0, 1) := by decide +kernel
theorem dX5_write_34 : decode cX5_write 34 = .ok (.getfield 215, 3) := by decide +kernel
theorem dX5_write_37 : decode cX5_write 37 = .ok (.aload_n 0, 1) := by decide +kernel
theorem dX5_write_38 : decode cX5_write 38 = .ok (.getfield 33, 3) := by decide +kernel
theorem dX5_write_41 : decode cX5_write 41 = .ok (.aload_n 0, 1) := by decide +kernel
theorem dX5_write_42 : decode cX5_write 42 = .ok (.getfield 147, 3) := by decide +kernel
theorem dX5_write_45 : decode cX5_write 45 = .ok (.iconst 1, 1) := by decide +kernel
theorem dX5_write_46 : decode cX5_write 46 = .ok (.isub, 1) := by decide +kernel
theorem dX5_write_47 : decode cX5_write 47 = .ok (.iaload, 1) := by decide +kernel
theorem dX5_write_48 : decode cX5_write 48 = .ok (.iastore, 1) := by decide +kernel
theorem dX5_write_49 : decode cX5_write 49 = .ok (.aload_n 0, 1) := by decide +kernel
theorem dX5_write_50 : decode cX5_write 50 = .ok (.dup, 1) := by decide +kernel
theorem dX5_write_51 : decode cX5_write 51 = .ok (.getfield 215, 3) := by decide +kernel
theorem dX5_write_54 : decode cX5_write 54 = .ok (.iconst 1, 1) := by decide +kernel
theorem dX5_write_55 : decode cX5_write 55 = .ok (.iadd, 1) := by decide +kernel
theorem dX5_write_56 : decode cX5_write 56 = .ok (.putfield 215, 3) := by decide +kernel
theorem dX5_write_59 : decode cX5_write 59 = .ok (.return_, 1) := by decide +kernel
theorem dX5_start_0 : decode cX5_start 0 = .ok (.aload_n 0, 1) := by decide +kernel
theorem dX5_start_1 : decode cX5_start 1 = .ok (.iload_n 1, 1) := by decide +kernel
theorem dX5_start_2 : decode cX5_start 2 = .ok (.invokevirtual 224, 3) := by decide +kernel
theorem dX5_start_5 : decode cX5_start 5 = .ok (.istore_n 2, 1) := by decide +kernel
theorem dX5_start_6 : decode cX5_start 6 = .ok (.iload_n 2, 1) := by decide +kernel
theorem dX5_start_7 : decode cX5_start 7 = .ok (.aload_n 0, 1) := by decide +kernel
theorem dX5_start_8 : decode cX5_start 8 = .ok (.iload_n 1, 1) := by decide +kernel
theorem dX5_start_9 : decode cX5_start 9 = .ok (.invokevirtual 227, 3) := by decide +kernel
theorem dX5_start_12 : decode cX5_start 12 = .ok (.if_icmp .ge 19, 3) := by decide +kernel
theorem dX5_start_15 : decode cX5_start 15 = .ok (.aload_n 0, 1) := by decide +kernel
theorem dX5_start_16 : decode cX5_start 16 = .ok (.getfield 153, 3) := by decide +kernel
theorem dX5_start_19 : decode cX5_start 19 = .ok (.bipush 20, 2) := by decide +kernel
theorem dX5_start_21 : decode cX5_start 21 = .ok (.if_icmp .ne 10, 3) := by decide +kernel
theorem dX5_start_24 : decode cX5_start 24 = .ok (.aload_n 0, 1) := by decide +kernel
theorem dX5_start_25 : decode cX5_start 25 = .ok (.bipush 7, 2) := by decide +kernel
theorem dX5_start_27 : decode cX5_start 27 = .ok (.invokevirtual 169, 3) := by decide +kernel
theorem dX5_start_30 : decode cX5_start 30 = .ok (.return_, 1) := by decide +kernel
theorem dX5_start_31 : decode cX5_start 31 = .ok (.aload_n 0, 1) := by decide +kernel
theorem dX5_start_32 : decode cX5_start 32 = .ok (.getfield 8, 3) := by decide +kernel
theorem dX5_start_35 : decode cX5_start 35 = .ok (.iload_n 1, 1) := by decide +kernel
theorem dX5_start_36 : decode cX5_start 36 = .ok (.invokestatic 73, 3) := by decide +kernel
theorem dX5_start_39 : decode cX5_start 39 = .ok (.iconst 5, 1) := by decide +kernel
theorem dX5_start_40 : decode cX5_start 40 = .ok (.iadd, 1) := by decide +kernel
theorem dX5_start_41 : decode cX5_start 41 = .ok (.iconst 1, 1) := by decide +kernel
theorem dX5_start_42 : decode cX5_start 42 = .ok (.iastore, 1) := by decide +kernel
theorem dX5_start_43 : decode cX5_start 43 = .ok (.aload_n 0, 1) := by decide +kernel
theorem dX5_start_44 : decode cX5_start 44 = .ok (.iconst 1, 1) := by decide +kernel
theorem dX5_start_45 : decode cX5_start 45 = .ok (.putfield 162, 3) := by decide +kernel
theorem dX5_start_48 : decode cX5_start 48 = .ok (.iload_n 2, 1) := by decide +kernel
theorem dX5_start_49 : decode cX5_start 49 = .ok (.aload_n 0, 1) := by decide +kernel
theorem dX5_start_50 : decode cX5_start 50 = .ok (.iload_n 1, 1) := by decide +kernel
theorem dX5_start_51 : decode cX5_start 51 = .ok (.invokevirtual 227, 3) := by decide +kernel
theorem dX5_start_54 : decode cX5_start 54 = .ok (.if_icmp .ge 21, 3) := by decide +kernel
theorem dX5_start_57 : decode cX5_start 57 = .ok (.aload_n 0, 1) := by decide +kernel
theorem dX5_start_58 : decode cX5_start 58 = .ok (.iconst 0, 1) := by decide +kernel
theorem dX5_start_59 : decode cX5_start 59 = .ok (.putfield 162, 3) := by decide +kernel
theorem dX5_start_62 : decode cX5_start 62 = .ok (.aload_n 0, 1) := by decide +kernel
theorem dX5_start_63 : decode cX5_start 63 = .ok (.iload_n 1, 1) := by decide +kernel
theorem dX5_start_64 : decode cX5_start 64 = .ok (.iload_n 2, 1) := by decide +kernel
theorem dX5_start_65 : decode cX5_start 65 = .ok (.aload_n 0, 1) := by decide +kernel
theorem dX5_start_66 : decode cX5_start 66 = .ok (.iload_n 1, 1) := by decide +kernel
theorem dX5_start_67 : decode cX5_start 67 = .ok (.invokevirtual 227, 3) := by decide +kernel
theorem dX5_start_70 : decode cX5_start 70 = .ok (.iconst (-1), 1) := by decide +kernel
theorem dX5_start_71 : decode cX5_start 71 = .ok (.iload_n 1, 1) := by decide +kernel
theorem dX5_start_72 : decode cX5_start 72 = .ok (.invokevirtual 211, 3) := by decide +kernel
theorem dX5_start_75 : decode cX5_start 75 = .ok (.return_, 1) := by decide +kernel
theorem dX5_make_0 : decode cX5_make 0 = .ok (.iconst (-1), 1) := by decide +kernel
theorem dX5_make_1 : decode cX5_make 1 = .ok (.istore_n 2, 1) := by decide +kernel
theorem dX5_make_2 : decode cX5_make 2 = .ok (.iconst 1, 1) := by decide +kernel
theorem dX5_make_3 : decode cX5_make 3 = .ok (.istore_n 3, 1) := by decide +kernel
theorem dX5_make_4 : decode cX5_make 4 = .ok (.iload_n 1, 1) := by decide +kernel
theorem dX5_make_5 : decode cX5_make 5 = .ok (.istore 4, 2) := by decide +kernel
theorem dX5_make_7 : decode cX5_make 7 = .ok (.iload 4, 2) := by decide +kernel
theorem dX5_make_9 : decode cX5_make 9 = .ok (.ifCond .lt 65, 3) := by decide +kernel
theorem dX5_make_12 : decode cX5_make 12 = .ok (.aload_n 0, 1) := by decide +kernel
theorem dX5_make_13 : decode cX5_make 13 = .ok (.getfield 8, 3) := by decide +kernel
theorem dX5_make_16 : decode cX5_make 16 = .ok (.iload 4, 2) := by decide +kernel
theorem dX5_make_18 : decode cX5_make 18 = .ok (.invokestatic 73, 3) := by decide +kernel
theorem dX5_make_21 : decode cX5_make 21 = .ok (.iconst 5, 1) := by decide +kernel
theorem dX5_make_22 : decode cX5_make 22 = .ok (.iadd, 1) := by decide +kernel
theorem dX5_make_23 : decode cX5_make 23 = .ok (.iaload, 1) := by decide +kernel
theorem dX5_make_24 : decode cX5_make 24 = .ok (.istore 5, 2) := by decide +kernel
theorem dX5_make_26 : decode cX5_make 26 = .ok (.iload 5, 2) := by decide +kernel
theorem dX5_make_28 : decode cX5_make 28 = .ok (.iconst 2, 1) := by decide +kernel
theorem dX5_make_29 : decode cX5_make 29 = .ok (.if_icmp .ne 10, 3) := by decide +kernel
theorem dX5_make_32 : decode cX5_make 32 = .ok (.aload_n 0, 1) := by decide +kernel
theorem dX5_make_33 : decode cX5_make 33 = .ok (.bipush 6, 2) := by decide +kernel
theorem dX5_make_35 : decode cX5_make 35 = .ok (.invokevirtual 169, 3) := by decide +kernel
theorem dX5_make_38 : decode cX5_make 38 = .ok (.return_, 1) := by decide +kernel
theorem dX5_make_39 : decode cX5_make 39 = .ok (.iload_n 3, 1) := by decide +kernel
theorem dX5_make_40 : decode cX5_make 40 = .ok (.iload 5, 2) := by decide +kernel
theorem dX5_make_42 : decode cX5_make 42 = .ok (.ifCond .ne 7, 3) := by decide +kernel
theorem dX5_make_45 : decode cX5_make 45 = .ok (.iconst 1, 1) := by decide +kernel
theorem dX5_make_46 : decode cX5_make 46 = .ok (.goto 4, 3) := by decide +kernel
theorem dX5_make_49 : decode cX5_make 49 = .ok (.iconst 0, 1) := by decide +kernel
theorem dX5_make_50 : decode cX5_make 50 = .ok (.iand, 1) := by decide +kernel
theorem dX5_make_51 : decode cX5_make 51 = .ok (.istore_n 3, 1) := by decide +kernel
theorem dX5_make_52 : decode cX5_make 52 = .ok (.iload_n 3, 1) := by decide +kernel
theorem dX5_make_53 : decode cX5_make 53 = .ok (.ifCond .eq 8, 3) := by decide +kernel
theorem dX5_make_56 : decode cX5_make 56 = .ok (.iload 4, 2) := by decide +kernel
theorem dX5_make_58 : decode cX5_make 58 = .ok (.goto 4, 3) := by decide +kernel
theorem dX5_make_61 : decode cX5_make 61 = .ok (.iload_n 2, 1) := by decide +kernel
theorem dX5_make_62 : decode cX5_make 62 = .ok (.istore_n 2, 1) := by decide +kernel
theorem dX5_make_63 : decode cX5_make 63 = .ok (.aload_n 0, 1) := by decide +kernel
theorem dX5_make_64 : decode cX5_make 64 = .ok (.iload 4, 2) := by decide +kernel
theorem dX5_make_66 : decode cX5_make 66 = .ok (.invokevirtual 138, 3) := by decide +kernel
theorem dX5_make_69 : decode cX5_make 69 = .ok (.istore 4, 2) := by decide +kernel
theorem dX5_make_71 : decode cX5_make 71 = .ok (.goto (-64), 3) := by decide +kernel
theorem dX5_make_74 : decode cX5_make 74 = .ok (.iload_n 2, 1) := by decide +kernel
theorem dX5_make_75 : decode cX5_make 75 = .ok (.ifCond .lt 11, 3) := by decide +kernel
theorem dX5_make_78 : decode cX5_make 78 = .ok (.aload_n 0, 1) := by decide +kernel
theorem dX5_make_79 : decode cX5_make 79 = .ok (.iload_n 2, 1) := by decide +kernel
theorem dX5_make_80 : decode cX5_make 80 = .ok (.invokevirtual 218, 3) := by decide +kernel
theorem dX5_make_83 : decode cX5_make 83 = .ok (.goto 49, 3) := by decide +kernel
theorem dX5_make_86 : decode cX5_make 86 = .ok (.aload_n 0, 1) := by decide +kernel
theorem dX5_make_87 : decode cX5_make 87 = .ok (.getfield 8, 3) := by decide +kernel
theorem dX5_make_90 : decode cX5_make 90 = .ok (.iconst 2, 1) := by decide +kernel
theorem dX5_make_91 : decode cX5_make 91 = .ok (.iaload, 1) := by decide +kernel
theorem dX5_make_92 : decode cX5_make 92 = .ok (.sipush 150, 3) := by decide +kernel
theorem dX5_make_95 : decode cX5_make 95 = .ok (.if_icmp .ne 12, 3) := by decide +kernel
theorem dX5_make_98 : decode cX5_make 98 = .ok (.aload_n 0, 1) := by decide +kernel
theorem dX5_make_99 : decode cX5_make 99 = .ok (.bipush 8, 2) := by decide +kernel
theorem dX5_make_101 : decode cX5_make 101 = .ok (.invokevirtual 169, 3) := by decide +kernel
theorem dX5_make_104 : decode cX5_make 104 = .ok (.goto 28, 3) := by decide +kernel
theorem dX5_make_107 : decode cX5_make 107 = .ok (.aload_n 0, 1) := by decide +kernel
theorem dX5_make_108 : decode cX5_make 108 = .ok (.getfield 39, 3) := by decide +kernel
theorem dX5_make_111 : decode cX5_make 111 = .ok (.aload_n 0, 1) := by decide +kernel
theorem dX5_make_112 : decode cX5_make 112 = .ok (.getfield 150, 3) := by decide +kernel
theorem dX5_make_115 : decode cX5_make 115 = .ok (.iconst 1, 1) := by decide +kernel
theorem dX5_make_116 : decode cX5_make 116 = .ok (.isub, 1) := by decide +kernel
theorem dX5_make_117 : decode cX5_make 117 = .ok (.dup2, 1) := by decide +kernel
theorem dX5_make_118 : decode cX5_make 118 = .ok (.iaload, 1) := by decide +kernel
theorem dX5_make_119 : decode cX5_make 119 = .ok (.iconst 2, 1) := by decide +kernel
theorem dX5_make_120 : decode cX5_make 120 = .ok (.iadd, 1) := by decide +kernel
theorem dX5_make_121 : decode cX5_make 121 = .ok (.iastore, 1) := by decide +kernel
theorem dX5_make_122 : decode cX5_make 122 = .ok (.aload_n 0, 1) := by decide +kernel
theorem dX5_make_123 : decode cX5_make 123 = .ok (.iconst 1, 1) := by decide +kernel
theorem dX5_make_124 : decode cX5_make 124 = .ok (.aload_n 0, 1) := by decide +kernel
theorem dX5_make_125 : decode cX5_make 125 = .ok (.iload_n 1, 1) := by decide +kernel
theorem dX5_make_126 : decode cX5_make 126 = .ok (.invokevirtual 221, 3) := by decide +kernel
theorem dX5_make_129 : decode cX5_make 129 = .ok (.invokevirtual 181, 3) := by decide +kernel
theorem dX5_make_132 : decode cX5_make 132 = .ok (.return_, 1) := by decide +kernel
section RM
variable {ρ : Type} {p : Program} {l : Launch} {e : Env} {R : Room} {s : State} {m : MethodId} {args : Array Value} {below : List Frame} {meth : Method} {c : Code}
variable {cc : ByteArray} {nL : Nat} {rt : Option FieldType} {D : va_G} {cI cZ : ClassId} {q : Nat → Nat} {QQ : ρ → State → Prop} {pc : Nat} {lv : List (Nat × Value)}

-- ofObject
def fR_ofObject_b113 (n : Nat) (x3 : Int32) (x5 : Int32) (s0 : Int32) (s1 : Int32) (M : MR) : Option (Int32 × MR) :=
    wz M 10 2000 s0 s1 fun M1 =>
    rd M1 0 62610 (x5 + (nI 10)) fun v2 =>
    wr M1 11 2000 x3 v2 fun M3 =>
    some (0, M3)
theorem wR_ofObject_b113 (X : gX p s m args meth c cX5_ofObject 6 RX5 none D (tyR cI cZ)) (n : Nat) (x3 : Int32) (x5 : Int32) (s0 : Int32) (s1 : Int32) (M : MR) : gG p l e (rmR 6 137) s m args below meth c 6 (ZR D cI cZ q (AR q s.heap.size) s.heap M) 0 0 (fun r => MQ below (QV D cI cZ q s.heap.size r) args s 0 0 (AR q s.heap.size)) 113 [(0, .ref (q 34)), (3, .int x3), (5, .int x5)] [.int s1, .int s0, .ref (q 10)] (fR_ofObject_b113 n x3 x5 s0 s1 M) := by
  unfold fR_ofObject_b113
  refine r_s_isObj X dX5_ofObject_113 ?_
  intro M1
  refine g_aload_n X dX5_ofObject_114 rfl rfl ?_
  refine r_g_value X dX5_ofObject_115 ?_
  refine g_iload_n X dX5_ofObject_118 rfl rfl ?_
  refine g_aload_n X dX5_ofObject_119 rfl rfl ?_
  refine r_g_m X dX5_ofObject_120 ?_
  refine g_iload X dX5_ofObject_123 rfl ?_
  refine g_bipush (v := (nI 10)) X dX5_ofObject_125 (by decide) ?_
  refine g_iadd X dX5_ofObject_127 ?_
  refine r_l_m X dX5_ofObject_128 ?_
  intro v2
  refine r_s_value X dX5_ofObject_129 ?_
  intro M3
  refine g_goto (tgt := 220) X dX5_ofObject_130 (by decide) ?_
  exact r_vret X dX5_ofObject_220
def fR_ofObject_b158 (n : Nat) (x3 : Int32) (x5 : Int32) (s0 : Int32) (s1 : Int32) (M : MR) : Option (Int32 × MR) :=
    wr M 0 62610 s0 s1 fun M1 =>
    gf M1 12 fun v2 =>
    rd M1 11 2000 (v2 - (nI 1)) fun v3 =>
    wr M1 0 62610 (x5 + (nI 10)) v3 fun M4 =>
    gf M4 12 fun v5 =>
    pf M4 12 (v5 - (nI 1)) fun M6 =>
    gf M6 12 fun v7 =>
    rd M6 10 2000 v7 fun v8 =>
    wz M6 10 2000 x3 v8 fun M9 =>
    gf M9 12 fun v10 =>
    rd M9 11 2000 v10 fun v11 =>
    wr M9 11 2000 x3 v11 fun M12 =>
    some (0, M12)
theorem wR_ofObject_b158 (X : gX p s m args meth c cX5_ofObject 6 RX5 none D (tyR cI cZ)) (n : Nat) (x3 : Int32) (x5 : Int32) (s0 : Int32) (s1 : Int32) (M : MR) : gG p l e (rmR 6 137) s m args below meth c 6 (ZR D cI cZ q (AR q s.heap.size) s.heap M) 0 0 (fun r => MQ below (QV D cI cZ q s.heap.size r) args s 0 0 (AR q s.heap.size)) 158 [(0, .ref (q 34)), (3, .int x3), (5, .int x5)] [.int s1, .int s0, .ref (q 0)] (fR_ofObject_b158 n x3 x5 s0 s1 M) := by
  unfold fR_ofObject_b158
  refine r_s_m X dX5_ofObject_158 ?_
  intro M1
  refine g_aload_n X dX5_ofObject_159 rfl rfl ?_
  refine r_g_m X dX5_ofObject_160 ?_
  refine g_iload X dX5_ofObject_163 rfl ?_
  refine g_bipush (v := (nI 10)) X dX5_ofObject_165 (by decide) ?_
  refine g_iadd X dX5_ofObject_167 ?_
  refine g_aload_n X dX5_ofObject_168 rfl rfl ?_
  refine r_g_value X dX5_ofObject_169 ?_
  refine g_aload_n X dX5_ofObject_172 rfl rfl ?_
  refine r_g_top X dX5_ofObject_173 ?_
  intro v2
  refine g_iconst (v := (nI 1)) X dX5_ofObject_176 (by decide) ?_
  refine g_isub X dX5_ofObject_177 ?_
  refine r_l_value X dX5_ofObject_178 ?_
  intro v3
  refine r_s_m X dX5_ofObject_179 ?_
  intro M4
  refine g_aload_n X dX5_ofObject_180 rfl rfl ?_
  refine g_dup X dX5_ofObject_181 rfl ?_
  refine r_g_top X dX5_ofObject_182 ?_
  intro v5
  refine g_iconst (v := (nI 1)) X dX5_ofObject_185 (by decide) ?_
  refine g_isub X dX5_ofObject_186 ?_
  refine r_p_top X dX5_ofObject_187 ?_
  intro M6
  refine g_aload_n X dX5_ofObject_190 rfl rfl ?_
  refine r_g_isObj X dX5_ofObject_191 ?_
  refine g_iload_n X dX5_ofObject_194 rfl rfl ?_
  refine g_aload_n X dX5_ofObject_195 rfl rfl ?_
  refine r_g_isObj X dX5_ofObject_196 ?_
  refine g_aload_n X dX5_ofObject_199 rfl rfl ?_
  refine r_g_top X dX5_ofObject_200 ?_
  intro v7
  refine r_l_isObj X dX5_ofObject_203 ?_
  intro v8
  refine r_s_isObj X dX5_ofObject_204 ?_
  intro M9
  refine g_aload_n X dX5_ofObject_205 rfl rfl ?_
  refine r_g_value X dX5_ofObject_206 ?_
  refine g_iload_n X dX5_ofObject_209 rfl rfl ?_
  refine g_aload_n X dX5_ofObject_210 rfl rfl ?_
  refine r_g_value X dX5_ofObject_211 ?_
  refine g_aload_n X dX5_ofObject_214 rfl rfl ?_
  refine r_g_top X dX5_ofObject_215 ?_
  intro v10
  refine r_l_value X dX5_ofObject_218 ?_
  intro v11
  refine r_s_value X dX5_ofObject_219 ?_
  intro M12
  exact r_vret X dX5_ofObject_220
def fR_ofObject_b20 (n : Nat) (x1 : Int32) (x2 : Int32) (s0 : Int32) (M : MR) : Option (Int32 × MR) :=
    rd M 10 2000 s0 fun v1 =>
    if v1 = 0 then
      (bnd (fR_fail n (nI 1) M) fun _ M10 =>
      some (0, M10))
    else
      (rd M 11 2000 s0 fun v2 =>
      if x1 = (nI 7) then
        (bnd (fR_method n v2 x2 M) fun _ M9 =>
        some (0, M9))
      else
        (bnd (fR_objAt n v2 M) fun v3 M3 =>
        rd M3 0 62610 ((v3 + (nI 1)) + x2) fun v4 =>
        if v4 = 0 then
          (bnd (fR_fail n (nI 3) M3) fun _ M8 =>
          some (0, M8))
        else
          (if x1 = (nI 5) then
            (rd M3 0 62610 ((v3 + (nI 1)) + x2) fun v7 =>
            if v7 = (nI 2) then
              (fR_ofObject_b113 n s0 ((v3 + (nI 1)) + x2) s0 (nI 1) M3)
            else
              (fR_ofObject_b113 n s0 ((v3 + (nI 1)) + x2) s0 (nI 0) M3))
          else
            (gf M3 12 fun v5 =>
            rd M3 10 2000 (v5 - (nI 1)) fun v6 =>
            if v6 = 0 then
              (fR_ofObject_b158 n s0 ((v3 + (nI 1)) + x2) ((v3 + (nI 1)) + x2) (nI 1) M3)
            else
              (fR_ofObject_b158 n s0 ((v3 + (nI 1)) + x2) ((v3 + (nI 1)) + x2) (nI 2) M3)))))
theorem wR_ofObject_b20 (X : gX p s m args meth c cX5_ofObject 6 RX5 none D (tyR cI cZ)) (n : Nat) (x1 : Int32) (x2 : Int32) (s0 : Int32) (M : MR) : gG p l e (rmR 6 137) s m args below meth c 6 (ZR D cI cZ q (AR q s.heap.size) s.heap M) 0 0 (fun r => MQ below (QV D cI cZ q s.heap.size r) args s 0 0 (AR q s.heap.size)) 20 [(0, .ref (q 34)), (1, .int x1), (2, .int x2)] [.int s0] (fR_ofObject_b20 n x1 x2 s0 M) := by
  unfold fR_ofObject_b20
  refine g_istore_n (lv' := [(3, .int s0), (0, .ref (q 34)), (1, .int x1), (2, .int x2)]) X dX5_ofObject_20 rfl (by decide) rfl ?_
  refine g_aload_n X dX5_ofObject_21 rfl rfl ?_
  refine r_g_isObj X dX5_ofObject_22 ?_
  refine g_iload_n X dX5_ofObject_25 rfl rfl ?_
  refine r_l_isObj X dX5_ofObject_26 ?_
  intro v1
  refine g_if_ne (tgt := 36) X dX5_ofObject_27 (by decide) ?_ ?_
  · refine g_aload_n X dX5_ofObject_36 rfl rfl ?_
    refine r_g_value X dX5_ofObject_37 ?_
    refine g_iload_n X dX5_ofObject_40 rfl rfl ?_
    refine r_l_value X dX5_ofObject_41 ?_
    intro v2
    refine g_istore (lv' := [(4, .int v2), (3, .int s0), (0, .ref (q 34)), (1, .int x1), (2, .int x2)]) X dX5_ofObject_42 (by decide) rfl ?_
    refine g_iload_n X dX5_ofObject_44 rfl rfl ?_
    refine g_bipush (v := (nI 7)) X dX5_ofObject_45 (by decide) ?_
    refine g_icmp_ne (tgt := 58) X dX5_ofObject_47 (by decide) ?_ ?_
    · refine g_iload X dX5_ofObject_58 rfl ?_
      refine k_objAt X ⟨Nat.le_of_ble_eq_true rfl, Nat.le_of_ble_eq_true rfl⟩ (Nat.le_of_ble_eq_true rfl) dX5_ofObject_60 ?_
      intro v3 M3
      refine g_iconst (v := (nI 1)) X dX5_ofObject_63 (by decide) ?_
      refine g_iadd X dX5_ofObject_64 ?_
      refine g_iload_n X dX5_ofObject_65 rfl rfl ?_
      refine g_iadd X dX5_ofObject_66 ?_
      refine g_istore (lv' := [(5, .int ((v3 + (nI 1)) + x2)), (4, .int v2), (3, .int s0), (0, .ref (q 34)), (1, .int x1), (2, .int x2)]) X dX5_ofObject_67 (by decide) rfl ?_
      refine g_aload_n X dX5_ofObject_69 rfl rfl ?_
      refine r_g_m X dX5_ofObject_70 ?_
      refine g_iload X dX5_ofObject_73 rfl ?_
      refine r_l_m X dX5_ofObject_75 ?_
      intro v4
      refine g_if_ne (tgt := 87) X dX5_ofObject_76 (by decide) ?_ ?_
      · refine g_iload_n X dX5_ofObject_87 rfl rfl ?_
        refine g_iconst (v := (nI 5)) X dX5_ofObject_88 (by decide) ?_
        refine g_icmp_ne (tgt := 133) X dX5_ofObject_89 (by decide) ?_ ?_
        · refine g_aload_n X dX5_ofObject_133 rfl rfl ?_
          refine r_g_m X dX5_ofObject_134 ?_
          refine g_iload X dX5_ofObject_137 rfl ?_
          refine g_aload_n X dX5_ofObject_139 rfl rfl ?_
          refine r_g_isObj X dX5_ofObject_140 ?_
          refine g_aload_n X dX5_ofObject_143 rfl rfl ?_
          refine r_g_top X dX5_ofObject_144 ?_
          intro v5
          refine g_iconst (v := (nI 1)) X dX5_ofObject_147 (by decide) ?_
          refine g_isub X dX5_ofObject_148 ?_
          refine r_l_isObj X dX5_ofObject_149 ?_
          intro v6
          refine g_if_eq (tgt := 157) X dX5_ofObject_150 (by decide) ?_ ?_
          · refine g_iconst (v := (nI 1)) X dX5_ofObject_157 (by decide) ?_
            exact g_pick [3, 2, 0] rfl (wR_ofObject_b158 X n s0 ((v3 + (nI 1)) + x2) ((v3 + (nI 1)) + x2) (nI 1) M3)
          · refine g_iconst (v := (nI 2)) X dX5_ofObject_153 (by decide) ?_
            refine g_goto (tgt := 158) X dX5_ofObject_154 (by decide) ?_
            exact g_pick [3, 2, 0] rfl (wR_ofObject_b158 X n s0 ((v3 + (nI 1)) + x2) ((v3 + (nI 1)) + x2) (nI 2) M3)
        · refine g_aload_n X dX5_ofObject_92 rfl rfl ?_
          refine r_g_isObj X dX5_ofObject_93 ?_
          refine g_iload_n X dX5_ofObject_96 rfl rfl ?_
          refine g_aload_n X dX5_ofObject_97 rfl rfl ?_
          refine r_g_m X dX5_ofObject_98 ?_
          refine g_iload X dX5_ofObject_101 rfl ?_
          refine r_l_m X dX5_ofObject_103 ?_
          intro v7
          refine g_iconst (v := (nI 2)) X dX5_ofObject_104 (by decide) ?_
          refine g_icmp_ne (tgt := 112) X dX5_ofObject_105 (by decide) ?_ ?_
          · refine g_iconst (v := (nI 0)) X dX5_ofObject_112 (by decide) ?_
            exact g_pick [3, 2, 0] rfl (wR_ofObject_b113 X n s0 ((v3 + (nI 1)) + x2) s0 (nI 0) M3)
          · refine g_iconst (v := (nI 1)) X dX5_ofObject_108 (by decide) ?_
            refine g_goto (tgt := 113) X dX5_ofObject_109 (by decide) ?_
            exact g_pick [3, 2, 0] rfl (wR_ofObject_b113 X n s0 ((v3 + (nI 1)) + x2) s0 (nI 1) M3)
      · refine g_aload_n X dX5_ofObject_79 rfl rfl ?_
        refine g_iconst (v := (nI 3)) X dX5_ofObject_80 (by decide) ?_
        refine k_fail X ⟨Nat.le_of_ble_eq_true rfl, Nat.le_of_ble_eq_true rfl⟩ (Nat.le_of_ble_eq_true rfl) dX5_ofObject_81 ?_
        intro v8 M8
        refine g_goto (tgt := 220) X dX5_ofObject_84 (by decide) ?_
        exact r_vret X dX5_ofObject_220
    · refine g_aload_n X dX5_ofObject_50 rfl rfl ?_
      refine g_iload X dX5_ofObject_51 rfl ?_
      refine g_iload_n X dX5_ofObject_53 rfl rfl ?_
      refine k_method X ⟨Nat.le_of_ble_eq_true rfl, Nat.le_of_ble_eq_true rfl⟩ (Nat.le_of_ble_eq_true rfl) dX5_ofObject_54 ?_
      intro v9 M9
      exact r_vret X dX5_ofObject_57
  · refine g_aload_n X dX5_ofObject_30 rfl rfl ?_
    refine g_iconst (v := (nI 1)) X dX5_ofObject_31 (by decide) ?_
    refine k_fail X ⟨Nat.le_of_ble_eq_true rfl, Nat.le_of_ble_eq_true rfl⟩ (Nat.le_of_ble_eq_true rfl) dX5_ofObject_32 ?_
    intro v10 M10
    exact r_vret X dX5_ofObject_35
def fR_ofObject (n : Nat) (x1 : Int32) (x2 : Int32) (M : MR) : Option (Int32 × MR) :=
    if x1 = (nI 5) then
      (gf M 12 fun v2 =>
      fR_ofObject_b20 n x1 x2 (v2 - (nI 1)) M)
    else
      (gf M 12 fun v1 =>
      fR_ofObject_b20 n x1 x2 (v1 - (nI 2)) M)
theorem c_ofObject (l : Launch) (D : va_G) (cI cZ : ClassId) (q : Nat → Nat) (n : Nat) (x1 : Int32) (x2 : Int32) (M : MR) : MetR l D cI cZ q yX5_ofObject cX5_ofObject 6 none 6 137 QV [.ref (q 34), .int x1, .int x2] M (fR_ofObject n x1 x2 M) := by
  refine MetR.of (by decide) rfl (Nat.le_of_ble_eq_true rfl) ?_
  intro p e s m args below meth c X
  unfold fR_ofObject
  refine g_pick (lv' := [(0, .ref (q 34)), (1, .int x1), (2, .int x2)]) [0, 1, 2] rfl ?_
  refine g_iload_n X dX5_ofObject_0 rfl rfl ?_
  refine g_iconst (v := (nI 5)) X dX5_ofObject_1 (by decide) ?_
  refine g_icmp_ne (tgt := 14) X dX5_ofObject_2 (by decide) ?_ ?_
  · refine g_aload_n X dX5_ofObject_14 rfl rfl ?_
    refine r_g_top X dX5_ofObject_15 ?_
    intro v1
    refine g_iconst (v := (nI 2)) X dX5_ofObject_18 (by decide) ?_
    refine g_isub X dX5_ofObject_19 ?_
    exact g_pick [0, 1, 2] rfl (wR_ofObject_b20 X n x1 x2 (v1 - (nI 2)) M)
  · refine g_aload_n X dX5_ofObject_5 rfl rfl ?_
    refine r_g_top X dX5_ofObject_6 ?_
    intro v2
    refine g_iconst (v := (nI 1)) X dX5_ofObject_9 (by decide) ?_
    refine g_isub X dX5_ofObject_10 ?_
    refine g_goto (tgt := 20) X dX5_ofObject_11 (by decide) ?_
    exact g_pick [0, 1, 2] rfl (wR_ofObject_b20 X n x1 x2 (v2 - (nI 1)) M)
theorem tc_ofObject : Cond.code yX5_ofObject cX5_ofObject 6 none ∈ tt := tt_in (List.mem_of_getElem? (i := 1031) (by decide +kernel)) (by decide +kernel)
theorem tl_ofObject : Cond.methodLink RX5 189 yX5_ofObject ∈ tt := tt_in (List.mem_of_getElem? (i := 1028) (by decide +kernel)) (by decide +kernel)
theorem ti_ofObject : Cond.instanceMethod yX5_ofObject ∈ tt := tt_in (List.mem_of_getElem? (i := 1030) (by decide +kernel)) (by decide +kernel)
theorem te_ofObject : Cond.selects RX5 yX5_ofObject yX5_ofObject ∈ tt := tt_in (List.mem_of_getElem? (i := 68) (by decide +kernel)) (by decide +kernel)
theorem k_ofObject (X : gX p s m args meth c cc nL RX5 rt D (tyR cI cZ)) {n : Nat} {x1 : Int32} {x2 : Int32} {M : MR} {rest : List Value} {K : Int32 → MR → Option ρ} (hR : 6 + 1 ≤ R.frames ∧ 8 + (6 + 11) + 137 ≤ R.locals) (hcat : (rest.map fun v => v.category).sum ≤ 8) (d : decode cc pc = .ok (.invokevirtual 189, 3)) (kk : ∀ v M1, gG p l e R s m args below meth c nL (ZR D cI cZ q (AR q s.heap.size) s.heap M1) 0 0 QQ (pc + 3) lv (rest) (K v M1)) : gG p l e R s m args below meth c nL (ZR D cI cZ q (AR q s.heap.size) s.heap M) 0 0 QQ pc lv (.int x2 :: .int x1 :: .ref (q 34) :: rest) (bnd (fR_ofObject n x1 x2 M) K) := r_callVv (As := [.int x1, .int x2]) X (c_ofObject l D cI cZ q n x1 x2 M) (cwVR (k := 2) X.2.2.2.2.1 tl_ofObject ti_ofObject te_ofObject tc_ofObject ini5 (by decide +kernel) hR) rfl rfl hcat d kk
-- reckon
def fR_reckon_b36 (n : Nat) (M : MR) : Option (Int32 × MR) :=
    bnd (fR_fail n (nI 1) M) fun _ M1 =>
    some (0, M1)
theorem wR_reckon_b36 (X : gX p s m args meth c cX5_reckon 4 RX5 none D (tyR cI cZ)) (n : Nat) (M : MR) : gG p l e (rmR 2 42) s m args below meth c 4 (ZR D cI cZ q (AR q s.heap.size) s.heap M) 0 0 (fun r => MQ below (QV D cI cZ q s.heap.size r) args s 0 0 (AR q s.heap.size)) 36 [(0, .ref (q 34))] [] (fR_reckon_b36 n M) := by
  unfold fR_reckon_b36
  refine g_aload_n X dX5_reckon_36 rfl rfl ?_
  refine g_iconst (v := (nI 1)) X dX5_reckon_37 (by decide) ?_
  refine k_fail X ⟨Nat.le_of_ble_eq_true rfl, Nat.le_of_ble_eq_true rfl⟩ (Nat.le_of_ble_eq_true rfl) dX5_reckon_38 ?_
  intro v1 M1
  exact r_vret X dX5_reckon_41
def fR_reckon_b80 (n : Nat) (x1 : Int32) (x2 : Int32) (x3 : Int32) (M : MR) : Option (Int32 × MR) :=
    gf M 12 fun v1 =>
    if x1 = (nI 8) then
      (wr M 11 2000 (v1 - (nI 1)) (x2 + x3) fun M7 =>
      some (0, M7))
    else
      (if x1 = (nI 9) then
        (wr M 11 2000 (v1 - (nI 1)) (x2 - x3) fun M6 =>
        some (0, M6))
      else
        (if x1 = (nI 10) then
          (wr M 11 2000 (v1 - (nI 1)) (x2 * x3) fun M5 =>
          some (0, M5))
        else
          (if x1 = (nI 11) then
            (if x3 = 0 then none else wr M 11 2000 (v1 - (nI 1)) (x2 / x3) fun M4 =>
            some (0, M4))
          else
            (if x3 ≤ x2 then
              (wr M 11 2000 (v1 - (nI 1)) (nI 0) fun M2 =>
              some (0, M2))
            else
              (wr M 11 2000 (v1 - (nI 1)) (nI 1) fun M3 =>
              some (0, M3))))))
theorem wR_reckon_b80 (X : gX p s m args meth c cX5_reckon 4 RX5 none D (tyR cI cZ)) (n : Nat) (x1 : Int32) (x2 : Int32) (x3 : Int32) (M : MR) : gG p l e (rmR 2 42) s m args below meth c 4 (ZR D cI cZ q (AR q s.heap.size) s.heap M) 0 0 (fun r => MQ below (QV D cI cZ q s.heap.size r) args s 0 0 (AR q s.heap.size)) 80 [(0, .ref (q 34)), (1, .int x1), (2, .int x2), (3, .int x3)] [] (fR_reckon_b80 n x1 x2 x3 M) := by
  unfold fR_reckon_b80
  refine g_aload_n X dX5_reckon_80 rfl rfl ?_
  refine r_g_value X dX5_reckon_81 ?_
  refine g_aload_n X dX5_reckon_84 rfl rfl ?_
  refine r_g_top X dX5_reckon_85 ?_
  intro v1
  refine g_iconst (v := (nI 1)) X dX5_reckon_88 (by decide) ?_
  refine g_isub X dX5_reckon_89 ?_
  refine g_iload_n X dX5_reckon_90 rfl rfl ?_
  refine g_bipush (v := (nI 8)) X dX5_reckon_91 (by decide) ?_
  refine g_icmp_ne (tgt := 102) X dX5_reckon_93 (by decide) ?_ ?_
  · refine g_iload_n X dX5_reckon_102 rfl rfl ?_
    refine g_bipush (v := (nI 9)) X dX5_reckon_103 (by decide) ?_
    refine g_icmp_ne (tgt := 114) X dX5_reckon_105 (by decide) ?_ ?_
    · refine g_iload_n X dX5_reckon_114 rfl rfl ?_
      refine g_bipush (v := (nI 10)) X dX5_reckon_115 (by decide) ?_
      refine g_icmp_ne (tgt := 126) X dX5_reckon_117 (by decide) ?_ ?_
      · refine g_iload_n X dX5_reckon_126 rfl rfl ?_
        refine g_bipush (v := (nI 11)) X dX5_reckon_127 (by decide) ?_
        refine g_icmp_ne (tgt := 138) X dX5_reckon_129 (by decide) ?_ ?_
        · refine g_iload_n X dX5_reckon_138 rfl rfl ?_
          refine g_iload_n X dX5_reckon_139 rfl rfl ?_
          refine g_icmp_ge (tgt := 147) X dX5_reckon_140 (by decide) ?_ ?_
          · refine g_iconst (v := (nI 0)) X dX5_reckon_147 (by decide) ?_
            refine r_s_value X dX5_reckon_148 ?_
            intro M2
            exact r_vret X dX5_reckon_149
          · refine g_iconst (v := (nI 1)) X dX5_reckon_143 (by decide) ?_
            refine g_goto (tgt := 148) X dX5_reckon_144 (by decide) ?_
            refine r_s_value X dX5_reckon_148 ?_
            intro M3
            exact r_vret X dX5_reckon_149
        · refine g_iload_n X dX5_reckon_132 rfl rfl ?_
          refine g_iload_n X dX5_reckon_133 rfl rfl ?_
          refine g_idiv X dX5_reckon_134 ?_
          refine g_goto (tgt := 148) X dX5_reckon_135 (by decide) ?_
          refine r_s_value X dX5_reckon_148 ?_
          intro M4
          exact r_vret X dX5_reckon_149
      · refine g_iload_n X dX5_reckon_120 rfl rfl ?_
        refine g_iload_n X dX5_reckon_121 rfl rfl ?_
        refine g_imul X dX5_reckon_122 ?_
        refine g_goto (tgt := 148) X dX5_reckon_123 (by decide) ?_
        refine r_s_value X dX5_reckon_148 ?_
        intro M5
        exact r_vret X dX5_reckon_149
    · refine g_iload_n X dX5_reckon_108 rfl rfl ?_
      refine g_iload_n X dX5_reckon_109 rfl rfl ?_
      refine g_isub X dX5_reckon_110 ?_
      refine g_goto (tgt := 148) X dX5_reckon_111 (by decide) ?_
      refine r_s_value X dX5_reckon_148 ?_
      intro M6
      exact r_vret X dX5_reckon_149
  · refine g_iload_n X dX5_reckon_96 rfl rfl ?_
    refine g_iload_n X dX5_reckon_97 rfl rfl ?_
    refine g_iadd X dX5_reckon_98 ?_
    refine g_goto (tgt := 148) X dX5_reckon_99 (by decide) ?_
    refine r_s_value X dX5_reckon_148 ?_
    intro M7
    exact r_vret X dX5_reckon_149
def fR_reckon (n : Nat) (x1 : Int32) (M : MR) : Option (Int32 × MR) :=
    gf M 12 fun v1 =>
    pf M 12 (v1 - (nI 1)) fun M2 =>
    gf M2 12 fun v3 =>
    rd M2 10 2000 v3 fun v4 =>
    if v4 = 0 then
      (gf M2 12 fun v5 =>
      rd M2 10 2000 (v5 - (nI 1)) fun v6 =>
      if v6 = 0 then
        (gf M2 12 fun v7 =>
        rd M2 11 2000 (v7 - (nI 1)) fun v8 =>
        gf M2 12 fun v9 =>
        rd M2 11 2000 v9 fun v10 =>
        if x1 = (nI 11) then
          (if v10 = 0 then
            (bnd (fR_fail n (nI 2) M2) fun _ M11 =>
            some (0, M11))
          else
            (fR_reckon_b80 n x1 v8 v10 M2))
        else
          (fR_reckon_b80 n x1 v8 v10 M2))
      else
        (fR_reckon_b36 n M2))
    else
      (fR_reckon_b36 n M2)
theorem c_reckon (l : Launch) (D : va_G) (cI cZ : ClassId) (q : Nat → Nat) (n : Nat) (x1 : Int32) (M : MR) : MetR l D cI cZ q yX5_reckon cX5_reckon 4 none 2 42 QV [.ref (q 34), .int x1] M (fR_reckon n x1 M) := by
  refine MetR.of (by decide) rfl (Nat.le_of_ble_eq_true rfl) ?_
  intro p e s m args below meth c X
  unfold fR_reckon
  refine g_pick (lv' := [(0, .ref (q 34)), (1, .int x1)]) [0, 1] rfl ?_
  refine g_aload_n X dX5_reckon_0 rfl rfl ?_
  refine g_dup X dX5_reckon_1 rfl ?_
  refine r_g_top X dX5_reckon_2 ?_
  intro v1
  refine g_iconst (v := (nI 1)) X dX5_reckon_5 (by decide) ?_
  refine g_isub X dX5_reckon_6 ?_
  refine r_p_top X dX5_reckon_7 ?_
  intro M2
  refine g_aload_n X dX5_reckon_10 rfl rfl ?_
  refine r_g_isObj X dX5_reckon_11 ?_
  refine g_aload_n X dX5_reckon_14 rfl rfl ?_
  refine r_g_top X dX5_reckon_15 ?_
  intro v3
  refine r_l_isObj X dX5_reckon_18 ?_
  intro v4
  refine g_if_ne (tgt := 36) X dX5_reckon_19 (by decide) ?_ ?_
  · exact g_pick [0] rfl (wR_reckon_b36 X n M2)
  · refine g_aload_n X dX5_reckon_22 rfl rfl ?_
    refine r_g_isObj X dX5_reckon_23 ?_
    refine g_aload_n X dX5_reckon_26 rfl rfl ?_
    refine r_g_top X dX5_reckon_27 ?_
    intro v5
    refine g_iconst (v := (nI 1)) X dX5_reckon_30 (by decide) ?_
    refine g_isub X dX5_reckon_31 ?_
    refine r_l_isObj X dX5_reckon_32 ?_
    intro v6
    refine g_if_eq (tgt := 42) X dX5_reckon_33 (by decide) ?_ ?_
    · refine g_aload_n X dX5_reckon_42 rfl rfl ?_
      refine r_g_value X dX5_reckon_43 ?_
      refine g_aload_n X dX5_reckon_46 rfl rfl ?_
      refine r_g_top X dX5_reckon_47 ?_
      intro v7
      refine g_iconst (v := (nI 1)) X dX5_reckon_50 (by decide) ?_
      refine g_isub X dX5_reckon_51 ?_
      refine r_l_value X dX5_reckon_52 ?_
      intro v8
      refine g_istore_n (lv' := [(2, .int v8), (0, .ref (q 34)), (1, .int x1)]) X dX5_reckon_53 rfl (by decide) rfl ?_
      refine g_aload_n X dX5_reckon_54 rfl rfl ?_
      refine r_g_value X dX5_reckon_55 ?_
      refine g_aload_n X dX5_reckon_58 rfl rfl ?_
      refine r_g_top X dX5_reckon_59 ?_
      intro v9
      refine r_l_value X dX5_reckon_62 ?_
      intro v10
      refine g_istore_n (lv' := [(3, .int v10), (2, .int v8), (0, .ref (q 34)), (1, .int x1)]) X dX5_reckon_63 rfl (by decide) rfl ?_
      refine g_iload_n X dX5_reckon_64 rfl rfl ?_
      refine g_bipush (v := (nI 11)) X dX5_reckon_65 (by decide) ?_
      refine g_icmp_ne (tgt := 80) X dX5_reckon_67 (by decide) ?_ ?_
      · exact g_pick [2, 3, 1, 0] rfl (wR_reckon_b80 X n x1 v8 v10 M2)
      · refine g_iload_n X dX5_reckon_70 rfl rfl ?_
        refine g_if_ne (tgt := 80) X dX5_reckon_71 (by decide) ?_ ?_
        · exact g_pick [2, 3, 1, 0] rfl (wR_reckon_b80 X n x1 v8 v10 M2)
        · refine g_aload_n X dX5_reckon_74 rfl rfl ?_
          refine g_iconst (v := (nI 2)) X dX5_reckon_75 (by decide) ?_
          refine k_fail X ⟨Nat.le_of_ble_eq_true rfl, Nat.le_of_ble_eq_true rfl⟩ (Nat.le_of_ble_eq_true rfl) dX5_reckon_76 ?_
          intro v11 M11
          exact r_vret X dX5_reckon_79
    · exact g_pick [0] rfl (wR_reckon_b36 X n M2)
theorem tc_reckon : Cond.code yX5_reckon cX5_reckon 4 none ∈ tt := tt_in (List.mem_of_getElem? (i := 1043) (by decide +kernel)) (by decide +kernel)
theorem tl_reckon : Cond.methodLink RX5 192 yX5_reckon ∈ tt := tt_in (List.mem_of_getElem? (i := 1040) (by decide +kernel)) (by decide +kernel)
theorem ti_reckon : Cond.instanceMethod yX5_reckon ∈ tt := tt_in (List.mem_of_getElem? (i := 1042) (by decide +kernel)) (by decide +kernel)
theorem te_reckon : Cond.selects RX5 yX5_reckon yX5_reckon ∈ tt := tt_in (List.mem_of_getElem? (i := 71) (by decide +kernel)) (by decide +kernel)
theorem k_reckon (X : gX p s m args meth c cc nL RX5 rt D (tyR cI cZ)) {n : Nat} {x1 : Int32} {M : MR} {rest : List Value} {K : Int32 → MR → Option ρ} (hR : 2 + 1 ≤ R.frames ∧ 8 + (4 + 11) + 42 ≤ R.locals) (hcat : (rest.map fun v => v.category).sum ≤ 8) (d : decode cc pc = .ok (.invokevirtual 192, 3)) (kk : ∀ v M1, gG p l e R s m args below meth c nL (ZR D cI cZ q (AR q s.heap.size) s.heap M1) 0 0 QQ (pc + 3) lv (rest) (K v M1)) : gG p l e R s m args below meth c nL (ZR D cI cZ q (AR q s.heap.size) s.heap M) 0 0 QQ pc lv (.int x1 :: .ref (q 34) :: rest) (bnd (fR_reckon n x1 M) K) := r_callVv (As := [.int x1]) X (c_reckon l D cI cZ q n x1 M) (cwVR (k := 1) X.2.2.2.2.1 tl_reckon ti_reckon te_reckon tc_reckon ini5 (by decide +kernel) hR) rfl rfl hcat d kk
-- choose
def fR_choose_b57 (n : Nat) (s0 : Int32) (M : MR) : Option (Int32 × MR) :=
    gf M 12 fun v1 =>
    rd M 10 2000 s0 fun v2 =>
    wz M 10 2000 (v1 - (nI 1)) v2 fun M3 =>
    gf M3 12 fun v4 =>
    rd M3 11 2000 s0 fun v5 =>
    wr M3 11 2000 (v4 - (nI 1)) v5 fun M6 =>
    some (0, M6)
theorem wR_choose_b57 (X : gX p s m args meth c cX5_choose 2 RX5 none D (tyR cI cZ)) (n : Nat) (s0 : Int32) (M : MR) : gG p l e (rmR 2 42) s m args below meth c 2 (ZR D cI cZ q (AR q s.heap.size) s.heap M) 0 0 (fun r => MQ below (QV D cI cZ q s.heap.size r) args s 0 0 (AR q s.heap.size)) 57 [(0, .ref (q 34))] [.int s0] (fR_choose_b57 n s0 M) := by
  unfold fR_choose_b57
  refine g_istore_n (lv' := [(1, .int s0), (0, .ref (q 34))]) X dX5_choose_57 rfl (by decide) rfl ?_
  refine g_aload_n X dX5_choose_58 rfl rfl ?_
  refine r_g_isObj X dX5_choose_59 ?_
  refine g_aload_n X dX5_choose_62 rfl rfl ?_
  refine r_g_top X dX5_choose_63 ?_
  intro v1
  refine g_iconst (v := (nI 1)) X dX5_choose_66 (by decide) ?_
  refine g_isub X dX5_choose_67 ?_
  refine g_aload_n X dX5_choose_68 rfl rfl ?_
  refine r_g_isObj X dX5_choose_69 ?_
  refine g_iload_n X dX5_choose_72 rfl rfl ?_
  refine r_l_isObj X dX5_choose_73 ?_
  intro v2
  refine r_s_isObj X dX5_choose_74 ?_
  intro M3
  refine g_aload_n X dX5_choose_75 rfl rfl ?_
  refine r_g_value X dX5_choose_76 ?_
  refine g_aload_n X dX5_choose_79 rfl rfl ?_
  refine r_g_top X dX5_choose_80 ?_
  intro v4
  refine g_iconst (v := (nI 1)) X dX5_choose_83 (by decide) ?_
  refine g_isub X dX5_choose_84 ?_
  refine g_aload_n X dX5_choose_85 rfl rfl ?_
  refine r_g_value X dX5_choose_86 ?_
  refine g_iload_n X dX5_choose_89 rfl rfl ?_
  refine r_l_value X dX5_choose_90 ?_
  intro v5
  refine r_s_value X dX5_choose_91 ?_
  intro M6
  exact r_vret X dX5_choose_92
def fR_choose (n : Nat) (M : MR) : Option (Int32 × MR) :=
    gf M 12 fun v1 =>
    pf M 12 (v1 - (nI 2)) fun M2 =>
    gf M2 12 fun v3 =>
    rd M2 10 2000 (v3 - (nI 1)) fun v4 =>
    if v4 = 0 then
      (gf M2 12 fun v5 =>
      rd M2 11 2000 (v5 - (nI 1)) fun v6 =>
      if v6 = 0 then
        (gf M2 12 fun v7 =>
        fR_choose_b57 n (v7 + (nI 1)) M2)
      else
        (gf M2 12 fun v8 =>
        fR_choose_b57 n v8 M2))
    else
      (bnd (fR_fail n (nI 1) M2) fun _ M9 =>
      some (0, M9))
theorem c_choose (l : Launch) (D : va_G) (cI cZ : ClassId) (q : Nat → Nat) (n : Nat) (M : MR) : MetR l D cI cZ q yX5_choose cX5_choose 2 none 2 42 QV [.ref (q 34)] M (fR_choose n M) := by
  refine MetR.of (by decide) rfl (Nat.le_of_ble_eq_true rfl) ?_
  intro p e s m args below meth c X
  unfold fR_choose
  refine g_pick (lv' := [(0, .ref (q 34))]) [0] rfl ?_
  refine g_aload_n X dX5_choose_0 rfl rfl ?_
  refine g_dup X dX5_choose_1 rfl ?_
  refine r_g_top X dX5_choose_2 ?_
  intro v1
  refine g_iconst (v := (nI 2)) X dX5_choose_5 (by decide) ?_
  refine g_isub X dX5_choose_6 ?_
  refine r_p_top X dX5_choose_7 ?_
  intro M2
  refine g_aload_n X dX5_choose_10 rfl rfl ?_
  refine r_g_isObj X dX5_choose_11 ?_
  refine g_aload_n X dX5_choose_14 rfl rfl ?_
  refine r_g_top X dX5_choose_15 ?_
  intro v3
  refine g_iconst (v := (nI 1)) X dX5_choose_18 (by decide) ?_
  refine g_isub X dX5_choose_19 ?_
  refine r_l_isObj X dX5_choose_20 ?_
  intro v4
  refine g_if_eq (tgt := 30) X dX5_choose_21 (by decide) ?_ ?_
  · refine g_aload_n X dX5_choose_30 rfl rfl ?_
    refine r_g_value X dX5_choose_31 ?_
    refine g_aload_n X dX5_choose_34 rfl rfl ?_
    refine r_g_top X dX5_choose_35 ?_
    intro v5
    refine g_iconst (v := (nI 1)) X dX5_choose_38 (by decide) ?_
    refine g_isub X dX5_choose_39 ?_
    refine r_l_value X dX5_choose_40 ?_
    intro v6
    refine g_if_eq (tgt := 51) X dX5_choose_41 (by decide) ?_ ?_
    · refine g_aload_n X dX5_choose_51 rfl rfl ?_
      refine r_g_top X dX5_choose_52 ?_
      intro v7
      refine g_iconst (v := (nI 1)) X dX5_choose_55 (by decide) ?_
      refine g_iadd X dX5_choose_56 ?_
      exact g_pick [0] rfl (wR_choose_b57 X n (v7 + (nI 1)) M2)
    · refine g_aload_n X dX5_choose_44 rfl rfl ?_
      refine r_g_top X dX5_choose_45 ?_
      intro v8
      refine g_goto (tgt := 57) X dX5_choose_48 (by decide) ?_
      exact g_pick [0] rfl (wR_choose_b57 X n v8 M2)
  · refine g_aload_n X dX5_choose_24 rfl rfl ?_
    refine g_iconst (v := (nI 1)) X dX5_choose_25 (by decide) ?_
    refine k_fail X ⟨Nat.le_of_ble_eq_true rfl, Nat.le_of_ble_eq_true rfl⟩ (Nat.le_of_ble_eq_true rfl) dX5_choose_26 ?_
    intro v9 M9
    exact r_vret X dX5_choose_29
theorem tc_choose : Cond.code yX5_choose cX5_choose 2 none ∈ tt := tt_in (List.mem_of_getElem? (i := 1047) (by decide +kernel)) (by decide +kernel)
theorem tl_choose : Cond.methodLink RX5 195 yX5_choose ∈ tt := tt_in (List.mem_of_getElem? (i := 1044) (by decide +kernel)) (by decide +kernel)
theorem ti_choose : Cond.instanceMethod yX5_choose ∈ tt := tt_in (List.mem_of_getElem? (i := 1046) (by decide +kernel)) (by decide +kernel)
theorem te_choose : Cond.selects RX5 yX5_choose yX5_choose ∈ tt := tt_in (List.mem_of_getElem? (i := 72) (by decide +kernel)) (by decide +kernel)
theorem k_choose (X : gX p s m args meth c cc nL RX5 rt D (tyR cI cZ)) {n : Nat} {M : MR} {rest : List Value} {K : Int32 → MR → Option ρ} (hR : 2 + 1 ≤ R.frames ∧ 8 + (2 + 11) + 42 ≤ R.locals) (hcat : (rest.map fun v => v.category).sum ≤ 8) (d : decode cc pc = .ok (.invokevirtual 195, 3)) (kk : ∀ v M1, gG p l e R s m args below meth c nL (ZR D cI cZ q (AR q s.heap.size) s.heap M1) 0 0 QQ (pc + 3) lv (rest) (K v M1)) : gG p l e R s m args below meth c nL (ZR D cI cZ q (AR q s.heap.size) s.heap M) 0 0 QQ pc lv (.ref (q 34) :: rest) (bnd (fR_choose n M) K) := r_callVv (As := []) X (c_choose l D cI cZ q n M) (cwVR (k := 0) X.2.2.2.2.1 tl_choose ti_choose te_choose tc_choose ini5 (by decide +kernel) hR) rfl rfl hcat d kk
-- write
def fR_write_b49 (n : Nat) (M : MR) : Option (Int32 × MR) :=
    gf M 25 fun v1 =>
    pf M 25 (v1 + (nI 1)) fun M2 =>
    some (0, M2)
theorem wR_write_b49 (X : gX p s m args meth c cX5_write 1 RX5 none D (tyR cI cZ)) (n : Nat) (M : MR) : gG p l e (rmR 0 0) s m args below meth c 1 (ZR D cI cZ q (AR q s.heap.size) s.heap M) 0 0 (fun r => MQ below (QV D cI cZ q s.heap.size r) args s 0 0 (AR q s.heap.size)) 49 [(0, .ref (q 34))] [] (fR_write_b49 n M) := by
  unfold fR_write_b49
  refine g_aload_n X dX5_write_49 rfl rfl ?_
  refine g_dup X dX5_write_50 rfl ?_
  refine r_g_wrote X dX5_write_51 ?_
  intro v1
  refine g_iconst (v := (nI 1)) X dX5_write_54 (by decide) ?_
  refine g_iadd X dX5_write_55 ?_
  refine r_p_wrote X dX5_write_56 ?_
  intro M2
  exact r_vret X dX5_write_59
def fR_write (n : Nat) (M : MR) : Option (Int32 × MR) :=
    gf M 25 fun v1 =>
    if (nI 20) ≤ v1 then
      (fR_write_b49 n M)
    else
      (gf M 25 fun v2 =>
      gf M 12 fun v3 =>
      rd M 10 2000 (v3 - (nI 1)) fun v4 =>
      wz M 26 20 v2 v4 fun M5 =>
      gf M5 25 fun v6 =>
      gf M5 12 fun v7 =>
      rd M5 11 2000 (v7 - (nI 1)) fun v8 =>
      wr M5 27 20 v6 v8 fun M9 =>
      fR_write_b49 n M9)
theorem c_write (l : Launch) (D : va_G) (cI cZ : ClassId) (q : Nat → Nat) (n : Nat) (M : MR) : MetR l D cI cZ q yX5_write cX5_write 1 none 0 0 QV [.ref (q 34)] M (fR_write n M) := by
  refine MetR.of (by decide) rfl (Nat.le_of_ble_eq_true rfl) ?_
  intro p e s m args below meth c X
  unfold fR_write
  refine g_pick (lv' := [(0, .ref (q 34))]) [0] rfl ?_
  refine g_aload_n X dX5_write_0 rfl rfl ?_
  refine r_g_wrote X dX5_write_1 ?_
  intro v1
  refine g_bipush (v := (nI 20)) X dX5_write_4 (by decide) ?_
  refine g_icmp_ge (tgt := 49) X dX5_write_6 (by decide) ?_ ?_
  · exact g_pick [0] rfl (wR_write_b49 X n M)
  · refine g_aload_n X dX5_write_9 rfl rfl ?_
    refine r_g_isWrittenObj X dX5_write_10 ?_
    refine g_aload_n X dX5_write_13 rfl rfl ?_
    refine r_g_wrote X dX5_write_14 ?_
    intro v2
    refine g_aload_n X dX5_write_17 rfl rfl ?_
    refine r_g_isObj X dX5_write_18 ?_
    refine g_aload_n X dX5_write_21 rfl rfl ?_
    refine r_g_top X dX5_write_22 ?_
    intro v3
    refine g_iconst (v := (nI 1)) X dX5_write_25 (by decide) ?_
    refine g_isub X dX5_write_26 ?_
    refine r_l_isObj X dX5_write_27 ?_
    intro v4
    refine r_s_isWrittenObj X dX5_write_28 ?_
    intro M5
    refine g_aload_n X dX5_write_29 rfl rfl ?_
    refine r_g_writtenValue X dX5_write_30 ?_
    refine g_aload_n X dX5_write_33 rfl rfl ?_
    refine r_g_wrote X dX5_write_34 ?_
    intro v6
    refine g_aload_n X dX5_write_37 rfl rfl ?_
    refine r_g_value X dX5_write_38 ?_
    refine g_aload_n X dX5_write_41 rfl rfl ?_
    refine r_g_top X dX5_write_42 ?_
    intro v7
    refine g_iconst (v := (nI 1)) X dX5_write_45 (by decide) ?_
    refine g_isub X dX5_write_46 ?_
    refine r_l_value X dX5_write_47 ?_
    intro v8
    refine r_s_writtenValue X dX5_write_48 ?_
    intro M9
    exact g_pick [0] rfl (wR_write_b49 X n M9)
theorem tc_write : Cond.code yX5_write cX5_write 1 none ∈ tt := tt_in (List.mem_of_getElem? (i := 1051) (by decide +kernel)) (by decide +kernel)
theorem tl_write : Cond.methodLink RX5 198 yX5_write ∈ tt := tt_in (List.mem_of_getElem? (i := 1048) (by decide +kernel)) (by decide +kernel)
theorem ti_write : Cond.instanceMethod yX5_write ∈ tt := tt_in (List.mem_of_getElem? (i := 1050) (by decide +kernel)) (by decide +kernel)
theorem te_write : Cond.selects RX5 yX5_write yX5_write ∈ tt := tt_in (List.mem_of_getElem? (i := 73) (by decide +kernel)) (by decide +kernel)
theorem k_write (X : gX p s m args meth c cc nL RX5 rt D (tyR cI cZ)) {n : Nat} {M : MR} {rest : List Value} {K : Int32 → MR → Option ρ} (hR : 0 + 1 ≤ R.frames ∧ 8 + (1 + 11) + 0 ≤ R.locals) (hcat : (rest.map fun v => v.category).sum ≤ 8) (d : decode cc pc = .ok (.invokevirtual 198, 3)) (kk : ∀ v M1, gG p l e R s m args below meth c nL (ZR D cI cZ q (AR q s.heap.size) s.heap M1) 0 0 QQ (pc + 3) lv (rest) (K v M1)) : gG p l e R s m args below meth c nL (ZR D cI cZ q (AR q s.heap.size) s.heap M) 0 0 QQ pc lv (.ref (q 34) :: rest) (bnd (fR_write n M) K) := r_callVv (As := []) X (c_write l D cI cZ q n M) (cwVR (k := 0) X.2.2.2.2.1 tl_write ti_write te_write tc_write ini5 (by decide +kernel) hR) rfl rfl hcat d kk
-- start
def fR_start_b31 (n : Nat) (x1 : Int32) (x2 : Int32) (M : MR) : Option (Int32 × MR) :=
    bnd (fR_editAt n x1 M) fun v1 M1 =>
    wr M1 0 62610 (v1 + (nI 5)) (nI 1) fun M2 =>
    zt (nI 1) (pf M2 22 (nI 1) fun M3 =>
    bnd (fR_lengthOf n x1 M3) fun v4 M4 =>
    if v4 ≤ x2 then
      (some (0, M4))
    else
      (zt (nI 0) (pf M4 22 (nI 0) fun M5 =>
      bnd (fR_lengthOf n x1 M5) fun v6 M6 =>
      bnd (fR_frame n x1 x2 v6 (-1 : Int32) x1 M6) fun _ M7 =>
      some (0, M7))))
theorem wR_start_b31 (X : gX p s m args meth c cX5_start 3 RX5 none D (tyR cI cZ)) (n : Nat) (x1 : Int32) (x2 : Int32) (M : MR) : gG p l e (rmR 5 108) s m args below meth c 3 (ZR D cI cZ q (AR q s.heap.size) s.heap M) 0 0 (fun r => MQ below (QV D cI cZ q s.heap.size r) args s 0 0 (AR q s.heap.size)) 31 [(0, .ref (q 34)), (1, .int x1), (2, .int x2)] [] (fR_start_b31 n x1 x2 M) := by
  unfold fR_start_b31
  refine g_aload_n X dX5_start_31 rfl rfl ?_
  refine r_g_m X dX5_start_32 ?_
  refine g_iload_n X dX5_start_35 rfl rfl ?_
  refine k_editAt X ⟨Nat.le_of_ble_eq_true rfl, Nat.le_of_ble_eq_true rfl⟩ (Nat.le_of_ble_eq_true rfl) dX5_start_36 ?_
  intro v1 M1
  refine g_iconst (v := (nI 5)) X dX5_start_39 (by decide) ?_
  refine g_iadd X dX5_start_40 ?_
  refine g_iconst (v := (nI 1)) X dX5_start_41 (by decide) ?_
  refine r_s_m X dX5_start_42 ?_
  intro M2
  refine g_aload_n X dX5_start_43 rfl rfl ?_
  refine g_iconst (v := (nI 1)) X dX5_start_44 (by decide) ?_
  refine r_p_again X dX5_start_45 ?_
  intro M3
  refine g_iload_n X dX5_start_48 rfl rfl ?_
  refine g_aload_n X dX5_start_49 rfl rfl ?_
  refine g_iload_n X dX5_start_50 rfl rfl ?_
  refine k_lengthOf X ⟨Nat.le_of_ble_eq_true rfl, Nat.le_of_ble_eq_true rfl⟩ (Nat.le_of_ble_eq_true rfl) dX5_start_51 ?_
  intro v4 M4
  refine g_icmp_ge (tgt := 75) X dX5_start_54 (by decide) ?_ ?_
  · exact r_vret X dX5_start_75
  · refine g_aload_n X dX5_start_57 rfl rfl ?_
    refine g_iconst (v := (nI 0)) X dX5_start_58 (by decide) ?_
    refine r_p_again X dX5_start_59 ?_
    intro M5
    refine g_aload_n X dX5_start_62 rfl rfl ?_
    refine g_iload_n X dX5_start_63 rfl rfl ?_
    refine g_iload_n X dX5_start_64 rfl rfl ?_
    refine g_aload_n X dX5_start_65 rfl rfl ?_
    refine g_iload_n X dX5_start_66 rfl rfl ?_
    refine k_lengthOf X ⟨Nat.le_of_ble_eq_true rfl, Nat.le_of_ble_eq_true rfl⟩ (Nat.le_of_ble_eq_true rfl) dX5_start_67 ?_
    intro v6 M6
    refine g_iconst (v := (-1 : Int32)) X dX5_start_70 (by decide) ?_
    refine g_iload_n X dX5_start_71 rfl rfl ?_
    refine k_frame X ⟨Nat.le_of_ble_eq_true rfl, Nat.le_of_ble_eq_true rfl⟩ (Nat.le_of_ble_eq_true rfl) dX5_start_72 ?_
    intro v7 M7
    exact r_vret X dX5_start_75
def fR_start (n : Nat) (x1 : Int32) (M : MR) : Option (Int32 × MR) :=
    bnd (fR_startPlace n x1 M) fun v1 M1 =>
    bnd (fR_lengthOf n x1 M1) fun v2 M2 =>
    if v2 ≤ v1 then
      (fR_start_b31 n x1 v1 M2)
    else
      (gf M2 21 fun v3 =>
      if v3 = (nI 20) then
        (bnd (fR_fail n (nI 7) M2) fun _ M4 =>
        some (0, M4))
      else
        (fR_start_b31 n x1 v1 M2))
theorem c_start (l : Launch) (D : va_G) (cI cZ : ClassId) (q : Nat → Nat) (n : Nat) (x1 : Int32) (M : MR) : MetR l D cI cZ q yX5_start cX5_start 3 none 5 108 QV [.ref (q 34), .int x1] M (fR_start n x1 M) := by
  refine MetR.of (by decide) rfl (Nat.le_of_ble_eq_true rfl) ?_
  intro p e s m args below meth c X
  unfold fR_start
  refine g_pick (lv' := [(0, .ref (q 34)), (1, .int x1)]) [0, 1] rfl ?_
  refine g_aload_n X dX5_start_0 rfl rfl ?_
  refine g_iload_n X dX5_start_1 rfl rfl ?_
  refine k_startPlace X ⟨Nat.le_of_ble_eq_true rfl, Nat.le_of_ble_eq_true rfl⟩ (Nat.le_of_ble_eq_true rfl) dX5_start_2 ?_
  intro v1 M1
  refine g_istore_n (lv' := [(2, .int v1), (0, .ref (q 34)), (1, .int x1)]) X dX5_start_5 rfl (by decide) rfl ?_
  refine g_iload_n X dX5_start_6 rfl rfl ?_
  refine g_aload_n X dX5_start_7 rfl rfl ?_
  refine g_iload_n X dX5_start_8 rfl rfl ?_
  refine k_lengthOf X ⟨Nat.le_of_ble_eq_true rfl, Nat.le_of_ble_eq_true rfl⟩ (Nat.le_of_ble_eq_true rfl) dX5_start_9 ?_
  intro v2 M2
  refine g_icmp_ge (tgt := 31) X dX5_start_12 (by decide) ?_ ?_
  · exact g_pick [1, 2, 0] rfl (wR_start_b31 X n x1 v1 M2)
  · refine g_aload_n X dX5_start_15 rfl rfl ?_
    refine r_g_inner X dX5_start_16 ?_
    intro v3
    refine g_bipush (v := (nI 20)) X dX5_start_19 (by decide) ?_
    refine g_icmp_ne (tgt := 31) X dX5_start_21 (by decide) ?_ ?_
    · exact g_pick [1, 2, 0] rfl (wR_start_b31 X n x1 v1 M2)
    · refine g_aload_n X dX5_start_24 rfl rfl ?_
      refine g_bipush (v := (nI 7)) X dX5_start_25 (by decide) ?_
      refine k_fail X ⟨Nat.le_of_ble_eq_true rfl, Nat.le_of_ble_eq_true rfl⟩ (Nat.le_of_ble_eq_true rfl) dX5_start_27 ?_
      intro v4 M4
      exact r_vret X dX5_start_30
theorem tc_start : Cond.code yX5_start cX5_start 3 none ∈ tt := tt_in (List.mem_of_getElem? (i := 988) (by decide +kernel)) (by decide +kernel)
theorem tl_start : Cond.methodLink RX5 218 yX5_start ∈ tt := tt_in (List.mem_of_getElem? (i := 985) (by decide +kernel)) (by decide +kernel)
theorem ti_start : Cond.instanceMethod yX5_start ∈ tt := tt_in (List.mem_of_getElem? (i := 987) (by decide +kernel)) (by decide +kernel)
theorem te_start : Cond.selects RX5 yX5_start yX5_start ∈ tt := tt_in (List.mem_of_getElem? (i := 58) (by decide +kernel)) (by decide +kernel)
theorem k_start (X : gX p s m args meth c cc nL RX5 rt D (tyR cI cZ)) {n : Nat} {x1 : Int32} {M : MR} {rest : List Value} {K : Int32 → MR → Option ρ} (hR : 5 + 1 ≤ R.frames ∧ 8 + (3 + 11) + 108 ≤ R.locals) (hcat : (rest.map fun v => v.category).sum ≤ 8) (d : decode cc pc = .ok (.invokevirtual 218, 3)) (kk : ∀ v M1, gG p l e R s m args below meth c nL (ZR D cI cZ q (AR q s.heap.size) s.heap M1) 0 0 QQ (pc + 3) lv (rest) (K v M1)) : gG p l e R s m args below meth c nL (ZR D cI cZ q (AR q s.heap.size) s.heap M) 0 0 QQ pc lv (.int x1 :: .ref (q 34) :: rest) (bnd (fR_start n x1 M) K) := r_callVv (As := [.int x1]) X (c_start l D cI cZ q n x1 M) (cwVR (k := 1) X.2.2.2.2.1 tl_start ti_start te_start tc_start ini5 (by decide +kernel) hR) rfl rfl hcat d kk
-- make
def fR_make_b62 (n : Nat) (k7 : Int32 → Int32 → Int32 → Int32 → MR → Option (Int32 × MR)) (x1 : Int32) (x3 : Int32) (x4 : Int32) (s0 : Int32) (M : MR) : Option (Int32 × MR) :=
    bnd (fR_parentOf n x4 M) fun v1 M1 =>
    k7 x1 s0 x3 v1 M1
theorem wR_make_b62 (X : gX p s m args meth c cX5_make 6 RX5 none D (tyR cI cZ)) (n : Nat) (k7 : Int32 → Int32 → Int32 → Int32 → MR → Option (Int32 × MR)) (hk7 : ∀ (x1 : Int32) (x2 : Int32) (x3 : Int32) (x4 : Int32) (M : MR), gG p l e (rmR 6 130) s m args below meth c 6 (ZR D cI cZ q (AR q s.heap.size) s.heap M) 0 0 (fun r => MQ below (QV D cI cZ q s.heap.size r) args s 0 0 (AR q s.heap.size)) 7 [(0, .ref (q 34)), (1, .int x1), (2, .int x2), (3, .int x3), (4, .int x4)] [] (k7 x1 x2 x3 x4 M)) (x1 : Int32) (x3 : Int32) (x4 : Int32) (s0 : Int32) (M : MR) : gG p l e (rmR 6 130) s m args below meth c 6 (ZR D cI cZ q (AR q s.heap.size) s.heap M) 0 0 (fun r => MQ below (QV D cI cZ q s.heap.size r) args s 0 0 (AR q s.heap.size)) 62 [(0, .ref (q 34)), (1, .int x1), (3, .int x3), (4, .int x4)] [.int s0] (fR_make_b62 n k7 x1 x3 x4 s0 M) := by
  unfold fR_make_b62
  refine g_istore_n (lv' := [(2, .int s0), (0, .ref (q 34)), (1, .int x1), (3, .int x3), (4, .int x4)]) X dX5_make_62 rfl (by decide) rfl ?_
  refine g_aload_n X dX5_make_63 rfl rfl ?_
  refine g_iload X dX5_make_64 rfl ?_
  refine k_parentOf X ⟨Nat.le_of_ble_eq_true rfl, Nat.le_of_ble_eq_true rfl⟩ (Nat.le_of_ble_eq_true rfl) dX5_make_66 ?_
  intro v1 M1
  refine g_istore (lv' := [(4, .int v1), (2, .int s0), (0, .ref (q 34)), (1, .int x1), (3, .int x3)]) X dX5_make_69 (by decide) rfl ?_
  refine g_goto (tgt := 7) X dX5_make_71 (by decide) ?_
  exact g_pick [2, 3, 1, 4, 0] rfl (hk7 x1 s0 x3 v1 M1)
def fR_make_b50 (n : Nat) (k7 : Int32 → Int32 → Int32 → Int32 → MR → Option (Int32 × MR)) (x1 : Int32) (x2 : Int32) (x4 : Int32) (s0 : Int32) (s1 : Int32) (M : MR) : Option (Int32 × MR) :=
    if (s0 &&& s1) = 0 then (fR_make_b62 n k7 x1 (s0 &&& s1) x4 x2 M) else (fR_make_b62 n k7 x1 (s0 &&& s1) x4 x4 M)
theorem wR_make_b50 (X : gX p s m args meth c cX5_make 6 RX5 none D (tyR cI cZ)) (n : Nat) (k7 : Int32 → Int32 → Int32 → Int32 → MR → Option (Int32 × MR)) (hk7 : ∀ (x1 : Int32) (x2 : Int32) (x3 : Int32) (x4 : Int32) (M : MR), gG p l e (rmR 6 130) s m args below meth c 6 (ZR D cI cZ q (AR q s.heap.size) s.heap M) 0 0 (fun r => MQ below (QV D cI cZ q s.heap.size r) args s 0 0 (AR q s.heap.size)) 7 [(0, .ref (q 34)), (1, .int x1), (2, .int x2), (3, .int x3), (4, .int x4)] [] (k7 x1 x2 x3 x4 M)) (x1 : Int32) (x2 : Int32) (x4 : Int32) (s0 : Int32) (s1 : Int32) (M : MR) : gG p l e (rmR 6 130) s m args below meth c 6 (ZR D cI cZ q (AR q s.heap.size) s.heap M) 0 0 (fun r => MQ below (QV D cI cZ q s.heap.size r) args s 0 0 (AR q s.heap.size)) 50 [(0, .ref (q 34)), (1, .int x1), (2, .int x2), (4, .int x4)] [.int s1, .int s0] (fR_make_b50 n k7 x1 x2 x4 s0 s1 M) := by
  unfold fR_make_b50
  refine g_iand X dX5_make_50 ?_
  refine g_istore_n (lv' := [(3, .int (s0 &&& s1)), (0, .ref (q 34)), (1, .int x1), (2, .int x2), (4, .int x4)]) X dX5_make_51 rfl (by decide) rfl ?_
  refine g_iload_n X dX5_make_52 rfl rfl ?_
  refine g_if_eq (tgt := 61) X dX5_make_53 (by decide) ?_ ?_
  · refine g_iload_n X dX5_make_61 rfl rfl ?_
    exact g_pick [1, 2, 0, 4] rfl (wR_make_b62 X n k7 hk7 x1 (s0 &&& s1) x4 x2 M)
  · refine g_iload X dX5_make_56 rfl ?_
    refine g_goto (tgt := 62) X dX5_make_58 (by decide) ?_
    exact g_pick [1, 2, 0, 4] rfl (wR_make_b62 X n k7 hk7 x1 (s0 &&& s1) x4 x4 M)
def fR_make_l7 (n : Nat) : Nat → Int32 → Int32 → Int32 → Int32 → MR → Option (Int32 × MR)
  | 0, _, _, _, _, _ => none
  | k + 1, x1, x2, x3, x4, M => if x4 < 0 then
      (if x2 < 0 then
        (rd M 0 62610 (nI 2) fun v1 =>
        if v1 = (nI 150) then
          (bnd (fR_fail n (nI 8) M) fun _ M7 =>
          some (0, M7))
        else
          (gf M 20 fun v2 =>
          rd M 14 22 (v2 - (nI 1)) fun v3 =>
          wr M 14 22 (v2 - (nI 1)) (v3 + (nI 2)) fun M4 =>
          bnd (fR_newObject n x1 M4) fun v5 M5 =>
          bnd (fR_push n (nI 1) v5 M5) fun _ M6 =>
          some (0, M6)))
      else
        (bnd (fR_start n x2 M) fun _ M8 =>
        some (0, M8)))
    else
      (bnd (fR_editAt n x4 M) fun v9 M9 =>
      rd M9 0 62610 (v9 + (nI 5)) fun v10 =>
      if v10 = (nI 2) then
        (bnd (fR_fail n (nI 6) M9) fun _ M11 =>
        some (0, M11))
      else
        (if v10 = 0 then
          (fR_make_b50 n (fR_make_l7 n k) x1 x2 x4 x3 (nI 1) M9)
        else
          (fR_make_b50 n (fR_make_l7 n k) x1 x2 x4 x3 (nI 0) M9)))
theorem wR_make_l7 (X : gX p s m args meth c cX5_make 6 RX5 none D (tyR cI cZ)) (n : Nat) : ∀ (k : Nat) (x1 : Int32) (x2 : Int32) (x3 : Int32) (x4 : Int32) (M : MR), gG p l e (rmR 6 130) s m args below meth c 6 (ZR D cI cZ q (AR q s.heap.size) s.heap M) 0 0 (fun r => MQ below (QV D cI cZ q s.heap.size r) args s 0 0 (AR q s.heap.size)) 7 [(0, .ref (q 34)), (1, .int x1), (2, .int x2), (3, .int x3), (4, .int x4)] [] (fR_make_l7 n k x1 x2 x3 x4 M) := by
  intro k
  induction k with
  | zero =>
    intro x1 x2 x3 x4 M
    exact g_none
  | succ k ih =>
    intro x1 x2 x3 x4 M
    rw [fR_make_l7]
    refine g_iload X dX5_make_7 rfl ?_
    refine g_if_lt (tgt := 74) X dX5_make_9 (by decide) ?_ ?_
    · refine g_iload_n X dX5_make_74 rfl rfl ?_
      refine g_if_lt (tgt := 86) X dX5_make_75 (by decide) ?_ ?_
      · refine g_aload_n X dX5_make_86 rfl rfl ?_
        refine r_g_m X dX5_make_87 ?_
        refine g_iconst (v := (nI 2)) X dX5_make_90 (by decide) ?_
        refine r_l_m X dX5_make_91 ?_
        intro v1
        refine g_sipush (v := (nI 150)) X dX5_make_92 (by decide) ?_
        refine g_icmp_ne (tgt := 107) X dX5_make_95 (by decide) ?_ ?_
        · refine g_aload_n X dX5_make_107 rfl rfl ?_
          refine r_g_place X dX5_make_108 ?_
          refine g_aload_n X dX5_make_111 rfl rfl ?_
          refine r_g_frames X dX5_make_112 ?_
          intro v2
          refine g_iconst (v := (nI 1)) X dX5_make_115 (by decide) ?_
          refine g_isub X dX5_make_116 ?_
          refine g_dup2 X dX5_make_117 rfl rfl ?_
          refine r_l_place X dX5_make_118 ?_
          intro v3
          refine g_iconst (v := (nI 2)) X dX5_make_119 (by decide) ?_
          refine g_iadd X dX5_make_120 ?_
          refine r_s_place X dX5_make_121 ?_
          intro M4
          refine g_aload_n X dX5_make_122 rfl rfl ?_
          refine g_iconst (v := (nI 1)) X dX5_make_123 (by decide) ?_
          refine g_aload_n X dX5_make_124 rfl rfl ?_
          refine g_iload_n X dX5_make_125 rfl rfl ?_
          refine k_newObject X ⟨Nat.le_of_ble_eq_true rfl, Nat.le_of_ble_eq_true rfl⟩ (Nat.le_of_ble_eq_true rfl) dX5_make_126 ?_
          intro v5 M5
          refine k_push X ⟨Nat.le_of_ble_eq_true rfl, Nat.le_of_ble_eq_true rfl⟩ (Nat.le_of_ble_eq_true rfl) dX5_make_129 ?_
          intro v6 M6
          exact r_vret X dX5_make_132
        · refine g_aload_n X dX5_make_98 rfl rfl ?_
          refine g_bipush (v := (nI 8)) X dX5_make_99 (by decide) ?_
          refine k_fail X ⟨Nat.le_of_ble_eq_true rfl, Nat.le_of_ble_eq_true rfl⟩ (Nat.le_of_ble_eq_true rfl) dX5_make_101 ?_
          intro v7 M7
          refine g_goto (tgt := 132) X dX5_make_104 (by decide) ?_
          exact r_vret X dX5_make_132
      · refine g_aload_n X dX5_make_78 rfl rfl ?_
        refine g_iload_n X dX5_make_79 rfl rfl ?_
        refine k_start X ⟨Nat.le_of_ble_eq_true rfl, Nat.le_of_ble_eq_true rfl⟩ (Nat.le_of_ble_eq_true rfl) dX5_make_80 ?_
        intro v8 M8
        refine g_goto (tgt := 132) X dX5_make_83 (by decide) ?_
        exact r_vret X dX5_make_132
    · refine g_aload_n X dX5_make_12 rfl rfl ?_
      refine r_g_m X dX5_make_13 ?_
      refine g_iload X dX5_make_16 rfl ?_
      refine k_editAt X ⟨Nat.le_of_ble_eq_true rfl, Nat.le_of_ble_eq_true rfl⟩ (Nat.le_of_ble_eq_true rfl) dX5_make_18 ?_
      intro v9 M9
      refine g_iconst (v := (nI 5)) X dX5_make_21 (by decide) ?_
      refine g_iadd X dX5_make_22 ?_
      refine r_l_m X dX5_make_23 ?_
      intro v10
      refine g_istore (lv' := [(5, .int v10), (0, .ref (q 34)), (1, .int x1), (2, .int x2), (3, .int x3), (4, .int x4)]) X dX5_make_24 (by decide) rfl ?_
      refine g_iload X dX5_make_26 rfl ?_
      refine g_iconst (v := (nI 2)) X dX5_make_28 (by decide) ?_
      refine g_icmp_ne (tgt := 39) X dX5_make_29 (by decide) ?_ ?_
      · refine g_iload_n X dX5_make_39 rfl rfl ?_
        refine g_iload X dX5_make_40 rfl ?_
        refine g_if_ne (tgt := 49) X dX5_make_42 (by decide) ?_ ?_
        · refine g_iconst (v := (nI 0)) X dX5_make_49 (by decide) ?_
          exact g_pick [1, 2, 3, 5] rfl (wR_make_b50 X n (fR_make_l7 n k) ih x1 x2 x4 x3 (nI 0) M9)
        · refine g_iconst (v := (nI 1)) X dX5_make_45 (by decide) ?_
          refine g_goto (tgt := 50) X dX5_make_46 (by decide) ?_
          exact g_pick [1, 2, 3, 5] rfl (wR_make_b50 X n (fR_make_l7 n k) ih x1 x2 x4 x3 (nI 1) M9)
      · refine g_aload_n X dX5_make_32 rfl rfl ?_
        refine g_bipush (v := (nI 6)) X dX5_make_33 (by decide) ?_
        refine k_fail X ⟨Nat.le_of_ble_eq_true rfl, Nat.le_of_ble_eq_true rfl⟩ (Nat.le_of_ble_eq_true rfl) dX5_make_35 ?_
        intro v11 M11
        exact r_vret X dX5_make_38
def fR_make (n : Nat) (x1 : Int32) (M : MR) : Option (Int32 × MR) :=
    fR_make_l7 n n x1 (-1 : Int32) (nI 1) x1 M
theorem c_make (l : Launch) (D : va_G) (cI cZ : ClassId) (q : Nat → Nat) (n : Nat) (x1 : Int32) (M : MR) : MetR l D cI cZ q yX5_make cX5_make 6 none 6 130 QV [.ref (q 34), .int x1] M (fR_make n x1 M) := by
  refine MetR.of (by decide) rfl (Nat.le_of_ble_eq_true rfl) ?_
  intro p e s m args below meth c X
  unfold fR_make
  refine g_pick (lv' := [(0, .ref (q 34)), (1, .int x1)]) [0, 1] rfl ?_
  refine g_iconst (v := (-1 : Int32)) X dX5_make_0 (by decide) ?_
  refine g_istore_n (lv' := [(2, .int (-1 : Int32)), (0, .ref (q 34)), (1, .int x1)]) X dX5_make_1 rfl (by decide) rfl ?_
  refine g_iconst (v := (nI 1)) X dX5_make_2 (by decide) ?_
  refine g_istore_n (lv' := [(3, .int (nI 1)), (2, .int (-1 : Int32)), (0, .ref (q 34)), (1, .int x1)]) X dX5_make_3 rfl (by decide) rfl ?_
  refine g_iload_n X dX5_make_4 rfl rfl ?_
  refine g_istore (lv' := [(4, .int x1), (3, .int (nI 1)), (2, .int (-1 : Int32)), (0, .ref (q 34)), (1, .int x1)]) X dX5_make_5 (by decide) rfl ?_
  exact g_pick [3, 4, 2, 1, 0] rfl (wR_make_l7 X n n x1 (-1 : Int32) (nI 1) x1 M)
theorem tc_make : Cond.code yX5_make cX5_make 6 none ∈ tt := tt_in (List.mem_of_getElem? (i := 980) (by decide +kernel)) (by decide +kernel)
theorem tl_make : Cond.methodLink RX5 178 yX5_make ∈ tt := tt_in (List.mem_of_getElem? (i := 977) (by decide +kernel)) (by decide +kernel)
theorem ti_make : Cond.instanceMethod yX5_make ∈ tt := tt_in (List.mem_of_getElem? (i := 979) (by decide +kernel)) (by decide +kernel)
theorem te_make : Cond.selects RX5 yX5_make yX5_make ∈ tt := tt_in (List.mem_of_getElem? (i := 56) (by decide +kernel)) (by decide +kernel)
theorem k_make (X : gX p s m args meth c cc nL RX5 rt D (tyR cI cZ)) {n : Nat} {x1 : Int32} {M : MR} {rest : List Value} {K : Int32 → MR → Option ρ} (hR : 6 + 1 ≤ R.frames ∧ 8 + (6 + 11) + 130 ≤ R.locals) (hcat : (rest.map fun v => v.category).sum ≤ 8) (d : decode cc pc = .ok (.invokevirtual 178, 3)) (kk : ∀ v M1, gG p l e R s m args below meth c nL (ZR D cI cZ q (AR q s.heap.size) s.heap M1) 0 0 QQ (pc + 3) lv (rest) (K v M1)) : gG p l e R s m args below meth c nL (ZR D cI cZ q (AR q s.heap.size) s.heap M) 0 0 QQ pc lv (.int x1 :: .ref (q 34) :: rest) (bnd (fR_make n x1 M) K) := r_callVv (As := [.int x1]) X (c_make l D cI cZ q n x1 M) (cwVR (k := 1) X.2.2.2.2.1 tl_make ti_make te_make tc_make ini5 (by decide +kernel) hR) rfl rfl hcat d kk
end RM
