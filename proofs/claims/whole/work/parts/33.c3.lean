theorem dX1_readFields_0 : decode cX1_readFields 0 = .ok (.aload_n 0, 1) := by decide +kernel
theorem dX1_readFields_1 : decode cX1_readFields 1 = .ok (.aload_n 0, 1) := by decide +kernel
theorem dX1_readFields_2 : decode cX1_readFields 2 = .ok (.getfield 49, 3) := by decide +kernel
theorem dX1_readFields_5 : decode cX1_readFields 5 = .ok (.iconst 0, 1) := by decide +kernel
theorem dX1_readFields_6 : decode cX1_readFields 6 = .ok (.iconst 4, 1) := by decide +kernel
theorem dX1_readFields_7 : decode cX1_readFields 7 = .ok (.invokevirtual 86, 3) := by decide +kernel
theorem dX1_readFields_10 : decode cX1_readFields 10 = .ok (.ifCond .ne 8, 3) := by decide +kernel
theorem dX1_readFields_13 : decode cX1_readFields 13 = .ok (.aload_n 0, 1) := by decide +kernel
theorem dX1_readFields_14 : decode cX1_readFields 14 = .ok (.getfield 49, 3) := by decide +kernel
theorem dX1_readFields_17 : decode cX1_readFields 17 = .ok (.ireturn, 1) := by decide +kernel
theorem dX1_readFields_18 : decode cX1_readFields 18 = .ok (.aload_n 0, 1) := by decide +kernel
theorem dX1_readFields_19 : decode cX1_readFields 19 = .ok (.aload_n 0, 1) := by decide +kernel
theorem dX1_readFields_20 : decode cX1_readFields 20 = .ok (.getfield 49, 3) := by decide +kernel
theorem dX1_readFields_23 : decode cX1_readFields 23 = .ok (.invokevirtual 83, 3) := by decide +kernel
theorem dX1_readFields_26 : decode cX1_readFields 26 = .ok (.istore_n 1, 1) := by decide +kernel
theorem dX1_readFields_27 : decode cX1_readFields 27 = .ok (.aload_n 0, 1) := by decide +kernel
theorem dX1_readFields_28 : decode cX1_readFields 28 = .ok (.dup, 1) := by decide +kernel
theorem dX1_readFields_29 : decode cX1_readFields 29 = .ok (.getfield 49, 3) := by decide +kernel
theorem dX1_readFields_32 : decode cX1_readFields 32 = .ok (.iconst 1, 1) := by decide +kernel
theorem dX1_readFields_33 : decode cX1_readFields 33 = .ok (.iadd, 1) := by decide +kernel
theorem dX1_readFields_34 : decode cX1_readFields 34 = .ok (.putfield 49, 3) := by decide +kernel
theorem dX1_readFields_37 : decode cX1_readFields 37 = .ok (.iconst 0, 1) := by decide +kernel
theorem dX1_readFields_38 : decode cX1_readFields 38 = .ok (.istore_n 2, 1) := by decide +kernel
theorem dX1_readFields_39 : decode cX1_readFields 39 = .ok (.iload_n 2, 1) := by decide +kernel
theorem dX1_readFields_40 : decode cX1_readFields 40 = .ok (.iload_n 1, 1) := by decide +kernel
theorem dX1_readFields_41 : decode cX1_readFields 41 = .ok (.if_icmp .ge 99, 3) := by decide +kernel
theorem dX1_readFields_44 : decode cX1_readFields 44 = .ok (.aload_n 0, 1) := by decide +kernel
theorem dX1_readFields_45 : decode cX1_readFields 45 = .ok (.aload_n 0, 1) := by decide +kernel
theorem dX1_readFields_46 : decode cX1_readFields 46 = .ok (.getfield 49, 3) := by decide +kernel
theorem dX1_readFields_49 : decode cX1_readFields 49 = .ok (.iconst 0, 1) := by decide +kernel
theorem dX1_readFields_50 : decode cX1_readFields 50 = .ok (.bipush 9, 2) := by decide +kernel
theorem dX1_readFields_52 : decode cX1_readFields 52 = .ok (.invokevirtual 86, 3) := by decide +kernel
theorem dX1_readFields_55 : decode cX1_readFields 55 = .ok (.ifCond .eq 21, 3) := by decide +kernel
theorem dX1_readFields_58 : decode cX1_readFields 58 = .ok (.aload_n 0, 1) := by decide +kernel
theorem dX1_readFields_59 : decode cX1_readFields 59 = .ok (.getfield 14, 3) := by decide +kernel
theorem dX1_readFields_62 : decode cX1_readFields 62 = .ok (.aload_n 0, 1) := by decide +kernel
theorem dX1_readFields_63 : decode cX1_readFields 63 = .ok (.aload_n 0, 1) := by decide +kernel
theorem dX1_readFields_64 : decode cX1_readFields 64 = .ok (.getfield 49, 3) := by decide +kernel
theorem dX1_readFields_67 : decode cX1_readFields 67 = .ok (.invokevirtual 83, 3) := by decide +kernel
theorem dX1_readFields_70 : decode cX1_readFields 70 = .ok (.invokevirtual 101, 3) := by decide +kernel
theorem dX1_readFields_73 : decode cX1_readFields 73 = .ok (.ifCond .eq 8, 3) := by decide +kernel
theorem dX1_readFields_76 : decode cX1_readFields 76 = .ok (.aload_n 0, 1) := by decide +kernel
theorem dX1_readFields_77 : decode cX1_readFields 77 = .ok (.getfield 49, 3) := by decide +kernel
theorem dX1_readFields_80 : decode cX1_readFields 80 = .ok (.ireturn, 1) := by decide +kernel
theorem dX1_readFields_81 : decode cX1_readFields 81 = .ok (.aload_n 0, 1) := by decide +kernel
theorem dX1_readFields_82 : decode cX1_readFields 82 = .ok (.getfield 49, 3) := by decide +kernel
theorem dX1_readFields_85 : decode cX1_readFields 85 = .ok (.iconst 1, 1) := by decide +kernel
theorem dX1_readFields_86 : decode cX1_readFields 86 = .ok (.iadd, 1) := by decide +kernel
theorem dX1_readFields_87 : decode cX1_readFields 87 = .ok (.aload_n 0, 1) := by decide +kernel
theorem dX1_readFields_88 : decode cX1_readFields 88 = .ok (.getfield 23, 3) := by decide +kernel
theorem dX1_readFields_91 : decode cX1_readFields 91 = .ok (.if_icmp .lt 8, 3) := by decide +kernel
theorem dX1_readFields_94 : decode cX1_readFields 94 = .ok (.aload_n 0, 1) := by decide +kernel
theorem dX1_readFields_95 : decode cX1_readFields 95 = .ok (.getfield 23, 3) := by decide +kernel
theorem dX1_readFields_98 : decode cX1_readFields 98 = .ok (.ireturn, 1) := by decide +kernel
theorem dX1_readFields_99 : decode cX1_readFields 99 = .ok (.aload_n 0, 1) := by decide +kernel
theorem dX1_readFields_100 : decode cX1_readFields 100 = .ok (.getfield 14, 3) := by decide +kernel
theorem dX1_readFields_103 : decode cX1_readFields 103 = .ok (.aload_n 0, 1) := by decide +kernel
theorem dX1_readFields_104 : decode cX1_readFields 104 = .ok (.aload_n 0, 1) := by decide +kernel
theorem dX1_readFields_105 : decode cX1_readFields 105 = .ok (.getfield 49, 3) := by decide +kernel
theorem dX1_readFields_108 : decode cX1_readFields 108 = .ok (.invokevirtual 83, 3) := by decide +kernel
theorem dX1_readFields_111 : decode cX1_readFields 111 = .ok (.aload_n 0, 1) := by decide +kernel
theorem dX1_readFields_112 : decode cX1_readFields 112 = .ok (.aload_n 0, 1) := by decide +kernel
theorem dX1_readFields_113 : decode cX1_readFields 113 = .ok (.getfield 49, 3) := by decide +kernel
theorem dX1_readFields_116 : decode cX1_readFields 116 = .ok (.iconst 1, 1) := by decide +kernel
theorem dX1_readFields_117 : decode cX1_readFields 117 = .ok (.iadd, 1) := by decide +kernel
theorem dX1_readFields_118 : decode cX1_readFields 118 = .ok (.invokevirtual 83, 3) := by decide +kernel
theorem dX1_readFields_121 : decode cX1_readFields 121 = .ok (.invokevirtual 105, 3) := by decide +kernel
theorem dX1_readFields_124 : decode cX1_readFields 124 = .ok (.aload_n 0, 1) := by decide +kernel
theorem dX1_readFields_125 : decode cX1_readFields 125 = .ok (.dup, 1) := by decide +kernel
theorem dX1_readFields_126 : decode cX1_readFields 126 = .ok (.getfield 49, 3) := by decide +kernel
theorem dX1_readFields_129 : decode cX1_readFields 129 = .ok (.iconst 2, 1) := by decide +kernel
theorem dX1_readFields_130 : decode cX1_readFields 130 = .ok (.iadd, 1) := by decide +kernel
theorem dX1_readFields_131 : decode cX1_readFields 131 = .ok (.putfield 49, 3) := by decide +kernel
theorem dX1_readFields_134 : decode cX1_readFields 134 = .ok (.iinc 2 1, 3) := by decide +kernel
theorem dX1_readFields_137 : decode cX1_readFields 137 = .ok (.goto (-98), 3) := by decide +kernel
theorem dX1_readFields_140 : decode cX1_readFields 140 = .ok (.iconst (-1), 1) := by decide +kernel
theorem dX1_readFields_141 : decode cX1_readFields 141 = .ok (.ireturn, 1) := by decide +kernel
theorem dX1_readMethods_0 : decode cX1_readMethods 0 = .ok (.aload_n 0, 1) := by decide +kernel
theorem dX1_readMethods_1 : decode cX1_readMethods 1 = .ok (.aload_n 0, 1) := by decide +kernel
theorem dX1_readMethods_2 : decode cX1_readMethods 2 = .ok (.getfield 49, 3) := by decide +kernel
theorem dX1_readMethods_5 : decode cX1_readMethods 5 = .ok (.iconst 0, 1) := by decide +kernel
theorem dX1_readMethods_6 : decode cX1_readMethods 6 = .ok (.iconst 3, 1) := by decide +kernel
theorem dX1_readMethods_7 : decode cX1_readMethods 7 = .ok (.invokevirtual 86, 3) := by decide +kernel
theorem dX1_readMethods_10 : decode cX1_readMethods 10 = .ok (.ifCond .ne 8, 3) := by decide +kernel
theorem dX1_readMethods_13 : decode cX1_readMethods 13 = .ok (.aload_n 0, 1) := by decide +kernel
theorem dX1_readMethods_14 : decode cX1_readMethods 14 = .ok (.getfield 49, 3) := by decide +kernel
theorem dX1_readMethods_17 : decode cX1_readMethods 17 = .ok (.ireturn, 1) := by decide +kernel
theorem dX1_readMethods_18 : decode cX1_readMethods 18 = .ok (.aload_n 0, 1) := by decide +kernel
theorem dX1_readMethods_19 : decode cX1_readMethods 19 = .ok (.aload_n 0, 1) := by decide +kernel
theorem dX1_readMethods_20 : decode cX1_readMethods 20 = .ok (.getfield 49, 3) := by decide +kernel
theorem dX1_readMethods_23 : decode cX1_readMethods 23 = .ok (.invokevirtual 83, 3) := by decide +kernel
theorem dX1_readMethods_26 : decode cX1_readMethods 26 = .ok (.istore_n 1, 1) := by decide +kernel
theorem dX1_readMethods_27 : decode cX1_readMethods 27 = .ok (.aload_n 0, 1) := by decide +kernel
theorem dX1_readMethods_28 : decode cX1_readMethods 28 = .ok (.dup, 1) := by decide +kernel
theorem dX1_readMethods_29 : decode cX1_readMethods 29 = .ok (.getfield 49, 3) := by decide +kernel
theorem dX1_readMethods_32 : decode cX1_readMethods 32 = .ok (.iconst 1, 1) := by decide +kernel
theorem dX1_readMethods_33 : decode cX1_readMethods 33 = .ok (.iadd, 1) := by decide +kernel
theorem dX1_readMethods_34 : decode cX1_readMethods 34 = .ok (.putfield 49, 3) := by decide +kernel
theorem dX1_readMethods_37 : decode cX1_readMethods 37 = .ok (.iconst 0, 1) := by decide +kernel
theorem dX1_readMethods_38 : decode cX1_readMethods 38 = .ok (.istore_n 2, 1) := by decide +kernel
theorem dX1_readMethods_39 : decode cX1_readMethods 39 = .ok (.iload_n 2, 1) := by decide +kernel
theorem dX1_readMethods_40 : decode cX1_readMethods 40 = .ok (.iload_n 1, 1) := by decide +kernel
theorem dX1_readMethods_41 : decode cX1_readMethods 41 = .ok (.if_icmp .ge 156, 3) := by decide +kernel
theorem dX1_readMethods_44 : decode cX1_readMethods 44 = .ok (.aload_n 0, 1) := by decide +kernel
theorem dX1_readMethods_45 : decode cX1_readMethods 45 = .ok (.aload_n 0, 1) := by decide +kernel
theorem dX1_readMethods_46 : decode cX1_readMethods 46 = .ok (.getfield 49, 3) := by decide +kernel
theorem dX1_readMethods_49 : decode cX1_readMethods 49 = .ok (.iconst 0, 1) := by decide +kernel
theorem dX1_readMethods_50 : decode cX1_readMethods 50 = .ok (.iconst 4, 1) := by decide +kernel
theorem dX1_readMethods_51 : decode cX1_readMethods 51 = .ok (.invokevirtual 86, 3) := by decide +kernel
theorem dX1_readMethods_54 : decode cX1_readMethods 54 = .ok (.ifCond .eq 21, 3) := by decide +kernel
theorem dX1_readMethods_57 : decode cX1_readMethods 57 = .ok (.aload_n 0, 1) := by decide +kernel
theorem dX1_readMethods_58 : decode cX1_readMethods 58 = .ok (.getfield 20, 3) := by decide +kernel
theorem dX1_readMethods_61 : decode cX1_readMethods 61 = .ok (.aload_n 0, 1) := by decide +kernel
theorem dX1_readMethods_62 : decode cX1_readMethods 62 = .ok (.aload_n 0, 1) := by decide +kernel
theorem dX1_readMethods_63 : decode cX1_readMethods 63 = .ok (.getfield 49, 3) := by decide +kernel
theorem dX1_readMethods_66 : decode cX1_readMethods 66 = .ok (.invokevirtual 83, 3) := by decide +kernel
theorem dX1_readMethods_69 : decode cX1_readMethods 69 = .ok (.invokevirtual 101, 3) := by decide +kernel
theorem dX1_readMethods_72 : decode cX1_readMethods 72 = .ok (.ifCond .eq 8, 3) := by decide +kernel
theorem dX1_readMethods_75 : decode cX1_readMethods 75 = .ok (.aload_n 0, 1) := by decide +kernel
theorem dX1_readMethods_76 : decode cX1_readMethods 76 = .ok (.getfield 49, 3) := by decide +kernel
theorem dX1_readMethods_79 : decode cX1_readMethods 79 = .ok (.ireturn, 1) := by decide +kernel
theorem dX1_readMethods_80 : decode cX1_readMethods 80 = .ok (.aload_n 0, 1) := by decide +kernel
theorem dX1_readMethods_81 : decode cX1_readMethods 81 = .ok (.aload_n 0, 1) := by decide +kernel
theorem dX1_readMethods_82 : decode cX1_readMethods 82 = .ok (.getfield 49, 3) := by decide +kernel
theorem dX1_readMethods_85 : decode cX1_readMethods 85 = .ok (.invokevirtual 83, 3) := by decide +kernel
theorem dX1_readMethods_88 : decode cX1_readMethods 88 = .ok (.istore_n 3, 1) := by decide +kernel
theorem dX1_readMethods_89 : decode cX1_readMethods 89 = .ok (.aload_n 0, 1) := by decide +kernel
theorem dX1_readMethods_90 : decode cX1_readMethods 90 = .ok (.dup, 1) := by decide +kernel
theorem dX1_readMethods_91 : decode cX1_readMethods 91 = .ok (.getfield 49, 3) := by decide +kernel
theorem dX1_readMethods_94 : decode cX1_readMethods 94 = .ok (.iconst 1, 1) := by decide +kernel
theorem dX1_readMethods_95 : decode cX1_readMethods 95 = .ok (.iadd, 1) := by decide +kernel
theorem dX1_readMethods_96 : decode cX1_readMethods 96 = .ok (.putfield 49, 3) := by decide +kernel
theorem dX1_readMethods_99 : decode cX1_readMethods 99 = .ok (.aload_n 0, 1) := by decide +kernel
theorem dX1_readMethods_100 : decode cX1_readMethods 100 = .ok (.getfield 49, 3) := by decide +kernel
theorem dX1_readMethods_103 : decode cX1_readMethods 103 = .ok (.iconst 1, 1) := by decide +kernel
theorem dX1_readMethods_104 : decode cX1_readMethods 104 = .ok (.iadd, 1) := by decide +kernel
theorem dX1_readMethods_105 : decode cX1_readMethods 105 = .ok (.istore 4, 2) := by decide +kernel
theorem dX1_readMethods_107 : decode cX1_readMethods 107 = .ok (.aload_n 0, 1) := by decide +kernel
theorem dX1_readMethods_108 : decode cX1_readMethods 108 = .ok (.aload_n 0, 1) := by decide +kernel
theorem dX1_readMethods_109 : decode cX1_readMethods 109 = .ok (.getfield 49, 3) := by decide +kernel
theorem dX1_readMethods_112 : decode cX1_readMethods 112 = .ok (.iconst 0, 1) := by decide +kernel
theorem dX1_readMethods_113 : decode cX1_readMethods 113 = .ok (.aload_n 0, 1) := by decide +kernel
theorem dX1_readMethods_114 : decode cX1_readMethods 114 = .ok (.getfield 23, 3) := by decide +kernel
theorem dX1_readMethods_117 : decode cX1_readMethods 117 = .ok (.iload 4, 2) := by decide +kernel
theorem dX1_readMethods_119 : decode cX1_readMethods 119 = .ok (.isub, 1) := by decide +kernel
theorem dX1_readMethods_120 : decode cX1_readMethods 120 = .ok (.invokevirtual 86, 3) := by decide +kernel
theorem dX1_readMethods_123 : decode cX1_readMethods 123 = .ok (.ifCond .ne 8, 3) := by decide +kernel
theorem dX1_readMethods_126 : decode cX1_readMethods 126 = .ok (.aload_n 0, 1) := by decide +kernel
theorem dX1_readMethods_127 : decode cX1_readMethods 127 = .ok (.getfield 49, 3) := by decide +kernel
theorem dX1_readMethods_130 : decode cX1_readMethods 130 = .ok (.ireturn, 1) := by decide +kernel
theorem dX1_readMethods_131 : decode cX1_readMethods 131 = .ok (.iload 4, 2) := by decide +kernel
theorem dX1_readMethods_133 : decode cX1_readMethods 133 = .ok (.aload_n 0, 1) := by decide +kernel
theorem dX1_readMethods_134 : decode cX1_readMethods 134 = .ok (.aload_n 0, 1) := by decide +kernel
theorem dX1_readMethods_135 : decode cX1_readMethods 135 = .ok (.getfield 49, 3) := by decide +kernel
theorem dX1_readMethods_138 : decode cX1_readMethods 138 = .ok (.invokevirtual 83, 3) := by decide +kernel
theorem dX1_readMethods_141 : decode cX1_readMethods 141 = .ok (.iadd, 1) := by decide +kernel
theorem dX1_readMethods_142 : decode cX1_readMethods 142 = .ok (.istore 5, 2) := by decide +kernel
theorem dX1_readMethods_144 : decode cX1_readMethods 144 = .ok (.aload_n 0, 1) := by decide +kernel
theorem dX1_readMethods_145 : decode cX1_readMethods 145 = .ok (.iload 4, 2) := by decide +kernel
theorem dX1_readMethods_147 : decode cX1_readMethods 147 = .ok (.iload 5, 2) := by decide +kernel
theorem dX1_readMethods_149 : decode cX1_readMethods 149 = .ok (.iconst 1, 1) := by decide +kernel
theorem dX1_readMethods_150 : decode cX1_readMethods 150 = .ok (.invokevirtual 68, 3) := by decide +kernel
theorem dX1_readMethods_153 : decode cX1_readMethods 153 = .ok (.istore 6, 2) := by decide +kernel
theorem dX1_readMethods_155 : decode cX1_readMethods 155 = .ok (.iload 6, 2) := by decide +kernel
theorem dX1_readMethods_157 : decode cX1_readMethods 157 = .ok (.iconst (-1), 1) := by decide +kernel
theorem dX1_readMethods_158 : decode cX1_readMethods 158 = .ok (.if_icmp .eq 6, 3) := by decide +kernel
theorem dX1_readMethods_161 : decode cX1_readMethods 161 = .ok (.iload 6, 2) := by decide +kernel
theorem dX1_readMethods_163 : decode cX1_readMethods 163 = .ok (.ireturn, 1) := by decide +kernel
theorem dX1_readMethods_164 : decode cX1_readMethods 164 = .ok (.aload_n 0, 1) := by decide +kernel
theorem dX1_readMethods_165 : decode cX1_readMethods 165 = .ok (.getfield 20, 3) := by decide +kernel
theorem dX1_readMethods_168 : decode cX1_readMethods 168 = .ok (.iload_n 3, 1) := by decide +kernel
theorem dX1_readMethods_169 : decode cX1_readMethods 169 = .ok (.iload 4, 2) := by decide +kernel
theorem dX1_readMethods_171 : decode cX1_readMethods 171 = .ok (.invokevirtual 105, 3) := by decide +kernel
theorem dX1_readMethods_174 : decode cX1_readMethods 174 = .ok (.aload_n 0, 1) := by decide +kernel
theorem dX1_readMethods_175 : decode cX1_readMethods 175 = .ok (.getfield 20, 3) := by decide +kernel
theorem dX1_readMethods_178 : decode cX1_readMethods 178 = .ok (.iload_n 2, 1) := by decide +kernel
theorem dX1_readMethods_179 : decode cX1_readMethods 179 = .ok (.iconst 2, 1) := by decide +kernel
theorem dX1_readMethods_180 : decode cX1_readMethods 180 = .ok (.iload 5, 2) := by decide +kernel
theorem dX1_readMethods_182 : decode cX1_readMethods 182 = .ok (.invokevirtual 108, 3) := by decide +kernel
theorem dX1_readMethods_185 : decode cX1_readMethods 185 = .ok (.aload_n 0, 1) := by decide +kernel
theorem dX1_readMethods_186 : decode cX1_readMethods 186 = .ok (.iload 5, 2) := by decide +kernel
theorem dX1_readMethods_188 : decode cX1_readMethods 188 = .ok (.putfield 49, 3) := by decide +kernel
theorem dX1_readMethods_191 : decode cX1_readMethods 191 = .ok (.iinc 2 1, 3) := by decide +kernel
theorem dX1_readMethods_194 : decode cX1_readMethods 194 = .ok (.goto (-155), 3) := by decide +kernel
theorem dX1_readMethods_197 : decode cX1_readMethods 197 = .ok (.iconst (-1), 1) := by decide +kernel
theorem dX1_readMethods_198 : decode cX1_readMethods 198 = .ok (.ireturn, 1) := by decide +kernel
theorem dX1_findFault_0 : decode cX1_findFault 0 = .ok (.iload_n 1, 1) := by decide +kernel
theorem dX1_findFault_1 : decode cX1_findFault 1 = .ok (.iconst 1, 1) := by decide +kernel
theorem dX1_findFault_2 : decode cX1_findFault 2 = .ok (.if_icmp .eq 14, 3) := by decide +kernel
theorem dX1_findFault_5 : decode cX1_findFault 5 = .ok (.aload_n 0, 1) := by decide +kernel
theorem dX1_findFault_6 : decode cX1_findFault 6 = .ok (.iconst 0, 1) := by decide +kernel
theorem dX1_findFault_7 : decode cX1_findFault 7 = .ok (.aload_n 0, 1) := by decide +kernel
theorem dX1_findFault_8 : decode cX1_findFault 8 = .ok (.getfield 23, 3) := by decide +kernel
theorem dX1_findFault_11 : decode cX1_findFault 11 = .ok (.iconst 0, 1) := by decide +kernel
theorem dX1_findFault_12 : decode cX1_findFault 12 = .ok (.invokevirtual 68, 3) := by decide +kernel
theorem dX1_findFault_15 : decode cX1_findFault 15 = .ok (.ireturn, 1) := by decide +kernel
theorem dX1_findFault_16 : decode cX1_findFault 16 = .ok (.aload_n 0, 1) := by decide +kernel
theorem dX1_findFault_17 : decode cX1_findFault 17 = .ok (.invokevirtual 72, 3) := by decide +kernel
theorem dX1_findFault_20 : decode cX1_findFault 20 = .ok (.ifCond .ne 5, 3) := by decide +kernel
theorem dX1_findFault_23 : decode cX1_findFault 23 = .ok (.iconst 0, 1) := by decide +kernel
theorem dX1_findFault_24 : decode cX1_findFault 24 = .ok (.ireturn, 1) := by decide +kernel
theorem dX1_findFault_25 : decode cX1_findFault 25 = .ok (.aload_n 0, 1) := by decide +kernel
theorem dX1_findFault_26 : decode cX1_findFault 26 = .ok (.invokevirtual 76, 3) := by decide +kernel
theorem dX1_findFault_29 : decode cX1_findFault 29 = .ok (.istore_n 2, 1) := by decide +kernel
theorem dX1_findFault_30 : decode cX1_findFault 30 = .ok (.iload_n 2, 1) := by decide +kernel
theorem dX1_findFault_31 : decode cX1_findFault 31 = .ok (.iconst (-1), 1) := by decide +kernel
theorem dX1_findFault_32 : decode cX1_findFault 32 = .ok (.if_icmp .ne 8, 3) := by decide +kernel
theorem dX1_findFault_35 : decode cX1_findFault 35 = .ok (.aload_n 0, 1) := by decide +kernel
theorem dX1_findFault_36 : decode cX1_findFault 36 = .ok (.invokevirtual 80, 3) := by decide +kernel
theorem dX1_findFault_39 : decode cX1_findFault 39 = .ok (.istore_n 2, 1) := by decide +kernel
theorem dX1_findFault_40 : decode cX1_findFault 40 = .ok (.aload_n 0, 1) := by decide +kernel
theorem dX1_findFault_41 : decode cX1_findFault 41 = .ok (.aload_n 0, 1) := by decide +kernel
theorem dX1_findFault_42 : decode cX1_findFault 42 = .ok (.getfield 49, 3) := by decide +kernel
theorem dX1_findFault_45 : decode cX1_findFault 45 = .ok (.putfield 33, 3) := by decide +kernel
theorem dX1_findFault_48 : decode cX1_findFault 48 = .ok (.iload_n 2, 1) := by decide +kernel
theorem dX1_findFault_49 : decode cX1_findFault 49 = .ok (.iconst (-1), 1) := by decide +kernel
theorem dX1_findFault_50 : decode cX1_findFault 50 = .ok (.if_icmp .ne 28, 3) := by decide +kernel
theorem dX1_findFault_53 : decode cX1_findFault 53 = .ok (.aload_n 0, 1) := by decide +kernel
theorem dX1_findFault_54 : decode cX1_findFault 54 = .ok (.getfield 49, 3) := by decide +kernel
theorem dX1_findFault_57 : decode cX1_findFault 57 = .ok (.aload_n 0, 1) := by decide +kernel
theorem dX1_findFault_58 : decode cX1_findFault 58 = .ok (.getfield 23, 3) := by decide +kernel
theorem dX1_findFault_61 : decode cX1_findFault 61 = .ok (.if_icmp .ge 17, 3) := by decide +kernel
theorem dX1_findFault_64 : decode cX1_findFault 64 = .ok (.aload_n 0, 1) := by decide +kernel
theorem dX1_findFault_65 : decode cX1_findFault 65 = .ok (.aload_n 0, 1) := by decide +kernel
theorem dX1_findFault_66 : decode cX1_findFault 66 = .ok (.getfield 49, 3) := by decide +kernel
theorem dX1_findFault_69 : decode cX1_findFault 69 = .ok (.aload_n 0, 1) := by decide +kernel
theorem dX1_findFault_70 : decode cX1_findFault 70 = .ok (.getfield 23, 3) := by decide +kernel
theorem dX1_findFault_73 : decode cX1_findFault 73 = .ok (.iconst 0, 1) := by decide +kernel
theorem dX1_findFault_74 : decode cX1_findFault 74 = .ok (.invokevirtual 68, 3) := by decide +kernel
theorem dX1_findFault_77 : decode cX1_findFault 77 = .ok (.istore_n 2, 1) := by decide +kernel
theorem dX1_findFault_78 : decode cX1_findFault 78 = .ok (.iload_n 2, 1) := by decide +kernel
theorem dX1_findFault_79 : decode cX1_findFault 79 = .ok (.ireturn, 1) := by decide +kernel
theorem dX3_clear_0 : decode cX3_clear 0 = .ok (.aload_n 0, 1) := by decide +kernel
theorem dX3_clear_1 : decode cX3_clear 1 = .ok (.getfield 23, 3) := by decide +kernel
theorem dX3_clear_4 : decode cX3_clear 4 = .ok (.invokevirtual 50, 3) := by decide +kernel
theorem dX3_clear_7 : decode cX3_clear 7 = .ok (.aload_n 0, 1) := by decide +kernel
theorem dX3_clear_8 : decode cX3_clear 8 = .ok (.getfield 37, 3) := by decide +kernel
theorem dX3_clear_11 : decode cX3_clear 11 = .ok (.invokevirtual 50, 3) := by decide +kernel
theorem dX3_clear_14 : decode cX3_clear 14 = .ok (.aload_n 0, 1) := by decide +kernel
theorem dX3_clear_15 : decode cX3_clear 15 = .ok (.getfield 40, 3) := by decide +kernel
theorem dX3_clear_18 : decode cX3_clear 18 = .ok (.invokevirtual 50, 3) := by decide +kernel
theorem dX3_clear_21 : decode cX3_clear 21 = .ok (.aload_n 0, 1) := by decide +kernel
theorem dX3_clear_22 : decode cX3_clear 22 = .ok (.iconst 0, 1) := by decide +kernel
theorem dX3_clear_23 : decode cX3_clear 23 = .ok (.putfield 27, 3) := by decide +kernel
theorem dX3_clear_26 : decode cX3_clear 26 = .ok (.aload_n 0, 1) := by decide +kernel
theorem dX3_clear_27 : decode cX3_clear 27 = .ok (.iconst 0, 1) := by decide +kernel
theorem dX3_clear_28 : decode cX3_clear 28 = .ok (.putfield 31, 3) := by decide +kernel
theorem dX3_clear_31 : decode cX3_clear 31 = .ok (.aload_n 0, 1) := by decide +kernel
theorem dX3_clear_32 : decode cX3_clear 32 = .ok (.iconst 0, 1) := by decide +kernel
theorem dX3_clear_33 : decode cX3_clear 33 = .ok (.putfield 34, 3) := by decide +kernel
theorem dX3_clear_36 : decode cX3_clear 36 = .ok (.aload_n 0, 1) := by decide +kernel
theorem dX3_clear_37 : decode cX3_clear 37 = .ok (.iconst 0, 1) := by decide +kernel
theorem dX3_clear_38 : decode cX3_clear 38 = .ok (.putfield 47, 3) := by decide +kernel
theorem dX3_clear_41 : decode cX3_clear 41 = .ok (.return_, 1) := by decide +kernel
theorem dX3_openFrame_0 : decode cX3_openFrame 0 = .ok (.aload_n 0, 1) := by decide +kernel
theorem dX3_openFrame_1 : decode cX3_openFrame 1 = .ok (.getfield 40, 3) := by decide +kernel
theorem dX3_openFrame_4 : decode cX3_openFrame 4 = .ok (.invokevirtual 105, 3) := by decide +kernel
theorem dX3_openFrame_7 : decode cX3_openFrame 7 = .ok (.istore 4, 2) := by decide +kernel
theorem dX3_openFrame_9 : decode cX3_openFrame 9 = .ok (.aload_n 0, 1) := by decide +kernel
theorem dX3_openFrame_10 : decode cX3_openFrame 10 = .ok (.getfield 40, 3) := by decide +kernel
theorem dX3_openFrame_13 : decode cX3_openFrame 13 = .ok (.iload 4, 2) := by decide +kernel
theorem dX3_openFrame_15 : decode cX3_openFrame 15 = .ok (.iconst 0, 1) := by decide +kernel
theorem dX3_openFrame_16 : decode cX3_openFrame 16 = .ok (.iload_n 1, 1) := by decide +kernel
theorem dX3_openFrame_17 : decode cX3_openFrame 17 = .ok (.invokevirtual 101, 3) := by decide +kernel
theorem dX3_openFrame_20 : decode cX3_openFrame 20 = .ok (.aload_n 0, 1) := by decide +kernel
theorem dX3_openFrame_21 : decode cX3_openFrame 21 = .ok (.getfield 40, 3) := by decide +kernel
theorem dX3_openFrame_24 : decode cX3_openFrame 24 = .ok (.iload 4, 2) := by decide +kernel
theorem dX3_openFrame_26 : decode cX3_openFrame 26 = .ok (.iconst 1, 1) := by decide +kernel
theorem dX3_openFrame_27 : decode cX3_openFrame 27 = .ok (.iload_n 2, 1) := by decide +kernel
theorem dX3_openFrame_28 : decode cX3_openFrame 28 = .ok (.invokevirtual 101, 3) := by decide +kernel
theorem dX3_openFrame_31 : decode cX3_openFrame 31 = .ok (.aload_n 0, 1) := by decide +kernel
theorem dX3_openFrame_32 : decode cX3_openFrame 32 = .ok (.getfield 40, 3) := by decide +kernel
theorem dX3_openFrame_35 : decode cX3_openFrame 35 = .ok (.iload 4, 2) := by decide +kernel
theorem dX3_openFrame_37 : decode cX3_openFrame 37 = .ok (.iconst 2, 1) := by decide +kernel
theorem dX3_openFrame_38 : decode cX3_openFrame 38 = .ok (.iload_n 3, 1) := by decide +kernel
theorem dX3_openFrame_39 : decode cX3_openFrame 39 = .ok (.invokevirtual 101, 3) := by decide +kernel
theorem dX3_openFrame_42 : decode cX3_openFrame 42 = .ok (.aload_n 0, 1) := by decide +kernel
theorem dX3_openFrame_43 : decode cX3_openFrame 43 = .ok (.getfield 40, 3) := by decide +kernel
theorem dX3_openFrame_46 : decode cX3_openFrame 46 = .ok (.iload 4, 2) := by decide +kernel
theorem dX3_openFrame_48 : decode cX3_openFrame 48 = .ok (.bipush 6, 2) := by decide +kernel
theorem dX3_openFrame_50 : decode cX3_openFrame 50 = .ok (.iconst (-1), 1) := by decide +kernel
theorem dX3_openFrame_51 : decode cX3_openFrame 51 = .ok (.invokevirtual 101, 3) := by decide +kernel
theorem dX3_openFrame_54 : decode cX3_openFrame 54 = .ok (.iload 4, 2) := by decide +kernel
theorem dX3_openFrame_56 : decode cX3_openFrame 56 = .ok (.ireturn, 1) := by decide +kernel
theorem dX3_beginCell_0 : decode cX3_beginCell 0 = .ok (.aload_n 0, 1) := by decide +kernel
theorem dX3_beginCell_1 : decode cX3_beginCell 1 = .ok (.invokevirtual 53, 3) := by decide +kernel
theorem dX3_beginCell_4 : decode cX3_beginCell 4 = .ok (.iconst 0, 1) := by decide +kernel
theorem dX3_beginCell_5 : decode cX3_beginCell 5 = .ok (.istore_n 2, 1) := by decide +kernel
theorem dX3_beginCell_6 : decode cX3_beginCell 6 = .ok (.iload_n 2, 1) := by decide +kernel
theorem dX3_beginCell_7 : decode cX3_beginCell 7 = .ok (.aload_n 1, 1) := by decide +kernel
theorem dX3_beginCell_8 : decode cX3_beginCell 8 = .ok (.getfield 54, 3) := by decide +kernel
theorem dX3_beginCell_11 : decode cX3_beginCell 11 = .ok (.if_icmp .ge 26, 3) := by decide +kernel
theorem dX3_beginCell_14 : decode cX3_beginCell 14 = .ok (.iload_n 2, 1) := by decide +kernel
theorem dX3_beginCell_15 : decode cX3_beginCell 15 = .ok (.bipush 60, 2) := by decide +kernel
theorem dX3_beginCell_17 : decode cX3_beginCell 17 = .ok (.if_icmp .ge 20, 3) := by decide +kernel
theorem dX3_beginCell_20 : decode cX3_beginCell 20 = .ok (.aload_n 0, 1) := by decide +kernel
theorem dX3_beginCell_21 : decode cX3_beginCell 21 = .ok (.getfield 43, 3) := by decide +kernel
theorem dX3_beginCell_24 : decode cX3_beginCell 24 = .ok (.iload_n 2, 1) := by decide +kernel
theorem dX3_beginCell_25 : decode cX3_beginCell 25 = .ok (.aload_n 1, 1) := by decide +kernel
theorem dX3_beginCell_26 : decode cX3_beginCell 26 = .ok (.iload_n 2, 1) := by decide +kernel
theorem dX3_beginCell_27 : decode cX3_beginCell 27 = .ok (.invokevirtual 59, 3) := by decide +kernel
theorem dX3_beginCell_30 : decode cX3_beginCell 30 = .ok (.iastore, 1) := by decide +kernel
theorem dX3_beginCell_31 : decode cX3_beginCell 31 = .ok (.iinc 2 1, 3) := by decide +kernel
theorem dX3_beginCell_34 : decode cX3_beginCell 34 = .ok (.goto (-28), 3) := by decide +kernel
theorem dX3_beginCell_37 : decode cX3_beginCell 37 = .ok (.aload_n 0, 1) := by decide +kernel
theorem dX3_beginCell_38 : decode cX3_beginCell 38 = .ok (.iconst 1, 1) := by decide +kernel
theorem dX3_beginCell_39 : decode cX3_beginCell 39 = .ok (.putfield 47, 3) := by decide +kernel
theorem dX3_beginCell_42 : decode cX3_beginCell 42 = .ok (.aload_n 0, 1) := by decide +kernel
theorem dX3_beginCell_43 : decode cX3_beginCell 43 = .ok (.iconst (-1), 1) := by decide +kernel
theorem dX3_beginCell_44 : decode cX3_beginCell 44 = .ok (.iconst 0, 1) := by decide +kernel
theorem dX3_beginCell_45 : decode cX3_beginCell 45 = .ok (.aload_n 1, 1) := by decide +kernel
theorem dX3_beginCell_46 : decode cX3_beginCell 46 = .ok (.getfield 54, 3) := by decide +kernel
theorem dX3_beginCell_49 : decode cX3_beginCell 49 = .ok (.invokevirtual 63, 3) := by decide +kernel
theorem dX3_beginCell_52 : decode cX3_beginCell 52 = .ok (.pop, 1) := by decide +kernel
theorem dX3_beginCell_53 : decode cX3_beginCell 53 = .ok (.return_, 1) := by decide +kernel
theorem dX3_kindAt_0 : decode cX3_kindAt 0 = .ok (.aload_n 0, 1) := by decide +kernel
theorem dX3_kindAt_1 : decode cX3_kindAt 1 = .ok (.getfield 37, 3) := by decide +kernel
theorem dX3_kindAt_4 : decode cX3_kindAt 4 = .ok (.aload_n 0, 1) := by decide +kernel
theorem dX3_kindAt_5 : decode cX3_kindAt 5 = .ok (.getfield 37, 3) := by decide +kernel
theorem dX3_kindAt_8 : decode cX3_kindAt 8 = .ok (.invokevirtual 80, 3) := by decide +kernel
theorem dX3_kindAt_11 : decode cX3_kindAt 11 = .ok (.iconst 1, 1) := by decide +kernel
theorem dX3_kindAt_12 : decode cX3_kindAt 12 = .ok (.isub, 1) := by decide +kernel
theorem dX3_kindAt_13 : decode cX3_kindAt 13 = .ok (.iload_n 1, 1) := by decide +kernel
theorem dX3_kindAt_14 : decode cX3_kindAt 14 = .ok (.isub, 1) := by decide +kernel
theorem dX3_kindAt_15 : decode cX3_kindAt 15 = .ok (.iconst 0, 1) := by decide +kernel
theorem dX3_kindAt_16 : decode cX3_kindAt 16 = .ok (.invokevirtual 84, 3) := by decide +kernel
theorem dX3_kindAt_19 : decode cX3_kindAt 19 = .ok (.ireturn, 1) := by decide +kernel
theorem dX3_numberAt_0 : decode cX3_numberAt 0 = .ok (.aload_n 0, 1) := by decide +kernel
theorem dX3_numberAt_1 : decode cX3_numberAt 1 = .ok (.getfield 37, 3) := by decide +kernel
theorem dX3_numberAt_4 : decode cX3_numberAt 4 = .ok (.aload_n 0, 1) := by decide +kernel
theorem dX3_numberAt_5 : decode cX3_numberAt 5 = .ok (.getfield 37, 3) := by decide +kernel
theorem dX3_numberAt_8 : decode cX3_numberAt 8 = .ok (.invokevirtual 80, 3) := by decide +kernel
theorem dX3_numberAt_11 : decode cX3_numberAt 11 = .ok (.iconst 1, 1) := by decide +kernel
theorem dX3_numberAt_12 : decode cX3_numberAt 12 = .ok (.isub, 1) := by decide +kernel
theorem dX3_numberAt_13 : decode cX3_numberAt 13 = .ok (.iload_n 1, 1) := by decide +kernel
theorem dX3_numberAt_14 : decode cX3_numberAt 14 = .ok (.isub, 1) := by decide +kernel
theorem dX3_numberAt_15 : decode cX3_numberAt 15 = .ok (.iconst 1, 1) := by decide +kernel
theorem dX3_numberAt_16 : decode cX3_numberAt 16 = .ok (.invokevirtual 84, 3) := by decide +kernel
theorem dX3_numberAt_19 : decode cX3_numberAt 19 = .ok (.ireturn, 1) := by decide +kernel
theorem dX3_isDeep_0 : decode cX3_isDeep 0 = .ok (.aload_n 0, 1) := by decide +kernel
theorem dX3_isDeep_1 : decode cX3_isDeep 1 = .ok (.getfield 40, 3) := by decide +kernel
theorem dX3_isDeep_4 : decode cX3_isDeep 4 = .ok (.invokevirtual 80, 3) := by decide +kernel
theorem dX3_isDeep_7 : decode cX3_isDeep 7 = .ok (.aload_n 0, 1) := by decide +kernel
theorem dX3_isDeep_8 : decode cX3_isDeep 8 = .ok (.getfield 47, 3) := by decide +kernel
theorem dX3_isDeep_11 : decode cX3_isDeep 11 = .ok (.isub, 1) := by decide +kernel
theorem dX3_isDeep_12 : decode cX3_isDeep 12 = .ok (.bipush 20, 2) := by decide +kernel
theorem dX3_isDeep_14 : decode cX3_isDeep 14 = .ok (.if_icmp .lt 7, 3) := by decide +kernel
theorem dX3_isDeep_17 : decode cX3_isDeep 17 = .ok (.iconst 1, 1) := by decide +kernel
theorem dX3_isDeep_18 : decode cX3_isDeep 18 = .ok (.goto 4, 3) := by decide +kernel
theorem dX3_isDeep_21 : decode cX3_isDeep 21 = .ok (.iconst 0, 1) := by decide +kernel
theorem dX3_isDeep_22 : decode cX3_isDeep 22 = .ok (.ireturn, 1) := by decide +kernel
section CM
variable {ρ : Type} {p : Program} {l : Launch} {e : Env} {s : State} {m : MethodId} {args : Array Value} {below : List Frame} {meth : Method} {c : Code}
variable {cc : ByteArray} {nL : Nat} {own : String} {rt : Option FieldType} {D : va_G} {cI : ClassId} {sf : sfT} {A : Nat → Prop} {q : Nat → Nat} {tk : Nat} {fr lo : Nat} {S0 S : CS} {QQ : ρ × CS → State → Prop} {pc : Nat} {lv : List (Nat × Value)}

-- X1.readFields
theorem tlX1_101 : Cond.methodLink RX1 101 yX2_holdsFirst ∈ tt := tt_in (List.mem_of_getElem? (i := 377) (by decide +kernel)) (by decide +kernel)
theorem tlX1_105 : Cond.methodLink RX1 105 yX2_addPair ∈ tt := tt_in (List.mem_of_getElem? (i := 382) (by decide +kernel)) (by decide +kernel)
def f1_readFields_l39 (n : Nat) : Nat → Int32 → Int32 → CS → Option (Int32 × CS)
  | 0, _, _, _ => none
  | k + 1, x1, x2, S => if x1 ≤ x2 then
      (some ((-1 : Int32), S))
    else
      (cg S 14 fun v1 =>
      bnd (f1_isThere n v1 (nI 0) (nI 9) S) fun v2 S2 =>
      if v2 = 0 then
        (cg S2 14 fun v3 =>
        some (v3, S2))
      else
        (cg S2 14 fun v4 =>
        bnd (f1_textAt n v4 S2) fun v5 S5 =>
        bT 0 S5 (f2_holdsFirst n v5 (tOf 0 S5)) fun v6 S6 =>
        if v6 = 0 then
          (cg S6 14 fun v7 =>
          cg S6 6 fun v8 =>
          if (v7 + (nI 1)) < v8 then
            (cg S6 14 fun v9 =>
            bnd (f1_textAt n v9 S6) fun v10 S10 =>
            cg S10 14 fun v11 =>
            bnd (f1_textAt n (v11 + (nI 1)) S10) fun v12 S12 =>
            bT 0 S12 (f2_addPair n v10 v12 (tOf 0 S12)) fun _ S13 =>
            cg S13 14 fun v14 =>
            cp S13 14 (v14 + (nI 2)) fun S15 =>
            (f1_readFields_l39 n k) x1 (x2 + (nI 1)) S15)
          else
            (cg S6 6 fun v16 =>
            some (v16, S6)))
        else
          (cg S6 14 fun v17 =>
          some (v17, S6))))
theorem mw1_readFields_l39 (n : Nat) : ∀ (k : Nat) (x1 : Int32) (x2 : Int32) (S : CS), mo S (f1_readFields_l39 n k x1 x2 S) := by
  intro k
  induction k with
  | zero =>
    intro x1 x2 S
    exact m_none
  | succ k ih =>
    intro x1 x2 S
    rw [f1_readFields_l39]
    refine m_ite ?_ ?_
    · exact m_some
    · refine m_cg (fun v1 => ?_)
      refine m_bnd (mo1_isThere _ _ _ _ _) (fun v2 S2 => ?_)
      refine m_ite ?_ ?_
      · refine m_cg (fun v3 => ?_)
        exact m_some
      · refine m_cg (fun v4 => ?_)
        refine m_bnd (mo1_textAt _ _ _) (fun v5 S5 => ?_)
        refine m_bT (mo2_holdsFirst _ _ _) (fun v6 S6 => ?_)
        refine m_ite ?_ ?_
        · refine m_cg (fun v7 => ?_)
          refine m_cg (fun v8 => ?_)
          refine m_ite ?_ ?_
          · refine m_cg (fun v9 => ?_)
            refine m_bnd (mo1_textAt _ _ _) (fun v10 S10 => ?_)
            refine m_cg (fun v11 => ?_)
            refine m_bnd (mo1_textAt _ _ _) (fun v12 S12 => ?_)
            refine m_bT (mo2_addPair _ _ _ _) (fun v13 S13 => ?_)
            refine m_cg (fun v14 => ?_)
            refine m_cp (fun S15 => ?_)
            exact ih x1 (x2 + (nI 1)) S15
          · refine m_cg (fun v16 => ?_)
            exact m_some
        · refine m_cg (fun v17 => ?_)
          exact m_some
theorem w1_readFields_l39 (hsf : sfOk (SF tk)) (X : hX p s m args meth c cX1_readFields 3 RX1 (some .int) D (tyC cI) (SF tk) A) (n : Nat) : ∀ (k : Nat) (x1 : Int32) (x2 : Int32) (S : CS), hG p l e (fun r => rmC 4 91 (cS r.2 - cS S0) (sS r.2 - sS S0)) s m args below meth c 3 (ZW D (wC cI q) A s.heap S0 S) (cS S - cS S0) (sS S - sS S0) (fun r => MQ below (QWi D (tyC cI) (wC cI q) A r) args s (cS r.2 - cS S0) (sS r.2 - sS S0) A) (fun r => le S r.2) 39 [(0, .ref (q 51)), (1, .int x1), (2, .int x2)] [] (f1_readFields_l39 n k x1 x2 S) := by
  intro k
  induction k with
  | zero =>
    intro x1 x2 S
    exact h_none
  | succ k ih =>
    intro x1 x2 S
    rw [f1_readFields_l39]
    refine h_iload_n X dX1_readFields_39 rfl rfl ?_
    refine h_iload_n X dX1_readFields_40 rfl rfl ?_
    refine h_icmp_ge (tgt := 140) X dX1_readFields_41 (by decide) ?_ ?_
    · refine h_iconst (v := (-1 : Int32)) X dX1_readFields_140 (by decide) ?_
      exact h_iret X dX1_readFields_141
    · refine h_aload_n X dX1_readFields_44 rfl rfl ?_
      refine h_aload_n X dX1_readFields_45 rfl rfl ?_
      refine c_g_RD_at X fl1_49 dX1_readFields_46 ?_
      intro v1
      refine h_iconst (v := (nI 0)) X dX1_readFields_49 (by decide) ?_
      refine h_bipush (v := (nI 9)) X dX1_readFields_50 (by decide) ?_
      refine k1_isThere hsf X tlX1_86 ⟨Nat.le_of_ble_eq_true rfl, Nat.le_of_ble_eq_true rfl⟩ (Nat.le_of_ble_eq_true rfl) dX1_readFields_52 ?_
      intro v2 S2
      refine h_if_eq (tgt := 76) X dX1_readFields_55 (by decide) ?_ ?_
      · refine h_aload_n X dX1_readFields_76 rfl rfl ?_
        refine c_g_RD_at X fl1_49 dX1_readFields_77 ?_
        intro v3
        exact h_iret X dX1_readFields_80
      · refine h_aload_n X dX1_readFields_58 rfl rfl ?_
        refine c_g_RD_fields X fl1_14 dX1_readFields_59 ?_
        refine h_aload_n X dX1_readFields_62 rfl rfl ?_
        refine h_aload_n X dX1_readFields_63 rfl rfl ?_
        refine c_g_RD_at X fl1_49 dX1_readFields_64 ?_
        intro v4
        refine k1_textAt hsf X tlX1_83 ⟨Nat.le_of_ble_eq_true rfl, Nat.le_of_ble_eq_true rfl⟩ (Nat.le_of_ble_eq_true rfl) dX1_readFields_67 ?_
        intro v5 S5
        refine kt2_holdsFirst_0 hsf X tlX1_101 ⟨Nat.le_of_ble_eq_true rfl, Nat.le_of_ble_eq_true rfl⟩ (Nat.le_of_ble_eq_true rfl) dX1_readFields_70 ?_
        intro v6 S6
        refine h_if_eq (tgt := 81) X dX1_readFields_73 (by decide) ?_ ?_
        · refine h_aload_n X dX1_readFields_81 rfl rfl ?_
          refine c_g_RD_at X fl1_49 dX1_readFields_82 ?_
          intro v7
          refine h_iconst (v := (nI 1)) X dX1_readFields_85 (by decide) ?_
          refine h_iadd X dX1_readFields_86 ?_
          refine h_aload_n X dX1_readFields_87 rfl rfl ?_
          refine c_g_RD_length X fl1_23 dX1_readFields_88 ?_
          intro v8
          refine h_icmp_lt (tgt := 99) X dX1_readFields_91 (by decide) ?_ ?_
          · refine h_aload_n X dX1_readFields_99 rfl rfl ?_
            refine c_g_RD_fields X fl1_14 dX1_readFields_100 ?_
            refine h_aload_n X dX1_readFields_103 rfl rfl ?_
            refine h_aload_n X dX1_readFields_104 rfl rfl ?_
            refine c_g_RD_at X fl1_49 dX1_readFields_105 ?_
            intro v9
            refine k1_textAt hsf X tlX1_83 ⟨Nat.le_of_ble_eq_true rfl, Nat.le_of_ble_eq_true rfl⟩ (Nat.le_of_ble_eq_true rfl) dX1_readFields_108 ?_
            intro v10 S10
            refine h_aload_n X dX1_readFields_111 rfl rfl ?_
            refine h_aload_n X dX1_readFields_112 rfl rfl ?_
            refine c_g_RD_at X fl1_49 dX1_readFields_113 ?_
            intro v11
            refine h_iconst (v := (nI 1)) X dX1_readFields_116 (by decide) ?_
            refine h_iadd X dX1_readFields_117 ?_
            refine k1_textAt hsf X tlX1_83 ⟨Nat.le_of_ble_eq_true rfl, Nat.le_of_ble_eq_true rfl⟩ (Nat.le_of_ble_eq_true rfl) dX1_readFields_118 ?_
            intro v12 S12
            refine kt2_addPair_0 hsf X tlX1_105 ⟨Nat.le_of_ble_eq_true rfl, Nat.le_of_ble_eq_true rfl⟩ (Nat.le_of_ble_eq_true rfl) dX1_readFields_121 ?_
            intro v13 S13
            refine h_aload_n X dX1_readFields_124 rfl rfl ?_
            refine h_dup X dX1_readFields_125 rfl ?_
            refine c_g_RD_at X fl1_49 dX1_readFields_126 ?_
            intro v14
            refine h_iconst (v := (nI 2)) X dX1_readFields_129 (by decide) ?_
            refine h_iadd X dX1_readFields_130 ?_
            refine c_p_RD_at X fl1_49 dX1_readFields_131 ?_
            intro S15
            refine h_iinc (v := (nI 1)) (lv' := [(2, .int (x2 + (nI 1))), (0, .ref (q 51)), (1, .int x1)]) X dX1_readFields_134 rfl (by decide) (by decide) rfl ?_
            refine h_goto (tgt := 39) X dX1_readFields_137 (by decide) ?_
            exact h_pick [1, 2, 0] rfl (ih x1 (x2 + (nI 1)) S15)
          · refine h_aload_n X dX1_readFields_94 rfl rfl ?_
            refine c_g_RD_length X fl1_23 dX1_readFields_95 ?_
            intro v16
            exact h_iret X dX1_readFields_98
        · refine h_aload_n X dX1_readFields_76 rfl rfl ?_
          refine c_g_RD_at X fl1_49 dX1_readFields_77 ?_
          intro v17
          exact h_iret X dX1_readFields_80
def f1_readFields (n : Nat) (S : CS) : Option (Int32 × CS) :=
    cg S 14 fun v1 =>
    bnd (f1_isThere n v1 (nI 0) (nI 4) S) fun v2 S2 =>
    if v2 = 0 then
      (cg S2 14 fun v7 =>
      some (v7, S2))
    else
      (cg S2 14 fun v3 =>
      bnd (f1_textAt n v3 S2) fun v4 S4 =>
      cg S4 14 fun v5 =>
      cp S4 14 (v5 + (nI 1)) fun S6 =>
      f1_readFields_l39 n n v4 (nI 0) S6)
theorem w1_readFields (hsf : sfOk (SF tk)) (X : hX p s m args meth c cX1_readFields 3 RX1 (some .int) D (tyC cI) (SF tk) A) {S0 : CS} (n : Nat) (S : CS) : hG p l e (fun r => rmC 4 91 (cS r.2 - cS S0) (sS r.2 - sS S0)) s m args below meth c 3 (ZW D (wC cI q) A s.heap S0 S) (cS S - cS S0) (sS S - sS S0) (fun r => MQ below (QWi D (tyC cI) (wC cI q) A r) args s (cS r.2 - cS S0) (sS r.2 - sS S0) A) (fun r => le S r.2) 0 [(0, .ref (q 51))] [] (f1_readFields n S) := by
    unfold f1_readFields
    refine h_aload_n X dX1_readFields_0 rfl rfl ?_
    refine h_aload_n X dX1_readFields_1 rfl rfl ?_
    refine c_g_RD_at X fl1_49 dX1_readFields_2 ?_
    intro v1
    refine h_iconst (v := (nI 0)) X dX1_readFields_5 (by decide) ?_
    refine h_iconst (v := (nI 4)) X dX1_readFields_6 (by decide) ?_
    refine k1_isThere hsf X tlX1_86 ⟨Nat.le_of_ble_eq_true rfl, Nat.le_of_ble_eq_true rfl⟩ (Nat.le_of_ble_eq_true rfl) dX1_readFields_7 ?_
    intro v2 S2
    refine h_if_ne (tgt := 18) X dX1_readFields_10 (by decide) ?_ ?_
    · refine h_aload_n X dX1_readFields_18 rfl rfl ?_
      refine h_aload_n X dX1_readFields_19 rfl rfl ?_
      refine c_g_RD_at X fl1_49 dX1_readFields_20 ?_
      intro v3
      refine k1_textAt hsf X tlX1_83 ⟨Nat.le_of_ble_eq_true rfl, Nat.le_of_ble_eq_true rfl⟩ (Nat.le_of_ble_eq_true rfl) dX1_readFields_23 ?_
      intro v4 S4
      refine h_istore_n (lv' := [(1, .int v4), (0, .ref (q 51))]) X dX1_readFields_26 rfl (by decide) rfl ?_
      refine h_aload_n X dX1_readFields_27 rfl rfl ?_
      refine h_dup X dX1_readFields_28 rfl ?_
      refine c_g_RD_at X fl1_49 dX1_readFields_29 ?_
      intro v5
      refine h_iconst (v := (nI 1)) X dX1_readFields_32 (by decide) ?_
      refine h_iadd X dX1_readFields_33 ?_
      refine c_p_RD_at X fl1_49 dX1_readFields_34 ?_
      intro S6
      refine h_iconst (v := (nI 0)) X dX1_readFields_37 (by decide) ?_
      refine h_istore_n (lv' := [(2, .int (nI 0)), (1, .int v4), (0, .ref (q 51))]) X dX1_readFields_38 rfl (by decide) rfl ?_
      exact h_pick [2, 1, 0] rfl (w1_readFields_l39 hsf X n n v4 (nI 0) S6)
    · refine h_aload_n X dX1_readFields_13 rfl rfl ?_
      refine c_g_RD_at X fl1_49 dX1_readFields_14 ?_
      intro v7
      exact h_iret X dX1_readFields_17
theorem mo1_readFields (n : Nat) (S : CS) : mo S (f1_readFields n S) := by
    unfold f1_readFields
    refine m_cg (fun v1 => ?_)
    refine m_bnd (mo1_isThere _ _ _ _ _) (fun v2 S2 => ?_)
    refine m_ite ?_ ?_
    · refine m_cg (fun v7 => ?_)
      exact m_some
    · refine m_cg (fun v3 => ?_)
      refine m_bnd (mo1_textAt _ _ _) (fun v4 S4 => ?_)
      refine m_cg (fun v5 => ?_)
      refine m_cp (fun S6 => ?_)
      exact mw1_readFields_l39 n n v4 (nI 0) S6
theorem c1_readFields (hsf : sfOk (SF tk)) (l : Launch) (D : va_G) (cI : ClassId) (q : Nat → Nat) (n : Nat) (S : CS) : MetW l D (tyC cI) (SF tk) (wC cI q) yX1_readFields cX1_readFields 3 (some .int) 4 91 QWi [.ref (q 51)] S (f1_readFields n S) := by
  refine MetW.of (own := RX1) (by decide) rfl (Nat.le_of_ble_eq_true rfl) (mo1_readFields n S) ?_
  intro x p e s m args below meth c X
  refine h_pick (lv' := [(0, .ref (q 51))]) [0] rfl ?_
  exact h_close (w1_readFields hsf X n S)
theorem tc1_readFields : Cond.code yX1_readFields cX1_readFields 3 (some .int) ∈ tt := tt_in (List.mem_of_getElem? (i := 376) (by decide +kernel)) (by decide +kernel)
theorem ti1_readFields : Cond.instanceMethod yX1_readFields ∈ tt := tt_in (List.mem_of_getElem? (i := 375) (by decide +kernel)) (by decide +kernel)
theorem te1_readFields : Cond.selects RX1 yX1_readFields yX1_readFields ∈ tt := tt_in (List.mem_of_getElem? (i := 9) (by decide +kernel)) (by decide +kernel)
theorem k1_readFields (hsf : sfOk (SF tk)) (X : hX p s m args meth c cc nL own rt D (tyC cI) (SF tk) A) {n : Nat} {ix : Nat} (hlk : Cond.methodLink own ix yX1_readFields ∈ tt) {rest : List Value} {K : Int32 → CS → Option (ρ × CS)} (hR : 4 + 1 ≤ fr ∧ 8 + (3 + 11) + 91 ≤ lo) (hcat : (rest.map fun v => v.category).sum ≤ 8) (d : decode cc pc = .ok (.invokevirtual ix, 3)) (kk : ∀ v S1, hG p l e (fun r => rmC fr lo (cS r.2 - cS S0) (sS r.2 - sS S0)) s m args below meth c nL (ZW D (wC cI q) A s.heap S0 S1) (cS S1 - cS S0) (sS S1 - sS S0) QQ (fun r => le S1 r.2) (pc + 3) lv (.int v :: rest) (K v S1)) : hG p l e (fun r => rmC fr lo (cS r.2 - cS S0) (sS r.2 - sS S0)) s m args below meth c nL (ZW D (wC cI q) A s.heap S0 S) (cS S - cS S0) (sS S - sS S0) QQ (fun r => le S r.2) pc lv (.ref (q 51) :: rest) (bnd (f1_readFields n S) K) := h_callVi (As := []) (b := q 51) (C := RX1) hsf X (c1_readFields hsf l D cI q n S) (cwVC (k := 0) X.1.2.2.2.2.1 hlk ti1_readFields te1_readFields tc1_readFields ini_1 (by decide +kernel) hR) (fun x H h1 h2 => va_recv h1 h2 (ci := 1) (q0 := 2) rfl rfl) rfl rfl hcat d kk
-- X1.readMethods
theorem tlX1_68 : Cond.methodLink RX1 68 yX1_codeFault ∈ tt := tt_in (List.mem_of_getElem? (i := 332) (by decide +kernel)) (by decide +kernel)
theorem tlX1_108 : Cond.methodLink RX1 108 yX2_set ∈ tt := tt_in (List.mem_of_getElem? (i := 421) (by decide +kernel)) (by decide +kernel)
def f1_readMethods_l39 (n : Nat) : Nat → Int32 → Int32 → CS → Option (Int32 × CS)
  | 0, _, _, _ => none
  | k + 1, x1, x2, S => if x1 ≤ x2 then
      (some ((-1 : Int32), S))
    else
      (cg S 14 fun v1 =>
      bnd (f1_isThere n v1 (nI 0) (nI 4) S) fun v2 S2 =>
      if v2 = 0 then
        (cg S2 14 fun v3 =>
        some (v3, S2))
      else
        (cg S2 14 fun v4 =>
        bnd (f1_textAt n v4 S2) fun v5 S5 =>
        bT 1 S5 (f2_holdsFirst n v5 (tOf 1 S5)) fun v6 S6 =>
        if v6 = 0 then
          (cg S6 14 fun v7 =>
          bnd (f1_textAt n v7 S6) fun v8 S8 =>
          cg S8 14 fun v9 =>
          cp S8 14 (v9 + (nI 1)) fun S10 =>
          cg S10 14 fun v11 =>
          cg S10 14 fun v12 =>
          cg S10 6 fun v13 =>
          bnd (f1_isThere n v12 (nI 0) (v13 - (v11 + (nI 1))) S10) fun v14 S14 =>
          if v14 = 0 then
            (cg S14 14 fun v21 =>
            some (v21, S14))
          else
            (cg S14 14 fun v15 =>
            bnd (f1_textAt n v15 S14) fun v16 S16 =>
            bnd (f1_codeFault n (v11 + (nI 1)) ((v11 + (nI 1)) + v16) (nI 1) S16) fun v17 S17 =>
            if v17 = (-1 : Int32) then
              (bT 1 S17 (f2_addPair n v8 (v11 + (nI 1)) (tOf 1 S17)) fun _ S18 =>
              bT 1 S18 (f2_set n x2 (nI 2) ((v11 + (nI 1)) + v16) (tOf 1 S18)) fun _ S19 =>
              cp S19 14 ((v11 + (nI 1)) + v16) fun S20 =>
              (f1_readMethods_l39 n k) x1 (x2 + (nI 1)) S20)
            else
              (some (v17, S17))))
        else
          (cg S6 14 fun v22 =>
          some (v22, S6))))
theorem mw1_readMethods_l39 (n : Nat) : ∀ (k : Nat) (x1 : Int32) (x2 : Int32) (S : CS), mo S (f1_readMethods_l39 n k x1 x2 S) := by
  intro k
  induction k with
  | zero =>
    intro x1 x2 S
    exact m_none
  | succ k ih =>
    intro x1 x2 S
    rw [f1_readMethods_l39]
    refine m_ite ?_ ?_
    · exact m_some
    · refine m_cg (fun v1 => ?_)
      refine m_bnd (mo1_isThere _ _ _ _ _) (fun v2 S2 => ?_)
      refine m_ite ?_ ?_
      · refine m_cg (fun v3 => ?_)
        exact m_some
      · refine m_cg (fun v4 => ?_)
        refine m_bnd (mo1_textAt _ _ _) (fun v5 S5 => ?_)
        refine m_bT (mo2_holdsFirst _ _ _) (fun v6 S6 => ?_)
        refine m_ite ?_ ?_
        · refine m_cg (fun v7 => ?_)
          refine m_bnd (mo1_textAt _ _ _) (fun v8 S8 => ?_)
          refine m_cg (fun v9 => ?_)
          refine m_cp (fun S10 => ?_)
          refine m_cg (fun v11 => ?_)
          refine m_cg (fun v12 => ?_)
          refine m_cg (fun v13 => ?_)
          refine m_bnd (mo1_isThere _ _ _ _ _) (fun v14 S14 => ?_)
          refine m_ite ?_ ?_
          · refine m_cg (fun v21 => ?_)
            exact m_some
          · refine m_cg (fun v15 => ?_)
            refine m_bnd (mo1_textAt _ _ _) (fun v16 S16 => ?_)
            refine m_bnd (mo1_codeFault _ _ _ _ _) (fun v17 S17 => ?_)
            refine m_ite ?_ ?_
            · refine m_bT (mo2_addPair _ _ _ _) (fun v18 S18 => ?_)
              refine m_bT (mo2_set _ _ _ _ _) (fun v19 S19 => ?_)
              refine m_cp (fun S20 => ?_)
              exact ih x1 (x2 + (nI 1)) S20
            · exact m_some
        · refine m_cg (fun v22 => ?_)
          exact m_some
theorem w1_readMethods_l39 (hsf : sfOk (SF tk)) (X : hX p s m args meth c cX1_readMethods 7 RX1 (some .int) D (tyC cI) (SF tk) A) (n : Nat) : ∀ (k : Nat) (x1 : Int32) (x2 : Int32) (S : CS), hG p l e (fun r => rmC 4 91 (cS r.2 - cS S0) (sS r.2 - sS S0)) s m args below meth c 7 (ZW D (wC cI q) A s.heap S0 S) (cS S - cS S0) (sS S - sS S0) (fun r => MQ below (QWi D (tyC cI) (wC cI q) A r) args s (cS r.2 - cS S0) (sS r.2 - sS S0) A) (fun r => le S r.2) 39 [(0, .ref (q 51)), (1, .int x1), (2, .int x2)] [] (f1_readMethods_l39 n k x1 x2 S) := by
  intro k
  induction k with
  | zero =>
    intro x1 x2 S
    exact h_none
  | succ k ih =>
    intro x1 x2 S
    rw [f1_readMethods_l39]
    refine h_iload_n X dX1_readMethods_39 rfl rfl ?_
    refine h_iload_n X dX1_readMethods_40 rfl rfl ?_
    refine h_icmp_ge (tgt := 197) X dX1_readMethods_41 (by decide) ?_ ?_
    · refine h_iconst (v := (-1 : Int32)) X dX1_readMethods_197 (by decide) ?_
      exact h_iret X dX1_readMethods_198
    · refine h_aload_n X dX1_readMethods_44 rfl rfl ?_
      refine h_aload_n X dX1_readMethods_45 rfl rfl ?_
      refine c_g_RD_at X fl1_49 dX1_readMethods_46 ?_
      intro v1
      refine h_iconst (v := (nI 0)) X dX1_readMethods_49 (by decide) ?_
      refine h_iconst (v := (nI 4)) X dX1_readMethods_50 (by decide) ?_
      refine k1_isThere hsf X tlX1_86 ⟨Nat.le_of_ble_eq_true rfl, Nat.le_of_ble_eq_true rfl⟩ (Nat.le_of_ble_eq_true rfl) dX1_readMethods_51 ?_
      intro v2 S2
      refine h_if_eq (tgt := 75) X dX1_readMethods_54 (by decide) ?_ ?_
      · refine h_aload_n X dX1_readMethods_75 rfl rfl ?_
        refine c_g_RD_at X fl1_49 dX1_readMethods_76 ?_
        intro v3
        exact h_iret X dX1_readMethods_79
      · refine h_aload_n X dX1_readMethods_57 rfl rfl ?_
        refine c_g_RD_methods X fl1_20 dX1_readMethods_58 ?_
        refine h_aload_n X dX1_readMethods_61 rfl rfl ?_
        refine h_aload_n X dX1_readMethods_62 rfl rfl ?_
        refine c_g_RD_at X fl1_49 dX1_readMethods_63 ?_
        intro v4
        refine k1_textAt hsf X tlX1_83 ⟨Nat.le_of_ble_eq_true rfl, Nat.le_of_ble_eq_true rfl⟩ (Nat.le_of_ble_eq_true rfl) dX1_readMethods_66 ?_
        intro v5 S5
        refine kt2_holdsFirst_1 hsf X tlX1_101 ⟨Nat.le_of_ble_eq_true rfl, Nat.le_of_ble_eq_true rfl⟩ (Nat.le_of_ble_eq_true rfl) dX1_readMethods_69 ?_
        intro v6 S6
        refine h_if_eq (tgt := 80) X dX1_readMethods_72 (by decide) ?_ ?_
        · refine h_aload_n X dX1_readMethods_80 rfl rfl ?_
          refine h_aload_n X dX1_readMethods_81 rfl rfl ?_
          refine c_g_RD_at X fl1_49 dX1_readMethods_82 ?_
          intro v7
          refine k1_textAt hsf X tlX1_83 ⟨Nat.le_of_ble_eq_true rfl, Nat.le_of_ble_eq_true rfl⟩ (Nat.le_of_ble_eq_true rfl) dX1_readMethods_85 ?_
          intro v8 S8
          refine h_istore_n (lv' := [(3, .int v8), (0, .ref (q 51)), (1, .int x1), (2, .int x2)]) X dX1_readMethods_88 rfl (by decide) rfl ?_
          refine h_aload_n X dX1_readMethods_89 rfl rfl ?_
          refine h_dup X dX1_readMethods_90 rfl ?_
          refine c_g_RD_at X fl1_49 dX1_readMethods_91 ?_
          intro v9
          refine h_iconst (v := (nI 1)) X dX1_readMethods_94 (by decide) ?_
          refine h_iadd X dX1_readMethods_95 ?_
          refine c_p_RD_at X fl1_49 dX1_readMethods_96 ?_
          intro S10
          refine h_aload_n X dX1_readMethods_99 rfl rfl ?_
          refine c_g_RD_at X fl1_49 dX1_readMethods_100 ?_
          intro v11
          refine h_iconst (v := (nI 1)) X dX1_readMethods_103 (by decide) ?_
          refine h_iadd X dX1_readMethods_104 ?_
          refine h_istore (lv' := [(4, .int (v11 + (nI 1))), (3, .int v8), (0, .ref (q 51)), (1, .int x1), (2, .int x2)]) X dX1_readMethods_105 (by decide) rfl ?_
          refine h_aload_n X dX1_readMethods_107 rfl rfl ?_
          refine h_aload_n X dX1_readMethods_108 rfl rfl ?_
          refine c_g_RD_at X fl1_49 dX1_readMethods_109 ?_
          intro v12
          refine h_iconst (v := (nI 0)) X dX1_readMethods_112 (by decide) ?_
          refine h_aload_n X dX1_readMethods_113 rfl rfl ?_
          refine c_g_RD_length X fl1_23 dX1_readMethods_114 ?_
          intro v13
          refine h_iload X dX1_readMethods_117 rfl ?_
          refine h_isub X dX1_readMethods_119 ?_
          refine k1_isThere hsf X tlX1_86 ⟨Nat.le_of_ble_eq_true rfl, Nat.le_of_ble_eq_true rfl⟩ (Nat.le_of_ble_eq_true rfl) dX1_readMethods_120 ?_
          intro v14 S14
          refine h_if_ne (tgt := 131) X dX1_readMethods_123 (by decide) ?_ ?_
          · refine h_iload X dX1_readMethods_131 rfl ?_
            refine h_aload_n X dX1_readMethods_133 rfl rfl ?_
            refine h_aload_n X dX1_readMethods_134 rfl rfl ?_
            refine c_g_RD_at X fl1_49 dX1_readMethods_135 ?_
            intro v15
            refine k1_textAt hsf X tlX1_83 ⟨Nat.le_of_ble_eq_true rfl, Nat.le_of_ble_eq_true rfl⟩ (Nat.le_of_ble_eq_true rfl) dX1_readMethods_138 ?_
            intro v16 S16
            refine h_iadd X dX1_readMethods_141 ?_
            refine h_istore (lv' := [(5, .int ((v11 + (nI 1)) + v16)), (4, .int (v11 + (nI 1))), (3, .int v8), (0, .ref (q 51)), (1, .int x1), (2, .int x2)]) X dX1_readMethods_142 (by decide) rfl ?_
            refine h_aload_n X dX1_readMethods_144 rfl rfl ?_
            refine h_iload X dX1_readMethods_145 rfl ?_
            refine h_iload X dX1_readMethods_147 rfl ?_
            refine h_iconst (v := (nI 1)) X dX1_readMethods_149 (by decide) ?_
            refine k1_codeFault hsf X tlX1_68 ⟨Nat.le_of_ble_eq_true rfl, Nat.le_of_ble_eq_true rfl⟩ (Nat.le_of_ble_eq_true rfl) dX1_readMethods_150 ?_
            intro v17 S17
            refine h_istore (lv' := [(6, .int v17), (5, .int ((v11 + (nI 1)) + v16)), (4, .int (v11 + (nI 1))), (3, .int v8), (0, .ref (q 51)), (1, .int x1), (2, .int x2)]) X dX1_readMethods_153 (by decide) rfl ?_
            refine h_iload X dX1_readMethods_155 rfl ?_
            refine h_iconst (v := (-1 : Int32)) X dX1_readMethods_157 (by decide) ?_
            refine h_icmp_eq (tgt := 164) X dX1_readMethods_158 (by decide) ?_ ?_
            · refine h_aload_n X dX1_readMethods_164 rfl rfl ?_
              refine c_g_RD_methods X fl1_20 dX1_readMethods_165 ?_
              refine h_iload_n X dX1_readMethods_168 rfl rfl ?_
              refine h_iload X dX1_readMethods_169 rfl ?_
              refine kt2_addPair_1 hsf X tlX1_105 ⟨Nat.le_of_ble_eq_true rfl, Nat.le_of_ble_eq_true rfl⟩ (Nat.le_of_ble_eq_true rfl) dX1_readMethods_171 ?_
              intro v18 S18
              refine h_aload_n X dX1_readMethods_174 rfl rfl ?_
              refine c_g_RD_methods X fl1_20 dX1_readMethods_175 ?_
              refine h_iload_n X dX1_readMethods_178 rfl rfl ?_
              refine h_iconst (v := (nI 2)) X dX1_readMethods_179 (by decide) ?_
              refine h_iload X dX1_readMethods_180 rfl ?_
              refine kt2_set_1 hsf X tlX1_108 ⟨Nat.le_of_ble_eq_true rfl, Nat.le_of_ble_eq_true rfl⟩ (Nat.le_of_ble_eq_true rfl) dX1_readMethods_182 ?_
              intro v19 S19
              refine h_aload_n X dX1_readMethods_185 rfl rfl ?_
              refine h_iload X dX1_readMethods_186 rfl ?_
              refine c_p_RD_at X fl1_49 dX1_readMethods_188 ?_
              intro S20
              refine h_iinc (v := (nI 1)) (lv' := [(2, .int (x2 + (nI 1))), (6, .int v17), (5, .int ((v11 + (nI 1)) + v16)), (4, .int (v11 + (nI 1))), (3, .int v8), (0, .ref (q 51)), (1, .int x1)]) X dX1_readMethods_191 rfl (by decide) (by decide) rfl ?_
              refine h_goto (tgt := 39) X dX1_readMethods_194 (by decide) ?_
              exact h_pick [5, 6, 0] rfl (ih x1 (x2 + (nI 1)) S20)
            · refine h_iload X dX1_readMethods_161 rfl ?_
              exact h_iret X dX1_readMethods_163
          · refine h_aload_n X dX1_readMethods_126 rfl rfl ?_
            refine c_g_RD_at X fl1_49 dX1_readMethods_127 ?_
            intro v21
            exact h_iret X dX1_readMethods_130
        · refine h_aload_n X dX1_readMethods_75 rfl rfl ?_
          refine c_g_RD_at X fl1_49 dX1_readMethods_76 ?_
          intro v22
          exact h_iret X dX1_readMethods_79
def f1_readMethods (n : Nat) (S : CS) : Option (Int32 × CS) :=
    cg S 14 fun v1 =>
    bnd (f1_isThere n v1 (nI 0) (nI 3) S) fun v2 S2 =>
    if v2 = 0 then
      (cg S2 14 fun v7 =>
      some (v7, S2))
    else
      (cg S2 14 fun v3 =>
      bnd (f1_textAt n v3 S2) fun v4 S4 =>
      cg S4 14 fun v5 =>
      cp S4 14 (v5 + (nI 1)) fun S6 =>
      f1_readMethods_l39 n n v4 (nI 0) S6)
theorem w1_readMethods (hsf : sfOk (SF tk)) (X : hX p s m args meth c cX1_readMethods 7 RX1 (some .int) D (tyC cI) (SF tk) A) {S0 : CS} (n : Nat) (S : CS) : hG p l e (fun r => rmC 4 91 (cS r.2 - cS S0) (sS r.2 - sS S0)) s m args below meth c 7 (ZW D (wC cI q) A s.heap S0 S) (cS S - cS S0) (sS S - sS S0) (fun r => MQ below (QWi D (tyC cI) (wC cI q) A r) args s (cS r.2 - cS S0) (sS r.2 - sS S0) A) (fun r => le S r.2) 0 [(0, .ref (q 51))] [] (f1_readMethods n S) := by
    unfold f1_readMethods
    refine h_aload_n X dX1_readMethods_0 rfl rfl ?_
    refine h_aload_n X dX1_readMethods_1 rfl rfl ?_
    refine c_g_RD_at X fl1_49 dX1_readMethods_2 ?_
    intro v1
    refine h_iconst (v := (nI 0)) X dX1_readMethods_5 (by decide) ?_
    refine h_iconst (v := (nI 3)) X dX1_readMethods_6 (by decide) ?_
    refine k1_isThere hsf X tlX1_86 ⟨Nat.le_of_ble_eq_true rfl, Nat.le_of_ble_eq_true rfl⟩ (Nat.le_of_ble_eq_true rfl) dX1_readMethods_7 ?_
    intro v2 S2
    refine h_if_ne (tgt := 18) X dX1_readMethods_10 (by decide) ?_ ?_
    · refine h_aload_n X dX1_readMethods_18 rfl rfl ?_
      refine h_aload_n X dX1_readMethods_19 rfl rfl ?_
      refine c_g_RD_at X fl1_49 dX1_readMethods_20 ?_
      intro v3
      refine k1_textAt hsf X tlX1_83 ⟨Nat.le_of_ble_eq_true rfl, Nat.le_of_ble_eq_true rfl⟩ (Nat.le_of_ble_eq_true rfl) dX1_readMethods_23 ?_
      intro v4 S4
      refine h_istore_n (lv' := [(1, .int v4), (0, .ref (q 51))]) X dX1_readMethods_26 rfl (by decide) rfl ?_
      refine h_aload_n X dX1_readMethods_27 rfl rfl ?_
      refine h_dup X dX1_readMethods_28 rfl ?_
      refine c_g_RD_at X fl1_49 dX1_readMethods_29 ?_
      intro v5
      refine h_iconst (v := (nI 1)) X dX1_readMethods_32 (by decide) ?_
      refine h_iadd X dX1_readMethods_33 ?_
      refine c_p_RD_at X fl1_49 dX1_readMethods_34 ?_
      intro S6
      refine h_iconst (v := (nI 0)) X dX1_readMethods_37 (by decide) ?_
      refine h_istore_n (lv' := [(2, .int (nI 0)), (1, .int v4), (0, .ref (q 51))]) X dX1_readMethods_38 rfl (by decide) rfl ?_
      exact h_pick [2, 1, 0] rfl (w1_readMethods_l39 hsf X n n v4 (nI 0) S6)
    · refine h_aload_n X dX1_readMethods_13 rfl rfl ?_
      refine c_g_RD_at X fl1_49 dX1_readMethods_14 ?_
      intro v7
      exact h_iret X dX1_readMethods_17
theorem mo1_readMethods (n : Nat) (S : CS) : mo S (f1_readMethods n S) := by
    unfold f1_readMethods
    refine m_cg (fun v1 => ?_)
    refine m_bnd (mo1_isThere _ _ _ _ _) (fun v2 S2 => ?_)
    refine m_ite ?_ ?_
    · refine m_cg (fun v7 => ?_)
      exact m_some
    · refine m_cg (fun v3 => ?_)
      refine m_bnd (mo1_textAt _ _ _) (fun v4 S4 => ?_)
      refine m_cg (fun v5 => ?_)
      refine m_cp (fun S6 => ?_)
      exact mw1_readMethods_l39 n n v4 (nI 0) S6
theorem c1_readMethods (hsf : sfOk (SF tk)) (l : Launch) (D : va_G) (cI : ClassId) (q : Nat → Nat) (n : Nat) (S : CS) : MetW l D (tyC cI) (SF tk) (wC cI q) yX1_readMethods cX1_readMethods 7 (some .int) 4 91 QWi [.ref (q 51)] S (f1_readMethods n S) := by
  refine MetW.of (own := RX1) (by decide) rfl (Nat.le_of_ble_eq_true rfl) (mo1_readMethods n S) ?_
  intro x p e s m args below meth c X
  refine h_pick (lv' := [(0, .ref (q 51))]) [0] rfl ?_
  exact h_close (w1_readMethods hsf X n S)
theorem tc1_readMethods : Cond.code yX1_readMethods cX1_readMethods 7 (some .int) ∈ tt := tt_in (List.mem_of_getElem? (i := 420) (by decide +kernel)) (by decide +kernel)
theorem ti1_readMethods : Cond.instanceMethod yX1_readMethods ∈ tt := tt_in (List.mem_of_getElem? (i := 419) (by decide +kernel)) (by decide +kernel)
theorem te1_readMethods : Cond.selects RX1 yX1_readMethods yX1_readMethods ∈ tt := tt_in (List.mem_of_getElem? (i := 10) (by decide +kernel)) (by decide +kernel)
theorem k1_readMethods (hsf : sfOk (SF tk)) (X : hX p s m args meth c cc nL own rt D (tyC cI) (SF tk) A) {n : Nat} {ix : Nat} (hlk : Cond.methodLink own ix yX1_readMethods ∈ tt) {rest : List Value} {K : Int32 → CS → Option (ρ × CS)} (hR : 4 + 1 ≤ fr ∧ 8 + (7 + 11) + 91 ≤ lo) (hcat : (rest.map fun v => v.category).sum ≤ 8) (d : decode cc pc = .ok (.invokevirtual ix, 3)) (kk : ∀ v S1, hG p l e (fun r => rmC fr lo (cS r.2 - cS S0) (sS r.2 - sS S0)) s m args below meth c nL (ZW D (wC cI q) A s.heap S0 S1) (cS S1 - cS S0) (sS S1 - sS S0) QQ (fun r => le S1 r.2) (pc + 3) lv (.int v :: rest) (K v S1)) : hG p l e (fun r => rmC fr lo (cS r.2 - cS S0) (sS r.2 - sS S0)) s m args below meth c nL (ZW D (wC cI q) A s.heap S0 S) (cS S - cS S0) (sS S - sS S0) QQ (fun r => le S r.2) pc lv (.ref (q 51) :: rest) (bnd (f1_readMethods n S) K) := h_callVi (As := []) (b := q 51) (C := RX1) hsf X (c1_readMethods hsf l D cI q n S) (cwVC (k := 0) X.1.2.2.2.2.1 hlk ti1_readMethods te1_readMethods tc1_readMethods ini_1 (by decide +kernel) hR) (fun x H h1 h2 => va_recv h1 h2 (ci := 1) (q0 := 2) rfl rfl) rfl rfl hcat d kk
-- X1.findFault
def f1_findFault_b40 (n : Nat) (x2 : Int32) (S : CS) : Option (Int32 × CS) :=
    cg S 14 fun v1 =>
    cp S 9 v1 fun S2 =>
    if x2 = (-1 : Int32) then
      (cg S2 14 fun v3 =>
      cg S2 6 fun v4 =>
      if v4 ≤ v3 then
        (some (x2, S2))
      else
        (cg S2 14 fun v5 =>
        cg S2 6 fun v6 =>
        bnd (f1_codeFault n v5 v6 (nI 0) S2) fun v7 S7 =>
        some (v7, S7)))
    else
      (some (x2, S2))
theorem mw1_findFault_b40 (n : Nat) (x2 : Int32) (S : CS) : mo S (f1_findFault_b40 n x2 S) := by
  unfold f1_findFault_b40
  refine m_cg (fun v1 => ?_)
  refine m_cp (fun S2 => ?_)
  refine m_ite ?_ ?_
  · refine m_cg (fun v3 => ?_)
    refine m_cg (fun v4 => ?_)
    refine m_ite ?_ ?_
    · exact m_some
    · refine m_cg (fun v5 => ?_)
      refine m_cg (fun v6 => ?_)
      refine m_bnd (mo1_codeFault _ _ _ _ _) (fun v7 S7 => ?_)
      exact m_some
  · exact m_some
theorem w1_findFault_b40 (hsf : sfOk (SF tk)) (X : hX p s m args meth c cX1_findFault 3 RX1 (some .int) D (tyC cI) (SF tk) A) (n : Nat) (x2 : Int32) (S : CS) : hG p l e (fun r => rmC 5 117 (cS r.2 - cS S0) (sS r.2 - sS S0)) s m args below meth c 3 (ZW D (wC cI q) A s.heap S0 S) (cS S - cS S0) (sS S - sS S0) (fun r => MQ below (QWi D (tyC cI) (wC cI q) A r) args s (cS r.2 - cS S0) (sS r.2 - sS S0) A) (fun r => le S r.2) 40 [(0, .ref (q 51)), (2, .int x2)] [] (f1_findFault_b40 n x2 S) := by
  unfold f1_findFault_b40
  refine h_aload_n X dX1_findFault_40 rfl rfl ?_
  refine h_aload_n X dX1_findFault_41 rfl rfl ?_
  refine c_g_RD_at X fl1_49 dX1_findFault_42 ?_
  intro v1
  refine c_p_RD_startFrom X fl1_33 dX1_findFault_45 ?_
  intro S2
  refine h_iload_n X dX1_findFault_48 rfl rfl ?_
  refine h_iconst (v := (-1 : Int32)) X dX1_findFault_49 (by decide) ?_
  refine h_icmp_ne (tgt := 78) X dX1_findFault_50 (by decide) ?_ ?_
  · refine h_iload_n X dX1_findFault_78 rfl rfl ?_
    exact h_iret X dX1_findFault_79
  · refine h_aload_n X dX1_findFault_53 rfl rfl ?_
    refine c_g_RD_at X fl1_49 dX1_findFault_54 ?_
    intro v3
    refine h_aload_n X dX1_findFault_57 rfl rfl ?_
    refine c_g_RD_length X fl1_23 dX1_findFault_58 ?_
    intro v4
    refine h_icmp_ge (tgt := 78) X dX1_findFault_61 (by decide) ?_ ?_
    · refine h_iload_n X dX1_findFault_78 rfl rfl ?_
      exact h_iret X dX1_findFault_79
    · refine h_aload_n X dX1_findFault_64 rfl rfl ?_
      refine h_aload_n X dX1_findFault_65 rfl rfl ?_
      refine c_g_RD_at X fl1_49 dX1_findFault_66 ?_
      intro v5
      refine h_aload_n X dX1_findFault_69 rfl rfl ?_
      refine c_g_RD_length X fl1_23 dX1_findFault_70 ?_
      intro v6
      refine h_iconst (v := (nI 0)) X dX1_findFault_73 (by decide) ?_
      refine k1_codeFault hsf X tlX1_68 ⟨Nat.le_of_ble_eq_true rfl, Nat.le_of_ble_eq_true rfl⟩ (Nat.le_of_ble_eq_true rfl) dX1_findFault_74 ?_
      intro v7 S7
      refine h_istore_n (lv' := [(2, .int v7), (0, .ref (q 51))]) X dX1_findFault_77 rfl (by decide) rfl ?_
      refine h_iload_n X dX1_findFault_78 rfl rfl ?_
      exact h_iret X dX1_findFault_79
theorem tlX1_72 : Cond.methodLink RX1 72 yX1_readParent ∈ tt := tt_in (List.mem_of_getElem? (i := 361) (by decide +kernel)) (by decide +kernel)
theorem tlX1_76 : Cond.methodLink RX1 76 yX1_readFields ∈ tt := tt_in (List.mem_of_getElem? (i := 373) (by decide +kernel)) (by decide +kernel)
theorem tlX1_80 : Cond.methodLink RX1 80 yX1_readMethods ∈ tt := tt_in (List.mem_of_getElem? (i := 417) (by decide +kernel)) (by decide +kernel)
def f1_findFault (n : Nat) (x1 : Int32) (S : CS) : Option (Int32 × CS) :=
    if x1 = (nI 1) then
      (bnd (f1_readParent n S) fun v1 S1 =>
      if v1 = 0 then
        (some ((nI 0), S1))
      else
        (bnd (f1_readFields n S1) fun v2 S2 =>
        if v2 = (-1 : Int32) then
          (bnd (f1_readMethods n S2) fun v3 S3 =>
          f1_findFault_b40 n v3 S3)
        else
          (f1_findFault_b40 n v2 S2)))
    else
      (cg S 6 fun v4 =>
      bnd (f1_codeFault n (nI 0) v4 (nI 0) S) fun v5 S5 =>
      some (v5, S5))
theorem w1_findFault (hsf : sfOk (SF tk)) (X : hX p s m args meth c cX1_findFault 3 RX1 (some .int) D (tyC cI) (SF tk) A) {S0 : CS} (n : Nat) (x1 : Int32) (S : CS) : hG p l e (fun r => rmC 5 117 (cS r.2 - cS S0) (sS r.2 - sS S0)) s m args below meth c 3 (ZW D (wC cI q) A s.heap S0 S) (cS S - cS S0) (sS S - sS S0) (fun r => MQ below (QWi D (tyC cI) (wC cI q) A r) args s (cS r.2 - cS S0) (sS r.2 - sS S0) A) (fun r => le S r.2) 0 [(0, .ref (q 51)), (1, .int x1)] [] (f1_findFault n x1 S) := by
    unfold f1_findFault
    refine h_iload_n X dX1_findFault_0 rfl rfl ?_
    refine h_iconst (v := (nI 1)) X dX1_findFault_1 (by decide) ?_
    refine h_icmp_eq (tgt := 16) X dX1_findFault_2 (by decide) ?_ ?_
    · refine h_aload_n X dX1_findFault_16 rfl rfl ?_
      refine k1_readParent hsf X tlX1_72 ⟨Nat.le_of_ble_eq_true rfl, Nat.le_of_ble_eq_true rfl⟩ (Nat.le_of_ble_eq_true rfl) dX1_findFault_17 ?_
      intro v1 S1
      refine h_if_ne (tgt := 25) X dX1_findFault_20 (by decide) ?_ ?_
      · refine h_aload_n X dX1_findFault_25 rfl rfl ?_
        refine k1_readFields hsf X tlX1_76 ⟨Nat.le_of_ble_eq_true rfl, Nat.le_of_ble_eq_true rfl⟩ (Nat.le_of_ble_eq_true rfl) dX1_findFault_26 ?_
        intro v2 S2
        refine h_istore_n (lv' := [(2, .int v2), (0, .ref (q 51)), (1, .int x1)]) X dX1_findFault_29 rfl (by decide) rfl ?_
        refine h_iload_n X dX1_findFault_30 rfl rfl ?_
        refine h_iconst (v := (-1 : Int32)) X dX1_findFault_31 (by decide) ?_
        refine h_icmp_ne (tgt := 40) X dX1_findFault_32 (by decide) ?_ ?_
        · exact h_pick [1, 0] rfl (w1_findFault_b40 hsf X n v2 S2)
        · refine h_aload_n X dX1_findFault_35 rfl rfl ?_
          refine k1_readMethods hsf X tlX1_80 ⟨Nat.le_of_ble_eq_true rfl, Nat.le_of_ble_eq_true rfl⟩ (Nat.le_of_ble_eq_true rfl) dX1_findFault_36 ?_
          intro v3 S3
          refine h_istore_n (lv' := [(2, .int v3), (0, .ref (q 51)), (1, .int x1)]) X dX1_findFault_39 rfl (by decide) rfl ?_
          exact h_pick [1, 0] rfl (w1_findFault_b40 hsf X n v3 S3)
      · refine h_iconst (v := (nI 0)) X dX1_findFault_23 (by decide) ?_
        exact h_iret X dX1_findFault_24
    · refine h_aload_n X dX1_findFault_5 rfl rfl ?_
      refine h_iconst (v := (nI 0)) X dX1_findFault_6 (by decide) ?_
      refine h_aload_n X dX1_findFault_7 rfl rfl ?_
      refine c_g_RD_length X fl1_23 dX1_findFault_8 ?_
      intro v4
      refine h_iconst (v := (nI 0)) X dX1_findFault_11 (by decide) ?_
      refine k1_codeFault hsf X tlX1_68 ⟨Nat.le_of_ble_eq_true rfl, Nat.le_of_ble_eq_true rfl⟩ (Nat.le_of_ble_eq_true rfl) dX1_findFault_12 ?_
      intro v5 S5
      exact h_iret X dX1_findFault_15
theorem mo1_findFault (n : Nat) (x1 : Int32) (S : CS) : mo S (f1_findFault n x1 S) := by
    unfold f1_findFault
    refine m_ite ?_ ?_
    · refine m_bnd (mo1_readParent _ _) (fun v1 S1 => ?_)
      refine m_ite ?_ ?_
      · exact m_some
      · refine m_bnd (mo1_readFields _ _) (fun v2 S2 => ?_)
        refine m_ite ?_ ?_
        · refine m_bnd (mo1_readMethods _ _) (fun v3 S3 => ?_)
          exact mw1_findFault_b40 n v3 S3
        · exact mw1_findFault_b40 n v2 S2
    · refine m_cg (fun v4 => ?_)
      refine m_bnd (mo1_codeFault _ _ _ _ _) (fun v5 S5 => ?_)
      exact m_some
theorem c1_findFault (hsf : sfOk (SF tk)) (l : Launch) (D : va_G) (cI : ClassId) (q : Nat → Nat) (n : Nat) (x1 : Int32) (S : CS) : MetW l D (tyC cI) (SF tk) (wC cI q) yX1_findFault cX1_findFault 3 (some .int) 5 117 QWi [.ref (q 51), .int x1] S (f1_findFault n x1 S) := by
  refine MetW.of (own := RX1) (by decide) rfl (Nat.le_of_ble_eq_true rfl) (mo1_findFault n x1 S) ?_
  intro x p e s m args below meth c X
  refine h_pick (lv' := [(0, .ref (q 51)), (1, .int x1)]) [0, 1] rfl ?_
  exact h_close (w1_findFault hsf X n x1 S)
theorem tc1_findFault : Cond.code yX1_findFault cX1_findFault 3 (some .int) ∈ tt := tt_in (List.mem_of_getElem? (i := 331) (by decide +kernel)) (by decide +kernel)
theorem ti1_findFault : Cond.instanceMethod yX1_findFault ∈ tt := tt_in (List.mem_of_getElem? (i := 329) (by decide +kernel)) (by decide +kernel)
theorem te1_findFault : Cond.selects RX1 yX1_findFault yX1_findFault ∈ tt := tt_in (List.mem_of_getElem? (i := 330) (by decide +kernel)) (by decide +kernel)
theorem k1_findFault (hsf : sfOk (SF tk)) (X : hX p s m args meth c cc nL own rt D (tyC cI) (SF tk) A) {n : Nat} {x1 : Int32} {ix : Nat} (hlk : Cond.methodLink own ix yX1_findFault ∈ tt) {rest : List Value} {K : Int32 → CS → Option (ρ × CS)} (hR : 5 + 1 ≤ fr ∧ 8 + (3 + 11) + 117 ≤ lo) (hcat : (rest.map fun v => v.category).sum ≤ 8) (d : decode cc pc = .ok (.invokevirtual ix, 3)) (kk : ∀ v S1, hG p l e (fun r => rmC fr lo (cS r.2 - cS S0) (sS r.2 - sS S0)) s m args below meth c nL (ZW D (wC cI q) A s.heap S0 S1) (cS S1 - cS S0) (sS S1 - sS S0) QQ (fun r => le S1 r.2) (pc + 3) lv (.int v :: rest) (K v S1)) : hG p l e (fun r => rmC fr lo (cS r.2 - cS S0) (sS r.2 - sS S0)) s m args below meth c nL (ZW D (wC cI q) A s.heap S0 S) (cS S - cS S0) (sS S - sS S0) QQ (fun r => le S r.2) pc lv (.int x1 :: .ref (q 51) :: rest) (bnd (f1_findFault n x1 S) K) := h_callVi (As := [.int x1]) (b := q 51) (C := RX1) hsf X (c1_findFault hsf l D cI q n x1 S) (cwVC (k := 1) X.1.2.2.2.2.1 hlk ti1_findFault te1_findFault tc1_findFault ini_1 (by decide +kernel) hR) (fun x H h1 h2 => va_recv h1 h2 (ci := 1) (q0 := 2) rfl rfl) rfl rfl hcat d kk
-- X3.clear
theorem tlX3_50 : Cond.methodLink RX3 50 yX2_clear ∈ tt := tt_in (List.mem_of_getElem? (i := 455) (by decide +kernel)) (by decide +kernel)
def f3_clear (n : Nat) (S : CS) : Option (Int32 × CS) :=
    bT 2 S (f2_clear n (tOf 2 S)) fun _ S1 =>
    bT 3 S1 (f2_clear n (tOf 3 S1)) fun _ S2 =>
    bT 4 S2 (f2_clear n (tOf 4 S2)) fun _ S3 =>
    cp S3 15 (nI 0) fun S4 =>
    cp S4 16 (nI 0) fun S5 =>
    cp S5 17 (nI 0) fun S6 =>
    cp S6 19 (nI 0) fun S7 =>
    some (0, S7)
theorem w3_clear (hsf : sfOk (SF tk)) (X : hX p s m args meth c cX3_clear 1 RX3 none D (tyC cI) (SF tk) A) {S0 : CS} (n : Nat) (S : CS) : hG p l e (fun r => rmC 1 20 (cS r.2 - cS S0) (sS r.2 - sS S0)) s m args below meth c 1 (ZW D (wC cI q) A s.heap S0 S) (cS S - cS S0) (sS S - sS S0) (fun r => MQ below (QWv D (tyC cI) (wC cI q) A r) args s (cS r.2 - cS S0) (sS r.2 - sS S0) A) (fun r => le S r.2) 0 [(0, .ref (q 52))] [] (f3_clear n S) := by
    unfold f3_clear
    refine h_aload_n X dX3_clear_0 rfl rfl ?_
    refine c_g_WK_written X fl3_23 dX3_clear_1 ?_
    refine kt2_clear_2 hsf X tlX3_50 ⟨Nat.le_of_ble_eq_true rfl, Nat.le_of_ble_eq_true rfl⟩ (Nat.le_of_ble_eq_true rfl) dX3_clear_4 ?_
    intro v1 S1
    refine h_aload_n X dX3_clear_7 rfl rfl ?_
    refine c_g_WK_pile X fl3_37 dX3_clear_8 ?_
    refine kt2_clear_3 hsf X tlX3_50 ⟨Nat.le_of_ble_eq_true rfl, Nat.le_of_ble_eq_true rfl⟩ (Nat.le_of_ble_eq_true rfl) dX3_clear_11 ?_
    intro v2 S2
    refine h_aload_n X dX3_clear_14 rfl rfl ?_
    refine c_g_WK_frames X fl3_40 dX3_clear_15 ?_
    refine kt2_clear_4 hsf X tlX3_50 ⟨Nat.le_of_ble_eq_true rfl, Nat.le_of_ble_eq_true rfl⟩ (Nat.le_of_ble_eq_true rfl) dX3_clear_18 ?_
    intro v3 S3
    refine h_aload_n X dX3_clear_21 rfl rfl ?_
    refine h_iconst (v := (nI 0)) X dX3_clear_22 (by decide) ?_
    refine c_p_WK_wrote X fl3_27 dX3_clear_23 ?_
    intro S4
    refine h_aload_n X dX3_clear_26 rfl rfl ?_
    refine h_iconst (v := (nI 0)) X dX3_clear_27 (by decide) ?_
    refine c_p_WK_steps X fl3_31 dX3_clear_28 ?_
    intro S5
    refine h_aload_n X dX3_clear_31 rfl rfl ?_
    refine h_iconst (v := (nI 0)) X dX3_clear_32 (by decide) ?_
    refine c_p_WK_failure X fl3_34 dX3_clear_33 ?_
    intro S6
    refine h_aload_n X dX3_clear_36 rfl rfl ?_
    refine h_iconst (v := (nI 0)) X dX3_clear_37 (by decide) ?_
    refine c_p_WK_cellFrames X fl3_47 dX3_clear_38 ?_
    intro S7
    exact h_vret X dX3_clear_41
theorem mo3_clear (n : Nat) (S : CS) : mo S (f3_clear n S) := by
    unfold f3_clear
    refine m_bT (mo2_clear _ _) (fun v1 S1 => ?_)
    refine m_bT (mo2_clear _ _) (fun v2 S2 => ?_)
    refine m_bT (mo2_clear _ _) (fun v3 S3 => ?_)
    refine m_cp (fun S4 => ?_)
    refine m_cp (fun S5 => ?_)
    refine m_cp (fun S6 => ?_)
    refine m_cp (fun S7 => ?_)
    exact m_some
theorem c3_clear (hsf : sfOk (SF tk)) (l : Launch) (D : va_G) (cI : ClassId) (q : Nat → Nat) (n : Nat) (S : CS) : MetW l D (tyC cI) (SF tk) (wC cI q) yX3_clear cX3_clear 1 none 1 20 QWv [.ref (q 52)] S (f3_clear n S) := by
  refine MetW.of (own := RX3) (by decide) rfl (Nat.le_of_ble_eq_true rfl) (mo3_clear n S) ?_
  intro x p e s m args below meth c X
  refine h_pick (lv' := [(0, .ref (q 52))]) [0] rfl ?_
  exact h_close (w3_clear hsf X n S)
theorem tc3_clear : Cond.code yX3_clear cX3_clear 1 none ∈ tt := tt_in (List.mem_of_getElem? (i := 454) (by decide +kernel)) (by decide +kernel)
theorem ti3_clear : Cond.instanceMethod yX3_clear ∈ tt := tt_in (List.mem_of_getElem? (i := 452) (by decide +kernel)) (by decide +kernel)
theorem te3_clear : Cond.selects RX3 yX3_clear yX3_clear ∈ tt := tt_in (List.mem_of_getElem? (i := 453) (by decide +kernel)) (by decide +kernel)
theorem k3_clear (hsf : sfOk (SF tk)) (X : hX p s m args meth c cc nL own rt D (tyC cI) (SF tk) A) {n : Nat} {ix : Nat} (hlk : Cond.methodLink own ix yX3_clear ∈ tt) {rest : List Value} {K : Int32 → CS → Option (ρ × CS)} (hR : 1 + 1 ≤ fr ∧ 8 + (1 + 11) + 20 ≤ lo) (hcat : (rest.map fun v => v.category).sum ≤ 8) (d : decode cc pc = .ok (.invokevirtual ix, 3)) (kk : ∀ v S1, hG p l e (fun r => rmC fr lo (cS r.2 - cS S0) (sS r.2 - sS S0)) s m args below meth c nL (ZW D (wC cI q) A s.heap S0 S1) (cS S1 - cS S0) (sS S1 - sS S0) QQ (fun r => le S1 r.2) (pc + 3) lv rest (K v S1)) : hG p l e (fun r => rmC fr lo (cS r.2 - cS S0) (sS r.2 - sS S0)) s m args below meth c nL (ZW D (wC cI q) A s.heap S0 S) (cS S - cS S0) (sS S - sS S0) QQ (fun r => le S r.2) pc lv (.ref (q 52) :: rest) (bnd (f3_clear n S) K) := h_callVv (As := []) (b := q 52) (C := RX3) hsf X (c3_clear hsf l D cI q n S) (cwVC (k := 0) X.1.2.2.2.2.1 hlk ti3_clear te3_clear tc3_clear ini_3 (by decide +kernel) hR) (fun x H h1 h2 => va_recv h1 h2 (ci := 3) (q0 := 7) rfl rfl) rfl rfl hcat d kk
-- X3.openFrame
theorem tlX3_105 : Cond.methodLink RX3 105 yX2_add ∈ tt := tt_in (List.mem_of_getElem? (i := 480) (by decide +kernel)) (by decide +kernel)
theorem tlX3_101 : Cond.methodLink RX3 101 yX2_set ∈ tt := tt_in (List.mem_of_getElem? (i := 481) (by decide +kernel)) (by decide +kernel)
def f3_openFrame (n : Nat) (x1 : Int32) (x2 : Int32) (x3 : Int32) (S : CS) : Option (Int32 × CS) :=
    bT 4 S (f2_add n (tOf 4 S)) fun v1 S1 =>
    bT 4 S1 (f2_set n v1 (nI 0) x1 (tOf 4 S1)) fun _ S2 =>
    bT 4 S2 (f2_set n v1 (nI 1) x2 (tOf 4 S2)) fun _ S3 =>
    bT 4 S3 (f2_set n v1 (nI 2) x3 (tOf 4 S3)) fun _ S4 =>
    bT 4 S4 (f2_set n v1 (nI 6) (-1 : Int32) (tOf 4 S4)) fun _ S5 =>
    some (v1, S5)
theorem w3_openFrame (hsf : sfOk (SF tk)) (X : hX p s m args meth c cX3_openFrame 5 RX3 (some .int) D (tyC cI) (SF tk) A) {S0 : CS} (n : Nat) (x1 : Int32) (x2 : Int32) (x3 : Int32) (S : CS) : hG p l e (fun r => rmC 3 68 (cS r.2 - cS S0) (sS r.2 - sS S0)) s m args below meth c 5 (ZW D (wC cI q) A s.heap S0 S) (cS S - cS S0) (sS S - sS S0) (fun r => MQ below (QWi D (tyC cI) (wC cI q) A r) args s (cS r.2 - cS S0) (sS r.2 - sS S0) A) (fun r => le S r.2) 0 [(0, .ref (q 52)), (1, .int x1), (2, .int x2), (3, .int x3)] [] (f3_openFrame n x1 x2 x3 S) := by
    unfold f3_openFrame
    refine h_aload_n X dX3_openFrame_0 rfl rfl ?_
    refine c_g_WK_frames X fl3_40 dX3_openFrame_1 ?_
    refine kt2_add_4 hsf X tlX3_105 ⟨Nat.le_of_ble_eq_true rfl, Nat.le_of_ble_eq_true rfl⟩ (Nat.le_of_ble_eq_true rfl) dX3_openFrame_4 ?_
    intro v1 S1
    refine h_istore (lv' := [(4, .int v1), (0, .ref (q 52)), (1, .int x1), (2, .int x2), (3, .int x3)]) X dX3_openFrame_7 (by decide) rfl ?_
    refine h_aload_n X dX3_openFrame_9 rfl rfl ?_
    refine c_g_WK_frames X fl3_40 dX3_openFrame_10 ?_
    refine h_iload X dX3_openFrame_13 rfl ?_
    refine h_iconst (v := (nI 0)) X dX3_openFrame_15 (by decide) ?_
    refine h_iload_n X dX3_openFrame_16 rfl rfl ?_
    refine kt2_set_4 hsf X tlX3_101 ⟨Nat.le_of_ble_eq_true rfl, Nat.le_of_ble_eq_true rfl⟩ (Nat.le_of_ble_eq_true rfl) dX3_openFrame_17 ?_
    intro v2 S2
    refine h_aload_n X dX3_openFrame_20 rfl rfl ?_
    refine c_g_WK_frames X fl3_40 dX3_openFrame_21 ?_
    refine h_iload X dX3_openFrame_24 rfl ?_
    refine h_iconst (v := (nI 1)) X dX3_openFrame_26 (by decide) ?_
    refine h_iload_n X dX3_openFrame_27 rfl rfl ?_
    refine kt2_set_4 hsf X tlX3_101 ⟨Nat.le_of_ble_eq_true rfl, Nat.le_of_ble_eq_true rfl⟩ (Nat.le_of_ble_eq_true rfl) dX3_openFrame_28 ?_
    intro v3 S3
    refine h_aload_n X dX3_openFrame_31 rfl rfl ?_
    refine c_g_WK_frames X fl3_40 dX3_openFrame_32 ?_
    refine h_iload X dX3_openFrame_35 rfl ?_
    refine h_iconst (v := (nI 2)) X dX3_openFrame_37 (by decide) ?_
    refine h_iload_n X dX3_openFrame_38 rfl rfl ?_
    refine kt2_set_4 hsf X tlX3_101 ⟨Nat.le_of_ble_eq_true rfl, Nat.le_of_ble_eq_true rfl⟩ (Nat.le_of_ble_eq_true rfl) dX3_openFrame_39 ?_
    intro v4 S4
    refine h_aload_n X dX3_openFrame_42 rfl rfl ?_
    refine c_g_WK_frames X fl3_40 dX3_openFrame_43 ?_
    refine h_iload X dX3_openFrame_46 rfl ?_
    refine h_bipush (v := (nI 6)) X dX3_openFrame_48 (by decide) ?_
    refine h_iconst (v := (-1 : Int32)) X dX3_openFrame_50 (by decide) ?_
    refine kt2_set_4 hsf X tlX3_101 ⟨Nat.le_of_ble_eq_true rfl, Nat.le_of_ble_eq_true rfl⟩ (Nat.le_of_ble_eq_true rfl) dX3_openFrame_51 ?_
    intro v5 S5
    refine h_iload X dX3_openFrame_54 rfl ?_
    exact h_iret X dX3_openFrame_56
theorem mo3_openFrame (n : Nat) (x1 : Int32) (x2 : Int32) (x3 : Int32) (S : CS) : mo S (f3_openFrame n x1 x2 x3 S) := by
    unfold f3_openFrame
    refine m_bT (mo2_add _ _) (fun v1 S1 => ?_)
    refine m_bT (mo2_set _ _ _ _ _) (fun v2 S2 => ?_)
    refine m_bT (mo2_set _ _ _ _ _) (fun v3 S3 => ?_)
    refine m_bT (mo2_set _ _ _ _ _) (fun v4 S4 => ?_)
    refine m_bT (mo2_set _ _ _ _ _) (fun v5 S5 => ?_)
    exact m_some
theorem c3_openFrame (hsf : sfOk (SF tk)) (l : Launch) (D : va_G) (cI : ClassId) (q : Nat → Nat) (n : Nat) (x1 : Int32) (x2 : Int32) (x3 : Int32) (S : CS) : MetW l D (tyC cI) (SF tk) (wC cI q) yX3_openFrame cX3_openFrame 5 (some .int) 3 68 QWi [.ref (q 52), .int x1, .int x2, .int x3] S (f3_openFrame n x1 x2 x3 S) := by
  refine MetW.of (own := RX3) (by decide) rfl (Nat.le_of_ble_eq_true rfl) (mo3_openFrame n x1 x2 x3 S) ?_
  intro x p e s m args below meth c X
  refine h_pick (lv' := [(0, .ref (q 52)), (1, .int x1), (2, .int x2), (3, .int x3)]) [0, 1, 2, 3] rfl ?_
  exact h_close (w3_openFrame hsf X n x1 x2 x3 S)
theorem tc3_openFrame : Cond.code yX3_openFrame cX3_openFrame 5 (some .int) ∈ tt := tt_in (List.mem_of_getElem? (i := 479) (by decide +kernel)) (by decide +kernel)
theorem ti3_openFrame : Cond.instanceMethod yX3_openFrame ∈ tt := tt_in (List.mem_of_getElem? (i := 478) (by decide +kernel)) (by decide +kernel)
theorem te3_openFrame : Cond.selects RX3 yX3_openFrame yX3_openFrame ∈ tt := tt_in (List.mem_of_getElem? (i := 15) (by decide +kernel)) (by decide +kernel)
theorem k3_openFrame (hsf : sfOk (SF tk)) (X : hX p s m args meth c cc nL own rt D (tyC cI) (SF tk) A) {n : Nat} {x1 : Int32} {x2 : Int32} {x3 : Int32} {ix : Nat} (hlk : Cond.methodLink own ix yX3_openFrame ∈ tt) {rest : List Value} {K : Int32 → CS → Option (ρ × CS)} (hR : 3 + 1 ≤ fr ∧ 8 + (5 + 11) + 68 ≤ lo) (hcat : (rest.map fun v => v.category).sum ≤ 8) (d : decode cc pc = .ok (.invokevirtual ix, 3)) (kk : ∀ v S1, hG p l e (fun r => rmC fr lo (cS r.2 - cS S0) (sS r.2 - sS S0)) s m args below meth c nL (ZW D (wC cI q) A s.heap S0 S1) (cS S1 - cS S0) (sS S1 - sS S0) QQ (fun r => le S1 r.2) (pc + 3) lv (.int v :: rest) (K v S1)) : hG p l e (fun r => rmC fr lo (cS r.2 - cS S0) (sS r.2 - sS S0)) s m args below meth c nL (ZW D (wC cI q) A s.heap S0 S) (cS S - cS S0) (sS S - sS S0) QQ (fun r => le S r.2) pc lv (.int x3 :: .int x2 :: .int x1 :: .ref (q 52) :: rest) (bnd (f3_openFrame n x1 x2 x3 S) K) := h_callVi (As := [.int x1, .int x2, .int x3]) (b := q 52) (C := RX3) hsf X (c3_openFrame hsf l D cI q n x1 x2 x3 S) (cwVC (k := 3) X.1.2.2.2.2.1 hlk ti3_openFrame te3_openFrame tc3_openFrame ini_3 (by decide +kernel) hR) (fun x H h1 h2 => va_recv h1 h2 (ci := 3) (q0 := 7) rfl rfl) rfl rfl hcat d kk
-- X3.beginCell
theorem tlX3_63 : Cond.methodLink RX3 63 yX3_openFrame ∈ tt := tt_in (List.mem_of_getElem? (i := 476) (by decide +kernel)) (by decide +kernel)
def f3_beginCell_b37 (n : Nat) (S : CS) : Option (Int32 × CS) :=
    cp S 19 (nI 1) fun S1 =>
    cg S1 6 fun v2 =>
    bnd (f3_openFrame n (-1 : Int32) (nI 0) v2 S1) fun v3 S3 =>
    some (0, S3)
theorem mw3_beginCell_b37 (n : Nat) (S : CS) : mo S (f3_beginCell_b37 n S) := by
  unfold f3_beginCell_b37
  refine m_cp (fun S1 => ?_)
  refine m_cg (fun v2 => ?_)
  refine m_bnd (mo3_openFrame _ _ _ _ _) (fun v3 S3 => ?_)
  exact m_some
theorem w3_beginCell_b37 (hsf : sfOk (SF tk)) (X : hX p s m args meth c cX3_beginCell 3 RX3 none D (tyC cI) (SF tk) A) (n : Nat) (S : CS) : hG p l e (fun r => rmC 4 92 (cS r.2 - cS S0) (sS r.2 - sS S0)) s m args below meth c 3 (ZW D (wC cI q) A s.heap S0 S) (cS S - cS S0) (sS S - sS S0) (fun r => MQ below (QWv D (tyC cI) (wC cI q) A r) args s (cS r.2 - cS S0) (sS r.2 - sS S0) A) (fun r => le S r.2) 37 [(0, .ref (q 52)), (1, .ref (q 51))] [] (f3_beginCell_b37 n S) := by
  unfold f3_beginCell_b37
  refine h_aload_n X dX3_beginCell_37 rfl rfl ?_
  refine h_iconst (v := (nI 1)) X dX3_beginCell_38 (by decide) ?_
  refine c_p_WK_cellFrames X fl3_47 dX3_beginCell_39 ?_
  intro S1
  refine h_aload_n X dX3_beginCell_42 rfl rfl ?_
  refine h_iconst (v := (-1 : Int32)) X dX3_beginCell_43 (by decide) ?_
  refine h_iconst (v := (nI 0)) X dX3_beginCell_44 (by decide) ?_
  refine h_aload_n X dX3_beginCell_45 rfl rfl ?_
  refine c_g_RD_length X fl3_54 dX3_beginCell_46 ?_
  intro v2
  refine k3_openFrame hsf X tlX3_63 ⟨Nat.le_of_ble_eq_true rfl, Nat.le_of_ble_eq_true rfl⟩ (Nat.le_of_ble_eq_true rfl) dX3_beginCell_49 ?_
  intro v3 S3
  refine h_pop X dX3_beginCell_52 rfl ?_
  exact h_vret X dX3_beginCell_53
theorem tlX3_59 : Cond.methodLink RX3 59 yX1_boundAt ∈ tt := tt_in (List.mem_of_getElem? (i := 475) (by decide +kernel)) (by decide +kernel)
def f3_beginCell_l6 (n : Nat) : Nat → Int32 → CS → Option (Int32 × CS)
  | 0, _, _ => none
  | k + 1, x2, S => cg S 6 fun v1 =>
    if v1 ≤ x2 then
      (f3_beginCell_b37 n S)
    else
      (if (nI 60) ≤ x2 then
        (f3_beginCell_b37 n S)
      else
        (bnd (f1_boundAt n x2 S) fun v2 S2 =>
        cw S2 18 60 x2 v2 fun S3 =>
        (f3_beginCell_l6 n k) (x2 + (nI 1)) S3))
theorem mw3_beginCell_l6 (n : Nat) : ∀ (k : Nat) (x2 : Int32) (S : CS), mo S (f3_beginCell_l6 n k x2 S) := by
  intro k
  induction k with
  | zero =>
    intro x2 S
    exact m_none
  | succ k ih =>
    intro x2 S
    rw [f3_beginCell_l6]
    refine m_cg (fun v1 => ?_)
    refine m_ite ?_ ?_
    · exact mw3_beginCell_b37 n S
    · refine m_ite ?_ ?_
      · exact mw3_beginCell_b37 n S
      · refine m_bnd (mo1_boundAt _ _ _) (fun v2 S2 => ?_)
        refine m_cw (fun S3 => ?_)
        exact ih (x2 + (nI 1)) S3
theorem w3_beginCell_l6 (hsf : sfOk (SF tk)) (X : hX p s m args meth c cX3_beginCell 3 RX3 none D (tyC cI) (SF tk) A) (n : Nat) : ∀ (k : Nat) (x2 : Int32) (S : CS), hG p l e (fun r => rmC 4 92 (cS r.2 - cS S0) (sS r.2 - sS S0)) s m args below meth c 3 (ZW D (wC cI q) A s.heap S0 S) (cS S - cS S0) (sS S - sS S0) (fun r => MQ below (QWv D (tyC cI) (wC cI q) A r) args s (cS r.2 - cS S0) (sS r.2 - sS S0) A) (fun r => le S r.2) 6 [(0, .ref (q 52)), (1, .ref (q 51)), (2, .int x2)] [] (f3_beginCell_l6 n k x2 S) := by
  intro k
  induction k with
  | zero =>
    intro x2 S
    exact h_none
  | succ k ih =>
    intro x2 S
    rw [f3_beginCell_l6]
    refine h_iload_n X dX3_beginCell_6 rfl rfl ?_
    refine h_aload_n X dX3_beginCell_7 rfl rfl ?_
    refine c_g_RD_length X fl3_54 dX3_beginCell_8 ?_
    intro v1
    refine h_icmp_ge (tgt := 37) X dX3_beginCell_11 (by decide) ?_ ?_
    · exact h_pick [0, 1] rfl (w3_beginCell_b37 hsf X n S)
    · refine h_iload_n X dX3_beginCell_14 rfl rfl ?_
      refine h_bipush (v := (nI 60)) X dX3_beginCell_15 (by decide) ?_
      refine h_icmp_ge (tgt := 37) X dX3_beginCell_17 (by decide) ?_ ?_
      · exact h_pick [0, 1] rfl (w3_beginCell_b37 hsf X n S)
      · refine h_aload_n X dX3_beginCell_20 rfl rfl ?_
        refine c_g_WK_cellCode X fl3_43 dX3_beginCell_21 ?_
        refine h_iload_n X dX3_beginCell_24 rfl rfl ?_
        refine h_aload_n X dX3_beginCell_25 rfl rfl ?_
        refine h_iload_n X dX3_beginCell_26 rfl rfl ?_
        refine k1_boundAt hsf X tlX3_59 ⟨Nat.le_of_ble_eq_true rfl, Nat.le_of_ble_eq_true rfl⟩ (Nat.le_of_ble_eq_true rfl) dX3_beginCell_27 ?_
        intro v2 S2
        refine c_s_18 X dX3_beginCell_30 ?_
        intro S3
        refine h_iinc (v := (nI 1)) (lv' := [(2, .int (x2 + (nI 1))), (0, .ref (q 52)), (1, .ref (q 51))]) X dX3_beginCell_31 rfl (by decide) (by decide) rfl ?_
        refine h_goto (tgt := 6) X dX3_beginCell_34 (by decide) ?_
        exact h_pick [1, 2, 0] rfl (ih (x2 + (nI 1)) S3)
theorem tlX3_53 : Cond.methodLink RX3 53 yX3_clear ∈ tt := tt_in (List.mem_of_getElem? (i := 474) (by decide +kernel)) (by decide +kernel)
def f3_beginCell (n : Nat) (S : CS) : Option (Int32 × CS) :=
    bnd (f3_clear n S) fun _ S1 =>
    f3_beginCell_l6 n n (nI 0) S1
theorem w3_beginCell (hsf : sfOk (SF tk)) (X : hX p s m args meth c cX3_beginCell 3 RX3 none D (tyC cI) (SF tk) A) {S0 : CS} (n : Nat) (S : CS) : hG p l e (fun r => rmC 4 92 (cS r.2 - cS S0) (sS r.2 - sS S0)) s m args below meth c 3 (ZW D (wC cI q) A s.heap S0 S) (cS S - cS S0) (sS S - sS S0) (fun r => MQ below (QWv D (tyC cI) (wC cI q) A r) args s (cS r.2 - cS S0) (sS r.2 - sS S0) A) (fun r => le S r.2) 0 [(0, .ref (q 52)), (1, .ref (q 51))] [] (f3_beginCell n S) := by
    unfold f3_beginCell
    refine h_aload_n X dX3_beginCell_0 rfl rfl ?_
    refine k3_clear hsf X tlX3_53 ⟨Nat.le_of_ble_eq_true rfl, Nat.le_of_ble_eq_true rfl⟩ (Nat.le_of_ble_eq_true rfl) dX3_beginCell_1 ?_
    intro v1 S1
    refine h_iconst (v := (nI 0)) X dX3_beginCell_4 (by decide) ?_
    refine h_istore_n (lv' := [(2, .int (nI 0)), (0, .ref (q 52)), (1, .ref (q 51))]) X dX3_beginCell_5 rfl (by decide) rfl ?_
    exact h_pick [1, 2, 0] rfl (w3_beginCell_l6 hsf X n n (nI 0) S1)
theorem mo3_beginCell (n : Nat) (S : CS) : mo S (f3_beginCell n S) := by
    unfold f3_beginCell
    refine m_bnd (mo3_clear _ _) (fun v1 S1 => ?_)
    exact mw3_beginCell_l6 n n (nI 0) S1
theorem c3_beginCell (hsf : sfOk (SF tk)) (l : Launch) (D : va_G) (cI : ClassId) (q : Nat → Nat) (n : Nat) (S : CS) : MetW l D (tyC cI) (SF tk) (wC cI q) yX3_beginCell cX3_beginCell 3 none 4 92 QWv [.ref (q 52), .ref (q 51)] S (f3_beginCell n S) := by
  refine MetW.of (own := RX3) (by decide) rfl (Nat.le_of_ble_eq_true rfl) (mo3_beginCell n S) ?_
  intro x p e s m args below meth c X
  refine h_pick (lv' := [(0, .ref (q 52)), (1, .ref (q 51))]) [0, 1] rfl ?_
  exact h_close (w3_beginCell hsf X n S)
theorem tc3_beginCell : Cond.code yX3_beginCell cX3_beginCell 3 none ∈ tt := tt_in (List.mem_of_getElem? (i := 473) (by decide +kernel)) (by decide +kernel)
theorem ti3_beginCell : Cond.instanceMethod yX3_beginCell ∈ tt := tt_in (List.mem_of_getElem? (i := 471) (by decide +kernel)) (by decide +kernel)
theorem te3_beginCell : Cond.selects RX3 yX3_beginCell yX3_beginCell ∈ tt := tt_in (List.mem_of_getElem? (i := 472) (by decide +kernel)) (by decide +kernel)
theorem k3_beginCell (hsf : sfOk (SF tk)) (X : hX p s m args meth c cc nL own rt D (tyC cI) (SF tk) A) {n : Nat} {ix : Nat} (hlk : Cond.methodLink own ix yX3_beginCell ∈ tt) {rest : List Value} {K : Int32 → CS → Option (ρ × CS)} (hR : 4 + 1 ≤ fr ∧ 8 + (3 + 11) + 92 ≤ lo) (hcat : (rest.map fun v => v.category).sum ≤ 8) (d : decode cc pc = .ok (.invokevirtual ix, 3)) (kk : ∀ v S1, hG p l e (fun r => rmC fr lo (cS r.2 - cS S0) (sS r.2 - sS S0)) s m args below meth c nL (ZW D (wC cI q) A s.heap S0 S1) (cS S1 - cS S0) (sS S1 - sS S0) QQ (fun r => le S1 r.2) (pc + 3) lv rest (K v S1)) : hG p l e (fun r => rmC fr lo (cS r.2 - cS S0) (sS r.2 - sS S0)) s m args below meth c nL (ZW D (wC cI q) A s.heap S0 S) (cS S - cS S0) (sS S - sS S0) QQ (fun r => le S r.2) pc lv (.ref (q 51) :: .ref (q 52) :: rest) (bnd (f3_beginCell n S) K) := h_callVv (As := [.ref (q 51)]) (b := q 52) (C := RX3) hsf X (c3_beginCell hsf l D cI q n S) (cwVC (k := 1) X.1.2.2.2.2.1 hlk ti3_beginCell te3_beginCell tc3_beginCell ini_3 (by decide +kernel) hR) (fun x H h1 h2 => va_recv h1 h2 (ci := 3) (q0 := 7) rfl rfl) rfl rfl hcat d kk
-- X3.kindAt
theorem tlX3_80 : Cond.methodLink RX3 80 yX2_size ∈ tt := tt_in (List.mem_of_getElem? (i := 487) (by decide +kernel)) (by decide +kernel)
theorem tlX3_84 : Cond.methodLink RX3 84 yX2_get ∈ tt := tt_in (List.mem_of_getElem? (i := 488) (by decide +kernel)) (by decide +kernel)
def f3_kindAt (n : Nat) (x1 : Int32) (S : CS) : Option (Int32 × CS) :=
    bT 3 S (f2_size n (tOf 3 S)) fun v1 S1 =>
    bT 3 S1 (f2_get n ((v1 - (nI 1)) - x1) (nI 0) (tOf 3 S1)) fun v2 S2 =>
    some (v2, S2)
theorem w3_kindAt (hsf : sfOk (SF tk)) (X : hX p s m args meth c cX3_kindAt 2 RX3 (some .int) D (tyC cI) (SF tk) A) {S0 : CS} (n : Nat) (x1 : Int32) (S : CS) : hG p l e (fun r => rmC 1 23 (cS r.2 - cS S0) (sS r.2 - sS S0)) s m args below meth c 2 (ZW D (wC cI q) A s.heap S0 S) (cS S - cS S0) (sS S - sS S0) (fun r => MQ below (QWi D (tyC cI) (wC cI q) A r) args s (cS r.2 - cS S0) (sS r.2 - sS S0) A) (fun r => le S r.2) 0 [(0, .ref (q 52)), (1, .int x1)] [] (f3_kindAt n x1 S) := by
    unfold f3_kindAt
    refine h_aload_n X dX3_kindAt_0 rfl rfl ?_
    refine c_g_WK_pile X fl3_37 dX3_kindAt_1 ?_
    refine h_aload_n X dX3_kindAt_4 rfl rfl ?_
    refine c_g_WK_pile X fl3_37 dX3_kindAt_5 ?_
    refine kt2_size_3 hsf X tlX3_80 ⟨Nat.le_of_ble_eq_true rfl, Nat.le_of_ble_eq_true rfl⟩ (Nat.le_of_ble_eq_true rfl) dX3_kindAt_8 ?_
    intro v1 S1
    refine h_iconst (v := (nI 1)) X dX3_kindAt_11 (by decide) ?_
    refine h_isub X dX3_kindAt_12 ?_
    refine h_iload_n X dX3_kindAt_13 rfl rfl ?_
    refine h_isub X dX3_kindAt_14 ?_
    refine h_iconst (v := (nI 0)) X dX3_kindAt_15 (by decide) ?_
    refine kt2_get_3 hsf X tlX3_84 ⟨Nat.le_of_ble_eq_true rfl, Nat.le_of_ble_eq_true rfl⟩ (Nat.le_of_ble_eq_true rfl) dX3_kindAt_16 ?_
    intro v2 S2
    exact h_iret X dX3_kindAt_19
theorem mo3_kindAt (n : Nat) (x1 : Int32) (S : CS) : mo S (f3_kindAt n x1 S) := by
    unfold f3_kindAt
    refine m_bT (mo2_size _ _) (fun v1 S1 => ?_)
    refine m_bT (mo2_get _ _ _ _) (fun v2 S2 => ?_)
    exact m_some
theorem c3_kindAt (hsf : sfOk (SF tk)) (l : Launch) (D : va_G) (cI : ClassId) (q : Nat → Nat) (n : Nat) (x1 : Int32) (S : CS) : MetW l D (tyC cI) (SF tk) (wC cI q) yX3_kindAt cX3_kindAt 2 (some .int) 1 23 QWi [.ref (q 52), .int x1] S (f3_kindAt n x1 S) := by
  refine MetW.of (own := RX3) (by decide) rfl (Nat.le_of_ble_eq_true rfl) (mo3_kindAt n x1 S) ?_
  intro x p e s m args below meth c X
  refine h_pick (lv' := [(0, .ref (q 52)), (1, .int x1)]) [0, 1] rfl ?_
  exact h_close (w3_kindAt hsf X n x1 S)
theorem tc3_kindAt : Cond.code yX3_kindAt cX3_kindAt 2 (some .int) ∈ tt := tt_in (List.mem_of_getElem? (i := 545) (by decide +kernel)) (by decide +kernel)
theorem ti3_kindAt : Cond.instanceMethod yX3_kindAt ∈ tt := tt_in (List.mem_of_getElem? (i := 544) (by decide +kernel)) (by decide +kernel)
theorem te3_kindAt : Cond.selects RX3 yX3_kindAt yX3_kindAt ∈ tt := tt_in (List.mem_of_getElem? (i := 25) (by decide +kernel)) (by decide +kernel)
theorem k3_kindAt (hsf : sfOk (SF tk)) (X : hX p s m args meth c cc nL own rt D (tyC cI) (SF tk) A) {n : Nat} {x1 : Int32} {ix : Nat} (hlk : Cond.methodLink own ix yX3_kindAt ∈ tt) {rest : List Value} {K : Int32 → CS → Option (ρ × CS)} (hR : 1 + 1 ≤ fr ∧ 8 + (2 + 11) + 23 ≤ lo) (hcat : (rest.map fun v => v.category).sum ≤ 8) (d : decode cc pc = .ok (.invokevirtual ix, 3)) (kk : ∀ v S1, hG p l e (fun r => rmC fr lo (cS r.2 - cS S0) (sS r.2 - sS S0)) s m args below meth c nL (ZW D (wC cI q) A s.heap S0 S1) (cS S1 - cS S0) (sS S1 - sS S0) QQ (fun r => le S1 r.2) (pc + 3) lv (.int v :: rest) (K v S1)) : hG p l e (fun r => rmC fr lo (cS r.2 - cS S0) (sS r.2 - sS S0)) s m args below meth c nL (ZW D (wC cI q) A s.heap S0 S) (cS S - cS S0) (sS S - sS S0) QQ (fun r => le S r.2) pc lv (.int x1 :: .ref (q 52) :: rest) (bnd (f3_kindAt n x1 S) K) := h_callVi (As := [.int x1]) (b := q 52) (C := RX3) hsf X (c3_kindAt hsf l D cI q n x1 S) (cwVC (k := 1) X.1.2.2.2.2.1 hlk ti3_kindAt te3_kindAt tc3_kindAt ini_3 (by decide +kernel) hR) (fun x H h1 h2 => va_recv h1 h2 (ci := 3) (q0 := 7) rfl rfl) rfl rfl hcat d kk
-- X3.numberAt
def f3_numberAt (n : Nat) (x1 : Int32) (S : CS) : Option (Int32 × CS) :=
    bT 3 S (f2_size n (tOf 3 S)) fun v1 S1 =>
    bT 3 S1 (f2_get n ((v1 - (nI 1)) - x1) (nI 1) (tOf 3 S1)) fun v2 S2 =>
    some (v2, S2)
theorem w3_numberAt (hsf : sfOk (SF tk)) (X : hX p s m args meth c cX3_numberAt 2 RX3 (some .int) D (tyC cI) (SF tk) A) {S0 : CS} (n : Nat) (x1 : Int32) (S : CS) : hG p l e (fun r => rmC 1 23 (cS r.2 - cS S0) (sS r.2 - sS S0)) s m args below meth c 2 (ZW D (wC cI q) A s.heap S0 S) (cS S - cS S0) (sS S - sS S0) (fun r => MQ below (QWi D (tyC cI) (wC cI q) A r) args s (cS r.2 - cS S0) (sS r.2 - sS S0) A) (fun r => le S r.2) 0 [(0, .ref (q 52)), (1, .int x1)] [] (f3_numberAt n x1 S) := by
    unfold f3_numberAt
    refine h_aload_n X dX3_numberAt_0 rfl rfl ?_
    refine c_g_WK_pile X fl3_37 dX3_numberAt_1 ?_
    refine h_aload_n X dX3_numberAt_4 rfl rfl ?_
    refine c_g_WK_pile X fl3_37 dX3_numberAt_5 ?_
    refine kt2_size_3 hsf X tlX3_80 ⟨Nat.le_of_ble_eq_true rfl, Nat.le_of_ble_eq_true rfl⟩ (Nat.le_of_ble_eq_true rfl) dX3_numberAt_8 ?_
    intro v1 S1
    refine h_iconst (v := (nI 1)) X dX3_numberAt_11 (by decide) ?_
    refine h_isub X dX3_numberAt_12 ?_
    refine h_iload_n X dX3_numberAt_13 rfl rfl ?_
    refine h_isub X dX3_numberAt_14 ?_
    refine h_iconst (v := (nI 1)) X dX3_numberAt_15 (by decide) ?_
    refine kt2_get_3 hsf X tlX3_84 ⟨Nat.le_of_ble_eq_true rfl, Nat.le_of_ble_eq_true rfl⟩ (Nat.le_of_ble_eq_true rfl) dX3_numberAt_16 ?_
    intro v2 S2
    exact h_iret X dX3_numberAt_19
theorem mo3_numberAt (n : Nat) (x1 : Int32) (S : CS) : mo S (f3_numberAt n x1 S) := by
    unfold f3_numberAt
    refine m_bT (mo2_size _ _) (fun v1 S1 => ?_)
    refine m_bT (mo2_get _ _ _ _) (fun v2 S2 => ?_)
    exact m_some
theorem c3_numberAt (hsf : sfOk (SF tk)) (l : Launch) (D : va_G) (cI : ClassId) (q : Nat → Nat) (n : Nat) (x1 : Int32) (S : CS) : MetW l D (tyC cI) (SF tk) (wC cI q) yX3_numberAt cX3_numberAt 2 (some .int) 1 23 QWi [.ref (q 52), .int x1] S (f3_numberAt n x1 S) := by
  refine MetW.of (own := RX3) (by decide) rfl (Nat.le_of_ble_eq_true rfl) (mo3_numberAt n x1 S) ?_
  intro x p e s m args below meth c X
  refine h_pick (lv' := [(0, .ref (q 52)), (1, .int x1)]) [0, 1] rfl ?_
  exact h_close (w3_numberAt hsf X n x1 S)
theorem tc3_numberAt : Cond.code yX3_numberAt cX3_numberAt 2 (some .int) ∈ tt := tt_in (List.mem_of_getElem? (i := 549) (by decide +kernel)) (by decide +kernel)
theorem ti3_numberAt : Cond.instanceMethod yX3_numberAt ∈ tt := tt_in (List.mem_of_getElem? (i := 548) (by decide +kernel)) (by decide +kernel)
theorem te3_numberAt : Cond.selects RX3 yX3_numberAt yX3_numberAt ∈ tt := tt_in (List.mem_of_getElem? (i := 26) (by decide +kernel)) (by decide +kernel)
theorem k3_numberAt (hsf : sfOk (SF tk)) (X : hX p s m args meth c cc nL own rt D (tyC cI) (SF tk) A) {n : Nat} {x1 : Int32} {ix : Nat} (hlk : Cond.methodLink own ix yX3_numberAt ∈ tt) {rest : List Value} {K : Int32 → CS → Option (ρ × CS)} (hR : 1 + 1 ≤ fr ∧ 8 + (2 + 11) + 23 ≤ lo) (hcat : (rest.map fun v => v.category).sum ≤ 8) (d : decode cc pc = .ok (.invokevirtual ix, 3)) (kk : ∀ v S1, hG p l e (fun r => rmC fr lo (cS r.2 - cS S0) (sS r.2 - sS S0)) s m args below meth c nL (ZW D (wC cI q) A s.heap S0 S1) (cS S1 - cS S0) (sS S1 - sS S0) QQ (fun r => le S1 r.2) (pc + 3) lv (.int v :: rest) (K v S1)) : hG p l e (fun r => rmC fr lo (cS r.2 - cS S0) (sS r.2 - sS S0)) s m args below meth c nL (ZW D (wC cI q) A s.heap S0 S) (cS S - cS S0) (sS S - sS S0) QQ (fun r => le S r.2) pc lv (.int x1 :: .ref (q 52) :: rest) (bnd (f3_numberAt n x1 S) K) := h_callVi (As := [.int x1]) (b := q 52) (C := RX3) hsf X (c3_numberAt hsf l D cI q n x1 S) (cwVC (k := 1) X.1.2.2.2.2.1 hlk ti3_numberAt te3_numberAt tc3_numberAt ini_3 (by decide +kernel) hR) (fun x H h1 h2 => va_recv h1 h2 (ci := 3) (q0 := 7) rfl rfl) rfl rfl hcat d kk
-- X3.isDeep
def f3_isDeep (n : Nat) (S : CS) : Option (Int32 × CS) :=
    bT 4 S (f2_size n (tOf 4 S)) fun v1 S1 =>
    cg S1 19 fun v2 =>
    if (v1 - v2) < (nI 20) then (zt (nI 0) (some ((nI 0), S1))) else (zt (nI 1) (some ((nI 1), S1)))
theorem w3_isDeep (hsf : sfOk (SF tk)) (X : hX p s m args meth c cX3_isDeep 1 RX3 (some .boolean) D (tyC cI) (SF tk) A) {S0 : CS} (n : Nat) (S : CS) : hG p l e (fun r => rmC 1 20 (cS r.2 - cS S0) (sS r.2 - sS S0)) s m args below meth c 1 (ZW D (wC cI q) A s.heap S0 S) (cS S - cS S0) (sS S - sS S0) (fun r => MQ below (QWi D (tyC cI) (wC cI q) A r) args s (cS r.2 - cS S0) (sS r.2 - sS S0) A) (fun r => le S r.2) 0 [(0, .ref (q 52))] [] (f3_isDeep n S) := by
    unfold f3_isDeep
    refine h_aload_n X dX3_isDeep_0 rfl rfl ?_
    refine c_g_WK_frames X fl3_40 dX3_isDeep_1 ?_
    refine kt2_size_4 hsf X tlX3_80 ⟨Nat.le_of_ble_eq_true rfl, Nat.le_of_ble_eq_true rfl⟩ (Nat.le_of_ble_eq_true rfl) dX3_isDeep_4 ?_
    intro v1 S1
    refine h_aload_n X dX3_isDeep_7 rfl rfl ?_
    refine c_g_WK_cellFrames X fl3_47 dX3_isDeep_8 ?_
    intro v2
    refine h_isub X dX3_isDeep_11 ?_
    refine h_bipush (v := (nI 20)) X dX3_isDeep_12 (by decide) ?_
    refine h_icmp_lt (tgt := 21) X dX3_isDeep_14 (by decide) ?_ ?_
    · refine h_iconst (v := (nI 0)) X dX3_isDeep_21 (by decide) ?_
      exact h_zret X dX3_isDeep_22
    · refine h_iconst (v := (nI 1)) X dX3_isDeep_17 (by decide) ?_
      refine h_goto (tgt := 22) X dX3_isDeep_18 (by decide) ?_
      exact h_zret X dX3_isDeep_22
theorem mo3_isDeep (n : Nat) (S : CS) : mo S (f3_isDeep n S) := by
    unfold f3_isDeep
    refine m_bT (mo2_size _ _) (fun v1 S1 => ?_)
    refine m_cg (fun v2 => ?_)
    refine m_ite ?_ ?_
    · exact m_zt m_some
    · exact m_zt m_some
theorem c3_isDeep (hsf : sfOk (SF tk)) (l : Launch) (D : va_G) (cI : ClassId) (q : Nat → Nat) (n : Nat) (S : CS) : MetW l D (tyC cI) (SF tk) (wC cI q) yX3_isDeep cX3_isDeep 1 (some .boolean) 1 20 QWi [.ref (q 52)] S (f3_isDeep n S) := by
  refine MetW.of (own := RX3) (by decide) rfl (Nat.le_of_ble_eq_true rfl) (mo3_isDeep n S) ?_
  intro x p e s m args below meth c X
  refine h_pick (lv' := [(0, .ref (q 52))]) [0] rfl ?_
  exact h_close (w3_isDeep hsf X n S)
theorem tc3_isDeep : Cond.code yX3_isDeep cX3_isDeep 1 (some .boolean) ∈ tt := tt_in (List.mem_of_getElem? (i := 524) (by decide +kernel)) (by decide +kernel)
theorem ti3_isDeep : Cond.instanceMethod yX3_isDeep ∈ tt := tt_in (List.mem_of_getElem? (i := 523) (by decide +kernel)) (by decide +kernel)
theorem te3_isDeep : Cond.selects RX3 yX3_isDeep yX3_isDeep ∈ tt := tt_in (List.mem_of_getElem? (i := 20) (by decide +kernel)) (by decide +kernel)
theorem k3_isDeep (hsf : sfOk (SF tk)) (X : hX p s m args meth c cc nL own rt D (tyC cI) (SF tk) A) {n : Nat} {ix : Nat} (hlk : Cond.methodLink own ix yX3_isDeep ∈ tt) {rest : List Value} {K : Int32 → CS → Option (ρ × CS)} (hR : 1 + 1 ≤ fr ∧ 8 + (1 + 11) + 20 ≤ lo) (hcat : (rest.map fun v => v.category).sum ≤ 8) (d : decode cc pc = .ok (.invokevirtual ix, 3)) (kk : ∀ v S1, hG p l e (fun r => rmC fr lo (cS r.2 - cS S0) (sS r.2 - sS S0)) s m args below meth c nL (ZW D (wC cI q) A s.heap S0 S1) (cS S1 - cS S0) (sS S1 - sS S0) QQ (fun r => le S1 r.2) (pc + 3) lv (.int v :: rest) (K v S1)) : hG p l e (fun r => rmC fr lo (cS r.2 - cS S0) (sS r.2 - sS S0)) s m args below meth c nL (ZW D (wC cI q) A s.heap S0 S) (cS S - cS S0) (sS S - sS S0) QQ (fun r => le S r.2) pc lv (.ref (q 52) :: rest) (bnd (f3_isDeep n S) K) := h_callVi (As := []) (b := q 52) (C := RX3) hsf X (c3_isDeep hsf l D cI q n S) (cwVC (k := 0) X.1.2.2.2.2.1 hlk ti3_isDeep te3_isDeep tc3_isDeep ini_3 (by decide +kernel) hR) (fun x H h1 h2 => va_recv h1 h2 (ci := 3) (q0 := 7) rfl rfl) rfl rfl hcat d kk
end CM
