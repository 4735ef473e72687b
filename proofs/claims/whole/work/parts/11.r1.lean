theorem dX5_names_0 : decode cX5_names 0 = .ok (.iconst 0, 1) := by decide +kernel
theorem dX5_names_1 : decode cX5_names 1 = .ok (.istore 4, 2) := by decide +kernel
theorem dX5_names_3 : decode cX5_names 3 = .ok (.iconst 0, 1) := by decide +kernel
theorem dX5_names_4 : decode cX5_names 4 = .ok (.istore 5, 2) := by decide +kernel
theorem dX5_names_6 : decode cX5_names 6 = .ok (.iload 5, 2) := by decide +kernel
theorem dX5_names_8 : decode cX5_names 8 = .ok (.iload_n 1, 1) := by decide +kernel
theorem dX5_names_9 : decode cX5_names 9 = .ok (.if_icmp .ge 172, 3) := by decide +kernel
theorem dX5_names_12 : decode cX5_names 12 = .ok (.aload_n 0, 1) := by decide +kernel
theorem dX5_names_13 : decode cX5_names 13 = .ok (.getfield 84, 3) := by decide +kernel
theorem dX5_names_16 : decode cX5_names 16 = .ok (.ifCond .ge 165, 3) := by decide +kernel
theorem dX5_names_19 : decode cX5_names 19 = .ok (.aload_n 0, 1) := by decide +kernel
theorem dX5_names_20 : decode cX5_names 20 = .ok (.getfield 87, 3) := by decide +kernel
theorem dX5_names_23 : decode cX5_names 23 = .ok (.istore 6, 2) := by decide +kernel
theorem dX5_names_25 : decode cX5_names 25 = .ok (.aload_n 0, 1) := by decide +kernel
theorem dX5_names_26 : decode cX5_names 26 = .ok (.invokevirtual 114, 3) := by decide +kernel
theorem dX5_names_29 : decode cX5_names 29 = .ok (.istore 7, 2) := by decide +kernel
theorem dX5_names_31 : decode cX5_names 31 = .ok (.aload_n 0, 1) := by decide +kernel
theorem dX5_names_32 : decode cX5_names 32 = .ok (.getfield 84, 3) := by decide +kernel
theorem dX5_names_35 : decode cX5_names 35 = .ok (.ifCond .ge 31, 3) := by decide +kernel
theorem dX5_names_38 : decode cX5_names 38 = .ok (.iload 7, 2) := by decide +kernel
theorem dX5_names_40 : decode cX5_names 40 = .ok (.ifCond .lt 20, 3) := by decide +kernel
theorem dX5_names_43 : decode cX5_names 43 = .ok (.iload 7, 2) := by decide +kernel
theorem dX5_names_45 : decode cX5_names 45 = .ok (.iload_n 2, 1) := by decide +kernel
theorem dX5_names_46 : decode cX5_names 46 = .ok (.if_icmp .gt 14, 3) := by decide +kernel
theorem dX5_names_49 : decode cX5_names 49 = .ok (.iload 4, 2) := by decide +kernel
theorem dX5_names_51 : decode cX5_names 51 = .ok (.iload 7, 2) := by decide +kernel
theorem dX5_names_53 : decode cX5_names 53 = .ok (.ishr, 1) := by decide +kernel
theorem dX5_names_54 : decode cX5_names 54 = .ok (.iconst 1, 1) := by decide +kernel
theorem dX5_names_55 : decode cX5_names 55 = .ok (.iand, 1) := by decide +kernel
theorem dX5_names_56 : decode cX5_names 56 = .ok (.iconst 1, 1) := by decide +kernel
theorem dX5_names_57 : decode cX5_names 57 = .ok (.if_icmp .ne 9, 3) := by decide +kernel
theorem dX5_names_60 : decode cX5_names 60 = .ok (.aload_n 0, 1) := by decide +kernel
theorem dX5_names_61 : decode cX5_names 61 = .ok (.iload 6, 2) := by decide +kernel
theorem dX5_names_63 : decode cX5_names 63 = .ok (.invokevirtual 93, 3) := by decide +kernel
theorem dX5_names_66 : decode cX5_names 66 = .ok (.iload 4, 2) := by decide +kernel
theorem dX5_names_68 : decode cX5_names 68 = .ok (.aload_n 0, 1) := by decide +kernel
theorem dX5_names_69 : decode cX5_names 69 = .ok (.getfield 84, 3) := by decide +kernel
theorem dX5_names_72 : decode cX5_names 72 = .ok (.ifCond .ge 10, 3) := by decide +kernel
theorem dX5_names_75 : decode cX5_names 75 = .ok (.iconst 1, 1) := by decide +kernel
theorem dX5_names_76 : decode cX5_names 76 = .ok (.iload 7, 2) := by decide +kernel
theorem dX5_names_78 : decode cX5_names 78 = .ok (.ishl, 1) := by decide +kernel
theorem dX5_names_79 : decode cX5_names 79 = .ok (.goto 4, 3) := by decide +kernel
theorem dX5_names_82 : decode cX5_names 82 = .ok (.iconst 0, 1) := by decide +kernel
theorem dX5_names_83 : decode cX5_names 83 = .ok (.ior, 1) := by decide +kernel
theorem dX5_names_84 : decode cX5_names 84 = .ok (.istore 4, 2) := by decide +kernel
theorem dX5_names_86 : decode cX5_names 86 = .ok (.aload_n 0, 1) := by decide +kernel
theorem dX5_names_87 : decode cX5_names 87 = .ok (.getfield 87, 3) := by decide +kernel
theorem dX5_names_90 : decode cX5_names 90 = .ok (.istore 6, 2) := by decide +kernel
theorem dX5_names_92 : decode cX5_names 92 = .ok (.aload_n 0, 1) := by decide +kernel
theorem dX5_names_93 : decode cX5_names 93 = .ok (.getfield 84, 3) := by decide +kernel
theorem dX5_names_96 : decode cX5_names 96 = .ok (.ifCond .ge 10, 3) := by decide +kernel
theorem dX5_names_99 : decode cX5_names 99 = .ok (.aload_n 0, 1) := by decide +kernel
theorem dX5_names_100 : decode cX5_names 100 = .ok (.invokevirtual 114, 3) := by decide +kernel
theorem dX5_names_103 : decode cX5_names 103 = .ok (.goto 4, 3) := by decide +kernel
theorem dX5_names_106 : decode cX5_names 106 = .ok (.iconst 0, 1) := by decide +kernel
theorem dX5_names_107 : decode cX5_names 107 = .ok (.istore 8, 2) := by decide +kernel
theorem dX5_names_109 : decode cX5_names 109 = .ok (.iload_n 3, 1) := by decide +kernel
theorem dX5_names_110 : decode cX5_names 110 = .ok (.ifCond .eq 65, 3) := by decide +kernel
theorem dX5_names_113 : decode cX5_names 113 = .ok (.aload_n 0, 1) := by decide +kernel
theorem dX5_names_114 : decode cX5_names 114 = .ok (.getfield 84, 3) := by decide +kernel
theorem dX5_names_117 : decode cX5_names 117 = .ok (.ifCond .ge 58, 3) := by decide +kernel
theorem dX5_names_120 : decode cX5_names 120 = .ok (.iload 8, 2) := by decide +kernel
theorem dX5_names_122 : decode cX5_names 122 = .ok (.ifCond .lt 17, 3) := by decide +kernel
theorem dX5_names_125 : decode cX5_names 125 = .ok (.iload 8, 2) := by decide +kernel
theorem dX5_names_127 : decode cX5_names 127 = .ok (.aload_n 0, 1) := by decide +kernel
theorem dX5_names_128 : decode cX5_names 128 = .ok (.getfield 90, 3) := by decide +kernel
theorem dX5_names_131 : decode cX5_names 131 = .ok (.aload_n 0, 1) := by decide +kernel
theorem dX5_names_132 : decode cX5_names 132 = .ok (.getfield 87, 3) := by decide +kernel
theorem dX5_names_135 : decode cX5_names 135 = .ok (.isub, 1) := by decide +kernel
theorem dX5_names_136 : decode cX5_names 136 = .ok (.if_icmp .le 12, 3) := by decide +kernel
theorem dX5_names_139 : decode cX5_names 139 = .ok (.aload_n 0, 1) := by decide +kernel
theorem dX5_names_140 : decode cX5_names 140 = .ok (.iload 6, 2) := by decide +kernel
theorem dX5_names_142 : decode cX5_names 142 = .ok (.invokevirtual 93, 3) := by decide +kernel
theorem dX5_names_145 : decode cX5_names 145 = .ok (.goto 30, 3) := by decide +kernel
theorem dX5_names_148 : decode cX5_names 148 = .ok (.aload_n 0, 1) := by decide +kernel
theorem dX5_names_149 : decode cX5_names 149 = .ok (.aload_n 0, 1) := by decide +kernel
theorem dX5_names_150 : decode cX5_names 150 = .ok (.getfield 87, 3) := by decide +kernel
theorem dX5_names_153 : decode cX5_names 153 = .ok (.aload_n 0, 1) := by decide +kernel
theorem dX5_names_154 : decode cX5_names 154 = .ok (.getfield 87, 3) := by decide +kernel
theorem dX5_names_157 : decode cX5_names 157 = .ok (.iload 8, 2) := by decide +kernel
theorem dX5_names_159 : decode cX5_names 159 = .ok (.iadd, 1) := by decide +kernel
theorem dX5_names_160 : decode cX5_names 160 = .ok (.iconst 1, 1) := by decide +kernel
theorem dX5_names_161 : decode cX5_names 161 = .ok (.invokevirtual 118, 3) := by decide +kernel
theorem dX5_names_164 : decode cX5_names 164 = .ok (.aload_n 0, 1) := by decide +kernel
theorem dX5_names_165 : decode cX5_names 165 = .ok (.dup, 1) := by decide +kernel
theorem dX5_names_166 : decode cX5_names 166 = .ok (.getfield 87, 3) := by decide +kernel
theorem dX5_names_169 : decode cX5_names 169 = .ok (.iload 8, 2) := by decide +kernel
theorem dX5_names_171 : decode cX5_names 171 = .ok (.iadd, 1) := by decide +kernel
theorem dX5_names_172 : decode cX5_names 172 = .ok (.putfield 87, 3) := by decide +kernel
theorem dX5_names_175 : decode cX5_names 175 = .ok (.iinc 5 1, 3) := by decide +kernel
theorem dX5_names_178 : decode cX5_names 178 = .ok (.goto (-172), 3) := by decide +kernel
theorem dX5_names_181 : decode cX5_names 181 = .ok (.return_, 1) := by decide +kernel
theorem dX5_classText_0 : decode cX5_classText 0 = .ok (.aload_n 0, 1) := by decide +kernel
theorem dX5_classText_1 : decode cX5_classText 1 = .ok (.iconst 0, 1) := by decide +kernel
theorem dX5_classText_2 : decode cX5_classText 2 = .ok (.putfield 87, 3) := by decide +kernel
theorem dX5_classText_5 : decode cX5_classText 5 = .ok (.aload_n 0, 1) := by decide +kernel
theorem dX5_classText_6 : decode cX5_classText 6 = .ok (.invokevirtual 114, 3) := by decide +kernel
theorem dX5_classText_9 : decode cX5_classText 9 = .ok (.istore_n 1, 1) := by decide +kernel
theorem dX5_classText_10 : decode cX5_classText 10 = .ok (.aload_n 0, 1) := by decide +kernel
theorem dX5_classText_11 : decode cX5_classText 11 = .ok (.getfield 84, 3) := by decide +kernel
theorem dX5_classText_14 : decode cX5_classText 14 = .ok (.ifCond .ge 23, 3) := by decide +kernel
theorem dX5_classText_17 : decode cX5_classText 17 = .ok (.iload_n 1, 1) := by decide +kernel
theorem dX5_classText_18 : decode cX5_classText 18 = .ok (.iconst (-1), 1) := by decide +kernel
theorem dX5_classText_19 : decode cX5_classText 19 = .ok (.if_icmp .eq 18, 3) := by decide +kernel
theorem dX5_classText_22 : decode cX5_classText 22 = .ok (.aload_n 0, 1) := by decide +kernel
theorem dX5_classText_23 : decode cX5_classText 23 = .ok (.iconst 0, 1) := by decide +kernel
theorem dX5_classText_24 : decode cX5_classText 24 = .ok (.iload_n 1, 1) := by decide +kernel
theorem dX5_classText_25 : decode cX5_classText 25 = .ok (.iconst 1, 1) := by decide +kernel
theorem dX5_classText_26 : decode cX5_classText 26 = .ok (.invokevirtual 106, 3) := by decide +kernel
theorem dX5_classText_29 : decode cX5_classText 29 = .ok (.ifCond .ne 8, 3) := by decide +kernel
theorem dX5_classText_32 : decode cX5_classText 32 = .ok (.aload_n 0, 1) := by decide +kernel
theorem dX5_classText_33 : decode cX5_classText 33 = .ok (.iconst 0, 1) := by decide +kernel
theorem dX5_classText_34 : decode cX5_classText 34 = .ok (.invokevirtual 93, 3) := by decide +kernel
theorem dX5_classText_37 : decode cX5_classText 37 = .ok (.aload_n 0, 1) := by decide +kernel
theorem dX5_classText_38 : decode cX5_classText 38 = .ok (.getfield 87, 3) := by decide +kernel
theorem dX5_classText_41 : decode cX5_classText 41 = .ok (.istore_n 2, 1) := by decide +kernel
theorem dX5_classText_42 : decode cX5_classText 42 = .ok (.aload_n 0, 1) := by decide +kernel
theorem dX5_classText_43 : decode cX5_classText 43 = .ok (.getfield 84, 3) := by decide +kernel
theorem dX5_classText_46 : decode cX5_classText 46 = .ok (.ifCond .ge 10, 3) := by decide +kernel
theorem dX5_classText_49 : decode cX5_classText 49 = .ok (.aload_n 0, 1) := by decide +kernel
theorem dX5_classText_50 : decode cX5_classText 50 = .ok (.invokevirtual 114, 3) := by decide +kernel
theorem dX5_classText_53 : decode cX5_classText 53 = .ok (.goto 4, 3) := by decide +kernel
theorem dX5_classText_56 : decode cX5_classText 56 = .ok (.iconst 0, 1) := by decide +kernel
theorem dX5_classText_57 : decode cX5_classText 57 = .ok (.istore_n 3, 1) := by decide +kernel
theorem dX5_classText_58 : decode cX5_classText 58 = .ok (.aload_n 0, 1) := by decide +kernel
theorem dX5_classText_59 : decode cX5_classText 59 = .ok (.getfield 84, 3) := by decide +kernel
theorem dX5_classText_62 : decode cX5_classText 62 = .ok (.ifCond .ge 17, 3) := by decide +kernel
theorem dX5_classText_65 : decode cX5_classText 65 = .ok (.iload_n 3, 1) := by decide +kernel
theorem dX5_classText_66 : decode cX5_classText 66 = .ok (.ifCond .lt 8, 3) := by decide +kernel
theorem dX5_classText_69 : decode cX5_classText 69 = .ok (.iload_n 3, 1) := by decide +kernel
theorem dX5_classText_70 : decode cX5_classText 70 = .ok (.iconst 4, 1) := by decide +kernel
theorem dX5_classText_71 : decode cX5_classText 71 = .ok (.if_icmp .le 8, 3) := by decide +kernel
theorem dX5_classText_74 : decode cX5_classText 74 = .ok (.aload_n 0, 1) := by decide +kernel
theorem dX5_classText_75 : decode cX5_classText 75 = .ok (.iload_n 2, 1) := by decide +kernel
theorem dX5_classText_76 : decode cX5_classText 76 = .ok (.invokevirtual 93, 3) := by decide +kernel
theorem dX5_classText_79 : decode cX5_classText 79 = .ok (.aload_n 0, 1) := by decide +kernel
theorem dX5_classText_80 : decode cX5_classText 80 = .ok (.iload_n 3, 1) := by decide +kernel
theorem dX5_classText_81 : decode cX5_classText 81 = .ok (.bipush 9, 2) := by decide +kernel
theorem dX5_classText_83 : decode cX5_classText 83 = .ok (.iconst 0, 1) := by decide +kernel
theorem dX5_classText_84 : decode cX5_classText 84 = .ok (.invokevirtual 122, 3) := by decide +kernel
theorem dX5_classText_87 : decode cX5_classText 87 = .ok (.aload_n 0, 1) := by decide +kernel
theorem dX5_classText_88 : decode cX5_classText 88 = .ok (.getfield 87, 3) := by decide +kernel
theorem dX5_classText_91 : decode cX5_classText 91 = .ok (.istore_n 2, 1) := by decide +kernel
theorem dX5_classText_92 : decode cX5_classText 92 = .ok (.aload_n 0, 1) := by decide +kernel
theorem dX5_classText_93 : decode cX5_classText 93 = .ok (.getfield 84, 3) := by decide +kernel
theorem dX5_classText_96 : decode cX5_classText 96 = .ok (.ifCond .ge 10, 3) := by decide +kernel
theorem dX5_classText_99 : decode cX5_classText 99 = .ok (.aload_n 0, 1) := by decide +kernel
theorem dX5_classText_100 : decode cX5_classText 100 = .ok (.invokevirtual 114, 3) := by decide +kernel
theorem dX5_classText_103 : decode cX5_classText 103 = .ok (.goto 4, 3) := by decide +kernel
theorem dX5_classText_106 : decode cX5_classText 106 = .ok (.iconst 0, 1) := by decide +kernel
theorem dX5_classText_107 : decode cX5_classText 107 = .ok (.istore_n 3, 1) := by decide +kernel
theorem dX5_classText_108 : decode cX5_classText 108 = .ok (.aload_n 0, 1) := by decide +kernel
theorem dX5_classText_109 : decode cX5_classText 109 = .ok (.getfield 84, 3) := by decide +kernel
theorem dX5_classText_112 : decode cX5_classText 112 = .ok (.ifCond .ge 17, 3) := by decide +kernel
theorem dX5_classText_115 : decode cX5_classText 115 = .ok (.iload_n 3, 1) := by decide +kernel
theorem dX5_classText_116 : decode cX5_classText 116 = .ok (.ifCond .lt 8, 3) := by decide +kernel
theorem dX5_classText_119 : decode cX5_classText 119 = .ok (.iload_n 3, 1) := by decide +kernel
theorem dX5_classText_120 : decode cX5_classText 120 = .ok (.iconst 3, 1) := by decide +kernel
theorem dX5_classText_121 : decode cX5_classText 121 = .ok (.if_icmp .le 8, 3) := by decide +kernel
theorem dX5_classText_124 : decode cX5_classText 124 = .ok (.aload_n 0, 1) := by decide +kernel
theorem dX5_classText_125 : decode cX5_classText 125 = .ok (.iload_n 2, 1) := by decide +kernel
theorem dX5_classText_126 : decode cX5_classText 126 = .ok (.invokevirtual 93, 3) := by decide +kernel
theorem dX5_classText_129 : decode cX5_classText 129 = .ok (.aload_n 0, 1) := by decide +kernel
theorem dX5_classText_130 : decode cX5_classText 130 = .ok (.iload_n 3, 1) := by decide +kernel
theorem dX5_classText_131 : decode cX5_classText 131 = .ok (.iconst 4, 1) := by decide +kernel
theorem dX5_classText_132 : decode cX5_classText 132 = .ok (.iconst 1, 1) := by decide +kernel
theorem dX5_classText_133 : decode cX5_classText 133 = .ok (.invokevirtual 122, 3) := by decide +kernel
theorem dX5_classText_136 : decode cX5_classText 136 = .ok (.aload_n 0, 1) := by decide +kernel
theorem dX5_classText_137 : decode cX5_classText 137 = .ok (.getfield 84, 3) := by decide +kernel
theorem dX5_classText_140 : decode cX5_classText 140 = .ok (.ifCond .ge 27, 3) := by decide +kernel
theorem dX5_classText_143 : decode cX5_classText 143 = .ok (.aload_n 0, 1) := by decide +kernel
theorem dX5_classText_144 : decode cX5_classText 144 = .ok (.getfield 87, 3) := by decide +kernel
theorem dX5_classText_147 : decode cX5_classText 147 = .ok (.aload_n 0, 1) := by decide +kernel
theorem dX5_classText_148 : decode cX5_classText 148 = .ok (.getfield 90, 3) := by decide +kernel
theorem dX5_classText_151 : decode cX5_classText 151 = .ok (.if_icmp .ge 16, 3) := by decide +kernel
theorem dX5_classText_154 : decode cX5_classText 154 = .ok (.aload_n 0, 1) := by decide +kernel
theorem dX5_classText_155 : decode cX5_classText 155 = .ok (.aload_n 0, 1) := by decide +kernel
theorem dX5_classText_156 : decode cX5_classText 156 = .ok (.getfield 87, 3) := by decide +kernel
theorem dX5_classText_159 : decode cX5_classText 159 = .ok (.aload_n 0, 1) := by decide +kernel
theorem dX5_classText_160 : decode cX5_classText 160 = .ok (.getfield 90, 3) := by decide +kernel
theorem dX5_classText_163 : decode cX5_classText 163 = .ok (.iconst 0, 1) := by decide +kernel
theorem dX5_classText_164 : decode cX5_classText 164 = .ok (.invokevirtual 118, 3) := by decide +kernel
theorem dX5_classText_167 : decode cX5_classText 167 = .ok (.return_, 1) := by decide +kernel
theorem dX5_looked_0 : decode cX5_looked 0 = .ok (.aload_n 0, 1) := by decide +kernel
theorem dX5_looked_1 : decode cX5_looked 1 = .ok (.iconst (-1), 1) := by decide +kernel
theorem dX5_looked_2 : decode cX5_looked 2 = .ok (.putfield 84, 3) := by decide +kernel
theorem dX5_looked_5 : decode cX5_looked 5 = .ok (.iconst 0, 1) := by decide +kernel
theorem dX5_looked_6 : decode cX5_looked 6 = .ok (.istore_n 2, 1) := by decide +kernel
theorem dX5_looked_7 : decode cX5_looked 7 = .ok (.iload_n 2, 1) := by decide +kernel
theorem dX5_looked_8 : decode cX5_looked 8 = .ok (.sipush 150, 3) := by decide +kernel
theorem dX5_looked_11 : decode cX5_looked 11 = .ok (.if_icmp .ge 16, 3) := by decide +kernel
theorem dX5_looked_14 : decode cX5_looked 14 = .ok (.aload_n 0, 1) := by decide +kernel
theorem dX5_looked_15 : decode cX5_looked 15 = .ok (.getfield 27, 3) := by decide +kernel
theorem dX5_looked_18 : decode cX5_looked 18 = .ok (.iload_n 2, 1) := by decide +kernel
theorem dX5_looked_19 : decode cX5_looked 19 = .ok (.iconst 0, 1) := by decide +kernel
theorem dX5_looked_20 : decode cX5_looked 20 = .ok (.bastore, 1) := by decide +kernel
theorem dX5_looked_21 : decode cX5_looked 21 = .ok (.iinc 2 1, 3) := by decide +kernel
theorem dX5_looked_24 : decode cX5_looked 24 = .ok (.goto (-17), 3) := by decide +kernel
theorem dX5_looked_27 : decode cX5_looked 27 = .ok (.iconst 0, 1) := by decide +kernel
theorem dX5_looked_28 : decode cX5_looked 28 = .ok (.istore_n 2, 1) := by decide +kernel
theorem dX5_looked_29 : decode cX5_looked 29 = .ok (.iload_n 2, 1) := by decide +kernel
theorem dX5_looked_30 : decode cX5_looked 30 = .ok (.aload_n 0, 1) := by decide +kernel
theorem dX5_looked_31 : decode cX5_looked 31 = .ok (.getfield 90, 3) := by decide +kernel
theorem dX5_looked_34 : decode cX5_looked 34 = .ok (.if_icmp .ge 21, 3) := by decide +kernel
theorem dX5_looked_37 : decode cX5_looked 37 = .ok (.aload_n 0, 1) := by decide +kernel
theorem dX5_looked_38 : decode cX5_looked 38 = .ok (.getfield 24, 3) := by decide +kernel
theorem dX5_looked_41 : decode cX5_looked 41 = .ok (.iload_n 2, 1) := by decide +kernel
theorem dX5_looked_42 : decode cX5_looked 42 = .ok (.aload_n 0, 1) := by decide +kernel
theorem dX5_looked_43 : decode cX5_looked 43 = .ok (.getfield 21, 3) := by decide +kernel
theorem dX5_looked_46 : decode cX5_looked 46 = .ok (.iload_n 2, 1) := by decide +kernel
theorem dX5_looked_47 : decode cX5_looked 47 = .ok (.iaload, 1) := by decide +kernel
theorem dX5_looked_48 : decode cX5_looked 48 = .ok (.iastore, 1) := by decide +kernel
theorem dX5_looked_49 : decode cX5_looked 49 = .ok (.iinc 2 1, 3) := by decide +kernel
theorem dX5_looked_52 : decode cX5_looked 52 = .ok (.goto (-23), 3) := by decide +kernel
theorem dX5_looked_55 : decode cX5_looked 55 = .ok (.iload_n 1, 1) := by decide +kernel
theorem dX5_looked_56 : decode cX5_looked 56 = .ok (.ifCond .ne 16, 3) := by decide +kernel
theorem dX5_looked_59 : decode cX5_looked 59 = .ok (.aload_n 0, 1) := by decide +kernel
theorem dX5_looked_60 : decode cX5_looked 60 = .ok (.iconst 0, 1) := by decide +kernel
theorem dX5_looked_61 : decode cX5_looked 61 = .ok (.aload_n 0, 1) := by decide +kernel
theorem dX5_looked_62 : decode cX5_looked 62 = .ok (.getfield 90, 3) := by decide +kernel
theorem dX5_looked_65 : decode cX5_looked 65 = .ok (.iconst 0, 1) := by decide +kernel
theorem dX5_looked_66 : decode cX5_looked 66 = .ok (.invokevirtual 118, 3) := by decide +kernel
theorem dX5_looked_69 : decode cX5_looked 69 = .ok (.goto 7, 3) := by decide +kernel
theorem dX5_looked_72 : decode cX5_looked 72 = .ok (.aload_n 0, 1) := by decide +kernel
theorem dX5_looked_73 : decode cX5_looked 73 = .ok (.invokevirtual 125, 3) := by decide +kernel
theorem dX5_looked_76 : decode cX5_looked 76 = .ok (.aload_n 0, 1) := by decide +kernel
theorem dX5_looked_77 : decode cX5_looked 77 = .ok (.getfield 84, 3) := by decide +kernel
theorem dX5_looked_80 : decode cX5_looked 80 = .ok (.ireturn, 1) := by decide +kernel
theorem dX5_textOf_0 : decode cX5_textOf 0 = .ok (.aload_n 0, 1) := by decide +kernel
theorem dX5_textOf_1 : decode cX5_textOf 1 = .ok (.getfield 8, 3) := by decide +kernel
theorem dX5_textOf_4 : decode cX5_textOf 4 = .ok (.iload_n 1, 1) := by decide +kernel
theorem dX5_textOf_5 : decode cX5_textOf 5 = .ok (.invokestatic 73, 3) := by decide +kernel
theorem dX5_textOf_8 : decode cX5_textOf 8 = .ok (.bipush 8, 2) := by decide +kernel
theorem dX5_textOf_10 : decode cX5_textOf 10 = .ok (.iadd, 1) := by decide +kernel
theorem dX5_textOf_11 : decode cX5_textOf 11 = .ok (.iload_n 2, 1) := by decide +kernel
theorem dX5_textOf_12 : decode cX5_textOf 12 = .ok (.iadd, 1) := by decide +kernel
theorem dX5_textOf_13 : decode cX5_textOf 13 = .ok (.iaload, 1) := by decide +kernel
theorem dX5_textOf_14 : decode cX5_textOf 14 = .ok (.ireturn, 1) := by decide +kernel
theorem dX5_parentOf_0 : decode cX5_parentOf 0 = .ok (.aload_n 0, 1) := by decide +kernel
theorem dX5_parentOf_1 : decode cX5_parentOf 1 = .ok (.iload_n 1, 1) := by decide +kernel
theorem dX5_parentOf_2 : decode cX5_parentOf 2 = .ok (.iconst 0, 1) := by decide +kernel
theorem dX5_parentOf_3 : decode cX5_parentOf 3 = .ok (.invokevirtual 128, 3) := by decide +kernel
theorem dX5_parentOf_6 : decode cX5_parentOf 6 = .ok (.ireturn, 1) := by decide +kernel
theorem dX5_ownField_0 : decode cX5_ownField 0 = .ok (.iconst 0, 1) := by decide +kernel
theorem dX5_ownField_1 : decode cX5_ownField 1 = .ok (.istore_n 3, 1) := by decide +kernel
theorem dX5_ownField_2 : decode cX5_ownField 2 = .ok (.iload_n 3, 1) := by decide +kernel
theorem dX5_ownField_3 : decode cX5_ownField 3 = .ok (.aload_n 0, 1) := by decide +kernel
theorem dX5_ownField_4 : decode cX5_ownField 4 = .ok (.iload_n 1, 1) := by decide +kernel
theorem dX5_ownField_5 : decode cX5_ownField 5 = .ok (.iconst 1, 1) := by decide +kernel
theorem dX5_ownField_6 : decode cX5_ownField 6 = .ok (.invokevirtual 128, 3) := by decide +kernel
theorem dX5_ownField_9 : decode cX5_ownField 9 = .ok (.if_icmp .ge 29, 3) := by decide +kernel
theorem dX5_ownField_12 : decode cX5_ownField 12 = .ok (.aload_n 0, 1) := by decide +kernel
theorem dX5_ownField_13 : decode cX5_ownField 13 = .ok (.iload_n 1, 1) := by decide +kernel
theorem dX5_ownField_14 : decode cX5_ownField 14 = .ok (.iconst 2, 1) := by decide +kernel
theorem dX5_ownField_15 : decode cX5_ownField 15 = .ok (.iconst 2, 1) := by decide +kernel
theorem dX5_ownField_16 : decode cX5_ownField 16 = .ok (.iload_n 3, 1) := by decide +kernel
theorem dX5_ownField_17 : decode cX5_ownField 17 = .ok (.imul, 1) := by decide +kernel
theorem dX5_ownField_18 : decode cX5_ownField 18 = .ok (.iadd, 1) := by decide +kernel
theorem dX5_ownField_19 : decode cX5_ownField 19 = .ok (.invokevirtual 128, 3) := by decide +kernel
theorem dX5_ownField_22 : decode cX5_ownField 22 = .ok (.iload_n 2, 1) := by decide +kernel
theorem dX5_ownField_23 : decode cX5_ownField 23 = .ok (.if_icmp .ne 9, 3) := by decide +kernel
theorem dX5_ownField_26 : decode cX5_ownField 26 = .ok (.iconst 3, 1) := by decide +kernel
theorem dX5_ownField_27 : decode cX5_ownField 27 = .ok (.iconst 2, 1) := by decide +kernel
theorem dX5_ownField_28 : decode cX5_ownField 28 = .ok (.iload_n 3, 1) := by decide +kernel
theorem dX5_ownField_29 : decode cX5_ownField 29 = .ok (.imul, 1) := by decide +kernel
theorem dX5_ownField_30 : decode cX5_ownField 30 = .ok (.iadd, 1) := by decide +kernel
theorem dX5_ownField_31 : decode cX5_ownField 31 = .ok (.ireturn, 1) := by decide +kernel
theorem dX5_ownField_32 : decode cX5_ownField 32 = .ok (.iinc 3 1, 3) := by decide +kernel
theorem dX5_ownField_35 : decode cX5_ownField 35 = .ok (.goto (-33), 3) := by decide +kernel
theorem dX5_ownField_38 : decode cX5_ownField 38 = .ok (.iconst (-1), 1) := by decide +kernel
theorem dX5_ownField_39 : decode cX5_ownField 39 = .ok (.ireturn, 1) := by decide +kernel
theorem dX5_place0_0 : decode cX5_place0 0 = .ok (.iconst 2, 1) := by decide +kernel
theorem dX5_place0_1 : decode cX5_place0 1 = .ok (.iconst 2, 1) := by decide +kernel
theorem dX5_place0_2 : decode cX5_place0 2 = .ok (.aload_n 0, 1) := by decide +kernel
theorem dX5_place0_3 : decode cX5_place0 3 = .ok (.iload_n 1, 1) := by decide +kernel
theorem dX5_place0_4 : decode cX5_place0 4 = .ok (.iconst 1, 1) := by decide +kernel
theorem dX5_place0_5 : decode cX5_place0 5 = .ok (.invokevirtual 128, 3) := by decide +kernel
theorem dX5_place0_8 : decode cX5_place0 8 = .ok (.imul, 1) := by decide +kernel
theorem dX5_place0_9 : decode cX5_place0 9 = .ok (.iadd, 1) := by decide +kernel
theorem dX5_place0_10 : decode cX5_place0 10 = .ok (.ireturn, 1) := by decide +kernel
theorem dX5_methodPlace_0 : decode cX5_methodPlace 0 = .ok (.iconst 3, 1) := by decide +kernel
theorem dX5_methodPlace_1 : decode cX5_methodPlace 1 = .ok (.iconst 2, 1) := by decide +kernel
theorem dX5_methodPlace_2 : decode cX5_methodPlace 2 = .ok (.aload_n 0, 1) := by decide +kernel
theorem dX5_methodPlace_3 : decode cX5_methodPlace 3 = .ok (.iload_n 1, 1) := by decide +kernel
theorem dX5_methodPlace_4 : decode cX5_methodPlace 4 = .ok (.iconst 1, 1) := by decide +kernel
theorem dX5_methodPlace_5 : decode cX5_methodPlace 5 = .ok (.invokevirtual 128, 3) := by decide +kernel
theorem dX5_methodPlace_8 : decode cX5_methodPlace 8 = .ok (.imul, 1) := by decide +kernel
theorem dX5_methodPlace_9 : decode cX5_methodPlace 9 = .ok (.iadd, 1) := by decide +kernel
theorem dX5_methodPlace_10 : decode cX5_methodPlace 10 = .ok (.istore_n 3, 1) := by decide +kernel
theorem dX5_methodPlace_11 : decode cX5_methodPlace 11 = .ok (.iconst 0, 1) := by decide +kernel
theorem dX5_methodPlace_12 : decode cX5_methodPlace 12 = .ok (.istore 4, 2) := by decide +kernel
theorem dX5_methodPlace_14 : decode cX5_methodPlace 14 = .ok (.iload 4, 2) := by decide +kernel
theorem dX5_methodPlace_16 : decode cX5_methodPlace 16 = .ok (.iload_n 2, 1) := by decide +kernel
theorem dX5_methodPlace_17 : decode cX5_methodPlace 17 = .ok (.if_icmp .ge 22, 3) := by decide +kernel
theorem dX5_methodPlace_20 : decode cX5_methodPlace 20 = .ok (.iload_n 3, 1) := by decide +kernel
theorem dX5_methodPlace_21 : decode cX5_methodPlace 21 = .ok (.iconst 2, 1) := by decide +kernel
theorem dX5_methodPlace_22 : decode cX5_methodPlace 22 = .ok (.aload_n 0, 1) := by decide +kernel
theorem dX5_methodPlace_23 : decode cX5_methodPlace 23 = .ok (.iload_n 1, 1) := by decide +kernel
theorem dX5_methodPlace_24 : decode cX5_methodPlace 24 = .ok (.iload_n 3, 1) := by decide +kernel
theorem dX5_methodPlace_25 : decode cX5_methodPlace 25 = .ok (.iconst 1, 1) := by decide +kernel
theorem dX5_methodPlace_26 : decode cX5_methodPlace 26 = .ok (.iadd, 1) := by decide +kernel
theorem dX5_methodPlace_27 : decode cX5_methodPlace 27 = .ok (.invokevirtual 128, 3) := by decide +kernel
theorem dX5_methodPlace_30 : decode cX5_methodPlace 30 = .ok (.iadd, 1) := by decide +kernel
theorem dX5_methodPlace_31 : decode cX5_methodPlace 31 = .ok (.iadd, 1) := by decide +kernel
theorem dX5_methodPlace_32 : decode cX5_methodPlace 32 = .ok (.istore_n 3, 1) := by decide +kernel
theorem dX5_methodPlace_33 : decode cX5_methodPlace 33 = .ok (.iinc 4 1, 3) := by decide +kernel
theorem dX5_methodPlace_36 : decode cX5_methodPlace 36 = .ok (.goto (-22), 3) := by decide +kernel
theorem dX5_methodPlace_39 : decode cX5_methodPlace 39 = .ok (.iload_n 2, 1) := by decide +kernel
theorem dX5_methodPlace_40 : decode cX5_methodPlace 40 = .ok (.aload_n 0, 1) := by decide +kernel
theorem dX5_methodPlace_41 : decode cX5_methodPlace 41 = .ok (.iload_n 1, 1) := by decide +kernel
theorem dX5_methodPlace_42 : decode cX5_methodPlace 42 = .ok (.aload_n 0, 1) := by decide +kernel
theorem dX5_methodPlace_43 : decode cX5_methodPlace 43 = .ok (.iload_n 1, 1) := by decide +kernel
theorem dX5_methodPlace_44 : decode cX5_methodPlace 44 = .ok (.invokevirtual 132, 3) := by decide +kernel
theorem dX5_methodPlace_47 : decode cX5_methodPlace 47 = .ok (.invokevirtual 128, 3) := by decide +kernel
theorem dX5_methodPlace_50 : decode cX5_methodPlace 50 = .ok (.if_icmp .ge 9, 3) := by decide +kernel
theorem dX5_methodPlace_53 : decode cX5_methodPlace 53 = .ok (.iload_n 3, 1) := by decide +kernel
theorem dX5_methodPlace_54 : decode cX5_methodPlace 54 = .ok (.iconst 1, 1) := by decide +kernel
theorem dX5_methodPlace_55 : decode cX5_methodPlace 55 = .ok (.iadd, 1) := by decide +kernel
theorem dX5_methodPlace_56 : decode cX5_methodPlace 56 = .ok (.goto 4, 3) := by decide +kernel
theorem dX5_methodPlace_59 : decode cX5_methodPlace 59 = .ok (.iload_n 3, 1) := by decide +kernel
theorem dX5_methodPlace_60 : decode cX5_methodPlace 60 = .ok (.ireturn, 1) := by decide +kernel
theorem dX5_ownMethod_0 : decode cX5_ownMethod 0 = .ok (.iconst 0, 1) := by decide +kernel
theorem dX5_ownMethod_1 : decode cX5_ownMethod 1 = .ok (.istore_n 3, 1) := by decide +kernel
theorem dX5_ownMethod_2 : decode cX5_ownMethod 2 = .ok (.iload_n 3, 1) := by decide +kernel
theorem dX5_ownMethod_3 : decode cX5_ownMethod 3 = .ok (.aload_n 0, 1) := by decide +kernel
theorem dX5_ownMethod_4 : decode cX5_ownMethod 4 = .ok (.iload_n 1, 1) := by decide +kernel
theorem dX5_ownMethod_5 : decode cX5_ownMethod 5 = .ok (.aload_n 0, 1) := by decide +kernel
theorem dX5_ownMethod_6 : decode cX5_ownMethod 6 = .ok (.iload_n 1, 1) := by decide +kernel
theorem dX5_ownMethod_7 : decode cX5_ownMethod 7 = .ok (.invokevirtual 132, 3) := by decide +kernel
theorem dX5_ownMethod_10 : decode cX5_ownMethod 10 = .ok (.invokevirtual 128, 3) := by decide +kernel
theorem dX5_ownMethod_13 : decode cX5_ownMethod 13 = .ok (.if_icmp .ge 33, 3) := by decide +kernel
theorem dX5_ownMethod_16 : decode cX5_ownMethod 16 = .ok (.aload_n 0, 1) := by decide +kernel
theorem dX5_ownMethod_17 : decode cX5_ownMethod 17 = .ok (.iload_n 1, 1) := by decide +kernel
theorem dX5_ownMethod_18 : decode cX5_ownMethod 18 = .ok (.iload_n 3, 1) := by decide +kernel
theorem dX5_ownMethod_19 : decode cX5_ownMethod 19 = .ok (.invokevirtual 135, 3) := by decide +kernel
theorem dX5_ownMethod_22 : decode cX5_ownMethod 22 = .ok (.istore 4, 2) := by decide +kernel
theorem dX5_ownMethod_24 : decode cX5_ownMethod 24 = .ok (.aload_n 0, 1) := by decide +kernel
theorem dX5_ownMethod_25 : decode cX5_ownMethod 25 = .ok (.iload_n 1, 1) := by decide +kernel
theorem dX5_ownMethod_26 : decode cX5_ownMethod 26 = .ok (.iload 4, 2) := by decide +kernel
theorem dX5_ownMethod_28 : decode cX5_ownMethod 28 = .ok (.iconst 1, 1) := by decide +kernel
theorem dX5_ownMethod_29 : decode cX5_ownMethod 29 = .ok (.isub, 1) := by decide +kernel
theorem dX5_ownMethod_30 : decode cX5_ownMethod 30 = .ok (.invokevirtual 128, 3) := by decide +kernel
theorem dX5_ownMethod_33 : decode cX5_ownMethod 33 = .ok (.iload_n 2, 1) := by decide +kernel
theorem dX5_ownMethod_34 : decode cX5_ownMethod 34 = .ok (.if_icmp .ne 6, 3) := by decide +kernel
theorem dX5_ownMethod_37 : decode cX5_ownMethod 37 = .ok (.iload 4, 2) := by decide +kernel
theorem dX5_ownMethod_39 : decode cX5_ownMethod 39 = .ok (.ireturn, 1) := by decide +kernel
theorem dX5_ownMethod_40 : decode cX5_ownMethod 40 = .ok (.iinc 3 1, 3) := by decide +kernel
theorem dX5_ownMethod_43 : decode cX5_ownMethod 43 = .ok (.goto (-41), 3) := by decide +kernel
theorem dX5_ownMethod_46 : decode cX5_ownMethod 46 = .ok (.iconst (-1), 1) := by decide +kernel
theorem dX5_ownMethod_47 : decode cX5_ownMethod 47 = .ok (.ireturn, 1) := by decide +kernel
theorem dX5_startPlace_0 : decode cX5_startPlace 0 = .ok (.aload_n 0, 1) := by decide +kernel
theorem dX5_startPlace_1 : decode cX5_startPlace 1 = .ok (.iload_n 1, 1) := by decide +kernel
theorem dX5_startPlace_2 : decode cX5_startPlace 2 = .ok (.aload_n 0, 1) := by decide +kernel
theorem dX5_startPlace_3 : decode cX5_startPlace 3 = .ok (.iload_n 1, 1) := by decide +kernel
theorem dX5_startPlace_4 : decode cX5_startPlace 4 = .ok (.aload_n 0, 1) := by decide +kernel
theorem dX5_startPlace_5 : decode cX5_startPlace 5 = .ok (.iload_n 1, 1) := by decide +kernel
theorem dX5_startPlace_6 : decode cX5_startPlace 6 = .ok (.invokevirtual 132, 3) := by decide +kernel
theorem dX5_startPlace_9 : decode cX5_startPlace 9 = .ok (.invokevirtual 128, 3) := by decide +kernel
theorem dX5_startPlace_12 : decode cX5_startPlace 12 = .ok (.invokevirtual 135, 3) := by decide +kernel
theorem dX5_startPlace_15 : decode cX5_startPlace 15 = .ok (.ireturn, 1) := by decide +kernel
theorem dX5_lengthOf_0 : decode cX5_lengthOf 0 = .ok (.aload_n 0, 1) := by decide +kernel
theorem dX5_lengthOf_1 : decode cX5_lengthOf 1 = .ok (.getfield 8, 3) := by decide +kernel
theorem dX5_lengthOf_4 : decode cX5_lengthOf 4 = .ok (.iload_n 1, 1) := by decide +kernel
theorem dX5_lengthOf_5 : decode cX5_lengthOf 5 = .ok (.invokestatic 73, 3) := by decide +kernel
theorem dX5_lengthOf_8 : decode cX5_lengthOf 8 = .ok (.bipush 7, 2) := by decide +kernel
theorem dX5_lengthOf_10 : decode cX5_lengthOf 10 = .ok (.iadd, 1) := by decide +kernel
theorem dX5_lengthOf_11 : decode cX5_lengthOf 11 = .ok (.iaload, 1) := by decide +kernel
theorem dX5_lengthOf_12 : decode cX5_lengthOf 12 = .ok (.ireturn, 1) := by decide +kernel
theorem dX5_isBelow_0 : decode cX5_isBelow 0 = .ok (.iload_n 1, 1) := by decide +kernel
theorem dX5_isBelow_1 : decode cX5_isBelow 1 = .ok (.istore_n 3, 1) := by decide +kernel
theorem dX5_isBelow_2 : decode cX5_isBelow 2 = .ok (.iload_n 3, 1) := by decide +kernel
theorem dX5_isBelow_3 : decode cX5_isBelow 3 = .ok (.ifCond .lt 17, 3) := by decide +kernel
theorem dX5_isBelow_6 : decode cX5_isBelow 6 = .ok (.iload_n 3, 1) := by decide +kernel
theorem dX5_isBelow_7 : decode cX5_isBelow 7 = .ok (.iload_n 2, 1) := by decide +kernel
theorem dX5_isBelow_8 : decode cX5_isBelow 8 = .ok (.if_icmp .eq 12, 3) := by decide +kernel
theorem dX5_isBelow_11 : decode cX5_isBelow 11 = .ok (.aload_n 0, 1) := by decide +kernel
theorem dX5_isBelow_12 : decode cX5_isBelow 12 = .ok (.iload_n 3, 1) := by decide +kernel
theorem dX5_isBelow_13 : decode cX5_isBelow 13 = .ok (.invokevirtual 138, 3) := by decide +kernel
theorem dX5_isBelow_16 : decode cX5_isBelow 16 = .ok (.istore_n 3, 1) := by decide +kernel
theorem dX5_isBelow_17 : decode cX5_isBelow 17 = .ok (.goto (-15), 3) := by decide +kernel
theorem dX5_isBelow_20 : decode cX5_isBelow 20 = .ok (.iload_n 3, 1) := by decide +kernel
theorem dX5_isBelow_21 : decode cX5_isBelow 21 = .ok (.iload_n 2, 1) := by decide +kernel
theorem dX5_isBelow_22 : decode cX5_isBelow 22 = .ok (.if_icmp .ne 7, 3) := by decide +kernel
theorem dX5_isBelow_25 : decode cX5_isBelow 25 = .ok (.iconst 1, 1) := by decide +kernel
theorem dX5_isBelow_26 : decode cX5_isBelow 26 = .ok (.goto 4, 3) := by decide +kernel
theorem dX5_isBelow_29 : decode cX5_isBelow 29 = .ok (.iconst 0, 1) := by decide +kernel
theorem dX5_isBelow_30 : decode cX5_isBelow 30 = .ok (.ireturn, 1) := by decide +kernel
section RM
variable {ρ : Type} {p : Program} {l : Launch} {e : Env} {R : Room} {s : State} {m : MethodId} {args : Array Value} {below : List Frame} {meth : Method} {c : Code}
variable {cc : ByteArray} {nL : Nat} {rt : Option FieldType} {D : va_G} {cI cZ : ClassId} {q : Nat → Nat} {QQ : ρ → State → Prop} {pc : Nat} {lv : List (Nat × Value)}

-- names
def fR_names_b175 (n : Nat) (k6 : Int32 → Int32 → Int32 → Int32 → Int32 → MR → Option (Int32 × MR)) (x1 : Int32) (x2 : Int32) (x3 : Int32) (x4 : Int32) (x5 : Int32) (M : MR) : Option (Int32 × MR) :=
    k6 x1 x2 x3 x4 (x5 + (nI 1)) M
theorem wR_names_b175 (X : gX p s m args meth c cX5_names 9 RX5 none D (tyR cI cZ)) (n : Nat) (k6 : Int32 → Int32 → Int32 → Int32 → Int32 → MR → Option (Int32 × MR)) (hk6 : ∀ (x1 : Int32) (x2 : Int32) (x3 : Int32) (x4 : Int32) (x5 : Int32) (M : MR), gG p l e (rmR 5 116) s m args below meth c 9 (ZR D cI cZ q (AR q s.heap.size) s.heap M) 0 0 (fun r => MQ below (QV D cI cZ q s.heap.size r) args s 0 0 (AR q s.heap.size)) 6 [(0, .ref (q 34)), (1, .int x1), (2, .int x2), (3, .int x3), (4, .int x4), (5, .int x5)] [] (k6 x1 x2 x3 x4 x5 M)) (x1 : Int32) (x2 : Int32) (x3 : Int32) (x4 : Int32) (x5 : Int32) (M : MR) : gG p l e (rmR 5 116) s m args below meth c 9 (ZR D cI cZ q (AR q s.heap.size) s.heap M) 0 0 (fun r => MQ below (QV D cI cZ q s.heap.size r) args s 0 0 (AR q s.heap.size)) 175 [(0, .ref (q 34)), (1, .int x1), (2, .int x2), (3, .int x3), (4, .int x4), (5, .int x5)] [] (fR_names_b175 n k6 x1 x2 x3 x4 x5 M) := by
  unfold fR_names_b175
  refine g_iinc (v := (nI 1)) (lv' := [(5, .int (x5 + (nI 1))), (0, .ref (q 34)), (1, .int x1), (2, .int x2), (3, .int x3), (4, .int x4)]) X dX5_names_175 rfl (by decide) (by decide) rfl ?_
  refine g_goto (tgt := 6) X dX5_names_178 (by decide) ?_
  exact g_pick [1, 2, 3, 4, 5, 0] rfl (hk6 x1 x2 x3 x4 (x5 + (nI 1)) M)
def fR_names_b139 (n : Nat) (k6 : Int32 → Int32 → Int32 → Int32 → Int32 → MR → Option (Int32 × MR)) (x1 : Int32) (x2 : Int32) (x3 : Int32) (x4 : Int32) (x5 : Int32) (x6 : Int32) (M : MR) : Option (Int32 × MR) :=
    bnd (fR_wrong n x6 M) fun _ M1 =>
    fR_names_b175 n k6 x1 x2 x3 x4 x5 M1
theorem wR_names_b139 (X : gX p s m args meth c cX5_names 9 RX5 none D (tyR cI cZ)) (n : Nat) (k6 : Int32 → Int32 → Int32 → Int32 → Int32 → MR → Option (Int32 × MR)) (hk6 : ∀ (x1 : Int32) (x2 : Int32) (x3 : Int32) (x4 : Int32) (x5 : Int32) (M : MR), gG p l e (rmR 5 116) s m args below meth c 9 (ZR D cI cZ q (AR q s.heap.size) s.heap M) 0 0 (fun r => MQ below (QV D cI cZ q s.heap.size r) args s 0 0 (AR q s.heap.size)) 6 [(0, .ref (q 34)), (1, .int x1), (2, .int x2), (3, .int x3), (4, .int x4), (5, .int x5)] [] (k6 x1 x2 x3 x4 x5 M)) (x1 : Int32) (x2 : Int32) (x3 : Int32) (x4 : Int32) (x5 : Int32) (x6 : Int32) (M : MR) : gG p l e (rmR 5 116) s m args below meth c 9 (ZR D cI cZ q (AR q s.heap.size) s.heap M) 0 0 (fun r => MQ below (QV D cI cZ q s.heap.size r) args s 0 0 (AR q s.heap.size)) 139 [(0, .ref (q 34)), (1, .int x1), (2, .int x2), (3, .int x3), (4, .int x4), (5, .int x5), (6, .int x6)] [] (fR_names_b139 n k6 x1 x2 x3 x4 x5 x6 M) := by
  unfold fR_names_b139
  refine g_aload_n X dX5_names_139 rfl rfl ?_
  refine g_iload X dX5_names_140 rfl ?_
  refine k_wrong X ⟨Nat.le_of_ble_eq_true rfl, Nat.le_of_ble_eq_true rfl⟩ (Nat.le_of_ble_eq_true rfl) dX5_names_142 ?_
  intro v1 M1
  refine g_goto (tgt := 175) X dX5_names_145 (by decide) ?_
  exact g_pick [0, 1, 2, 3, 4, 5] rfl (wR_names_b175 X n k6 hk6 x1 x2 x3 x4 x5 M1)
def fR_names_b107 (n : Nat) (k6 : Int32 → Int32 → Int32 → Int32 → Int32 → MR → Option (Int32 × MR)) (x1 : Int32) (x2 : Int32) (x3 : Int32) (x4 : Int32) (x5 : Int32) (x6 : Int32) (s0 : Int32) (M : MR) : Option (Int32 × MR) :=
    if x3 = 0 then
      (fR_names_b175 n k6 x1 x2 x3 x4 x5 M)
    else
      (gf M 7 fun v1 =>
      if 0 ≤ v1 then
        (fR_names_b175 n k6 x1 x2 x3 x4 x5 M)
      else
        (if s0 < 0 then
          (fR_names_b139 n k6 x1 x2 x3 x4 x5 x6 M)
        else
          (gf M 6 fun v2 =>
          gf M 8 fun v3 =>
          if s0 ≤ (v2 - v3) then
            (gf M 8 fun v4 =>
            gf M 8 fun v5 =>
            bnd (fR_code n v4 (v5 + s0) (nI 1) M) fun _ M6 =>
            gf M6 8 fun v7 =>
            pf M6 8 (v7 + s0) fun M8 =>
            fR_names_b175 n k6 x1 x2 x3 x4 x5 M8)
          else
            (fR_names_b139 n k6 x1 x2 x3 x4 x5 x6 M))))
theorem wR_names_b107 (X : gX p s m args meth c cX5_names 9 RX5 none D (tyR cI cZ)) (n : Nat) (k6 : Int32 → Int32 → Int32 → Int32 → Int32 → MR → Option (Int32 × MR)) (hk6 : ∀ (x1 : Int32) (x2 : Int32) (x3 : Int32) (x4 : Int32) (x5 : Int32) (M : MR), gG p l e (rmR 5 116) s m args below meth c 9 (ZR D cI cZ q (AR q s.heap.size) s.heap M) 0 0 (fun r => MQ below (QV D cI cZ q s.heap.size r) args s 0 0 (AR q s.heap.size)) 6 [(0, .ref (q 34)), (1, .int x1), (2, .int x2), (3, .int x3), (4, .int x4), (5, .int x5)] [] (k6 x1 x2 x3 x4 x5 M)) (x1 : Int32) (x2 : Int32) (x3 : Int32) (x4 : Int32) (x5 : Int32) (x6 : Int32) (s0 : Int32) (M : MR) : gG p l e (rmR 5 116) s m args below meth c 9 (ZR D cI cZ q (AR q s.heap.size) s.heap M) 0 0 (fun r => MQ below (QV D cI cZ q s.heap.size r) args s 0 0 (AR q s.heap.size)) 107 [(0, .ref (q 34)), (1, .int x1), (2, .int x2), (3, .int x3), (4, .int x4), (5, .int x5), (6, .int x6)] [.int s0] (fR_names_b107 n k6 x1 x2 x3 x4 x5 x6 s0 M) := by
  unfold fR_names_b107
  refine g_istore (lv' := [(8, .int s0), (0, .ref (q 34)), (1, .int x1), (2, .int x2), (3, .int x3), (4, .int x4), (5, .int x5), (6, .int x6)]) X dX5_names_107 (by decide) rfl ?_
  refine g_iload_n X dX5_names_109 rfl rfl ?_
  refine g_if_eq (tgt := 175) X dX5_names_110 (by decide) ?_ ?_
  · exact g_pick [1, 2, 3, 4, 5, 6] rfl (wR_names_b175 X n k6 hk6 x1 x2 x3 x4 x5 M)
  · refine g_aload_n X dX5_names_113 rfl rfl ?_
    refine r_g_fault X dX5_names_114 ?_
    intro v1
    refine g_if_ge (tgt := 175) X dX5_names_117 (by decide) ?_ ?_
    · exact g_pick [1, 2, 3, 4, 5, 6] rfl (wR_names_b175 X n k6 hk6 x1 x2 x3 x4 x5 M)
    · refine g_iload X dX5_names_120 rfl ?_
      refine g_if_lt (tgt := 139) X dX5_names_122 (by decide) ?_ ?_
      · exact g_pick [1, 2, 3, 4, 5, 6, 7] rfl (wR_names_b139 X n k6 hk6 x1 x2 x3 x4 x5 x6 M)
      · refine g_iload X dX5_names_125 rfl ?_
        refine g_aload_n X dX5_names_127 rfl rfl ?_
        refine r_g_length X dX5_names_128 ?_
        intro v2
        refine g_aload_n X dX5_names_131 rfl rfl ?_
        refine r_g_at X dX5_names_132 ?_
        intro v3
        refine g_isub X dX5_names_135 ?_
        refine g_icmp_le (tgt := 148) X dX5_names_136 (by decide) ?_ ?_
        · refine g_aload_n X dX5_names_148 rfl rfl ?_
          refine g_aload_n X dX5_names_149 rfl rfl ?_
          refine r_g_at X dX5_names_150 ?_
          intro v4
          refine g_aload_n X dX5_names_153 rfl rfl ?_
          refine r_g_at X dX5_names_154 ?_
          intro v5
          refine g_iload X dX5_names_157 rfl ?_
          refine g_iadd X dX5_names_159 ?_
          refine g_iconst (v := (nI 1)) X dX5_names_160 (by decide) ?_
          refine k_code X ⟨Nat.le_of_ble_eq_true rfl, Nat.le_of_ble_eq_true rfl⟩ (Nat.le_of_ble_eq_true rfl) dX5_names_161 ?_
          intro v6 M6
          refine g_aload_n X dX5_names_164 rfl rfl ?_
          refine g_dup X dX5_names_165 rfl ?_
          refine r_g_at X dX5_names_166 ?_
          intro v7
          refine g_iload X dX5_names_169 rfl ?_
          refine g_iadd X dX5_names_171 ?_
          refine r_p_at X dX5_names_172 ?_
          intro M8
          exact g_pick [1, 2, 3, 4, 5, 6] rfl (wR_names_b175 X n k6 hk6 x1 x2 x3 x4 x5 M8)
        · exact g_pick [1, 2, 3, 4, 5, 6, 7] rfl (wR_names_b139 X n k6 hk6 x1 x2 x3 x4 x5 x6 M)
def fR_names_b83 (n : Nat) (k6 : Int32 → Int32 → Int32 → Int32 → Int32 → MR → Option (Int32 × MR)) (x1 : Int32) (x2 : Int32) (x3 : Int32) (x5 : Int32) (s0 : Int32) (s1 : Int32) (M : MR) : Option (Int32 × MR) :=
    gf M 8 fun v1 =>
    gf M 7 fun v2 =>
    if 0 ≤ v2 then
      (fR_names_b107 n k6 x1 x2 x3 (s0 ||| s1) x5 v1 (nI 0) M)
    else
      (bnd (fR_take n M) fun v3 M3 =>
      fR_names_b107 n k6 x1 x2 x3 (s0 ||| s1) x5 v1 v3 M3)
theorem wR_names_b83 (X : gX p s m args meth c cX5_names 9 RX5 none D (tyR cI cZ)) (n : Nat) (k6 : Int32 → Int32 → Int32 → Int32 → Int32 → MR → Option (Int32 × MR)) (hk6 : ∀ (x1 : Int32) (x2 : Int32) (x3 : Int32) (x4 : Int32) (x5 : Int32) (M : MR), gG p l e (rmR 5 116) s m args below meth c 9 (ZR D cI cZ q (AR q s.heap.size) s.heap M) 0 0 (fun r => MQ below (QV D cI cZ q s.heap.size r) args s 0 0 (AR q s.heap.size)) 6 [(0, .ref (q 34)), (1, .int x1), (2, .int x2), (3, .int x3), (4, .int x4), (5, .int x5)] [] (k6 x1 x2 x3 x4 x5 M)) (x1 : Int32) (x2 : Int32) (x3 : Int32) (x5 : Int32) (s0 : Int32) (s1 : Int32) (M : MR) : gG p l e (rmR 5 116) s m args below meth c 9 (ZR D cI cZ q (AR q s.heap.size) s.heap M) 0 0 (fun r => MQ below (QV D cI cZ q s.heap.size r) args s 0 0 (AR q s.heap.size)) 83 [(0, .ref (q 34)), (1, .int x1), (2, .int x2), (3, .int x3), (5, .int x5)] [.int s1, .int s0] (fR_names_b83 n k6 x1 x2 x3 x5 s0 s1 M) := by
  unfold fR_names_b83
  refine g_ior X dX5_names_83 ?_
  refine g_istore (lv' := [(4, .int (s0 ||| s1)), (0, .ref (q 34)), (1, .int x1), (2, .int x2), (3, .int x3), (5, .int x5)]) X dX5_names_84 (by decide) rfl ?_
  refine g_aload_n X dX5_names_86 rfl rfl ?_
  refine r_g_at X dX5_names_87 ?_
  intro v1
  refine g_istore (lv' := [(6, .int v1), (4, .int (s0 ||| s1)), (0, .ref (q 34)), (1, .int x1), (2, .int x2), (3, .int x3), (5, .int x5)]) X dX5_names_90 (by decide) rfl ?_
  refine g_aload_n X dX5_names_92 rfl rfl ?_
  refine r_g_fault X dX5_names_93 ?_
  intro v2
  refine g_if_ge (tgt := 106) X dX5_names_96 (by decide) ?_ ?_
  · refine g_iconst (v := (nI 0)) X dX5_names_106 (by decide) ?_
    exact g_pick [2, 3, 4, 5, 1, 6, 0] rfl (wR_names_b107 X n k6 hk6 x1 x2 x3 (s0 ||| s1) x5 v1 (nI 0) M)
  · refine g_aload_n X dX5_names_99 rfl rfl ?_
    refine k_take X ⟨Nat.le_of_ble_eq_true rfl, Nat.le_of_ble_eq_true rfl⟩ (Nat.le_of_ble_eq_true rfl) dX5_names_100 ?_
    intro v3 M3
    refine g_goto (tgt := 107) X dX5_names_103 (by decide) ?_
    exact g_pick [2, 3, 4, 5, 1, 6, 0] rfl (wR_names_b107 X n k6 hk6 x1 x2 x3 (s0 ||| s1) x5 v1 v3 M3)
def fR_names_b66 (n : Nat) (k6 : Int32 → Int32 → Int32 → Int32 → Int32 → MR → Option (Int32 × MR)) (x1 : Int32) (x2 : Int32) (x3 : Int32) (x4 : Int32) (x5 : Int32) (x7 : Int32) (M : MR) : Option (Int32 × MR) :=
    gf M 7 fun v1 =>
    if 0 ≤ v1 then
      (fR_names_b83 n k6 x1 x2 x3 x5 x4 (nI 0) M)
    else
      (fR_names_b83 n k6 x1 x2 x3 x5 x4 ((nI 1) <<< (x7 &&& 31)) M)
theorem wR_names_b66 (X : gX p s m args meth c cX5_names 9 RX5 none D (tyR cI cZ)) (n : Nat) (k6 : Int32 → Int32 → Int32 → Int32 → Int32 → MR → Option (Int32 × MR)) (hk6 : ∀ (x1 : Int32) (x2 : Int32) (x3 : Int32) (x4 : Int32) (x5 : Int32) (M : MR), gG p l e (rmR 5 116) s m args below meth c 9 (ZR D cI cZ q (AR q s.heap.size) s.heap M) 0 0 (fun r => MQ below (QV D cI cZ q s.heap.size r) args s 0 0 (AR q s.heap.size)) 6 [(0, .ref (q 34)), (1, .int x1), (2, .int x2), (3, .int x3), (4, .int x4), (5, .int x5)] [] (k6 x1 x2 x3 x4 x5 M)) (x1 : Int32) (x2 : Int32) (x3 : Int32) (x4 : Int32) (x5 : Int32) (x7 : Int32) (M : MR) : gG p l e (rmR 5 116) s m args below meth c 9 (ZR D cI cZ q (AR q s.heap.size) s.heap M) 0 0 (fun r => MQ below (QV D cI cZ q s.heap.size r) args s 0 0 (AR q s.heap.size)) 66 [(0, .ref (q 34)), (1, .int x1), (2, .int x2), (3, .int x3), (4, .int x4), (5, .int x5), (7, .int x7)] [] (fR_names_b66 n k6 x1 x2 x3 x4 x5 x7 M) := by
  unfold fR_names_b66
  refine g_iload X dX5_names_66 rfl ?_
  refine g_aload_n X dX5_names_68 rfl rfl ?_
  refine r_g_fault X dX5_names_69 ?_
  intro v1
  refine g_if_ge (tgt := 82) X dX5_names_72 (by decide) ?_ ?_
  · refine g_iconst (v := (nI 0)) X dX5_names_82 (by decide) ?_
    exact g_pick [0, 1, 2, 3, 5] rfl (wR_names_b83 X n k6 hk6 x1 x2 x3 x5 x4 (nI 0) M)
  · refine g_iconst (v := (nI 1)) X dX5_names_75 (by decide) ?_
    refine g_iload X dX5_names_76 rfl ?_
    refine g_ishl X dX5_names_78 ?_
    refine g_goto (tgt := 83) X dX5_names_79 (by decide) ?_
    exact g_pick [0, 1, 2, 3, 5] rfl (wR_names_b83 X n k6 hk6 x1 x2 x3 x5 x4 ((nI 1) <<< (x7 &&& 31)) M)
def fR_names_b60 (n : Nat) (k6 : Int32 → Int32 → Int32 → Int32 → Int32 → MR → Option (Int32 × MR)) (x1 : Int32) (x2 : Int32) (x3 : Int32) (x4 : Int32) (x5 : Int32) (x6 : Int32) (x7 : Int32) (M : MR) : Option (Int32 × MR) :=
    bnd (fR_wrong n x6 M) fun _ M1 =>
    fR_names_b66 n k6 x1 x2 x3 x4 x5 x7 M1
theorem wR_names_b60 (X : gX p s m args meth c cX5_names 9 RX5 none D (tyR cI cZ)) (n : Nat) (k6 : Int32 → Int32 → Int32 → Int32 → Int32 → MR → Option (Int32 × MR)) (hk6 : ∀ (x1 : Int32) (x2 : Int32) (x3 : Int32) (x4 : Int32) (x5 : Int32) (M : MR), gG p l e (rmR 5 116) s m args below meth c 9 (ZR D cI cZ q (AR q s.heap.size) s.heap M) 0 0 (fun r => MQ below (QV D cI cZ q s.heap.size r) args s 0 0 (AR q s.heap.size)) 6 [(0, .ref (q 34)), (1, .int x1), (2, .int x2), (3, .int x3), (4, .int x4), (5, .int x5)] [] (k6 x1 x2 x3 x4 x5 M)) (x1 : Int32) (x2 : Int32) (x3 : Int32) (x4 : Int32) (x5 : Int32) (x6 : Int32) (x7 : Int32) (M : MR) : gG p l e (rmR 5 116) s m args below meth c 9 (ZR D cI cZ q (AR q s.heap.size) s.heap M) 0 0 (fun r => MQ below (QV D cI cZ q s.heap.size r) args s 0 0 (AR q s.heap.size)) 60 [(0, .ref (q 34)), (1, .int x1), (2, .int x2), (3, .int x3), (4, .int x4), (5, .int x5), (6, .int x6), (7, .int x7)] [] (fR_names_b60 n k6 x1 x2 x3 x4 x5 x6 x7 M) := by
  unfold fR_names_b60
  refine g_aload_n X dX5_names_60 rfl rfl ?_
  refine g_iload X dX5_names_61 rfl ?_
  refine k_wrong X ⟨Nat.le_of_ble_eq_true rfl, Nat.le_of_ble_eq_true rfl⟩ (Nat.le_of_ble_eq_true rfl) dX5_names_63 ?_
  intro v1 M1
  exact g_pick [0, 1, 2, 3, 4, 5, 7] rfl (wR_names_b66 X n k6 hk6 x1 x2 x3 x4 x5 x7 M1)
def fR_names_l6 (n : Nat) : Nat → Int32 → Int32 → Int32 → Int32 → Int32 → MR → Option (Int32 × MR)
  | 0, _, _, _, _, _, _ => none
  | k + 1, x1, x2, x3, x4, x5, M => if x1 ≤ x5 then
      (some (0, M))
    else
      (gf M 7 fun v1 =>
      if 0 ≤ v1 then
        (some (0, M))
      else
        (gf M 8 fun v2 =>
        bnd (fR_take n M) fun v3 M3 =>
        gf M3 7 fun v4 =>
        if 0 ≤ v4 then
          (fR_names_b66 n (fR_names_l6 n k) x1 x2 x3 x4 x5 v3 M3)
        else
          (if v3 < 0 then
            (fR_names_b60 n (fR_names_l6 n k) x1 x2 x3 x4 x5 v2 v3 M3)
          else
            (if x2 < v3 then
              (fR_names_b60 n (fR_names_l6 n k) x1 x2 x3 x4 x5 v2 v3 M3)
            else
              (if ((x4 >>> (v3 &&& 31)) &&& (nI 1)) = (nI 1) then
                (fR_names_b60 n (fR_names_l6 n k) x1 x2 x3 x4 x5 v2 v3 M3)
              else
                (fR_names_b66 n (fR_names_l6 n k) x1 x2 x3 x4 x5 v3 M3))))))
theorem wR_names_l6 (X : gX p s m args meth c cX5_names 9 RX5 none D (tyR cI cZ)) (n : Nat) : ∀ (k : Nat) (x1 : Int32) (x2 : Int32) (x3 : Int32) (x4 : Int32) (x5 : Int32) (M : MR), gG p l e (rmR 5 116) s m args below meth c 9 (ZR D cI cZ q (AR q s.heap.size) s.heap M) 0 0 (fun r => MQ below (QV D cI cZ q s.heap.size r) args s 0 0 (AR q s.heap.size)) 6 [(0, .ref (q 34)), (1, .int x1), (2, .int x2), (3, .int x3), (4, .int x4), (5, .int x5)] [] (fR_names_l6 n k x1 x2 x3 x4 x5 M) := by
  intro k
  induction k with
  | zero =>
    intro x1 x2 x3 x4 x5 M
    exact g_none
  | succ k ih =>
    intro x1 x2 x3 x4 x5 M
    rw [fR_names_l6]
    refine g_iload X dX5_names_6 rfl ?_
    refine g_iload_n X dX5_names_8 rfl rfl ?_
    refine g_icmp_ge (tgt := 181) X dX5_names_9 (by decide) ?_ ?_
    · exact r_vret X dX5_names_181
    · refine g_aload_n X dX5_names_12 rfl rfl ?_
      refine r_g_fault X dX5_names_13 ?_
      intro v1
      refine g_if_ge (tgt := 181) X dX5_names_16 (by decide) ?_ ?_
      · exact r_vret X dX5_names_181
      · refine g_aload_n X dX5_names_19 rfl rfl ?_
        refine r_g_at X dX5_names_20 ?_
        intro v2
        refine g_istore (lv' := [(6, .int v2), (0, .ref (q 34)), (1, .int x1), (2, .int x2), (3, .int x3), (4, .int x4), (5, .int x5)]) X dX5_names_23 (by decide) rfl ?_
        refine g_aload_n X dX5_names_25 rfl rfl ?_
        refine k_take X ⟨Nat.le_of_ble_eq_true rfl, Nat.le_of_ble_eq_true rfl⟩ (Nat.le_of_ble_eq_true rfl) dX5_names_26 ?_
        intro v3 M3
        refine g_istore (lv' := [(7, .int v3), (6, .int v2), (0, .ref (q 34)), (1, .int x1), (2, .int x2), (3, .int x3), (4, .int x4), (5, .int x5)]) X dX5_names_29 (by decide) rfl ?_
        refine g_aload_n X dX5_names_31 rfl rfl ?_
        refine r_g_fault X dX5_names_32 ?_
        intro v4
        refine g_if_ge (tgt := 66) X dX5_names_35 (by decide) ?_ ?_
        · exact g_pick [2, 3, 4, 5, 6, 7, 0] rfl (wR_names_b66 X n (fR_names_l6 n k) ih x1 x2 x3 x4 x5 v3 M3)
        · refine g_iload X dX5_names_38 rfl ?_
          refine g_if_lt (tgt := 60) X dX5_names_40 (by decide) ?_ ?_
          · exact g_pick [2, 3, 4, 5, 6, 7, 1, 0] rfl (wR_names_b60 X n (fR_names_l6 n k) ih x1 x2 x3 x4 x5 v2 v3 M3)
          · refine g_iload X dX5_names_43 rfl ?_
            refine g_iload_n X dX5_names_45 rfl rfl ?_
            refine g_icmp_gt (tgt := 60) X dX5_names_46 (by decide) ?_ ?_
            · exact g_pick [2, 3, 4, 5, 6, 7, 1, 0] rfl (wR_names_b60 X n (fR_names_l6 n k) ih x1 x2 x3 x4 x5 v2 v3 M3)
            · refine g_iload X dX5_names_49 rfl ?_
              refine g_iload X dX5_names_51 rfl ?_
              refine g_ishr X dX5_names_53 ?_
              refine g_iconst (v := (nI 1)) X dX5_names_54 (by decide) ?_
              refine g_iand X dX5_names_55 ?_
              refine g_iconst (v := (nI 1)) X dX5_names_56 (by decide) ?_
              refine g_icmp_ne (tgt := 66) X dX5_names_57 (by decide) ?_ ?_
              · exact g_pick [2, 3, 4, 5, 6, 7, 0] rfl (wR_names_b66 X n (fR_names_l6 n k) ih x1 x2 x3 x4 x5 v3 M3)
              · exact g_pick [2, 3, 4, 5, 6, 7, 1, 0] rfl (wR_names_b60 X n (fR_names_l6 n k) ih x1 x2 x3 x4 x5 v2 v3 M3)
def fR_names (n : Nat) (x1 : Int32) (x2 : Int32) (x3 : Int32) (M : MR) : Option (Int32 × MR) :=
    fR_names_l6 n n x1 x2 x3 (nI 0) (nI 0) M
theorem c_names (l : Launch) (D : va_G) (cI cZ : ClassId) (q : Nat → Nat) (n : Nat) (x1 : Int32) (x2 : Int32) (x3 : Int32) (M : MR) : MetR l D cI cZ q yX5_names cX5_names 9 none 5 116 QV [.ref (q 34), .int x1, .int x2, .int x3] M (fR_names n x1 x2 x3 M) := by
  refine MetR.of (by decide) rfl (Nat.le_of_ble_eq_true rfl) ?_
  intro p e s m args below meth c X
  unfold fR_names
  refine g_pick (lv' := [(0, .ref (q 34)), (1, .int x1), (2, .int x2), (3, .int x3)]) [0, 1, 2, 3] rfl ?_
  refine g_iconst (v := (nI 0)) X dX5_names_0 (by decide) ?_
  refine g_istore (lv' := [(4, .int (nI 0)), (0, .ref (q 34)), (1, .int x1), (2, .int x2), (3, .int x3)]) X dX5_names_1 (by decide) rfl ?_
  refine g_iconst (v := (nI 0)) X dX5_names_3 (by decide) ?_
  refine g_istore (lv' := [(5, .int (nI 0)), (4, .int (nI 0)), (0, .ref (q 34)), (1, .int x1), (2, .int x2), (3, .int x3)]) X dX5_names_4 (by decide) rfl ?_
  exact g_pick [2, 3, 4, 5, 1, 0] rfl (wR_names_l6 X n n x1 x2 x3 (nI 0) (nI 0) M)
theorem tc_names : Cond.code yX5_names cX5_names 9 none ∈ tt := tt_in (List.mem_of_getElem? (i := 937) (by decide +kernel)) (by decide +kernel)
theorem tl_names : Cond.methodLink RX5 122 yX5_names ∈ tt := tt_in (List.mem_of_getElem? (i := 934) (by decide +kernel)) (by decide +kernel)
theorem ti_names : Cond.instanceMethod yX5_names ∈ tt := tt_in (List.mem_of_getElem? (i := 936) (by decide +kernel)) (by decide +kernel)
theorem te_names : Cond.selects RX5 yX5_names yX5_names ∈ tt := tt_in (List.mem_of_getElem? (i := 46) (by decide +kernel)) (by decide +kernel)
theorem k_names (X : gX p s m args meth c cc nL RX5 rt D (tyR cI cZ)) {n : Nat} {x1 : Int32} {x2 : Int32} {x3 : Int32} {M : MR} {rest : List Value} {K : Int32 → MR → Option ρ} (hR : 5 + 1 ≤ R.frames ∧ 8 + (9 + 11) + 116 ≤ R.locals) (hcat : (rest.map fun v => v.category).sum ≤ 8) (d : decode cc pc = .ok (.invokevirtual 122, 3)) (kk : ∀ v M1, gG p l e R s m args below meth c nL (ZR D cI cZ q (AR q s.heap.size) s.heap M1) 0 0 QQ (pc + 3) lv (rest) (K v M1)) : gG p l e R s m args below meth c nL (ZR D cI cZ q (AR q s.heap.size) s.heap M) 0 0 QQ pc lv (.int x3 :: .int x2 :: .int x1 :: .ref (q 34) :: rest) (bnd (fR_names n x1 x2 x3 M) K) := r_callVv (As := [.int x1, .int x2, .int x3]) X (c_names l D cI cZ q n x1 x2 x3 M) (cwVR (k := 3) X.2.2.2.2.1 tl_names ti_names te_names tc_names ini5 (by decide +kernel) hR) rfl rfl hcat d kk
-- classText
def fR_classText_b129 (n : Nat) (x3 : Int32) (M : MR) : Option (Int32 × MR) :=
    bnd (fR_names n x3 (nI 4) (nI 1) M) fun _ M1 =>
    gf M1 7 fun v2 =>
    if 0 ≤ v2 then
      (some (0, M1))
    else
      (gf M1 8 fun v3 =>
      gf M1 6 fun v4 =>
      if v4 ≤ v3 then
        (some (0, M1))
      else
        (gf M1 8 fun v5 =>
        gf M1 6 fun v6 =>
        bnd (fR_code n v5 v6 (nI 0) M1) fun _ M7 =>
        some (0, M7)))
theorem wR_classText_b129 (X : gX p s m args meth c cX5_classText 4 RX5 none D (tyR cI cZ)) (n : Nat) (x3 : Int32) (M : MR) : gG p l e (rmR 6 144) s m args below meth c 4 (ZR D cI cZ q (AR q s.heap.size) s.heap M) 0 0 (fun r => MQ below (QV D cI cZ q s.heap.size r) args s 0 0 (AR q s.heap.size)) 129 [(0, .ref (q 34)), (3, .int x3)] [] (fR_classText_b129 n x3 M) := by
  unfold fR_classText_b129
  refine g_aload_n X dX5_classText_129 rfl rfl ?_
  refine g_iload_n X dX5_classText_130 rfl rfl ?_
  refine g_iconst (v := (nI 4)) X dX5_classText_131 (by decide) ?_
  refine g_iconst (v := (nI 1)) X dX5_classText_132 (by decide) ?_
  refine k_names X ⟨Nat.le_of_ble_eq_true rfl, Nat.le_of_ble_eq_true rfl⟩ (Nat.le_of_ble_eq_true rfl) dX5_classText_133 ?_
  intro v1 M1
  refine g_aload_n X dX5_classText_136 rfl rfl ?_
  refine r_g_fault X dX5_classText_137 ?_
  intro v2
  refine g_if_ge (tgt := 167) X dX5_classText_140 (by decide) ?_ ?_
  · exact r_vret X dX5_classText_167
  · refine g_aload_n X dX5_classText_143 rfl rfl ?_
    refine r_g_at X dX5_classText_144 ?_
    intro v3
    refine g_aload_n X dX5_classText_147 rfl rfl ?_
    refine r_g_length X dX5_classText_148 ?_
    intro v4
    refine g_icmp_ge (tgt := 167) X dX5_classText_151 (by decide) ?_ ?_
    · exact r_vret X dX5_classText_167
    · refine g_aload_n X dX5_classText_154 rfl rfl ?_
      refine g_aload_n X dX5_classText_155 rfl rfl ?_
      refine r_g_at X dX5_classText_156 ?_
      intro v5
      refine g_aload_n X dX5_classText_159 rfl rfl ?_
      refine r_g_length X dX5_classText_160 ?_
      intro v6
      refine g_iconst (v := (nI 0)) X dX5_classText_163 (by decide) ?_
      refine k_code X ⟨Nat.le_of_ble_eq_true rfl, Nat.le_of_ble_eq_true rfl⟩ (Nat.le_of_ble_eq_true rfl) dX5_classText_164 ?_
      intro v7 M7
      exact r_vret X dX5_classText_167
def fR_classText_b124 (n : Nat) (x2 : Int32) (x3 : Int32) (M : MR) : Option (Int32 × MR) :=
    bnd (fR_wrong n x2 M) fun _ M1 =>
    fR_classText_b129 n x3 M1
theorem wR_classText_b124 (X : gX p s m args meth c cX5_classText 4 RX5 none D (tyR cI cZ)) (n : Nat) (x2 : Int32) (x3 : Int32) (M : MR) : gG p l e (rmR 6 144) s m args below meth c 4 (ZR D cI cZ q (AR q s.heap.size) s.heap M) 0 0 (fun r => MQ below (QV D cI cZ q s.heap.size r) args s 0 0 (AR q s.heap.size)) 124 [(0, .ref (q 34)), (2, .int x2), (3, .int x3)] [] (fR_classText_b124 n x2 x3 M) := by
  unfold fR_classText_b124
  refine g_aload_n X dX5_classText_124 rfl rfl ?_
  refine g_iload_n X dX5_classText_125 rfl rfl ?_
  refine k_wrong X ⟨Nat.le_of_ble_eq_true rfl, Nat.le_of_ble_eq_true rfl⟩ (Nat.le_of_ble_eq_true rfl) dX5_classText_126 ?_
  intro v1 M1
  exact g_pick [0, 2] rfl (wR_classText_b129 X n x3 M1)
def fR_classText_b107 (n : Nat) (x2 : Int32) (s0 : Int32) (M : MR) : Option (Int32 × MR) :=
    gf M 7 fun v1 =>
    if 0 ≤ v1 then
      (fR_classText_b129 n s0 M)
    else
      (if s0 < 0 then
        (fR_classText_b124 n x2 s0 M)
      else
        (if s0 ≤ (nI 3) then (fR_classText_b129 n s0 M) else (fR_classText_b124 n x2 s0 M)))
theorem wR_classText_b107 (X : gX p s m args meth c cX5_classText 4 RX5 none D (tyR cI cZ)) (n : Nat) (x2 : Int32) (s0 : Int32) (M : MR) : gG p l e (rmR 6 144) s m args below meth c 4 (ZR D cI cZ q (AR q s.heap.size) s.heap M) 0 0 (fun r => MQ below (QV D cI cZ q s.heap.size r) args s 0 0 (AR q s.heap.size)) 107 [(0, .ref (q 34)), (2, .int x2)] [.int s0] (fR_classText_b107 n x2 s0 M) := by
  unfold fR_classText_b107
  refine g_istore_n (lv' := [(3, .int s0), (0, .ref (q 34)), (2, .int x2)]) X dX5_classText_107 rfl (by decide) rfl ?_
  refine g_aload_n X dX5_classText_108 rfl rfl ?_
  refine r_g_fault X dX5_classText_109 ?_
  intro v1
  refine g_if_ge (tgt := 129) X dX5_classText_112 (by decide) ?_ ?_
  · exact g_pick [1, 0] rfl (wR_classText_b129 X n s0 M)
  · refine g_iload_n X dX5_classText_115 rfl rfl ?_
    refine g_if_lt (tgt := 124) X dX5_classText_116 (by decide) ?_ ?_
    · exact g_pick [1, 2, 0] rfl (wR_classText_b124 X n x2 s0 M)
    · refine g_iload_n X dX5_classText_119 rfl rfl ?_
      refine g_iconst (v := (nI 3)) X dX5_classText_120 (by decide) ?_
      refine g_icmp_le (tgt := 129) X dX5_classText_121 (by decide) ?_ ?_
      · exact g_pick [1, 0] rfl (wR_classText_b129 X n s0 M)
      · exact g_pick [1, 2, 0] rfl (wR_classText_b124 X n x2 s0 M)
def fR_classText_b79 (n : Nat) (x3 : Int32) (M : MR) : Option (Int32 × MR) :=
    bnd (fR_names n x3 (nI 9) (nI 0) M) fun _ M1 =>
    gf M1 8 fun v2 =>
    gf M1 7 fun v3 =>
    if 0 ≤ v3 then
      (fR_classText_b107 n v2 (nI 0) M1)
    else
      (bnd (fR_take n M1) fun v4 M4 =>
      fR_classText_b107 n v2 v4 M4)
theorem wR_classText_b79 (X : gX p s m args meth c cX5_classText 4 RX5 none D (tyR cI cZ)) (n : Nat) (x3 : Int32) (M : MR) : gG p l e (rmR 6 144) s m args below meth c 4 (ZR D cI cZ q (AR q s.heap.size) s.heap M) 0 0 (fun r => MQ below (QV D cI cZ q s.heap.size r) args s 0 0 (AR q s.heap.size)) 79 [(0, .ref (q 34)), (3, .int x3)] [] (fR_classText_b79 n x3 M) := by
  unfold fR_classText_b79
  refine g_aload_n X dX5_classText_79 rfl rfl ?_
  refine g_iload_n X dX5_classText_80 rfl rfl ?_
  refine g_bipush (v := (nI 9)) X dX5_classText_81 (by decide) ?_
  refine g_iconst (v := (nI 0)) X dX5_classText_83 (by decide) ?_
  refine k_names X ⟨Nat.le_of_ble_eq_true rfl, Nat.le_of_ble_eq_true rfl⟩ (Nat.le_of_ble_eq_true rfl) dX5_classText_84 ?_
  intro v1 M1
  refine g_aload_n X dX5_classText_87 rfl rfl ?_
  refine r_g_at X dX5_classText_88 ?_
  intro v2
  refine g_istore_n (lv' := [(2, .int v2), (0, .ref (q 34)), (3, .int x3)]) X dX5_classText_91 rfl (by decide) rfl ?_
  refine g_aload_n X dX5_classText_92 rfl rfl ?_
  refine r_g_fault X dX5_classText_93 ?_
  intro v3
  refine g_if_ge (tgt := 106) X dX5_classText_96 (by decide) ?_ ?_
  · refine g_iconst (v := (nI 0)) X dX5_classText_106 (by decide) ?_
    exact g_pick [1, 0] rfl (wR_classText_b107 X n v2 (nI 0) M1)
  · refine g_aload_n X dX5_classText_99 rfl rfl ?_
    refine k_take X ⟨Nat.le_of_ble_eq_true rfl, Nat.le_of_ble_eq_true rfl⟩ (Nat.le_of_ble_eq_true rfl) dX5_classText_100 ?_
    intro v4 M4
    refine g_goto (tgt := 107) X dX5_classText_103 (by decide) ?_
    exact g_pick [1, 0] rfl (wR_classText_b107 X n v2 v4 M4)
def fR_classText_b74 (n : Nat) (x2 : Int32) (x3 : Int32) (M : MR) : Option (Int32 × MR) :=
    bnd (fR_wrong n x2 M) fun _ M1 =>
    fR_classText_b79 n x3 M1
theorem wR_classText_b74 (X : gX p s m args meth c cX5_classText 4 RX5 none D (tyR cI cZ)) (n : Nat) (x2 : Int32) (x3 : Int32) (M : MR) : gG p l e (rmR 6 144) s m args below meth c 4 (ZR D cI cZ q (AR q s.heap.size) s.heap M) 0 0 (fun r => MQ below (QV D cI cZ q s.heap.size r) args s 0 0 (AR q s.heap.size)) 74 [(0, .ref (q 34)), (2, .int x2), (3, .int x3)] [] (fR_classText_b74 n x2 x3 M) := by
  unfold fR_classText_b74
  refine g_aload_n X dX5_classText_74 rfl rfl ?_
  refine g_iload_n X dX5_classText_75 rfl rfl ?_
  refine k_wrong X ⟨Nat.le_of_ble_eq_true rfl, Nat.le_of_ble_eq_true rfl⟩ (Nat.le_of_ble_eq_true rfl) dX5_classText_76 ?_
  intro v1 M1
  exact g_pick [0, 2] rfl (wR_classText_b79 X n x3 M1)
def fR_classText_b57 (n : Nat) (x2 : Int32) (s0 : Int32) (M : MR) : Option (Int32 × MR) :=
    gf M 7 fun v1 =>
    if 0 ≤ v1 then
      (fR_classText_b79 n s0 M)
    else
      (if s0 < 0 then
        (fR_classText_b74 n x2 s0 M)
      else
        (if s0 ≤ (nI 4) then (fR_classText_b79 n s0 M) else (fR_classText_b74 n x2 s0 M)))
theorem wR_classText_b57 (X : gX p s m args meth c cX5_classText 4 RX5 none D (tyR cI cZ)) (n : Nat) (x2 : Int32) (s0 : Int32) (M : MR) : gG p l e (rmR 6 144) s m args below meth c 4 (ZR D cI cZ q (AR q s.heap.size) s.heap M) 0 0 (fun r => MQ below (QV D cI cZ q s.heap.size r) args s 0 0 (AR q s.heap.size)) 57 [(0, .ref (q 34)), (2, .int x2)] [.int s0] (fR_classText_b57 n x2 s0 M) := by
  unfold fR_classText_b57
  refine g_istore_n (lv' := [(3, .int s0), (0, .ref (q 34)), (2, .int x2)]) X dX5_classText_57 rfl (by decide) rfl ?_
  refine g_aload_n X dX5_classText_58 rfl rfl ?_
  refine r_g_fault X dX5_classText_59 ?_
  intro v1
  refine g_if_ge (tgt := 79) X dX5_classText_62 (by decide) ?_ ?_
  · exact g_pick [1, 0] rfl (wR_classText_b79 X n s0 M)
  · refine g_iload_n X dX5_classText_65 rfl rfl ?_
    refine g_if_lt (tgt := 74) X dX5_classText_66 (by decide) ?_ ?_
    · exact g_pick [1, 2, 0] rfl (wR_classText_b74 X n x2 s0 M)
    · refine g_iload_n X dX5_classText_69 rfl rfl ?_
      refine g_iconst (v := (nI 4)) X dX5_classText_70 (by decide) ?_
      refine g_icmp_le (tgt := 79) X dX5_classText_71 (by decide) ?_ ?_
      · exact g_pick [1, 0] rfl (wR_classText_b79 X n s0 M)
      · exact g_pick [1, 2, 0] rfl (wR_classText_b74 X n x2 s0 M)
def fR_classText_b37 (n : Nat) (M : MR) : Option (Int32 × MR) :=
    gf M 8 fun v1 =>
    gf M 7 fun v2 =>
    if 0 ≤ v2 then
      (fR_classText_b57 n v1 (nI 0) M)
    else
      (bnd (fR_take n M) fun v3 M3 =>
      fR_classText_b57 n v1 v3 M3)
theorem wR_classText_b37 (X : gX p s m args meth c cX5_classText 4 RX5 none D (tyR cI cZ)) (n : Nat) (M : MR) : gG p l e (rmR 6 144) s m args below meth c 4 (ZR D cI cZ q (AR q s.heap.size) s.heap M) 0 0 (fun r => MQ below (QV D cI cZ q s.heap.size r) args s 0 0 (AR q s.heap.size)) 37 [(0, .ref (q 34))] [] (fR_classText_b37 n M) := by
  unfold fR_classText_b37
  refine g_aload_n X dX5_classText_37 rfl rfl ?_
  refine r_g_at X dX5_classText_38 ?_
  intro v1
  refine g_istore_n (lv' := [(2, .int v1), (0, .ref (q 34))]) X dX5_classText_41 rfl (by decide) rfl ?_
  refine g_aload_n X dX5_classText_42 rfl rfl ?_
  refine r_g_fault X dX5_classText_43 ?_
  intro v2
  refine g_if_ge (tgt := 56) X dX5_classText_46 (by decide) ?_ ?_
  · refine g_iconst (v := (nI 0)) X dX5_classText_56 (by decide) ?_
    exact g_pick [1, 0] rfl (wR_classText_b57 X n v1 (nI 0) M)
  · refine g_aload_n X dX5_classText_49 rfl rfl ?_
    refine k_take X ⟨Nat.le_of_ble_eq_true rfl, Nat.le_of_ble_eq_true rfl⟩ (Nat.le_of_ble_eq_true rfl) dX5_classText_50 ?_
    intro v3 M3
    refine g_goto (tgt := 57) X dX5_classText_53 (by decide) ?_
    exact g_pick [1, 0] rfl (wR_classText_b57 X n v1 v3 M3)
def fR_classText (n : Nat) (M : MR) : Option (Int32 × MR) :=
    pf M 8 (nI 0) fun M1 =>
    bnd (fR_take n M1) fun v2 M2 =>
    gf M2 7 fun v3 =>
    if 0 ≤ v3 then
      (fR_classText_b37 n M2)
    else
      (if v2 = (-1 : Int32) then
        (fR_classText_b37 n M2)
      else
        (bnd (fR_means n (nI 0) v2 (nI 1) M2) fun v4 M4 =>
        if v4 = 0 then
          (bnd (fR_wrong n (nI 0) M4) fun _ M5 =>
          fR_classText_b37 n M5)
        else
          (fR_classText_b37 n M4)))
theorem c_classText (l : Launch) (D : va_G) (cI cZ : ClassId) (q : Nat → Nat) (n : Nat) (M : MR) : MetR l D cI cZ q yX5_classText cX5_classText 4 none 6 144 QV [.ref (q 34)] M (fR_classText n M) := by
  refine MetR.of (by decide) rfl (Nat.le_of_ble_eq_true rfl) ?_
  intro p e s m args below meth c X
  unfold fR_classText
  refine g_pick (lv' := [(0, .ref (q 34))]) [0] rfl ?_
  refine g_aload_n X dX5_classText_0 rfl rfl ?_
  refine g_iconst (v := (nI 0)) X dX5_classText_1 (by decide) ?_
  refine r_p_at X dX5_classText_2 ?_
  intro M1
  refine g_aload_n X dX5_classText_5 rfl rfl ?_
  refine k_take X ⟨Nat.le_of_ble_eq_true rfl, Nat.le_of_ble_eq_true rfl⟩ (Nat.le_of_ble_eq_true rfl) dX5_classText_6 ?_
  intro v2 M2
  refine g_istore_n (lv' := [(1, .int v2), (0, .ref (q 34))]) X dX5_classText_9 rfl (by decide) rfl ?_
  refine g_aload_n X dX5_classText_10 rfl rfl ?_
  refine r_g_fault X dX5_classText_11 ?_
  intro v3
  refine g_if_ge (tgt := 37) X dX5_classText_14 (by decide) ?_ ?_
  · exact g_pick [1] rfl (wR_classText_b37 X n M2)
  · refine g_iload_n X dX5_classText_17 rfl rfl ?_
    refine g_iconst (v := (-1 : Int32)) X dX5_classText_18 (by decide) ?_
    refine g_icmp_eq (tgt := 37) X dX5_classText_19 (by decide) ?_ ?_
    · exact g_pick [1] rfl (wR_classText_b37 X n M2)
    · refine g_aload_n X dX5_classText_22 rfl rfl ?_
      refine g_iconst (v := (nI 0)) X dX5_classText_23 (by decide) ?_
      refine g_iload_n X dX5_classText_24 rfl rfl ?_
      refine g_iconst (v := (nI 1)) X dX5_classText_25 (by decide) ?_
      refine k_means X ⟨Nat.le_of_ble_eq_true rfl, Nat.le_of_ble_eq_true rfl⟩ (Nat.le_of_ble_eq_true rfl) dX5_classText_26 ?_
      intro v4 M4
      refine g_if_ne (tgt := 37) X dX5_classText_29 (by decide) ?_ ?_
      · exact g_pick [1] rfl (wR_classText_b37 X n M4)
      · refine g_aload_n X dX5_classText_32 rfl rfl ?_
        refine g_iconst (v := (nI 0)) X dX5_classText_33 (by decide) ?_
        refine k_wrong X ⟨Nat.le_of_ble_eq_true rfl, Nat.le_of_ble_eq_true rfl⟩ (Nat.le_of_ble_eq_true rfl) dX5_classText_34 ?_
        intro v5 M5
        exact g_pick [1] rfl (wR_classText_b37 X n M5)
theorem tc_classText : Cond.code yX5_classText cX5_classText 4 none ∈ tt := tt_in (List.mem_of_getElem? (i := 929) (by decide +kernel)) (by decide +kernel)
theorem tl_classText : Cond.methodLink RX5 125 yX5_classText ∈ tt := tt_in (List.mem_of_getElem? (i := 926) (by decide +kernel)) (by decide +kernel)
theorem ti_classText : Cond.instanceMethod yX5_classText ∈ tt := tt_in (List.mem_of_getElem? (i := 928) (by decide +kernel)) (by decide +kernel)
theorem te_classText : Cond.selects RX5 yX5_classText yX5_classText ∈ tt := tt_in (List.mem_of_getElem? (i := 44) (by decide +kernel)) (by decide +kernel)
theorem k_classText (X : gX p s m args meth c cc nL RX5 rt D (tyR cI cZ)) {n : Nat} {M : MR} {rest : List Value} {K : Int32 → MR → Option ρ} (hR : 6 + 1 ≤ R.frames ∧ 8 + (4 + 11) + 144 ≤ R.locals) (hcat : (rest.map fun v => v.category).sum ≤ 8) (d : decode cc pc = .ok (.invokevirtual 125, 3)) (kk : ∀ v M1, gG p l e R s m args below meth c nL (ZR D cI cZ q (AR q s.heap.size) s.heap M1) 0 0 QQ (pc + 3) lv (rest) (K v M1)) : gG p l e R s m args below meth c nL (ZR D cI cZ q (AR q s.heap.size) s.heap M) 0 0 QQ pc lv (.ref (q 34) :: rest) (bnd (fR_classText n M) K) := r_callVv (As := []) X (c_classText l D cI cZ q n M) (cwVR (k := 0) X.2.2.2.2.1 tl_classText ti_classText te_classText tc_classText ini5 (by decide +kernel) hR) rfl rfl hcat d kk
-- looked
def fR_looked_l29 (n : Nat) : Nat → Int32 → Int32 → MR → Option (Int32 × MR)
  | 0, _, _, _ => none
  | k + 1, x1, x2, M => gf M 6 fun v1 =>
    if v1 ≤ x2 then
      (if x1 = 0 then
        (gf M 6 fun v4 =>
        bnd (fR_code n (nI 0) v4 (nI 0) M) fun _ M5 =>
        gf M5 7 fun v6 =>
        some (v6, M5))
      else
        (bnd (fR_classText n M) fun _ M2 =>
        gf M2 7 fun v3 =>
        some (v3, M2)))
    else
      (rd M 4 60 x2 fun v7 =>
      wr M 5 60 x2 v7 fun M8 =>
      (fR_looked_l29 n k) x1 (x2 + (nI 1)) M8)
theorem wR_looked_l29 (X : gX p s m args meth c cX5_looked 3 RX5 (some .int) D (tyR cI cZ)) (n : Nat) : ∀ (k : Nat) (x1 : Int32) (x2 : Int32) (M : MR), gG p l e (rmR 7 167) s m args below meth c 3 (ZR D cI cZ q (AR q s.heap.size) s.heap M) 0 0 (fun r => MQ below (QI D cI cZ q s.heap.size r) args s 0 0 (AR q s.heap.size)) 29 [(0, .ref (q 34)), (1, .int x1), (2, .int x2)] [] (fR_looked_l29 n k x1 x2 M) := by
  intro k
  induction k with
  | zero =>
    intro x1 x2 M
    exact g_none
  | succ k ih =>
    intro x1 x2 M
    rw [fR_looked_l29]
    refine g_iload_n X dX5_looked_29 rfl rfl ?_
    refine g_aload_n X dX5_looked_30 rfl rfl ?_
    refine r_g_length X dX5_looked_31 ?_
    intro v1
    refine g_icmp_ge (tgt := 55) X dX5_looked_34 (by decide) ?_ ?_
    · refine g_iload_n X dX5_looked_55 rfl rfl ?_
      refine g_if_ne (tgt := 72) X dX5_looked_56 (by decide) ?_ ?_
      · refine g_aload_n X dX5_looked_72 rfl rfl ?_
        refine k_classText X ⟨Nat.le_of_ble_eq_true rfl, Nat.le_of_ble_eq_true rfl⟩ (Nat.le_of_ble_eq_true rfl) dX5_looked_73 ?_
        intro v2 M2
        refine g_aload_n X dX5_looked_76 rfl rfl ?_
        refine r_g_fault X dX5_looked_77 ?_
        intro v3
        exact r_iret X dX5_looked_80
      · refine g_aload_n X dX5_looked_59 rfl rfl ?_
        refine g_iconst (v := (nI 0)) X dX5_looked_60 (by decide) ?_
        refine g_aload_n X dX5_looked_61 rfl rfl ?_
        refine r_g_length X dX5_looked_62 ?_
        intro v4
        refine g_iconst (v := (nI 0)) X dX5_looked_65 (by decide) ?_
        refine k_code X ⟨Nat.le_of_ble_eq_true rfl, Nat.le_of_ble_eq_true rfl⟩ (Nat.le_of_ble_eq_true rfl) dX5_looked_66 ?_
        intro v5 M5
        refine g_goto (tgt := 76) X dX5_looked_69 (by decide) ?_
        refine g_aload_n X dX5_looked_76 rfl rfl ?_
        refine r_g_fault X dX5_looked_77 ?_
        intro v6
        exact r_iret X dX5_looked_80
    · refine g_aload_n X dX5_looked_37 rfl rfl ?_
      refine r_g_meant X dX5_looked_38 ?_
      refine g_iload_n X dX5_looked_41 rfl rfl ?_
      refine g_aload_n X dX5_looked_42 rfl rfl ?_
      refine r_g_text X dX5_looked_43 ?_
      refine g_iload_n X dX5_looked_46 rfl rfl ?_
      refine r_l_text X dX5_looked_47 ?_
      intro v7
      refine r_s_meant X dX5_looked_48 ?_
      intro M8
      refine g_iinc (v := (nI 1)) (lv' := [(2, .int (x2 + (nI 1))), (0, .ref (q 34)), (1, .int x1)]) X dX5_looked_49 rfl (by decide) (by decide) rfl ?_
      refine g_goto (tgt := 29) X dX5_looked_52 (by decide) ?_
      exact g_pick [1, 2, 0] rfl (ih x1 (x2 + (nI 1)) M8)
def fR_looked_l7 (n : Nat) : Nat → Int32 → Int32 → MR → Option (Int32 × MR)
  | 0, _, _, _ => none
  | k + 1, x1, x2, M => if (nI 150) ≤ x2 then
      (fR_looked_l29 n n x1 (nI 0) M)
    else
      (wz M 9 150 x2 (nI 0) fun M1 =>
      (fR_looked_l7 n k) x1 (x2 + (nI 1)) M1)
theorem wR_looked_l7 (X : gX p s m args meth c cX5_looked 3 RX5 (some .int) D (tyR cI cZ)) (n : Nat) : ∀ (k : Nat) (x1 : Int32) (x2 : Int32) (M : MR), gG p l e (rmR 7 167) s m args below meth c 3 (ZR D cI cZ q (AR q s.heap.size) s.heap M) 0 0 (fun r => MQ below (QI D cI cZ q s.heap.size r) args s 0 0 (AR q s.heap.size)) 7 [(0, .ref (q 34)), (1, .int x1), (2, .int x2)] [] (fR_looked_l7 n k x1 x2 M) := by
  intro k
  induction k with
  | zero =>
    intro x1 x2 M
    exact g_none
  | succ k ih =>
    intro x1 x2 M
    rw [fR_looked_l7]
    refine g_iload_n X dX5_looked_7 rfl rfl ?_
    refine g_sipush (v := (nI 150)) X dX5_looked_8 (by decide) ?_
    refine g_icmp_ge (tgt := 27) X dX5_looked_11 (by decide) ?_ ?_
    · refine g_iconst (v := (nI 0)) X dX5_looked_27 (by decide) ?_
      refine g_istore_n (lv' := [(2, .int (nI 0)), (0, .ref (q 34)), (1, .int x1)]) X dX5_looked_28 rfl (by decide) rfl ?_
      exact g_pick [1, 2, 0] rfl (wR_looked_l29 X n n x1 (nI 0) M)
    · refine g_aload_n X dX5_looked_14 rfl rfl ?_
      refine r_g_leaned X dX5_looked_15 ?_
      refine g_iload_n X dX5_looked_18 rfl rfl ?_
      refine g_iconst (v := (nI 0)) X dX5_looked_19 (by decide) ?_
      refine r_s_leaned X dX5_looked_20 ?_
      intro M1
      refine g_iinc (v := (nI 1)) (lv' := [(2, .int (x2 + (nI 1))), (0, .ref (q 34)), (1, .int x1)]) X dX5_looked_21 rfl (by decide) (by decide) rfl ?_
      refine g_goto (tgt := 7) X dX5_looked_24 (by decide) ?_
      exact g_pick [1, 2, 0] rfl (ih x1 (x2 + (nI 1)) M1)
def fR_looked (n : Nat) (x1 : Int32) (M : MR) : Option (Int32 × MR) :=
    pf M 7 (-1 : Int32) fun M1 =>
    fR_looked_l7 n n x1 (nI 0) M1
theorem c_looked (l : Launch) (D : va_G) (cI cZ : ClassId) (q : Nat → Nat) (n : Nat) (x1 : Int32) (M : MR) : MetR l D cI cZ q yX5_looked cX5_looked 3 (some .int) 7 167 QI [.ref (q 34), .int x1] M (fR_looked n x1 M) := by
  refine MetR.of (by decide) rfl (Nat.le_of_ble_eq_true rfl) ?_
  intro p e s m args below meth c X
  unfold fR_looked
  refine g_pick (lv' := [(0, .ref (q 34)), (1, .int x1)]) [0, 1] rfl ?_
  refine g_aload_n X dX5_looked_0 rfl rfl ?_
  refine g_iconst (v := (-1 : Int32)) X dX5_looked_1 (by decide) ?_
  refine r_p_fault X dX5_looked_2 ?_
  intro M1
  refine g_iconst (v := (nI 0)) X dX5_looked_5 (by decide) ?_
  refine g_istore_n (lv' := [(2, .int (nI 0)), (0, .ref (q 34)), (1, .int x1)]) X dX5_looked_6 rfl (by decide) rfl ?_
  exact g_pick [1, 2, 0] rfl (wR_looked_l7 X n n x1 (nI 0) M1)
theorem tc_looked : Cond.code yX5_looked cX5_looked 3 (some .int) ∈ tt := tt_in (List.mem_of_getElem? (i := 899) (by decide +kernel)) (by decide +kernel)
theorem tl_looked : Cond.methodLink RX5 239 yX5_looked ∈ tt := tt_in (List.mem_of_getElem? (i := 896) (by decide +kernel)) (by decide +kernel)
theorem ti_looked : Cond.instanceMethod yX5_looked ∈ tt := tt_in (List.mem_of_getElem? (i := 898) (by decide +kernel)) (by decide +kernel)
theorem te_looked : Cond.selects RX5 yX5_looked yX5_looked ∈ tt := tt_in (List.mem_of_getElem? (i := 39) (by decide +kernel)) (by decide +kernel)
theorem k_looked (X : gX p s m args meth c cc nL RX5 rt D (tyR cI cZ)) {n : Nat} {x1 : Int32} {M : MR} {rest : List Value} {K : Int32 → MR → Option ρ} (hR : 7 + 1 ≤ R.frames ∧ 8 + (3 + 11) + 167 ≤ R.locals) (hcat : (rest.map fun v => v.category).sum ≤ 8) (d : decode cc pc = .ok (.invokevirtual 239, 3)) (kk : ∀ v M1, gG p l e R s m args below meth c nL (ZR D cI cZ q (AR q s.heap.size) s.heap M1) 0 0 QQ (pc + 3) lv (.int v :: rest) (K v M1)) : gG p l e R s m args below meth c nL (ZR D cI cZ q (AR q s.heap.size) s.heap M) 0 0 QQ pc lv (.int x1 :: .ref (q 34) :: rest) (bnd (fR_looked n x1 M) K) := r_callVi (As := [.int x1]) X (c_looked l D cI cZ q n x1 M) (cwVR (k := 1) X.2.2.2.2.1 tl_looked ti_looked te_looked tc_looked ini5 (by decide +kernel) hR) rfl rfl hcat d kk
-- textOf
def fR_textOf (n : Nat) (x1 : Int32) (x2 : Int32) (M : MR) : Option (Int32 × MR) :=
    bnd (fR_editAt n x1 M) fun v1 M1 =>
    rd M1 0 62610 ((v1 + (nI 8)) + x2) fun v2 =>
    some (v2, M1)
theorem c_textOf (l : Launch) (D : va_G) (cI cZ : ClassId) (q : Nat → Nat) (n : Nat) (x1 : Int32) (x2 : Int32) (M : MR) : MetR l D cI cZ q yX5_textOf cX5_textOf 3 (some .int) 1 20 QI [.ref (q 34), .int x1, .int x2] M (fR_textOf n x1 x2 M) := by
  refine MetR.of (by decide) rfl (Nat.le_of_ble_eq_true rfl) ?_
  intro p e s m args below meth c X
  unfold fR_textOf
  refine g_pick (lv' := [(0, .ref (q 34)), (1, .int x1), (2, .int x2)]) [0, 1, 2] rfl ?_
  refine g_aload_n X dX5_textOf_0 rfl rfl ?_
  refine r_g_m X dX5_textOf_1 ?_
  refine g_iload_n X dX5_textOf_4 rfl rfl ?_
  refine k_editAt X ⟨Nat.le_of_ble_eq_true rfl, Nat.le_of_ble_eq_true rfl⟩ (Nat.le_of_ble_eq_true rfl) dX5_textOf_5 ?_
  intro v1 M1
  refine g_bipush (v := (nI 8)) X dX5_textOf_8 (by decide) ?_
  refine g_iadd X dX5_textOf_10 ?_
  refine g_iload_n X dX5_textOf_11 rfl rfl ?_
  refine g_iadd X dX5_textOf_12 ?_
  refine r_l_m X dX5_textOf_13 ?_
  intro v2
  exact r_iret X dX5_textOf_14
theorem tc_textOf : Cond.code yX5_textOf cX5_textOf 3 (some .int) ∈ tt := tt_in (List.mem_of_getElem? (i := 976) (by decide +kernel)) (by decide +kernel)
theorem tl_textOf : Cond.methodLink RX5 128 yX5_textOf ∈ tt := tt_in (List.mem_of_getElem? (i := 973) (by decide +kernel)) (by decide +kernel)
theorem ti_textOf : Cond.instanceMethod yX5_textOf ∈ tt := tt_in (List.mem_of_getElem? (i := 975) (by decide +kernel)) (by decide +kernel)
theorem te_textOf : Cond.selects RX5 yX5_textOf yX5_textOf ∈ tt := tt_in (List.mem_of_getElem? (i := 55) (by decide +kernel)) (by decide +kernel)
theorem k_textOf (X : gX p s m args meth c cc nL RX5 rt D (tyR cI cZ)) {n : Nat} {x1 : Int32} {x2 : Int32} {M : MR} {rest : List Value} {K : Int32 → MR → Option ρ} (hR : 1 + 1 ≤ R.frames ∧ 8 + (3 + 11) + 20 ≤ R.locals) (hcat : (rest.map fun v => v.category).sum ≤ 8) (d : decode cc pc = .ok (.invokevirtual 128, 3)) (kk : ∀ v M1, gG p l e R s m args below meth c nL (ZR D cI cZ q (AR q s.heap.size) s.heap M1) 0 0 QQ (pc + 3) lv (.int v :: rest) (K v M1)) : gG p l e R s m args below meth c nL (ZR D cI cZ q (AR q s.heap.size) s.heap M) 0 0 QQ pc lv (.int x2 :: .int x1 :: .ref (q 34) :: rest) (bnd (fR_textOf n x1 x2 M) K) := r_callVi (As := [.int x1, .int x2]) X (c_textOf l D cI cZ q n x1 x2 M) (cwVR (k := 2) X.2.2.2.2.1 tl_textOf ti_textOf te_textOf tc_textOf ini5 (by decide +kernel) hR) rfl rfl hcat d kk
-- parentOf
def fR_parentOf (n : Nat) (x1 : Int32) (M : MR) : Option (Int32 × MR) :=
    bnd (fR_textOf n x1 (nI 0) M) fun v1 M1 =>
    some (v1, M1)
theorem c_parentOf (l : Launch) (D : va_G) (cI cZ : ClassId) (q : Nat → Nat) (n : Nat) (x1 : Int32) (M : MR) : MetR l D cI cZ q yX5_parentOf cX5_parentOf 2 (some .int) 2 42 QI [.ref (q 34), .int x1] M (fR_parentOf n x1 M) := by
  refine MetR.of (by decide) rfl (Nat.le_of_ble_eq_true rfl) ?_
  intro p e s m args below meth c X
  unfold fR_parentOf
  refine g_pick (lv' := [(0, .ref (q 34)), (1, .int x1)]) [0, 1] rfl ?_
  refine g_aload_n X dX5_parentOf_0 rfl rfl ?_
  refine g_iload_n X dX5_parentOf_1 rfl rfl ?_
  refine g_iconst (v := (nI 0)) X dX5_parentOf_2 (by decide) ?_
  refine k_textOf X ⟨Nat.le_of_ble_eq_true rfl, Nat.le_of_ble_eq_true rfl⟩ (Nat.le_of_ble_eq_true rfl) dX5_parentOf_3 ?_
  intro v1 M1
  exact r_iret X dX5_parentOf_6
theorem tc_parentOf : Cond.code yX5_parentOf cX5_parentOf 2 (some .int) ∈ tt := tt_in (List.mem_of_getElem? (i := 984) (by decide +kernel)) (by decide +kernel)
theorem tl_parentOf : Cond.methodLink RX5 138 yX5_parentOf ∈ tt := tt_in (List.mem_of_getElem? (i := 981) (by decide +kernel)) (by decide +kernel)
theorem ti_parentOf : Cond.instanceMethod yX5_parentOf ∈ tt := tt_in (List.mem_of_getElem? (i := 983) (by decide +kernel)) (by decide +kernel)
theorem te_parentOf : Cond.selects RX5 yX5_parentOf yX5_parentOf ∈ tt := tt_in (List.mem_of_getElem? (i := 57) (by decide +kernel)) (by decide +kernel)
theorem k_parentOf (X : gX p s m args meth c cc nL RX5 rt D (tyR cI cZ)) {n : Nat} {x1 : Int32} {M : MR} {rest : List Value} {K : Int32 → MR → Option ρ} (hR : 2 + 1 ≤ R.frames ∧ 8 + (2 + 11) + 42 ≤ R.locals) (hcat : (rest.map fun v => v.category).sum ≤ 8) (d : decode cc pc = .ok (.invokevirtual 138, 3)) (kk : ∀ v M1, gG p l e R s m args below meth c nL (ZR D cI cZ q (AR q s.heap.size) s.heap M1) 0 0 QQ (pc + 3) lv (.int v :: rest) (K v M1)) : gG p l e R s m args below meth c nL (ZR D cI cZ q (AR q s.heap.size) s.heap M) 0 0 QQ pc lv (.int x1 :: .ref (q 34) :: rest) (bnd (fR_parentOf n x1 M) K) := r_callVi (As := [.int x1]) X (c_parentOf l D cI cZ q n x1 M) (cwVR (k := 1) X.2.2.2.2.1 tl_parentOf ti_parentOf te_parentOf tc_parentOf ini5 (by decide +kernel) hR) rfl rfl hcat d kk
-- ownField
def fR_ownField_l2 (n : Nat) : Nat → Int32 → Int32 → Int32 → MR → Option (Int32 × MR)
  | 0, _, _, _, _ => none
  | k + 1, x1, x2, x3, M => bnd (fR_textOf n x1 (nI 1) M) fun v1 M1 =>
    if v1 ≤ x3 then
      (some ((-1 : Int32), M1))
    else
      (bnd (fR_textOf n x1 ((nI 2) + ((nI 2) * x3)) M1) fun v2 M2 =>
      if v2 = x2 then (some (((nI 3) + ((nI 2) * x3)), M2)) else ((fR_ownField_l2 n k) x1 x2 (x3 + (nI 1)) M2))
theorem wR_ownField_l2 (X : gX p s m args meth c cX5_ownField 4 RX5 (some .int) D (tyR cI cZ)) (n : Nat) : ∀ (k : Nat) (x1 : Int32) (x2 : Int32) (x3 : Int32) (M : MR), gG p l e (rmR 2 42) s m args below meth c 4 (ZR D cI cZ q (AR q s.heap.size) s.heap M) 0 0 (fun r => MQ below (QI D cI cZ q s.heap.size r) args s 0 0 (AR q s.heap.size)) 2 [(0, .ref (q 34)), (1, .int x1), (2, .int x2), (3, .int x3)] [] (fR_ownField_l2 n k x1 x2 x3 M) := by
  intro k
  induction k with
  | zero =>
    intro x1 x2 x3 M
    exact g_none
  | succ k ih =>
    intro x1 x2 x3 M
    rw [fR_ownField_l2]
    refine g_iload_n X dX5_ownField_2 rfl rfl ?_
    refine g_aload_n X dX5_ownField_3 rfl rfl ?_
    refine g_iload_n X dX5_ownField_4 rfl rfl ?_
    refine g_iconst (v := (nI 1)) X dX5_ownField_5 (by decide) ?_
    refine k_textOf X ⟨Nat.le_of_ble_eq_true rfl, Nat.le_of_ble_eq_true rfl⟩ (Nat.le_of_ble_eq_true rfl) dX5_ownField_6 ?_
    intro v1 M1
    refine g_icmp_ge (tgt := 38) X dX5_ownField_9 (by decide) ?_ ?_
    · refine g_iconst (v := (-1 : Int32)) X dX5_ownField_38 (by decide) ?_
      exact r_iret X dX5_ownField_39
    · refine g_aload_n X dX5_ownField_12 rfl rfl ?_
      refine g_iload_n X dX5_ownField_13 rfl rfl ?_
      refine g_iconst (v := (nI 2)) X dX5_ownField_14 (by decide) ?_
      refine g_iconst (v := (nI 2)) X dX5_ownField_15 (by decide) ?_
      refine g_iload_n X dX5_ownField_16 rfl rfl ?_
      refine g_imul X dX5_ownField_17 ?_
      refine g_iadd X dX5_ownField_18 ?_
      refine k_textOf X ⟨Nat.le_of_ble_eq_true rfl, Nat.le_of_ble_eq_true rfl⟩ (Nat.le_of_ble_eq_true rfl) dX5_ownField_19 ?_
      intro v2 M2
      refine g_iload_n X dX5_ownField_22 rfl rfl ?_
      refine g_icmp_ne (tgt := 32) X dX5_ownField_23 (by decide) ?_ ?_
      · refine g_iinc (v := (nI 1)) (lv' := [(3, .int (x3 + (nI 1))), (0, .ref (q 34)), (1, .int x1), (2, .int x2)]) X dX5_ownField_32 rfl (by decide) (by decide) rfl ?_
        refine g_goto (tgt := 2) X dX5_ownField_35 (by decide) ?_
        exact g_pick [1, 2, 3, 0] rfl (ih x1 x2 (x3 + (nI 1)) M2)
      · refine g_iconst (v := (nI 3)) X dX5_ownField_26 (by decide) ?_
        refine g_iconst (v := (nI 2)) X dX5_ownField_27 (by decide) ?_
        refine g_iload_n X dX5_ownField_28 rfl rfl ?_
        refine g_imul X dX5_ownField_29 ?_
        refine g_iadd X dX5_ownField_30 ?_
        exact r_iret X dX5_ownField_31
def fR_ownField (n : Nat) (x1 : Int32) (x2 : Int32) (M : MR) : Option (Int32 × MR) :=
    fR_ownField_l2 n n x1 x2 (nI 0) M
theorem c_ownField (l : Launch) (D : va_G) (cI cZ : ClassId) (q : Nat → Nat) (n : Nat) (x1 : Int32) (x2 : Int32) (M : MR) : MetR l D cI cZ q yX5_ownField cX5_ownField 4 (some .int) 2 42 QI [.ref (q 34), .int x1, .int x2] M (fR_ownField n x1 x2 M) := by
  refine MetR.of (by decide) rfl (Nat.le_of_ble_eq_true rfl) ?_
  intro p e s m args below meth c X
  unfold fR_ownField
  refine g_pick (lv' := [(0, .ref (q 34)), (1, .int x1), (2, .int x2)]) [0, 1, 2] rfl ?_
  refine g_iconst (v := (nI 0)) X dX5_ownField_0 (by decide) ?_
  refine g_istore_n (lv' := [(3, .int (nI 0)), (0, .ref (q 34)), (1, .int x1), (2, .int x2)]) X dX5_ownField_1 rfl (by decide) rfl ?_
  exact g_pick [1, 2, 3, 0] rfl (wR_ownField_l2 X n n x1 x2 (nI 0) M)
theorem tc_ownField : Cond.code yX5_ownField cX5_ownField 4 (some .int) ∈ tt := tt_in (List.mem_of_getElem? (i := 1015) (by decide +kernel)) (by decide +kernel)
theorem tl_ownField : Cond.methodLink RX5 144 yX5_ownField ∈ tt := tt_in (List.mem_of_getElem? (i := 1012) (by decide +kernel)) (by decide +kernel)
theorem ti_ownField : Cond.instanceMethod yX5_ownField ∈ tt := tt_in (List.mem_of_getElem? (i := 1014) (by decide +kernel)) (by decide +kernel)
theorem te_ownField : Cond.selects RX5 yX5_ownField yX5_ownField ∈ tt := tt_in (List.mem_of_getElem? (i := 64) (by decide +kernel)) (by decide +kernel)
theorem k_ownField (X : gX p s m args meth c cc nL RX5 rt D (tyR cI cZ)) {n : Nat} {x1 : Int32} {x2 : Int32} {M : MR} {rest : List Value} {K : Int32 → MR → Option ρ} (hR : 2 + 1 ≤ R.frames ∧ 8 + (4 + 11) + 42 ≤ R.locals) (hcat : (rest.map fun v => v.category).sum ≤ 8) (d : decode cc pc = .ok (.invokevirtual 144, 3)) (kk : ∀ v M1, gG p l e R s m args below meth c nL (ZR D cI cZ q (AR q s.heap.size) s.heap M1) 0 0 QQ (pc + 3) lv (.int v :: rest) (K v M1)) : gG p l e R s m args below meth c nL (ZR D cI cZ q (AR q s.heap.size) s.heap M) 0 0 QQ pc lv (.int x2 :: .int x1 :: .ref (q 34) :: rest) (bnd (fR_ownField n x1 x2 M) K) := r_callVi (As := [.int x1, .int x2]) X (c_ownField l D cI cZ q n x1 x2 M) (cwVR (k := 2) X.2.2.2.2.1 tl_ownField ti_ownField te_ownField tc_ownField ini5 (by decide +kernel) hR) rfl rfl hcat d kk
-- place0
def fR_place0 (n : Nat) (x1 : Int32) (M : MR) : Option (Int32 × MR) :=
    bnd (fR_textOf n x1 (nI 1) M) fun v1 M1 =>
    some (((nI 2) + ((nI 2) * v1)), M1)
theorem c_place0 (l : Launch) (D : va_G) (cI cZ : ClassId) (q : Nat → Nat) (n : Nat) (x1 : Int32) (M : MR) : MetR l D cI cZ q yX5_place0 cX5_place0 2 (some .int) 2 42 QI [.ref (q 34), .int x1] M (fR_place0 n x1 M) := by
  refine MetR.of (by decide) rfl (Nat.le_of_ble_eq_true rfl) ?_
  intro p e s m args below meth c X
  unfold fR_place0
  refine g_pick (lv' := [(0, .ref (q 34)), (1, .int x1)]) [0, 1] rfl ?_
  refine g_iconst (v := (nI 2)) X dX5_place0_0 (by decide) ?_
  refine g_iconst (v := (nI 2)) X dX5_place0_1 (by decide) ?_
  refine g_aload_n X dX5_place0_2 rfl rfl ?_
  refine g_iload_n X dX5_place0_3 rfl rfl ?_
  refine g_iconst (v := (nI 1)) X dX5_place0_4 (by decide) ?_
  refine k_textOf X ⟨Nat.le_of_ble_eq_true rfl, Nat.le_of_ble_eq_true rfl⟩ (Nat.le_of_ble_eq_true rfl) dX5_place0_5 ?_
  intro v1 M1
  refine g_imul X dX5_place0_8 ?_
  refine g_iadd X dX5_place0_9 ?_
  exact r_iret X dX5_place0_10
theorem tc_place0 : Cond.code yX5_place0 cX5_place0 2 (some .int) ∈ tt := tt_in (List.mem_of_getElem? (i := 996) (by decide +kernel)) (by decide +kernel)
theorem tl_place0 : Cond.methodLink RX5 132 yX5_place0 ∈ tt := tt_in (List.mem_of_getElem? (i := 993) (by decide +kernel)) (by decide +kernel)
theorem ti_place0 : Cond.instanceMethod yX5_place0 ∈ tt := tt_in (List.mem_of_getElem? (i := 995) (by decide +kernel)) (by decide +kernel)
theorem te_place0 : Cond.selects RX5 yX5_place0 yX5_place0 ∈ tt := tt_in (List.mem_of_getElem? (i := 60) (by decide +kernel)) (by decide +kernel)
theorem k_place0 (X : gX p s m args meth c cc nL RX5 rt D (tyR cI cZ)) {n : Nat} {x1 : Int32} {M : MR} {rest : List Value} {K : Int32 → MR → Option ρ} (hR : 2 + 1 ≤ R.frames ∧ 8 + (2 + 11) + 42 ≤ R.locals) (hcat : (rest.map fun v => v.category).sum ≤ 8) (d : decode cc pc = .ok (.invokevirtual 132, 3)) (kk : ∀ v M1, gG p l e R s m args below meth c nL (ZR D cI cZ q (AR q s.heap.size) s.heap M1) 0 0 QQ (pc + 3) lv (.int v :: rest) (K v M1)) : gG p l e R s m args below meth c nL (ZR D cI cZ q (AR q s.heap.size) s.heap M) 0 0 QQ pc lv (.int x1 :: .ref (q 34) :: rest) (bnd (fR_place0 n x1 M) K) := r_callVi (As := [.int x1]) X (c_place0 l D cI cZ q n x1 M) (cwVR (k := 1) X.2.2.2.2.1 tl_place0 ti_place0 te_place0 tc_place0 ini5 (by decide +kernel) hR) rfl rfl hcat d kk
-- methodPlace
def fR_methodPlace_l14 (n : Nat) : Nat → Int32 → Int32 → Int32 → Int32 → MR → Option (Int32 × MR)
  | 0, _, _, _, _, _ => none
  | k + 1, x1, x2, x3, x4, M => if x2 ≤ x4 then
      (bnd (fR_place0 n x1 M) fun v1 M1 =>
      bnd (fR_textOf n x1 v1 M1) fun v2 M2 =>
      if v2 ≤ x2 then (some (x3, M2)) else (some ((x3 + (nI 1)), M2)))
    else
      (bnd (fR_textOf n x1 (x3 + (nI 1)) M) fun v3 M3 =>
      (fR_methodPlace_l14 n k) x1 x2 (x3 + ((nI 2) + v3)) (x4 + (nI 1)) M3)
theorem wR_methodPlace_l14 (X : gX p s m args meth c cX5_methodPlace 5 RX5 (some .int) D (tyR cI cZ)) (n : Nat) : ∀ (k : Nat) (x1 : Int32) (x2 : Int32) (x3 : Int32) (x4 : Int32) (M : MR), gG p l e (rmR 3 63) s m args below meth c 5 (ZR D cI cZ q (AR q s.heap.size) s.heap M) 0 0 (fun r => MQ below (QI D cI cZ q s.heap.size r) args s 0 0 (AR q s.heap.size)) 14 [(0, .ref (q 34)), (1, .int x1), (2, .int x2), (3, .int x3), (4, .int x4)] [] (fR_methodPlace_l14 n k x1 x2 x3 x4 M) := by
  intro k
  induction k with
  | zero =>
    intro x1 x2 x3 x4 M
    exact g_none
  | succ k ih =>
    intro x1 x2 x3 x4 M
    rw [fR_methodPlace_l14]
    refine g_iload X dX5_methodPlace_14 rfl ?_
    refine g_iload_n X dX5_methodPlace_16 rfl rfl ?_
    refine g_icmp_ge (tgt := 39) X dX5_methodPlace_17 (by decide) ?_ ?_
    · refine g_iload_n X dX5_methodPlace_39 rfl rfl ?_
      refine g_aload_n X dX5_methodPlace_40 rfl rfl ?_
      refine g_iload_n X dX5_methodPlace_41 rfl rfl ?_
      refine g_aload_n X dX5_methodPlace_42 rfl rfl ?_
      refine g_iload_n X dX5_methodPlace_43 rfl rfl ?_
      refine k_place0 X ⟨Nat.le_of_ble_eq_true rfl, Nat.le_of_ble_eq_true rfl⟩ (Nat.le_of_ble_eq_true rfl) dX5_methodPlace_44 ?_
      intro v1 M1
      refine k_textOf X ⟨Nat.le_of_ble_eq_true rfl, Nat.le_of_ble_eq_true rfl⟩ (Nat.le_of_ble_eq_true rfl) dX5_methodPlace_47 ?_
      intro v2 M2
      refine g_icmp_ge (tgt := 59) X dX5_methodPlace_50 (by decide) ?_ ?_
      · refine g_iload_n X dX5_methodPlace_59 rfl rfl ?_
        exact r_iret X dX5_methodPlace_60
      · refine g_iload_n X dX5_methodPlace_53 rfl rfl ?_
        refine g_iconst (v := (nI 1)) X dX5_methodPlace_54 (by decide) ?_
        refine g_iadd X dX5_methodPlace_55 ?_
        refine g_goto (tgt := 60) X dX5_methodPlace_56 (by decide) ?_
        exact r_iret X dX5_methodPlace_60
    · refine g_iload_n X dX5_methodPlace_20 rfl rfl ?_
      refine g_iconst (v := (nI 2)) X dX5_methodPlace_21 (by decide) ?_
      refine g_aload_n X dX5_methodPlace_22 rfl rfl ?_
      refine g_iload_n X dX5_methodPlace_23 rfl rfl ?_
      refine g_iload_n X dX5_methodPlace_24 rfl rfl ?_
      refine g_iconst (v := (nI 1)) X dX5_methodPlace_25 (by decide) ?_
      refine g_iadd X dX5_methodPlace_26 ?_
      refine k_textOf X ⟨Nat.le_of_ble_eq_true rfl, Nat.le_of_ble_eq_true rfl⟩ (Nat.le_of_ble_eq_true rfl) dX5_methodPlace_27 ?_
      intro v3 M3
      refine g_iadd X dX5_methodPlace_30 ?_
      refine g_iadd X dX5_methodPlace_31 ?_
      refine g_istore_n (lv' := [(3, .int (x3 + ((nI 2) + v3))), (0, .ref (q 34)), (1, .int x1), (2, .int x2), (4, .int x4)]) X dX5_methodPlace_32 rfl (by decide) rfl ?_
      refine g_iinc (v := (nI 1)) (lv' := [(4, .int (x4 + (nI 1))), (3, .int (x3 + ((nI 2) + v3))), (0, .ref (q 34)), (1, .int x1), (2, .int x2)]) X dX5_methodPlace_33 rfl (by decide) (by decide) rfl ?_
      refine g_goto (tgt := 14) X dX5_methodPlace_36 (by decide) ?_
      exact g_pick [2, 3, 4, 1, 0] rfl (ih x1 x2 (x3 + ((nI 2) + v3)) (x4 + (nI 1)) M3)
def fR_methodPlace (n : Nat) (x1 : Int32) (x2 : Int32) (M : MR) : Option (Int32 × MR) :=
    bnd (fR_textOf n x1 (nI 1) M) fun v1 M1 =>
    fR_methodPlace_l14 n n x1 x2 ((nI 3) + ((nI 2) * v1)) (nI 0) M1
theorem c_methodPlace (l : Launch) (D : va_G) (cI cZ : ClassId) (q : Nat → Nat) (n : Nat) (x1 : Int32) (x2 : Int32) (M : MR) : MetR l D cI cZ q yX5_methodPlace cX5_methodPlace 5 (some .int) 3 63 QI [.ref (q 34), .int x1, .int x2] M (fR_methodPlace n x1 x2 M) := by
  refine MetR.of (by decide) rfl (Nat.le_of_ble_eq_true rfl) ?_
  intro p e s m args below meth c X
  unfold fR_methodPlace
  refine g_pick (lv' := [(0, .ref (q 34)), (1, .int x1), (2, .int x2)]) [0, 1, 2] rfl ?_
  refine g_iconst (v := (nI 3)) X dX5_methodPlace_0 (by decide) ?_
  refine g_iconst (v := (nI 2)) X dX5_methodPlace_1 (by decide) ?_
  refine g_aload_n X dX5_methodPlace_2 rfl rfl ?_
  refine g_iload_n X dX5_methodPlace_3 rfl rfl ?_
  refine g_iconst (v := (nI 1)) X dX5_methodPlace_4 (by decide) ?_
  refine k_textOf X ⟨Nat.le_of_ble_eq_true rfl, Nat.le_of_ble_eq_true rfl⟩ (Nat.le_of_ble_eq_true rfl) dX5_methodPlace_5 ?_
  intro v1 M1
  refine g_imul X dX5_methodPlace_8 ?_
  refine g_iadd X dX5_methodPlace_9 ?_
  refine g_istore_n (lv' := [(3, .int ((nI 3) + ((nI 2) * v1))), (0, .ref (q 34)), (1, .int x1), (2, .int x2)]) X dX5_methodPlace_10 rfl (by decide) rfl ?_
  refine g_iconst (v := (nI 0)) X dX5_methodPlace_11 (by decide) ?_
  refine g_istore (lv' := [(4, .int (nI 0)), (3, .int ((nI 3) + ((nI 2) * v1))), (0, .ref (q 34)), (1, .int x1), (2, .int x2)]) X dX5_methodPlace_12 (by decide) rfl ?_
  exact g_pick [2, 3, 4, 1, 0] rfl (wR_methodPlace_l14 X n n x1 x2 ((nI 3) + ((nI 2) * v1)) (nI 0) M1)
theorem tc_methodPlace : Cond.code yX5_methodPlace cX5_methodPlace 5 (some .int) ∈ tt := tt_in (List.mem_of_getElem? (i := 1000) (by decide +kernel)) (by decide +kernel)
theorem tl_methodPlace : Cond.methodLink RX5 135 yX5_methodPlace ∈ tt := tt_in (List.mem_of_getElem? (i := 997) (by decide +kernel)) (by decide +kernel)
theorem ti_methodPlace : Cond.instanceMethod yX5_methodPlace ∈ tt := tt_in (List.mem_of_getElem? (i := 999) (by decide +kernel)) (by decide +kernel)
theorem te_methodPlace : Cond.selects RX5 yX5_methodPlace yX5_methodPlace ∈ tt := tt_in (List.mem_of_getElem? (i := 61) (by decide +kernel)) (by decide +kernel)
theorem k_methodPlace (X : gX p s m args meth c cc nL RX5 rt D (tyR cI cZ)) {n : Nat} {x1 : Int32} {x2 : Int32} {M : MR} {rest : List Value} {K : Int32 → MR → Option ρ} (hR : 3 + 1 ≤ R.frames ∧ 8 + (5 + 11) + 63 ≤ R.locals) (hcat : (rest.map fun v => v.category).sum ≤ 8) (d : decode cc pc = .ok (.invokevirtual 135, 3)) (kk : ∀ v M1, gG p l e R s m args below meth c nL (ZR D cI cZ q (AR q s.heap.size) s.heap M1) 0 0 QQ (pc + 3) lv (.int v :: rest) (K v M1)) : gG p l e R s m args below meth c nL (ZR D cI cZ q (AR q s.heap.size) s.heap M) 0 0 QQ pc lv (.int x2 :: .int x1 :: .ref (q 34) :: rest) (bnd (fR_methodPlace n x1 x2 M) K) := r_callVi (As := [.int x1, .int x2]) X (c_methodPlace l D cI cZ q n x1 x2 M) (cwVR (k := 2) X.2.2.2.2.1 tl_methodPlace ti_methodPlace te_methodPlace tc_methodPlace ini5 (by decide +kernel) hR) rfl rfl hcat d kk
-- ownMethod
def fR_ownMethod_l2 (n : Nat) : Nat → Int32 → Int32 → Int32 → MR → Option (Int32 × MR)
  | 0, _, _, _, _ => none
  | k + 1, x1, x2, x3, M => bnd (fR_place0 n x1 M) fun v1 M1 =>
    bnd (fR_textOf n x1 v1 M1) fun v2 M2 =>
    if v2 ≤ x3 then
      (some ((-1 : Int32), M2))
    else
      (bnd (fR_methodPlace n x1 x3 M2) fun v3 M3 =>
      bnd (fR_textOf n x1 (v3 - (nI 1)) M3) fun v4 M4 =>
      if v4 = x2 then (some (v3, M4)) else ((fR_ownMethod_l2 n k) x1 x2 (x3 + (nI 1)) M4))
theorem wR_ownMethod_l2 (X : gX p s m args meth c cX5_ownMethod 5 RX5 (some .int) D (tyR cI cZ)) (n : Nat) : ∀ (k : Nat) (x1 : Int32) (x2 : Int32) (x3 : Int32) (M : MR), gG p l e (rmR 4 87) s m args below meth c 5 (ZR D cI cZ q (AR q s.heap.size) s.heap M) 0 0 (fun r => MQ below (QI D cI cZ q s.heap.size r) args s 0 0 (AR q s.heap.size)) 2 [(0, .ref (q 34)), (1, .int x1), (2, .int x2), (3, .int x3)] [] (fR_ownMethod_l2 n k x1 x2 x3 M) := by
  intro k
  induction k with
  | zero =>
    intro x1 x2 x3 M
    exact g_none
  | succ k ih =>
    intro x1 x2 x3 M
    rw [fR_ownMethod_l2]
    refine g_iload_n X dX5_ownMethod_2 rfl rfl ?_
    refine g_aload_n X dX5_ownMethod_3 rfl rfl ?_
    refine g_iload_n X dX5_ownMethod_4 rfl rfl ?_
    refine g_aload_n X dX5_ownMethod_5 rfl rfl ?_
    refine g_iload_n X dX5_ownMethod_6 rfl rfl ?_
    refine k_place0 X ⟨Nat.le_of_ble_eq_true rfl, Nat.le_of_ble_eq_true rfl⟩ (Nat.le_of_ble_eq_true rfl) dX5_ownMethod_7 ?_
    intro v1 M1
    refine k_textOf X ⟨Nat.le_of_ble_eq_true rfl, Nat.le_of_ble_eq_true rfl⟩ (Nat.le_of_ble_eq_true rfl) dX5_ownMethod_10 ?_
    intro v2 M2
    refine g_icmp_ge (tgt := 46) X dX5_ownMethod_13 (by decide) ?_ ?_
    · refine g_iconst (v := (-1 : Int32)) X dX5_ownMethod_46 (by decide) ?_
      exact r_iret X dX5_ownMethod_47
    · refine g_aload_n X dX5_ownMethod_16 rfl rfl ?_
      refine g_iload_n X dX5_ownMethod_17 rfl rfl ?_
      refine g_iload_n X dX5_ownMethod_18 rfl rfl ?_
      refine k_methodPlace X ⟨Nat.le_of_ble_eq_true rfl, Nat.le_of_ble_eq_true rfl⟩ (Nat.le_of_ble_eq_true rfl) dX5_ownMethod_19 ?_
      intro v3 M3
      refine g_istore (lv' := [(4, .int v3), (0, .ref (q 34)), (1, .int x1), (2, .int x2), (3, .int x3)]) X dX5_ownMethod_22 (by decide) rfl ?_
      refine g_aload_n X dX5_ownMethod_24 rfl rfl ?_
      refine g_iload_n X dX5_ownMethod_25 rfl rfl ?_
      refine g_iload X dX5_ownMethod_26 rfl ?_
      refine g_iconst (v := (nI 1)) X dX5_ownMethod_28 (by decide) ?_
      refine g_isub X dX5_ownMethod_29 ?_
      refine k_textOf X ⟨Nat.le_of_ble_eq_true rfl, Nat.le_of_ble_eq_true rfl⟩ (Nat.le_of_ble_eq_true rfl) dX5_ownMethod_30 ?_
      intro v4 M4
      refine g_iload_n X dX5_ownMethod_33 rfl rfl ?_
      refine g_icmp_ne (tgt := 40) X dX5_ownMethod_34 (by decide) ?_ ?_
      · refine g_iinc (v := (nI 1)) (lv' := [(3, .int (x3 + (nI 1))), (4, .int v3), (0, .ref (q 34)), (1, .int x1), (2, .int x2)]) X dX5_ownMethod_40 rfl (by decide) (by decide) rfl ?_
        refine g_goto (tgt := 2) X dX5_ownMethod_43 (by decide) ?_
        exact g_pick [2, 3, 4, 0] rfl (ih x1 x2 (x3 + (nI 1)) M4)
      · refine g_iload X dX5_ownMethod_37 rfl ?_
        exact r_iret X dX5_ownMethod_39
def fR_ownMethod (n : Nat) (x1 : Int32) (x2 : Int32) (M : MR) : Option (Int32 × MR) :=
    fR_ownMethod_l2 n n x1 x2 (nI 0) M
theorem c_ownMethod (l : Launch) (D : va_G) (cI cZ : ClassId) (q : Nat → Nat) (n : Nat) (x1 : Int32) (x2 : Int32) (M : MR) : MetR l D cI cZ q yX5_ownMethod cX5_ownMethod 5 (some .int) 4 87 QI [.ref (q 34), .int x1, .int x2] M (fR_ownMethod n x1 x2 M) := by
  refine MetR.of (by decide) rfl (Nat.le_of_ble_eq_true rfl) ?_
  intro p e s m args below meth c X
  unfold fR_ownMethod
  refine g_pick (lv' := [(0, .ref (q 34)), (1, .int x1), (2, .int x2)]) [0, 1, 2] rfl ?_
  refine g_iconst (v := (nI 0)) X dX5_ownMethod_0 (by decide) ?_
  refine g_istore_n (lv' := [(3, .int (nI 0)), (0, .ref (q 34)), (1, .int x1), (2, .int x2)]) X dX5_ownMethod_1 rfl (by decide) rfl ?_
  exact g_pick [1, 2, 3, 0] rfl (wR_ownMethod_l2 X n n x1 x2 (nI 0) M)
theorem tc_ownMethod : Cond.code yX5_ownMethod cX5_ownMethod 5 (some .int) ∈ tt := tt_in (List.mem_of_getElem? (i := 1039) (by decide +kernel)) (by decide +kernel)
theorem tl_ownMethod : Cond.methodLink RX5 208 yX5_ownMethod ∈ tt := tt_in (List.mem_of_getElem? (i := 1036) (by decide +kernel)) (by decide +kernel)
theorem ti_ownMethod : Cond.instanceMethod yX5_ownMethod ∈ tt := tt_in (List.mem_of_getElem? (i := 1038) (by decide +kernel)) (by decide +kernel)
theorem te_ownMethod : Cond.selects RX5 yX5_ownMethod yX5_ownMethod ∈ tt := tt_in (List.mem_of_getElem? (i := 70) (by decide +kernel)) (by decide +kernel)
theorem k_ownMethod (X : gX p s m args meth c cc nL RX5 rt D (tyR cI cZ)) {n : Nat} {x1 : Int32} {x2 : Int32} {M : MR} {rest : List Value} {K : Int32 → MR → Option ρ} (hR : 4 + 1 ≤ R.frames ∧ 8 + (5 + 11) + 87 ≤ R.locals) (hcat : (rest.map fun v => v.category).sum ≤ 8) (d : decode cc pc = .ok (.invokevirtual 208, 3)) (kk : ∀ v M1, gG p l e R s m args below meth c nL (ZR D cI cZ q (AR q s.heap.size) s.heap M1) 0 0 QQ (pc + 3) lv (.int v :: rest) (K v M1)) : gG p l e R s m args below meth c nL (ZR D cI cZ q (AR q s.heap.size) s.heap M) 0 0 QQ pc lv (.int x2 :: .int x1 :: .ref (q 34) :: rest) (bnd (fR_ownMethod n x1 x2 M) K) := r_callVi (As := [.int x1, .int x2]) X (c_ownMethod l D cI cZ q n x1 x2 M) (cwVR (k := 2) X.2.2.2.2.1 tl_ownMethod ti_ownMethod te_ownMethod tc_ownMethod ini5 (by decide +kernel) hR) rfl rfl hcat d kk
-- startPlace
def fR_startPlace (n : Nat) (x1 : Int32) (M : MR) : Option (Int32 × MR) :=
    bnd (fR_place0 n x1 M) fun v1 M1 =>
    bnd (fR_textOf n x1 v1 M1) fun v2 M2 =>
    bnd (fR_methodPlace n x1 v2 M2) fun v3 M3 =>
    some (v3, M3)
theorem c_startPlace (l : Launch) (D : va_G) (cI cZ : ClassId) (q : Nat → Nat) (n : Nat) (x1 : Int32) (M : MR) : MetR l D cI cZ q yX5_startPlace cX5_startPlace 2 (some .int) 4 87 QI [.ref (q 34), .int x1] M (fR_startPlace n x1 M) := by
  refine MetR.of (by decide) rfl (Nat.le_of_ble_eq_true rfl) ?_
  intro p e s m args below meth c X
  unfold fR_startPlace
  refine g_pick (lv' := [(0, .ref (q 34)), (1, .int x1)]) [0, 1] rfl ?_
  refine g_aload_n X dX5_startPlace_0 rfl rfl ?_
  refine g_iload_n X dX5_startPlace_1 rfl rfl ?_
  refine g_aload_n X dX5_startPlace_2 rfl rfl ?_
  refine g_iload_n X dX5_startPlace_3 rfl rfl ?_
  refine g_aload_n X dX5_startPlace_4 rfl rfl ?_
  refine g_iload_n X dX5_startPlace_5 rfl rfl ?_
  refine k_place0 X ⟨Nat.le_of_ble_eq_true rfl, Nat.le_of_ble_eq_true rfl⟩ (Nat.le_of_ble_eq_true rfl) dX5_startPlace_6 ?_
  intro v1 M1
  refine k_textOf X ⟨Nat.le_of_ble_eq_true rfl, Nat.le_of_ble_eq_true rfl⟩ (Nat.le_of_ble_eq_true rfl) dX5_startPlace_9 ?_
  intro v2 M2
  refine k_methodPlace X ⟨Nat.le_of_ble_eq_true rfl, Nat.le_of_ble_eq_true rfl⟩ (Nat.le_of_ble_eq_true rfl) dX5_startPlace_12 ?_
  intro v3 M3
  exact r_iret X dX5_startPlace_15
theorem tc_startPlace : Cond.code yX5_startPlace cX5_startPlace 2 (some .int) ∈ tt := tt_in (List.mem_of_getElem? (i := 992) (by decide +kernel)) (by decide +kernel)
theorem tl_startPlace : Cond.methodLink RX5 224 yX5_startPlace ∈ tt := tt_in (List.mem_of_getElem? (i := 989) (by decide +kernel)) (by decide +kernel)
theorem ti_startPlace : Cond.instanceMethod yX5_startPlace ∈ tt := tt_in (List.mem_of_getElem? (i := 991) (by decide +kernel)) (by decide +kernel)
theorem te_startPlace : Cond.selects RX5 yX5_startPlace yX5_startPlace ∈ tt := tt_in (List.mem_of_getElem? (i := 59) (by decide +kernel)) (by decide +kernel)
theorem k_startPlace (X : gX p s m args meth c cc nL RX5 rt D (tyR cI cZ)) {n : Nat} {x1 : Int32} {M : MR} {rest : List Value} {K : Int32 → MR → Option ρ} (hR : 4 + 1 ≤ R.frames ∧ 8 + (2 + 11) + 87 ≤ R.locals) (hcat : (rest.map fun v => v.category).sum ≤ 8) (d : decode cc pc = .ok (.invokevirtual 224, 3)) (kk : ∀ v M1, gG p l e R s m args below meth c nL (ZR D cI cZ q (AR q s.heap.size) s.heap M1) 0 0 QQ (pc + 3) lv (.int v :: rest) (K v M1)) : gG p l e R s m args below meth c nL (ZR D cI cZ q (AR q s.heap.size) s.heap M) 0 0 QQ pc lv (.int x1 :: .ref (q 34) :: rest) (bnd (fR_startPlace n x1 M) K) := r_callVi (As := [.int x1]) X (c_startPlace l D cI cZ q n x1 M) (cwVR (k := 1) X.2.2.2.2.1 tl_startPlace ti_startPlace te_startPlace tc_startPlace ini5 (by decide +kernel) hR) rfl rfl hcat d kk
-- lengthOf
def fR_lengthOf (n : Nat) (x1 : Int32) (M : MR) : Option (Int32 × MR) :=
    bnd (fR_editAt n x1 M) fun v1 M1 =>
    rd M1 0 62610 (v1 + (nI 7)) fun v2 =>
    some (v2, M1)
theorem c_lengthOf (l : Launch) (D : va_G) (cI cZ : ClassId) (q : Nat → Nat) (n : Nat) (x1 : Int32) (M : MR) : MetR l D cI cZ q yX5_lengthOf cX5_lengthOf 2 (some .int) 1 20 QI [.ref (q 34), .int x1] M (fR_lengthOf n x1 M) := by
  refine MetR.of (by decide) rfl (Nat.le_of_ble_eq_true rfl) ?_
  intro p e s m args below meth c X
  unfold fR_lengthOf
  refine g_pick (lv' := [(0, .ref (q 34)), (1, .int x1)]) [0, 1] rfl ?_
  refine g_aload_n X dX5_lengthOf_0 rfl rfl ?_
  refine r_g_m X dX5_lengthOf_1 ?_
  refine g_iload_n X dX5_lengthOf_4 rfl rfl ?_
  refine k_editAt X ⟨Nat.le_of_ble_eq_true rfl, Nat.le_of_ble_eq_true rfl⟩ (Nat.le_of_ble_eq_true rfl) dX5_lengthOf_5 ?_
  intro v1 M1
  refine g_bipush (v := (nI 7)) X dX5_lengthOf_8 (by decide) ?_
  refine g_iadd X dX5_lengthOf_10 ?_
  refine r_l_m X dX5_lengthOf_11 ?_
  intro v2
  exact r_iret X dX5_lengthOf_12
theorem tc_lengthOf : Cond.code yX5_lengthOf cX5_lengthOf 2 (some .int) ∈ tt := tt_in (List.mem_of_getElem? (i := 1004) (by decide +kernel)) (by decide +kernel)
theorem tl_lengthOf : Cond.methodLink RX5 227 yX5_lengthOf ∈ tt := tt_in (List.mem_of_getElem? (i := 1001) (by decide +kernel)) (by decide +kernel)
theorem ti_lengthOf : Cond.instanceMethod yX5_lengthOf ∈ tt := tt_in (List.mem_of_getElem? (i := 1003) (by decide +kernel)) (by decide +kernel)
theorem te_lengthOf : Cond.selects RX5 yX5_lengthOf yX5_lengthOf ∈ tt := tt_in (List.mem_of_getElem? (i := 62) (by decide +kernel)) (by decide +kernel)
theorem k_lengthOf (X : gX p s m args meth c cc nL RX5 rt D (tyR cI cZ)) {n : Nat} {x1 : Int32} {M : MR} {rest : List Value} {K : Int32 → MR → Option ρ} (hR : 1 + 1 ≤ R.frames ∧ 8 + (2 + 11) + 20 ≤ R.locals) (hcat : (rest.map fun v => v.category).sum ≤ 8) (d : decode cc pc = .ok (.invokevirtual 227, 3)) (kk : ∀ v M1, gG p l e R s m args below meth c nL (ZR D cI cZ q (AR q s.heap.size) s.heap M1) 0 0 QQ (pc + 3) lv (.int v :: rest) (K v M1)) : gG p l e R s m args below meth c nL (ZR D cI cZ q (AR q s.heap.size) s.heap M) 0 0 QQ pc lv (.int x1 :: .ref (q 34) :: rest) (bnd (fR_lengthOf n x1 M) K) := r_callVi (As := [.int x1]) X (c_lengthOf l D cI cZ q n x1 M) (cwVR (k := 1) X.2.2.2.2.1 tl_lengthOf ti_lengthOf te_lengthOf tc_lengthOf ini5 (by decide +kernel) hR) rfl rfl hcat d kk
-- isBelow
def fR_isBelow_b20 (n : Nat) (x2 : Int32) (x3 : Int32) (M : MR) : Option (Int32 × MR) :=
    if x3 = x2 then (zt (nI 1) (some ((nI 1), M))) else (zt (nI 0) (some ((nI 0), M)))
theorem wR_isBelow_b20 (X : gX p s m args meth c cX5_isBelow 4 RX5 (some .boolean) D (tyR cI cZ)) (n : Nat) (x2 : Int32) (x3 : Int32) (M : MR) : gG p l e (rmR 3 63) s m args below meth c 4 (ZR D cI cZ q (AR q s.heap.size) s.heap M) 0 0 (fun r => MQ below (QI D cI cZ q s.heap.size r) args s 0 0 (AR q s.heap.size)) 20 [(2, .int x2), (3, .int x3)] [] (fR_isBelow_b20 n x2 x3 M) := by
  unfold fR_isBelow_b20
  refine g_iload_n X dX5_isBelow_20 rfl rfl ?_
  refine g_iload_n X dX5_isBelow_21 rfl rfl ?_
  refine g_icmp_ne (tgt := 29) X dX5_isBelow_22 (by decide) ?_ ?_
  · refine g_iconst (v := (nI 0)) X dX5_isBelow_29 (by decide) ?_
    exact r_zret X dX5_isBelow_30
  · refine g_iconst (v := (nI 1)) X dX5_isBelow_25 (by decide) ?_
    refine g_goto (tgt := 30) X dX5_isBelow_26 (by decide) ?_
    exact r_zret X dX5_isBelow_30
def fR_isBelow_l2 (n : Nat) : Nat → Int32 → Int32 → MR → Option (Int32 × MR)
  | 0, _, _, _ => none
  | k + 1, x2, x3, M => if x3 < 0 then
      (fR_isBelow_b20 n x2 x3 M)
    else
      (if x3 = x2 then
        (fR_isBelow_b20 n x2 x3 M)
      else
        (bnd (fR_parentOf n x3 M) fun v1 M1 =>
        (fR_isBelow_l2 n k) x2 v1 M1))
theorem wR_isBelow_l2 (X : gX p s m args meth c cX5_isBelow 4 RX5 (some .boolean) D (tyR cI cZ)) (n : Nat) : ∀ (k : Nat) (x2 : Int32) (x3 : Int32) (M : MR), gG p l e (rmR 3 63) s m args below meth c 4 (ZR D cI cZ q (AR q s.heap.size) s.heap M) 0 0 (fun r => MQ below (QI D cI cZ q s.heap.size r) args s 0 0 (AR q s.heap.size)) 2 [(0, .ref (q 34)), (2, .int x2), (3, .int x3)] [] (fR_isBelow_l2 n k x2 x3 M) := by
  intro k
  induction k with
  | zero =>
    intro x2 x3 M
    exact g_none
  | succ k ih =>
    intro x2 x3 M
    rw [fR_isBelow_l2]
    refine g_iload_n X dX5_isBelow_2 rfl rfl ?_
    refine g_if_lt (tgt := 20) X dX5_isBelow_3 (by decide) ?_ ?_
    · exact g_pick [1, 2] rfl (wR_isBelow_b20 X n x2 x3 M)
    · refine g_iload_n X dX5_isBelow_6 rfl rfl ?_
      refine g_iload_n X dX5_isBelow_7 rfl rfl ?_
      refine g_icmp_eq (tgt := 20) X dX5_isBelow_8 (by decide) ?_ ?_
      · exact g_pick [1, 2] rfl (wR_isBelow_b20 X n x2 x3 M)
      · refine g_aload_n X dX5_isBelow_11 rfl rfl ?_
        refine g_iload_n X dX5_isBelow_12 rfl rfl ?_
        refine k_parentOf X ⟨Nat.le_of_ble_eq_true rfl, Nat.le_of_ble_eq_true rfl⟩ (Nat.le_of_ble_eq_true rfl) dX5_isBelow_13 ?_
        intro v1 M1
        refine g_istore_n (lv' := [(3, .int v1), (0, .ref (q 34)), (2, .int x2)]) X dX5_isBelow_16 rfl (by decide) rfl ?_
        refine g_goto (tgt := 2) X dX5_isBelow_17 (by decide) ?_
        exact g_pick [1, 2, 0] rfl (ih x2 v1 M1)
def fR_isBelow (n : Nat) (x1 : Int32) (x2 : Int32) (M : MR) : Option (Int32 × MR) :=
    fR_isBelow_l2 n n x2 x1 M
theorem c_isBelow (l : Launch) (D : va_G) (cI cZ : ClassId) (q : Nat → Nat) (n : Nat) (x1 : Int32) (x2 : Int32) (M : MR) : MetR l D cI cZ q yX5_isBelow cX5_isBelow 4 (some .boolean) 3 63 QI [.ref (q 34), .int x1, .int x2] M (fR_isBelow n x1 x2 M) := by
  refine MetR.of (by decide) rfl (Nat.le_of_ble_eq_true rfl) ?_
  intro p e s m args below meth c X
  unfold fR_isBelow
  refine g_pick (lv' := [(0, .ref (q 34)), (1, .int x1), (2, .int x2)]) [0, 1, 2] rfl ?_
  refine g_iload_n X dX5_isBelow_0 rfl rfl ?_
  refine g_istore_n (lv' := [(3, .int x1), (0, .ref (q 34)), (1, .int x1), (2, .int x2)]) X dX5_isBelow_1 rfl (by decide) rfl ?_
  exact g_pick [1, 3, 0] rfl (wR_isBelow_l2 X n n x2 x1 M)
theorem tc_isBelow : Cond.code yX5_isBelow cX5_isBelow 4 (some .boolean) ∈ tt := tt_in (List.mem_of_getElem? (i := 1027) (by decide +kernel)) (by decide +kernel)
theorem tl_isBelow : Cond.methodLink RX5 201 yX5_isBelow ∈ tt := tt_in (List.mem_of_getElem? (i := 1024) (by decide +kernel)) (by decide +kernel)
theorem ti_isBelow : Cond.instanceMethod yX5_isBelow ∈ tt := tt_in (List.mem_of_getElem? (i := 1026) (by decide +kernel)) (by decide +kernel)
theorem te_isBelow : Cond.selects RX5 yX5_isBelow yX5_isBelow ∈ tt := tt_in (List.mem_of_getElem? (i := 67) (by decide +kernel)) (by decide +kernel)
theorem k_isBelow (X : gX p s m args meth c cc nL RX5 rt D (tyR cI cZ)) {n : Nat} {x1 : Int32} {x2 : Int32} {M : MR} {rest : List Value} {K : Int32 → MR → Option ρ} (hR : 3 + 1 ≤ R.frames ∧ 8 + (4 + 11) + 63 ≤ R.locals) (hcat : (rest.map fun v => v.category).sum ≤ 8) (d : decode cc pc = .ok (.invokevirtual 201, 3)) (kk : ∀ v M1, gG p l e R s m args below meth c nL (ZR D cI cZ q (AR q s.heap.size) s.heap M1) 0 0 QQ (pc + 3) lv (.int v :: rest) (K v M1)) : gG p l e R s m args below meth c nL (ZR D cI cZ q (AR q s.heap.size) s.heap M) 0 0 QQ pc lv (.int x2 :: .int x1 :: .ref (q 34) :: rest) (bnd (fR_isBelow n x1 x2 M) K) := r_callVi (As := [.int x1, .int x2]) X (c_isBelow l D cI cZ q n x1 x2 M) (cwVR (k := 2) X.2.2.2.2.1 tl_isBelow ti_isBelow te_isBelow tc_isBelow ini5 (by decide +kernel) hR) rfl rfl hcat d kk
end RM
