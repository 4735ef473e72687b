theorem dX5_newObject_0 : decode cX5_newObject 0 = .ok (.aload_n 0, 1) := by decide +kernel
theorem dX5_newObject_1 : decode cX5_newObject 1 = .ok (.getfield 8, 3) := by decide +kernel
theorem dX5_newObject_4 : decode cX5_newObject 4 = .ok (.iconst 2, 1) := by decide +kernel
theorem dX5_newObject_5 : decode cX5_newObject 5 = .ok (.iaload, 1) := by decide +kernel
theorem dX5_newObject_6 : decode cX5_newObject 6 = .ok (.istore_n 2, 1) := by decide +kernel
theorem dX5_newObject_7 : decode cX5_newObject 7 = .ok (.aload_n 0, 1) := by decide +kernel
theorem dX5_newObject_8 : decode cX5_newObject 8 = .ok (.getfield 8, 3) := by decide +kernel
theorem dX5_newObject_11 : decode cX5_newObject 11 = .ok (.iconst 2, 1) := by decide +kernel
theorem dX5_newObject_12 : decode cX5_newObject 12 = .ok (.dup2, 1) := by decide +kernel
theorem dX5_newObject_13 : decode cX5_newObject 13 = .ok (.iaload, 1) := by decide +kernel
theorem dX5_newObject_14 : decode cX5_newObject 14 = .ok (.iconst 1, 1) := by decide +kernel
theorem dX5_newObject_15 : decode cX5_newObject 15 = .ok (.iadd, 1) := by decide +kernel
theorem dX5_newObject_16 : decode cX5_newObject 16 = .ok (.iastore, 1) := by decide +kernel
theorem dX5_newObject_17 : decode cX5_newObject 17 = .ok (.aload_n 0, 1) := by decide +kernel
theorem dX5_newObject_18 : decode cX5_newObject 18 = .ok (.getfield 8, 3) := by decide +kernel
theorem dX5_newObject_21 : decode cX5_newObject 21 = .ok (.iload_n 2, 1) := by decide +kernel
theorem dX5_newObject_22 : decode cX5_newObject 22 = .ok (.invokestatic 141, 3) := by decide +kernel
theorem dX5_newObject_25 : decode cX5_newObject 25 = .ok (.iload_n 1, 1) := by decide +kernel
theorem dX5_newObject_26 : decode cX5_newObject 26 = .ok (.iastore, 1) := by decide +kernel
theorem dX5_newObject_27 : decode cX5_newObject 27 = .ok (.aload_n 0, 1) := by decide +kernel
theorem dX5_newObject_28 : decode cX5_newObject 28 = .ok (.getfield 8, 3) := by decide +kernel
theorem dX5_newObject_31 : decode cX5_newObject 31 = .ok (.iload_n 1, 1) := by decide +kernel
theorem dX5_newObject_32 : decode cX5_newObject 32 = .ok (.invokestatic 73, 3) := by decide +kernel
theorem dX5_newObject_35 : decode cX5_newObject 35 = .ok (.bipush 6, 2) := by decide +kernel
theorem dX5_newObject_37 : decode cX5_newObject 37 = .ok (.iadd, 1) := by decide +kernel
theorem dX5_newObject_38 : decode cX5_newObject 38 = .ok (.dup2, 1) := by decide +kernel
theorem dX5_newObject_39 : decode cX5_newObject 39 = .ok (.iaload, 1) := by decide +kernel
theorem dX5_newObject_40 : decode cX5_newObject 40 = .ok (.iconst 1, 1) := by decide +kernel
theorem dX5_newObject_41 : decode cX5_newObject 41 = .ok (.iadd, 1) := by decide +kernel
theorem dX5_newObject_42 : decode cX5_newObject 42 = .ok (.iastore, 1) := by decide +kernel
theorem dX5_newObject_43 : decode cX5_newObject 43 = .ok (.iconst 0, 1) := by decide +kernel
theorem dX5_newObject_44 : decode cX5_newObject 44 = .ok (.istore_n 3, 1) := by decide +kernel
theorem dX5_newObject_45 : decode cX5_newObject 45 = .ok (.iload_n 3, 1) := by decide +kernel
theorem dX5_newObject_46 : decode cX5_newObject 46 = .ok (.bipush 10, 2) := by decide +kernel
theorem dX5_newObject_48 : decode cX5_newObject 48 = .ok (.if_icmp .ge 113, 3) := by decide +kernel
theorem dX5_newObject_51 : decode cX5_newObject 51 = .ok (.aload_n 0, 1) := by decide +kernel
theorem dX5_newObject_52 : decode cX5_newObject 52 = .ok (.getfield 8, 3) := by decide +kernel
theorem dX5_newObject_55 : decode cX5_newObject 55 = .ok (.iload_n 2, 1) := by decide +kernel
theorem dX5_newObject_56 : decode cX5_newObject 56 = .ok (.invokestatic 141, 3) := by decide +kernel
theorem dX5_newObject_59 : decode cX5_newObject 59 = .ok (.iconst 1, 1) := by decide +kernel
theorem dX5_newObject_60 : decode cX5_newObject 60 = .ok (.iadd, 1) := by decide +kernel
theorem dX5_newObject_61 : decode cX5_newObject 61 = .ok (.iload_n 3, 1) := by decide +kernel
theorem dX5_newObject_62 : decode cX5_newObject 62 = .ok (.iadd, 1) := by decide +kernel
theorem dX5_newObject_63 : decode cX5_newObject 63 = .ok (.iconst 0, 1) := by decide +kernel
theorem dX5_newObject_64 : decode cX5_newObject 64 = .ok (.iastore, 1) := by decide +kernel
theorem dX5_newObject_65 : decode cX5_newObject 65 = .ok (.aload_n 0, 1) := by decide +kernel
theorem dX5_newObject_66 : decode cX5_newObject 66 = .ok (.getfield 8, 3) := by decide +kernel
theorem dX5_newObject_69 : decode cX5_newObject 69 = .ok (.iload_n 2, 1) := by decide +kernel
theorem dX5_newObject_70 : decode cX5_newObject 70 = .ok (.invokestatic 141, 3) := by decide +kernel
theorem dX5_newObject_73 : decode cX5_newObject 73 = .ok (.bipush 11, 2) := by decide +kernel
theorem dX5_newObject_75 : decode cX5_newObject 75 = .ok (.iadd, 1) := by decide +kernel
theorem dX5_newObject_76 : decode cX5_newObject 76 = .ok (.iload_n 3, 1) := by decide +kernel
theorem dX5_newObject_77 : decode cX5_newObject 77 = .ok (.iadd, 1) := by decide +kernel
theorem dX5_newObject_78 : decode cX5_newObject 78 = .ok (.iconst 0, 1) := by decide +kernel
theorem dX5_newObject_79 : decode cX5_newObject 79 = .ok (.iastore, 1) := by decide +kernel
theorem dX5_newObject_80 : decode cX5_newObject 80 = .ok (.iload_n 1, 1) := by decide +kernel
theorem dX5_newObject_81 : decode cX5_newObject 81 = .ok (.istore 4, 2) := by decide +kernel
theorem dX5_newObject_83 : decode cX5_newObject 83 = .ok (.iload 4, 2) := by decide +kernel
theorem dX5_newObject_85 : decode cX5_newObject 85 = .ok (.ifCond .lt 24, 3) := by decide +kernel
theorem dX5_newObject_88 : decode cX5_newObject 88 = .ok (.aload_n 0, 1) := by decide +kernel
theorem dX5_newObject_89 : decode cX5_newObject 89 = .ok (.iload 4, 2) := by decide +kernel
theorem dX5_newObject_91 : decode cX5_newObject 91 = .ok (.iload_n 3, 1) := by decide +kernel
theorem dX5_newObject_92 : decode cX5_newObject 92 = .ok (.invokevirtual 144, 3) := by decide +kernel
theorem dX5_newObject_95 : decode cX5_newObject 95 = .ok (.ifCond .ge 14, 3) := by decide +kernel
theorem dX5_newObject_98 : decode cX5_newObject 98 = .ok (.aload_n 0, 1) := by decide +kernel
theorem dX5_newObject_99 : decode cX5_newObject 99 = .ok (.iload 4, 2) := by decide +kernel
theorem dX5_newObject_101 : decode cX5_newObject 101 = .ok (.invokevirtual 138, 3) := by decide +kernel
theorem dX5_newObject_104 : decode cX5_newObject 104 = .ok (.istore 4, 2) := by decide +kernel
theorem dX5_newObject_106 : decode cX5_newObject 106 = .ok (.goto (-23), 3) := by decide +kernel
theorem dX5_newObject_109 : decode cX5_newObject 109 = .ok (.iload 4, 2) := by decide +kernel
theorem dX5_newObject_111 : decode cX5_newObject 111 = .ok (.ifCond .lt 44, 3) := by decide +kernel
theorem dX5_newObject_114 : decode cX5_newObject 114 = .ok (.aload_n 0, 1) := by decide +kernel
theorem dX5_newObject_115 : decode cX5_newObject 115 = .ok (.getfield 8, 3) := by decide +kernel
theorem dX5_newObject_118 : decode cX5_newObject 118 = .ok (.iload_n 2, 1) := by decide +kernel
theorem dX5_newObject_119 : decode cX5_newObject 119 = .ok (.invokestatic 141, 3) := by decide +kernel
theorem dX5_newObject_122 : decode cX5_newObject 122 = .ok (.iconst 1, 1) := by decide +kernel
theorem dX5_newObject_123 : decode cX5_newObject 123 = .ok (.iadd, 1) := by decide +kernel
theorem dX5_newObject_124 : decode cX5_newObject 124 = .ok (.iload_n 3, 1) := by decide +kernel
theorem dX5_newObject_125 : decode cX5_newObject 125 = .ok (.iadd, 1) := by decide +kernel
theorem dX5_newObject_126 : decode cX5_newObject 126 = .ok (.iconst 1, 1) := by decide +kernel
theorem dX5_newObject_127 : decode cX5_newObject 127 = .ok (.iastore, 1) := by decide +kernel
theorem dX5_newObject_128 : decode cX5_newObject 128 = .ok (.aload_n 0, 1) := by decide +kernel
theorem dX5_newObject_129 : decode cX5_newObject 129 = .ok (.getfield 8, 3) := by decide +kernel
theorem dX5_newObject_132 : decode cX5_newObject 132 = .ok (.iload_n 2, 1) := by decide +kernel
theorem dX5_newObject_133 : decode cX5_newObject 133 = .ok (.invokestatic 141, 3) := by decide +kernel
theorem dX5_newObject_136 : decode cX5_newObject 136 = .ok (.bipush 11, 2) := by decide +kernel
theorem dX5_newObject_138 : decode cX5_newObject 138 = .ok (.iadd, 1) := by decide +kernel
theorem dX5_newObject_139 : decode cX5_newObject 139 = .ok (.iload_n 3, 1) := by decide +kernel
theorem dX5_newObject_140 : decode cX5_newObject 140 = .ok (.iadd, 1) := by decide +kernel
theorem dX5_newObject_141 : decode cX5_newObject 141 = .ok (.aload_n 0, 1) := by decide +kernel
theorem dX5_newObject_142 : decode cX5_newObject 142 = .ok (.iload 4, 2) := by decide +kernel
theorem dX5_newObject_144 : decode cX5_newObject 144 = .ok (.aload_n 0, 1) := by decide +kernel
theorem dX5_newObject_145 : decode cX5_newObject 145 = .ok (.iload 4, 2) := by decide +kernel
theorem dX5_newObject_147 : decode cX5_newObject 147 = .ok (.iload_n 3, 1) := by decide +kernel
theorem dX5_newObject_148 : decode cX5_newObject 148 = .ok (.invokevirtual 144, 3) := by decide +kernel
theorem dX5_newObject_151 : decode cX5_newObject 151 = .ok (.invokevirtual 128, 3) := by decide +kernel
theorem dX5_newObject_154 : decode cX5_newObject 154 = .ok (.iastore, 1) := by decide +kernel
theorem dX5_newObject_155 : decode cX5_newObject 155 = .ok (.iinc 3 1, 3) := by decide +kernel
theorem dX5_newObject_158 : decode cX5_newObject 158 = .ok (.goto (-113), 3) := by decide +kernel
theorem dX5_newObject_161 : decode cX5_newObject 161 = .ok (.iload_n 2, 1) := by decide +kernel
theorem dX5_newObject_162 : decode cX5_newObject 162 = .ok (.ireturn, 1) := by decide +kernel
theorem dX5_push_0 : decode cX5_push 0 = .ok (.aload_n 0, 1) := by decide +kernel
theorem dX5_push_1 : decode cX5_push 1 = .ok (.getfield 30, 3) := by decide +kernel
theorem dX5_push_4 : decode cX5_push 4 = .ok (.aload_n 0, 1) := by decide +kernel
theorem dX5_push_5 : decode cX5_push 5 = .ok (.getfield 147, 3) := by decide +kernel
theorem dX5_push_8 : decode cX5_push 8 = .ok (.iload_n 1, 1) := by decide +kernel
theorem dX5_push_9 : decode cX5_push 9 = .ok (.bastore, 1) := by decide +kernel
theorem dX5_push_10 : decode cX5_push 10 = .ok (.aload_n 0, 1) := by decide +kernel
theorem dX5_push_11 : decode cX5_push 11 = .ok (.getfield 33, 3) := by decide +kernel
theorem dX5_push_14 : decode cX5_push 14 = .ok (.aload_n 0, 1) := by decide +kernel
theorem dX5_push_15 : decode cX5_push 15 = .ok (.getfield 147, 3) := by decide +kernel
theorem dX5_push_18 : decode cX5_push 18 = .ok (.iload_n 2, 1) := by decide +kernel
theorem dX5_push_19 : decode cX5_push 19 = .ok (.iastore, 1) := by decide +kernel
theorem dX5_push_20 : decode cX5_push 20 = .ok (.aload_n 0, 1) := by decide +kernel
theorem dX5_push_21 : decode cX5_push 21 = .ok (.dup, 1) := by decide +kernel
theorem dX5_push_22 : decode cX5_push 22 = .ok (.getfield 147, 3) := by decide +kernel
theorem dX5_push_25 : decode cX5_push 25 = .ok (.iconst 1, 1) := by decide +kernel
theorem dX5_push_26 : decode cX5_push 26 = .ok (.iadd, 1) := by decide +kernel
theorem dX5_push_27 : decode cX5_push 27 = .ok (.putfield 147, 3) := by decide +kernel
theorem dX5_push_30 : decode cX5_push 30 = .ok (.return_, 1) := by decide +kernel
theorem dX5_frame_0 : decode cX5_frame 0 = .ok (.aload_n 0, 1) := by decide +kernel
theorem dX5_frame_1 : decode cX5_frame 1 = .ok (.getfield 36, 3) := by decide +kernel
theorem dX5_frame_4 : decode cX5_frame 4 = .ok (.aload_n 0, 1) := by decide +kernel
theorem dX5_frame_5 : decode cX5_frame 5 = .ok (.getfield 150, 3) := by decide +kernel
theorem dX5_frame_8 : decode cX5_frame 8 = .ok (.iload_n 1, 1) := by decide +kernel
theorem dX5_frame_9 : decode cX5_frame 9 = .ok (.iastore, 1) := by decide +kernel
theorem dX5_frame_10 : decode cX5_frame 10 = .ok (.aload_n 0, 1) := by decide +kernel
theorem dX5_frame_11 : decode cX5_frame 11 = .ok (.getfield 39, 3) := by decide +kernel
theorem dX5_frame_14 : decode cX5_frame 14 = .ok (.aload_n 0, 1) := by decide +kernel
theorem dX5_frame_15 : decode cX5_frame 15 = .ok (.getfield 150, 3) := by decide +kernel
theorem dX5_frame_18 : decode cX5_frame 18 = .ok (.iload_n 2, 1) := by decide +kernel
theorem dX5_frame_19 : decode cX5_frame 19 = .ok (.iastore, 1) := by decide +kernel
theorem dX5_frame_20 : decode cX5_frame 20 = .ok (.aload_n 0, 1) := by decide +kernel
theorem dX5_frame_21 : decode cX5_frame 21 = .ok (.getfield 42, 3) := by decide +kernel
theorem dX5_frame_24 : decode cX5_frame 24 = .ok (.aload_n 0, 1) := by decide +kernel
theorem dX5_frame_25 : decode cX5_frame 25 = .ok (.getfield 150, 3) := by decide +kernel
theorem dX5_frame_28 : decode cX5_frame 28 = .ok (.iload_n 3, 1) := by decide +kernel
theorem dX5_frame_29 : decode cX5_frame 29 = .ok (.iastore, 1) := by decide +kernel
theorem dX5_frame_30 : decode cX5_frame 30 = .ok (.aload_n 0, 1) := by decide +kernel
theorem dX5_frame_31 : decode cX5_frame 31 = .ok (.getfield 45, 3) := by decide +kernel
theorem dX5_frame_34 : decode cX5_frame 34 = .ok (.aload_n 0, 1) := by decide +kernel
theorem dX5_frame_35 : decode cX5_frame 35 = .ok (.getfield 150, 3) := by decide +kernel
theorem dX5_frame_38 : decode cX5_frame 38 = .ok (.iload 4, 2) := by decide +kernel
theorem dX5_frame_40 : decode cX5_frame 40 = .ok (.iastore, 1) := by decide +kernel
theorem dX5_frame_41 : decode cX5_frame 41 = .ok (.aload_n 0, 1) := by decide +kernel
theorem dX5_frame_42 : decode cX5_frame 42 = .ok (.getfield 54, 3) := by decide +kernel
theorem dX5_frame_45 : decode cX5_frame 45 = .ok (.aload_n 0, 1) := by decide +kernel
theorem dX5_frame_46 : decode cX5_frame 46 = .ok (.getfield 150, 3) := by decide +kernel
theorem dX5_frame_49 : decode cX5_frame 49 = .ok (.iload 5, 2) := by decide +kernel
theorem dX5_frame_51 : decode cX5_frame 51 = .ok (.iastore, 1) := by decide +kernel
theorem dX5_frame_52 : decode cX5_frame 52 = .ok (.aload_n 0, 1) := by decide +kernel
theorem dX5_frame_53 : decode cX5_frame 53 = .ok (.getfield 48, 3) := by decide +kernel
theorem dX5_frame_56 : decode cX5_frame 56 = .ok (.aload_n 0, 1) := by decide +kernel
theorem dX5_frame_57 : decode cX5_frame 57 = .ok (.getfield 150, 3) := by decide +kernel
theorem dX5_frame_60 : decode cX5_frame 60 = .ok (.iconst 0, 1) := by decide +kernel
theorem dX5_frame_61 : decode cX5_frame 61 = .ok (.bastore, 1) := by decide +kernel
theorem dX5_frame_62 : decode cX5_frame 62 = .ok (.aload_n 0, 1) := by decide +kernel
theorem dX5_frame_63 : decode cX5_frame 63 = .ok (.getfield 51, 3) := by decide +kernel
theorem dX5_frame_66 : decode cX5_frame 66 = .ok (.aload_n 0, 1) := by decide +kernel
theorem dX5_frame_67 : decode cX5_frame 67 = .ok (.getfield 150, 3) := by decide +kernel
theorem dX5_frame_70 : decode cX5_frame 70 = .ok (.iconst 0, 1) := by decide +kernel
theorem dX5_frame_71 : decode cX5_frame 71 = .ok (.iastore, 1) := by decide +kernel
theorem dX5_frame_72 : decode cX5_frame 72 = .ok (.aload_n 0, 1) := by decide +kernel
theorem dX5_frame_73 : decode cX5_frame 73 = .ok (.dup, 1) := by decide +kernel
theorem dX5_frame_74 : decode cX5_frame 74 = .ok (.getfield 150, 3) := by decide +kernel
theorem dX5_frame_77 : decode cX5_frame 77 = .ok (.iconst 1, 1) := by decide +kernel
theorem dX5_frame_78 : decode cX5_frame 78 = .ok (.iadd, 1) := by decide +kernel
theorem dX5_frame_79 : decode cX5_frame 79 = .ok (.putfield 150, 3) := by decide +kernel
theorem dX5_frame_82 : decode cX5_frame 82 = .ok (.aload_n 0, 1) := by decide +kernel
theorem dX5_frame_83 : decode cX5_frame 83 = .ok (.dup, 1) := by decide +kernel
theorem dX5_frame_84 : decode cX5_frame 84 = .ok (.getfield 153, 3) := by decide +kernel
theorem dX5_frame_87 : decode cX5_frame 87 = .ok (.iload_n 1, 1) := by decide +kernel
theorem dX5_frame_88 : decode cX5_frame 88 = .ok (.ifCond .lt 7, 3) := by decide +kernel
theorem dX5_frame_91 : decode cX5_frame 91 = .ok (.iconst 1, 1) := by decide +kernel
theorem dX5_frame_92 : decode cX5_frame 92 = .ok (.goto 4, 3) := by decide +kernel
theorem dX5_frame_95 : decode cX5_frame 95 = .ok (.iconst 0, 1) := by decide +kernel
theorem dX5_frame_96 : decode cX5_frame 96 = .ok (.iadd, 1) := by decide +kernel
theorem dX5_frame_97 : decode cX5_frame 97 = .ok (.putfield 153, 3) := by decide +kernel
theorem dX5_frame_100 : decode cX5_frame 100 = .ok (.return_, 1) := by decide +kernel
theorem dX5_intAt_0 : decode cX5_intAt 0 = .ok (.aload_n 0, 1) := by decide +kernel
theorem dX5_intAt_1 : decode cX5_intAt 1 = .ok (.getfield 150, 3) := by decide +kernel
theorem dX5_intAt_4 : decode cX5_intAt 4 = .ok (.iconst 1, 1) := by decide +kernel
theorem dX5_intAt_5 : decode cX5_intAt 5 = .ok (.isub, 1) := by decide +kernel
theorem dX5_intAt_6 : decode cX5_intAt 6 = .ok (.istore_n 2, 1) := by decide +kernel
theorem dX5_intAt_7 : decode cX5_intAt 7 = .ok (.aload_n 0, 1) := by decide +kernel
theorem dX5_intAt_8 : decode cX5_intAt 8 = .ok (.getfield 36, 3) := by decide +kernel
theorem dX5_intAt_11 : decode cX5_intAt 11 = .ok (.iload_n 2, 1) := by decide +kernel
theorem dX5_intAt_12 : decode cX5_intAt 12 = .ok (.iaload, 1) := by decide +kernel
theorem dX5_intAt_13 : decode cX5_intAt 13 = .ok (.ifCond .ge 19, 3) := by decide +kernel
theorem dX5_intAt_16 : decode cX5_intAt 16 = .ok (.aload_n 0, 1) := by decide +kernel
theorem dX5_intAt_17 : decode cX5_intAt 17 = .ok (.getfield 24, 3) := by decide +kernel
theorem dX5_intAt_20 : decode cX5_intAt 20 = .ok (.aload_n 0, 1) := by decide +kernel
theorem dX5_intAt_21 : decode cX5_intAt 21 = .ok (.getfield 39, 3) := by decide +kernel
theorem dX5_intAt_24 : decode cX5_intAt 24 = .ok (.iload_n 2, 1) := by decide +kernel
theorem dX5_intAt_25 : decode cX5_intAt 25 = .ok (.iaload, 1) := by decide +kernel
theorem dX5_intAt_26 : decode cX5_intAt 26 = .ok (.iload_n 1, 1) := by decide +kernel
theorem dX5_intAt_27 : decode cX5_intAt 27 = .ok (.iadd, 1) := by decide +kernel
theorem dX5_intAt_28 : decode cX5_intAt 28 = .ok (.iaload, 1) := by decide +kernel
theorem dX5_intAt_29 : decode cX5_intAt 29 = .ok (.goto 21, 3) := by decide +kernel
theorem dX5_intAt_32 : decode cX5_intAt 32 = .ok (.aload_n 0, 1) := by decide +kernel
theorem dX5_intAt_33 : decode cX5_intAt 33 = .ok (.aload_n 0, 1) := by decide +kernel
theorem dX5_intAt_34 : decode cX5_intAt 34 = .ok (.getfield 36, 3) := by decide +kernel
theorem dX5_intAt_37 : decode cX5_intAt 37 = .ok (.iload_n 2, 1) := by decide +kernel
theorem dX5_intAt_38 : decode cX5_intAt 38 = .ok (.iaload, 1) := by decide +kernel
theorem dX5_intAt_39 : decode cX5_intAt 39 = .ok (.aload_n 0, 1) := by decide +kernel
theorem dX5_intAt_40 : decode cX5_intAt 40 = .ok (.getfield 39, 3) := by decide +kernel
theorem dX5_intAt_43 : decode cX5_intAt 43 = .ok (.iload_n 2, 1) := by decide +kernel
theorem dX5_intAt_44 : decode cX5_intAt 44 = .ok (.iaload, 1) := by decide +kernel
theorem dX5_intAt_45 : decode cX5_intAt 45 = .ok (.iload_n 1, 1) := by decide +kernel
theorem dX5_intAt_46 : decode cX5_intAt 46 = .ok (.iadd, 1) := by decide +kernel
theorem dX5_intAt_47 : decode cX5_intAt 47 = .ok (.invokevirtual 128, 3) := by decide +kernel
theorem dX5_intAt_50 : decode cX5_intAt 50 = .ok (.ireturn, 1) := by decide +kernel
theorem dX5_fail_0 : decode cX5_fail 0 = .ok (.aload_n 0, 1) := by decide +kernel
theorem dX5_fail_1 : decode cX5_fail 1 = .ok (.iload_n 1, 1) := by decide +kernel
theorem dX5_fail_2 : decode cX5_fail 2 = .ok (.putfield 156, 3) := by decide +kernel
theorem dX5_fail_5 : decode cX5_fail 5 = .ok (.iconst 0, 1) := by decide +kernel
theorem dX5_fail_6 : decode cX5_fail 6 = .ok (.istore_n 2, 1) := by decide +kernel
theorem dX5_fail_7 : decode cX5_fail 7 = .ok (.iload_n 2, 1) := by decide +kernel
theorem dX5_fail_8 : decode cX5_fail 8 = .ok (.aload_n 0, 1) := by decide +kernel
theorem dX5_fail_9 : decode cX5_fail 9 = .ok (.getfield 150, 3) := by decide +kernel
theorem dX5_fail_12 : decode cX5_fail 12 = .ok (.if_icmp .ge 52, 3) := by decide +kernel
theorem dX5_fail_15 : decode cX5_fail 15 = .ok (.aload_n 0, 1) := by decide +kernel
theorem dX5_fail_16 : decode cX5_fail 16 = .ok (.getfield 54, 3) := by decide +kernel
theorem dX5_fail_19 : decode cX5_fail 19 = .ok (.iload_n 2, 1) := by decide +kernel
theorem dX5_fail_20 : decode cX5_fail 20 = .ok (.iaload, 1) := by decide +kernel
theorem dX5_fail_21 : decode cX5_fail 21 = .ok (.ifCond .lt 37, 3) := by decide +kernel
theorem dX5_fail_24 : decode cX5_fail 24 = .ok (.aload_n 0, 1) := by decide +kernel
theorem dX5_fail_25 : decode cX5_fail 25 = .ok (.getfield 8, 3) := by decide +kernel
theorem dX5_fail_28 : decode cX5_fail 28 = .ok (.aload_n 0, 1) := by decide +kernel
theorem dX5_fail_29 : decode cX5_fail 29 = .ok (.getfield 54, 3) := by decide +kernel
theorem dX5_fail_32 : decode cX5_fail 32 = .ok (.iload_n 2, 1) := by decide +kernel
theorem dX5_fail_33 : decode cX5_fail 33 = .ok (.iaload, 1) := by decide +kernel
theorem dX5_fail_34 : decode cX5_fail 34 = .ok (.invokestatic 73, 3) := by decide +kernel
theorem dX5_fail_37 : decode cX5_fail 37 = .ok (.iconst 5, 1) := by decide +kernel
theorem dX5_fail_38 : decode cX5_fail 38 = .ok (.iadd, 1) := by decide +kernel
theorem dX5_fail_39 : decode cX5_fail 39 = .ok (.iconst 2, 1) := by decide +kernel
theorem dX5_fail_40 : decode cX5_fail 40 = .ok (.iastore, 1) := by decide +kernel
theorem dX5_fail_41 : decode cX5_fail 41 = .ok (.aload_n 0, 1) := by decide +kernel
theorem dX5_fail_42 : decode cX5_fail 42 = .ok (.iload_n 1, 1) := by decide +kernel
theorem dX5_fail_43 : decode cX5_fail 43 = .ok (.bipush 100, 2) := by decide +kernel
theorem dX5_fail_45 : decode cX5_fail 45 = .ok (.if_icmp .ne 8, 3) := by decide +kernel
theorem dX5_fail_48 : decode cX5_fail 48 = .ok (.bipush 100, 2) := by decide +kernel
theorem dX5_fail_50 : decode cX5_fail 50 = .ok (.goto 5, 3) := by decide +kernel
theorem dX5_fail_53 : decode cX5_fail 53 = .ok (.bipush 6, 2) := by decide +kernel
theorem dX5_fail_55 : decode cX5_fail 55 = .ok (.putfield 156, 3) := by decide +kernel
theorem dX5_fail_58 : decode cX5_fail 58 = .ok (.iinc 2 1, 3) := by decide +kernel
theorem dX5_fail_61 : decode cX5_fail 61 = .ok (.goto (-54), 3) := by decide +kernel
theorem dX5_fail_64 : decode cX5_fail 64 = .ok (.return_, 1) := by decide +kernel
theorem dX5_finish_0 : decode cX5_finish 0 = .ok (.aload_n 0, 1) := by decide +kernel
theorem dX5_finish_1 : decode cX5_finish 1 = .ok (.dup, 1) := by decide +kernel
theorem dX5_finish_2 : decode cX5_finish 2 = .ok (.getfield 150, 3) := by decide +kernel
theorem dX5_finish_5 : decode cX5_finish 5 = .ok (.iconst 1, 1) := by decide +kernel
theorem dX5_finish_6 : decode cX5_finish 6 = .ok (.isub, 1) := by decide +kernel
theorem dX5_finish_7 : decode cX5_finish 7 = .ok (.putfield 150, 3) := by decide +kernel
theorem dX5_finish_10 : decode cX5_finish 10 = .ok (.aload_n 0, 1) := by decide +kernel
theorem dX5_finish_11 : decode cX5_finish 11 = .ok (.dup, 1) := by decide +kernel
theorem dX5_finish_12 : decode cX5_finish 12 = .ok (.getfield 153, 3) := by decide +kernel
theorem dX5_finish_15 : decode cX5_finish 15 = .ok (.aload_n 0, 1) := by decide +kernel
theorem dX5_finish_16 : decode cX5_finish 16 = .ok (.getfield 36, 3) := by decide +kernel
theorem dX5_finish_19 : decode cX5_finish 19 = .ok (.aload_n 0, 1) := by decide +kernel
theorem dX5_finish_20 : decode cX5_finish 20 = .ok (.getfield 150, 3) := by decide +kernel
theorem dX5_finish_23 : decode cX5_finish 23 = .ok (.iaload, 1) := by decide +kernel
theorem dX5_finish_24 : decode cX5_finish 24 = .ok (.ifCond .lt 7, 3) := by decide +kernel
theorem dX5_finish_27 : decode cX5_finish 27 = .ok (.iconst 1, 1) := by decide +kernel
theorem dX5_finish_28 : decode cX5_finish 28 = .ok (.goto 4, 3) := by decide +kernel
theorem dX5_finish_31 : decode cX5_finish 31 = .ok (.iconst 0, 1) := by decide +kernel
theorem dX5_finish_32 : decode cX5_finish 32 = .ok (.isub, 1) := by decide +kernel
theorem dX5_finish_33 : decode cX5_finish 33 = .ok (.putfield 153, 3) := by decide +kernel
theorem dX5_finish_36 : decode cX5_finish 36 = .ok (.aload_n 0, 1) := by decide +kernel
theorem dX5_finish_37 : decode cX5_finish 37 = .ok (.getfield 54, 3) := by decide +kernel
theorem dX5_finish_40 : decode cX5_finish 40 = .ok (.aload_n 0, 1) := by decide +kernel
theorem dX5_finish_41 : decode cX5_finish 41 = .ok (.getfield 150, 3) := by decide +kernel
theorem dX5_finish_44 : decode cX5_finish 44 = .ok (.iaload, 1) := by decide +kernel
theorem dX5_finish_45 : decode cX5_finish 45 = .ok (.ifCond .lt 18, 3) := by decide +kernel
theorem dX5_finish_48 : decode cX5_finish 48 = .ok (.aload_n 0, 1) := by decide +kernel
theorem dX5_finish_49 : decode cX5_finish 49 = .ok (.dup, 1) := by decide +kernel
theorem dX5_finish_50 : decode cX5_finish 50 = .ok (.getfield 147, 3) := by decide +kernel
theorem dX5_finish_53 : decode cX5_finish 53 = .ok (.iconst 1, 1) := by decide +kernel
theorem dX5_finish_54 : decode cX5_finish 54 = .ok (.isub, 1) := by decide +kernel
theorem dX5_finish_55 : decode cX5_finish 55 = .ok (.putfield 147, 3) := by decide +kernel
theorem dX5_finish_58 : decode cX5_finish 58 = .ok (.aload_n 0, 1) := by decide +kernel
theorem dX5_finish_59 : decode cX5_finish 59 = .ok (.iconst 1, 1) := by decide +kernel
theorem dX5_finish_60 : decode cX5_finish 60 = .ok (.putfield 162, 3) := by decide +kernel
theorem dX5_finish_63 : decode cX5_finish 63 = .ok (.return_, 1) := by decide +kernel
theorem dX5_ask_0 : decode cX5_ask 0 = .ok (.aload_n 0, 1) := by decide +kernel
theorem dX5_ask_1 : decode cX5_ask 1 = .ok (.getfield 30, 3) := by decide +kernel
theorem dX5_ask_4 : decode cX5_ask 4 = .ok (.aload_n 0, 1) := by decide +kernel
theorem dX5_ask_5 : decode cX5_ask 5 = .ok (.getfield 147, 3) := by decide +kernel
theorem dX5_ask_8 : decode cX5_ask 8 = .ok (.iconst 1, 1) := by decide +kernel
theorem dX5_ask_9 : decode cX5_ask 9 = .ok (.isub, 1) := by decide +kernel
theorem dX5_ask_10 : decode cX5_ask 10 = .ok (.baload, 1) := by decide +kernel
theorem dX5_ask_11 : decode cX5_ask 11 = .ok (.ifCond .eq 34, 3) := by decide +kernel
theorem dX5_ask_14 : decode cX5_ask 14 = .ok (.aload_n 0, 1) := by decide +kernel
theorem dX5_ask_15 : decode cX5_ask 15 = .ok (.aload_n 0, 1) := by decide +kernel
theorem dX5_ask_16 : decode cX5_ask 16 = .ok (.getfield 8, 3) := by decide +kernel
theorem dX5_ask_19 : decode cX5_ask 19 = .ok (.aload_n 0, 1) := by decide +kernel
theorem dX5_ask_20 : decode cX5_ask 20 = .ok (.getfield 33, 3) := by decide +kernel
theorem dX5_ask_23 : decode cX5_ask 23 = .ok (.aload_n 0, 1) := by decide +kernel
theorem dX5_ask_24 : decode cX5_ask 24 = .ok (.getfield 147, 3) := by decide +kernel
theorem dX5_ask_27 : decode cX5_ask 27 = .ok (.iconst 1, 1) := by decide +kernel
theorem dX5_ask_28 : decode cX5_ask 28 = .ok (.isub, 1) := by decide +kernel
theorem dX5_ask_29 : decode cX5_ask 29 = .ok (.iaload, 1) := by decide +kernel
theorem dX5_ask_30 : decode cX5_ask 30 = .ok (.invokestatic 141, 3) := by decide +kernel
theorem dX5_ask_33 : decode cX5_ask 33 = .ok (.iaload, 1) := by decide +kernel
theorem dX5_ask_34 : decode cX5_ask 34 = .ok (.iload_n 2, 1) := by decide +kernel
theorem dX5_ask_35 : decode cX5_ask 35 = .ok (.invokevirtual 201, 3) := by decide +kernel
theorem dX5_ask_38 : decode cX5_ask 38 = .ok (.ifCond .eq 7, 3) := by decide +kernel
theorem dX5_ask_41 : decode cX5_ask 41 = .ok (.iconst 1, 1) := by decide +kernel
theorem dX5_ask_42 : decode cX5_ask 42 = .ok (.goto 4, 3) := by decide +kernel
theorem dX5_ask_45 : decode cX5_ask 45 = .ok (.iconst 0, 1) := by decide +kernel
theorem dX5_ask_46 : decode cX5_ask 46 = .ok (.istore_n 3, 1) := by decide +kernel
theorem dX5_ask_47 : decode cX5_ask 47 = .ok (.iload_n 1, 1) := by decide +kernel
theorem dX5_ask_48 : decode cX5_ask 48 = .ok (.iconst 4, 1) := by decide +kernel
theorem dX5_ask_49 : decode cX5_ask 49 = .ok (.if_icmp .ne 15, 3) := by decide +kernel
theorem dX5_ask_52 : decode cX5_ask 52 = .ok (.iload_n 3, 1) := by decide +kernel
theorem dX5_ask_53 : decode cX5_ask 53 = .ok (.ifCond .ne 11, 3) := by decide +kernel
theorem dX5_ask_56 : decode cX5_ask 56 = .ok (.aload_n 0, 1) := by decide +kernel
theorem dX5_ask_57 : decode cX5_ask 57 = .ok (.iconst 5, 1) := by decide +kernel
theorem dX5_ask_58 : decode cX5_ask 58 = .ok (.invokevirtual 169, 3) := by decide +kernel
theorem dX5_ask_61 : decode cX5_ask 61 = .ok (.goto 40, 3) := by decide +kernel
theorem dX5_ask_64 : decode cX5_ask 64 = .ok (.iload_n 1, 1) := by decide +kernel
theorem dX5_ask_65 : decode cX5_ask 65 = .ok (.iconst 3, 1) := by decide +kernel
theorem dX5_ask_66 : decode cX5_ask 66 = .ok (.if_icmp .ne 35, 3) := by decide +kernel
theorem dX5_ask_69 : decode cX5_ask 69 = .ok (.aload_n 0, 1) := by decide +kernel
theorem dX5_ask_70 : decode cX5_ask 70 = .ok (.getfield 30, 3) := by decide +kernel
theorem dX5_ask_73 : decode cX5_ask 73 = .ok (.aload_n 0, 1) := by decide +kernel
theorem dX5_ask_74 : decode cX5_ask 74 = .ok (.getfield 147, 3) := by decide +kernel
theorem dX5_ask_77 : decode cX5_ask 77 = .ok (.iconst 1, 1) := by decide +kernel
theorem dX5_ask_78 : decode cX5_ask 78 = .ok (.isub, 1) := by decide +kernel
theorem dX5_ask_79 : decode cX5_ask 79 = .ok (.iconst 0, 1) := by decide +kernel
theorem dX5_ask_80 : decode cX5_ask 80 = .ok (.bastore, 1) := by decide +kernel
theorem dX5_ask_81 : decode cX5_ask 81 = .ok (.aload_n 0, 1) := by decide +kernel
theorem dX5_ask_82 : decode cX5_ask 82 = .ok (.getfield 33, 3) := by decide +kernel
theorem dX5_ask_85 : decode cX5_ask 85 = .ok (.aload_n 0, 1) := by decide +kernel
theorem dX5_ask_86 : decode cX5_ask 86 = .ok (.getfield 147, 3) := by decide +kernel
theorem dX5_ask_89 : decode cX5_ask 89 = .ok (.iconst 1, 1) := by decide +kernel
theorem dX5_ask_90 : decode cX5_ask 90 = .ok (.isub, 1) := by decide +kernel
theorem dX5_ask_91 : decode cX5_ask 91 = .ok (.iload_n 3, 1) := by decide +kernel
theorem dX5_ask_92 : decode cX5_ask 92 = .ok (.ifCond .eq 7, 3) := by decide +kernel
theorem dX5_ask_95 : decode cX5_ask 95 = .ok (.iconst 1, 1) := by decide +kernel
theorem dX5_ask_96 : decode cX5_ask 96 = .ok (.goto 4, 3) := by decide +kernel
theorem dX5_ask_99 : decode cX5_ask 99 = .ok (.iconst 0, 1) := by decide +kernel
theorem dX5_ask_100 : decode cX5_ask 100 = .ok (.iastore, 1) := by decide +kernel
theorem dX5_ask_101 : decode cX5_ask 101 = .ok (.return_, 1) := by decide +kernel
theorem dX5_method_0 : decode cX5_method 0 = .ok (.aload_n 0, 1) := by decide +kernel
theorem dX5_method_1 : decode cX5_method 1 = .ok (.getfield 8, 3) := by decide +kernel
theorem dX5_method_4 : decode cX5_method 4 = .ok (.iload_n 1, 1) := by decide +kernel
theorem dX5_method_5 : decode cX5_method 5 = .ok (.invokestatic 141, 3) := by decide +kernel
theorem dX5_method_8 : decode cX5_method 8 = .ok (.iaload, 1) := by decide +kernel
theorem dX5_method_9 : decode cX5_method 9 = .ok (.istore_n 3, 1) := by decide +kernel
theorem dX5_method_10 : decode cX5_method 10 = .ok (.iload_n 3, 1) := by decide +kernel
theorem dX5_method_11 : decode cX5_method 11 = .ok (.ifCond .lt 21, 3) := by decide +kernel
theorem dX5_method_14 : decode cX5_method 14 = .ok (.aload_n 0, 1) := by decide +kernel
theorem dX5_method_15 : decode cX5_method 15 = .ok (.iload_n 3, 1) := by decide +kernel
theorem dX5_method_16 : decode cX5_method 16 = .ok (.iload_n 2, 1) := by decide +kernel
theorem dX5_method_17 : decode cX5_method 17 = .ok (.invokevirtual 208, 3) := by decide +kernel
theorem dX5_method_20 : decode cX5_method 20 = .ok (.ifCond .ge 12, 3) := by decide +kernel
theorem dX5_method_23 : decode cX5_method 23 = .ok (.aload_n 0, 1) := by decide +kernel
theorem dX5_method_24 : decode cX5_method 24 = .ok (.iload_n 3, 1) := by decide +kernel
theorem dX5_method_25 : decode cX5_method 25 = .ok (.invokevirtual 138, 3) := by decide +kernel
theorem dX5_method_28 : decode cX5_method 28 = .ok (.istore_n 3, 1) := by decide +kernel
theorem dX5_method_29 : decode cX5_method 29 = .ok (.goto (-19), 3) := by decide +kernel
theorem dX5_method_32 : decode cX5_method 32 = .ok (.iload_n 3, 1) := by decide +kernel
theorem dX5_method_33 : decode cX5_method 33 = .ok (.ifCond .ge 9, 3) := by decide +kernel
theorem dX5_method_36 : decode cX5_method 36 = .ok (.aload_n 0, 1) := by decide +kernel
theorem dX5_method_37 : decode cX5_method 37 = .ok (.iconst 4, 1) := by decide +kernel
theorem dX5_method_38 : decode cX5_method 38 = .ok (.invokevirtual 169, 3) := by decide +kernel
theorem dX5_method_41 : decode cX5_method 41 = .ok (.return_, 1) := by decide +kernel
theorem dX5_method_42 : decode cX5_method 42 = .ok (.aload_n 0, 1) := by decide +kernel
theorem dX5_method_43 : decode cX5_method 43 = .ok (.getfield 153, 3) := by decide +kernel
theorem dX5_method_46 : decode cX5_method 46 = .ok (.bipush 20, 2) := by decide +kernel
theorem dX5_method_48 : decode cX5_method 48 = .ok (.if_icmp .ne 10, 3) := by decide +kernel
theorem dX5_method_51 : decode cX5_method 51 = .ok (.aload_n 0, 1) := by decide +kernel
theorem dX5_method_52 : decode cX5_method 52 = .ok (.bipush 7, 2) := by decide +kernel
theorem dX5_method_54 : decode cX5_method 54 = .ok (.invokevirtual 169, 3) := by decide +kernel
theorem dX5_method_57 : decode cX5_method 57 = .ok (.return_, 1) := by decide +kernel
theorem dX5_method_58 : decode cX5_method 58 = .ok (.aload_n 0, 1) := by decide +kernel
theorem dX5_method_59 : decode cX5_method 59 = .ok (.iload_n 3, 1) := by decide +kernel
theorem dX5_method_60 : decode cX5_method 60 = .ok (.iload_n 2, 1) := by decide +kernel
theorem dX5_method_61 : decode cX5_method 61 = .ok (.invokevirtual 208, 3) := by decide +kernel
theorem dX5_method_64 : decode cX5_method 64 = .ok (.istore 4, 2) := by decide +kernel
theorem dX5_method_66 : decode cX5_method 66 = .ok (.aload_n 0, 1) := by decide +kernel
theorem dX5_method_67 : decode cX5_method 67 = .ok (.dup, 1) := by decide +kernel
theorem dX5_method_68 : decode cX5_method 68 = .ok (.getfield 147, 3) := by decide +kernel
theorem dX5_method_71 : decode cX5_method 71 = .ok (.iconst 2, 1) := by decide +kernel
theorem dX5_method_72 : decode cX5_method 72 = .ok (.isub, 1) := by decide +kernel
theorem dX5_method_73 : decode cX5_method 73 = .ok (.putfield 147, 3) := by decide +kernel
theorem dX5_method_76 : decode cX5_method 76 = .ok (.aload_n 0, 1) := by decide +kernel
theorem dX5_method_77 : decode cX5_method 77 = .ok (.getfield 30, 3) := by decide +kernel
theorem dX5_method_80 : decode cX5_method 80 = .ok (.aload_n 0, 1) := by decide +kernel
theorem dX5_method_81 : decode cX5_method 81 = .ok (.getfield 147, 3) := by decide +kernel
theorem dX5_method_84 : decode cX5_method 84 = .ok (.iconst 1, 1) := by decide +kernel
theorem dX5_method_85 : decode cX5_method 85 = .ok (.iadd, 1) := by decide +kernel
theorem dX5_method_86 : decode cX5_method 86 = .ok (.baload, 1) := by decide +kernel
theorem dX5_method_87 : decode cX5_method 87 = .ok (.istore 5, 2) := by decide +kernel
theorem dX5_method_89 : decode cX5_method 89 = .ok (.aload_n 0, 1) := by decide +kernel
theorem dX5_method_90 : decode cX5_method 90 = .ok (.getfield 33, 3) := by decide +kernel
theorem dX5_method_93 : decode cX5_method 93 = .ok (.aload_n 0, 1) := by decide +kernel
theorem dX5_method_94 : decode cX5_method 94 = .ok (.getfield 147, 3) := by decide +kernel
theorem dX5_method_97 : decode cX5_method 97 = .ok (.iconst 1, 1) := by decide +kernel
theorem dX5_method_98 : decode cX5_method 98 = .ok (.iadd, 1) := by decide +kernel
theorem dX5_method_99 : decode cX5_method 99 = .ok (.iaload, 1) := by decide +kernel
theorem dX5_method_100 : decode cX5_method 100 = .ok (.istore 6, 2) := by decide +kernel
theorem dX5_method_102 : decode cX5_method 102 = .ok (.aload_n 0, 1) := by decide +kernel
theorem dX5_method_103 : decode cX5_method 103 = .ok (.iload_n 3, 1) := by decide +kernel
theorem dX5_method_104 : decode cX5_method 104 = .ok (.iload 4, 2) := by decide +kernel
theorem dX5_method_106 : decode cX5_method 106 = .ok (.iconst 1, 1) := by decide +kernel
theorem dX5_method_107 : decode cX5_method 107 = .ok (.iadd, 1) := by decide +kernel
theorem dX5_method_108 : decode cX5_method 108 = .ok (.iload 4, 2) := by decide +kernel
theorem dX5_method_110 : decode cX5_method 110 = .ok (.iconst 1, 1) := by decide +kernel
theorem dX5_method_111 : decode cX5_method 111 = .ok (.iadd, 1) := by decide +kernel
theorem dX5_method_112 : decode cX5_method 112 = .ok (.aload_n 0, 1) := by decide +kernel
theorem dX5_method_113 : decode cX5_method 113 = .ok (.iload_n 3, 1) := by decide +kernel
theorem dX5_method_114 : decode cX5_method 114 = .ok (.iload 4, 2) := by decide +kernel
theorem dX5_method_116 : decode cX5_method 116 = .ok (.invokevirtual 128, 3) := by decide +kernel
theorem dX5_method_119 : decode cX5_method 119 = .ok (.iadd, 1) := by decide +kernel
theorem dX5_method_120 : decode cX5_method 120 = .ok (.iload_n 1, 1) := by decide +kernel
theorem dX5_method_121 : decode cX5_method 121 = .ok (.iconst (-1), 1) := by decide +kernel
theorem dX5_method_122 : decode cX5_method 122 = .ok (.invokevirtual 211, 3) := by decide +kernel
theorem dX5_method_125 : decode cX5_method 125 = .ok (.aload_n 0, 1) := by decide +kernel
theorem dX5_method_126 : decode cX5_method 126 = .ok (.getfield 48, 3) := by decide +kernel
theorem dX5_method_129 : decode cX5_method 129 = .ok (.aload_n 0, 1) := by decide +kernel
theorem dX5_method_130 : decode cX5_method 130 = .ok (.getfield 150, 3) := by decide +kernel
theorem dX5_method_133 : decode cX5_method 133 = .ok (.iconst 1, 1) := by decide +kernel
theorem dX5_method_134 : decode cX5_method 134 = .ok (.isub, 1) := by decide +kernel
theorem dX5_method_135 : decode cX5_method 135 = .ok (.iload 5, 2) := by decide +kernel
theorem dX5_method_137 : decode cX5_method 137 = .ok (.bastore, 1) := by decide +kernel
theorem dX5_method_138 : decode cX5_method 138 = .ok (.aload_n 0, 1) := by decide +kernel
theorem dX5_method_139 : decode cX5_method 139 = .ok (.getfield 51, 3) := by decide +kernel
theorem dX5_method_142 : decode cX5_method 142 = .ok (.aload_n 0, 1) := by decide +kernel
theorem dX5_method_143 : decode cX5_method 143 = .ok (.getfield 150, 3) := by decide +kernel
theorem dX5_method_146 : decode cX5_method 146 = .ok (.iconst 1, 1) := by decide +kernel
theorem dX5_method_147 : decode cX5_method 147 = .ok (.isub, 1) := by decide +kernel
theorem dX5_method_148 : decode cX5_method 148 = .ok (.iload 6, 2) := by decide +kernel
theorem dX5_method_150 : decode cX5_method 150 = .ok (.iastore, 1) := by decide +kernel
theorem dX5_method_151 : decode cX5_method 151 = .ok (.return_, 1) := by decide +kernel
section RM
variable {ρ : Type} {p : Program} {l : Launch} {e : Env} {R : Room} {s : State} {m : MethodId} {args : Array Value} {below : List Frame} {meth : Method} {c : Code}
variable {cc : ByteArray} {nL : Nat} {rt : Option FieldType} {D : va_G} {cI cZ : ClassId} {q : Nat → Nat} {QQ : ρ → State → Prop} {pc : Nat} {lv : List (Nat × Value)}

-- newObject
def fR_newObject_b155 (n : Nat) (k45 : Int32 → Int32 → Int32 → MR → Option (Int32 × MR)) (x1 : Int32) (x2 : Int32) (x3 : Int32) (M : MR) : Option (Int32 × MR) :=
    k45 x1 x2 (x3 + (nI 1)) M
theorem wR_newObject_b155 (X : gX p s m args meth c cX5_newObject 5 RX5 (some .int) D (tyR cI cZ)) (n : Nat) (k45 : Int32 → Int32 → Int32 → MR → Option (Int32 × MR)) (hk45 : ∀ (x1 : Int32) (x2 : Int32) (x3 : Int32) (M : MR), gG p l e (rmR 3 65) s m args below meth c 5 (ZR D cI cZ q (AR q s.heap.size) s.heap M) 0 0 (fun r => MQ below (QI D cI cZ q s.heap.size r) args s 0 0 (AR q s.heap.size)) 45 [(0, .ref (q 34)), (1, .int x1), (2, .int x2), (3, .int x3)] [] (k45 x1 x2 x3 M)) (x1 : Int32) (x2 : Int32) (x3 : Int32) (M : MR) : gG p l e (rmR 3 65) s m args below meth c 5 (ZR D cI cZ q (AR q s.heap.size) s.heap M) 0 0 (fun r => MQ below (QI D cI cZ q s.heap.size r) args s 0 0 (AR q s.heap.size)) 155 [(0, .ref (q 34)), (1, .int x1), (2, .int x2), (3, .int x3)] [] (fR_newObject_b155 n k45 x1 x2 x3 M) := by
  unfold fR_newObject_b155
  refine g_iinc (v := (nI 1)) (lv' := [(3, .int (x3 + (nI 1))), (0, .ref (q 34)), (1, .int x1), (2, .int x2)]) X dX5_newObject_155 rfl (by decide) (by decide) rfl ?_
  refine g_goto (tgt := 45) X dX5_newObject_158 (by decide) ?_
  exact g_pick [1, 2, 3, 0] rfl (hk45 x1 x2 (x3 + (nI 1)) M)
def fR_newObject_b109 (n : Nat) (k45 : Int32 → Int32 → Int32 → MR → Option (Int32 × MR)) (x1 : Int32) (x2 : Int32) (x3 : Int32) (x4 : Int32) (M : MR) : Option (Int32 × MR) :=
    if x4 < 0 then
      (fR_newObject_b155 n k45 x1 x2 x3 M)
    else
      (bnd (fR_objAt n x2 M) fun v1 M1 =>
      wr M1 0 62610 ((v1 + (nI 1)) + x3) (nI 1) fun M2 =>
      bnd (fR_objAt n x2 M2) fun v3 M3 =>
      bnd (fR_ownField n x4 x3 M3) fun v4 M4 =>
      bnd (fR_textOf n x4 v4 M4) fun v5 M5 =>
      wr M5 0 62610 ((v3 + (nI 11)) + x3) v5 fun M6 =>
      fR_newObject_b155 n k45 x1 x2 x3 M6)
theorem wR_newObject_b109 (X : gX p s m args meth c cX5_newObject 5 RX5 (some .int) D (tyR cI cZ)) (n : Nat) (k45 : Int32 → Int32 → Int32 → MR → Option (Int32 × MR)) (hk45 : ∀ (x1 : Int32) (x2 : Int32) (x3 : Int32) (M : MR), gG p l e (rmR 3 65) s m args below meth c 5 (ZR D cI cZ q (AR q s.heap.size) s.heap M) 0 0 (fun r => MQ below (QI D cI cZ q s.heap.size r) args s 0 0 (AR q s.heap.size)) 45 [(0, .ref (q 34)), (1, .int x1), (2, .int x2), (3, .int x3)] [] (k45 x1 x2 x3 M)) (x1 : Int32) (x2 : Int32) (x3 : Int32) (x4 : Int32) (M : MR) : gG p l e (rmR 3 65) s m args below meth c 5 (ZR D cI cZ q (AR q s.heap.size) s.heap M) 0 0 (fun r => MQ below (QI D cI cZ q s.heap.size r) args s 0 0 (AR q s.heap.size)) 109 [(0, .ref (q 34)), (1, .int x1), (2, .int x2), (3, .int x3), (4, .int x4)] [] (fR_newObject_b109 n k45 x1 x2 x3 x4 M) := by
  unfold fR_newObject_b109
  refine g_iload X dX5_newObject_109 rfl ?_
  refine g_if_lt (tgt := 155) X dX5_newObject_111 (by decide) ?_ ?_
  · exact g_pick [0, 1, 2, 3] rfl (wR_newObject_b155 X n k45 hk45 x1 x2 x3 M)
  · refine g_aload_n X dX5_newObject_114 rfl rfl ?_
    refine r_g_m X dX5_newObject_115 ?_
    refine g_iload_n X dX5_newObject_118 rfl rfl ?_
    refine k_objAt X ⟨Nat.le_of_ble_eq_true rfl, Nat.le_of_ble_eq_true rfl⟩ (Nat.le_of_ble_eq_true rfl) dX5_newObject_119 ?_
    intro v1 M1
    refine g_iconst (v := (nI 1)) X dX5_newObject_122 (by decide) ?_
    refine g_iadd X dX5_newObject_123 ?_
    refine g_iload_n X dX5_newObject_124 rfl rfl ?_
    refine g_iadd X dX5_newObject_125 ?_
    refine g_iconst (v := (nI 1)) X dX5_newObject_126 (by decide) ?_
    refine r_s_m X dX5_newObject_127 ?_
    intro M2
    refine g_aload_n X dX5_newObject_128 rfl rfl ?_
    refine r_g_m X dX5_newObject_129 ?_
    refine g_iload_n X dX5_newObject_132 rfl rfl ?_
    refine k_objAt X ⟨Nat.le_of_ble_eq_true rfl, Nat.le_of_ble_eq_true rfl⟩ (Nat.le_of_ble_eq_true rfl) dX5_newObject_133 ?_
    intro v3 M3
    refine g_bipush (v := (nI 11)) X dX5_newObject_136 (by decide) ?_
    refine g_iadd X dX5_newObject_138 ?_
    refine g_iload_n X dX5_newObject_139 rfl rfl ?_
    refine g_iadd X dX5_newObject_140 ?_
    refine g_aload_n X dX5_newObject_141 rfl rfl ?_
    refine g_iload X dX5_newObject_142 rfl ?_
    refine g_aload_n X dX5_newObject_144 rfl rfl ?_
    refine g_iload X dX5_newObject_145 rfl ?_
    refine g_iload_n X dX5_newObject_147 rfl rfl ?_
    refine k_ownField X ⟨Nat.le_of_ble_eq_true rfl, Nat.le_of_ble_eq_true rfl⟩ (Nat.le_of_ble_eq_true rfl) dX5_newObject_148 ?_
    intro v4 M4
    refine k_textOf X ⟨Nat.le_of_ble_eq_true rfl, Nat.le_of_ble_eq_true rfl⟩ (Nat.le_of_ble_eq_true rfl) dX5_newObject_151 ?_
    intro v5 M5
    refine r_s_m X dX5_newObject_154 ?_
    intro M6
    exact g_pick [0, 1, 2, 3] rfl (wR_newObject_b155 X n k45 hk45 x1 x2 x3 M6)
def fR_newObject_l83 (n : Nat) (k45 : Int32 → Int32 → Int32 → MR → Option (Int32 × MR)) : Nat → Int32 → Int32 → Int32 → Int32 → MR → Option (Int32 × MR)
  | 0, _, _, _, _, _ => none
  | k + 1, x1, x2, x3, x4, M => if x4 < 0 then
      (fR_newObject_b109 n k45 x1 x2 x3 x4 M)
    else
      (bnd (fR_ownField n x4 x3 M) fun v1 M1 =>
      if 0 ≤ v1 then
        (fR_newObject_b109 n k45 x1 x2 x3 x4 M1)
      else
        (bnd (fR_parentOf n x4 M1) fun v2 M2 =>
        (fR_newObject_l83 n k45 k) x1 x2 x3 v2 M2))
theorem wR_newObject_l83 (X : gX p s m args meth c cX5_newObject 5 RX5 (some .int) D (tyR cI cZ)) (n : Nat) (k45 : Int32 → Int32 → Int32 → MR → Option (Int32 × MR)) (hk45 : ∀ (x1 : Int32) (x2 : Int32) (x3 : Int32) (M : MR), gG p l e (rmR 3 65) s m args below meth c 5 (ZR D cI cZ q (AR q s.heap.size) s.heap M) 0 0 (fun r => MQ below (QI D cI cZ q s.heap.size r) args s 0 0 (AR q s.heap.size)) 45 [(0, .ref (q 34)), (1, .int x1), (2, .int x2), (3, .int x3)] [] (k45 x1 x2 x3 M)) : ∀ (k : Nat) (x1 : Int32) (x2 : Int32) (x3 : Int32) (x4 : Int32) (M : MR), gG p l e (rmR 3 65) s m args below meth c 5 (ZR D cI cZ q (AR q s.heap.size) s.heap M) 0 0 (fun r => MQ below (QI D cI cZ q s.heap.size r) args s 0 0 (AR q s.heap.size)) 83 [(0, .ref (q 34)), (1, .int x1), (2, .int x2), (3, .int x3), (4, .int x4)] [] (fR_newObject_l83 n k45 k x1 x2 x3 x4 M) := by
  intro k
  induction k with
  | zero =>
    intro x1 x2 x3 x4 M
    exact g_none
  | succ k ih =>
    intro x1 x2 x3 x4 M
    rw [fR_newObject_l83]
    refine g_iload X dX5_newObject_83 rfl ?_
    refine g_if_lt (tgt := 109) X dX5_newObject_85 (by decide) ?_ ?_
    · exact g_pick [0, 1, 2, 3, 4] rfl (wR_newObject_b109 X n k45 hk45 x1 x2 x3 x4 M)
    · refine g_aload_n X dX5_newObject_88 rfl rfl ?_
      refine g_iload X dX5_newObject_89 rfl ?_
      refine g_iload_n X dX5_newObject_91 rfl rfl ?_
      refine k_ownField X ⟨Nat.le_of_ble_eq_true rfl, Nat.le_of_ble_eq_true rfl⟩ (Nat.le_of_ble_eq_true rfl) dX5_newObject_92 ?_
      intro v1 M1
      refine g_if_ge (tgt := 109) X dX5_newObject_95 (by decide) ?_ ?_
      · exact g_pick [0, 1, 2, 3, 4] rfl (wR_newObject_b109 X n k45 hk45 x1 x2 x3 x4 M1)
      · refine g_aload_n X dX5_newObject_98 rfl rfl ?_
        refine g_iload X dX5_newObject_99 rfl ?_
        refine k_parentOf X ⟨Nat.le_of_ble_eq_true rfl, Nat.le_of_ble_eq_true rfl⟩ (Nat.le_of_ble_eq_true rfl) dX5_newObject_101 ?_
        intro v2 M2
        refine g_istore (lv' := [(4, .int v2), (0, .ref (q 34)), (1, .int x1), (2, .int x2), (3, .int x3)]) X dX5_newObject_104 (by decide) rfl ?_
        refine g_goto (tgt := 83) X dX5_newObject_106 (by decide) ?_
        exact g_pick [1, 2, 3, 4, 0] rfl (ih x1 x2 x3 v2 M2)
def fR_newObject_l45 (n : Nat) : Nat → Int32 → Int32 → Int32 → MR → Option (Int32 × MR)
  | 0, _, _, _, _ => none
  | k + 1, x1, x2, x3, M => if (nI 10) ≤ x3 then
      (some (x2, M))
    else
      (bnd (fR_objAt n x2 M) fun v1 M1 =>
      wr M1 0 62610 ((v1 + (nI 1)) + x3) (nI 0) fun M2 =>
      bnd (fR_objAt n x2 M2) fun v3 M3 =>
      wr M3 0 62610 ((v3 + (nI 11)) + x3) (nI 0) fun M4 =>
      fR_newObject_l83 n (fR_newObject_l45 n k) n x1 x2 x3 x1 M4)
theorem wR_newObject_l45 (X : gX p s m args meth c cX5_newObject 5 RX5 (some .int) D (tyR cI cZ)) (n : Nat) : ∀ (k : Nat) (x1 : Int32) (x2 : Int32) (x3 : Int32) (M : MR), gG p l e (rmR 3 65) s m args below meth c 5 (ZR D cI cZ q (AR q s.heap.size) s.heap M) 0 0 (fun r => MQ below (QI D cI cZ q s.heap.size r) args s 0 0 (AR q s.heap.size)) 45 [(0, .ref (q 34)), (1, .int x1), (2, .int x2), (3, .int x3)] [] (fR_newObject_l45 n k x1 x2 x3 M) := by
  intro k
  induction k with
  | zero =>
    intro x1 x2 x3 M
    exact g_none
  | succ k ih =>
    intro x1 x2 x3 M
    rw [fR_newObject_l45]
    refine g_iload_n X dX5_newObject_45 rfl rfl ?_
    refine g_bipush (v := (nI 10)) X dX5_newObject_46 (by decide) ?_
    refine g_icmp_ge (tgt := 161) X dX5_newObject_48 (by decide) ?_ ?_
    · refine g_iload_n X dX5_newObject_161 rfl rfl ?_
      exact r_iret X dX5_newObject_162
    · refine g_aload_n X dX5_newObject_51 rfl rfl ?_
      refine r_g_m X dX5_newObject_52 ?_
      refine g_iload_n X dX5_newObject_55 rfl rfl ?_
      refine k_objAt X ⟨Nat.le_of_ble_eq_true rfl, Nat.le_of_ble_eq_true rfl⟩ (Nat.le_of_ble_eq_true rfl) dX5_newObject_56 ?_
      intro v1 M1
      refine g_iconst (v := (nI 1)) X dX5_newObject_59 (by decide) ?_
      refine g_iadd X dX5_newObject_60 ?_
      refine g_iload_n X dX5_newObject_61 rfl rfl ?_
      refine g_iadd X dX5_newObject_62 ?_
      refine g_iconst (v := (nI 0)) X dX5_newObject_63 (by decide) ?_
      refine r_s_m X dX5_newObject_64 ?_
      intro M2
      refine g_aload_n X dX5_newObject_65 rfl rfl ?_
      refine r_g_m X dX5_newObject_66 ?_
      refine g_iload_n X dX5_newObject_69 rfl rfl ?_
      refine k_objAt X ⟨Nat.le_of_ble_eq_true rfl, Nat.le_of_ble_eq_true rfl⟩ (Nat.le_of_ble_eq_true rfl) dX5_newObject_70 ?_
      intro v3 M3
      refine g_bipush (v := (nI 11)) X dX5_newObject_73 (by decide) ?_
      refine g_iadd X dX5_newObject_75 ?_
      refine g_iload_n X dX5_newObject_76 rfl rfl ?_
      refine g_iadd X dX5_newObject_77 ?_
      refine g_iconst (v := (nI 0)) X dX5_newObject_78 (by decide) ?_
      refine r_s_m X dX5_newObject_79 ?_
      intro M4
      refine g_iload_n X dX5_newObject_80 rfl rfl ?_
      refine g_istore (lv' := [(4, .int x1), (0, .ref (q 34)), (1, .int x1), (2, .int x2), (3, .int x3)]) X dX5_newObject_81 (by decide) rfl ?_
      exact g_pick [1, 2, 3, 4, 0] rfl (wR_newObject_l83 X n (fR_newObject_l45 n k) ih n x1 x2 x3 x1 M4)
def fR_newObject (n : Nat) (x1 : Int32) (M : MR) : Option (Int32 × MR) :=
    rd M 0 62610 (nI 2) fun v1 =>
    rd M 0 62610 (nI 2) fun v2 =>
    wr M 0 62610 (nI 2) (v2 + (nI 1)) fun M3 =>
    bnd (fR_objAt n v1 M3) fun v4 M4 =>
    wr M4 0 62610 v4 x1 fun M5 =>
    bnd (fR_editAt n x1 M5) fun v6 M6 =>
    rd M6 0 62610 (v6 + (nI 6)) fun v7 =>
    wr M6 0 62610 (v6 + (nI 6)) (v7 + (nI 1)) fun M8 =>
    fR_newObject_l45 n n x1 v1 (nI 0) M8
theorem c_newObject (l : Launch) (D : va_G) (cI cZ : ClassId) (q : Nat → Nat) (n : Nat) (x1 : Int32) (M : MR) : MetR l D cI cZ q yX5_newObject cX5_newObject 5 (some .int) 3 65 QI [.ref (q 34), .int x1] M (fR_newObject n x1 M) := by
  refine MetR.of (by decide) rfl (Nat.le_of_ble_eq_true rfl) ?_
  intro p e s m args below meth c X
  unfold fR_newObject
  refine g_pick (lv' := [(0, .ref (q 34)), (1, .int x1)]) [0, 1] rfl ?_
  refine g_aload_n X dX5_newObject_0 rfl rfl ?_
  refine r_g_m X dX5_newObject_1 ?_
  refine g_iconst (v := (nI 2)) X dX5_newObject_4 (by decide) ?_
  refine r_l_m X dX5_newObject_5 ?_
  intro v1
  refine g_istore_n (lv' := [(2, .int v1), (0, .ref (q 34)), (1, .int x1)]) X dX5_newObject_6 rfl (by decide) rfl ?_
  refine g_aload_n X dX5_newObject_7 rfl rfl ?_
  refine r_g_m X dX5_newObject_8 ?_
  refine g_iconst (v := (nI 2)) X dX5_newObject_11 (by decide) ?_
  refine g_dup2 X dX5_newObject_12 rfl rfl ?_
  refine r_l_m X dX5_newObject_13 ?_
  intro v2
  refine g_iconst (v := (nI 1)) X dX5_newObject_14 (by decide) ?_
  refine g_iadd X dX5_newObject_15 ?_
  refine r_s_m X dX5_newObject_16 ?_
  intro M3
  refine g_aload_n X dX5_newObject_17 rfl rfl ?_
  refine r_g_m X dX5_newObject_18 ?_
  refine g_iload_n X dX5_newObject_21 rfl rfl ?_
  refine k_objAt X ⟨Nat.le_of_ble_eq_true rfl, Nat.le_of_ble_eq_true rfl⟩ (Nat.le_of_ble_eq_true rfl) dX5_newObject_22 ?_
  intro v4 M4
  refine g_iload_n X dX5_newObject_25 rfl rfl ?_
  refine r_s_m X dX5_newObject_26 ?_
  intro M5
  refine g_aload_n X dX5_newObject_27 rfl rfl ?_
  refine r_g_m X dX5_newObject_28 ?_
  refine g_iload_n X dX5_newObject_31 rfl rfl ?_
  refine k_editAt X ⟨Nat.le_of_ble_eq_true rfl, Nat.le_of_ble_eq_true rfl⟩ (Nat.le_of_ble_eq_true rfl) dX5_newObject_32 ?_
  intro v6 M6
  refine g_bipush (v := (nI 6)) X dX5_newObject_35 (by decide) ?_
  refine g_iadd X dX5_newObject_37 ?_
  refine g_dup2 X dX5_newObject_38 rfl rfl ?_
  refine r_l_m X dX5_newObject_39 ?_
  intro v7
  refine g_iconst (v := (nI 1)) X dX5_newObject_40 (by decide) ?_
  refine g_iadd X dX5_newObject_41 ?_
  refine r_s_m X dX5_newObject_42 ?_
  intro M8
  refine g_iconst (v := (nI 0)) X dX5_newObject_43 (by decide) ?_
  refine g_istore_n (lv' := [(3, .int (nI 0)), (2, .int v1), (0, .ref (q 34)), (1, .int x1)]) X dX5_newObject_44 rfl (by decide) rfl ?_
  exact g_pick [2, 3, 1, 0] rfl (wR_newObject_l45 X n n x1 v1 (nI 0) M8)
theorem tc_newObject : Cond.code yX5_newObject cX5_newObject 5 (some .int) ∈ tt := tt_in (List.mem_of_getElem? (i := 1008) (by decide +kernel)) (by decide +kernel)
theorem tl_newObject : Cond.methodLink RX5 221 yX5_newObject ∈ tt := tt_in (List.mem_of_getElem? (i := 1005) (by decide +kernel)) (by decide +kernel)
theorem ti_newObject : Cond.instanceMethod yX5_newObject ∈ tt := tt_in (List.mem_of_getElem? (i := 1007) (by decide +kernel)) (by decide +kernel)
theorem te_newObject : Cond.selects RX5 yX5_newObject yX5_newObject ∈ tt := tt_in (List.mem_of_getElem? (i := 63) (by decide +kernel)) (by decide +kernel)
theorem k_newObject (X : gX p s m args meth c cc nL RX5 rt D (tyR cI cZ)) {n : Nat} {x1 : Int32} {M : MR} {rest : List Value} {K : Int32 → MR → Option ρ} (hR : 3 + 1 ≤ R.frames ∧ 8 + (5 + 11) + 65 ≤ R.locals) (hcat : (rest.map fun v => v.category).sum ≤ 8) (d : decode cc pc = .ok (.invokevirtual 221, 3)) (kk : ∀ v M1, gG p l e R s m args below meth c nL (ZR D cI cZ q (AR q s.heap.size) s.heap M1) 0 0 QQ (pc + 3) lv (.int v :: rest) (K v M1)) : gG p l e R s m args below meth c nL (ZR D cI cZ q (AR q s.heap.size) s.heap M) 0 0 QQ pc lv (.int x1 :: .ref (q 34) :: rest) (bnd (fR_newObject n x1 M) K) := r_callVi (As := [.int x1]) X (c_newObject l D cI cZ q n x1 M) (cwVR (k := 1) X.2.2.2.2.1 tl_newObject ti_newObject te_newObject tc_newObject ini5 (by decide +kernel) hR) rfl rfl hcat d kk
-- push
def fR_push (n : Nat) (x1 : Int32) (x2 : Int32) (M : MR) : Option (Int32 × MR) :=
    gf M 12 fun v1 =>
    wz M 10 2000 v1 x1 fun M2 =>
    gf M2 12 fun v3 =>
    wr M2 11 2000 v3 x2 fun M4 =>
    gf M4 12 fun v5 =>
    pf M4 12 (v5 + (nI 1)) fun M6 =>
    some (0, M6)
theorem c_push (l : Launch) (D : va_G) (cI cZ : ClassId) (q : Nat → Nat) (n : Nat) (x1 : Int32) (x2 : Int32) (M : MR) : MetR l D cI cZ q yX5_push cX5_push 3 none 0 0 QV [.ref (q 34), .int x1, .int x2] M (fR_push n x1 x2 M) := by
  refine MetR.of (by decide) rfl (Nat.le_of_ble_eq_true rfl) ?_
  intro p e s m args below meth c X
  unfold fR_push
  refine g_pick (lv' := [(0, .ref (q 34)), (1, .int x1), (2, .int x2)]) [0, 1, 2] rfl ?_
  refine g_aload_n X dX5_push_0 rfl rfl ?_
  refine r_g_isObj X dX5_push_1 ?_
  refine g_aload_n X dX5_push_4 rfl rfl ?_
  refine r_g_top X dX5_push_5 ?_
  intro v1
  refine g_iload_n X dX5_push_8 rfl rfl ?_
  refine r_s_isObj X dX5_push_9 ?_
  intro M2
  refine g_aload_n X dX5_push_10 rfl rfl ?_
  refine r_g_value X dX5_push_11 ?_
  refine g_aload_n X dX5_push_14 rfl rfl ?_
  refine r_g_top X dX5_push_15 ?_
  intro v3
  refine g_iload_n X dX5_push_18 rfl rfl ?_
  refine r_s_value X dX5_push_19 ?_
  intro M4
  refine g_aload_n X dX5_push_20 rfl rfl ?_
  refine g_dup X dX5_push_21 rfl ?_
  refine r_g_top X dX5_push_22 ?_
  intro v5
  refine g_iconst (v := (nI 1)) X dX5_push_25 (by decide) ?_
  refine g_iadd X dX5_push_26 ?_
  refine r_p_top X dX5_push_27 ?_
  intro M6
  exact r_vret X dX5_push_30
theorem tc_push : Cond.code yX5_push cX5_push 3 none ∈ tt := tt_in (List.mem_of_getElem? (i := 1019) (by decide +kernel)) (by decide +kernel)
theorem tl_push : Cond.methodLink RX5 181 yX5_push ∈ tt := tt_in (List.mem_of_getElem? (i := 1016) (by decide +kernel)) (by decide +kernel)
theorem ti_push : Cond.instanceMethod yX5_push ∈ tt := tt_in (List.mem_of_getElem? (i := 1018) (by decide +kernel)) (by decide +kernel)
theorem te_push : Cond.selects RX5 yX5_push yX5_push ∈ tt := tt_in (List.mem_of_getElem? (i := 65) (by decide +kernel)) (by decide +kernel)
theorem k_push (X : gX p s m args meth c cc nL RX5 rt D (tyR cI cZ)) {n : Nat} {x1 : Int32} {x2 : Int32} {M : MR} {rest : List Value} {K : Int32 → MR → Option ρ} (hR : 0 + 1 ≤ R.frames ∧ 8 + (3 + 11) + 0 ≤ R.locals) (hcat : (rest.map fun v => v.category).sum ≤ 8) (d : decode cc pc = .ok (.invokevirtual 181, 3)) (kk : ∀ v M1, gG p l e R s m args below meth c nL (ZR D cI cZ q (AR q s.heap.size) s.heap M1) 0 0 QQ (pc + 3) lv (rest) (K v M1)) : gG p l e R s m args below meth c nL (ZR D cI cZ q (AR q s.heap.size) s.heap M) 0 0 QQ pc lv (.int x2 :: .int x1 :: .ref (q 34) :: rest) (bnd (fR_push n x1 x2 M) K) := r_callVv (As := [.int x1, .int x2]) X (c_push l D cI cZ q n x1 x2 M) (cwVR (k := 2) X.2.2.2.2.1 tl_push ti_push te_push tc_push ini5 (by decide +kernel) hR) rfl rfl hcat d kk
-- frame
def fR_frame (n : Nat) (x1 : Int32) (x2 : Int32) (x3 : Int32) (x4 : Int32) (x5 : Int32) (M : MR) : Option (Int32 × MR) :=
    gf M 20 fun v1 =>
    wr M 13 22 v1 x1 fun M2 =>
    gf M2 20 fun v3 =>
    wr M2 14 22 v3 x2 fun M4 =>
    gf M4 20 fun v5 =>
    wr M4 15 22 v5 x3 fun M6 =>
    gf M6 20 fun v7 =>
    wr M6 16 22 v7 x4 fun M8 =>
    gf M8 20 fun v9 =>
    wr M8 19 22 v9 x5 fun M10 =>
    gf M10 20 fun v11 =>
    wz M10 17 22 v11 (nI 0) fun M12 =>
    gf M12 20 fun v13 =>
    wr M12 18 22 v13 (nI 0) fun M14 =>
    gf M14 20 fun v15 =>
    pf M14 20 (v15 + (nI 1)) fun M16 =>
    gf M16 21 fun v17 =>
    if x1 < 0 then
      (pf M16 21 (v17 + (nI 0)) fun M18 =>
      some (0, M18))
    else
      (pf M16 21 (v17 + (nI 1)) fun M19 =>
      some (0, M19))
theorem c_frame (l : Launch) (D : va_G) (cI cZ : ClassId) (q : Nat → Nat) (n : Nat) (x1 : Int32) (x2 : Int32) (x3 : Int32) (x4 : Int32) (x5 : Int32) (M : MR) : MetR l D cI cZ q yX5_frame cX5_frame 6 none 0 0 QV [.ref (q 34), .int x1, .int x2, .int x3, .int x4, .int x5] M (fR_frame n x1 x2 x3 x4 x5 M) := by
  refine MetR.of (by decide) rfl (Nat.le_of_ble_eq_true rfl) ?_
  intro p e s m args below meth c X
  unfold fR_frame
  refine g_pick (lv' := [(0, .ref (q 34)), (1, .int x1), (2, .int x2), (3, .int x3), (4, .int x4), (5, .int x5)]) [0, 1, 2, 3, 4, 5] rfl ?_
  refine g_aload_n X dX5_frame_0 rfl rfl ?_
  refine r_g_source X dX5_frame_1 ?_
  refine g_aload_n X dX5_frame_4 rfl rfl ?_
  refine r_g_frames X dX5_frame_5 ?_
  intro v1
  refine g_iload_n X dX5_frame_8 rfl rfl ?_
  refine r_s_source X dX5_frame_9 ?_
  intro M2
  refine g_aload_n X dX5_frame_10 rfl rfl ?_
  refine r_g_place X dX5_frame_11 ?_
  refine g_aload_n X dX5_frame_14 rfl rfl ?_
  refine r_g_frames X dX5_frame_15 ?_
  intro v3
  refine g_iload_n X dX5_frame_18 rfl rfl ?_
  refine r_s_place X dX5_frame_19 ?_
  intro M4
  refine g_aload_n X dX5_frame_20 rfl rfl ?_
  refine r_g_end X dX5_frame_21 ?_
  refine g_aload_n X dX5_frame_24 rfl rfl ?_
  refine r_g_frames X dX5_frame_25 ?_
  intro v5
  refine g_iload_n X dX5_frame_28 rfl rfl ?_
  refine r_s_end X dX5_frame_29 ?_
  intro M6
  refine g_aload_n X dX5_frame_30 rfl rfl ?_
  refine r_g_self X dX5_frame_31 ?_
  refine g_aload_n X dX5_frame_34 rfl rfl ?_
  refine r_g_frames X dX5_frame_35 ?_
  intro v7
  refine g_iload X dX5_frame_38 rfl ?_
  refine r_s_self X dX5_frame_40 ?_
  intro M8
  refine g_aload_n X dX5_frame_41 rfl rfl ?_
  refine r_g_starts X dX5_frame_42 ?_
  refine g_aload_n X dX5_frame_45 rfl rfl ?_
  refine r_g_frames X dX5_frame_46 ?_
  intro v9
  refine g_iload X dX5_frame_49 rfl ?_
  refine r_s_starts X dX5_frame_51 ?_
  intro M10
  refine g_aload_n X dX5_frame_52 rfl rfl ?_
  refine r_g_isArgObj X dX5_frame_53 ?_
  refine g_aload_n X dX5_frame_56 rfl rfl ?_
  refine r_g_frames X dX5_frame_57 ?_
  intro v11
  refine g_iconst (v := (nI 0)) X dX5_frame_60 (by decide) ?_
  refine r_s_isArgObj X dX5_frame_61 ?_
  intro M12
  refine g_aload_n X dX5_frame_62 rfl rfl ?_
  refine r_g_argument X dX5_frame_63 ?_
  refine g_aload_n X dX5_frame_66 rfl rfl ?_
  refine r_g_frames X dX5_frame_67 ?_
  intro v13
  refine g_iconst (v := (nI 0)) X dX5_frame_70 (by decide) ?_
  refine r_s_argument X dX5_frame_71 ?_
  intro M14
  refine g_aload_n X dX5_frame_72 rfl rfl ?_
  refine g_dup X dX5_frame_73 rfl ?_
  refine r_g_frames X dX5_frame_74 ?_
  intro v15
  refine g_iconst (v := (nI 1)) X dX5_frame_77 (by decide) ?_
  refine g_iadd X dX5_frame_78 ?_
  refine r_p_frames X dX5_frame_79 ?_
  intro M16
  refine g_aload_n X dX5_frame_82 rfl rfl ?_
  refine g_dup X dX5_frame_83 rfl ?_
  refine r_g_inner X dX5_frame_84 ?_
  intro v17
  refine g_iload_n X dX5_frame_87 rfl rfl ?_
  refine g_if_lt (tgt := 95) X dX5_frame_88 (by decide) ?_ ?_
  · refine g_iconst (v := (nI 0)) X dX5_frame_95 (by decide) ?_
    refine g_iadd X dX5_frame_96 ?_
    refine r_p_inner X dX5_frame_97 ?_
    intro M18
    exact r_vret X dX5_frame_100
  · refine g_iconst (v := (nI 1)) X dX5_frame_91 (by decide) ?_
    refine g_goto (tgt := 96) X dX5_frame_92 (by decide) ?_
    refine g_iadd X dX5_frame_96 ?_
    refine r_p_inner X dX5_frame_97 ?_
    intro M19
    exact r_vret X dX5_frame_100
theorem tc_frame : Cond.code yX5_frame cX5_frame 6 none ∈ tt := tt_in (List.mem_of_getElem? (i := 952) (by decide +kernel)) (by decide +kernel)
theorem tl_frame : Cond.methodLink RX5 211 yX5_frame ∈ tt := tt_in (List.mem_of_getElem? (i := 949) (by decide +kernel)) (by decide +kernel)
theorem ti_frame : Cond.instanceMethod yX5_frame ∈ tt := tt_in (List.mem_of_getElem? (i := 951) (by decide +kernel)) (by decide +kernel)
theorem te_frame : Cond.selects RX5 yX5_frame yX5_frame ∈ tt := tt_in (List.mem_of_getElem? (i := 49) (by decide +kernel)) (by decide +kernel)
theorem k_frame (X : gX p s m args meth c cc nL RX5 rt D (tyR cI cZ)) {n : Nat} {x1 : Int32} {x2 : Int32} {x3 : Int32} {x4 : Int32} {x5 : Int32} {M : MR} {rest : List Value} {K : Int32 → MR → Option ρ} (hR : 0 + 1 ≤ R.frames ∧ 8 + (6 + 11) + 0 ≤ R.locals) (hcat : (rest.map fun v => v.category).sum ≤ 8) (d : decode cc pc = .ok (.invokevirtual 211, 3)) (kk : ∀ v M1, gG p l e R s m args below meth c nL (ZR D cI cZ q (AR q s.heap.size) s.heap M1) 0 0 QQ (pc + 3) lv (rest) (K v M1)) : gG p l e R s m args below meth c nL (ZR D cI cZ q (AR q s.heap.size) s.heap M) 0 0 QQ pc lv (.int x5 :: .int x4 :: .int x3 :: .int x2 :: .int x1 :: .ref (q 34) :: rest) (bnd (fR_frame n x1 x2 x3 x4 x5 M) K) := r_callVv (As := [.int x1, .int x2, .int x3, .int x4, .int x5]) X (c_frame l D cI cZ q n x1 x2 x3 x4 x5 M) (cwVR (k := 5) X.2.2.2.2.1 tl_frame ti_frame te_frame tc_frame ini5 (by decide +kernel) hR) rfl rfl hcat d kk
-- intAt
def fR_intAt (n : Nat) (x1 : Int32) (M : MR) : Option (Int32 × MR) :=
    gf M 20 fun v1 =>
    rd M 13 22 (v1 - (nI 1)) fun v2 =>
    if 0 ≤ v2 then
      (rd M 13 22 (v1 - (nI 1)) fun v3 =>
      rd M 14 22 (v1 - (nI 1)) fun v4 =>
      bnd (fR_textOf n v3 (v4 + x1) M) fun v5 M5 =>
      some (v5, M5))
    else
      (rd M 14 22 (v1 - (nI 1)) fun v6 =>
      rd M 5 60 (v6 + x1) fun v7 =>
      some (v7, M))
theorem c_intAt (l : Launch) (D : va_G) (cI cZ : ClassId) (q : Nat → Nat) (n : Nat) (x1 : Int32) (M : MR) : MetR l D cI cZ q yX5_intAt cX5_intAt 3 (some .int) 2 42 QI [.ref (q 34), .int x1] M (fR_intAt n x1 M) := by
  refine MetR.of (by decide) rfl (Nat.le_of_ble_eq_true rfl) ?_
  intro p e s m args below meth c X
  unfold fR_intAt
  refine g_pick (lv' := [(0, .ref (q 34)), (1, .int x1)]) [0, 1] rfl ?_
  refine g_aload_n X dX5_intAt_0 rfl rfl ?_
  refine r_g_frames X dX5_intAt_1 ?_
  intro v1
  refine g_iconst (v := (nI 1)) X dX5_intAt_4 (by decide) ?_
  refine g_isub X dX5_intAt_5 ?_
  refine g_istore_n (lv' := [(2, .int (v1 - (nI 1))), (0, .ref (q 34)), (1, .int x1)]) X dX5_intAt_6 rfl (by decide) rfl ?_
  refine g_aload_n X dX5_intAt_7 rfl rfl ?_
  refine r_g_source X dX5_intAt_8 ?_
  refine g_iload_n X dX5_intAt_11 rfl rfl ?_
  refine r_l_source X dX5_intAt_12 ?_
  intro v2
  refine g_if_ge (tgt := 32) X dX5_intAt_13 (by decide) ?_ ?_
  · refine g_aload_n X dX5_intAt_32 rfl rfl ?_
    refine g_aload_n X dX5_intAt_33 rfl rfl ?_
    refine r_g_source X dX5_intAt_34 ?_
    refine g_iload_n X dX5_intAt_37 rfl rfl ?_
    refine r_l_source X dX5_intAt_38 ?_
    intro v3
    refine g_aload_n X dX5_intAt_39 rfl rfl ?_
    refine r_g_place X dX5_intAt_40 ?_
    refine g_iload_n X dX5_intAt_43 rfl rfl ?_
    refine r_l_place X dX5_intAt_44 ?_
    intro v4
    refine g_iload_n X dX5_intAt_45 rfl rfl ?_
    refine g_iadd X dX5_intAt_46 ?_
    refine k_textOf X ⟨Nat.le_of_ble_eq_true rfl, Nat.le_of_ble_eq_true rfl⟩ (Nat.le_of_ble_eq_true rfl) dX5_intAt_47 ?_
    intro v5 M5
    exact r_iret X dX5_intAt_50
  · refine g_aload_n X dX5_intAt_16 rfl rfl ?_
    refine r_g_meant X dX5_intAt_17 ?_
    refine g_aload_n X dX5_intAt_20 rfl rfl ?_
    refine r_g_place X dX5_intAt_21 ?_
    refine g_iload_n X dX5_intAt_24 rfl rfl ?_
    refine r_l_place X dX5_intAt_25 ?_
    intro v6
    refine g_iload_n X dX5_intAt_26 rfl rfl ?_
    refine g_iadd X dX5_intAt_27 ?_
    refine r_l_meant X dX5_intAt_28 ?_
    intro v7
    refine g_goto (tgt := 50) X dX5_intAt_29 (by decide) ?_
    exact r_iret X dX5_intAt_50
theorem tc_intAt : Cond.code yX5_intAt cX5_intAt 3 (some .int) ∈ tt := tt_in (List.mem_of_getElem? (i := 972) (by decide +kernel)) (by decide +kernel)
theorem tl_intAt : Cond.methodLink RX5 175 yX5_intAt ∈ tt := tt_in (List.mem_of_getElem? (i := 969) (by decide +kernel)) (by decide +kernel)
theorem ti_intAt : Cond.instanceMethod yX5_intAt ∈ tt := tt_in (List.mem_of_getElem? (i := 971) (by decide +kernel)) (by decide +kernel)
theorem te_intAt : Cond.selects RX5 yX5_intAt yX5_intAt ∈ tt := tt_in (List.mem_of_getElem? (i := 54) (by decide +kernel)) (by decide +kernel)
theorem k_intAt (X : gX p s m args meth c cc nL RX5 rt D (tyR cI cZ)) {n : Nat} {x1 : Int32} {M : MR} {rest : List Value} {K : Int32 → MR → Option ρ} (hR : 2 + 1 ≤ R.frames ∧ 8 + (3 + 11) + 42 ≤ R.locals) (hcat : (rest.map fun v => v.category).sum ≤ 8) (d : decode cc pc = .ok (.invokevirtual 175, 3)) (kk : ∀ v M1, gG p l e R s m args below meth c nL (ZR D cI cZ q (AR q s.heap.size) s.heap M1) 0 0 QQ (pc + 3) lv (.int v :: rest) (K v M1)) : gG p l e R s m args below meth c nL (ZR D cI cZ q (AR q s.heap.size) s.heap M) 0 0 QQ pc lv (.int x1 :: .ref (q 34) :: rest) (bnd (fR_intAt n x1 M) K) := r_callVi (As := [.int x1]) X (c_intAt l D cI cZ q n x1 M) (cwVR (k := 1) X.2.2.2.2.1 tl_intAt ti_intAt te_intAt tc_intAt ini5 (by decide +kernel) hR) rfl rfl hcat d kk
-- fail
def fR_fail_b58 (n : Nat) (k7 : Int32 → Int32 → MR → Option (Int32 × MR)) (x1 : Int32) (x2 : Int32) (M : MR) : Option (Int32 × MR) :=
    k7 x1 (x2 + (nI 1)) M
theorem wR_fail_b58 (X : gX p s m args meth c cX5_fail 3 RX5 none D (tyR cI cZ)) (n : Nat) (k7 : Int32 → Int32 → MR → Option (Int32 × MR)) (hk7 : ∀ (x1 : Int32) (x2 : Int32) (M : MR), gG p l e (rmR 1 20) s m args below meth c 3 (ZR D cI cZ q (AR q s.heap.size) s.heap M) 0 0 (fun r => MQ below (QV D cI cZ q s.heap.size r) args s 0 0 (AR q s.heap.size)) 7 [(0, .ref (q 34)), (1, .int x1), (2, .int x2)] [] (k7 x1 x2 M)) (x1 : Int32) (x2 : Int32) (M : MR) : gG p l e (rmR 1 20) s m args below meth c 3 (ZR D cI cZ q (AR q s.heap.size) s.heap M) 0 0 (fun r => MQ below (QV D cI cZ q s.heap.size r) args s 0 0 (AR q s.heap.size)) 58 [(0, .ref (q 34)), (1, .int x1), (2, .int x2)] [] (fR_fail_b58 n k7 x1 x2 M) := by
  unfold fR_fail_b58
  refine g_iinc (v := (nI 1)) (lv' := [(2, .int (x2 + (nI 1))), (0, .ref (q 34)), (1, .int x1)]) X dX5_fail_58 rfl (by decide) (by decide) rfl ?_
  refine g_goto (tgt := 7) X dX5_fail_61 (by decide) ?_
  exact g_pick [1, 2, 0] rfl (hk7 x1 (x2 + (nI 1)) M)
def fR_fail_b55 (n : Nat) (k7 : Int32 → Int32 → MR → Option (Int32 × MR)) (x1 : Int32) (x2 : Int32) (s0 : Int32) (M : MR) : Option (Int32 × MR) :=
    pf M 24 s0 fun M1 =>
    fR_fail_b58 n k7 x1 x2 M1
theorem wR_fail_b55 (X : gX p s m args meth c cX5_fail 3 RX5 none D (tyR cI cZ)) (n : Nat) (k7 : Int32 → Int32 → MR → Option (Int32 × MR)) (hk7 : ∀ (x1 : Int32) (x2 : Int32) (M : MR), gG p l e (rmR 1 20) s m args below meth c 3 (ZR D cI cZ q (AR q s.heap.size) s.heap M) 0 0 (fun r => MQ below (QV D cI cZ q s.heap.size r) args s 0 0 (AR q s.heap.size)) 7 [(0, .ref (q 34)), (1, .int x1), (2, .int x2)] [] (k7 x1 x2 M)) (x1 : Int32) (x2 : Int32) (s0 : Int32) (M : MR) : gG p l e (rmR 1 20) s m args below meth c 3 (ZR D cI cZ q (AR q s.heap.size) s.heap M) 0 0 (fun r => MQ below (QV D cI cZ q s.heap.size r) args s 0 0 (AR q s.heap.size)) 55 [(0, .ref (q 34)), (1, .int x1), (2, .int x2)] [.int s0, .ref (q 34)] (fR_fail_b55 n k7 x1 x2 s0 M) := by
  unfold fR_fail_b55
  refine r_p_failure X dX5_fail_55 ?_
  intro M1
  exact g_pick [0, 1, 2] rfl (wR_fail_b58 X n k7 hk7 x1 x2 M1)
def fR_fail_l7 (n : Nat) : Nat → Int32 → Int32 → MR → Option (Int32 × MR)
  | 0, _, _, _ => none
  | k + 1, x1, x2, M => gf M 20 fun v1 =>
    if v1 ≤ x2 then
      (some (0, M))
    else
      (rd M 19 22 x2 fun v2 =>
      if v2 < 0 then
        (fR_fail_b58 n (fR_fail_l7 n k) x1 x2 M)
      else
        (rd M 19 22 x2 fun v3 =>
        bnd (fR_editAt n v3 M) fun v4 M4 =>
        wr M4 0 62610 (v4 + (nI 5)) (nI 2) fun M5 =>
        if x1 = (nI 100) then
          (fR_fail_b55 n (fR_fail_l7 n k) x1 x2 (nI 100) M5)
        else
          (fR_fail_b55 n (fR_fail_l7 n k) x1 x2 (nI 6) M5)))
theorem wR_fail_l7 (X : gX p s m args meth c cX5_fail 3 RX5 none D (tyR cI cZ)) (n : Nat) : ∀ (k : Nat) (x1 : Int32) (x2 : Int32) (M : MR), gG p l e (rmR 1 20) s m args below meth c 3 (ZR D cI cZ q (AR q s.heap.size) s.heap M) 0 0 (fun r => MQ below (QV D cI cZ q s.heap.size r) args s 0 0 (AR q s.heap.size)) 7 [(0, .ref (q 34)), (1, .int x1), (2, .int x2)] [] (fR_fail_l7 n k x1 x2 M) := by
  intro k
  induction k with
  | zero =>
    intro x1 x2 M
    exact g_none
  | succ k ih =>
    intro x1 x2 M
    rw [fR_fail_l7]
    refine g_iload_n X dX5_fail_7 rfl rfl ?_
    refine g_aload_n X dX5_fail_8 rfl rfl ?_
    refine r_g_frames X dX5_fail_9 ?_
    intro v1
    refine g_icmp_ge (tgt := 64) X dX5_fail_12 (by decide) ?_ ?_
    · exact r_vret X dX5_fail_64
    · refine g_aload_n X dX5_fail_15 rfl rfl ?_
      refine r_g_starts X dX5_fail_16 ?_
      refine g_iload_n X dX5_fail_19 rfl rfl ?_
      refine r_l_starts X dX5_fail_20 ?_
      intro v2
      refine g_if_lt (tgt := 58) X dX5_fail_21 (by decide) ?_ ?_
      · exact g_pick [0, 1, 2] rfl (wR_fail_b58 X n (fR_fail_l7 n k) ih x1 x2 M)
      · refine g_aload_n X dX5_fail_24 rfl rfl ?_
        refine r_g_m X dX5_fail_25 ?_
        refine g_aload_n X dX5_fail_28 rfl rfl ?_
        refine r_g_starts X dX5_fail_29 ?_
        refine g_iload_n X dX5_fail_32 rfl rfl ?_
        refine r_l_starts X dX5_fail_33 ?_
        intro v3
        refine k_editAt X ⟨Nat.le_of_ble_eq_true rfl, Nat.le_of_ble_eq_true rfl⟩ (Nat.le_of_ble_eq_true rfl) dX5_fail_34 ?_
        intro v4 M4
        refine g_iconst (v := (nI 5)) X dX5_fail_37 (by decide) ?_
        refine g_iadd X dX5_fail_38 ?_
        refine g_iconst (v := (nI 2)) X dX5_fail_39 (by decide) ?_
        refine r_s_m X dX5_fail_40 ?_
        intro M5
        refine g_aload_n X dX5_fail_41 rfl rfl ?_
        refine g_iload_n X dX5_fail_42 rfl rfl ?_
        refine g_bipush (v := (nI 100)) X dX5_fail_43 (by decide) ?_
        refine g_icmp_ne (tgt := 53) X dX5_fail_45 (by decide) ?_ ?_
        · refine g_bipush (v := (nI 6)) X dX5_fail_53 (by decide) ?_
          exact g_pick [0, 1, 2] rfl (wR_fail_b55 X n (fR_fail_l7 n k) ih x1 x2 (nI 6) M5)
        · refine g_bipush (v := (nI 100)) X dX5_fail_48 (by decide) ?_
          refine g_goto (tgt := 55) X dX5_fail_50 (by decide) ?_
          exact g_pick [0, 1, 2] rfl (wR_fail_b55 X n (fR_fail_l7 n k) ih x1 x2 (nI 100) M5)
def fR_fail (n : Nat) (x1 : Int32) (M : MR) : Option (Int32 × MR) :=
    pf M 24 x1 fun M1 =>
    fR_fail_l7 n n x1 (nI 0) M1
theorem c_fail (l : Launch) (D : va_G) (cI cZ : ClassId) (q : Nat → Nat) (n : Nat) (x1 : Int32) (M : MR) : MetR l D cI cZ q yX5_fail cX5_fail 3 none 1 20 QV [.ref (q 34), .int x1] M (fR_fail n x1 M) := by
  refine MetR.of (by decide) rfl (Nat.le_of_ble_eq_true rfl) ?_
  intro p e s m args below meth c X
  unfold fR_fail
  refine g_pick (lv' := [(0, .ref (q 34)), (1, .int x1)]) [0, 1] rfl ?_
  refine g_aload_n X dX5_fail_0 rfl rfl ?_
  refine g_iload_n X dX5_fail_1 rfl rfl ?_
  refine r_p_failure X dX5_fail_2 ?_
  intro M1
  refine g_iconst (v := (nI 0)) X dX5_fail_5 (by decide) ?_
  refine g_istore_n (lv' := [(2, .int (nI 0)), (0, .ref (q 34)), (1, .int x1)]) X dX5_fail_6 rfl (by decide) rfl ?_
  exact g_pick [1, 2, 0] rfl (wR_fail_l7 X n n x1 (nI 0) M1)
theorem tc_fail : Cond.code yX5_fail cX5_fail 3 none ∈ tt := tt_in (List.mem_of_getElem? (i := 964) (by decide +kernel)) (by decide +kernel)
theorem tl_fail : Cond.methodLink RX5 169 yX5_fail ∈ tt := tt_in (List.mem_of_getElem? (i := 961) (by decide +kernel)) (by decide +kernel)
theorem ti_fail : Cond.instanceMethod yX5_fail ∈ tt := tt_in (List.mem_of_getElem? (i := 963) (by decide +kernel)) (by decide +kernel)
theorem te_fail : Cond.selects RX5 yX5_fail yX5_fail ∈ tt := tt_in (List.mem_of_getElem? (i := 52) (by decide +kernel)) (by decide +kernel)
theorem k_fail (X : gX p s m args meth c cc nL RX5 rt D (tyR cI cZ)) {n : Nat} {x1 : Int32} {M : MR} {rest : List Value} {K : Int32 → MR → Option ρ} (hR : 1 + 1 ≤ R.frames ∧ 8 + (3 + 11) + 20 ≤ R.locals) (hcat : (rest.map fun v => v.category).sum ≤ 8) (d : decode cc pc = .ok (.invokevirtual 169, 3)) (kk : ∀ v M1, gG p l e R s m args below meth c nL (ZR D cI cZ q (AR q s.heap.size) s.heap M1) 0 0 QQ (pc + 3) lv (rest) (K v M1)) : gG p l e R s m args below meth c nL (ZR D cI cZ q (AR q s.heap.size) s.heap M) 0 0 QQ pc lv (.int x1 :: .ref (q 34) :: rest) (bnd (fR_fail n x1 M) K) := r_callVv (As := [.int x1]) X (c_fail l D cI cZ q n x1 M) (cwVR (k := 1) X.2.2.2.2.1 tl_fail ti_fail te_fail tc_fail ini5 (by decide +kernel) hR) rfl rfl hcat d kk
-- finish
def fR_finish_b32 (n : Nat) (s0 : Int32) (s1 : Int32) (M : MR) : Option (Int32 × MR) :=
    pf M 21 (s0 - s1) fun M1 =>
    gf M1 20 fun v2 =>
    rd M1 19 22 v2 fun v3 =>
    if v3 < 0 then
      (some (0, M1))
    else
      (gf M1 12 fun v4 =>
      pf M1 12 (v4 - (nI 1)) fun M5 =>
      zt (nI 1) (pf M5 22 (nI 1) fun M6 =>
      some (0, M6)))
theorem wR_finish_b32 (X : gX p s m args meth c cX5_finish 1 RX5 none D (tyR cI cZ)) (n : Nat) (s0 : Int32) (s1 : Int32) (M : MR) : gG p l e (rmR 0 0) s m args below meth c 1 (ZR D cI cZ q (AR q s.heap.size) s.heap M) 0 0 (fun r => MQ below (QV D cI cZ q s.heap.size r) args s 0 0 (AR q s.heap.size)) 32 [(0, .ref (q 34))] [.int s1, .int s0, .ref (q 34)] (fR_finish_b32 n s0 s1 M) := by
  unfold fR_finish_b32
  refine g_isub X dX5_finish_32 ?_
  refine r_p_inner X dX5_finish_33 ?_
  intro M1
  refine g_aload_n X dX5_finish_36 rfl rfl ?_
  refine r_g_starts X dX5_finish_37 ?_
  refine g_aload_n X dX5_finish_40 rfl rfl ?_
  refine r_g_frames X dX5_finish_41 ?_
  intro v2
  refine r_l_starts X dX5_finish_44 ?_
  intro v3
  refine g_if_lt (tgt := 63) X dX5_finish_45 (by decide) ?_ ?_
  · exact r_vret X dX5_finish_63
  · refine g_aload_n X dX5_finish_48 rfl rfl ?_
    refine g_dup X dX5_finish_49 rfl ?_
    refine r_g_top X dX5_finish_50 ?_
    intro v4
    refine g_iconst (v := (nI 1)) X dX5_finish_53 (by decide) ?_
    refine g_isub X dX5_finish_54 ?_
    refine r_p_top X dX5_finish_55 ?_
    intro M5
    refine g_aload_n X dX5_finish_58 rfl rfl ?_
    refine g_iconst (v := (nI 1)) X dX5_finish_59 (by decide) ?_
    refine r_p_again X dX5_finish_60 ?_
    intro M6
    exact r_vret X dX5_finish_63
def fR_finish (n : Nat) (M : MR) : Option (Int32 × MR) :=
    gf M 20 fun v1 =>
    pf M 20 (v1 - (nI 1)) fun M2 =>
    gf M2 21 fun v3 =>
    gf M2 20 fun v4 =>
    rd M2 13 22 v4 fun v5 =>
    if v5 < 0 then (fR_finish_b32 n v3 (nI 0) M2) else (fR_finish_b32 n v3 (nI 1) M2)
theorem c_finish (l : Launch) (D : va_G) (cI cZ : ClassId) (q : Nat → Nat) (n : Nat) (M : MR) : MetR l D cI cZ q yX5_finish cX5_finish 1 none 0 0 QV [.ref (q 34)] M (fR_finish n M) := by
  refine MetR.of (by decide) rfl (Nat.le_of_ble_eq_true rfl) ?_
  intro p e s m args below meth c X
  unfold fR_finish
  refine g_pick (lv' := [(0, .ref (q 34))]) [0] rfl ?_
  refine g_aload_n X dX5_finish_0 rfl rfl ?_
  refine g_dup X dX5_finish_1 rfl ?_
  refine r_g_frames X dX5_finish_2 ?_
  intro v1
  refine g_iconst (v := (nI 1)) X dX5_finish_5 (by decide) ?_
  refine g_isub X dX5_finish_6 ?_
  refine r_p_frames X dX5_finish_7 ?_
  intro M2
  refine g_aload_n X dX5_finish_10 rfl rfl ?_
  refine g_dup X dX5_finish_11 rfl ?_
  refine r_g_inner X dX5_finish_12 ?_
  intro v3
  refine g_aload_n X dX5_finish_15 rfl rfl ?_
  refine r_g_source X dX5_finish_16 ?_
  refine g_aload_n X dX5_finish_19 rfl rfl ?_
  refine r_g_frames X dX5_finish_20 ?_
  intro v4
  refine r_l_source X dX5_finish_23 ?_
  intro v5
  refine g_if_lt (tgt := 31) X dX5_finish_24 (by decide) ?_ ?_
  · refine g_iconst (v := (nI 0)) X dX5_finish_31 (by decide) ?_
    exact g_pick [0] rfl (wR_finish_b32 X n v3 (nI 0) M2)
  · refine g_iconst (v := (nI 1)) X dX5_finish_27 (by decide) ?_
    refine g_goto (tgt := 32) X dX5_finish_28 (by decide) ?_
    exact g_pick [0] rfl (wR_finish_b32 X n v3 (nI 1) M2)
theorem tc_finish : Cond.code yX5_finish cX5_finish 1 none ∈ tt := tt_in (List.mem_of_getElem? (i := 960) (by decide +kernel)) (by decide +kernel)
theorem tl_finish : Cond.methodLink RX5 166 yX5_finish ∈ tt := tt_in (List.mem_of_getElem? (i := 957) (by decide +kernel)) (by decide +kernel)
theorem ti_finish : Cond.instanceMethod yX5_finish ∈ tt := tt_in (List.mem_of_getElem? (i := 959) (by decide +kernel)) (by decide +kernel)
theorem te_finish : Cond.selects RX5 yX5_finish yX5_finish ∈ tt := tt_in (List.mem_of_getElem? (i := 51) (by decide +kernel)) (by decide +kernel)
theorem k_finish (X : gX p s m args meth c cc nL RX5 rt D (tyR cI cZ)) {n : Nat} {M : MR} {rest : List Value} {K : Int32 → MR → Option ρ} (hR : 0 + 1 ≤ R.frames ∧ 8 + (1 + 11) + 0 ≤ R.locals) (hcat : (rest.map fun v => v.category).sum ≤ 8) (d : decode cc pc = .ok (.invokevirtual 166, 3)) (kk : ∀ v M1, gG p l e R s m args below meth c nL (ZR D cI cZ q (AR q s.heap.size) s.heap M1) 0 0 QQ (pc + 3) lv (rest) (K v M1)) : gG p l e R s m args below meth c nL (ZR D cI cZ q (AR q s.heap.size) s.heap M) 0 0 QQ pc lv (.ref (q 34) :: rest) (bnd (fR_finish n M) K) := r_callVv (As := []) X (c_finish l D cI cZ q n M) (cwVR (k := 0) X.2.2.2.2.1 tl_finish ti_finish te_finish tc_finish ini5 (by decide +kernel) hR) rfl rfl hcat d kk
-- ask
def fR_ask_b64 (n : Nat) (x1 : Int32) (x3 : Int32) (M : MR) : Option (Int32 × MR) :=
    if x1 = (nI 3) then
      (gf M 12 fun v1 =>
      wz M 10 2000 (v1 - (nI 1)) (nI 0) fun M2 =>
      gf M2 12 fun v3 =>
      if x3 = 0 then
        (wr M2 11 2000 (v3 - (nI 1)) (nI 0) fun M4 =>
        some (0, M4))
      else
        (wr M2 11 2000 (v3 - (nI 1)) (nI 1) fun M5 =>
        some (0, M5)))
    else
      (some (0, M))
theorem wR_ask_b64 (X : gX p s m args meth c cX5_ask 4 RX5 none D (tyR cI cZ)) (n : Nat) (x1 : Int32) (x3 : Int32) (M : MR) : gG p l e (rmR 4 86) s m args below meth c 4 (ZR D cI cZ q (AR q s.heap.size) s.heap M) 0 0 (fun r => MQ below (QV D cI cZ q s.heap.size r) args s 0 0 (AR q s.heap.size)) 64 [(0, .ref (q 34)), (1, .int x1), (3, .int x3)] [] (fR_ask_b64 n x1 x3 M) := by
  unfold fR_ask_b64
  refine g_iload_n X dX5_ask_64 rfl rfl ?_
  refine g_iconst (v := (nI 3)) X dX5_ask_65 (by decide) ?_
  refine g_icmp_ne (tgt := 101) X dX5_ask_66 (by decide) ?_ ?_
  · exact r_vret X dX5_ask_101
  · refine g_aload_n X dX5_ask_69 rfl rfl ?_
    refine r_g_isObj X dX5_ask_70 ?_
    refine g_aload_n X dX5_ask_73 rfl rfl ?_
    refine r_g_top X dX5_ask_74 ?_
    intro v1
    refine g_iconst (v := (nI 1)) X dX5_ask_77 (by decide) ?_
    refine g_isub X dX5_ask_78 ?_
    refine g_iconst (v := (nI 0)) X dX5_ask_79 (by decide) ?_
    refine r_s_isObj X dX5_ask_80 ?_
    intro M2
    refine g_aload_n X dX5_ask_81 rfl rfl ?_
    refine r_g_value X dX5_ask_82 ?_
    refine g_aload_n X dX5_ask_85 rfl rfl ?_
    refine r_g_top X dX5_ask_86 ?_
    intro v3
    refine g_iconst (v := (nI 1)) X dX5_ask_89 (by decide) ?_
    refine g_isub X dX5_ask_90 ?_
    refine g_iload_n X dX5_ask_91 rfl rfl ?_
    refine g_if_eq (tgt := 99) X dX5_ask_92 (by decide) ?_ ?_
    · refine g_iconst (v := (nI 0)) X dX5_ask_99 (by decide) ?_
      refine r_s_value X dX5_ask_100 ?_
      intro M4
      exact r_vret X dX5_ask_101
    · refine g_iconst (v := (nI 1)) X dX5_ask_95 (by decide) ?_
      refine g_goto (tgt := 100) X dX5_ask_96 (by decide) ?_
      refine r_s_value X dX5_ask_100 ?_
      intro M5
      exact r_vret X dX5_ask_101
def fR_ask_b46 (n : Nat) (x1 : Int32) (s0 : Int32) (M : MR) : Option (Int32 × MR) :=
    if x1 = (nI 4) then
      (if s0 = 0 then
        (bnd (fR_fail n (nI 5) M) fun _ M1 =>
        some (0, M1))
      else
        (fR_ask_b64 n x1 s0 M))
    else
      (fR_ask_b64 n x1 s0 M)
theorem wR_ask_b46 (X : gX p s m args meth c cX5_ask 4 RX5 none D (tyR cI cZ)) (n : Nat) (x1 : Int32) (s0 : Int32) (M : MR) : gG p l e (rmR 4 86) s m args below meth c 4 (ZR D cI cZ q (AR q s.heap.size) s.heap M) 0 0 (fun r => MQ below (QV D cI cZ q s.heap.size r) args s 0 0 (AR q s.heap.size)) 46 [(0, .ref (q 34)), (1, .int x1)] [.int s0] (fR_ask_b46 n x1 s0 M) := by
  unfold fR_ask_b46
  refine g_istore_n (lv' := [(3, .int s0), (0, .ref (q 34)), (1, .int x1)]) X dX5_ask_46 rfl (by decide) rfl ?_
  refine g_iload_n X dX5_ask_47 rfl rfl ?_
  refine g_iconst (v := (nI 4)) X dX5_ask_48 (by decide) ?_
  refine g_icmp_ne (tgt := 64) X dX5_ask_49 (by decide) ?_ ?_
  · exact g_pick [1, 2, 0] rfl (wR_ask_b64 X n x1 s0 M)
  · refine g_iload_n X dX5_ask_52 rfl rfl ?_
    refine g_if_ne (tgt := 64) X dX5_ask_53 (by decide) ?_ ?_
    · exact g_pick [1, 2, 0] rfl (wR_ask_b64 X n x1 s0 M)
    · refine g_aload_n X dX5_ask_56 rfl rfl ?_
      refine g_iconst (v := (nI 5)) X dX5_ask_57 (by decide) ?_
      refine k_fail X ⟨Nat.le_of_ble_eq_true rfl, Nat.le_of_ble_eq_true rfl⟩ (Nat.le_of_ble_eq_true rfl) dX5_ask_58 ?_
      intro v1 M1
      refine g_goto (tgt := 101) X dX5_ask_61 (by decide) ?_
      exact r_vret X dX5_ask_101
def fR_ask_b45 (n : Nat) (x1 : Int32) (M : MR) : Option (Int32 × MR) :=
    fR_ask_b46 n x1 (nI 0) M
theorem wR_ask_b45 (X : gX p s m args meth c cX5_ask 4 RX5 none D (tyR cI cZ)) (n : Nat) (x1 : Int32) (M : MR) : gG p l e (rmR 4 86) s m args below meth c 4 (ZR D cI cZ q (AR q s.heap.size) s.heap M) 0 0 (fun r => MQ below (QV D cI cZ q s.heap.size r) args s 0 0 (AR q s.heap.size)) 45 [(0, .ref (q 34)), (1, .int x1)] [] (fR_ask_b45 n x1 M) := by
  unfold fR_ask_b45
  refine g_iconst (v := (nI 0)) X dX5_ask_45 (by decide) ?_
  exact g_pick [0, 1] rfl (wR_ask_b46 X n x1 (nI 0) M)
def fR_ask (n : Nat) (x1 : Int32) (x2 : Int32) (M : MR) : Option (Int32 × MR) :=
    gf M 12 fun v1 =>
    rd M 10 2000 (v1 - (nI 1)) fun v2 =>
    if v2 = 0 then
      (fR_ask_b45 n x1 M)
    else
      (gf M 12 fun v3 =>
      rd M 11 2000 (v3 - (nI 1)) fun v4 =>
      bnd (fR_objAt n v4 M) fun v5 M5 =>
      rd M5 0 62610 v5 fun v6 =>
      bnd (fR_isBelow n v6 x2 M5) fun v7 M7 =>
      if v7 = 0 then (fR_ask_b45 n x1 M7) else (fR_ask_b46 n x1 (nI 1) M7))
theorem c_ask (l : Launch) (D : va_G) (cI cZ : ClassId) (q : Nat → Nat) (n : Nat) (x1 : Int32) (x2 : Int32) (M : MR) : MetR l D cI cZ q yX5_ask cX5_ask 4 none 4 86 QV [.ref (q 34), .int x1, .int x2] M (fR_ask n x1 x2 M) := by
  refine MetR.of (by decide) rfl (Nat.le_of_ble_eq_true rfl) ?_
  intro p e s m args below meth c X
  unfold fR_ask
  refine g_pick (lv' := [(0, .ref (q 34)), (1, .int x1), (2, .int x2)]) [0, 1, 2] rfl ?_
  refine g_aload_n X dX5_ask_0 rfl rfl ?_
  refine r_g_isObj X dX5_ask_1 ?_
  refine g_aload_n X dX5_ask_4 rfl rfl ?_
  refine r_g_top X dX5_ask_5 ?_
  intro v1
  refine g_iconst (v := (nI 1)) X dX5_ask_8 (by decide) ?_
  refine g_isub X dX5_ask_9 ?_
  refine r_l_isObj X dX5_ask_10 ?_
  intro v2
  refine g_if_eq (tgt := 45) X dX5_ask_11 (by decide) ?_ ?_
  · exact g_pick [0, 1] rfl (wR_ask_b45 X n x1 M)
  · refine g_aload_n X dX5_ask_14 rfl rfl ?_
    refine g_aload_n X dX5_ask_15 rfl rfl ?_
    refine r_g_m X dX5_ask_16 ?_
    refine g_aload_n X dX5_ask_19 rfl rfl ?_
    refine r_g_value X dX5_ask_20 ?_
    refine g_aload_n X dX5_ask_23 rfl rfl ?_
    refine r_g_top X dX5_ask_24 ?_
    intro v3
    refine g_iconst (v := (nI 1)) X dX5_ask_27 (by decide) ?_
    refine g_isub X dX5_ask_28 ?_
    refine r_l_value X dX5_ask_29 ?_
    intro v4
    refine k_objAt X ⟨Nat.le_of_ble_eq_true rfl, Nat.le_of_ble_eq_true rfl⟩ (Nat.le_of_ble_eq_true rfl) dX5_ask_30 ?_
    intro v5 M5
    refine r_l_m X dX5_ask_33 ?_
    intro v6
    refine g_iload_n X dX5_ask_34 rfl rfl ?_
    refine k_isBelow X ⟨Nat.le_of_ble_eq_true rfl, Nat.le_of_ble_eq_true rfl⟩ (Nat.le_of_ble_eq_true rfl) dX5_ask_35 ?_
    intro v7 M7
    refine g_if_eq (tgt := 45) X dX5_ask_38 (by decide) ?_ ?_
    · exact g_pick [0, 1] rfl (wR_ask_b45 X n x1 M7)
    · refine g_iconst (v := (nI 1)) X dX5_ask_41 (by decide) ?_
      refine g_goto (tgt := 46) X dX5_ask_42 (by decide) ?_
      exact g_pick [0, 1] rfl (wR_ask_b46 X n x1 (nI 1) M7)
theorem tc_ask : Cond.code yX5_ask cX5_ask 4 none ∈ tt := tt_in (List.mem_of_getElem? (i := 1023) (by decide +kernel)) (by decide +kernel)
theorem tl_ask : Cond.methodLink RX5 185 yX5_ask ∈ tt := tt_in (List.mem_of_getElem? (i := 1020) (by decide +kernel)) (by decide +kernel)
theorem ti_ask : Cond.instanceMethod yX5_ask ∈ tt := tt_in (List.mem_of_getElem? (i := 1022) (by decide +kernel)) (by decide +kernel)
theorem te_ask : Cond.selects RX5 yX5_ask yX5_ask ∈ tt := tt_in (List.mem_of_getElem? (i := 66) (by decide +kernel)) (by decide +kernel)
theorem k_ask (X : gX p s m args meth c cc nL RX5 rt D (tyR cI cZ)) {n : Nat} {x1 : Int32} {x2 : Int32} {M : MR} {rest : List Value} {K : Int32 → MR → Option ρ} (hR : 4 + 1 ≤ R.frames ∧ 8 + (4 + 11) + 86 ≤ R.locals) (hcat : (rest.map fun v => v.category).sum ≤ 8) (d : decode cc pc = .ok (.invokevirtual 185, 3)) (kk : ∀ v M1, gG p l e R s m args below meth c nL (ZR D cI cZ q (AR q s.heap.size) s.heap M1) 0 0 QQ (pc + 3) lv (rest) (K v M1)) : gG p l e R s m args below meth c nL (ZR D cI cZ q (AR q s.heap.size) s.heap M) 0 0 QQ pc lv (.int x2 :: .int x1 :: .ref (q 34) :: rest) (bnd (fR_ask n x1 x2 M) K) := r_callVv (As := [.int x1, .int x2]) X (c_ask l D cI cZ q n x1 x2 M) (cwVR (k := 2) X.2.2.2.2.1 tl_ask ti_ask te_ask tc_ask ini5 (by decide +kernel) hR) rfl rfl hcat d kk
-- method
def fR_method_b32 (n : Nat) (x1 : Int32) (x2 : Int32) (x3 : Int32) (M : MR) : Option (Int32 × MR) :=
    if 0 ≤ x3 then
      (gf M 21 fun v1 =>
      if v1 = (nI 20) then
        (bnd (fR_fail n (nI 7) M) fun _ M15 =>
        some (0, M15))
      else
        (bnd (fR_ownMethod n x3 x2 M) fun v2 M2 =>
        gf M2 12 fun v3 =>
        pf M2 12 (v3 - (nI 2)) fun M4 =>
        gf M4 12 fun v5 =>
        rd M4 10 2000 (v5 + (nI 1)) fun v6 =>
        gf M4 12 fun v7 =>
        rd M4 11 2000 (v7 + (nI 1)) fun v8 =>
        bnd (fR_textOf n x3 v2 M4) fun v9 M9 =>
        bnd (fR_frame n x3 (v2 + (nI 1)) ((v2 + (nI 1)) + v9) x1 (-1 : Int32) M9) fun _ M10 =>
        gf M10 20 fun v11 =>
        wz M10 17 22 (v11 - (nI 1)) v6 fun M12 =>
        gf M12 20 fun v13 =>
        wr M12 18 22 (v13 - (nI 1)) v8 fun M14 =>
        some (0, M14)))
    else
      (bnd (fR_fail n (nI 4) M) fun _ M16 =>
      some (0, M16))
theorem wR_method_b32 (X : gX p s m args meth c cX5_method 7 RX5 none D (tyR cI cZ)) (n : Nat) (x1 : Int32) (x2 : Int32) (x3 : Int32) (M : MR) : gG p l e (rmR 5 111) s m args below meth c 7 (ZR D cI cZ q (AR q s.heap.size) s.heap M) 0 0 (fun r => MQ below (QV D cI cZ q s.heap.size r) args s 0 0 (AR q s.heap.size)) 32 [(0, .ref (q 34)), (1, .int x1), (2, .int x2), (3, .int x3)] [] (fR_method_b32 n x1 x2 x3 M) := by
  unfold fR_method_b32
  refine g_iload_n X dX5_method_32 rfl rfl ?_
  refine g_if_ge (tgt := 42) X dX5_method_33 (by decide) ?_ ?_
  · refine g_aload_n X dX5_method_42 rfl rfl ?_
    refine r_g_inner X dX5_method_43 ?_
    intro v1
    refine g_bipush (v := (nI 20)) X dX5_method_46 (by decide) ?_
    refine g_icmp_ne (tgt := 58) X dX5_method_48 (by decide) ?_ ?_
    · refine g_aload_n X dX5_method_58 rfl rfl ?_
      refine g_iload_n X dX5_method_59 rfl rfl ?_
      refine g_iload_n X dX5_method_60 rfl rfl ?_
      refine k_ownMethod X ⟨Nat.le_of_ble_eq_true rfl, Nat.le_of_ble_eq_true rfl⟩ (Nat.le_of_ble_eq_true rfl) dX5_method_61 ?_
      intro v2 M2
      refine g_istore (lv' := [(4, .int v2), (0, .ref (q 34)), (1, .int x1), (2, .int x2), (3, .int x3)]) X dX5_method_64 (by decide) rfl ?_
      refine g_aload_n X dX5_method_66 rfl rfl ?_
      refine g_dup X dX5_method_67 rfl ?_
      refine r_g_top X dX5_method_68 ?_
      intro v3
      refine g_iconst (v := (nI 2)) X dX5_method_71 (by decide) ?_
      refine g_isub X dX5_method_72 ?_
      refine r_p_top X dX5_method_73 ?_
      intro M4
      refine g_aload_n X dX5_method_76 rfl rfl ?_
      refine r_g_isObj X dX5_method_77 ?_
      refine g_aload_n X dX5_method_80 rfl rfl ?_
      refine r_g_top X dX5_method_81 ?_
      intro v5
      refine g_iconst (v := (nI 1)) X dX5_method_84 (by decide) ?_
      refine g_iadd X dX5_method_85 ?_
      refine r_l_isObj X dX5_method_86 ?_
      intro v6
      refine g_istore (lv' := [(5, .int v6), (4, .int v2), (0, .ref (q 34)), (1, .int x1), (2, .int x2), (3, .int x3)]) X dX5_method_87 (by decide) rfl ?_
      refine g_aload_n X dX5_method_89 rfl rfl ?_
      refine r_g_value X dX5_method_90 ?_
      refine g_aload_n X dX5_method_93 rfl rfl ?_
      refine r_g_top X dX5_method_94 ?_
      intro v7
      refine g_iconst (v := (nI 1)) X dX5_method_97 (by decide) ?_
      refine g_iadd X dX5_method_98 ?_
      refine r_l_value X dX5_method_99 ?_
      intro v8
      refine g_istore (lv' := [(6, .int v8), (5, .int v6), (4, .int v2), (0, .ref (q 34)), (1, .int x1), (2, .int x2), (3, .int x3)]) X dX5_method_100 (by decide) rfl ?_
      refine g_aload_n X dX5_method_102 rfl rfl ?_
      refine g_iload_n X dX5_method_103 rfl rfl ?_
      refine g_iload X dX5_method_104 rfl ?_
      refine g_iconst (v := (nI 1)) X dX5_method_106 (by decide) ?_
      refine g_iadd X dX5_method_107 ?_
      refine g_iload X dX5_method_108 rfl ?_
      refine g_iconst (v := (nI 1)) X dX5_method_110 (by decide) ?_
      refine g_iadd X dX5_method_111 ?_
      refine g_aload_n X dX5_method_112 rfl rfl ?_
      refine g_iload_n X dX5_method_113 rfl rfl ?_
      refine g_iload X dX5_method_114 rfl ?_
      refine k_textOf X ⟨Nat.le_of_ble_eq_true rfl, Nat.le_of_ble_eq_true rfl⟩ (Nat.le_of_ble_eq_true rfl) dX5_method_116 ?_
      intro v9 M9
      refine g_iadd X dX5_method_119 ?_
      refine g_iload_n X dX5_method_120 rfl rfl ?_
      refine g_iconst (v := (-1 : Int32)) X dX5_method_121 (by decide) ?_
      refine k_frame X ⟨Nat.le_of_ble_eq_true rfl, Nat.le_of_ble_eq_true rfl⟩ (Nat.le_of_ble_eq_true rfl) dX5_method_122 ?_
      intro v10 M10
      refine g_aload_n X dX5_method_125 rfl rfl ?_
      refine r_g_isArgObj X dX5_method_126 ?_
      refine g_aload_n X dX5_method_129 rfl rfl ?_
      refine r_g_frames X dX5_method_130 ?_
      intro v11
      refine g_iconst (v := (nI 1)) X dX5_method_133 (by decide) ?_
      refine g_isub X dX5_method_134 ?_
      refine g_iload X dX5_method_135 rfl ?_
      refine r_s_isArgObj X dX5_method_137 ?_
      intro M12
      refine g_aload_n X dX5_method_138 rfl rfl ?_
      refine r_g_argument X dX5_method_139 ?_
      refine g_aload_n X dX5_method_142 rfl rfl ?_
      refine r_g_frames X dX5_method_143 ?_
      intro v13
      refine g_iconst (v := (nI 1)) X dX5_method_146 (by decide) ?_
      refine g_isub X dX5_method_147 ?_
      refine g_iload X dX5_method_148 rfl ?_
      refine r_s_argument X dX5_method_150 ?_
      intro M14
      exact r_vret X dX5_method_151
    · refine g_aload_n X dX5_method_51 rfl rfl ?_
      refine g_bipush (v := (nI 7)) X dX5_method_52 (by decide) ?_
      refine k_fail X ⟨Nat.le_of_ble_eq_true rfl, Nat.le_of_ble_eq_true rfl⟩ (Nat.le_of_ble_eq_true rfl) dX5_method_54 ?_
      intro v15 M15
      exact r_vret X dX5_method_57
  · refine g_aload_n X dX5_method_36 rfl rfl ?_
    refine g_iconst (v := (nI 4)) X dX5_method_37 (by decide) ?_
    refine k_fail X ⟨Nat.le_of_ble_eq_true rfl, Nat.le_of_ble_eq_true rfl⟩ (Nat.le_of_ble_eq_true rfl) dX5_method_38 ?_
    intro v16 M16
    exact r_vret X dX5_method_41
def fR_method_l10 (n : Nat) : Nat → Int32 → Int32 → Int32 → MR → Option (Int32 × MR)
  | 0, _, _, _, _ => none
  | k + 1, x1, x2, x3, M => if x3 < 0 then
      (fR_method_b32 n x1 x2 x3 M)
    else
      (bnd (fR_ownMethod n x3 x2 M) fun v1 M1 =>
      if 0 ≤ v1 then
        (fR_method_b32 n x1 x2 x3 M1)
      else
        (bnd (fR_parentOf n x3 M1) fun v2 M2 =>
        (fR_method_l10 n k) x1 x2 v2 M2))
theorem wR_method_l10 (X : gX p s m args meth c cX5_method 7 RX5 none D (tyR cI cZ)) (n : Nat) : ∀ (k : Nat) (x1 : Int32) (x2 : Int32) (x3 : Int32) (M : MR), gG p l e (rmR 5 111) s m args below meth c 7 (ZR D cI cZ q (AR q s.heap.size) s.heap M) 0 0 (fun r => MQ below (QV D cI cZ q s.heap.size r) args s 0 0 (AR q s.heap.size)) 10 [(0, .ref (q 34)), (1, .int x1), (2, .int x2), (3, .int x3)] [] (fR_method_l10 n k x1 x2 x3 M) := by
  intro k
  induction k with
  | zero =>
    intro x1 x2 x3 M
    exact g_none
  | succ k ih =>
    intro x1 x2 x3 M
    rw [fR_method_l10]
    refine g_iload_n X dX5_method_10 rfl rfl ?_
    refine g_if_lt (tgt := 32) X dX5_method_11 (by decide) ?_ ?_
    · exact g_pick [0, 1, 2, 3] rfl (wR_method_b32 X n x1 x2 x3 M)
    · refine g_aload_n X dX5_method_14 rfl rfl ?_
      refine g_iload_n X dX5_method_15 rfl rfl ?_
      refine g_iload_n X dX5_method_16 rfl rfl ?_
      refine k_ownMethod X ⟨Nat.le_of_ble_eq_true rfl, Nat.le_of_ble_eq_true rfl⟩ (Nat.le_of_ble_eq_true rfl) dX5_method_17 ?_
      intro v1 M1
      refine g_if_ge (tgt := 32) X dX5_method_20 (by decide) ?_ ?_
      · exact g_pick [0, 1, 2, 3] rfl (wR_method_b32 X n x1 x2 x3 M1)
      · refine g_aload_n X dX5_method_23 rfl rfl ?_
        refine g_iload_n X dX5_method_24 rfl rfl ?_
        refine k_parentOf X ⟨Nat.le_of_ble_eq_true rfl, Nat.le_of_ble_eq_true rfl⟩ (Nat.le_of_ble_eq_true rfl) dX5_method_25 ?_
        intro v2 M2
        refine g_istore_n (lv' := [(3, .int v2), (0, .ref (q 34)), (1, .int x1), (2, .int x2)]) X dX5_method_28 rfl (by decide) rfl ?_
        refine g_goto (tgt := 10) X dX5_method_29 (by decide) ?_
        exact g_pick [1, 2, 3, 0] rfl (ih x1 x2 v2 M2)
def fR_method (n : Nat) (x1 : Int32) (x2 : Int32) (M : MR) : Option (Int32 × MR) :=
    bnd (fR_objAt n x1 M) fun v1 M1 =>
    rd M1 0 62610 v1 fun v2 =>
    fR_method_l10 n n x1 x2 v2 M1
theorem c_method (l : Launch) (D : va_G) (cI cZ : ClassId) (q : Nat → Nat) (n : Nat) (x1 : Int32) (x2 : Int32) (M : MR) : MetR l D cI cZ q yX5_method cX5_method 7 none 5 111 QV [.ref (q 34), .int x1, .int x2] M (fR_method n x1 x2 M) := by
  refine MetR.of (by decide) rfl (Nat.le_of_ble_eq_true rfl) ?_
  intro p e s m args below meth c X
  unfold fR_method
  refine g_pick (lv' := [(0, .ref (q 34)), (1, .int x1), (2, .int x2)]) [0, 1, 2] rfl ?_
  refine g_aload_n X dX5_method_0 rfl rfl ?_
  refine r_g_m X dX5_method_1 ?_
  refine g_iload_n X dX5_method_4 rfl rfl ?_
  refine k_objAt X ⟨Nat.le_of_ble_eq_true rfl, Nat.le_of_ble_eq_true rfl⟩ (Nat.le_of_ble_eq_true rfl) dX5_method_5 ?_
  intro v1 M1
  refine r_l_m X dX5_method_8 ?_
  intro v2
  refine g_istore_n (lv' := [(3, .int v2), (0, .ref (q 34)), (1, .int x1), (2, .int x2)]) X dX5_method_9 rfl (by decide) rfl ?_
  exact g_pick [1, 2, 3, 0] rfl (wR_method_l10 X n n x1 x2 v2 M1)
theorem tc_method : Cond.code yX5_method cX5_method 7 none ∈ tt := tt_in (List.mem_of_getElem? (i := 1035) (by decide +kernel)) (by decide +kernel)
theorem tl_method : Cond.methodLink RX5 205 yX5_method ∈ tt := tt_in (List.mem_of_getElem? (i := 1032) (by decide +kernel)) (by decide +kernel)
theorem ti_method : Cond.instanceMethod yX5_method ∈ tt := tt_in (List.mem_of_getElem? (i := 1034) (by decide +kernel)) (by decide +kernel)
theorem te_method : Cond.selects RX5 yX5_method yX5_method ∈ tt := tt_in (List.mem_of_getElem? (i := 69) (by decide +kernel)) (by decide +kernel)
theorem k_method (X : gX p s m args meth c cc nL RX5 rt D (tyR cI cZ)) {n : Nat} {x1 : Int32} {x2 : Int32} {M : MR} {rest : List Value} {K : Int32 → MR → Option ρ} (hR : 5 + 1 ≤ R.frames ∧ 8 + (7 + 11) + 111 ≤ R.locals) (hcat : (rest.map fun v => v.category).sum ≤ 8) (d : decode cc pc = .ok (.invokevirtual 205, 3)) (kk : ∀ v M1, gG p l e R s m args below meth c nL (ZR D cI cZ q (AR q s.heap.size) s.heap M1) 0 0 QQ (pc + 3) lv (rest) (K v M1)) : gG p l e R s m args below meth c nL (ZR D cI cZ q (AR q s.heap.size) s.heap M) 0 0 QQ pc lv (.int x2 :: .int x1 :: .ref (q 34) :: rest) (bnd (fR_method n x1 x2 M) K) := r_callVv (As := [.int x1, .int x2]) X (c_method l D cI cZ q n x1 x2 M) (cwVR (k := 2) X.2.2.2.2.1 tl_method ti_method te_method tc_method ini5 (by decide +kernel) hR) rfl rfl hcat d kk
end RM
