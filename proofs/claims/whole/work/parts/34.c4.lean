theorem dX3_callMethod_0 : decode cX3_callMethod 0 = .ok (.aload_n 0, 1) := by decide +kernel
theorem dX3_callMethod_1 : decode cX3_callMethod 1 = .ok (.iconst 1, 1) := by decide +kernel
theorem dX3_callMethod_2 : decode cX3_callMethod 2 = .ok (.invokevirtual 73, 3) := by decide +kernel
theorem dX3_callMethod_5 : decode cX3_callMethod 5 = .ok (.iconst 1, 1) := by decide +kernel
theorem dX3_callMethod_6 : decode cX3_callMethod 6 = .ok (.if_icmp .eq 5, 3) := by decide +kernel
theorem dX3_callMethod_9 : decode cX3_callMethod 9 = .ok (.iconst 1, 1) := by decide +kernel
theorem dX3_callMethod_10 : decode cX3_callMethod 10 = .ok (.ireturn, 1) := by decide +kernel
theorem dX3_callMethod_11 : decode cX3_callMethod 11 = .ok (.aload_n 0, 1) := by decide +kernel
theorem dX3_callMethod_12 : decode cX3_callMethod 12 = .ok (.iconst 1, 1) := by decide +kernel
theorem dX3_callMethod_13 : decode cX3_callMethod 13 = .ok (.invokevirtual 76, 3) := by decide +kernel
theorem dX3_callMethod_16 : decode cX3_callMethod 16 = .ok (.istore_n 2, 1) := by decide +kernel
theorem dX3_callMethod_17 : decode cX3_callMethod 17 = .ok (.aload_n 0, 1) := by decide +kernel
theorem dX3_callMethod_18 : decode cX3_callMethod 18 = .ok (.getfield 14, 3) := by decide +kernel
theorem dX3_callMethod_21 : decode cX3_callMethod 21 = .ok (.getfield 145, 3) := by decide +kernel
theorem dX3_callMethod_24 : decode cX3_callMethod 24 = .ok (.iload_n 2, 1) := by decide +kernel
theorem dX3_callMethod_25 : decode cX3_callMethod 25 = .ok (.iconst 0, 1) := by decide +kernel
theorem dX3_callMethod_26 : decode cX3_callMethod 26 = .ok (.invokevirtual 84, 3) := by decide +kernel
theorem dX3_callMethod_29 : decode cX3_callMethod 29 = .ok (.istore_n 3, 1) := by decide +kernel
theorem dX3_callMethod_30 : decode cX3_callMethod 30 = .ok (.aload_n 0, 1) := by decide +kernel
theorem dX3_callMethod_31 : decode cX3_callMethod 31 = .ok (.getfield 14, 3) := by decide +kernel
theorem dX3_callMethod_34 : decode cX3_callMethod 34 = .ok (.getfield 98, 3) := by decide +kernel
theorem dX3_callMethod_37 : decode cX3_callMethod 37 = .ok (.iload_n 3, 1) := by decide +kernel
theorem dX3_callMethod_38 : decode cX3_callMethod 38 = .ok (.bipush 9, 2) := by decide +kernel
theorem dX3_callMethod_40 : decode cX3_callMethod 40 = .ok (.iload_n 1, 1) := by decide +kernel
theorem dX3_callMethod_41 : decode cX3_callMethod 41 = .ok (.iadd, 1) := by decide +kernel
theorem dX3_callMethod_42 : decode cX3_callMethod 42 = .ok (.invokevirtual 84, 3) := by decide +kernel
theorem dX3_callMethod_45 : decode cX3_callMethod 45 = .ok (.istore 4, 2) := by decide +kernel
theorem dX3_callMethod_47 : decode cX3_callMethod 47 = .ok (.iload 4, 2) := by decide +kernel
theorem dX3_callMethod_49 : decode cX3_callMethod 49 = .ok (.iconst (-1), 1) := by decide +kernel
theorem dX3_callMethod_50 : decode cX3_callMethod 50 = .ok (.if_icmp .ne 5, 3) := by decide +kernel
theorem dX3_callMethod_53 : decode cX3_callMethod 53 = .ok (.iconst 4, 1) := by decide +kernel
theorem dX3_callMethod_54 : decode cX3_callMethod 54 = .ok (.ireturn, 1) := by decide +kernel
theorem dX3_callMethod_55 : decode cX3_callMethod 55 = .ok (.aload_n 0, 1) := by decide +kernel
theorem dX3_callMethod_56 : decode cX3_callMethod 56 = .ok (.invokevirtual 161, 3) := by decide +kernel
theorem dX3_callMethod_59 : decode cX3_callMethod 59 = .ok (.ifCond .eq 6, 3) := by decide +kernel
theorem dX3_callMethod_62 : decode cX3_callMethod 62 = .ok (.bipush 7, 2) := by decide +kernel
theorem dX3_callMethod_64 : decode cX3_callMethod 64 = .ok (.ireturn, 1) := by decide +kernel
theorem dX3_callMethod_65 : decode cX3_callMethod 65 = .ok (.aload_n 0, 1) := by decide +kernel
theorem dX3_callMethod_66 : decode cX3_callMethod 66 = .ok (.getfield 14, 3) := by decide +kernel
theorem dX3_callMethod_69 : decode cX3_callMethod 69 = .ok (.getfield 98, 3) := by decide +kernel
theorem dX3_callMethod_72 : decode cX3_callMethod 72 = .ok (.iload_n 3, 1) := by decide +kernel
theorem dX3_callMethod_73 : decode cX3_callMethod 73 = .ok (.bipush 14, 2) := by decide +kernel
theorem dX3_callMethod_75 : decode cX3_callMethod 75 = .ok (.iload_n 1, 1) := by decide +kernel
theorem dX3_callMethod_76 : decode cX3_callMethod 76 = .ok (.iadd, 1) := by decide +kernel
theorem dX3_callMethod_77 : decode cX3_callMethod 77 = .ok (.invokevirtual 84, 3) := by decide +kernel
theorem dX3_callMethod_80 : decode cX3_callMethod 80 = .ok (.istore 5, 2) := by decide +kernel
theorem dX3_callMethod_82 : decode cX3_callMethod 82 = .ok (.aload_n 0, 1) := by decide +kernel
theorem dX3_callMethod_83 : decode cX3_callMethod 83 = .ok (.iload 4, 2) := by decide +kernel
theorem dX3_callMethod_85 : decode cX3_callMethod 85 = .ok (.iload 5, 2) := by decide +kernel
theorem dX3_callMethod_87 : decode cX3_callMethod 87 = .ok (.aload_n 0, 1) := by decide +kernel
theorem dX3_callMethod_88 : decode cX3_callMethod 88 = .ok (.getfield 14, 3) := by decide +kernel
theorem dX3_callMethod_91 : decode cX3_callMethod 91 = .ok (.getfield 98, 3) := by decide +kernel
theorem dX3_callMethod_94 : decode cX3_callMethod 94 = .ok (.iload_n 3, 1) := by decide +kernel
theorem dX3_callMethod_95 : decode cX3_callMethod 95 = .ok (.bipush 19, 2) := by decide +kernel
theorem dX3_callMethod_97 : decode cX3_callMethod 97 = .ok (.iload_n 1, 1) := by decide +kernel
theorem dX3_callMethod_98 : decode cX3_callMethod 98 = .ok (.iadd, 1) := by decide +kernel
theorem dX3_callMethod_99 : decode cX3_callMethod 99 = .ok (.invokevirtual 84, 3) := by decide +kernel
theorem dX3_callMethod_102 : decode cX3_callMethod 102 = .ok (.invokevirtual 63, 3) := by decide +kernel
theorem dX3_callMethod_105 : decode cX3_callMethod 105 = .ok (.istore 6, 2) := by decide +kernel
theorem dX3_callMethod_107 : decode cX3_callMethod 107 = .ok (.aload_n 0, 1) := by decide +kernel
theorem dX3_callMethod_108 : decode cX3_callMethod 108 = .ok (.getfield 40, 3) := by decide +kernel
theorem dX3_callMethod_111 : decode cX3_callMethod 111 = .ok (.iload 6, 2) := by decide +kernel
theorem dX3_callMethod_113 : decode cX3_callMethod 113 = .ok (.iconst 3, 1) := by decide +kernel
theorem dX3_callMethod_114 : decode cX3_callMethod 114 = .ok (.iload_n 2, 1) := by decide +kernel
theorem dX3_callMethod_115 : decode cX3_callMethod 115 = .ok (.invokevirtual 101, 3) := by decide +kernel
theorem dX3_callMethod_118 : decode cX3_callMethod 118 = .ok (.aload_n 0, 1) := by decide +kernel
theorem dX3_callMethod_119 : decode cX3_callMethod 119 = .ok (.getfield 40, 3) := by decide +kernel
theorem dX3_callMethod_122 : decode cX3_callMethod 122 = .ok (.iload 6, 2) := by decide +kernel
theorem dX3_callMethod_124 : decode cX3_callMethod 124 = .ok (.iconst 4, 1) := by decide +kernel
theorem dX3_callMethod_125 : decode cX3_callMethod 125 = .ok (.aload_n 0, 1) := by decide +kernel
theorem dX3_callMethod_126 : decode cX3_callMethod 126 = .ok (.iconst 0, 1) := by decide +kernel
theorem dX3_callMethod_127 : decode cX3_callMethod 127 = .ok (.invokevirtual 73, 3) := by decide +kernel
theorem dX3_callMethod_130 : decode cX3_callMethod 130 = .ok (.invokevirtual 101, 3) := by decide +kernel
theorem dX3_callMethod_133 : decode cX3_callMethod 133 = .ok (.aload_n 0, 1) := by decide +kernel
theorem dX3_callMethod_134 : decode cX3_callMethod 134 = .ok (.getfield 40, 3) := by decide +kernel
theorem dX3_callMethod_137 : decode cX3_callMethod 137 = .ok (.iload 6, 2) := by decide +kernel
theorem dX3_callMethod_139 : decode cX3_callMethod 139 = .ok (.iconst 5, 1) := by decide +kernel
theorem dX3_callMethod_140 : decode cX3_callMethod 140 = .ok (.aload_n 0, 1) := by decide +kernel
theorem dX3_callMethod_141 : decode cX3_callMethod 141 = .ok (.iconst 0, 1) := by decide +kernel
theorem dX3_callMethod_142 : decode cX3_callMethod 142 = .ok (.invokevirtual 76, 3) := by decide +kernel
theorem dX3_callMethod_145 : decode cX3_callMethod 145 = .ok (.invokevirtual 101, 3) := by decide +kernel
theorem dX3_callMethod_148 : decode cX3_callMethod 148 = .ok (.aload_n 0, 1) := by decide +kernel
theorem dX3_callMethod_149 : decode cX3_callMethod 149 = .ok (.getfield 37, 3) := by decide +kernel
theorem dX3_callMethod_152 : decode cX3_callMethod 152 = .ok (.invokevirtual 108, 3) := by decide +kernel
theorem dX3_callMethod_155 : decode cX3_callMethod 155 = .ok (.aload_n 0, 1) := by decide +kernel
theorem dX3_callMethod_156 : decode cX3_callMethod 156 = .ok (.getfield 37, 3) := by decide +kernel
theorem dX3_callMethod_159 : decode cX3_callMethod 159 = .ok (.invokevirtual 108, 3) := by decide +kernel
theorem dX3_callMethod_162 : decode cX3_callMethod 162 = .ok (.iconst 0, 1) := by decide +kernel
theorem dX3_callMethod_163 : decode cX3_callMethod 163 = .ok (.ireturn, 1) := by decide +kernel
theorem dX3_beginByHand_0 : decode cX3_beginByHand 0 = .ok (.aload_n 0, 1) := by decide +kernel
theorem dX3_beginByHand_1 : decode cX3_beginByHand 1 = .ok (.invokevirtual 53, 3) := by decide +kernel
theorem dX3_beginByHand_4 : decode cX3_beginByHand 4 = .ok (.aload_n 0, 1) := by decide +kernel
theorem dX3_beginByHand_5 : decode cX3_beginByHand 5 = .ok (.getfield 37, 3) := by decide +kernel
theorem dX3_beginByHand_8 : decode cX3_beginByHand 8 = .ok (.iconst 1, 1) := by decide +kernel
theorem dX3_beginByHand_9 : decode cX3_beginByHand 9 = .ok (.iload_n 1, 1) := by decide +kernel
theorem dX3_beginByHand_10 : decode cX3_beginByHand 10 = .ok (.invokevirtual 67, 3) := by decide +kernel
theorem dX3_beginByHand_13 : decode cX3_beginByHand 13 = .ok (.aload_n 0, 1) := by decide +kernel
theorem dX3_beginByHand_14 : decode cX3_beginByHand 14 = .ok (.getfield 37, 3) := by decide +kernel
theorem dX3_beginByHand_17 : decode cX3_beginByHand 17 = .ok (.iconst 0, 1) := by decide +kernel
theorem dX3_beginByHand_18 : decode cX3_beginByHand 18 = .ok (.iload_n 3, 1) := by decide +kernel
theorem dX3_beginByHand_19 : decode cX3_beginByHand 19 = .ok (.invokevirtual 67, 3) := by decide +kernel
theorem dX3_beginByHand_22 : decode cX3_beginByHand 22 = .ok (.aload_n 0, 1) := by decide +kernel
theorem dX3_beginByHand_23 : decode cX3_beginByHand 23 = .ok (.aload_n 0, 1) := by decide +kernel
theorem dX3_beginByHand_24 : decode cX3_beginByHand 24 = .ok (.iload_n 2, 1) := by decide +kernel
theorem dX3_beginByHand_25 : decode cX3_beginByHand 25 = .ok (.invokevirtual 70, 3) := by decide +kernel
theorem dX3_beginByHand_28 : decode cX3_beginByHand 28 = .ok (.putfield 34, 3) := by decide +kernel
theorem dX3_beginByHand_31 : decode cX3_beginByHand 31 = .ok (.return_, 1) := by decide +kernel
theorem dX3_lastKind_0 : decode cX3_lastKind 0 = .ok (.aload_n 0, 1) := by decide +kernel
theorem dX3_lastKind_1 : decode cX3_lastKind 1 = .ok (.iconst 0, 1) := by decide +kernel
theorem dX3_lastKind_2 : decode cX3_lastKind 2 = .ok (.invokevirtual 73, 3) := by decide +kernel
theorem dX3_lastKind_5 : decode cX3_lastKind 5 = .ok (.ireturn, 1) := by decide +kernel
theorem dX3_lastNumber_0 : decode cX3_lastNumber 0 = .ok (.aload_n 0, 1) := by decide +kernel
theorem dX3_lastNumber_1 : decode cX3_lastNumber 1 = .ok (.iconst 0, 1) := by decide +kernel
theorem dX3_lastNumber_2 : decode cX3_lastNumber 2 = .ok (.invokevirtual 76, 3) := by decide +kernel
theorem dX3_lastNumber_5 : decode cX3_lastNumber 5 = .ok (.ireturn, 1) := by decide +kernel
theorem dX3_takeAndPut_0 : decode cX3_takeAndPut 0 = .ok (.iconst 0, 1) := by decide +kernel
theorem dX3_takeAndPut_1 : decode cX3_takeAndPut 1 = .ok (.istore 4, 2) := by decide +kernel
theorem dX3_takeAndPut_3 : decode cX3_takeAndPut 3 = .ok (.iload 4, 2) := by decide +kernel
theorem dX3_takeAndPut_5 : decode cX3_takeAndPut 5 = .ok (.iload_n 1, 1) := by decide +kernel
theorem dX3_takeAndPut_6 : decode cX3_takeAndPut 6 = .ok (.if_icmp .ge 16, 3) := by decide +kernel
theorem dX3_takeAndPut_9 : decode cX3_takeAndPut 9 = .ok (.aload_n 0, 1) := by decide +kernel
theorem dX3_takeAndPut_10 : decode cX3_takeAndPut 10 = .ok (.getfield 37, 3) := by decide +kernel
theorem dX3_takeAndPut_13 : decode cX3_takeAndPut 13 = .ok (.invokevirtual 108, 3) := by decide +kernel
theorem dX3_takeAndPut_16 : decode cX3_takeAndPut 16 = .ok (.iinc 4 1, 3) := by decide +kernel
theorem dX3_takeAndPut_19 : decode cX3_takeAndPut 19 = .ok (.goto (-16), 3) := by decide +kernel
theorem dX3_takeAndPut_22 : decode cX3_takeAndPut 22 = .ok (.aload_n 0, 1) := by decide +kernel
theorem dX3_takeAndPut_23 : decode cX3_takeAndPut 23 = .ok (.getfield 37, 3) := by decide +kernel
theorem dX3_takeAndPut_26 : decode cX3_takeAndPut 26 = .ok (.invokevirtual 105, 3) := by decide +kernel
theorem dX3_takeAndPut_29 : decode cX3_takeAndPut 29 = .ok (.istore 4, 2) := by decide +kernel
theorem dX3_takeAndPut_31 : decode cX3_takeAndPut 31 = .ok (.aload_n 0, 1) := by decide +kernel
theorem dX3_takeAndPut_32 : decode cX3_takeAndPut 32 = .ok (.getfield 37, 3) := by decide +kernel
theorem dX3_takeAndPut_35 : decode cX3_takeAndPut 35 = .ok (.iload 4, 2) := by decide +kernel
theorem dX3_takeAndPut_37 : decode cX3_takeAndPut 37 = .ok (.iconst 0, 1) := by decide +kernel
theorem dX3_takeAndPut_38 : decode cX3_takeAndPut 38 = .ok (.iload_n 2, 1) := by decide +kernel
theorem dX3_takeAndPut_39 : decode cX3_takeAndPut 39 = .ok (.invokevirtual 101, 3) := by decide +kernel
theorem dX3_takeAndPut_42 : decode cX3_takeAndPut 42 = .ok (.aload_n 0, 1) := by decide +kernel
theorem dX3_takeAndPut_43 : decode cX3_takeAndPut 43 = .ok (.getfield 37, 3) := by decide +kernel
theorem dX3_takeAndPut_46 : decode cX3_takeAndPut 46 = .ok (.iload 4, 2) := by decide +kernel
theorem dX3_takeAndPut_48 : decode cX3_takeAndPut 48 = .ok (.iconst 1, 1) := by decide +kernel
theorem dX3_takeAndPut_49 : decode cX3_takeAndPut 49 = .ok (.iload_n 3, 1) := by decide +kernel
theorem dX3_takeAndPut_50 : decode cX3_takeAndPut 50 = .ok (.invokevirtual 101, 3) := by decide +kernel
theorem dX3_takeAndPut_53 : decode cX3_takeAndPut 53 = .ok (.iconst 0, 1) := by decide +kernel
theorem dX3_takeAndPut_54 : decode cX3_takeAndPut 54 = .ok (.ireturn, 1) := by decide +kernel
theorem dX3_make_0 : decode cX3_make 0 = .ok (.aload_n 0, 1) := by decide +kernel
theorem dX3_make_1 : decode cX3_make 1 = .ok (.getfield 14, 3) := by decide +kernel
theorem dX3_make_4 : decode cX3_make 4 = .ok (.iload_n 1, 1) := by decide +kernel
theorem dX3_make_5 : decode cX3_make 5 = .ok (.invokevirtual 152, 3) := by decide +kernel
theorem dX3_make_8 : decode cX3_make 8 = .ok (.ifCond .eq 6, 3) := by decide +kernel
theorem dX3_make_11 : decode cX3_make 11 = .ok (.bipush 6, 2) := by decide +kernel
theorem dX3_make_13 : decode cX3_make 13 = .ok (.ireturn, 1) := by decide +kernel
theorem dX3_make_14 : decode cX3_make 14 = .ok (.aload_n 0, 1) := by decide +kernel
theorem dX3_make_15 : decode cX3_make 15 = .ok (.getfield 14, 3) := by decide +kernel
theorem dX3_make_18 : decode cX3_make 18 = .ok (.iload_n 1, 1) := by decide +kernel
theorem dX3_make_19 : decode cX3_make 19 = .ok (.invokevirtual 155, 3) := by decide +kernel
theorem dX3_make_22 : decode cX3_make 22 = .ok (.istore_n 2, 1) := by decide +kernel
theorem dX3_make_23 : decode cX3_make 23 = .ok (.iload_n 2, 1) := by decide +kernel
theorem dX3_make_24 : decode cX3_make 24 = .ok (.iconst (-1), 1) := by decide +kernel
theorem dX3_make_25 : decode cX3_make 25 = .ok (.if_icmp .ne 30, 3) := by decide +kernel
theorem dX3_make_28 : decode cX3_make 28 = .ok (.aload_n 0, 1) := by decide +kernel
theorem dX3_make_29 : decode cX3_make 29 = .ok (.getfield 14, 3) := by decide +kernel
theorem dX3_make_32 : decode cX3_make 32 = .ok (.iload_n 1, 1) := by decide +kernel
theorem dX3_make_33 : decode cX3_make 33 = .ok (.invokevirtual 158, 3) := by decide +kernel
theorem dX3_make_36 : decode cX3_make 36 = .ok (.istore_n 3, 1) := by decide +kernel
theorem dX3_make_37 : decode cX3_make 37 = .ok (.iload_n 3, 1) := by decide +kernel
theorem dX3_make_38 : decode cX3_make 38 = .ok (.iconst (-1), 1) := by decide +kernel
theorem dX3_make_39 : decode cX3_make 39 = .ok (.if_icmp .ne 8, 3) := by decide +kernel
theorem dX3_make_42 : decode cX3_make 42 = .ok (.bipush 8, 2) := by decide +kernel
theorem dX3_make_44 : decode cX3_make 44 = .ok (.goto 10, 3) := by decide +kernel
theorem dX3_make_47 : decode cX3_make 47 = .ok (.aload_n 0, 1) := by decide +kernel
theorem dX3_make_48 : decode cX3_make 48 = .ok (.iconst 0, 1) := by decide +kernel
theorem dX3_make_49 : decode cX3_make 49 = .ok (.iconst 1, 1) := by decide +kernel
theorem dX3_make_50 : decode cX3_make 50 = .ok (.iload_n 3, 1) := by decide +kernel
theorem dX3_make_51 : decode cX3_make 51 = .ok (.invokevirtual 120, 3) := by decide +kernel
theorem dX3_make_54 : decode cX3_make 54 = .ok (.ireturn, 1) := by decide +kernel
theorem dX3_make_55 : decode cX3_make 55 = .ok (.aload_n 0, 1) := by decide +kernel
theorem dX3_make_56 : decode cX3_make 56 = .ok (.invokevirtual 161, 3) := by decide +kernel
theorem dX3_make_59 : decode cX3_make 59 = .ok (.ifCond .eq 6, 3) := by decide +kernel
theorem dX3_make_62 : decode cX3_make 62 = .ok (.bipush 7, 2) := by decide +kernel
theorem dX3_make_64 : decode cX3_make 64 = .ok (.ireturn, 1) := by decide +kernel
theorem dX3_make_65 : decode cX3_make 65 = .ok (.aload_n 0, 1) := by decide +kernel
theorem dX3_make_66 : decode cX3_make 66 = .ok (.getfield 14, 3) := by decide +kernel
theorem dX3_make_69 : decode cX3_make 69 = .ok (.getfield 98, 3) := by decide +kernel
theorem dX3_make_72 : decode cX3_make 72 = .ok (.iload_n 2, 1) := by decide +kernel
theorem dX3_make_73 : decode cX3_make 73 = .ok (.bipush 6, 2) := by decide +kernel
theorem dX3_make_75 : decode cX3_make 75 = .ok (.iconst 1, 1) := by decide +kernel
theorem dX3_make_76 : decode cX3_make 76 = .ok (.invokevirtual 101, 3) := by decide +kernel
theorem dX3_make_79 : decode cX3_make 79 = .ok (.aload_n 0, 1) := by decide +kernel
theorem dX3_make_80 : decode cX3_make 80 = .ok (.getfield 14, 3) := by decide +kernel
theorem dX3_make_83 : decode cX3_make 83 = .ok (.getfield 98, 3) := by decide +kernel
theorem dX3_make_86 : decode cX3_make 86 = .ok (.iload_n 2, 1) := by decide +kernel
theorem dX3_make_87 : decode cX3_make 87 = .ok (.bipush 7, 2) := by decide +kernel
theorem dX3_make_89 : decode cX3_make 89 = .ok (.invokevirtual 84, 3) := by decide +kernel
theorem dX3_make_92 : decode cX3_make 92 = .ok (.istore_n 3, 1) := by decide +kernel
theorem dX3_make_93 : decode cX3_make 93 = .ok (.aload_n 0, 1) := by decide +kernel
theorem dX3_make_94 : decode cX3_make 94 = .ok (.iload_n 2, 1) := by decide +kernel
theorem dX3_make_95 : decode cX3_make 95 = .ok (.iload_n 3, 1) := by decide +kernel
theorem dX3_make_96 : decode cX3_make 96 = .ok (.aload_n 0, 1) := by decide +kernel
theorem dX3_make_97 : decode cX3_make 97 = .ok (.getfield 14, 3) := by decide +kernel
theorem dX3_make_100 : decode cX3_make 100 = .ok (.getfield 98, 3) := by decide +kernel
theorem dX3_make_103 : decode cX3_make 103 = .ok (.iload_n 2, 1) := by decide +kernel
theorem dX3_make_104 : decode cX3_make 104 = .ok (.bipush 8, 2) := by decide +kernel
theorem dX3_make_106 : decode cX3_make 106 = .ok (.invokevirtual 84, 3) := by decide +kernel
theorem dX3_make_109 : decode cX3_make 109 = .ok (.invokevirtual 63, 3) := by decide +kernel
theorem dX3_make_112 : decode cX3_make 112 = .ok (.istore 4, 2) := by decide +kernel
theorem dX3_make_114 : decode cX3_make 114 = .ok (.aload_n 0, 1) := by decide +kernel
theorem dX3_make_115 : decode cX3_make 115 = .ok (.getfield 40, 3) := by decide +kernel
theorem dX3_make_118 : decode cX3_make 118 = .ok (.iload 4, 2) := by decide +kernel
theorem dX3_make_120 : decode cX3_make 120 = .ok (.bipush 6, 2) := by decide +kernel
theorem dX3_make_122 : decode cX3_make 122 = .ok (.iload_n 2, 1) := by decide +kernel
theorem dX3_make_123 : decode cX3_make 123 = .ok (.invokevirtual 101, 3) := by decide +kernel
theorem dX3_make_126 : decode cX3_make 126 = .ok (.aload_n 0, 1) := by decide +kernel
theorem dX3_make_127 : decode cX3_make 127 = .ok (.getfield 40, 3) := by decide +kernel
theorem dX3_make_130 : decode cX3_make 130 = .ok (.iload 4, 2) := by decide +kernel
theorem dX3_make_132 : decode cX3_make 132 = .ok (.bipush 7, 2) := by decide +kernel
theorem dX3_make_134 : decode cX3_make 134 = .ok (.iload_n 1, 1) := by decide +kernel
theorem dX3_make_135 : decode cX3_make 135 = .ok (.invokevirtual 101, 3) := by decide +kernel
theorem dX3_make_138 : decode cX3_make 138 = .ok (.iconst 0, 1) := by decide +kernel
theorem dX3_make_139 : decode cX3_make 139 = .ok (.ireturn, 1) := by decide +kernel
theorem dX3_closeFrame_0 : decode cX3_closeFrame 0 = .ok (.aload_n 0, 1) := by decide +kernel
theorem dX3_closeFrame_1 : decode cX3_closeFrame 1 = .ok (.getfield 40, 3) := by decide +kernel
theorem dX3_closeFrame_4 : decode cX3_closeFrame 4 = .ok (.invokevirtual 80, 3) := by decide +kernel
theorem dX3_closeFrame_7 : decode cX3_closeFrame 7 = .ok (.iconst 1, 1) := by decide +kernel
theorem dX3_closeFrame_8 : decode cX3_closeFrame 8 = .ok (.isub, 1) := by decide +kernel
theorem dX3_closeFrame_9 : decode cX3_closeFrame 9 = .ok (.istore_n 1, 1) := by decide +kernel
theorem dX3_closeFrame_10 : decode cX3_closeFrame 10 = .ok (.aload_n 0, 1) := by decide +kernel
theorem dX3_closeFrame_11 : decode cX3_closeFrame 11 = .ok (.getfield 40, 3) := by decide +kernel
theorem dX3_closeFrame_14 : decode cX3_closeFrame 14 = .ok (.iload_n 1, 1) := by decide +kernel
theorem dX3_closeFrame_15 : decode cX3_closeFrame 15 = .ok (.bipush 6, 2) := by decide +kernel
theorem dX3_closeFrame_17 : decode cX3_closeFrame 17 = .ok (.invokevirtual 84, 3) := by decide +kernel
theorem dX3_closeFrame_20 : decode cX3_closeFrame 20 = .ok (.istore_n 2, 1) := by decide +kernel
theorem dX3_closeFrame_21 : decode cX3_closeFrame 21 = .ok (.aload_n 0, 1) := by decide +kernel
theorem dX3_closeFrame_22 : decode cX3_closeFrame 22 = .ok (.getfield 40, 3) := by decide +kernel
theorem dX3_closeFrame_25 : decode cX3_closeFrame 25 = .ok (.iload_n 1, 1) := by decide +kernel
theorem dX3_closeFrame_26 : decode cX3_closeFrame 26 = .ok (.bipush 7, 2) := by decide +kernel
theorem dX3_closeFrame_28 : decode cX3_closeFrame 28 = .ok (.invokevirtual 84, 3) := by decide +kernel
theorem dX3_closeFrame_31 : decode cX3_closeFrame 31 = .ok (.istore_n 3, 1) := by decide +kernel
theorem dX3_closeFrame_32 : decode cX3_closeFrame 32 = .ok (.aload_n 0, 1) := by decide +kernel
theorem dX3_closeFrame_33 : decode cX3_closeFrame 33 = .ok (.getfield 40, 3) := by decide +kernel
theorem dX3_closeFrame_36 : decode cX3_closeFrame 36 = .ok (.invokevirtual 108, 3) := by decide +kernel
theorem dX3_closeFrame_39 : decode cX3_closeFrame 39 = .ok (.iload_n 2, 1) := by decide +kernel
theorem dX3_closeFrame_40 : decode cX3_closeFrame 40 = .ok (.iconst (-1), 1) := by decide +kernel
theorem dX3_closeFrame_41 : decode cX3_closeFrame 41 = .ok (.if_icmp .ne 5, 3) := by decide +kernel
theorem dX3_closeFrame_44 : decode cX3_closeFrame 44 = .ok (.iconst 0, 1) := by decide +kernel
theorem dX3_closeFrame_45 : decode cX3_closeFrame 45 = .ok (.ireturn, 1) := by decide +kernel
theorem dX3_closeFrame_46 : decode cX3_closeFrame 46 = .ok (.aload_n 0, 1) := by decide +kernel
theorem dX3_closeFrame_47 : decode cX3_closeFrame 47 = .ok (.getfield 37, 3) := by decide +kernel
theorem dX3_closeFrame_50 : decode cX3_closeFrame 50 = .ok (.invokevirtual 108, 3) := by decide +kernel
theorem dX3_closeFrame_53 : decode cX3_closeFrame 53 = .ok (.aload_n 0, 1) := by decide +kernel
theorem dX3_closeFrame_54 : decode cX3_closeFrame 54 = .ok (.iload_n 3, 1) := by decide +kernel
theorem dX3_closeFrame_55 : decode cX3_closeFrame 55 = .ok (.invokevirtual 111, 3) := by decide +kernel
theorem dX3_closeFrame_58 : decode cX3_closeFrame 58 = .ok (.ireturn, 1) := by decide +kernel
theorem dX3_breakStarts_0 : decode cX3_breakStarts 0 = .ok (.iconst 0, 1) := by decide +kernel
theorem dX3_breakStarts_1 : decode cX3_breakStarts 1 = .ok (.istore_n 1, 1) := by decide +kernel
theorem dX3_breakStarts_2 : decode cX3_breakStarts 2 = .ok (.iconst 0, 1) := by decide +kernel
theorem dX3_breakStarts_3 : decode cX3_breakStarts 3 = .ok (.istore_n 2, 1) := by decide +kernel
theorem dX3_breakStarts_4 : decode cX3_breakStarts 4 = .ok (.iload_n 2, 1) := by decide +kernel
theorem dX3_breakStarts_5 : decode cX3_breakStarts 5 = .ok (.aload_n 0, 1) := by decide +kernel
theorem dX3_breakStarts_6 : decode cX3_breakStarts 6 = .ok (.getfield 40, 3) := by decide +kernel
theorem dX3_breakStarts_9 : decode cX3_breakStarts 9 = .ok (.invokevirtual 80, 3) := by decide +kernel
theorem dX3_breakStarts_12 : decode cX3_breakStarts 12 = .ok (.if_icmp .ge 41, 3) := by decide +kernel
theorem dX3_breakStarts_15 : decode cX3_breakStarts 15 = .ok (.aload_n 0, 1) := by decide +kernel
theorem dX3_breakStarts_16 : decode cX3_breakStarts 16 = .ok (.getfield 40, 3) := by decide +kernel
theorem dX3_breakStarts_19 : decode cX3_breakStarts 19 = .ok (.iload_n 2, 1) := by decide +kernel
theorem dX3_breakStarts_20 : decode cX3_breakStarts 20 = .ok (.bipush 6, 2) := by decide +kernel
theorem dX3_breakStarts_22 : decode cX3_breakStarts 22 = .ok (.invokevirtual 84, 3) := by decide +kernel
theorem dX3_breakStarts_25 : decode cX3_breakStarts 25 = .ok (.istore_n 3, 1) := by decide +kernel
theorem dX3_breakStarts_26 : decode cX3_breakStarts 26 = .ok (.iload_n 3, 1) := by decide +kernel
theorem dX3_breakStarts_27 : decode cX3_breakStarts 27 = .ok (.iconst (-1), 1) := by decide +kernel
theorem dX3_breakStarts_28 : decode cX3_breakStarts 28 = .ok (.if_icmp .eq 19, 3) := by decide +kernel
theorem dX3_breakStarts_31 : decode cX3_breakStarts 31 = .ok (.aload_n 0, 1) := by decide +kernel
theorem dX3_breakStarts_32 : decode cX3_breakStarts 32 = .ok (.getfield 14, 3) := by decide +kernel
theorem dX3_breakStarts_35 : decode cX3_breakStarts 35 = .ok (.getfield 98, 3) := by decide +kernel
theorem dX3_breakStarts_38 : decode cX3_breakStarts 38 = .ok (.iload_n 3, 1) := by decide +kernel
theorem dX3_breakStarts_39 : decode cX3_breakStarts 39 = .ok (.bipush 6, 2) := by decide +kernel
theorem dX3_breakStarts_41 : decode cX3_breakStarts 41 = .ok (.iconst 2, 1) := by decide +kernel
theorem dX3_breakStarts_42 : decode cX3_breakStarts 42 = .ok (.invokevirtual 101, 3) := by decide +kernel
theorem dX3_breakStarts_45 : decode cX3_breakStarts 45 = .ok (.iconst 1, 1) := by decide +kernel
theorem dX3_breakStarts_46 : decode cX3_breakStarts 46 = .ok (.istore_n 1, 1) := by decide +kernel
theorem dX3_breakStarts_47 : decode cX3_breakStarts 47 = .ok (.iinc 2 1, 3) := by decide +kernel
theorem dX3_breakStarts_50 : decode cX3_breakStarts 50 = .ok (.goto (-46), 3) := by decide +kernel
theorem dX3_breakStarts_53 : decode cX3_breakStarts 53 = .ok (.iload_n 1, 1) := by decide +kernel
theorem dX3_breakStarts_54 : decode cX3_breakStarts 54 = .ok (.ireturn, 1) := by decide +kernel
theorem dX3_codeAt_0 : decode cX3_codeAt 0 = .ok (.iload_n 1, 1) := by decide +kernel
theorem dX3_codeAt_1 : decode cX3_codeAt 1 = .ok (.iconst (-1), 1) := by decide +kernel
theorem dX3_codeAt_2 : decode cX3_codeAt 2 = .ok (.if_icmp .eq 19, 3) := by decide +kernel
theorem dX3_codeAt_5 : decode cX3_codeAt 5 = .ok (.aload_n 0, 1) := by decide +kernel
theorem dX3_codeAt_6 : decode cX3_codeAt 6 = .ok (.getfield 14, 3) := by decide +kernel
theorem dX3_codeAt_9 : decode cX3_codeAt 9 = .ok (.getfield 98, 3) := by decide +kernel
theorem dX3_codeAt_12 : decode cX3_codeAt 12 = .ok (.iload_n 1, 1) := by decide +kernel
theorem dX3_codeAt_13 : decode cX3_codeAt 13 = .ok (.bipush 44, 2) := by decide +kernel
theorem dX3_codeAt_15 : decode cX3_codeAt 15 = .ok (.iload_n 2, 1) := by decide +kernel
theorem dX3_codeAt_16 : decode cX3_codeAt 16 = .ok (.iadd, 1) := by decide +kernel
theorem dX3_codeAt_17 : decode cX3_codeAt 17 = .ok (.invokevirtual 84, 3) := by decide +kernel
theorem dX3_codeAt_20 : decode cX3_codeAt 20 = .ok (.ireturn, 1) := by decide +kernel
theorem dX3_codeAt_21 : decode cX3_codeAt 21 = .ok (.iload_n 2, 1) := by decide +kernel
theorem dX3_codeAt_22 : decode cX3_codeAt 22 = .ok (.ifCond .lt 18, 3) := by decide +kernel
theorem dX3_codeAt_25 : decode cX3_codeAt 25 = .ok (.iload_n 2, 1) := by decide +kernel
theorem dX3_codeAt_26 : decode cX3_codeAt 26 = .ok (.bipush 60, 2) := by decide +kernel
theorem dX3_codeAt_28 : decode cX3_codeAt 28 = .ok (.if_icmp .ge 12, 3) := by decide +kernel
theorem dX3_codeAt_31 : decode cX3_codeAt 31 = .ok (.aload_n 0, 1) := by decide +kernel
theorem dX3_codeAt_32 : decode cX3_codeAt 32 = .ok (.getfield 43, 3) := by decide +kernel
theorem dX3_codeAt_35 : decode cX3_codeAt 35 = .ok (.iload_n 2, 1) := by decide +kernel
theorem dX3_codeAt_36 : decode cX3_codeAt 36 = .ok (.iaload, 1) := by decide +kernel
theorem dX3_codeAt_37 : decode cX3_codeAt 37 = .ok (.goto 4, 3) := by decide +kernel
theorem dX3_codeAt_40 : decode cX3_codeAt 40 = .ok (.iconst 0, 1) := by decide +kernel
theorem dX3_codeAt_41 : decode cX3_codeAt 41 = .ok (.ireturn, 1) := by decide +kernel
theorem dX3_isLastOf_0 : decode cX3_isLastOf 0 = .ok (.aload_n 0, 1) := by decide +kernel
theorem dX3_isLastOf_1 : decode cX3_isLastOf 1 = .ok (.iconst 0, 1) := by decide +kernel
theorem dX3_isLastOf_2 : decode cX3_isLastOf 2 = .ok (.invokevirtual 73, 3) := by decide +kernel
theorem dX3_isLastOf_5 : decode cX3_isLastOf 5 = .ok (.iconst 1, 1) := by decide +kernel
theorem dX3_isLastOf_6 : decode cX3_isLastOf 6 = .ok (.if_icmp .ne 34, 3) := by decide +kernel
theorem dX3_isLastOf_9 : decode cX3_isLastOf 9 = .ok (.aload_n 0, 1) := by decide +kernel
theorem dX3_isLastOf_10 : decode cX3_isLastOf 10 = .ok (.getfield 14, 3) := by decide +kernel
theorem dX3_isLastOf_13 : decode cX3_isLastOf 13 = .ok (.aload_n 0, 1) := by decide +kernel
theorem dX3_isLastOf_14 : decode cX3_isLastOf 14 = .ok (.getfield 14, 3) := by decide +kernel
theorem dX3_isLastOf_17 : decode cX3_isLastOf 17 = .ok (.getfield 145, 3) := by decide +kernel
theorem dX3_isLastOf_20 : decode cX3_isLastOf 20 = .ok (.aload_n 0, 1) := by decide +kernel
theorem dX3_isLastOf_21 : decode cX3_isLastOf 21 = .ok (.iconst 0, 1) := by decide +kernel
theorem dX3_isLastOf_22 : decode cX3_isLastOf 22 = .ok (.invokevirtual 76, 3) := by decide +kernel
theorem dX3_isLastOf_25 : decode cX3_isLastOf 25 = .ok (.iconst 0, 1) := by decide +kernel
theorem dX3_isLastOf_26 : decode cX3_isLastOf 26 = .ok (.invokevirtual 84, 3) := by decide +kernel
theorem dX3_isLastOf_29 : decode cX3_isLastOf 29 = .ok (.iload_n 1, 1) := by decide +kernel
theorem dX3_isLastOf_30 : decode cX3_isLastOf 30 = .ok (.invokevirtual 148, 3) := by decide +kernel
theorem dX3_isLastOf_33 : decode cX3_isLastOf 33 = .ok (.ifCond .eq 7, 3) := by decide +kernel
theorem dX3_isLastOf_36 : decode cX3_isLastOf 36 = .ok (.iconst 1, 1) := by decide +kernel
theorem dX3_isLastOf_37 : decode cX3_isLastOf 37 = .ok (.goto 4, 3) := by decide +kernel
theorem dX3_isLastOf_40 : decode cX3_isLastOf 40 = .ok (.iconst 0, 1) := by decide +kernel
theorem dX3_isLastOf_41 : decode cX3_isLastOf 41 = .ok (.ireturn, 1) := by decide +kernel
theorem dX3_readField_0 : decode cX3_readField 0 = .ok (.aload_n 0, 1) := by decide +kernel
theorem dX3_readField_1 : decode cX3_readField 1 = .ok (.iconst 0, 1) := by decide +kernel
theorem dX3_readField_2 : decode cX3_readField 2 = .ok (.invokevirtual 73, 3) := by decide +kernel
theorem dX3_readField_5 : decode cX3_readField 5 = .ok (.iconst 1, 1) := by decide +kernel
theorem dX3_readField_6 : decode cX3_readField 6 = .ok (.if_icmp .eq 5, 3) := by decide +kernel
theorem dX3_readField_9 : decode cX3_readField 9 = .ok (.iconst 1, 1) := by decide +kernel
theorem dX3_readField_10 : decode cX3_readField 10 = .ok (.ireturn, 1) := by decide +kernel
theorem dX3_readField_11 : decode cX3_readField 11 = .ok (.aload_n 0, 1) := by decide +kernel
theorem dX3_readField_12 : decode cX3_readField 12 = .ok (.iconst 0, 1) := by decide +kernel
theorem dX3_readField_13 : decode cX3_readField 13 = .ok (.invokevirtual 76, 3) := by decide +kernel
theorem dX3_readField_16 : decode cX3_readField 16 = .ok (.istore_n 2, 1) := by decide +kernel
theorem dX3_readField_17 : decode cX3_readField 17 = .ok (.aload_n 0, 1) := by decide +kernel
theorem dX3_readField_18 : decode cX3_readField 18 = .ok (.getfield 14, 3) := by decide +kernel
theorem dX3_readField_21 : decode cX3_readField 21 = .ok (.iload_n 2, 1) := by decide +kernel
theorem dX3_readField_22 : decode cX3_readField 22 = .ok (.iload_n 1, 1) := by decide +kernel
theorem dX3_readField_23 : decode cX3_readField 23 = .ok (.invokevirtual 164, 3) := by decide +kernel
theorem dX3_readField_26 : decode cX3_readField 26 = .ok (.ifCond .ne 5, 3) := by decide +kernel
theorem dX3_readField_29 : decode cX3_readField 29 = .ok (.iconst 3, 1) := by decide +kernel
theorem dX3_readField_30 : decode cX3_readField 30 = .ok (.ireturn, 1) := by decide +kernel
theorem dX3_readField_31 : decode cX3_readField 31 = .ok (.aload_n 0, 1) := by decide +kernel
theorem dX3_readField_32 : decode cX3_readField 32 = .ok (.getfield 14, 3) := by decide +kernel
theorem dX3_readField_35 : decode cX3_readField 35 = .ok (.getfield 145, 3) := by decide +kernel
theorem dX3_readField_38 : decode cX3_readField 38 = .ok (.iload_n 2, 1) := by decide +kernel
theorem dX3_readField_39 : decode cX3_readField 39 = .ok (.bipush 11, 2) := by decide +kernel
theorem dX3_readField_41 : decode cX3_readField 41 = .ok (.iload_n 1, 1) := by decide +kernel
theorem dX3_readField_42 : decode cX3_readField 42 = .ok (.iadd, 1) := by decide +kernel
theorem dX3_readField_43 : decode cX3_readField 43 = .ok (.invokevirtual 84, 3) := by decide +kernel
theorem dX3_readField_46 : decode cX3_readField 46 = .ok (.istore_n 3, 1) := by decide +kernel
theorem dX3_readField_47 : decode cX3_readField 47 = .ok (.aload_n 0, 1) := by decide +kernel
theorem dX3_readField_48 : decode cX3_readField 48 = .ok (.iconst 1, 1) := by decide +kernel
theorem dX3_readField_49 : decode cX3_readField 49 = .ok (.aload_n 0, 1) := by decide +kernel
theorem dX3_readField_50 : decode cX3_readField 50 = .ok (.getfield 14, 3) := by decide +kernel
theorem dX3_readField_53 : decode cX3_readField 53 = .ok (.getfield 145, 3) := by decide +kernel
theorem dX3_readField_56 : decode cX3_readField 56 = .ok (.iload_n 2, 1) := by decide +kernel
theorem dX3_readField_57 : decode cX3_readField 57 = .ok (.iconst 1, 1) := by decide +kernel
theorem dX3_readField_58 : decode cX3_readField 58 = .ok (.iload_n 1, 1) := by decide +kernel
theorem dX3_readField_59 : decode cX3_readField 59 = .ok (.iadd, 1) := by decide +kernel
theorem dX3_readField_60 : decode cX3_readField 60 = .ok (.invokevirtual 84, 3) := by decide +kernel
theorem dX3_readField_63 : decode cX3_readField 63 = .ok (.iload_n 3, 1) := by decide +kernel
theorem dX3_readField_64 : decode cX3_readField 64 = .ok (.invokevirtual 120, 3) := by decide +kernel
theorem dX3_readField_67 : decode cX3_readField 67 = .ok (.ireturn, 1) := by decide +kernel
theorem dX3_writeField_0 : decode cX3_writeField 0 = .ok (.aload_n 0, 1) := by decide +kernel
theorem dX3_writeField_1 : decode cX3_writeField 1 = .ok (.iconst 1, 1) := by decide +kernel
theorem dX3_writeField_2 : decode cX3_writeField 2 = .ok (.invokevirtual 73, 3) := by decide +kernel
theorem dX3_writeField_5 : decode cX3_writeField 5 = .ok (.iconst 1, 1) := by decide +kernel
theorem dX3_writeField_6 : decode cX3_writeField 6 = .ok (.if_icmp .eq 5, 3) := by decide +kernel
theorem dX3_writeField_9 : decode cX3_writeField 9 = .ok (.iconst 1, 1) := by decide +kernel
theorem dX3_writeField_10 : decode cX3_writeField 10 = .ok (.ireturn, 1) := by decide +kernel
theorem dX3_writeField_11 : decode cX3_writeField 11 = .ok (.aload_n 0, 1) := by decide +kernel
theorem dX3_writeField_12 : decode cX3_writeField 12 = .ok (.iconst 1, 1) := by decide +kernel
theorem dX3_writeField_13 : decode cX3_writeField 13 = .ok (.invokevirtual 76, 3) := by decide +kernel
theorem dX3_writeField_16 : decode cX3_writeField 16 = .ok (.istore_n 2, 1) := by decide +kernel
theorem dX3_writeField_17 : decode cX3_writeField 17 = .ok (.aload_n 0, 1) := by decide +kernel
theorem dX3_writeField_18 : decode cX3_writeField 18 = .ok (.getfield 14, 3) := by decide +kernel
theorem dX3_writeField_21 : decode cX3_writeField 21 = .ok (.iload_n 2, 1) := by decide +kernel
theorem dX3_writeField_22 : decode cX3_writeField 22 = .ok (.iload_n 1, 1) := by decide +kernel
theorem dX3_writeField_23 : decode cX3_writeField 23 = .ok (.invokevirtual 164, 3) := by decide +kernel
theorem dX3_writeField_26 : decode cX3_writeField 26 = .ok (.ifCond .ne 5, 3) := by decide +kernel
theorem dX3_writeField_29 : decode cX3_writeField 29 = .ok (.iconst 3, 1) := by decide +kernel
theorem dX3_writeField_30 : decode cX3_writeField 30 = .ok (.ireturn, 1) := by decide +kernel
theorem dX3_writeField_31 : decode cX3_writeField 31 = .ok (.aload_n 0, 1) := by decide +kernel
theorem dX3_writeField_32 : decode cX3_writeField 32 = .ok (.getfield 14, 3) := by decide +kernel
theorem dX3_writeField_35 : decode cX3_writeField 35 = .ok (.iload_n 2, 1) := by decide +kernel
theorem dX3_writeField_36 : decode cX3_writeField 36 = .ok (.iload_n 1, 1) := by decide +kernel
theorem dX3_writeField_37 : decode cX3_writeField 37 = .ok (.aload_n 0, 1) := by decide +kernel
theorem dX3_writeField_38 : decode cX3_writeField 38 = .ok (.iconst 0, 1) := by decide +kernel
theorem dX3_writeField_39 : decode cX3_writeField 39 = .ok (.invokevirtual 73, 3) := by decide +kernel
theorem dX3_writeField_42 : decode cX3_writeField 42 = .ok (.aload_n 0, 1) := by decide +kernel
theorem dX3_writeField_43 : decode cX3_writeField 43 = .ok (.iconst 0, 1) := by decide +kernel
theorem dX3_writeField_44 : decode cX3_writeField 44 = .ok (.invokevirtual 76, 3) := by decide +kernel
theorem dX3_writeField_47 : decode cX3_writeField 47 = .ok (.invokevirtual 167, 3) := by decide +kernel
theorem dX3_writeField_50 : decode cX3_writeField 50 = .ok (.aload_n 0, 1) := by decide +kernel
theorem dX3_writeField_51 : decode cX3_writeField 51 = .ok (.iconst 2, 1) := by decide +kernel
theorem dX3_writeField_52 : decode cX3_writeField 52 = .ok (.aload_n 0, 1) := by decide +kernel
theorem dX3_writeField_53 : decode cX3_writeField 53 = .ok (.iconst 0, 1) := by decide +kernel
theorem dX3_writeField_54 : decode cX3_writeField 54 = .ok (.invokevirtual 73, 3) := by decide +kernel
theorem dX3_writeField_57 : decode cX3_writeField 57 = .ok (.aload_n 0, 1) := by decide +kernel
theorem dX3_writeField_58 : decode cX3_writeField 58 = .ok (.iconst 0, 1) := by decide +kernel
theorem dX3_writeField_59 : decode cX3_writeField 59 = .ok (.invokevirtual 76, 3) := by decide +kernel
theorem dX3_writeField_62 : decode cX3_writeField 62 = .ok (.invokevirtual 120, 3) := by decide +kernel
theorem dX3_writeField_65 : decode cX3_writeField 65 = .ok (.ireturn, 1) := by decide +kernel
theorem dX3_isSame_0 : decode cX3_isSame 0 = .ok (.aload_n 0, 1) := by decide +kernel
theorem dX3_isSame_1 : decode cX3_isSame 1 = .ok (.iconst 0, 1) := by decide +kernel
theorem dX3_isSame_2 : decode cX3_isSame 2 = .ok (.invokevirtual 73, 3) := by decide +kernel
theorem dX3_isSame_5 : decode cX3_isSame 5 = .ok (.aload_n 0, 1) := by decide +kernel
theorem dX3_isSame_6 : decode cX3_isSame 6 = .ok (.iconst 1, 1) := by decide +kernel
theorem dX3_isSame_7 : decode cX3_isSame 7 = .ok (.invokevirtual 73, 3) := by decide +kernel
theorem dX3_isSame_10 : decode cX3_isSame 10 = .ok (.if_icmp .ne 20, 3) := by decide +kernel
theorem dX3_isSame_13 : decode cX3_isSame 13 = .ok (.aload_n 0, 1) := by decide +kernel
theorem dX3_isSame_14 : decode cX3_isSame 14 = .ok (.iconst 0, 1) := by decide +kernel
theorem dX3_isSame_15 : decode cX3_isSame 15 = .ok (.invokevirtual 76, 3) := by decide +kernel
theorem dX3_isSame_18 : decode cX3_isSame 18 = .ok (.aload_n 0, 1) := by decide +kernel
theorem dX3_isSame_19 : decode cX3_isSame 19 = .ok (.iconst 1, 1) := by decide +kernel
theorem dX3_isSame_20 : decode cX3_isSame 20 = .ok (.invokevirtual 76, 3) := by decide +kernel
theorem dX3_isSame_23 : decode cX3_isSame 23 = .ok (.if_icmp .ne 7, 3) := by decide +kernel
theorem dX3_isSame_26 : decode cX3_isSame 26 = .ok (.iconst 1, 1) := by decide +kernel
theorem dX3_isSame_27 : decode cX3_isSame 27 = .ok (.goto 4, 3) := by decide +kernel
theorem dX3_isSame_30 : decode cX3_isSame 30 = .ok (.iconst 0, 1) := by decide +kernel
theorem dX3_isSame_31 : decode cX3_isSame 31 = .ok (.ireturn, 1) := by decide +kernel
section CM
variable {ρ : Type} {p : Program} {l : Launch} {e : Env} {s : State} {m : MethodId} {args : Array Value} {below : List Frame} {meth : Method} {c : Code}
variable {cc : ByteArray} {nL : Nat} {own : String} {rt : Option FieldType} {D : va_G} {cI : ClassId} {sf : sfT} {A : Nat → Prop} {q : Nat → Nat} {tk : Nat} {fr lo : Nat} {S0 S : CS} {QQ : ρ × CS → State → Prop} {pc : Nat} {lv : List (Nat × Value)}

-- X3.callMethod
theorem tlX3_73 : Cond.methodLink RX3 73 yX3_kindAt ∈ tt := tt_in (List.mem_of_getElem? (i := 542) (by decide +kernel)) (by decide +kernel)
theorem tlX3_76 : Cond.methodLink RX3 76 yX3_numberAt ∈ tt := tt_in (List.mem_of_getElem? (i := 546) (by decide +kernel)) (by decide +kernel)
theorem tlX3_161 : Cond.methodLink RX3 161 yX3_isDeep ∈ tt := tt_in (List.mem_of_getElem? (i := 521) (by decide +kernel)) (by decide +kernel)
theorem tlX3_108 : Cond.methodLink RX3 108 yX2_dropLast ∈ tt := tt_in (List.mem_of_getElem? (i := 493) (by decide +kernel)) (by decide +kernel)
def f3_callMethod (n : Nat) (x1 : Int32) (S : CS) : Option (Int32 × CS) :=
    bnd (f3_kindAt n (nI 1) S) fun v1 S1 =>
    if v1 = (nI 1) then
      (bnd (f3_numberAt n (nI 1) S1) fun v2 S2 =>
      bT 7 S2 (f2_get n v2 (nI 0) (tOf 7 S2)) fun v3 S3 =>
      bT 6 S3 (f2_get n v3 ((nI 9) + x1) (tOf 6 S3)) fun v4 S4 =>
      if v4 = (-1 : Int32) then
        (some ((nI 4), S4))
      else
        (bnd (f3_isDeep n S4) fun v5 S5 =>
        if v5 = 0 then
          (bT 6 S5 (f2_get n v3 ((nI 14) + x1) (tOf 6 S5)) fun v6 S6 =>
          bT 6 S6 (f2_get n v3 ((nI 19) + x1) (tOf 6 S6)) fun v7 S7 =>
          bnd (f3_openFrame n v4 v6 v7 S7) fun v8 S8 =>
          bT 4 S8 (f2_set n v8 (nI 3) v2 (tOf 4 S8)) fun _ S9 =>
          bnd (f3_kindAt n (nI 0) S9) fun v10 S10 =>
          bT 4 S10 (f2_set n v8 (nI 4) v10 (tOf 4 S10)) fun _ S11 =>
          bnd (f3_numberAt n (nI 0) S11) fun v12 S12 =>
          bT 4 S12 (f2_set n v8 (nI 5) v12 (tOf 4 S12)) fun _ S13 =>
          bT 3 S13 (f2_dropLast n (tOf 3 S13)) fun _ S14 =>
          bT 3 S14 (f2_dropLast n (tOf 3 S14)) fun _ S15 =>
          some ((nI 0), S15))
        else
          (some ((nI 7), S5))))
    else
      (some ((nI 1), S1))
theorem w3_callMethod (hsf : sfOk (SF tk)) (X : hX p s m args meth c cX3_callMethod 7 RX3 (some .int) D (tyC cI) (SF tk) A) {S0 : CS} (n : Nat) (x1 : Int32) (S : CS) : hG p l e (fun r => rmC 4 92 (cS r.2 - cS S0) (sS r.2 - sS S0)) s m args below meth c 7 (ZW D (wC cI q) A s.heap S0 S) (cS S - cS S0) (sS S - sS S0) (fun r => MQ below (QWi D (tyC cI) (wC cI q) A r) args s (cS r.2 - cS S0) (sS r.2 - sS S0) A) (fun r => le S r.2) 0 [(0, .ref (q 52)), (1, .int x1)] [] (f3_callMethod n x1 S) := by
    unfold f3_callMethod
    refine h_aload_n X dX3_callMethod_0 rfl rfl ?_
    refine h_iconst (v := (nI 1)) X dX3_callMethod_1 (by decide) ?_
    refine k3_kindAt hsf X tlX3_73 ⟨Nat.le_of_ble_eq_true rfl, Nat.le_of_ble_eq_true rfl⟩ (Nat.le_of_ble_eq_true rfl) dX3_callMethod_2 ?_
    intro v1 S1
    refine h_iconst (v := (nI 1)) X dX3_callMethod_5 (by decide) ?_
    refine h_icmp_eq (tgt := 11) X dX3_callMethod_6 (by decide) ?_ ?_
    · refine h_aload_n X dX3_callMethod_11 rfl rfl ?_
      refine h_iconst (v := (nI 1)) X dX3_callMethod_12 (by decide) ?_
      refine k3_numberAt hsf X tlX3_76 ⟨Nat.le_of_ble_eq_true rfl, Nat.le_of_ble_eq_true rfl⟩ (Nat.le_of_ble_eq_true rfl) dX3_callMethod_13 ?_
      intro v2 S2
      refine h_istore_n (lv' := [(2, .int v2), (0, .ref (q 52)), (1, .int x1)]) X dX3_callMethod_16 rfl (by decide) rfl ?_
      refine h_aload_n X dX3_callMethod_17 rfl rfl ?_
      refine c_g_WK_book X fl3_14 dX3_callMethod_18 ?_
      refine c_g_IM_objects X fl3_145 dX3_callMethod_21 ?_
      refine h_iload_n X dX3_callMethod_24 rfl rfl ?_
      refine h_iconst (v := (nI 0)) X dX3_callMethod_25 (by decide) ?_
      refine kt2_get_7 hsf X tlX3_84 ⟨Nat.le_of_ble_eq_true rfl, Nat.le_of_ble_eq_true rfl⟩ (Nat.le_of_ble_eq_true rfl) dX3_callMethod_26 ?_
      intro v3 S3
      refine h_istore_n (lv' := [(3, .int v3), (2, .int v2), (0, .ref (q 52)), (1, .int x1)]) X dX3_callMethod_29 rfl (by decide) rfl ?_
      refine h_aload_n X dX3_callMethod_30 rfl rfl ?_
      refine c_g_WK_book X fl3_14 dX3_callMethod_31 ?_
      refine c_g_IM_editions X fl3_98 dX3_callMethod_34 ?_
      refine h_iload_n X dX3_callMethod_37 rfl rfl ?_
      refine h_bipush (v := (nI 9)) X dX3_callMethod_38 (by decide) ?_
      refine h_iload_n X dX3_callMethod_40 rfl rfl ?_
      refine h_iadd X dX3_callMethod_41 ?_
      refine kt2_get_6 hsf X tlX3_84 ⟨Nat.le_of_ble_eq_true rfl, Nat.le_of_ble_eq_true rfl⟩ (Nat.le_of_ble_eq_true rfl) dX3_callMethod_42 ?_
      intro v4 S4
      refine h_istore (lv' := [(4, .int v4), (3, .int v3), (2, .int v2), (0, .ref (q 52)), (1, .int x1)]) X dX3_callMethod_45 (by decide) rfl ?_
      refine h_iload X dX3_callMethod_47 rfl ?_
      refine h_iconst (v := (-1 : Int32)) X dX3_callMethod_49 (by decide) ?_
      refine h_icmp_ne (tgt := 55) X dX3_callMethod_50 (by decide) ?_ ?_
      · refine h_aload_n X dX3_callMethod_55 rfl rfl ?_
        refine k3_isDeep hsf X tlX3_161 ⟨Nat.le_of_ble_eq_true rfl, Nat.le_of_ble_eq_true rfl⟩ (Nat.le_of_ble_eq_true rfl) dX3_callMethod_56 ?_
        intro v5 S5
        refine h_if_eq (tgt := 65) X dX3_callMethod_59 (by decide) ?_ ?_
        · refine h_aload_n X dX3_callMethod_65 rfl rfl ?_
          refine c_g_WK_book X fl3_14 dX3_callMethod_66 ?_
          refine c_g_IM_editions X fl3_98 dX3_callMethod_69 ?_
          refine h_iload_n X dX3_callMethod_72 rfl rfl ?_
          refine h_bipush (v := (nI 14)) X dX3_callMethod_73 (by decide) ?_
          refine h_iload_n X dX3_callMethod_75 rfl rfl ?_
          refine h_iadd X dX3_callMethod_76 ?_
          refine kt2_get_6 hsf X tlX3_84 ⟨Nat.le_of_ble_eq_true rfl, Nat.le_of_ble_eq_true rfl⟩ (Nat.le_of_ble_eq_true rfl) dX3_callMethod_77 ?_
          intro v6 S6
          refine h_istore (lv' := [(5, .int v6), (4, .int v4), (3, .int v3), (2, .int v2), (0, .ref (q 52)), (1, .int x1)]) X dX3_callMethod_80 (by decide) rfl ?_
          refine h_aload_n X dX3_callMethod_82 rfl rfl ?_
          refine h_iload X dX3_callMethod_83 rfl ?_
          refine h_iload X dX3_callMethod_85 rfl ?_
          refine h_aload_n X dX3_callMethod_87 rfl rfl ?_
          refine c_g_WK_book X fl3_14 dX3_callMethod_88 ?_
          refine c_g_IM_editions X fl3_98 dX3_callMethod_91 ?_
          refine h_iload_n X dX3_callMethod_94 rfl rfl ?_
          refine h_bipush (v := (nI 19)) X dX3_callMethod_95 (by decide) ?_
          refine h_iload_n X dX3_callMethod_97 rfl rfl ?_
          refine h_iadd X dX3_callMethod_98 ?_
          refine kt2_get_6 hsf X tlX3_84 ⟨Nat.le_of_ble_eq_true rfl, Nat.le_of_ble_eq_true rfl⟩ (Nat.le_of_ble_eq_true rfl) dX3_callMethod_99 ?_
          intro v7 S7
          refine k3_openFrame hsf X tlX3_63 ⟨Nat.le_of_ble_eq_true rfl, Nat.le_of_ble_eq_true rfl⟩ (Nat.le_of_ble_eq_true rfl) dX3_callMethod_102 ?_
          intro v8 S8
          refine h_istore (lv' := [(6, .int v8), (5, .int v6), (4, .int v4), (3, .int v3), (2, .int v2), (0, .ref (q 52)), (1, .int x1)]) X dX3_callMethod_105 (by decide) rfl ?_
          refine h_aload_n X dX3_callMethod_107 rfl rfl ?_
          refine c_g_WK_frames X fl3_40 dX3_callMethod_108 ?_
          refine h_iload X dX3_callMethod_111 rfl ?_
          refine h_iconst (v := (nI 3)) X dX3_callMethod_113 (by decide) ?_
          refine h_iload_n X dX3_callMethod_114 rfl rfl ?_
          refine kt2_set_4 hsf X tlX3_101 ⟨Nat.le_of_ble_eq_true rfl, Nat.le_of_ble_eq_true rfl⟩ (Nat.le_of_ble_eq_true rfl) dX3_callMethod_115 ?_
          intro v9 S9
          refine h_aload_n X dX3_callMethod_118 rfl rfl ?_
          refine c_g_WK_frames X fl3_40 dX3_callMethod_119 ?_
          refine h_iload X dX3_callMethod_122 rfl ?_
          refine h_iconst (v := (nI 4)) X dX3_callMethod_124 (by decide) ?_
          refine h_aload_n X dX3_callMethod_125 rfl rfl ?_
          refine h_iconst (v := (nI 0)) X dX3_callMethod_126 (by decide) ?_
          refine k3_kindAt hsf X tlX3_73 ⟨Nat.le_of_ble_eq_true rfl, Nat.le_of_ble_eq_true rfl⟩ (Nat.le_of_ble_eq_true rfl) dX3_callMethod_127 ?_
          intro v10 S10
          refine kt2_set_4 hsf X tlX3_101 ⟨Nat.le_of_ble_eq_true rfl, Nat.le_of_ble_eq_true rfl⟩ (Nat.le_of_ble_eq_true rfl) dX3_callMethod_130 ?_
          intro v11 S11
          refine h_aload_n X dX3_callMethod_133 rfl rfl ?_
          refine c_g_WK_frames X fl3_40 dX3_callMethod_134 ?_
          refine h_iload X dX3_callMethod_137 rfl ?_
          refine h_iconst (v := (nI 5)) X dX3_callMethod_139 (by decide) ?_
          refine h_aload_n X dX3_callMethod_140 rfl rfl ?_
          refine h_iconst (v := (nI 0)) X dX3_callMethod_141 (by decide) ?_
          refine k3_numberAt hsf X tlX3_76 ⟨Nat.le_of_ble_eq_true rfl, Nat.le_of_ble_eq_true rfl⟩ (Nat.le_of_ble_eq_true rfl) dX3_callMethod_142 ?_
          intro v12 S12
          refine kt2_set_4 hsf X tlX3_101 ⟨Nat.le_of_ble_eq_true rfl, Nat.le_of_ble_eq_true rfl⟩ (Nat.le_of_ble_eq_true rfl) dX3_callMethod_145 ?_
          intro v13 S13
          refine h_aload_n X dX3_callMethod_148 rfl rfl ?_
          refine c_g_WK_pile X fl3_37 dX3_callMethod_149 ?_
          refine kt2_dropLast_3 hsf X tlX3_108 ⟨Nat.le_of_ble_eq_true rfl, Nat.le_of_ble_eq_true rfl⟩ (Nat.le_of_ble_eq_true rfl) dX3_callMethod_152 ?_
          intro v14 S14
          refine h_aload_n X dX3_callMethod_155 rfl rfl ?_
          refine c_g_WK_pile X fl3_37 dX3_callMethod_156 ?_
          refine kt2_dropLast_3 hsf X tlX3_108 ⟨Nat.le_of_ble_eq_true rfl, Nat.le_of_ble_eq_true rfl⟩ (Nat.le_of_ble_eq_true rfl) dX3_callMethod_159 ?_
          intro v15 S15
          refine h_iconst (v := (nI 0)) X dX3_callMethod_162 (by decide) ?_
          exact h_iret X dX3_callMethod_163
        · refine h_bipush (v := (nI 7)) X dX3_callMethod_62 (by decide) ?_
          exact h_iret X dX3_callMethod_64
      · refine h_iconst (v := (nI 4)) X dX3_callMethod_53 (by decide) ?_
        exact h_iret X dX3_callMethod_54
    · refine h_iconst (v := (nI 1)) X dX3_callMethod_9 (by decide) ?_
      exact h_iret X dX3_callMethod_10
theorem mo3_callMethod (n : Nat) (x1 : Int32) (S : CS) : mo S (f3_callMethod n x1 S) := by
    unfold f3_callMethod
    refine m_bnd (mo3_kindAt _ _ _) (fun v1 S1 => ?_)
    refine m_ite ?_ ?_
    · refine m_bnd (mo3_numberAt _ _ _) (fun v2 S2 => ?_)
      refine m_bT (mo2_get _ _ _ _) (fun v3 S3 => ?_)
      refine m_bT (mo2_get _ _ _ _) (fun v4 S4 => ?_)
      refine m_ite ?_ ?_
      · exact m_some
      · refine m_bnd (mo3_isDeep _ _) (fun v5 S5 => ?_)
        refine m_ite ?_ ?_
        · refine m_bT (mo2_get _ _ _ _) (fun v6 S6 => ?_)
          refine m_bT (mo2_get _ _ _ _) (fun v7 S7 => ?_)
          refine m_bnd (mo3_openFrame _ _ _ _ _) (fun v8 S8 => ?_)
          refine m_bT (mo2_set _ _ _ _ _) (fun v9 S9 => ?_)
          refine m_bnd (mo3_kindAt _ _ _) (fun v10 S10 => ?_)
          refine m_bT (mo2_set _ _ _ _ _) (fun v11 S11 => ?_)
          refine m_bnd (mo3_numberAt _ _ _) (fun v12 S12 => ?_)
          refine m_bT (mo2_set _ _ _ _ _) (fun v13 S13 => ?_)
          refine m_bT (mo2_dropLast _ _) (fun v14 S14 => ?_)
          refine m_bT (mo2_dropLast _ _) (fun v15 S15 => ?_)
          exact m_some
        · exact m_some
    · exact m_some
theorem c3_callMethod (hsf : sfOk (SF tk)) (l : Launch) (D : va_G) (cI : ClassId) (q : Nat → Nat) (n : Nat) (x1 : Int32) (S : CS) : MetW l D (tyC cI) (SF tk) (wC cI q) yX3_callMethod cX3_callMethod 7 (some .int) 4 92 QWi [.ref (q 52), .int x1] S (f3_callMethod n x1 S) := by
  refine MetW.of (own := RX3) (by decide) rfl (Nat.le_of_ble_eq_true rfl) (mo3_callMethod n x1 S) ?_
  intro x p e s m args below meth c X
  refine h_pick (lv' := [(0, .ref (q 52)), (1, .int x1)]) [0, 1] rfl ?_
  exact h_close (w3_callMethod hsf X n x1 S)
theorem tc3_callMethod : Cond.code yX3_callMethod cX3_callMethod 7 (some .int) ∈ tt := tt_in (List.mem_of_getElem? (i := 573) (by decide +kernel)) (by decide +kernel)
theorem ti3_callMethod : Cond.instanceMethod yX3_callMethod ∈ tt := tt_in (List.mem_of_getElem? (i := 572) (by decide +kernel)) (by decide +kernel)
theorem te3_callMethod : Cond.selects RX3 yX3_callMethod yX3_callMethod ∈ tt := tt_in (List.mem_of_getElem? (i := 29) (by decide +kernel)) (by decide +kernel)
theorem k3_callMethod (hsf : sfOk (SF tk)) (X : hX p s m args meth c cc nL own rt D (tyC cI) (SF tk) A) {n : Nat} {x1 : Int32} {ix : Nat} (hlk : Cond.methodLink own ix yX3_callMethod ∈ tt) {rest : List Value} {K : Int32 → CS → Option (ρ × CS)} (hR : 4 + 1 ≤ fr ∧ 8 + (7 + 11) + 92 ≤ lo) (hcat : (rest.map fun v => v.category).sum ≤ 8) (d : decode cc pc = .ok (.invokevirtual ix, 3)) (kk : ∀ v S1, hG p l e (fun r => rmC fr lo (cS r.2 - cS S0) (sS r.2 - sS S0)) s m args below meth c nL (ZW D (wC cI q) A s.heap S0 S1) (cS S1 - cS S0) (sS S1 - sS S0) QQ (fun r => le S1 r.2) (pc + 3) lv (.int v :: rest) (K v S1)) : hG p l e (fun r => rmC fr lo (cS r.2 - cS S0) (sS r.2 - sS S0)) s m args below meth c nL (ZW D (wC cI q) A s.heap S0 S) (cS S - cS S0) (sS S - sS S0) QQ (fun r => le S r.2) pc lv (.int x1 :: .ref (q 52) :: rest) (bnd (f3_callMethod n x1 S) K) := h_callVi (As := [.int x1]) (b := q 52) (C := RX3) hsf X (c3_callMethod hsf l D cI q n x1 S) (cwVC (k := 1) X.1.2.2.2.2.1 hlk ti3_callMethod te3_callMethod tc3_callMethod ini_3 (by decide +kernel) hR) (fun x H h1 h2 => va_recv h1 h2 (ci := 3) (q0 := 7) rfl rfl) rfl rfl hcat d kk
-- X3.beginByHand
theorem tlX3_67 : Cond.methodLink RX3 67 yX2_addPair ∈ tt := tt_in (List.mem_of_getElem? (i := 586) (by decide +kernel)) (by decide +kernel)
theorem tlX3_70 : Cond.methodLink RX3 70 yX3_callMethod ∈ tt := tt_in (List.mem_of_getElem? (i := 570) (by decide +kernel)) (by decide +kernel)
def f3_beginByHand (n : Nat) (x1 : Int32) (x2 : Int32) (x3 : Int32) (S : CS) : Option (Int32 × CS) :=
    bnd (f3_clear n S) fun _ S1 =>
    bT 3 S1 (f2_addPair n (nI 1) x1 (tOf 3 S1)) fun _ S2 =>
    bT 3 S2 (f2_addPair n (nI 0) x3 (tOf 3 S2)) fun _ S3 =>
    bnd (f3_callMethod n x2 S3) fun v4 S4 =>
    cp S4 17 v4 fun S5 =>
    some (0, S5)
theorem w3_beginByHand (hsf : sfOk (SF tk)) (X : hX p s m args meth c cX3_beginByHand 4 RX3 none D (tyC cI) (SF tk) A) {S0 : CS} (n : Nat) (x1 : Int32) (x2 : Int32) (x3 : Int32) (S : CS) : hG p l e (fun r => rmC 5 118 (cS r.2 - cS S0) (sS r.2 - sS S0)) s m args below meth c 4 (ZW D (wC cI q) A s.heap S0 S) (cS S - cS S0) (sS S - sS S0) (fun r => MQ below (QWv D (tyC cI) (wC cI q) A r) args s (cS r.2 - cS S0) (sS r.2 - sS S0) A) (fun r => le S r.2) 0 [(0, .ref (q 52)), (1, .int x1), (2, .int x2), (3, .int x3)] [] (f3_beginByHand n x1 x2 x3 S) := by
    unfold f3_beginByHand
    refine h_aload_n X dX3_beginByHand_0 rfl rfl ?_
    refine k3_clear hsf X tlX3_53 ⟨Nat.le_of_ble_eq_true rfl, Nat.le_of_ble_eq_true rfl⟩ (Nat.le_of_ble_eq_true rfl) dX3_beginByHand_1 ?_
    intro v1 S1
    refine h_aload_n X dX3_beginByHand_4 rfl rfl ?_
    refine c_g_WK_pile X fl3_37 dX3_beginByHand_5 ?_
    refine h_iconst (v := (nI 1)) X dX3_beginByHand_8 (by decide) ?_
    refine h_iload_n X dX3_beginByHand_9 rfl rfl ?_
    refine kt2_addPair_3 hsf X tlX3_67 ⟨Nat.le_of_ble_eq_true rfl, Nat.le_of_ble_eq_true rfl⟩ (Nat.le_of_ble_eq_true rfl) dX3_beginByHand_10 ?_
    intro v2 S2
    refine h_aload_n X dX3_beginByHand_13 rfl rfl ?_
    refine c_g_WK_pile X fl3_37 dX3_beginByHand_14 ?_
    refine h_iconst (v := (nI 0)) X dX3_beginByHand_17 (by decide) ?_
    refine h_iload_n X dX3_beginByHand_18 rfl rfl ?_
    refine kt2_addPair_3 hsf X tlX3_67 ⟨Nat.le_of_ble_eq_true rfl, Nat.le_of_ble_eq_true rfl⟩ (Nat.le_of_ble_eq_true rfl) dX3_beginByHand_19 ?_
    intro v3 S3
    refine h_aload_n X dX3_beginByHand_22 rfl rfl ?_
    refine h_aload_n X dX3_beginByHand_23 rfl rfl ?_
    refine h_iload_n X dX3_beginByHand_24 rfl rfl ?_
    refine k3_callMethod hsf X tlX3_70 ⟨Nat.le_of_ble_eq_true rfl, Nat.le_of_ble_eq_true rfl⟩ (Nat.le_of_ble_eq_true rfl) dX3_beginByHand_25 ?_
    intro v4 S4
    refine c_p_WK_failure X fl3_34 dX3_beginByHand_28 ?_
    intro S5
    exact h_vret X dX3_beginByHand_31
theorem mo3_beginByHand (n : Nat) (x1 : Int32) (x2 : Int32) (x3 : Int32) (S : CS) : mo S (f3_beginByHand n x1 x2 x3 S) := by
    unfold f3_beginByHand
    refine m_bnd (mo3_clear _ _) (fun v1 S1 => ?_)
    refine m_bT (mo2_addPair _ _ _ _) (fun v2 S2 => ?_)
    refine m_bT (mo2_addPair _ _ _ _) (fun v3 S3 => ?_)
    refine m_bnd (mo3_callMethod _ _ _) (fun v4 S4 => ?_)
    refine m_cp (fun S5 => ?_)
    exact m_some
theorem c3_beginByHand (hsf : sfOk (SF tk)) (l : Launch) (D : va_G) (cI : ClassId) (q : Nat → Nat) (n : Nat) (x1 : Int32) (x2 : Int32) (x3 : Int32) (S : CS) : MetW l D (tyC cI) (SF tk) (wC cI q) yX3_beginByHand cX3_beginByHand 4 none 5 118 QWv [.ref (q 52), .int x1, .int x2, .int x3] S (f3_beginByHand n x1 x2 x3 S) := by
  refine MetW.of (own := RX3) (by decide) rfl (Nat.le_of_ble_eq_true rfl) (mo3_beginByHand n x1 x2 x3 S) ?_
  intro x p e s m args below meth c X
  refine h_pick (lv' := [(0, .ref (q 52)), (1, .int x1), (2, .int x2), (3, .int x3)]) [0, 1, 2, 3] rfl ?_
  exact h_close (w3_beginByHand hsf X n x1 x2 x3 S)
theorem tc3_beginByHand : Cond.code yX3_beginByHand cX3_beginByHand 4 none ∈ tt := tt_in (List.mem_of_getElem? (i := 727) (by decide +kernel)) (by decide +kernel)
theorem ti3_beginByHand : Cond.instanceMethod yX3_beginByHand ∈ tt := tt_in (List.mem_of_getElem? (i := 725) (by decide +kernel)) (by decide +kernel)
theorem te3_beginByHand : Cond.selects RX3 yX3_beginByHand yX3_beginByHand ∈ tt := tt_in (List.mem_of_getElem? (i := 726) (by decide +kernel)) (by decide +kernel)
theorem k3_beginByHand (hsf : sfOk (SF tk)) (X : hX p s m args meth c cc nL own rt D (tyC cI) (SF tk) A) {n : Nat} {x1 : Int32} {x2 : Int32} {x3 : Int32} {ix : Nat} (hlk : Cond.methodLink own ix yX3_beginByHand ∈ tt) {rest : List Value} {K : Int32 → CS → Option (ρ × CS)} (hR : 5 + 1 ≤ fr ∧ 8 + (4 + 11) + 118 ≤ lo) (hcat : (rest.map fun v => v.category).sum ≤ 8) (d : decode cc pc = .ok (.invokevirtual ix, 3)) (kk : ∀ v S1, hG p l e (fun r => rmC fr lo (cS r.2 - cS S0) (sS r.2 - sS S0)) s m args below meth c nL (ZW D (wC cI q) A s.heap S0 S1) (cS S1 - cS S0) (sS S1 - sS S0) QQ (fun r => le S1 r.2) (pc + 3) lv rest (K v S1)) : hG p l e (fun r => rmC fr lo (cS r.2 - cS S0) (sS r.2 - sS S0)) s m args below meth c nL (ZW D (wC cI q) A s.heap S0 S) (cS S - cS S0) (sS S - sS S0) QQ (fun r => le S r.2) pc lv (.int x3 :: .int x2 :: .int x1 :: .ref (q 52) :: rest) (bnd (f3_beginByHand n x1 x2 x3 S) K) := h_callVv (As := [.int x1, .int x2, .int x3]) (b := q 52) (C := RX3) hsf X (c3_beginByHand hsf l D cI q n x1 x2 x3 S) (cwVC (k := 3) X.1.2.2.2.2.1 hlk ti3_beginByHand te3_beginByHand tc3_beginByHand ini_3 (by decide +kernel) hR) (fun x H h1 h2 => va_recv h1 h2 (ci := 3) (q0 := 7) rfl rfl) rfl rfl hcat d kk
-- X3.lastKind
def f3_lastKind (n : Nat) (S : CS) : Option (Int32 × CS) :=
    bnd (f3_kindAt n (nI 0) S) fun v1 S1 =>
    some (v1, S1)
theorem w3_lastKind (hsf : sfOk (SF tk)) (X : hX p s m args meth c cX3_lastKind 1 RX3 (some .int) D (tyC cI) (SF tk) A) {S0 : CS} (n : Nat) (S : CS) : hG p l e (fun r => rmC 2 44 (cS r.2 - cS S0) (sS r.2 - sS S0)) s m args below meth c 1 (ZW D (wC cI q) A s.heap S0 S) (cS S - cS S0) (sS S - sS S0) (fun r => MQ below (QWi D (tyC cI) (wC cI q) A r) args s (cS r.2 - cS S0) (sS r.2 - sS S0) A) (fun r => le S r.2) 0 [(0, .ref (q 52))] [] (f3_lastKind n S) := by
    unfold f3_lastKind
    refine h_aload_n X dX3_lastKind_0 rfl rfl ?_
    refine h_iconst (v := (nI 0)) X dX3_lastKind_1 (by decide) ?_
    refine k3_kindAt hsf X tlX3_73 ⟨Nat.le_of_ble_eq_true rfl, Nat.le_of_ble_eq_true rfl⟩ (Nat.le_of_ble_eq_true rfl) dX3_lastKind_2 ?_
    intro v1 S1
    exact h_iret X dX3_lastKind_5
theorem mo3_lastKind (n : Nat) (S : CS) : mo S (f3_lastKind n S) := by
    unfold f3_lastKind
    refine m_bnd (mo3_kindAt _ _ _) (fun v1 S1 => ?_)
    exact m_some
theorem c3_lastKind (hsf : sfOk (SF tk)) (l : Launch) (D : va_G) (cI : ClassId) (q : Nat → Nat) (n : Nat) (S : CS) : MetW l D (tyC cI) (SF tk) (wC cI q) yX3_lastKind cX3_lastKind 1 (some .int) 2 44 QWi [.ref (q 52)] S (f3_lastKind n S) := by
  refine MetW.of (own := RX3) (by decide) rfl (Nat.le_of_ble_eq_true rfl) (mo3_lastKind n S) ?_
  intro x p e s m args below meth c X
  refine h_pick (lv' := [(0, .ref (q 52))]) [0] rfl ?_
  exact h_close (w3_lastKind hsf X n S)
theorem tc3_lastKind : Cond.code yX3_lastKind cX3_lastKind 1 (some .int) ∈ tt := tt_in (List.mem_of_getElem? (i := 594) (by decide +kernel)) (by decide +kernel)
theorem ti3_lastKind : Cond.instanceMethod yX3_lastKind ∈ tt := tt_in (List.mem_of_getElem? (i := 592) (by decide +kernel)) (by decide +kernel)
theorem te3_lastKind : Cond.selects RX3 yX3_lastKind yX3_lastKind ∈ tt := tt_in (List.mem_of_getElem? (i := 593) (by decide +kernel)) (by decide +kernel)
theorem k3_lastKind (hsf : sfOk (SF tk)) (X : hX p s m args meth c cc nL own rt D (tyC cI) (SF tk) A) {n : Nat} {ix : Nat} (hlk : Cond.methodLink own ix yX3_lastKind ∈ tt) {rest : List Value} {K : Int32 → CS → Option (ρ × CS)} (hR : 2 + 1 ≤ fr ∧ 8 + (1 + 11) + 44 ≤ lo) (hcat : (rest.map fun v => v.category).sum ≤ 8) (d : decode cc pc = .ok (.invokevirtual ix, 3)) (kk : ∀ v S1, hG p l e (fun r => rmC fr lo (cS r.2 - cS S0) (sS r.2 - sS S0)) s m args below meth c nL (ZW D (wC cI q) A s.heap S0 S1) (cS S1 - cS S0) (sS S1 - sS S0) QQ (fun r => le S1 r.2) (pc + 3) lv (.int v :: rest) (K v S1)) : hG p l e (fun r => rmC fr lo (cS r.2 - cS S0) (sS r.2 - sS S0)) s m args below meth c nL (ZW D (wC cI q) A s.heap S0 S) (cS S - cS S0) (sS S - sS S0) QQ (fun r => le S r.2) pc lv (.ref (q 52) :: rest) (bnd (f3_lastKind n S) K) := h_callVi (As := []) (b := q 52) (C := RX3) hsf X (c3_lastKind hsf l D cI q n S) (cwVC (k := 0) X.1.2.2.2.2.1 hlk ti3_lastKind te3_lastKind tc3_lastKind ini_3 (by decide +kernel) hR) (fun x H h1 h2 => va_recv h1 h2 (ci := 3) (q0 := 7) rfl rfl) rfl rfl hcat d kk
-- X3.lastNumber
def f3_lastNumber (n : Nat) (S : CS) : Option (Int32 × CS) :=
    bnd (f3_numberAt n (nI 0) S) fun v1 S1 =>
    some (v1, S1)
theorem w3_lastNumber (hsf : sfOk (SF tk)) (X : hX p s m args meth c cX3_lastNumber 1 RX3 (some .int) D (tyC cI) (SF tk) A) {S0 : CS} (n : Nat) (S : CS) : hG p l e (fun r => rmC 2 44 (cS r.2 - cS S0) (sS r.2 - sS S0)) s m args below meth c 1 (ZW D (wC cI q) A s.heap S0 S) (cS S - cS S0) (sS S - sS S0) (fun r => MQ below (QWi D (tyC cI) (wC cI q) A r) args s (cS r.2 - cS S0) (sS r.2 - sS S0) A) (fun r => le S r.2) 0 [(0, .ref (q 52))] [] (f3_lastNumber n S) := by
    unfold f3_lastNumber
    refine h_aload_n X dX3_lastNumber_0 rfl rfl ?_
    refine h_iconst (v := (nI 0)) X dX3_lastNumber_1 (by decide) ?_
    refine k3_numberAt hsf X tlX3_76 ⟨Nat.le_of_ble_eq_true rfl, Nat.le_of_ble_eq_true rfl⟩ (Nat.le_of_ble_eq_true rfl) dX3_lastNumber_2 ?_
    intro v1 S1
    exact h_iret X dX3_lastNumber_5
theorem mo3_lastNumber (n : Nat) (S : CS) : mo S (f3_lastNumber n S) := by
    unfold f3_lastNumber
    refine m_bnd (mo3_numberAt _ _ _) (fun v1 S1 => ?_)
    exact m_some
theorem c3_lastNumber (hsf : sfOk (SF tk)) (l : Launch) (D : va_G) (cI : ClassId) (q : Nat → Nat) (n : Nat) (S : CS) : MetW l D (tyC cI) (SF tk) (wC cI q) yX3_lastNumber cX3_lastNumber 1 (some .int) 2 44 QWi [.ref (q 52)] S (f3_lastNumber n S) := by
  refine MetW.of (own := RX3) (by decide) rfl (Nat.le_of_ble_eq_true rfl) (mo3_lastNumber n S) ?_
  intro x p e s m args below meth c X
  refine h_pick (lv' := [(0, .ref (q 52))]) [0] rfl ?_
  exact h_close (w3_lastNumber hsf X n S)
theorem tc3_lastNumber : Cond.code yX3_lastNumber cX3_lastNumber 1 (some .int) ∈ tt := tt_in (List.mem_of_getElem? (i := 598) (by decide +kernel)) (by decide +kernel)
theorem ti3_lastNumber : Cond.instanceMethod yX3_lastNumber ∈ tt := tt_in (List.mem_of_getElem? (i := 596) (by decide +kernel)) (by decide +kernel)
theorem te3_lastNumber : Cond.selects RX3 yX3_lastNumber yX3_lastNumber ∈ tt := tt_in (List.mem_of_getElem? (i := 597) (by decide +kernel)) (by decide +kernel)
theorem k3_lastNumber (hsf : sfOk (SF tk)) (X : hX p s m args meth c cc nL own rt D (tyC cI) (SF tk) A) {n : Nat} {ix : Nat} (hlk : Cond.methodLink own ix yX3_lastNumber ∈ tt) {rest : List Value} {K : Int32 → CS → Option (ρ × CS)} (hR : 2 + 1 ≤ fr ∧ 8 + (1 + 11) + 44 ≤ lo) (hcat : (rest.map fun v => v.category).sum ≤ 8) (d : decode cc pc = .ok (.invokevirtual ix, 3)) (kk : ∀ v S1, hG p l e (fun r => rmC fr lo (cS r.2 - cS S0) (sS r.2 - sS S0)) s m args below meth c nL (ZW D (wC cI q) A s.heap S0 S1) (cS S1 - cS S0) (sS S1 - sS S0) QQ (fun r => le S1 r.2) (pc + 3) lv (.int v :: rest) (K v S1)) : hG p l e (fun r => rmC fr lo (cS r.2 - cS S0) (sS r.2 - sS S0)) s m args below meth c nL (ZW D (wC cI q) A s.heap S0 S) (cS S - cS S0) (sS S - sS S0) QQ (fun r => le S r.2) pc lv (.ref (q 52) :: rest) (bnd (f3_lastNumber n S) K) := h_callVi (As := []) (b := q 52) (C := RX3) hsf X (c3_lastNumber hsf l D cI q n S) (cwVC (k := 0) X.1.2.2.2.2.1 hlk ti3_lastNumber te3_lastNumber tc3_lastNumber ini_3 (by decide +kernel) hR) (fun x H h1 h2 => va_recv h1 h2 (ci := 3) (q0 := 7) rfl rfl) rfl rfl hcat d kk
-- X3.takeAndPut
def f3_takeAndPut_l3 (n : Nat) : Nat → Int32 → Int32 → Int32 → Int32 → CS → Option (Int32 × CS)
  | 0, _, _, _, _, _ => none
  | k + 1, x1, x2, x3, x4, S => if x1 ≤ x4 then
      (bT 3 S (f2_add n (tOf 3 S)) fun v1 S1 =>
      bT 3 S1 (f2_set n v1 (nI 0) x2 (tOf 3 S1)) fun _ S2 =>
      bT 3 S2 (f2_set n v1 (nI 1) x3 (tOf 3 S2)) fun _ S3 =>
      some ((nI 0), S3))
    else
      (bT 3 S (f2_dropLast n (tOf 3 S)) fun _ S4 =>
      (f3_takeAndPut_l3 n k) x1 x2 x3 (x4 + (nI 1)) S4)
theorem mw3_takeAndPut_l3 (n : Nat) : ∀ (k : Nat) (x1 : Int32) (x2 : Int32) (x3 : Int32) (x4 : Int32) (S : CS), mo S (f3_takeAndPut_l3 n k x1 x2 x3 x4 S) := by
  intro k
  induction k with
  | zero =>
    intro x1 x2 x3 x4 S
    exact m_none
  | succ k ih =>
    intro x1 x2 x3 x4 S
    rw [f3_takeAndPut_l3]
    refine m_ite ?_ ?_
    · refine m_bT (mo2_add _ _) (fun v1 S1 => ?_)
      refine m_bT (mo2_set _ _ _ _ _) (fun v2 S2 => ?_)
      refine m_bT (mo2_set _ _ _ _ _) (fun v3 S3 => ?_)
      exact m_some
    · refine m_bT (mo2_dropLast _ _) (fun v4 S4 => ?_)
      exact ih x1 x2 x3 (x4 + (nI 1)) S4
theorem w3_takeAndPut_l3 (hsf : sfOk (SF tk)) (X : hX p s m args meth c cX3_takeAndPut 5 RX3 (some .int) D (tyC cI) (SF tk) A) (n : Nat) : ∀ (k : Nat) (x1 : Int32) (x2 : Int32) (x3 : Int32) (x4 : Int32) (S : CS), hG p l e (fun r => rmC 3 68 (cS r.2 - cS S0) (sS r.2 - sS S0)) s m args below meth c 5 (ZW D (wC cI q) A s.heap S0 S) (cS S - cS S0) (sS S - sS S0) (fun r => MQ below (QWi D (tyC cI) (wC cI q) A r) args s (cS r.2 - cS S0) (sS r.2 - sS S0) A) (fun r => le S r.2) 3 [(0, .ref (q 52)), (1, .int x1), (2, .int x2), (3, .int x3), (4, .int x4)] [] (f3_takeAndPut_l3 n k x1 x2 x3 x4 S) := by
  intro k
  induction k with
  | zero =>
    intro x1 x2 x3 x4 S
    exact h_none
  | succ k ih =>
    intro x1 x2 x3 x4 S
    rw [f3_takeAndPut_l3]
    refine h_iload X dX3_takeAndPut_3 rfl ?_
    refine h_iload_n X dX3_takeAndPut_5 rfl rfl ?_
    refine h_icmp_ge (tgt := 22) X dX3_takeAndPut_6 (by decide) ?_ ?_
    · refine h_aload_n X dX3_takeAndPut_22 rfl rfl ?_
      refine c_g_WK_pile X fl3_37 dX3_takeAndPut_23 ?_
      refine kt2_add_3 hsf X tlX3_105 ⟨Nat.le_of_ble_eq_true rfl, Nat.le_of_ble_eq_true rfl⟩ (Nat.le_of_ble_eq_true rfl) dX3_takeAndPut_26 ?_
      intro v1 S1
      refine h_istore (lv' := [(4, .int v1), (0, .ref (q 52)), (1, .int x1), (2, .int x2), (3, .int x3)]) X dX3_takeAndPut_29 (by decide) rfl ?_
      refine h_aload_n X dX3_takeAndPut_31 rfl rfl ?_
      refine c_g_WK_pile X fl3_37 dX3_takeAndPut_32 ?_
      refine h_iload X dX3_takeAndPut_35 rfl ?_
      refine h_iconst (v := (nI 0)) X dX3_takeAndPut_37 (by decide) ?_
      refine h_iload_n X dX3_takeAndPut_38 rfl rfl ?_
      refine kt2_set_3 hsf X tlX3_101 ⟨Nat.le_of_ble_eq_true rfl, Nat.le_of_ble_eq_true rfl⟩ (Nat.le_of_ble_eq_true rfl) dX3_takeAndPut_39 ?_
      intro v2 S2
      refine h_aload_n X dX3_takeAndPut_42 rfl rfl ?_
      refine c_g_WK_pile X fl3_37 dX3_takeAndPut_43 ?_
      refine h_iload X dX3_takeAndPut_46 rfl ?_
      refine h_iconst (v := (nI 1)) X dX3_takeAndPut_48 (by decide) ?_
      refine h_iload_n X dX3_takeAndPut_49 rfl rfl ?_
      refine kt2_set_3 hsf X tlX3_101 ⟨Nat.le_of_ble_eq_true rfl, Nat.le_of_ble_eq_true rfl⟩ (Nat.le_of_ble_eq_true rfl) dX3_takeAndPut_50 ?_
      intro v3 S3
      refine h_iconst (v := (nI 0)) X dX3_takeAndPut_53 (by decide) ?_
      exact h_iret X dX3_takeAndPut_54
    · refine h_aload_n X dX3_takeAndPut_9 rfl rfl ?_
      refine c_g_WK_pile X fl3_37 dX3_takeAndPut_10 ?_
      refine kt2_dropLast_3 hsf X tlX3_108 ⟨Nat.le_of_ble_eq_true rfl, Nat.le_of_ble_eq_true rfl⟩ (Nat.le_of_ble_eq_true rfl) dX3_takeAndPut_13 ?_
      intro v4 S4
      refine h_iinc (v := (nI 1)) (lv' := [(4, .int (x4 + (nI 1))), (0, .ref (q 52)), (1, .int x1), (2, .int x2), (3, .int x3)]) X dX3_takeAndPut_16 rfl (by decide) (by decide) rfl ?_
      refine h_goto (tgt := 3) X dX3_takeAndPut_19 (by decide) ?_
      exact h_pick [1, 2, 3, 4, 0] rfl (ih x1 x2 x3 (x4 + (nI 1)) S4)
def f3_takeAndPut (n : Nat) (x1 : Int32) (x2 : Int32) (x3 : Int32) (S : CS) : Option (Int32 × CS) :=
    f3_takeAndPut_l3 n n x1 x2 x3 (nI 0) S
theorem w3_takeAndPut (hsf : sfOk (SF tk)) (X : hX p s m args meth c cX3_takeAndPut 5 RX3 (some .int) D (tyC cI) (SF tk) A) {S0 : CS} (n : Nat) (x1 : Int32) (x2 : Int32) (x3 : Int32) (S : CS) : hG p l e (fun r => rmC 3 68 (cS r.2 - cS S0) (sS r.2 - sS S0)) s m args below meth c 5 (ZW D (wC cI q) A s.heap S0 S) (cS S - cS S0) (sS S - sS S0) (fun r => MQ below (QWi D (tyC cI) (wC cI q) A r) args s (cS r.2 - cS S0) (sS r.2 - sS S0) A) (fun r => le S r.2) 0 [(0, .ref (q 52)), (1, .int x1), (2, .int x2), (3, .int x3)] [] (f3_takeAndPut n x1 x2 x3 S) := by
    unfold f3_takeAndPut
    refine h_iconst (v := (nI 0)) X dX3_takeAndPut_0 (by decide) ?_
    refine h_istore (lv' := [(4, .int (nI 0)), (0, .ref (q 52)), (1, .int x1), (2, .int x2), (3, .int x3)]) X dX3_takeAndPut_1 (by decide) rfl ?_
    exact h_pick [1, 2, 3, 4, 0] rfl (w3_takeAndPut_l3 hsf X n n x1 x2 x3 (nI 0) S)
theorem mo3_takeAndPut (n : Nat) (x1 : Int32) (x2 : Int32) (x3 : Int32) (S : CS) : mo S (f3_takeAndPut n x1 x2 x3 S) := by
    unfold f3_takeAndPut
    exact mw3_takeAndPut_l3 n n x1 x2 x3 (nI 0) S
theorem c3_takeAndPut (hsf : sfOk (SF tk)) (l : Launch) (D : va_G) (cI : ClassId) (q : Nat → Nat) (n : Nat) (x1 : Int32) (x2 : Int32) (x3 : Int32) (S : CS) : MetW l D (tyC cI) (SF tk) (wC cI q) yX3_takeAndPut cX3_takeAndPut 5 (some .int) 3 68 QWi [.ref (q 52), .int x1, .int x2, .int x3] S (f3_takeAndPut n x1 x2 x3 S) := by
  refine MetW.of (own := RX3) (by decide) rfl (Nat.le_of_ble_eq_true rfl) (mo3_takeAndPut n x1 x2 x3 S) ?_
  intro x p e s m args below meth c X
  refine h_pick (lv' := [(0, .ref (q 52)), (1, .int x1), (2, .int x2), (3, .int x3)]) [0, 1, 2, 3] rfl ?_
  exact h_close (w3_takeAndPut hsf X n x1 x2 x3 S)
theorem tc3_takeAndPut : Cond.code yX3_takeAndPut cX3_takeAndPut 5 (some .int) ∈ tt := tt_in (List.mem_of_getElem? (i := 520) (by decide +kernel)) (by decide +kernel)
theorem ti3_takeAndPut : Cond.instanceMethod yX3_takeAndPut ∈ tt := tt_in (List.mem_of_getElem? (i := 519) (by decide +kernel)) (by decide +kernel)
theorem te3_takeAndPut : Cond.selects RX3 yX3_takeAndPut yX3_takeAndPut ∈ tt := tt_in (List.mem_of_getElem? (i := 19) (by decide +kernel)) (by decide +kernel)
theorem k3_takeAndPut (hsf : sfOk (SF tk)) (X : hX p s m args meth c cc nL own rt D (tyC cI) (SF tk) A) {n : Nat} {x1 : Int32} {x2 : Int32} {x3 : Int32} {ix : Nat} (hlk : Cond.methodLink own ix yX3_takeAndPut ∈ tt) {rest : List Value} {K : Int32 → CS → Option (ρ × CS)} (hR : 3 + 1 ≤ fr ∧ 8 + (5 + 11) + 68 ≤ lo) (hcat : (rest.map fun v => v.category).sum ≤ 8) (d : decode cc pc = .ok (.invokevirtual ix, 3)) (kk : ∀ v S1, hG p l e (fun r => rmC fr lo (cS r.2 - cS S0) (sS r.2 - sS S0)) s m args below meth c nL (ZW D (wC cI q) A s.heap S0 S1) (cS S1 - cS S0) (sS S1 - sS S0) QQ (fun r => le S1 r.2) (pc + 3) lv (.int v :: rest) (K v S1)) : hG p l e (fun r => rmC fr lo (cS r.2 - cS S0) (sS r.2 - sS S0)) s m args below meth c nL (ZW D (wC cI q) A s.heap S0 S) (cS S - cS S0) (sS S - sS S0) QQ (fun r => le S r.2) pc lv (.int x3 :: .int x2 :: .int x1 :: .ref (q 52) :: rest) (bnd (f3_takeAndPut n x1 x2 x3 S) K) := h_callVi (As := [.int x1, .int x2, .int x3]) (b := q 52) (C := RX3) hsf X (c3_takeAndPut hsf l D cI q n x1 x2 x3 S) (cwVC (k := 3) X.1.2.2.2.2.1 hlk ti3_takeAndPut te3_takeAndPut tc3_takeAndPut ini_3 (by decide +kernel) hR) (fun x H h1 h2 => va_recv h1 h2 (ci := 3) (q0 := 7) rfl rfl) rfl rfl hcat d kk
-- X3.make
theorem tlX3_152 : Cond.methodLink RX3 152 yX0_hasBrokenStart ∈ tt := tt_in (List.mem_of_getElem? (i := 501) (by decide +kernel)) (by decide +kernel)
theorem tlX3_155 : Cond.methodLink RX3 155 yX0_beginUpToStart ∈ tt := tt_in (List.mem_of_getElem? (i := 505) (by decide +kernel)) (by decide +kernel)
theorem tlX3_158 : Cond.methodLink RX3 158 yX0_addObject ∈ tt := tt_in (List.mem_of_getElem? (i := 513) (by decide +kernel)) (by decide +kernel)
theorem tlX3_120 : Cond.methodLink RX3 120 yX3_takeAndPut ∈ tt := tt_in (List.mem_of_getElem? (i := 517) (by decide +kernel)) (by decide +kernel)
def f3_make (n : Nat) (x1 : Int32) (S : CS) : Option (Int32 × CS) :=
    bnd (f0_hasBrokenStart n x1 S) fun v1 S1 =>
    if v1 = 0 then
      (bnd (f0_beginUpToStart n x1 S1) fun v2 S2 =>
      if v2 = (-1 : Int32) then
        (bnd (f0_addObject n x1 S2) fun v10 S10 =>
        if v10 = (-1 : Int32) then
          (some ((nI 8), S10))
        else
          (bnd (f3_takeAndPut n (nI 0) (nI 1) v10 S10) fun v11 S11 =>
          some (v11, S11)))
      else
        (bnd (f3_isDeep n S2) fun v3 S3 =>
        if v3 = 0 then
          (bT 6 S3 (f2_set n v2 (nI 6) (nI 1) (tOf 6 S3)) fun _ S4 =>
          bT 6 S4 (f2_get n v2 (nI 7) (tOf 6 S4)) fun v5 S5 =>
          bT 6 S5 (f2_get n v2 (nI 8) (tOf 6 S5)) fun v6 S6 =>
          bnd (f3_openFrame n v2 v5 v6 S6) fun v7 S7 =>
          bT 4 S7 (f2_set n v7 (nI 6) v2 (tOf 4 S7)) fun _ S8 =>
          bT 4 S8 (f2_set n v7 (nI 7) x1 (tOf 4 S8)) fun _ S9 =>
          some ((nI 0), S9))
        else
          (some ((nI 7), S3))))
    else
      (some ((nI 6), S1))
theorem w3_make (hsf : sfOk (SF tk)) (X : hX p s m args meth c cX3_make 5 RX3 (some .int) D (tyC cI) (SF tk) A) {S0 : CS} (n : Nat) (x1 : Int32) (S : CS) : hG p l e (fun r => rmC 4 92 (cS r.2 - cS S0) (sS r.2 - sS S0)) s m args below meth c 5 (ZW D (wC cI q) A s.heap S0 S) (cS S - cS S0) (sS S - sS S0) (fun r => MQ below (QWi D (tyC cI) (wC cI q) A r) args s (cS r.2 - cS S0) (sS r.2 - sS S0) A) (fun r => le S r.2) 0 [(0, .ref (q 52)), (1, .int x1)] [] (f3_make n x1 S) := by
    unfold f3_make
    refine h_aload_n X dX3_make_0 rfl rfl ?_
    refine c_g_WK_book X fl3_14 dX3_make_1 ?_
    refine h_iload_n X dX3_make_4 rfl rfl ?_
    refine k0_hasBrokenStart hsf X tlX3_152 ⟨Nat.le_of_ble_eq_true rfl, Nat.le_of_ble_eq_true rfl⟩ (Nat.le_of_ble_eq_true rfl) dX3_make_5 ?_
    intro v1 S1
    refine h_if_eq (tgt := 14) X dX3_make_8 (by decide) ?_ ?_
    · refine h_aload_n X dX3_make_14 rfl rfl ?_
      refine c_g_WK_book X fl3_14 dX3_make_15 ?_
      refine h_iload_n X dX3_make_18 rfl rfl ?_
      refine k0_beginUpToStart hsf X tlX3_155 ⟨Nat.le_of_ble_eq_true rfl, Nat.le_of_ble_eq_true rfl⟩ (Nat.le_of_ble_eq_true rfl) dX3_make_19 ?_
      intro v2 S2
      refine h_istore_n (lv' := [(2, .int v2), (0, .ref (q 52)), (1, .int x1)]) X dX3_make_22 rfl (by decide) rfl ?_
      refine h_iload_n X dX3_make_23 rfl rfl ?_
      refine h_iconst (v := (-1 : Int32)) X dX3_make_24 (by decide) ?_
      refine h_icmp_ne (tgt := 55) X dX3_make_25 (by decide) ?_ ?_
      · refine h_aload_n X dX3_make_55 rfl rfl ?_
        refine k3_isDeep hsf X tlX3_161 ⟨Nat.le_of_ble_eq_true rfl, Nat.le_of_ble_eq_true rfl⟩ (Nat.le_of_ble_eq_true rfl) dX3_make_56 ?_
        intro v3 S3
        refine h_if_eq (tgt := 65) X dX3_make_59 (by decide) ?_ ?_
        · refine h_aload_n X dX3_make_65 rfl rfl ?_
          refine c_g_WK_book X fl3_14 dX3_make_66 ?_
          refine c_g_IM_editions X fl3_98 dX3_make_69 ?_
          refine h_iload_n X dX3_make_72 rfl rfl ?_
          refine h_bipush (v := (nI 6)) X dX3_make_73 (by decide) ?_
          refine h_iconst (v := (nI 1)) X dX3_make_75 (by decide) ?_
          refine kt2_set_6 hsf X tlX3_101 ⟨Nat.le_of_ble_eq_true rfl, Nat.le_of_ble_eq_true rfl⟩ (Nat.le_of_ble_eq_true rfl) dX3_make_76 ?_
          intro v4 S4
          refine h_aload_n X dX3_make_79 rfl rfl ?_
          refine c_g_WK_book X fl3_14 dX3_make_80 ?_
          refine c_g_IM_editions X fl3_98 dX3_make_83 ?_
          refine h_iload_n X dX3_make_86 rfl rfl ?_
          refine h_bipush (v := (nI 7)) X dX3_make_87 (by decide) ?_
          refine kt2_get_6 hsf X tlX3_84 ⟨Nat.le_of_ble_eq_true rfl, Nat.le_of_ble_eq_true rfl⟩ (Nat.le_of_ble_eq_true rfl) dX3_make_89 ?_
          intro v5 S5
          refine h_istore_n (lv' := [(3, .int v5), (2, .int v2), (0, .ref (q 52)), (1, .int x1)]) X dX3_make_92 rfl (by decide) rfl ?_
          refine h_aload_n X dX3_make_93 rfl rfl ?_
          refine h_iload_n X dX3_make_94 rfl rfl ?_
          refine h_iload_n X dX3_make_95 rfl rfl ?_
          refine h_aload_n X dX3_make_96 rfl rfl ?_
          refine c_g_WK_book X fl3_14 dX3_make_97 ?_
          refine c_g_IM_editions X fl3_98 dX3_make_100 ?_
          refine h_iload_n X dX3_make_103 rfl rfl ?_
          refine h_bipush (v := (nI 8)) X dX3_make_104 (by decide) ?_
          refine kt2_get_6 hsf X tlX3_84 ⟨Nat.le_of_ble_eq_true rfl, Nat.le_of_ble_eq_true rfl⟩ (Nat.le_of_ble_eq_true rfl) dX3_make_106 ?_
          intro v6 S6
          refine k3_openFrame hsf X tlX3_63 ⟨Nat.le_of_ble_eq_true rfl, Nat.le_of_ble_eq_true rfl⟩ (Nat.le_of_ble_eq_true rfl) dX3_make_109 ?_
          intro v7 S7
          refine h_istore (lv' := [(4, .int v7), (3, .int v5), (2, .int v2), (0, .ref (q 52)), (1, .int x1)]) X dX3_make_112 (by decide) rfl ?_
          refine h_aload_n X dX3_make_114 rfl rfl ?_
          refine c_g_WK_frames X fl3_40 dX3_make_115 ?_
          refine h_iload X dX3_make_118 rfl ?_
          refine h_bipush (v := (nI 6)) X dX3_make_120 (by decide) ?_
          refine h_iload_n X dX3_make_122 rfl rfl ?_
          refine kt2_set_4 hsf X tlX3_101 ⟨Nat.le_of_ble_eq_true rfl, Nat.le_of_ble_eq_true rfl⟩ (Nat.le_of_ble_eq_true rfl) dX3_make_123 ?_
          intro v8 S8
          refine h_aload_n X dX3_make_126 rfl rfl ?_
          refine c_g_WK_frames X fl3_40 dX3_make_127 ?_
          refine h_iload X dX3_make_130 rfl ?_
          refine h_bipush (v := (nI 7)) X dX3_make_132 (by decide) ?_
          refine h_iload_n X dX3_make_134 rfl rfl ?_
          refine kt2_set_4 hsf X tlX3_101 ⟨Nat.le_of_ble_eq_true rfl, Nat.le_of_ble_eq_true rfl⟩ (Nat.le_of_ble_eq_true rfl) dX3_make_135 ?_
          intro v9 S9
          refine h_iconst (v := (nI 0)) X dX3_make_138 (by decide) ?_
          exact h_iret X dX3_make_139
        · refine h_bipush (v := (nI 7)) X dX3_make_62 (by decide) ?_
          exact h_iret X dX3_make_64
      · refine h_aload_n X dX3_make_28 rfl rfl ?_
        refine c_g_WK_book X fl3_14 dX3_make_29 ?_
        refine h_iload_n X dX3_make_32 rfl rfl ?_
        refine k0_addObject hsf X tlX3_158 ⟨Nat.le_of_ble_eq_true rfl, Nat.le_of_ble_eq_true rfl⟩ (Nat.le_of_ble_eq_true rfl) dX3_make_33 ?_
        intro v10 S10
        refine h_istore_n (lv' := [(3, .int v10), (2, .int v2), (0, .ref (q 52)), (1, .int x1)]) X dX3_make_36 rfl (by decide) rfl ?_
        refine h_iload_n X dX3_make_37 rfl rfl ?_
        refine h_iconst (v := (-1 : Int32)) X dX3_make_38 (by decide) ?_
        refine h_icmp_ne (tgt := 47) X dX3_make_39 (by decide) ?_ ?_
        · refine h_aload_n X dX3_make_47 rfl rfl ?_
          refine h_iconst (v := (nI 0)) X dX3_make_48 (by decide) ?_
          refine h_iconst (v := (nI 1)) X dX3_make_49 (by decide) ?_
          refine h_iload_n X dX3_make_50 rfl rfl ?_
          refine k3_takeAndPut hsf X tlX3_120 ⟨Nat.le_of_ble_eq_true rfl, Nat.le_of_ble_eq_true rfl⟩ (Nat.le_of_ble_eq_true rfl) dX3_make_51 ?_
          intro v11 S11
          exact h_iret X dX3_make_54
        · refine h_bipush (v := (nI 8)) X dX3_make_42 (by decide) ?_
          refine h_goto (tgt := 54) X dX3_make_44 (by decide) ?_
          exact h_iret X dX3_make_54
    · refine h_bipush (v := (nI 6)) X dX3_make_11 (by decide) ?_
      exact h_iret X dX3_make_13
theorem mo3_make (n : Nat) (x1 : Int32) (S : CS) : mo S (f3_make n x1 S) := by
    unfold f3_make
    refine m_bnd (mo0_hasBrokenStart _ _ _) (fun v1 S1 => ?_)
    refine m_ite ?_ ?_
    · refine m_bnd (mo0_beginUpToStart _ _ _) (fun v2 S2 => ?_)
      refine m_ite ?_ ?_
      · refine m_bnd (mo0_addObject _ _ _) (fun v10 S10 => ?_)
        refine m_ite ?_ ?_
        · exact m_some
        · refine m_bnd (mo3_takeAndPut _ _ _ _ _) (fun v11 S11 => ?_)
          exact m_some
      · refine m_bnd (mo3_isDeep _ _) (fun v3 S3 => ?_)
        refine m_ite ?_ ?_
        · refine m_bT (mo2_set _ _ _ _ _) (fun v4 S4 => ?_)
          refine m_bT (mo2_get _ _ _ _) (fun v5 S5 => ?_)
          refine m_bT (mo2_get _ _ _ _) (fun v6 S6 => ?_)
          refine m_bnd (mo3_openFrame _ _ _ _ _) (fun v7 S7 => ?_)
          refine m_bT (mo2_set _ _ _ _ _) (fun v8 S8 => ?_)
          refine m_bT (mo2_set _ _ _ _ _) (fun v9 S9 => ?_)
          exact m_some
        · exact m_some
    · exact m_some
theorem c3_make (hsf : sfOk (SF tk)) (l : Launch) (D : va_G) (cI : ClassId) (q : Nat → Nat) (n : Nat) (x1 : Int32) (S : CS) : MetW l D (tyC cI) (SF tk) (wC cI q) yX3_make cX3_make 5 (some .int) 4 92 QWi [.ref (q 52), .int x1] S (f3_make n x1 S) := by
  refine MetW.of (own := RX3) (by decide) rfl (Nat.le_of_ble_eq_true rfl) (mo3_make n x1 S) ?_
  intro x p e s m args below meth c X
  refine h_pick (lv' := [(0, .ref (q 52)), (1, .int x1)]) [0, 1] rfl ?_
  exact h_close (w3_make hsf X n x1 S)
theorem tc3_make : Cond.code yX3_make cX3_make 5 (some .int) ∈ tt := tt_in (List.mem_of_getElem? (i := 500) (by decide +kernel)) (by decide +kernel)
theorem ti3_make : Cond.instanceMethod yX3_make ∈ tt := tt_in (List.mem_of_getElem? (i := 499) (by decide +kernel)) (by decide +kernel)
theorem te3_make : Cond.selects RX3 yX3_make yX3_make ∈ tt := tt_in (List.mem_of_getElem? (i := 17) (by decide +kernel)) (by decide +kernel)
theorem k3_make (hsf : sfOk (SF tk)) (X : hX p s m args meth c cc nL own rt D (tyC cI) (SF tk) A) {n : Nat} {x1 : Int32} {ix : Nat} (hlk : Cond.methodLink own ix yX3_make ∈ tt) {rest : List Value} {K : Int32 → CS → Option (ρ × CS)} (hR : 4 + 1 ≤ fr ∧ 8 + (5 + 11) + 92 ≤ lo) (hcat : (rest.map fun v => v.category).sum ≤ 8) (d : decode cc pc = .ok (.invokevirtual ix, 3)) (kk : ∀ v S1, hG p l e (fun r => rmC fr lo (cS r.2 - cS S0) (sS r.2 - sS S0)) s m args below meth c nL (ZW D (wC cI q) A s.heap S0 S1) (cS S1 - cS S0) (sS S1 - sS S0) QQ (fun r => le S1 r.2) (pc + 3) lv (.int v :: rest) (K v S1)) : hG p l e (fun r => rmC fr lo (cS r.2 - cS S0) (sS r.2 - sS S0)) s m args below meth c nL (ZW D (wC cI q) A s.heap S0 S) (cS S - cS S0) (sS S - sS S0) QQ (fun r => le S r.2) pc lv (.int x1 :: .ref (q 52) :: rest) (bnd (f3_make n x1 S) K) := h_callVi (As := [.int x1]) (b := q 52) (C := RX3) hsf X (c3_make hsf l D cI q n x1 S) (cwVC (k := 1) X.1.2.2.2.2.1 hlk ti3_make te3_make tc3_make ini_3 (by decide +kernel) hR) (fun x H h1 h2 => va_recv h1 h2 (ci := 3) (q0 := 7) rfl rfl) rfl rfl hcat d kk
-- X3.closeFrame
theorem tlX3_111 : Cond.methodLink RX3 111 yX3_make ∈ tt := tt_in (List.mem_of_getElem? (i := 497) (by decide +kernel)) (by decide +kernel)
def f3_closeFrame (n : Nat) (S : CS) : Option (Int32 × CS) :=
    bT 4 S (f2_size n (tOf 4 S)) fun v1 S1 =>
    bT 4 S1 (f2_get n (v1 - (nI 1)) (nI 6) (tOf 4 S1)) fun v2 S2 =>
    bT 4 S2 (f2_get n (v1 - (nI 1)) (nI 7) (tOf 4 S2)) fun v3 S3 =>
    bT 4 S3 (f2_dropLast n (tOf 4 S3)) fun _ S4 =>
    if v2 = (-1 : Int32) then
      (some ((nI 0), S4))
    else
      (bT 3 S4 (f2_dropLast n (tOf 3 S4)) fun _ S5 =>
      bnd (f3_make n v3 S5) fun v6 S6 =>
      some (v6, S6))
theorem w3_closeFrame (hsf : sfOk (SF tk)) (X : hX p s m args meth c cX3_closeFrame 4 RX3 (some .int) D (tyC cI) (SF tk) A) {S0 : CS} (n : Nat) (S : CS) : hG p l e (fun r => rmC 5 116 (cS r.2 - cS S0) (sS r.2 - sS S0)) s m args below meth c 4 (ZW D (wC cI q) A s.heap S0 S) (cS S - cS S0) (sS S - sS S0) (fun r => MQ below (QWi D (tyC cI) (wC cI q) A r) args s (cS r.2 - cS S0) (sS r.2 - sS S0) A) (fun r => le S r.2) 0 [(0, .ref (q 52))] [] (f3_closeFrame n S) := by
    unfold f3_closeFrame
    refine h_aload_n X dX3_closeFrame_0 rfl rfl ?_
    refine c_g_WK_frames X fl3_40 dX3_closeFrame_1 ?_
    refine kt2_size_4 hsf X tlX3_80 ⟨Nat.le_of_ble_eq_true rfl, Nat.le_of_ble_eq_true rfl⟩ (Nat.le_of_ble_eq_true rfl) dX3_closeFrame_4 ?_
    intro v1 S1
    refine h_iconst (v := (nI 1)) X dX3_closeFrame_7 (by decide) ?_
    refine h_isub X dX3_closeFrame_8 ?_
    refine h_istore_n (lv' := [(1, .int (v1 - (nI 1))), (0, .ref (q 52))]) X dX3_closeFrame_9 rfl (by decide) rfl ?_
    refine h_aload_n X dX3_closeFrame_10 rfl rfl ?_
    refine c_g_WK_frames X fl3_40 dX3_closeFrame_11 ?_
    refine h_iload_n X dX3_closeFrame_14 rfl rfl ?_
    refine h_bipush (v := (nI 6)) X dX3_closeFrame_15 (by decide) ?_
    refine kt2_get_4 hsf X tlX3_84 ⟨Nat.le_of_ble_eq_true rfl, Nat.le_of_ble_eq_true rfl⟩ (Nat.le_of_ble_eq_true rfl) dX3_closeFrame_17 ?_
    intro v2 S2
    refine h_istore_n (lv' := [(2, .int v2), (1, .int (v1 - (nI 1))), (0, .ref (q 52))]) X dX3_closeFrame_20 rfl (by decide) rfl ?_
    refine h_aload_n X dX3_closeFrame_21 rfl rfl ?_
    refine c_g_WK_frames X fl3_40 dX3_closeFrame_22 ?_
    refine h_iload_n X dX3_closeFrame_25 rfl rfl ?_
    refine h_bipush (v := (nI 7)) X dX3_closeFrame_26 (by decide) ?_
    refine kt2_get_4 hsf X tlX3_84 ⟨Nat.le_of_ble_eq_true rfl, Nat.le_of_ble_eq_true rfl⟩ (Nat.le_of_ble_eq_true rfl) dX3_closeFrame_28 ?_
    intro v3 S3
    refine h_istore_n (lv' := [(3, .int v3), (2, .int v2), (1, .int (v1 - (nI 1))), (0, .ref (q 52))]) X dX3_closeFrame_31 rfl (by decide) rfl ?_
    refine h_aload_n X dX3_closeFrame_32 rfl rfl ?_
    refine c_g_WK_frames X fl3_40 dX3_closeFrame_33 ?_
    refine kt2_dropLast_4 hsf X tlX3_108 ⟨Nat.le_of_ble_eq_true rfl, Nat.le_of_ble_eq_true rfl⟩ (Nat.le_of_ble_eq_true rfl) dX3_closeFrame_36 ?_
    intro v4 S4
    refine h_iload_n X dX3_closeFrame_39 rfl rfl ?_
    refine h_iconst (v := (-1 : Int32)) X dX3_closeFrame_40 (by decide) ?_
    refine h_icmp_ne (tgt := 46) X dX3_closeFrame_41 (by decide) ?_ ?_
    · refine h_aload_n X dX3_closeFrame_46 rfl rfl ?_
      refine c_g_WK_pile X fl3_37 dX3_closeFrame_47 ?_
      refine kt2_dropLast_3 hsf X tlX3_108 ⟨Nat.le_of_ble_eq_true rfl, Nat.le_of_ble_eq_true rfl⟩ (Nat.le_of_ble_eq_true rfl) dX3_closeFrame_50 ?_
      intro v5 S5
      refine h_aload_n X dX3_closeFrame_53 rfl rfl ?_
      refine h_iload_n X dX3_closeFrame_54 rfl rfl ?_
      refine k3_make hsf X tlX3_111 ⟨Nat.le_of_ble_eq_true rfl, Nat.le_of_ble_eq_true rfl⟩ (Nat.le_of_ble_eq_true rfl) dX3_closeFrame_55 ?_
      intro v6 S6
      exact h_iret X dX3_closeFrame_58
    · refine h_iconst (v := (nI 0)) X dX3_closeFrame_44 (by decide) ?_
      exact h_iret X dX3_closeFrame_45
theorem mo3_closeFrame (n : Nat) (S : CS) : mo S (f3_closeFrame n S) := by
    unfold f3_closeFrame
    refine m_bT (mo2_size _ _) (fun v1 S1 => ?_)
    refine m_bT (mo2_get _ _ _ _) (fun v2 S2 => ?_)
    refine m_bT (mo2_get _ _ _ _) (fun v3 S3 => ?_)
    refine m_bT (mo2_dropLast _ _) (fun v4 S4 => ?_)
    refine m_ite ?_ ?_
    · exact m_some
    · refine m_bT (mo2_dropLast _ _) (fun v5 S5 => ?_)
      refine m_bnd (mo3_make _ _ _) (fun v6 S6 => ?_)
      exact m_some
theorem c3_closeFrame (hsf : sfOk (SF tk)) (l : Launch) (D : va_G) (cI : ClassId) (q : Nat → Nat) (n : Nat) (S : CS) : MetW l D (tyC cI) (SF tk) (wC cI q) yX3_closeFrame cX3_closeFrame 4 (some .int) 5 116 QWi [.ref (q 52)] S (f3_closeFrame n S) := by
  refine MetW.of (own := RX3) (by decide) rfl (Nat.le_of_ble_eq_true rfl) (mo3_closeFrame n S) ?_
  intro x p e s m args below meth c X
  refine h_pick (lv' := [(0, .ref (q 52))]) [0] rfl ?_
  exact h_close (w3_closeFrame hsf X n S)
theorem tc3_closeFrame : Cond.code yX3_closeFrame cX3_closeFrame 4 (some .int) ∈ tt := tt_in (List.mem_of_getElem? (i := 492) (by decide +kernel)) (by decide +kernel)
theorem ti3_closeFrame : Cond.instanceMethod yX3_closeFrame ∈ tt := tt_in (List.mem_of_getElem? (i := 491) (by decide +kernel)) (by decide +kernel)
theorem te3_closeFrame : Cond.selects RX3 yX3_closeFrame yX3_closeFrame ∈ tt := tt_in (List.mem_of_getElem? (i := 16) (by decide +kernel)) (by decide +kernel)
theorem k3_closeFrame (hsf : sfOk (SF tk)) (X : hX p s m args meth c cc nL own rt D (tyC cI) (SF tk) A) {n : Nat} {ix : Nat} (hlk : Cond.methodLink own ix yX3_closeFrame ∈ tt) {rest : List Value} {K : Int32 → CS → Option (ρ × CS)} (hR : 5 + 1 ≤ fr ∧ 8 + (4 + 11) + 116 ≤ lo) (hcat : (rest.map fun v => v.category).sum ≤ 8) (d : decode cc pc = .ok (.invokevirtual ix, 3)) (kk : ∀ v S1, hG p l e (fun r => rmC fr lo (cS r.2 - cS S0) (sS r.2 - sS S0)) s m args below meth c nL (ZW D (wC cI q) A s.heap S0 S1) (cS S1 - cS S0) (sS S1 - sS S0) QQ (fun r => le S1 r.2) (pc + 3) lv (.int v :: rest) (K v S1)) : hG p l e (fun r => rmC fr lo (cS r.2 - cS S0) (sS r.2 - sS S0)) s m args below meth c nL (ZW D (wC cI q) A s.heap S0 S) (cS S - cS S0) (sS S - sS S0) QQ (fun r => le S r.2) pc lv (.ref (q 52) :: rest) (bnd (f3_closeFrame n S) K) := h_callVi (As := []) (b := q 52) (C := RX3) hsf X (c3_closeFrame hsf l D cI q n S) (cwVC (k := 0) X.1.2.2.2.2.1 hlk ti3_closeFrame te3_closeFrame tc3_closeFrame ini_3 (by decide +kernel) hR) (fun x H h1 h2 => va_recv h1 h2 (ci := 3) (q0 := 7) rfl rfl) rfl rfl hcat d kk
-- X3.breakStarts
def f3_breakStarts_b47 (n : Nat) (k4 : Int32 → Int32 → CS → Option (Int32 × CS)) (x1 : Int32) (x2 : Int32) (S : CS) : Option (Int32 × CS) :=
    k4 x1 (x2 + (nI 1)) S
theorem mw3_breakStarts_b47 (n : Nat) (k4 : Int32 → Int32 → CS → Option (Int32 × CS)) (mhk4 : ∀ (x1 : Int32) (x2 : Int32) (S : CS), mo S (k4 x1 x2 S)) (x1 : Int32) (x2 : Int32) (S : CS) : mo S (f3_breakStarts_b47 n k4 x1 x2 S) := by
  unfold f3_breakStarts_b47
  exact mhk4 x1 (x2 + (nI 1)) S
theorem w3_breakStarts_b47 (hsf : sfOk (SF tk)) (X : hX p s m args meth c cX3_breakStarts 4 RX3 (some .boolean) D (tyC cI) (SF tk) A) (n : Nat) (k4 : Int32 → Int32 → CS → Option (Int32 × CS)) (hk4 : ∀ (x1 : Int32) (x2 : Int32) (S : CS), hG p l e (fun r => rmC 1 24 (cS r.2 - cS S0) (sS r.2 - sS S0)) s m args below meth c 4 (ZW D (wC cI q) A s.heap S0 S) (cS S - cS S0) (sS S - sS S0) (fun r => MQ below (QWi D (tyC cI) (wC cI q) A r) args s (cS r.2 - cS S0) (sS r.2 - sS S0) A) (fun r => le S r.2) 4 [(0, .ref (q 52)), (1, .int x1), (2, .int x2)] [] (k4 x1 x2 S)) (x1 : Int32) (x2 : Int32) (S : CS) : hG p l e (fun r => rmC 1 24 (cS r.2 - cS S0) (sS r.2 - sS S0)) s m args below meth c 4 (ZW D (wC cI q) A s.heap S0 S) (cS S - cS S0) (sS S - sS S0) (fun r => MQ below (QWi D (tyC cI) (wC cI q) A r) args s (cS r.2 - cS S0) (sS r.2 - sS S0) A) (fun r => le S r.2) 47 [(0, .ref (q 52)), (1, .int x1), (2, .int x2)] [] (f3_breakStarts_b47 n k4 x1 x2 S) := by
  unfold f3_breakStarts_b47
  refine h_iinc (v := (nI 1)) (lv' := [(2, .int (x2 + (nI 1))), (0, .ref (q 52)), (1, .int x1)]) X dX3_breakStarts_47 rfl (by decide) (by decide) rfl ?_
  refine h_goto (tgt := 4) X dX3_breakStarts_50 (by decide) ?_
  exact h_pick [1, 2, 0] rfl (hk4 x1 (x2 + (nI 1)) S)
def f3_breakStarts_l4 (n : Nat) : Nat → Int32 → Int32 → CS → Option (Int32 × CS)
  | 0, _, _, _ => none
  | k + 1, x1, x2, S => bT 4 S (f2_size n (tOf 4 S)) fun v1 S1 =>
    if v1 ≤ x2 then
      (zt x1 (some (x1, S1)))
    else
      (bT 4 S1 (f2_get n x2 (nI 6) (tOf 4 S1)) fun v2 S2 =>
      if v2 = (-1 : Int32) then
        (f3_breakStarts_b47 n (f3_breakStarts_l4 n k) x1 x2 S2)
      else
        (bT 6 S2 (f2_set n v2 (nI 6) (nI 2) (tOf 6 S2)) fun _ S3 =>
        f3_breakStarts_b47 n (f3_breakStarts_l4 n k) (nI 1) x2 S3))
theorem mw3_breakStarts_l4 (n : Nat) : ∀ (k : Nat) (x1 : Int32) (x2 : Int32) (S : CS), mo S (f3_breakStarts_l4 n k x1 x2 S) := by
  intro k
  induction k with
  | zero =>
    intro x1 x2 S
    exact m_none
  | succ k ih =>
    intro x1 x2 S
    rw [f3_breakStarts_l4]
    refine m_bT (mo2_size _ _) (fun v1 S1 => ?_)
    refine m_ite ?_ ?_
    · exact m_zt m_some
    · refine m_bT (mo2_get _ _ _ _) (fun v2 S2 => ?_)
      refine m_ite ?_ ?_
      · exact mw3_breakStarts_b47 n (f3_breakStarts_l4 n k) ih x1 x2 S2
      · refine m_bT (mo2_set _ _ _ _ _) (fun v3 S3 => ?_)
        exact mw3_breakStarts_b47 n (f3_breakStarts_l4 n k) ih (nI 1) x2 S3
theorem w3_breakStarts_l4 (hsf : sfOk (SF tk)) (X : hX p s m args meth c cX3_breakStarts 4 RX3 (some .boolean) D (tyC cI) (SF tk) A) (n : Nat) : ∀ (k : Nat) (x1 : Int32) (x2 : Int32) (S : CS), hG p l e (fun r => rmC 1 24 (cS r.2 - cS S0) (sS r.2 - sS S0)) s m args below meth c 4 (ZW D (wC cI q) A s.heap S0 S) (cS S - cS S0) (sS S - sS S0) (fun r => MQ below (QWi D (tyC cI) (wC cI q) A r) args s (cS r.2 - cS S0) (sS r.2 - sS S0) A) (fun r => le S r.2) 4 [(0, .ref (q 52)), (1, .int x1), (2, .int x2)] [] (f3_breakStarts_l4 n k x1 x2 S) := by
  intro k
  induction k with
  | zero =>
    intro x1 x2 S
    exact h_none
  | succ k ih =>
    intro x1 x2 S
    rw [f3_breakStarts_l4]
    refine h_iload_n X dX3_breakStarts_4 rfl rfl ?_
    refine h_aload_n X dX3_breakStarts_5 rfl rfl ?_
    refine c_g_WK_frames X fl3_40 dX3_breakStarts_6 ?_
    refine kt2_size_4 hsf X tlX3_80 ⟨Nat.le_of_ble_eq_true rfl, Nat.le_of_ble_eq_true rfl⟩ (Nat.le_of_ble_eq_true rfl) dX3_breakStarts_9 ?_
    intro v1 S1
    refine h_icmp_ge (tgt := 53) X dX3_breakStarts_12 (by decide) ?_ ?_
    · refine h_iload_n X dX3_breakStarts_53 rfl rfl ?_
      exact h_zret X dX3_breakStarts_54
    · refine h_aload_n X dX3_breakStarts_15 rfl rfl ?_
      refine c_g_WK_frames X fl3_40 dX3_breakStarts_16 ?_
      refine h_iload_n X dX3_breakStarts_19 rfl rfl ?_
      refine h_bipush (v := (nI 6)) X dX3_breakStarts_20 (by decide) ?_
      refine kt2_get_4 hsf X tlX3_84 ⟨Nat.le_of_ble_eq_true rfl, Nat.le_of_ble_eq_true rfl⟩ (Nat.le_of_ble_eq_true rfl) dX3_breakStarts_22 ?_
      intro v2 S2
      refine h_istore_n (lv' := [(3, .int v2), (0, .ref (q 52)), (1, .int x1), (2, .int x2)]) X dX3_breakStarts_25 rfl (by decide) rfl ?_
      refine h_iload_n X dX3_breakStarts_26 rfl rfl ?_
      refine h_iconst (v := (-1 : Int32)) X dX3_breakStarts_27 (by decide) ?_
      refine h_icmp_eq (tgt := 47) X dX3_breakStarts_28 (by decide) ?_ ?_
      · exact h_pick [1, 2, 3] rfl (w3_breakStarts_b47 hsf X n (f3_breakStarts_l4 n k) ih x1 x2 S2)
      · refine h_aload_n X dX3_breakStarts_31 rfl rfl ?_
        refine c_g_WK_book X fl3_14 dX3_breakStarts_32 ?_
        refine c_g_IM_editions X fl3_98 dX3_breakStarts_35 ?_
        refine h_iload_n X dX3_breakStarts_38 rfl rfl ?_
        refine h_bipush (v := (nI 6)) X dX3_breakStarts_39 (by decide) ?_
        refine h_iconst (v := (nI 2)) X dX3_breakStarts_41 (by decide) ?_
        refine kt2_set_6 hsf X tlX3_101 ⟨Nat.le_of_ble_eq_true rfl, Nat.le_of_ble_eq_true rfl⟩ (Nat.le_of_ble_eq_true rfl) dX3_breakStarts_42 ?_
        intro v3 S3
        refine h_iconst (v := (nI 1)) X dX3_breakStarts_45 (by decide) ?_
        refine h_istore_n (lv' := [(1, .int (nI 1)), (3, .int v2), (0, .ref (q 52)), (2, .int x2)]) X dX3_breakStarts_46 rfl (by decide) rfl ?_
        exact h_pick [2, 0, 3] rfl (w3_breakStarts_b47 hsf X n (f3_breakStarts_l4 n k) ih (nI 1) x2 S3)
def f3_breakStarts (n : Nat) (S : CS) : Option (Int32 × CS) :=
    f3_breakStarts_l4 n n (nI 0) (nI 0) S
theorem w3_breakStarts (hsf : sfOk (SF tk)) (X : hX p s m args meth c cX3_breakStarts 4 RX3 (some .boolean) D (tyC cI) (SF tk) A) {S0 : CS} (n : Nat) (S : CS) : hG p l e (fun r => rmC 1 24 (cS r.2 - cS S0) (sS r.2 - sS S0)) s m args below meth c 4 (ZW D (wC cI q) A s.heap S0 S) (cS S - cS S0) (sS S - sS S0) (fun r => MQ below (QWi D (tyC cI) (wC cI q) A r) args s (cS r.2 - cS S0) (sS r.2 - sS S0) A) (fun r => le S r.2) 0 [(0, .ref (q 52))] [] (f3_breakStarts n S) := by
    unfold f3_breakStarts
    refine h_iconst (v := (nI 0)) X dX3_breakStarts_0 (by decide) ?_
    refine h_istore_n (lv' := [(1, .int (nI 0)), (0, .ref (q 52))]) X dX3_breakStarts_1 rfl (by decide) rfl ?_
    refine h_iconst (v := (nI 0)) X dX3_breakStarts_2 (by decide) ?_
    refine h_istore_n (lv' := [(2, .int (nI 0)), (1, .int (nI 0)), (0, .ref (q 52))]) X dX3_breakStarts_3 rfl (by decide) rfl ?_
    exact h_pick [2, 1, 0] rfl (w3_breakStarts_l4 hsf X n n (nI 0) (nI 0) S)
theorem mo3_breakStarts (n : Nat) (S : CS) : mo S (f3_breakStarts n S) := by
    unfold f3_breakStarts
    exact mw3_breakStarts_l4 n n (nI 0) (nI 0) S
theorem c3_breakStarts (hsf : sfOk (SF tk)) (l : Launch) (D : va_G) (cI : ClassId) (q : Nat → Nat) (n : Nat) (S : CS) : MetW l D (tyC cI) (SF tk) (wC cI q) yX3_breakStarts cX3_breakStarts 4 (some .boolean) 1 24 QWi [.ref (q 52)] S (f3_breakStarts n S) := by
  refine MetW.of (own := RX3) (by decide) rfl (Nat.le_of_ble_eq_true rfl) (mo3_breakStarts n S) ?_
  intro x p e s m args below meth c X
  refine h_pick (lv' := [(0, .ref (q 52))]) [0] rfl ?_
  exact h_close (w3_breakStarts hsf X n S)
theorem tc3_breakStarts : Cond.code yX3_breakStarts cX3_breakStarts 4 (some .boolean) ∈ tt := tt_in (List.mem_of_getElem? (i := 528) (by decide +kernel)) (by decide +kernel)
theorem ti3_breakStarts : Cond.instanceMethod yX3_breakStarts ∈ tt := tt_in (List.mem_of_getElem? (i := 527) (by decide +kernel)) (by decide +kernel)
theorem te3_breakStarts : Cond.selects RX3 yX3_breakStarts yX3_breakStarts ∈ tt := tt_in (List.mem_of_getElem? (i := 21) (by decide +kernel)) (by decide +kernel)
theorem k3_breakStarts (hsf : sfOk (SF tk)) (X : hX p s m args meth c cc nL own rt D (tyC cI) (SF tk) A) {n : Nat} {ix : Nat} (hlk : Cond.methodLink own ix yX3_breakStarts ∈ tt) {rest : List Value} {K : Int32 → CS → Option (ρ × CS)} (hR : 1 + 1 ≤ fr ∧ 8 + (4 + 11) + 24 ≤ lo) (hcat : (rest.map fun v => v.category).sum ≤ 8) (d : decode cc pc = .ok (.invokevirtual ix, 3)) (kk : ∀ v S1, hG p l e (fun r => rmC fr lo (cS r.2 - cS S0) (sS r.2 - sS S0)) s m args below meth c nL (ZW D (wC cI q) A s.heap S0 S1) (cS S1 - cS S0) (sS S1 - sS S0) QQ (fun r => le S1 r.2) (pc + 3) lv (.int v :: rest) (K v S1)) : hG p l e (fun r => rmC fr lo (cS r.2 - cS S0) (sS r.2 - sS S0)) s m args below meth c nL (ZW D (wC cI q) A s.heap S0 S) (cS S - cS S0) (sS S - sS S0) QQ (fun r => le S r.2) pc lv (.ref (q 52) :: rest) (bnd (f3_breakStarts n S) K) := h_callVi (As := []) (b := q 52) (C := RX3) hsf X (c3_breakStarts hsf l D cI q n S) (cwVC (k := 0) X.1.2.2.2.2.1 hlk ti3_breakStarts te3_breakStarts tc3_breakStarts ini_3 (by decide +kernel) hR) (fun x H h1 h2 => va_recv h1 h2 (ci := 3) (q0 := 7) rfl rfl) rfl rfl hcat d kk
-- X3.codeAt
def f3_codeAt (n : Nat) (x1 : Int32) (x2 : Int32) (S : CS) : Option (Int32 × CS) :=
    if x1 = (-1 : Int32) then
      (if x2 < 0 then
        (some ((nI 0), S))
      else
        (if (nI 60) ≤ x2 then
          (some ((nI 0), S))
        else
          (cr S 18 60 x2 fun v1 =>
          some (v1, S))))
    else
      (bT 6 S (f2_get n x1 ((nI 44) + x2) (tOf 6 S)) fun v2 S2 =>
      some (v2, S2))
theorem w3_codeAt (hsf : sfOk (SF tk)) (X : hX p s m args meth c cX3_codeAt 3 RX3 (some .int) D (tyC cI) (SF tk) A) {S0 : CS} (n : Nat) (x1 : Int32) (x2 : Int32) (S : CS) : hG p l e (fun r => rmC 1 23 (cS r.2 - cS S0) (sS r.2 - sS S0)) s m args below meth c 3 (ZW D (wC cI q) A s.heap S0 S) (cS S - cS S0) (sS S - sS S0) (fun r => MQ below (QWi D (tyC cI) (wC cI q) A r) args s (cS r.2 - cS S0) (sS r.2 - sS S0) A) (fun r => le S r.2) 0 [(0, .ref (q 52)), (1, .int x1), (2, .int x2)] [] (f3_codeAt n x1 x2 S) := by
    unfold f3_codeAt
    refine h_iload_n X dX3_codeAt_0 rfl rfl ?_
    refine h_iconst (v := (-1 : Int32)) X dX3_codeAt_1 (by decide) ?_
    refine h_icmp_eq (tgt := 21) X dX3_codeAt_2 (by decide) ?_ ?_
    · refine h_iload_n X dX3_codeAt_21 rfl rfl ?_
      refine h_if_lt (tgt := 40) X dX3_codeAt_22 (by decide) ?_ ?_
      · refine h_iconst (v := (nI 0)) X dX3_codeAt_40 (by decide) ?_
        exact h_iret X dX3_codeAt_41
      · refine h_iload_n X dX3_codeAt_25 rfl rfl ?_
        refine h_bipush (v := (nI 60)) X dX3_codeAt_26 (by decide) ?_
        refine h_icmp_ge (tgt := 40) X dX3_codeAt_28 (by decide) ?_ ?_
        · refine h_iconst (v := (nI 0)) X dX3_codeAt_40 (by decide) ?_
          exact h_iret X dX3_codeAt_41
        · refine h_aload_n X dX3_codeAt_31 rfl rfl ?_
          refine c_g_WK_cellCode X fl3_43 dX3_codeAt_32 ?_
          refine h_iload_n X dX3_codeAt_35 rfl rfl ?_
          refine c_l_18 X dX3_codeAt_36 ?_
          intro v1
          refine h_goto (tgt := 41) X dX3_codeAt_37 (by decide) ?_
          exact h_iret X dX3_codeAt_41
    · refine h_aload_n X dX3_codeAt_5 rfl rfl ?_
      refine c_g_WK_book X fl3_14 dX3_codeAt_6 ?_
      refine c_g_IM_editions X fl3_98 dX3_codeAt_9 ?_
      refine h_iload_n X dX3_codeAt_12 rfl rfl ?_
      refine h_bipush (v := (nI 44)) X dX3_codeAt_13 (by decide) ?_
      refine h_iload_n X dX3_codeAt_15 rfl rfl ?_
      refine h_iadd X dX3_codeAt_16 ?_
      refine kt2_get_6 hsf X tlX3_84 ⟨Nat.le_of_ble_eq_true rfl, Nat.le_of_ble_eq_true rfl⟩ (Nat.le_of_ble_eq_true rfl) dX3_codeAt_17 ?_
      intro v2 S2
      exact h_iret X dX3_codeAt_20
theorem mo3_codeAt (n : Nat) (x1 : Int32) (x2 : Int32) (S : CS) : mo S (f3_codeAt n x1 x2 S) := by
    unfold f3_codeAt
    refine m_ite ?_ ?_
    · refine m_ite ?_ ?_
      · exact m_some
      · refine m_ite ?_ ?_
        · exact m_some
        · refine m_cr (fun v1 => ?_)
          exact m_some
    · refine m_bT (mo2_get _ _ _ _) (fun v2 S2 => ?_)
      exact m_some
theorem c3_codeAt (hsf : sfOk (SF tk)) (l : Launch) (D : va_G) (cI : ClassId) (q : Nat → Nat) (n : Nat) (x1 : Int32) (x2 : Int32) (S : CS) : MetW l D (tyC cI) (SF tk) (wC cI q) yX3_codeAt cX3_codeAt 3 (some .int) 1 23 QWi [.ref (q 52), .int x1, .int x2] S (f3_codeAt n x1 x2 S) := by
  refine MetW.of (own := RX3) (by decide) rfl (Nat.le_of_ble_eq_true rfl) (mo3_codeAt n x1 x2 S) ?_
  intro x p e s m args below meth c X
  refine h_pick (lv' := [(0, .ref (q 52)), (1, .int x1), (2, .int x2)]) [0, 1, 2] rfl ?_
  exact h_close (w3_codeAt hsf X n x1 x2 S)
theorem tc3_codeAt : Cond.code yX3_codeAt cX3_codeAt 3 (some .int) ∈ tt := tt_in (List.mem_of_getElem? (i := 536) (by decide +kernel)) (by decide +kernel)
theorem ti3_codeAt : Cond.instanceMethod yX3_codeAt ∈ tt := tt_in (List.mem_of_getElem? (i := 535) (by decide +kernel)) (by decide +kernel)
theorem te3_codeAt : Cond.selects RX3 yX3_codeAt yX3_codeAt ∈ tt := tt_in (List.mem_of_getElem? (i := 23) (by decide +kernel)) (by decide +kernel)
theorem k3_codeAt (hsf : sfOk (SF tk)) (X : hX p s m args meth c cc nL own rt D (tyC cI) (SF tk) A) {n : Nat} {x1 : Int32} {x2 : Int32} {ix : Nat} (hlk : Cond.methodLink own ix yX3_codeAt ∈ tt) {rest : List Value} {K : Int32 → CS → Option (ρ × CS)} (hR : 1 + 1 ≤ fr ∧ 8 + (3 + 11) + 23 ≤ lo) (hcat : (rest.map fun v => v.category).sum ≤ 8) (d : decode cc pc = .ok (.invokevirtual ix, 3)) (kk : ∀ v S1, hG p l e (fun r => rmC fr lo (cS r.2 - cS S0) (sS r.2 - sS S0)) s m args below meth c nL (ZW D (wC cI q) A s.heap S0 S1) (cS S1 - cS S0) (sS S1 - sS S0) QQ (fun r => le S1 r.2) (pc + 3) lv (.int v :: rest) (K v S1)) : hG p l e (fun r => rmC fr lo (cS r.2 - cS S0) (sS r.2 - sS S0)) s m args below meth c nL (ZW D (wC cI q) A s.heap S0 S) (cS S - cS S0) (sS S - sS S0) QQ (fun r => le S r.2) pc lv (.int x2 :: .int x1 :: .ref (q 52) :: rest) (bnd (f3_codeAt n x1 x2 S) K) := h_callVi (As := [.int x1, .int x2]) (b := q 52) (C := RX3) hsf X (c3_codeAt hsf l D cI q n x1 x2 S) (cwVC (k := 2) X.1.2.2.2.2.1 hlk ti3_codeAt te3_codeAt tc3_codeAt ini_3 (by decide +kernel) hR) (fun x H h1 h2 => va_recv h1 h2 (ci := 3) (q0 := 7) rfl rfl) rfl rfl hcat d kk
-- X3.isLastOf
theorem tlX3_148 : Cond.methodLink RX3 148 yX0_isBelow ∈ tt := tt_in (List.mem_of_getElem? (i := 550) (by decide +kernel)) (by decide +kernel)
def f3_isLastOf (n : Nat) (x1 : Int32) (S : CS) : Option (Int32 × CS) :=
    bnd (f3_kindAt n (nI 0) S) fun v1 S1 =>
    if v1 = (nI 1) then
      (bnd (f3_numberAt n (nI 0) S1) fun v2 S2 =>
      bT 7 S2 (f2_get n v2 (nI 0) (tOf 7 S2)) fun v3 S3 =>
      bnd (f0_isBelow n v3 x1 S3) fun v4 S4 =>
      if v4 = 0 then (zt (nI 0) (some ((nI 0), S4))) else (zt (nI 1) (some ((nI 1), S4))))
    else
      (zt (nI 0) (some ((nI 0), S1)))
theorem w3_isLastOf (hsf : sfOk (SF tk)) (X : hX p s m args meth c cX3_isLastOf 2 RX3 (some .boolean) D (tyC cI) (SF tk) A) {S0 : CS} (n : Nat) (x1 : Int32) (S : CS) : hG p l e (fun r => rmC 2 47 (cS r.2 - cS S0) (sS r.2 - sS S0)) s m args below meth c 2 (ZW D (wC cI q) A s.heap S0 S) (cS S - cS S0) (sS S - sS S0) (fun r => MQ below (QWi D (tyC cI) (wC cI q) A r) args s (cS r.2 - cS S0) (sS r.2 - sS S0) A) (fun r => le S r.2) 0 [(0, .ref (q 52)), (1, .int x1)] [] (f3_isLastOf n x1 S) := by
    unfold f3_isLastOf
    refine h_aload_n X dX3_isLastOf_0 rfl rfl ?_
    refine h_iconst (v := (nI 0)) X dX3_isLastOf_1 (by decide) ?_
    refine k3_kindAt hsf X tlX3_73 ⟨Nat.le_of_ble_eq_true rfl, Nat.le_of_ble_eq_true rfl⟩ (Nat.le_of_ble_eq_true rfl) dX3_isLastOf_2 ?_
    intro v1 S1
    refine h_iconst (v := (nI 1)) X dX3_isLastOf_5 (by decide) ?_
    refine h_icmp_ne (tgt := 40) X dX3_isLastOf_6 (by decide) ?_ ?_
    · refine h_iconst (v := (nI 0)) X dX3_isLastOf_40 (by decide) ?_
      exact h_zret X dX3_isLastOf_41
    · refine h_aload_n X dX3_isLastOf_9 rfl rfl ?_
      refine c_g_WK_book X fl3_14 dX3_isLastOf_10 ?_
      refine h_aload_n X dX3_isLastOf_13 rfl rfl ?_
      refine c_g_WK_book X fl3_14 dX3_isLastOf_14 ?_
      refine c_g_IM_objects X fl3_145 dX3_isLastOf_17 ?_
      refine h_aload_n X dX3_isLastOf_20 rfl rfl ?_
      refine h_iconst (v := (nI 0)) X dX3_isLastOf_21 (by decide) ?_
      refine k3_numberAt hsf X tlX3_76 ⟨Nat.le_of_ble_eq_true rfl, Nat.le_of_ble_eq_true rfl⟩ (Nat.le_of_ble_eq_true rfl) dX3_isLastOf_22 ?_
      intro v2 S2
      refine h_iconst (v := (nI 0)) X dX3_isLastOf_25 (by decide) ?_
      refine kt2_get_7 hsf X tlX3_84 ⟨Nat.le_of_ble_eq_true rfl, Nat.le_of_ble_eq_true rfl⟩ (Nat.le_of_ble_eq_true rfl) dX3_isLastOf_26 ?_
      intro v3 S3
      refine h_iload_n X dX3_isLastOf_29 rfl rfl ?_
      refine k0_isBelow hsf X tlX3_148 ⟨Nat.le_of_ble_eq_true rfl, Nat.le_of_ble_eq_true rfl⟩ (Nat.le_of_ble_eq_true rfl) dX3_isLastOf_30 ?_
      intro v4 S4
      refine h_if_eq (tgt := 40) X dX3_isLastOf_33 (by decide) ?_ ?_
      · refine h_iconst (v := (nI 0)) X dX3_isLastOf_40 (by decide) ?_
        exact h_zret X dX3_isLastOf_41
      · refine h_iconst (v := (nI 1)) X dX3_isLastOf_36 (by decide) ?_
        refine h_goto (tgt := 41) X dX3_isLastOf_37 (by decide) ?_
        exact h_zret X dX3_isLastOf_41
theorem mo3_isLastOf (n : Nat) (x1 : Int32) (S : CS) : mo S (f3_isLastOf n x1 S) := by
    unfold f3_isLastOf
    refine m_bnd (mo3_kindAt _ _ _) (fun v1 S1 => ?_)
    refine m_ite ?_ ?_
    · refine m_bnd (mo3_numberAt _ _ _) (fun v2 S2 => ?_)
      refine m_bT (mo2_get _ _ _ _) (fun v3 S3 => ?_)
      refine m_bnd (mo0_isBelow _ _ _ _) (fun v4 S4 => ?_)
      refine m_ite ?_ ?_
      · exact m_zt m_some
      · exact m_zt m_some
    · exact m_zt m_some
theorem c3_isLastOf (hsf : sfOk (SF tk)) (l : Launch) (D : va_G) (cI : ClassId) (q : Nat → Nat) (n : Nat) (x1 : Int32) (S : CS) : MetW l D (tyC cI) (SF tk) (wC cI q) yX3_isLastOf cX3_isLastOf 2 (some .boolean) 2 47 QWi [.ref (q 52), .int x1] S (f3_isLastOf n x1 S) := by
  refine MetW.of (own := RX3) (by decide) rfl (Nat.le_of_ble_eq_true rfl) (mo3_isLastOf n x1 S) ?_
  intro x p e s m args below meth c X
  refine h_pick (lv' := [(0, .ref (q 52)), (1, .int x1)]) [0, 1] rfl ?_
  exact h_close (w3_isLastOf hsf X n x1 S)
theorem tc3_isLastOf : Cond.code yX3_isLastOf cX3_isLastOf 2 (some .boolean) ∈ tt := tt_in (List.mem_of_getElem? (i := 541) (by decide +kernel)) (by decide +kernel)
theorem ti3_isLastOf : Cond.instanceMethod yX3_isLastOf ∈ tt := tt_in (List.mem_of_getElem? (i := 540) (by decide +kernel)) (by decide +kernel)
theorem te3_isLastOf : Cond.selects RX3 yX3_isLastOf yX3_isLastOf ∈ tt := tt_in (List.mem_of_getElem? (i := 24) (by decide +kernel)) (by decide +kernel)
theorem k3_isLastOf (hsf : sfOk (SF tk)) (X : hX p s m args meth c cc nL own rt D (tyC cI) (SF tk) A) {n : Nat} {x1 : Int32} {ix : Nat} (hlk : Cond.methodLink own ix yX3_isLastOf ∈ tt) {rest : List Value} {K : Int32 → CS → Option (ρ × CS)} (hR : 2 + 1 ≤ fr ∧ 8 + (2 + 11) + 47 ≤ lo) (hcat : (rest.map fun v => v.category).sum ≤ 8) (d : decode cc pc = .ok (.invokevirtual ix, 3)) (kk : ∀ v S1, hG p l e (fun r => rmC fr lo (cS r.2 - cS S0) (sS r.2 - sS S0)) s m args below meth c nL (ZW D (wC cI q) A s.heap S0 S1) (cS S1 - cS S0) (sS S1 - sS S0) QQ (fun r => le S1 r.2) (pc + 3) lv (.int v :: rest) (K v S1)) : hG p l e (fun r => rmC fr lo (cS r.2 - cS S0) (sS r.2 - sS S0)) s m args below meth c nL (ZW D (wC cI q) A s.heap S0 S) (cS S - cS S0) (sS S - sS S0) QQ (fun r => le S r.2) pc lv (.int x1 :: .ref (q 52) :: rest) (bnd (f3_isLastOf n x1 S) K) := h_callVi (As := [.int x1]) (b := q 52) (C := RX3) hsf X (c3_isLastOf hsf l D cI q n x1 S) (cwVC (k := 1) X.1.2.2.2.2.1 hlk ti3_isLastOf te3_isLastOf tc3_isLastOf ini_3 (by decide +kernel) hR) (fun x H h1 h2 => va_recv h1 h2 (ci := 3) (q0 := 7) rfl rfl) rfl rfl hcat d kk
-- X3.readField
theorem tlX3_164 : Cond.methodLink RX3 164 yX0_hasField ∈ tt := tt_in (List.mem_of_getElem? (i := 558) (by decide +kernel)) (by decide +kernel)
def f3_readField (n : Nat) (x1 : Int32) (S : CS) : Option (Int32 × CS) :=
    bnd (f3_kindAt n (nI 0) S) fun v1 S1 =>
    if v1 = (nI 1) then
      (bnd (f3_numberAt n (nI 0) S1) fun v2 S2 =>
      bnd (f0_hasField n v2 x1 S2) fun v3 S3 =>
      if v3 = 0 then
        (some ((nI 3), S3))
      else
        (bT 7 S3 (f2_get n v2 ((nI 11) + x1) (tOf 7 S3)) fun v4 S4 =>
        bT 7 S4 (f2_get n v2 ((nI 1) + x1) (tOf 7 S4)) fun v5 S5 =>
        bnd (f3_takeAndPut n (nI 1) v5 v4 S5) fun v6 S6 =>
        some (v6, S6)))
    else
      (some ((nI 1), S1))
theorem w3_readField (hsf : sfOk (SF tk)) (X : hX p s m args meth c cX3_readField 4 RX3 (some .int) D (tyC cI) (SF tk) A) {S0 : CS} (n : Nat) (x1 : Int32) (S : CS) : hG p l e (fun r => rmC 4 92 (cS r.2 - cS S0) (sS r.2 - sS S0)) s m args below meth c 4 (ZW D (wC cI q) A s.heap S0 S) (cS S - cS S0) (sS S - sS S0) (fun r => MQ below (QWi D (tyC cI) (wC cI q) A r) args s (cS r.2 - cS S0) (sS r.2 - sS S0) A) (fun r => le S r.2) 0 [(0, .ref (q 52)), (1, .int x1)] [] (f3_readField n x1 S) := by
    unfold f3_readField
    refine h_aload_n X dX3_readField_0 rfl rfl ?_
    refine h_iconst (v := (nI 0)) X dX3_readField_1 (by decide) ?_
    refine k3_kindAt hsf X tlX3_73 ⟨Nat.le_of_ble_eq_true rfl, Nat.le_of_ble_eq_true rfl⟩ (Nat.le_of_ble_eq_true rfl) dX3_readField_2 ?_
    intro v1 S1
    refine h_iconst (v := (nI 1)) X dX3_readField_5 (by decide) ?_
    refine h_icmp_eq (tgt := 11) X dX3_readField_6 (by decide) ?_ ?_
    · refine h_aload_n X dX3_readField_11 rfl rfl ?_
      refine h_iconst (v := (nI 0)) X dX3_readField_12 (by decide) ?_
      refine k3_numberAt hsf X tlX3_76 ⟨Nat.le_of_ble_eq_true rfl, Nat.le_of_ble_eq_true rfl⟩ (Nat.le_of_ble_eq_true rfl) dX3_readField_13 ?_
      intro v2 S2
      refine h_istore_n (lv' := [(2, .int v2), (0, .ref (q 52)), (1, .int x1)]) X dX3_readField_16 rfl (by decide) rfl ?_
      refine h_aload_n X dX3_readField_17 rfl rfl ?_
      refine c_g_WK_book X fl3_14 dX3_readField_18 ?_
      refine h_iload_n X dX3_readField_21 rfl rfl ?_
      refine h_iload_n X dX3_readField_22 rfl rfl ?_
      refine k0_hasField hsf X tlX3_164 ⟨Nat.le_of_ble_eq_true rfl, Nat.le_of_ble_eq_true rfl⟩ (Nat.le_of_ble_eq_true rfl) dX3_readField_23 ?_
      intro v3 S3
      refine h_if_ne (tgt := 31) X dX3_readField_26 (by decide) ?_ ?_
      · refine h_aload_n X dX3_readField_31 rfl rfl ?_
        refine c_g_WK_book X fl3_14 dX3_readField_32 ?_
        refine c_g_IM_objects X fl3_145 dX3_readField_35 ?_
        refine h_iload_n X dX3_readField_38 rfl rfl ?_
        refine h_bipush (v := (nI 11)) X dX3_readField_39 (by decide) ?_
        refine h_iload_n X dX3_readField_41 rfl rfl ?_
        refine h_iadd X dX3_readField_42 ?_
        refine kt2_get_7 hsf X tlX3_84 ⟨Nat.le_of_ble_eq_true rfl, Nat.le_of_ble_eq_true rfl⟩ (Nat.le_of_ble_eq_true rfl) dX3_readField_43 ?_
        intro v4 S4
        refine h_istore_n (lv' := [(3, .int v4), (2, .int v2), (0, .ref (q 52)), (1, .int x1)]) X dX3_readField_46 rfl (by decide) rfl ?_
        refine h_aload_n X dX3_readField_47 rfl rfl ?_
        refine h_iconst (v := (nI 1)) X dX3_readField_48 (by decide) ?_
        refine h_aload_n X dX3_readField_49 rfl rfl ?_
        refine c_g_WK_book X fl3_14 dX3_readField_50 ?_
        refine c_g_IM_objects X fl3_145 dX3_readField_53 ?_
        refine h_iload_n X dX3_readField_56 rfl rfl ?_
        refine h_iconst (v := (nI 1)) X dX3_readField_57 (by decide) ?_
        refine h_iload_n X dX3_readField_58 rfl rfl ?_
        refine h_iadd X dX3_readField_59 ?_
        refine kt2_get_7 hsf X tlX3_84 ⟨Nat.le_of_ble_eq_true rfl, Nat.le_of_ble_eq_true rfl⟩ (Nat.le_of_ble_eq_true rfl) dX3_readField_60 ?_
        intro v5 S5
        refine h_iload_n X dX3_readField_63 rfl rfl ?_
        refine k3_takeAndPut hsf X tlX3_120 ⟨Nat.le_of_ble_eq_true rfl, Nat.le_of_ble_eq_true rfl⟩ (Nat.le_of_ble_eq_true rfl) dX3_readField_64 ?_
        intro v6 S6
        exact h_iret X dX3_readField_67
      · refine h_iconst (v := (nI 3)) X dX3_readField_29 (by decide) ?_
        exact h_iret X dX3_readField_30
    · refine h_iconst (v := (nI 1)) X dX3_readField_9 (by decide) ?_
      exact h_iret X dX3_readField_10
theorem mo3_readField (n : Nat) (x1 : Int32) (S : CS) : mo S (f3_readField n x1 S) := by
    unfold f3_readField
    refine m_bnd (mo3_kindAt _ _ _) (fun v1 S1 => ?_)
    refine m_ite ?_ ?_
    · refine m_bnd (mo3_numberAt _ _ _) (fun v2 S2 => ?_)
      refine m_bnd (mo0_hasField _ _ _ _) (fun v3 S3 => ?_)
      refine m_ite ?_ ?_
      · exact m_some
      · refine m_bT (mo2_get _ _ _ _) (fun v4 S4 => ?_)
        refine m_bT (mo2_get _ _ _ _) (fun v5 S5 => ?_)
        refine m_bnd (mo3_takeAndPut _ _ _ _ _) (fun v6 S6 => ?_)
        exact m_some
    · exact m_some
theorem c3_readField (hsf : sfOk (SF tk)) (l : Launch) (D : va_G) (cI : ClassId) (q : Nat → Nat) (n : Nat) (x1 : Int32) (S : CS) : MetW l D (tyC cI) (SF tk) (wC cI q) yX3_readField cX3_readField 4 (some .int) 4 92 QWi [.ref (q 52), .int x1] S (f3_readField n x1 S) := by
  refine MetW.of (own := RX3) (by decide) rfl (Nat.le_of_ble_eq_true rfl) (mo3_readField n x1 S) ?_
  intro x p e s m args below meth c X
  refine h_pick (lv' := [(0, .ref (q 52)), (1, .int x1)]) [0, 1] rfl ?_
  exact h_close (w3_readField hsf X n x1 S)
theorem tc3_readField : Cond.code yX3_readField cX3_readField 4 (some .int) ∈ tt := tt_in (List.mem_of_getElem? (i := 557) (by decide +kernel)) (by decide +kernel)
theorem ti3_readField : Cond.instanceMethod yX3_readField ∈ tt := tt_in (List.mem_of_getElem? (i := 556) (by decide +kernel)) (by decide +kernel)
theorem te3_readField : Cond.selects RX3 yX3_readField yX3_readField ∈ tt := tt_in (List.mem_of_getElem? (i := 27) (by decide +kernel)) (by decide +kernel)
theorem k3_readField (hsf : sfOk (SF tk)) (X : hX p s m args meth c cc nL own rt D (tyC cI) (SF tk) A) {n : Nat} {x1 : Int32} {ix : Nat} (hlk : Cond.methodLink own ix yX3_readField ∈ tt) {rest : List Value} {K : Int32 → CS → Option (ρ × CS)} (hR : 4 + 1 ≤ fr ∧ 8 + (4 + 11) + 92 ≤ lo) (hcat : (rest.map fun v => v.category).sum ≤ 8) (d : decode cc pc = .ok (.invokevirtual ix, 3)) (kk : ∀ v S1, hG p l e (fun r => rmC fr lo (cS r.2 - cS S0) (sS r.2 - sS S0)) s m args below meth c nL (ZW D (wC cI q) A s.heap S0 S1) (cS S1 - cS S0) (sS S1 - sS S0) QQ (fun r => le S1 r.2) (pc + 3) lv (.int v :: rest) (K v S1)) : hG p l e (fun r => rmC fr lo (cS r.2 - cS S0) (sS r.2 - sS S0)) s m args below meth c nL (ZW D (wC cI q) A s.heap S0 S) (cS S - cS S0) (sS S - sS S0) QQ (fun r => le S r.2) pc lv (.int x1 :: .ref (q 52) :: rest) (bnd (f3_readField n x1 S) K) := h_callVi (As := [.int x1]) (b := q 52) (C := RX3) hsf X (c3_readField hsf l D cI q n x1 S) (cwVC (k := 1) X.1.2.2.2.2.1 hlk ti3_readField te3_readField tc3_readField ini_3 (by decide +kernel) hR) (fun x H h1 h2 => va_recv h1 h2 (ci := 3) (q0 := 7) rfl rfl) rfl rfl hcat d kk
-- X3.writeField
theorem tlX3_167 : Cond.methodLink RX3 167 yX0_setField ∈ tt := tt_in (List.mem_of_getElem? (i := 566) (by decide +kernel)) (by decide +kernel)
def f3_writeField (n : Nat) (x1 : Int32) (S : CS) : Option (Int32 × CS) :=
    bnd (f3_kindAt n (nI 1) S) fun v1 S1 =>
    if v1 = (nI 1) then
      (bnd (f3_numberAt n (nI 1) S1) fun v2 S2 =>
      bnd (f0_hasField n v2 x1 S2) fun v3 S3 =>
      if v3 = 0 then
        (some ((nI 3), S3))
      else
        (bnd (f3_kindAt n (nI 0) S3) fun v4 S4 =>
        bnd (f3_numberAt n (nI 0) S4) fun v5 S5 =>
        bnd (f0_setField n v2 x1 v4 v5 S5) fun _ S6 =>
        bnd (f3_kindAt n (nI 0) S6) fun v7 S7 =>
        bnd (f3_numberAt n (nI 0) S7) fun v8 S8 =>
        bnd (f3_takeAndPut n (nI 2) v7 v8 S8) fun v9 S9 =>
        some (v9, S9)))
    else
      (some ((nI 1), S1))
theorem w3_writeField (hsf : sfOk (SF tk)) (X : hX p s m args meth c cX3_writeField 3 RX3 (some .int) D (tyC cI) (SF tk) A) {S0 : CS} (n : Nat) (x1 : Int32) (S : CS) : hG p l e (fun r => rmC 4 92 (cS r.2 - cS S0) (sS r.2 - sS S0)) s m args below meth c 3 (ZW D (wC cI q) A s.heap S0 S) (cS S - cS S0) (sS S - sS S0) (fun r => MQ below (QWi D (tyC cI) (wC cI q) A r) args s (cS r.2 - cS S0) (sS r.2 - sS S0) A) (fun r => le S r.2) 0 [(0, .ref (q 52)), (1, .int x1)] [] (f3_writeField n x1 S) := by
    unfold f3_writeField
    refine h_aload_n X dX3_writeField_0 rfl rfl ?_
    refine h_iconst (v := (nI 1)) X dX3_writeField_1 (by decide) ?_
    refine k3_kindAt hsf X tlX3_73 ⟨Nat.le_of_ble_eq_true rfl, Nat.le_of_ble_eq_true rfl⟩ (Nat.le_of_ble_eq_true rfl) dX3_writeField_2 ?_
    intro v1 S1
    refine h_iconst (v := (nI 1)) X dX3_writeField_5 (by decide) ?_
    refine h_icmp_eq (tgt := 11) X dX3_writeField_6 (by decide) ?_ ?_
    · refine h_aload_n X dX3_writeField_11 rfl rfl ?_
      refine h_iconst (v := (nI 1)) X dX3_writeField_12 (by decide) ?_
      refine k3_numberAt hsf X tlX3_76 ⟨Nat.le_of_ble_eq_true rfl, Nat.le_of_ble_eq_true rfl⟩ (Nat.le_of_ble_eq_true rfl) dX3_writeField_13 ?_
      intro v2 S2
      refine h_istore_n (lv' := [(2, .int v2), (0, .ref (q 52)), (1, .int x1)]) X dX3_writeField_16 rfl (by decide) rfl ?_
      refine h_aload_n X dX3_writeField_17 rfl rfl ?_
      refine c_g_WK_book X fl3_14 dX3_writeField_18 ?_
      refine h_iload_n X dX3_writeField_21 rfl rfl ?_
      refine h_iload_n X dX3_writeField_22 rfl rfl ?_
      refine k0_hasField hsf X tlX3_164 ⟨Nat.le_of_ble_eq_true rfl, Nat.le_of_ble_eq_true rfl⟩ (Nat.le_of_ble_eq_true rfl) dX3_writeField_23 ?_
      intro v3 S3
      refine h_if_ne (tgt := 31) X dX3_writeField_26 (by decide) ?_ ?_
      · refine h_aload_n X dX3_writeField_31 rfl rfl ?_
        refine c_g_WK_book X fl3_14 dX3_writeField_32 ?_
        refine h_iload_n X dX3_writeField_35 rfl rfl ?_
        refine h_iload_n X dX3_writeField_36 rfl rfl ?_
        refine h_aload_n X dX3_writeField_37 rfl rfl ?_
        refine h_iconst (v := (nI 0)) X dX3_writeField_38 (by decide) ?_
        refine k3_kindAt hsf X tlX3_73 ⟨Nat.le_of_ble_eq_true rfl, Nat.le_of_ble_eq_true rfl⟩ (Nat.le_of_ble_eq_true rfl) dX3_writeField_39 ?_
        intro v4 S4
        refine h_aload_n X dX3_writeField_42 rfl rfl ?_
        refine h_iconst (v := (nI 0)) X dX3_writeField_43 (by decide) ?_
        refine k3_numberAt hsf X tlX3_76 ⟨Nat.le_of_ble_eq_true rfl, Nat.le_of_ble_eq_true rfl⟩ (Nat.le_of_ble_eq_true rfl) dX3_writeField_44 ?_
        intro v5 S5
        refine k0_setField hsf X tlX3_167 ⟨Nat.le_of_ble_eq_true rfl, Nat.le_of_ble_eq_true rfl⟩ (Nat.le_of_ble_eq_true rfl) dX3_writeField_47 ?_
        intro v6 S6
        refine h_aload_n X dX3_writeField_50 rfl rfl ?_
        refine h_iconst (v := (nI 2)) X dX3_writeField_51 (by decide) ?_
        refine h_aload_n X dX3_writeField_52 rfl rfl ?_
        refine h_iconst (v := (nI 0)) X dX3_writeField_53 (by decide) ?_
        refine k3_kindAt hsf X tlX3_73 ⟨Nat.le_of_ble_eq_true rfl, Nat.le_of_ble_eq_true rfl⟩ (Nat.le_of_ble_eq_true rfl) dX3_writeField_54 ?_
        intro v7 S7
        refine h_aload_n X dX3_writeField_57 rfl rfl ?_
        refine h_iconst (v := (nI 0)) X dX3_writeField_58 (by decide) ?_
        refine k3_numberAt hsf X tlX3_76 ⟨Nat.le_of_ble_eq_true rfl, Nat.le_of_ble_eq_true rfl⟩ (Nat.le_of_ble_eq_true rfl) dX3_writeField_59 ?_
        intro v8 S8
        refine k3_takeAndPut hsf X tlX3_120 ⟨Nat.le_of_ble_eq_true rfl, Nat.le_of_ble_eq_true rfl⟩ (Nat.le_of_ble_eq_true rfl) dX3_writeField_62 ?_
        intro v9 S9
        exact h_iret X dX3_writeField_65
      · refine h_iconst (v := (nI 3)) X dX3_writeField_29 (by decide) ?_
        exact h_iret X dX3_writeField_30
    · refine h_iconst (v := (nI 1)) X dX3_writeField_9 (by decide) ?_
      exact h_iret X dX3_writeField_10
theorem mo3_writeField (n : Nat) (x1 : Int32) (S : CS) : mo S (f3_writeField n x1 S) := by
    unfold f3_writeField
    refine m_bnd (mo3_kindAt _ _ _) (fun v1 S1 => ?_)
    refine m_ite ?_ ?_
    · refine m_bnd (mo3_numberAt _ _ _) (fun v2 S2 => ?_)
      refine m_bnd (mo0_hasField _ _ _ _) (fun v3 S3 => ?_)
      refine m_ite ?_ ?_
      · exact m_some
      · refine m_bnd (mo3_kindAt _ _ _) (fun v4 S4 => ?_)
        refine m_bnd (mo3_numberAt _ _ _) (fun v5 S5 => ?_)
        refine m_bnd (mo0_setField _ _ _ _ _ _) (fun v6 S6 => ?_)
        refine m_bnd (mo3_kindAt _ _ _) (fun v7 S7 => ?_)
        refine m_bnd (mo3_numberAt _ _ _) (fun v8 S8 => ?_)
        refine m_bnd (mo3_takeAndPut _ _ _ _ _) (fun v9 S9 => ?_)
        exact m_some
    · exact m_some
theorem c3_writeField (hsf : sfOk (SF tk)) (l : Launch) (D : va_G) (cI : ClassId) (q : Nat → Nat) (n : Nat) (x1 : Int32) (S : CS) : MetW l D (tyC cI) (SF tk) (wC cI q) yX3_writeField cX3_writeField 3 (some .int) 4 92 QWi [.ref (q 52), .int x1] S (f3_writeField n x1 S) := by
  refine MetW.of (own := RX3) (by decide) rfl (Nat.le_of_ble_eq_true rfl) (mo3_writeField n x1 S) ?_
  intro x p e s m args below meth c X
  refine h_pick (lv' := [(0, .ref (q 52)), (1, .int x1)]) [0, 1] rfl ?_
  exact h_close (w3_writeField hsf X n x1 S)
theorem tc3_writeField : Cond.code yX3_writeField cX3_writeField 3 (some .int) ∈ tt := tt_in (List.mem_of_getElem? (i := 565) (by decide +kernel)) (by decide +kernel)
theorem ti3_writeField : Cond.instanceMethod yX3_writeField ∈ tt := tt_in (List.mem_of_getElem? (i := 564) (by decide +kernel)) (by decide +kernel)
theorem te3_writeField : Cond.selects RX3 yX3_writeField yX3_writeField ∈ tt := tt_in (List.mem_of_getElem? (i := 28) (by decide +kernel)) (by decide +kernel)
theorem k3_writeField (hsf : sfOk (SF tk)) (X : hX p s m args meth c cc nL own rt D (tyC cI) (SF tk) A) {n : Nat} {x1 : Int32} {ix : Nat} (hlk : Cond.methodLink own ix yX3_writeField ∈ tt) {rest : List Value} {K : Int32 → CS → Option (ρ × CS)} (hR : 4 + 1 ≤ fr ∧ 8 + (3 + 11) + 92 ≤ lo) (hcat : (rest.map fun v => v.category).sum ≤ 8) (d : decode cc pc = .ok (.invokevirtual ix, 3)) (kk : ∀ v S1, hG p l e (fun r => rmC fr lo (cS r.2 - cS S0) (sS r.2 - sS S0)) s m args below meth c nL (ZW D (wC cI q) A s.heap S0 S1) (cS S1 - cS S0) (sS S1 - sS S0) QQ (fun r => le S1 r.2) (pc + 3) lv (.int v :: rest) (K v S1)) : hG p l e (fun r => rmC fr lo (cS r.2 - cS S0) (sS r.2 - sS S0)) s m args below meth c nL (ZW D (wC cI q) A s.heap S0 S) (cS S - cS S0) (sS S - sS S0) QQ (fun r => le S r.2) pc lv (.int x1 :: .ref (q 52) :: rest) (bnd (f3_writeField n x1 S) K) := h_callVi (As := [.int x1]) (b := q 52) (C := RX3) hsf X (c3_writeField hsf l D cI q n x1 S) (cwVC (k := 1) X.1.2.2.2.2.1 hlk ti3_writeField te3_writeField tc3_writeField ini_3 (by decide +kernel) hR) (fun x H h1 h2 => va_recv h1 h2 (ci := 3) (q0 := 7) rfl rfl) rfl rfl hcat d kk
-- X3.isSame
def f3_isSame (n : Nat) (S : CS) : Option (Int32 × CS) :=
    bnd (f3_kindAt n (nI 0) S) fun v1 S1 =>
    bnd (f3_kindAt n (nI 1) S1) fun v2 S2 =>
    if v1 = v2 then
      (bnd (f3_numberAt n (nI 0) S2) fun v3 S3 =>
      bnd (f3_numberAt n (nI 1) S3) fun v4 S4 =>
      if v3 = v4 then (zt (nI 1) (some ((nI 1), S4))) else (zt (nI 0) (some ((nI 0), S4))))
    else
      (zt (nI 0) (some ((nI 0), S2)))
theorem w3_isSame (hsf : sfOk (SF tk)) (X : hX p s m args meth c cX3_isSame 1 RX3 (some .boolean) D (tyC cI) (SF tk) A) {S0 : CS} (n : Nat) (S : CS) : hG p l e (fun r => rmC 2 44 (cS r.2 - cS S0) (sS r.2 - sS S0)) s m args below meth c 1 (ZW D (wC cI q) A s.heap S0 S) (cS S - cS S0) (sS S - sS S0) (fun r => MQ below (QWi D (tyC cI) (wC cI q) A r) args s (cS r.2 - cS S0) (sS r.2 - sS S0) A) (fun r => le S r.2) 0 [(0, .ref (q 52))] [] (f3_isSame n S) := by
    unfold f3_isSame
    refine h_aload_n X dX3_isSame_0 rfl rfl ?_
    refine h_iconst (v := (nI 0)) X dX3_isSame_1 (by decide) ?_
    refine k3_kindAt hsf X tlX3_73 ⟨Nat.le_of_ble_eq_true rfl, Nat.le_of_ble_eq_true rfl⟩ (Nat.le_of_ble_eq_true rfl) dX3_isSame_2 ?_
    intro v1 S1
    refine h_aload_n X dX3_isSame_5 rfl rfl ?_
    refine h_iconst (v := (nI 1)) X dX3_isSame_6 (by decide) ?_
    refine k3_kindAt hsf X tlX3_73 ⟨Nat.le_of_ble_eq_true rfl, Nat.le_of_ble_eq_true rfl⟩ (Nat.le_of_ble_eq_true rfl) dX3_isSame_7 ?_
    intro v2 S2
    refine h_icmp_ne (tgt := 30) X dX3_isSame_10 (by decide) ?_ ?_
    · refine h_iconst (v := (nI 0)) X dX3_isSame_30 (by decide) ?_
      exact h_zret X dX3_isSame_31
    · refine h_aload_n X dX3_isSame_13 rfl rfl ?_
      refine h_iconst (v := (nI 0)) X dX3_isSame_14 (by decide) ?_
      refine k3_numberAt hsf X tlX3_76 ⟨Nat.le_of_ble_eq_true rfl, Nat.le_of_ble_eq_true rfl⟩ (Nat.le_of_ble_eq_true rfl) dX3_isSame_15 ?_
      intro v3 S3
      refine h_aload_n X dX3_isSame_18 rfl rfl ?_
      refine h_iconst (v := (nI 1)) X dX3_isSame_19 (by decide) ?_
      refine k3_numberAt hsf X tlX3_76 ⟨Nat.le_of_ble_eq_true rfl, Nat.le_of_ble_eq_true rfl⟩ (Nat.le_of_ble_eq_true rfl) dX3_isSame_20 ?_
      intro v4 S4
      refine h_icmp_ne (tgt := 30) X dX3_isSame_23 (by decide) ?_ ?_
      · refine h_iconst (v := (nI 0)) X dX3_isSame_30 (by decide) ?_
        exact h_zret X dX3_isSame_31
      · refine h_iconst (v := (nI 1)) X dX3_isSame_26 (by decide) ?_
        refine h_goto (tgt := 31) X dX3_isSame_27 (by decide) ?_
        exact h_zret X dX3_isSame_31
theorem mo3_isSame (n : Nat) (S : CS) : mo S (f3_isSame n S) := by
    unfold f3_isSame
    refine m_bnd (mo3_kindAt _ _ _) (fun v1 S1 => ?_)
    refine m_bnd (mo3_kindAt _ _ _) (fun v2 S2 => ?_)
    refine m_ite ?_ ?_
    · refine m_bnd (mo3_numberAt _ _ _) (fun v3 S3 => ?_)
      refine m_bnd (mo3_numberAt _ _ _) (fun v4 S4 => ?_)
      refine m_ite ?_ ?_
      · exact m_zt m_some
      · exact m_zt m_some
    · exact m_zt m_some
theorem c3_isSame (hsf : sfOk (SF tk)) (l : Launch) (D : va_G) (cI : ClassId) (q : Nat → Nat) (n : Nat) (S : CS) : MetW l D (tyC cI) (SF tk) (wC cI q) yX3_isSame cX3_isSame 1 (some .boolean) 2 44 QWi [.ref (q 52)] S (f3_isSame n S) := by
  refine MetW.of (own := RX3) (by decide) rfl (Nat.le_of_ble_eq_true rfl) (mo3_isSame n S) ?_
  intro x p e s m args below meth c X
  refine h_pick (lv' := [(0, .ref (q 52))]) [0] rfl ?_
  exact h_close (w3_isSame hsf X n S)
theorem tc3_isSame : Cond.code yX3_isSame cX3_isSame 1 (some .boolean) ∈ tt := tt_in (List.mem_of_getElem? (i := 577) (by decide +kernel)) (by decide +kernel)
theorem ti3_isSame : Cond.instanceMethod yX3_isSame ∈ tt := tt_in (List.mem_of_getElem? (i := 576) (by decide +kernel)) (by decide +kernel)
theorem te3_isSame : Cond.selects RX3 yX3_isSame yX3_isSame ∈ tt := tt_in (List.mem_of_getElem? (i := 30) (by decide +kernel)) (by decide +kernel)
theorem k3_isSame (hsf : sfOk (SF tk)) (X : hX p s m args meth c cc nL own rt D (tyC cI) (SF tk) A) {n : Nat} {ix : Nat} (hlk : Cond.methodLink own ix yX3_isSame ∈ tt) {rest : List Value} {K : Int32 → CS → Option (ρ × CS)} (hR : 2 + 1 ≤ fr ∧ 8 + (1 + 11) + 44 ≤ lo) (hcat : (rest.map fun v => v.category).sum ≤ 8) (d : decode cc pc = .ok (.invokevirtual ix, 3)) (kk : ∀ v S1, hG p l e (fun r => rmC fr lo (cS r.2 - cS S0) (sS r.2 - sS S0)) s m args below meth c nL (ZW D (wC cI q) A s.heap S0 S1) (cS S1 - cS S0) (sS S1 - sS S0) QQ (fun r => le S1 r.2) (pc + 3) lv (.int v :: rest) (K v S1)) : hG p l e (fun r => rmC fr lo (cS r.2 - cS S0) (sS r.2 - sS S0)) s m args below meth c nL (ZW D (wC cI q) A s.heap S0 S) (cS S - cS S0) (sS S - sS S0) QQ (fun r => le S r.2) pc lv (.ref (q 52) :: rest) (bnd (f3_isSame n S) K) := h_callVi (As := []) (b := q 52) (C := RX3) hsf X (c3_isSame hsf l D cI q n S) (cwVC (k := 0) X.1.2.2.2.2.1 hlk ti3_isSame te3_isSame tc3_isSame ini_3 (by decide +kernel) hR) (fun x H h1 h2 => va_recv h1 h2 (ci := 3) (q0 := 7) rfl rfl) rfl rfl hcat d kk
end CM
