theorem dX5_rerun_0 : decode cX5_rerun 0 = .ok (.aload_n 0, 1) := by decide +kernel
theorem dX5_rerun_1 : decode cX5_rerun 1 = .ok (.iload_n 1, 1) := by decide +kernel
theorem dX5_rerun_2 : decode cX5_rerun 2 = .ok (.invokevirtual 251, 3) := by decide +kernel
theorem dX5_rerun_5 : decode cX5_rerun 5 = .ok (.ifCond .ne 5, 3) := by decide +kernel
theorem dX5_rerun_8 : decode cX5_rerun 8 = .ok (.iconst (-1), 1) := by decide +kernel
theorem dX5_rerun_9 : decode cX5_rerun 9 = .ok (.ireturn, 1) := by decide +kernel
theorem dX5_rerun_10 : decode cX5_rerun 10 = .ok (.aload_n 0, 1) := by decide +kernel
theorem dX5_rerun_11 : decode cX5_rerun 11 = .ok (.getfield 8, 3) := by decide +kernel
theorem dX5_rerun_14 : decode cX5_rerun 14 = .ok (.iconst 1, 1) := by decide +kernel
theorem dX5_rerun_15 : decode cX5_rerun 15 = .ok (.iaload, 1) := by decide +kernel
theorem dX5_rerun_16 : decode cX5_rerun 16 = .ok (.sipush 150, 3) := by decide +kernel
theorem dX5_rerun_19 : decode cX5_rerun 19 = .ok (.if_icmp .ne 6, 3) := by decide +kernel
theorem dX5_rerun_22 : decode cX5_rerun 22 = .ok (.bipush (-2), 2) := by decide +kernel
theorem dX5_rerun_24 : decode cX5_rerun 24 = .ok (.ireturn, 1) := by decide +kernel
theorem dX5_rerun_25 : decode cX5_rerun 25 = .ok (.aload_n 0, 1) := by decide +kernel
theorem dX5_rerun_26 : decode cX5_rerun 26 = .ok (.iload_n 1, 1) := by decide +kernel
theorem dX5_rerun_27 : decode cX5_rerun 27 = .ok (.invokevirtual 254, 3) := by decide +kernel
theorem dX5_rerun_30 : decode cX5_rerun 30 = .ok (.istore_n 2, 1) := by decide +kernel
theorem dX5_rerun_31 : decode cX5_rerun 31 = .ok (.iload_n 2, 1) := by decide +kernel
theorem dX5_rerun_32 : decode cX5_rerun 32 = .ok (.ifCond .lt 10, 3) := by decide +kernel
theorem dX5_rerun_35 : decode cX5_rerun 35 = .ok (.bipush (-100), 2) := by decide +kernel
theorem dX5_rerun_37 : decode cX5_rerun 37 = .ok (.iload_n 2, 1) := by decide +kernel
theorem dX5_rerun_38 : decode cX5_rerun 38 = .ok (.isub, 1) := by decide +kernel
theorem dX5_rerun_39 : decode cX5_rerun 39 = .ok (.goto 8, 3) := by decide +kernel
theorem dX5_rerun_42 : decode cX5_rerun 42 = .ok (.aload_n 0, 1) := by decide +kernel
theorem dX5_rerun_43 : decode cX5_rerun 43 = .ok (.iload_n 1, 1) := by decide +kernel
theorem dX5_rerun_44 : decode cX5_rerun 44 = .ok (.invokevirtual 248, 3) := by decide +kernel
theorem dX5_rerun_47 : decode cX5_rerun 47 = .ok (.ireturn, 1) := by decide +kernel
theorem dX5_tellStale_0 : decode cX5_tellStale 0 = .ok (.iconst 0, 1) := by decide +kernel
theorem dX5_tellStale_1 : decode cX5_tellStale 1 = .ok (.istore_n 1, 1) := by decide +kernel
theorem dX5_tellStale_2 : decode cX5_tellStale 2 = .ok (.iload_n 1, 1) := by decide +kernel
theorem dX5_tellStale_3 : decode cX5_tellStale 3 = .ok (.bipush 40, 2) := by decide +kernel
theorem dX5_tellStale_5 : decode cX5_tellStale 5 = .ok (.if_icmp .ge 16, 3) := by decide +kernel
theorem dX5_tellStale_8 : decode cX5_tellStale 8 = .ok (.aload_n 0, 1) := by decide +kernel
theorem dX5_tellStale_9 : decode cX5_tellStale 9 = .ok (.getfield 63, 3) := by decide +kernel
theorem dX5_tellStale_12 : decode cX5_tellStale 12 = .ok (.iload_n 1, 1) := by decide +kernel
theorem dX5_tellStale_13 : decode cX5_tellStale 13 = .ok (.iconst 0, 1) := by decide +kernel
theorem dX5_tellStale_14 : decode cX5_tellStale 14 = .ok (.bastore, 1) := by decide +kernel
theorem dX5_tellStale_15 : decode cX5_tellStale 15 = .ok (.iinc 1 1, 3) := by decide +kernel
theorem dX5_tellStale_18 : decode cX5_tellStale 18 = .ok (.goto (-16), 3) := by decide +kernel
theorem dX5_tellStale_21 : decode cX5_tellStale 21 = .ok (.iconst 1, 1) := by decide +kernel
theorem dX5_tellStale_22 : decode cX5_tellStale 22 = .ok (.istore_n 1, 1) := by decide +kernel
theorem dX5_tellStale_23 : decode cX5_tellStale 23 = .ok (.iload_n 1, 1) := by decide +kernel
theorem dX5_tellStale_24 : decode cX5_tellStale 24 = .ok (.ifCond .eq 136, 3) := by decide +kernel
theorem dX5_tellStale_27 : decode cX5_tellStale 27 = .ok (.iconst 0, 1) := by decide +kernel
theorem dX5_tellStale_28 : decode cX5_tellStale 28 = .ok (.istore_n 1, 1) := by decide +kernel
theorem dX5_tellStale_29 : decode cX5_tellStale 29 = .ok (.iconst 0, 1) := by decide +kernel
theorem dX5_tellStale_30 : decode cX5_tellStale 30 = .ok (.istore_n 2, 1) := by decide +kernel
theorem dX5_tellStale_31 : decode cX5_tellStale 31 = .ok (.iload_n 2, 1) := by decide +kernel
theorem dX5_tellStale_32 : decode cX5_tellStale 32 = .ok (.aload_n 0, 1) := by decide +kernel
theorem dX5_tellStale_33 : decode cX5_tellStale 33 = .ok (.getfield 8, 3) := by decide +kernel
theorem dX5_tellStale_36 : decode cX5_tellStale 36 = .ok (.iconst 0, 1) := by decide +kernel
theorem dX5_tellStale_37 : decode cX5_tellStale 37 = .ok (.iaload, 1) := by decide +kernel
theorem dX5_tellStale_38 : decode cX5_tellStale 38 = .ok (.if_icmp .ge 119, 3) := by decide +kernel
theorem dX5_tellStale_41 : decode cX5_tellStale 41 = .ok (.iconst 0, 1) := by decide +kernel
theorem dX5_tellStale_42 : decode cX5_tellStale 42 = .ok (.istore_n 3, 1) := by decide +kernel
theorem dX5_tellStale_43 : decode cX5_tellStale 43 = .ok (.iload_n 3, 1) := by decide +kernel
theorem dX5_tellStale_44 : decode cX5_tellStale 44 = .ok (.aload_n 0, 1) := by decide +kernel
theorem dX5_tellStale_45 : decode cX5_tellStale 45 = .ok (.getfield 8, 3) := by decide +kernel
theorem dX5_tellStale_48 : decode cX5_tellStale 48 = .ok (.iload_n 2, 1) := by decide +kernel
theorem dX5_tellStale_49 : decode cX5_tellStale 49 = .ok (.invokestatic 230, 3) := by decide +kernel
theorem dX5_tellStale_52 : decode cX5_tellStale 52 = .ok (.bipush 8, 2) := by decide +kernel
theorem dX5_tellStale_54 : decode cX5_tellStale 54 = .ok (.iadd, 1) := by decide +kernel
theorem dX5_tellStale_55 : decode cX5_tellStale 55 = .ok (.iaload, 1) := by decide +kernel
theorem dX5_tellStale_56 : decode cX5_tellStale 56 = .ok (.if_icmp .ge 95, 3) := by decide +kernel
theorem dX5_tellStale_59 : decode cX5_tellStale 59 = .ok (.aload_n 0, 1) := by decide +kernel
theorem dX5_tellStale_60 : decode cX5_tellStale 60 = .ok (.getfield 63, 3) := by decide +kernel
theorem dX5_tellStale_63 : decode cX5_tellStale 63 = .ok (.iload_n 2, 1) := by decide +kernel
theorem dX5_tellStale_64 : decode cX5_tellStale 64 = .ok (.baload, 1) := by decide +kernel
theorem dX5_tellStale_65 : decode cX5_tellStale 65 = .ok (.ifCond .ne 86, 3) := by decide +kernel
theorem dX5_tellStale_68 : decode cX5_tellStale 68 = .ok (.aload_n 0, 1) := by decide +kernel
theorem dX5_tellStale_69 : decode cX5_tellStale 69 = .ok (.getfield 8, 3) := by decide +kernel
theorem dX5_tellStale_72 : decode cX5_tellStale 72 = .ok (.iload_n 2, 1) := by decide +kernel
theorem dX5_tellStale_73 : decode cX5_tellStale 73 = .ok (.invokestatic 230, 3) := by decide +kernel
theorem dX5_tellStale_76 : decode cX5_tellStale 76 = .ok (.bipush 10, 2) := by decide +kernel
theorem dX5_tellStale_78 : decode cX5_tellStale 78 = .ok (.iadd, 1) := by decide +kernel
theorem dX5_tellStale_79 : decode cX5_tellStale 79 = .ok (.iload_n 3, 1) := by decide +kernel
theorem dX5_tellStale_80 : decode cX5_tellStale 80 = .ok (.iadd, 1) := by decide +kernel
theorem dX5_tellStale_81 : decode cX5_tellStale 81 = .ok (.iaload, 1) := by decide +kernel
theorem dX5_tellStale_82 : decode cX5_tellStale 82 = .ok (.istore 4, 2) := by decide +kernel
theorem dX5_tellStale_84 : decode cX5_tellStale 84 = .ok (.aload_n 0, 1) := by decide +kernel
theorem dX5_tellStale_85 : decode cX5_tellStale 85 = .ok (.getfield 63, 3) := by decide +kernel
theorem dX5_tellStale_88 : decode cX5_tellStale 88 = .ok (.iload_n 2, 1) := by decide +kernel
theorem dX5_tellStale_89 : decode cX5_tellStale 89 = .ok (.aload_n 0, 1) := by decide +kernel
theorem dX5_tellStale_90 : decode cX5_tellStale 90 = .ok (.aload_n 0, 1) := by decide +kernel
theorem dX5_tellStale_91 : decode cX5_tellStale 91 = .ok (.getfield 8, 3) := by decide +kernel
theorem dX5_tellStale_94 : decode cX5_tellStale 94 = .ok (.iload 4, 2) := by decide +kernel
theorem dX5_tellStale_96 : decode cX5_tellStale 96 = .ok (.invokestatic 73, 3) := by decide +kernel
theorem dX5_tellStale_99 : decode cX5_tellStale 99 = .ok (.iconst 0, 1) := by decide +kernel
theorem dX5_tellStale_100 : decode cX5_tellStale 100 = .ok (.iadd, 1) := by decide +kernel
theorem dX5_tellStale_101 : decode cX5_tellStale 101 = .ok (.iaload, 1) := by decide +kernel
theorem dX5_tellStale_102 : decode cX5_tellStale 102 = .ok (.invokevirtual 97, 3) := by decide +kernel
theorem dX5_tellStale_105 : decode cX5_tellStale 105 = .ok (.iload 4, 2) := by decide +kernel
theorem dX5_tellStale_107 : decode cX5_tellStale 107 = .ok (.if_icmp .ne 23, 3) := by decide +kernel
theorem dX5_tellStale_110 : decode cX5_tellStale 110 = .ok (.aload_n 0, 1) := by decide +kernel
theorem dX5_tellStale_111 : decode cX5_tellStale 111 = .ok (.getfield 63, 3) := by decide +kernel
theorem dX5_tellStale_114 : decode cX5_tellStale 114 = .ok (.aload_n 0, 1) := by decide +kernel
theorem dX5_tellStale_115 : decode cX5_tellStale 115 = .ok (.getfield 8, 3) := by decide +kernel
theorem dX5_tellStale_118 : decode cX5_tellStale 118 = .ok (.iload 4, 2) := by decide +kernel
theorem dX5_tellStale_120 : decode cX5_tellStale 120 = .ok (.invokestatic 73, 3) := by decide +kernel
theorem dX5_tellStale_123 : decode cX5_tellStale 123 = .ok (.iconst 2, 1) := by decide +kernel
theorem dX5_tellStale_124 : decode cX5_tellStale 124 = .ok (.iadd, 1) := by decide +kernel
theorem dX5_tellStale_125 : decode cX5_tellStale 125 = .ok (.iaload, 1) := by decide +kernel
theorem dX5_tellStale_126 : decode cX5_tellStale 126 = .ok (.baload, 1) := by decide +kernel
theorem dX5_tellStale_127 : decode cX5_tellStale 127 = .ok (.ifCond .eq 7, 3) := by decide +kernel
theorem dX5_tellStale_130 : decode cX5_tellStale 130 = .ok (.iconst 1, 1) := by decide +kernel
theorem dX5_tellStale_131 : decode cX5_tellStale 131 = .ok (.goto 4, 3) := by decide +kernel
theorem dX5_tellStale_134 : decode cX5_tellStale 134 = .ok (.iconst 0, 1) := by decide +kernel
theorem dX5_tellStale_135 : decode cX5_tellStale 135 = .ok (.bastore, 1) := by decide +kernel
theorem dX5_tellStale_136 : decode cX5_tellStale 136 = .ok (.iload_n 1, 1) := by decide +kernel
theorem dX5_tellStale_137 : decode cX5_tellStale 137 = .ok (.aload_n 0, 1) := by decide +kernel
theorem dX5_tellStale_138 : decode cX5_tellStale 138 = .ok (.getfield 63, 3) := by decide +kernel
theorem dX5_tellStale_141 : decode cX5_tellStale 141 = .ok (.iload_n 2, 1) := by decide +kernel
theorem dX5_tellStale_142 : decode cX5_tellStale 142 = .ok (.baload, 1) := by decide +kernel
theorem dX5_tellStale_143 : decode cX5_tellStale 143 = .ok (.ior, 1) := by decide +kernel
theorem dX5_tellStale_144 : decode cX5_tellStale 144 = .ok (.istore_n 1, 1) := by decide +kernel
theorem dX5_tellStale_145 : decode cX5_tellStale 145 = .ok (.iinc 3 1, 3) := by decide +kernel
theorem dX5_tellStale_148 : decode cX5_tellStale 148 = .ok (.goto (-105), 3) := by decide +kernel
theorem dX5_tellStale_151 : decode cX5_tellStale 151 = .ok (.iinc 2 1, 3) := by decide +kernel
theorem dX5_tellStale_154 : decode cX5_tellStale 154 = .ok (.goto (-123), 3) := by decide +kernel
theorem dX5_tellStale_157 : decode cX5_tellStale 157 = .ok (.goto (-134), 3) := by decide +kernel
theorem dX5_tellStale_160 : decode cX5_tellStale 160 = .ok (.return_, 1) := by decide +kernel
theorem dX5_isFree_0 : decode cX5_isFree 0 = .ok (.iconst 1, 1) := by decide +kernel
theorem dX5_isFree_1 : decode cX5_isFree 1 = .ok (.istore_n 2, 1) := by decide +kernel
theorem dX5_isFree_2 : decode cX5_isFree 2 = .ok (.iconst 0, 1) := by decide +kernel
theorem dX5_isFree_3 : decode cX5_isFree 3 = .ok (.istore_n 3, 1) := by decide +kernel
theorem dX5_isFree_4 : decode cX5_isFree 4 = .ok (.iload_n 3, 1) := by decide +kernel
theorem dX5_isFree_5 : decode cX5_isFree 5 = .ok (.aload_n 0, 1) := by decide +kernel
theorem dX5_isFree_6 : decode cX5_isFree 6 = .ok (.getfield 8, 3) := by decide +kernel
theorem dX5_isFree_9 : decode cX5_isFree 9 = .ok (.iload_n 1, 1) := by decide +kernel
theorem dX5_isFree_10 : decode cX5_isFree 10 = .ok (.invokestatic 230, 3) := by decide +kernel
theorem dX5_isFree_13 : decode cX5_isFree 13 = .ok (.bipush 8, 2) := by decide +kernel
theorem dX5_isFree_15 : decode cX5_isFree 15 = .ok (.iadd, 1) := by decide +kernel
theorem dX5_isFree_16 : decode cX5_isFree 16 = .ok (.iaload, 1) := by decide +kernel
theorem dX5_isFree_17 : decode cX5_isFree 17 = .ok (.if_icmp .ge 88, 3) := by decide +kernel
theorem dX5_isFree_20 : decode cX5_isFree 20 = .ok (.aload_n 0, 1) := by decide +kernel
theorem dX5_isFree_21 : decode cX5_isFree 21 = .ok (.aload_n 0, 1) := by decide +kernel
theorem dX5_isFree_22 : decode cX5_isFree 22 = .ok (.getfield 8, 3) := by decide +kernel
theorem dX5_isFree_25 : decode cX5_isFree 25 = .ok (.aload_n 0, 1) := by decide +kernel
theorem dX5_isFree_26 : decode cX5_isFree 26 = .ok (.getfield 8, 3) := by decide +kernel
theorem dX5_isFree_29 : decode cX5_isFree 29 = .ok (.iload_n 1, 1) := by decide +kernel
theorem dX5_isFree_30 : decode cX5_isFree 30 = .ok (.invokestatic 230, 3) := by decide +kernel
theorem dX5_isFree_33 : decode cX5_isFree 33 = .ok (.bipush 10, 2) := by decide +kernel
theorem dX5_isFree_35 : decode cX5_isFree 35 = .ok (.iadd, 1) := by decide +kernel
theorem dX5_isFree_36 : decode cX5_isFree 36 = .ok (.iload_n 3, 1) := by decide +kernel
theorem dX5_isFree_37 : decode cX5_isFree 37 = .ok (.iadd, 1) := by decide +kernel
theorem dX5_isFree_38 : decode cX5_isFree 38 = .ok (.iaload, 1) := by decide +kernel
theorem dX5_isFree_39 : decode cX5_isFree 39 = .ok (.invokestatic 73, 3) := by decide +kernel
theorem dX5_isFree_42 : decode cX5_isFree 42 = .ok (.iconst 0, 1) := by decide +kernel
theorem dX5_isFree_43 : decode cX5_isFree 43 = .ok (.iadd, 1) := by decide +kernel
theorem dX5_isFree_44 : decode cX5_isFree 44 = .ok (.iaload, 1) := by decide +kernel
theorem dX5_isFree_45 : decode cX5_isFree 45 = .ok (.invokevirtual 97, 3) := by decide +kernel
theorem dX5_isFree_48 : decode cX5_isFree 48 = .ok (.istore 4, 2) := by decide +kernel
theorem dX5_isFree_50 : decode cX5_isFree 50 = .ok (.iload_n 2, 1) := by decide +kernel
theorem dX5_isFree_51 : decode cX5_isFree 51 = .ok (.iload 4, 2) := by decide +kernel
theorem dX5_isFree_53 : decode cX5_isFree 53 = .ok (.ifCond .lt 39, 3) := by decide +kernel
theorem dX5_isFree_56 : decode cX5_isFree 56 = .ok (.aload_n 0, 1) := by decide +kernel
theorem dX5_isFree_57 : decode cX5_isFree 57 = .ok (.getfield 8, 3) := by decide +kernel
theorem dX5_isFree_60 : decode cX5_isFree 60 = .ok (.iload 4, 2) := by decide +kernel
theorem dX5_isFree_62 : decode cX5_isFree 62 = .ok (.invokestatic 73, 3) := by decide +kernel
theorem dX5_isFree_65 : decode cX5_isFree 65 = .ok (.iconst 2, 1) := by decide +kernel
theorem dX5_isFree_66 : decode cX5_isFree 66 = .ok (.iadd, 1) := by decide +kernel
theorem dX5_isFree_67 : decode cX5_isFree 67 = .ok (.iaload, 1) := by decide +kernel
theorem dX5_isFree_68 : decode cX5_isFree 68 = .ok (.iload_n 1, 1) := by decide +kernel
theorem dX5_isFree_69 : decode cX5_isFree 69 = .ok (.if_icmp .eq 23, 3) := by decide +kernel
theorem dX5_isFree_72 : decode cX5_isFree 72 = .ok (.aload_n 0, 1) := by decide +kernel
theorem dX5_isFree_73 : decode cX5_isFree 73 = .ok (.getfield 66, 3) := by decide +kernel
theorem dX5_isFree_76 : decode cX5_isFree 76 = .ok (.aload_n 0, 1) := by decide +kernel
theorem dX5_isFree_77 : decode cX5_isFree 77 = .ok (.getfield 8, 3) := by decide +kernel
theorem dX5_isFree_80 : decode cX5_isFree 80 = .ok (.iload 4, 2) := by decide +kernel
theorem dX5_isFree_82 : decode cX5_isFree 82 = .ok (.invokestatic 73, 3) := by decide +kernel
theorem dX5_isFree_85 : decode cX5_isFree 85 = .ok (.iconst 2, 1) := by decide +kernel
theorem dX5_isFree_86 : decode cX5_isFree 86 = .ok (.iadd, 1) := by decide +kernel
theorem dX5_isFree_87 : decode cX5_isFree 87 = .ok (.iaload, 1) := by decide +kernel
theorem dX5_isFree_88 : decode cX5_isFree 88 = .ok (.baload, 1) := by decide +kernel
theorem dX5_isFree_89 : decode cX5_isFree 89 = .ok (.ifCond .ne 7, 3) := by decide +kernel
theorem dX5_isFree_92 : decode cX5_isFree 92 = .ok (.iconst 1, 1) := by decide +kernel
theorem dX5_isFree_93 : decode cX5_isFree 93 = .ok (.goto 4, 3) := by decide +kernel
theorem dX5_isFree_96 : decode cX5_isFree 96 = .ok (.iconst 0, 1) := by decide +kernel
theorem dX5_isFree_97 : decode cX5_isFree 97 = .ok (.iand, 1) := by decide +kernel
theorem dX5_isFree_98 : decode cX5_isFree 98 = .ok (.istore_n 2, 1) := by decide +kernel
theorem dX5_isFree_99 : decode cX5_isFree 99 = .ok (.iinc 3 1, 3) := by decide +kernel
theorem dX5_isFree_102 : decode cX5_isFree 102 = .ok (.goto (-98), 3) := by decide +kernel
theorem dX5_isFree_105 : decode cX5_isFree 105 = .ok (.iload_n 2, 1) := by decide +kernel
theorem dX5_isFree_106 : decode cX5_isFree 106 = .ok (.ireturn, 1) := by decide +kernel
theorem dX5_rerunStale_0 : decode cX5_rerunStale 0 = .ok (.aload_n 0, 1) := by decide +kernel
theorem dX5_rerunStale_1 : decode cX5_rerunStale 1 = .ok (.invokevirtual 257, 3) := by decide +kernel
theorem dX5_rerunStale_4 : decode cX5_rerunStale 4 = .ok (.iconst 0, 1) := by decide +kernel
theorem dX5_rerunStale_5 : decode cX5_rerunStale 5 = .ok (.istore_n 1, 1) := by decide +kernel
theorem dX5_rerunStale_6 : decode cX5_rerunStale 6 = .ok (.iconst 0, 1) := by decide +kernel
theorem dX5_rerunStale_7 : decode cX5_rerunStale 7 = .ok (.istore_n 2, 1) := by decide +kernel
theorem dX5_rerunStale_8 : decode cX5_rerunStale 8 = .ok (.iload_n 2, 1) := by decide +kernel
theorem dX5_rerunStale_9 : decode cX5_rerunStale 9 = .ok (.aload_n 0, 1) := by decide +kernel
theorem dX5_rerunStale_10 : decode cX5_rerunStale 10 = .ok (.getfield 8, 3) := by decide +kernel
theorem dX5_rerunStale_13 : decode cX5_rerunStale 13 = .ok (.iconst 0, 1) := by decide +kernel
theorem dX5_rerunStale_14 : decode cX5_rerunStale 14 = .ok (.iaload, 1) := by decide +kernel
theorem dX5_rerunStale_15 : decode cX5_rerunStale 15 = .ok (.if_icmp .ge 38, 3) := by decide +kernel
theorem dX5_rerunStale_18 : decode cX5_rerunStale 18 = .ok (.aload_n 0, 1) := by decide +kernel
theorem dX5_rerunStale_19 : decode cX5_rerunStale 19 = .ok (.getfield 66, 3) := by decide +kernel
theorem dX5_rerunStale_22 : decode cX5_rerunStale 22 = .ok (.iload_n 2, 1) := by decide +kernel
theorem dX5_rerunStale_23 : decode cX5_rerunStale 23 = .ok (.aload_n 0, 1) := by decide +kernel
theorem dX5_rerunStale_24 : decode cX5_rerunStale 24 = .ok (.getfield 63, 3) := by decide +kernel
theorem dX5_rerunStale_27 : decode cX5_rerunStale 27 = .ok (.iload_n 2, 1) := by decide +kernel
theorem dX5_rerunStale_28 : decode cX5_rerunStale 28 = .ok (.baload, 1) := by decide +kernel
theorem dX5_rerunStale_29 : decode cX5_rerunStale 29 = .ok (.bastore, 1) := by decide +kernel
theorem dX5_rerunStale_30 : decode cX5_rerunStale 30 = .ok (.iload_n 1, 1) := by decide +kernel
theorem dX5_rerunStale_31 : decode cX5_rerunStale 31 = .ok (.aload_n 0, 1) := by decide +kernel
theorem dX5_rerunStale_32 : decode cX5_rerunStale 32 = .ok (.getfield 63, 3) := by decide +kernel
theorem dX5_rerunStale_35 : decode cX5_rerunStale 35 = .ok (.iload_n 2, 1) := by decide +kernel
theorem dX5_rerunStale_36 : decode cX5_rerunStale 36 = .ok (.baload, 1) := by decide +kernel
theorem dX5_rerunStale_37 : decode cX5_rerunStale 37 = .ok (.ifCond .eq 7, 3) := by decide +kernel
theorem dX5_rerunStale_40 : decode cX5_rerunStale 40 = .ok (.iconst 1, 1) := by decide +kernel
theorem dX5_rerunStale_41 : decode cX5_rerunStale 41 = .ok (.goto 4, 3) := by decide +kernel
theorem dX5_rerunStale_44 : decode cX5_rerunStale 44 = .ok (.iconst 0, 1) := by decide +kernel
theorem dX5_rerunStale_45 : decode cX5_rerunStale 45 = .ok (.iadd, 1) := by decide +kernel
theorem dX5_rerunStale_46 : decode cX5_rerunStale 46 = .ok (.istore_n 1, 1) := by decide +kernel
theorem dX5_rerunStale_47 : decode cX5_rerunStale 47 = .ok (.iinc 2 1, 3) := by decide +kernel
theorem dX5_rerunStale_50 : decode cX5_rerunStale 50 = .ok (.goto (-42), 3) := by decide +kernel
theorem dX5_rerunStale_53 : decode cX5_rerunStale 53 = .ok (.aload_n 0, 1) := by decide +kernel
theorem dX5_rerunStale_54 : decode cX5_rerunStale 54 = .ok (.getfield 8, 3) := by decide +kernel
theorem dX5_rerunStale_57 : decode cX5_rerunStale 57 = .ok (.iconst 1, 1) := by decide +kernel
theorem dX5_rerunStale_58 : decode cX5_rerunStale 58 = .ok (.iaload, 1) := by decide +kernel
theorem dX5_rerunStale_59 : decode cX5_rerunStale 59 = .ok (.iload_n 1, 1) := by decide +kernel
theorem dX5_rerunStale_60 : decode cX5_rerunStale 60 = .ok (.iadd, 1) := by decide +kernel
theorem dX5_rerunStale_61 : decode cX5_rerunStale 61 = .ok (.sipush 150, 3) := by decide +kernel
theorem dX5_rerunStale_64 : decode cX5_rerunStale 64 = .ok (.if_icmp .le 6, 3) := by decide +kernel
theorem dX5_rerunStale_67 : decode cX5_rerunStale 67 = .ok (.bipush (-2), 2) := by decide +kernel
theorem dX5_rerunStale_69 : decode cX5_rerunStale 69 = .ok (.ireturn, 1) := by decide +kernel
theorem dX5_rerunStale_70 : decode cX5_rerunStale 70 = .ok (.iconst 0, 1) := by decide +kernel
theorem dX5_rerunStale_71 : decode cX5_rerunStale 71 = .ok (.istore_n 2, 1) := by decide +kernel
theorem dX5_rerunStale_72 : decode cX5_rerunStale 72 = .ok (.iconst 0, 1) := by decide +kernel
theorem dX5_rerunStale_73 : decode cX5_rerunStale 73 = .ok (.istore_n 3, 1) := by decide +kernel
theorem dX5_rerunStale_74 : decode cX5_rerunStale 74 = .ok (.iload_n 3, 1) := by decide +kernel
theorem dX5_rerunStale_75 : decode cX5_rerunStale 75 = .ok (.iload_n 1, 1) := by decide +kernel
theorem dX5_rerunStale_76 : decode cX5_rerunStale 76 = .ok (.if_icmp .ge 125, 3) := by decide +kernel
theorem dX5_rerunStale_79 : decode cX5_rerunStale 79 = .ok (.iconst (-1), 1) := by decide +kernel
theorem dX5_rerunStale_80 : decode cX5_rerunStale 80 = .ok (.istore 4, 2) := by decide +kernel
theorem dX5_rerunStale_82 : decode cX5_rerunStale 82 = .ok (.iconst (-1), 1) := by decide +kernel
theorem dX5_rerunStale_83 : decode cX5_rerunStale 83 = .ok (.istore 5, 2) := by decide +kernel
theorem dX5_rerunStale_85 : decode cX5_rerunStale 85 = .ok (.aload_n 0, 1) := by decide +kernel
theorem dX5_rerunStale_86 : decode cX5_rerunStale 86 = .ok (.getfield 8, 3) := by decide +kernel
theorem dX5_rerunStale_89 : decode cX5_rerunStale 89 = .ok (.iconst 0, 1) := by decide +kernel
theorem dX5_rerunStale_90 : decode cX5_rerunStale 90 = .ok (.iaload, 1) := by decide +kernel
theorem dX5_rerunStale_91 : decode cX5_rerunStale 91 = .ok (.iconst 1, 1) := by decide +kernel
theorem dX5_rerunStale_92 : decode cX5_rerunStale 92 = .ok (.isub, 1) := by decide +kernel
theorem dX5_rerunStale_93 : decode cX5_rerunStale 93 = .ok (.istore 6, 2) := by decide +kernel
theorem dX5_rerunStale_95 : decode cX5_rerunStale 95 = .ok (.iload 6, 2) := by decide +kernel
theorem dX5_rerunStale_97 : decode cX5_rerunStale 97 = .ok (.ifCond .lt 56, 3) := by decide +kernel
theorem dX5_rerunStale_100 : decode cX5_rerunStale 100 = .ok (.aload_n 0, 1) := by decide +kernel
theorem dX5_rerunStale_101 : decode cX5_rerunStale 101 = .ok (.getfield 66, 3) := by decide +kernel
theorem dX5_rerunStale_104 : decode cX5_rerunStale 104 = .ok (.iload 6, 2) := by decide +kernel
theorem dX5_rerunStale_106 : decode cX5_rerunStale 106 = .ok (.baload, 1) := by decide +kernel
theorem dX5_rerunStale_107 : decode cX5_rerunStale 107 = .ok (.ifCond .eq 8, 3) := by decide +kernel
theorem dX5_rerunStale_110 : decode cX5_rerunStale 110 = .ok (.iload 6, 2) := by decide +kernel
theorem dX5_rerunStale_112 : decode cX5_rerunStale 112 = .ok (.goto 5, 3) := by decide +kernel
theorem dX5_rerunStale_115 : decode cX5_rerunStale 115 = .ok (.iload 5, 2) := by decide +kernel
theorem dX5_rerunStale_117 : decode cX5_rerunStale 117 = .ok (.istore 5, 2) := by decide +kernel
theorem dX5_rerunStale_119 : decode cX5_rerunStale 119 = .ok (.aload_n 0, 1) := by decide +kernel
theorem dX5_rerunStale_120 : decode cX5_rerunStale 120 = .ok (.getfield 66, 3) := by decide +kernel
theorem dX5_rerunStale_123 : decode cX5_rerunStale 123 = .ok (.iload 6, 2) := by decide +kernel
theorem dX5_rerunStale_125 : decode cX5_rerunStale 125 = .ok (.baload, 1) := by decide +kernel
theorem dX5_rerunStale_126 : decode cX5_rerunStale 126 = .ok (.ifCond .eq 17, 3) := by decide +kernel
theorem dX5_rerunStale_129 : decode cX5_rerunStale 129 = .ok (.aload_n 0, 1) := by decide +kernel
theorem dX5_rerunStale_130 : decode cX5_rerunStale 130 = .ok (.iload 6, 2) := by decide +kernel
theorem dX5_rerunStale_132 : decode cX5_rerunStale 132 = .ok (.invokevirtual 260, 3) := by decide +kernel
theorem dX5_rerunStale_135 : decode cX5_rerunStale 135 = .ok (.ifCond .eq 8, 3) := by decide +kernel
theorem dX5_rerunStale_138 : decode cX5_rerunStale 138 = .ok (.iload 6, 2) := by decide +kernel
theorem dX5_rerunStale_140 : decode cX5_rerunStale 140 = .ok (.goto 5, 3) := by decide +kernel
theorem dX5_rerunStale_143 : decode cX5_rerunStale 143 = .ok (.iload 4, 2) := by decide +kernel
theorem dX5_rerunStale_145 : decode cX5_rerunStale 145 = .ok (.istore 4, 2) := by decide +kernel
theorem dX5_rerunStale_147 : decode cX5_rerunStale 147 = .ok (.iinc 6 (-1), 3) := by decide +kernel
theorem dX5_rerunStale_150 : decode cX5_rerunStale 150 = .ok (.goto (-55), 3) := by decide +kernel
theorem dX5_rerunStale_153 : decode cX5_rerunStale 153 = .ok (.iload 4, 2) := by decide +kernel
theorem dX5_rerunStale_155 : decode cX5_rerunStale 155 = .ok (.ifCond .ge 8, 3) := by decide +kernel
theorem dX5_rerunStale_158 : decode cX5_rerunStale 158 = .ok (.iload 5, 2) := by decide +kernel
theorem dX5_rerunStale_160 : decode cX5_rerunStale 160 = .ok (.goto 5, 3) := by decide +kernel
theorem dX5_rerunStale_163 : decode cX5_rerunStale 163 = .ok (.iload 4, 2) := by decide +kernel
theorem dX5_rerunStale_165 : decode cX5_rerunStale 165 = .ok (.istore 4, 2) := by decide +kernel
theorem dX5_rerunStale_167 : decode cX5_rerunStale 167 = .ok (.aload_n 0, 1) := by decide +kernel
theorem dX5_rerunStale_168 : decode cX5_rerunStale 168 = .ok (.getfield 66, 3) := by decide +kernel
theorem dX5_rerunStale_171 : decode cX5_rerunStale 171 = .ok (.iload 4, 2) := by decide +kernel
theorem dX5_rerunStale_173 : decode cX5_rerunStale 173 = .ok (.iconst 0, 1) := by decide +kernel
theorem dX5_rerunStale_174 : decode cX5_rerunStale 174 = .ok (.bastore, 1) := by decide +kernel
theorem dX5_rerunStale_175 : decode cX5_rerunStale 175 = .ok (.aload_n 0, 1) := by decide +kernel
theorem dX5_rerunStale_176 : decode cX5_rerunStale 176 = .ok (.iload 4, 2) := by decide +kernel
theorem dX5_rerunStale_178 : decode cX5_rerunStale 178 = .ok (.invokevirtual 254, 3) := by decide +kernel
theorem dX5_rerunStale_181 : decode cX5_rerunStale 181 = .ok (.ifCond .ge 14, 3) := by decide +kernel
theorem dX5_rerunStale_184 : decode cX5_rerunStale 184 = .ok (.aload_n 0, 1) := by decide +kernel
theorem dX5_rerunStale_185 : decode cX5_rerunStale 185 = .ok (.iload 4, 2) := by decide +kernel
theorem dX5_rerunStale_187 : decode cX5_rerunStale 187 = .ok (.invokevirtual 248, 3) := by decide +kernel
theorem dX5_rerunStale_190 : decode cX5_rerunStale 190 = .ok (.istore 6, 2) := by decide +kernel
theorem dX5_rerunStale_192 : decode cX5_rerunStale 192 = .ok (.iinc 2 1, 3) := by decide +kernel
theorem dX5_rerunStale_195 : decode cX5_rerunStale 195 = .ok (.iinc 3 1, 3) := by decide +kernel
theorem dX5_rerunStale_198 : decode cX5_rerunStale 198 = .ok (.goto (-124), 3) := by decide +kernel
theorem dX5_rerunStale_201 : decode cX5_rerunStale 201 = .ok (.iload_n 2, 1) := by decide +kernel
theorem dX5_rerunStale_202 : decode cX5_rerunStale 202 = .ok (.ireturn, 1) := by decide +kernel
theorem dX5_forget_0 : decode cX5_forget 0 = .ok (.iload_n 1, 1) := by decide +kernel
theorem dX5_forget_1 : decode cX5_forget 1 = .ok (.invokestatic 77, 3) := by decide +kernel
theorem dX5_forget_4 : decode cX5_forget 4 = .ok (.ifCond .ne 5, 3) := by decide +kernel
theorem dX5_forget_7 : decode cX5_forget 7 = .ok (.iconst (-1), 1) := by decide +kernel
theorem dX5_forget_8 : decode cX5_forget 8 = .ok (.ireturn, 1) := by decide +kernel
theorem dX5_forget_9 : decode cX5_forget 9 = .ok (.aload_n 0, 1) := by decide +kernel
theorem dX5_forget_10 : decode cX5_forget 10 = .ok (.iload_n 1, 1) := by decide +kernel
theorem dX5_forget_11 : decode cX5_forget 11 = .ok (.invokevirtual 97, 3) := by decide +kernel
theorem dX5_forget_14 : decode cX5_forget 14 = .ok (.ifCond .ge 7, 3) := by decide +kernel
theorem dX5_forget_17 : decode cX5_forget 17 = .ok (.iconst 0, 1) := by decide +kernel
theorem dX5_forget_18 : decode cX5_forget 18 = .ok (.goto 4, 3) := by decide +kernel
theorem dX5_forget_21 : decode cX5_forget 21 = .ok (.iconst 1, 1) := by decide +kernel
theorem dX5_forget_22 : decode cX5_forget 22 = .ok (.istore_n 2, 1) := by decide +kernel
theorem dX5_forget_23 : decode cX5_forget 23 = .ok (.aload_n 0, 1) := by decide +kernel
theorem dX5_forget_24 : decode cX5_forget 24 = .ok (.getfield 8, 3) := by decide +kernel
theorem dX5_forget_27 : decode cX5_forget 27 = .ok (.iconst 4, 1) := by decide +kernel
theorem dX5_forget_28 : decode cX5_forget 28 = .ok (.iload_n 1, 1) := by decide +kernel
theorem dX5_forget_29 : decode cX5_forget 29 = .ok (.iadd, 1) := by decide +kernel
theorem dX5_forget_30 : decode cX5_forget 30 = .ok (.iconst 0, 1) := by decide +kernel
theorem dX5_forget_31 : decode cX5_forget 31 = .ok (.iastore, 1) := by decide +kernel
theorem dX5_forget_32 : decode cX5_forget 32 = .ok (.iload_n 2, 1) := by decide +kernel
theorem dX5_forget_33 : decode cX5_forget 33 = .ok (.ireturn, 1) := by decide +kernel
theorem dX5_of_0 : decode cX5_of 0 = .ok (.aload_n 0, 1) := by decide +kernel
theorem dX5_of_1 : decode cX5_of 1 = .ok (.iload_n 1, 1) := by decide +kernel
theorem dX5_of_2 : decode cX5_of 2 = .ok (.invokevirtual 251, 3) := by decide +kernel
theorem dX5_of_5 : decode cX5_of 5 = .ok (.ifCond .ne 6, 3) := by decide +kernel
theorem dX5_of_8 : decode cX5_of 8 = .ok (.bipush (-3), 2) := by decide +kernel
theorem dX5_of_10 : decode cX5_of 10 = .ok (.ireturn, 1) := by decide +kernel
theorem dX5_of_11 : decode cX5_of 11 = .ok (.iload_n 1, 1) := by decide +kernel
theorem dX5_of_12 : decode cX5_of 12 = .ok (.invokestatic 230, 3) := by decide +kernel
theorem dX5_of_15 : decode cX5_of 15 = .ok (.istore_n 3, 1) := by decide +kernel
theorem dX5_of_16 : decode cX5_of 16 = .ok (.iload_n 2, 1) := by decide +kernel
theorem dX5_of_17 : decode cX5_of 17 = .ok (.tableswitch 137 0 8 #[51, 60, 69, 78, 88, 100, 109, 118, 128], 51) := by decide +kernel
theorem dX5_of_68 : decode cX5_of 68 = .ok (.aload_n 0, 1) := by decide +kernel
theorem dX5_of_69 : decode cX5_of 69 = .ok (.getfield 8, 3) := by decide +kernel
theorem dX5_of_72 : decode cX5_of 72 = .ok (.iload_n 3, 1) := by decide +kernel
theorem dX5_of_73 : decode cX5_of 73 = .ok (.iconst 3, 1) := by decide +kernel
theorem dX5_of_74 : decode cX5_of 74 = .ok (.iadd, 1) := by decide +kernel
theorem dX5_of_75 : decode cX5_of 75 = .ok (.iaload, 1) := by decide +kernel
theorem dX5_of_76 : decode cX5_of 76 = .ok (.ireturn, 1) := by decide +kernel
theorem dX5_of_77 : decode cX5_of 77 = .ok (.aload_n 0, 1) := by decide +kernel
theorem dX5_of_78 : decode cX5_of 78 = .ok (.getfield 8, 3) := by decide +kernel
theorem dX5_of_81 : decode cX5_of 81 = .ok (.iload_n 3, 1) := by decide +kernel
theorem dX5_of_82 : decode cX5_of 82 = .ok (.iconst 4, 1) := by decide +kernel
theorem dX5_of_83 : decode cX5_of 83 = .ok (.iadd, 1) := by decide +kernel
theorem dX5_of_84 : decode cX5_of 84 = .ok (.iaload, 1) := by decide +kernel
theorem dX5_of_85 : decode cX5_of 85 = .ok (.ireturn, 1) := by decide +kernel
theorem dX5_of_86 : decode cX5_of 86 = .ok (.aload_n 0, 1) := by decide +kernel
theorem dX5_of_87 : decode cX5_of 87 = .ok (.getfield 8, 3) := by decide +kernel
theorem dX5_of_90 : decode cX5_of 90 = .ok (.iload_n 3, 1) := by decide +kernel
theorem dX5_of_91 : decode cX5_of 91 = .ok (.iconst 5, 1) := by decide +kernel
theorem dX5_of_92 : decode cX5_of 92 = .ok (.iadd, 1) := by decide +kernel
theorem dX5_of_93 : decode cX5_of 93 = .ok (.iaload, 1) := by decide +kernel
theorem dX5_of_94 : decode cX5_of 94 = .ok (.ireturn, 1) := by decide +kernel
theorem dX5_of_95 : decode cX5_of 95 = .ok (.aload_n 0, 1) := by decide +kernel
theorem dX5_of_96 : decode cX5_of 96 = .ok (.getfield 8, 3) := by decide +kernel
theorem dX5_of_99 : decode cX5_of 99 = .ok (.iload_n 3, 1) := by decide +kernel
theorem dX5_of_100 : decode cX5_of 100 = .ok (.bipush 6, 2) := by decide +kernel
theorem dX5_of_102 : decode cX5_of 102 = .ok (.iadd, 1) := by decide +kernel
theorem dX5_of_103 : decode cX5_of 103 = .ok (.iaload, 1) := by decide +kernel
theorem dX5_of_104 : decode cX5_of 104 = .ok (.ireturn, 1) := by decide +kernel
theorem dX5_of_105 : decode cX5_of 105 = .ok (.aload_n 0, 1) := by decide +kernel
theorem dX5_of_106 : decode cX5_of 106 = .ok (.getfield 8, 3) := by decide +kernel
theorem dX5_of_109 : decode cX5_of 109 = .ok (.iload_n 3, 1) := by decide +kernel
theorem dX5_of_110 : decode cX5_of 110 = .ok (.bipush 7, 2) := by decide +kernel
theorem dX5_of_112 : decode cX5_of 112 = .ok (.iadd, 1) := by decide +kernel
theorem dX5_of_113 : decode cX5_of 113 = .ok (.iaload, 1) := by decide +kernel
theorem dX5_of_114 : decode cX5_of 114 = .ok (.iconst 1, 1) := by decide +kernel
theorem dX5_of_115 : decode cX5_of 115 = .ok (.isub, 1) := by decide +kernel
theorem dX5_of_116 : decode cX5_of 116 = .ok (.ireturn, 1) := by decide +kernel
theorem dX5_of_117 : decode cX5_of 117 = .ok (.aload_n 0, 1) := by decide +kernel
theorem dX5_of_118 : decode cX5_of 118 = .ok (.getfield 8, 3) := by decide +kernel
theorem dX5_of_121 : decode cX5_of 121 = .ok (.iload_n 3, 1) := by decide +kernel
theorem dX5_of_122 : decode cX5_of 122 = .ok (.iconst 0, 1) := by decide +kernel
theorem dX5_of_123 : decode cX5_of 123 = .ok (.iadd, 1) := by decide +kernel
theorem dX5_of_124 : decode cX5_of 124 = .ok (.iaload, 1) := by decide +kernel
theorem dX5_of_125 : decode cX5_of 125 = .ok (.ireturn, 1) := by decide +kernel
theorem dX5_of_126 : decode cX5_of 126 = .ok (.aload_n 0, 1) := by decide +kernel
theorem dX5_of_127 : decode cX5_of 127 = .ok (.getfield 8, 3) := by decide +kernel
theorem dX5_of_130 : decode cX5_of 130 = .ok (.iload_n 3, 1) := by decide +kernel
theorem dX5_of_131 : decode cX5_of 131 = .ok (.iconst 1, 1) := by decide +kernel
theorem dX5_of_132 : decode cX5_of 132 = .ok (.iadd, 1) := by decide +kernel
theorem dX5_of_133 : decode cX5_of 133 = .ok (.iaload, 1) := by decide +kernel
theorem dX5_of_134 : decode cX5_of 134 = .ok (.ireturn, 1) := by decide +kernel
theorem dX5_of_135 : decode cX5_of 135 = .ok (.aload_n 0, 1) := by decide +kernel
theorem dX5_of_136 : decode cX5_of 136 = .ok (.getfield 8, 3) := by decide +kernel
theorem dX5_of_139 : decode cX5_of 139 = .ok (.iload_n 3, 1) := by decide +kernel
theorem dX5_of_140 : decode cX5_of 140 = .ok (.bipush 8, 2) := by decide +kernel
theorem dX5_of_142 : decode cX5_of 142 = .ok (.iadd, 1) := by decide +kernel
theorem dX5_of_143 : decode cX5_of 143 = .ok (.iaload, 1) := by decide +kernel
theorem dX5_of_144 : decode cX5_of 144 = .ok (.ireturn, 1) := by decide +kernel
theorem dX5_of_145 : decode cX5_of 145 = .ok (.aload_n 0, 1) := by decide +kernel
theorem dX5_of_146 : decode cX5_of 146 = .ok (.getfield 8, 3) := by decide +kernel
theorem dX5_of_149 : decode cX5_of 149 = .ok (.iload_n 3, 1) := by decide +kernel
theorem dX5_of_150 : decode cX5_of 150 = .ok (.iconst 2, 1) := by decide +kernel
theorem dX5_of_151 : decode cX5_of 151 = .ok (.iadd, 1) := by decide +kernel
theorem dX5_of_152 : decode cX5_of 152 = .ok (.iaload, 1) := by decide +kernel
theorem dX5_of_153 : decode cX5_of 153 = .ok (.ireturn, 1) := by decide +kernel
theorem dX5_of_154 : decode cX5_of 154 = .ok (.bipush (-3), 2) := by decide +kernel
theorem dX5_of_156 : decode cX5_of 156 = .ok (.ireturn, 1) := by decide +kernel
theorem dX5_leans_0 : decode cX5_leans 0 = .ok (.aload_n 0, 1) := by decide +kernel
theorem dX5_leans_1 : decode cX5_leans 1 = .ok (.iload_n 1, 1) := by decide +kernel
theorem dX5_leans_2 : decode cX5_leans 2 = .ok (.invokevirtual 251, 3) := by decide +kernel
theorem dX5_leans_5 : decode cX5_leans 5 = .ok (.ifCond .eq 23, 3) := by decide +kernel
theorem dX5_leans_8 : decode cX5_leans 8 = .ok (.iload_n 2, 1) := by decide +kernel
theorem dX5_leans_9 : decode cX5_leans 9 = .ok (.ifCond .lt 19, 3) := by decide +kernel
theorem dX5_leans_12 : decode cX5_leans 12 = .ok (.iload_n 2, 1) := by decide +kernel
theorem dX5_leans_13 : decode cX5_leans 13 = .ok (.aload_n 0, 1) := by decide +kernel
theorem dX5_leans_14 : decode cX5_leans 14 = .ok (.getfield 8, 3) := by decide +kernel
theorem dX5_leans_17 : decode cX5_leans 17 = .ok (.iload_n 1, 1) := by decide +kernel
theorem dX5_leans_18 : decode cX5_leans 18 = .ok (.invokestatic 230, 3) := by decide +kernel
theorem dX5_leans_21 : decode cX5_leans 21 = .ok (.bipush 8, 2) := by decide +kernel
theorem dX5_leans_23 : decode cX5_leans 23 = .ok (.iadd, 1) := by decide +kernel
theorem dX5_leans_24 : decode cX5_leans 24 = .ok (.iaload, 1) := by decide +kernel
theorem dX5_leans_25 : decode cX5_leans 25 = .ok (.if_icmp .lt 7, 3) := by decide +kernel
theorem dX5_leans_28 : decode cX5_leans 28 = .ok (.iconst (-1), 1) := by decide +kernel
theorem dX5_leans_29 : decode cX5_leans 29 = .ok (.goto 17, 3) := by decide +kernel
theorem dX5_leans_32 : decode cX5_leans 32 = .ok (.aload_n 0, 1) := by decide +kernel
theorem dX5_leans_33 : decode cX5_leans 33 = .ok (.getfield 8, 3) := by decide +kernel
theorem dX5_leans_36 : decode cX5_leans 36 = .ok (.iload_n 1, 1) := by decide +kernel
theorem dX5_leans_37 : decode cX5_leans 37 = .ok (.invokestatic 230, 3) := by decide +kernel
theorem dX5_leans_40 : decode cX5_leans 40 = .ok (.bipush 10, 2) := by decide +kernel
theorem dX5_leans_42 : decode cX5_leans 42 = .ok (.iadd, 1) := by decide +kernel
theorem dX5_leans_43 : decode cX5_leans 43 = .ok (.iload_n 2, 1) := by decide +kernel
theorem dX5_leans_44 : decode cX5_leans 44 = .ok (.iadd, 1) := by decide +kernel
theorem dX5_leans_45 : decode cX5_leans 45 = .ok (.iaload, 1) := by decide +kernel
theorem dX5_leans_46 : decode cX5_leans 46 = .ok (.ireturn, 1) := by decide +kernel
theorem dX5_stale_0 : decode cX5_stale 0 = .ok (.aload_n 0, 1) := by decide +kernel
theorem dX5_stale_1 : decode cX5_stale 1 = .ok (.invokevirtual 257, 3) := by decide +kernel
theorem dX5_stale_4 : decode cX5_stale 4 = .ok (.aload_n 0, 1) := by decide +kernel
theorem dX5_stale_5 : decode cX5_stale 5 = .ok (.iload_n 1, 1) := by decide +kernel
theorem dX5_stale_6 : decode cX5_stale 6 = .ok (.invokevirtual 251, 3) := by decide +kernel
theorem dX5_stale_9 : decode cX5_stale 9 = .ok (.ifCond .eq 16, 3) := by decide +kernel
theorem dX5_stale_12 : decode cX5_stale 12 = .ok (.aload_n 0, 1) := by decide +kernel
theorem dX5_stale_13 : decode cX5_stale 13 = .ok (.getfield 63, 3) := by decide +kernel
theorem dX5_stale_16 : decode cX5_stale 16 = .ok (.iload_n 1, 1) := by decide +kernel
theorem dX5_stale_17 : decode cX5_stale 17 = .ok (.baload, 1) := by decide +kernel
theorem dX5_stale_18 : decode cX5_stale 18 = .ok (.ifCond .eq 7, 3) := by decide +kernel
theorem dX5_stale_21 : decode cX5_stale 21 = .ok (.iconst 1, 1) := by decide +kernel
theorem dX5_stale_22 : decode cX5_stale 22 = .ok (.goto 4, 3) := by decide +kernel
theorem dX5_stale_25 : decode cX5_stale 25 = .ok (.iconst 0, 1) := by decide +kernel
theorem dX5_stale_26 : decode cX5_stale 26 = .ok (.ireturn, 1) := by decide +kernel
section RM
variable {ρ : Type} {p : Program} {l : Launch} {e : Env} {R : Room} {s : State} {m : MethodId} {args : Array Value} {below : List Frame} {meth : Method} {c : Code}
variable {cc : ByteArray} {nL : Nat} {rt : Option FieldType} {D : va_G} {cI cZ : ClassId} {q : Nat → Nat} {QQ : ρ → State → Prop} {pc : Nat} {lv : List (Nat × Value)}

-- rerun
def fR_rerun (n : Nat) (x1 : Int32) (M : MR) : Option (Int32 × MR) :=
    bnd (fR_isCell n x1 M) fun v1 M1 =>
    if v1 = 0 then
      (some ((-1 : Int32), M1))
    else
      (rd M1 0 62610 (nI 1) fun v2 =>
      if v2 = (nI 150) then
        (some ((-2 : Int32), M1))
      else
        (bnd (fR_lookAtCell n x1 M1) fun v3 M3 =>
        if v3 < 0 then
          (bnd (fR_run n x1 M3) fun v4 M4 =>
          some (v4, M4))
        else
          (some (((-100 : Int32) - v3), M3))))
theorem c_rerun (l : Launch) (D : va_G) (cI cZ : ClassId) (q : Nat → Nat) (n : Nat) (x1 : Int32) (M : MR) : MetR l D cI cZ q yX5_rerun cX5_rerun 3 (some .int) 10 231 QI [.ref (q 34), .int x1] M (fR_rerun n x1 M) := by
  refine MetR.of (by decide) rfl (Nat.le_of_ble_eq_true rfl) ?_
  intro p e s m args below meth c X
  unfold fR_rerun
  refine g_pick (lv' := [(0, .ref (q 34)), (1, .int x1)]) [0, 1] rfl ?_
  refine g_aload_n X dX5_rerun_0 rfl rfl ?_
  refine g_iload_n X dX5_rerun_1 rfl rfl ?_
  refine k_isCell X ⟨Nat.le_of_ble_eq_true rfl, Nat.le_of_ble_eq_true rfl⟩ (Nat.le_of_ble_eq_true rfl) dX5_rerun_2 ?_
  intro v1 M1
  refine g_if_ne (tgt := 10) X dX5_rerun_5 (by decide) ?_ ?_
  · refine g_aload_n X dX5_rerun_10 rfl rfl ?_
    refine r_g_m X dX5_rerun_11 ?_
    refine g_iconst (v := (nI 1)) X dX5_rerun_14 (by decide) ?_
    refine r_l_m X dX5_rerun_15 ?_
    intro v2
    refine g_sipush (v := (nI 150)) X dX5_rerun_16 (by decide) ?_
    refine g_icmp_ne (tgt := 25) X dX5_rerun_19 (by decide) ?_ ?_
    · refine g_aload_n X dX5_rerun_25 rfl rfl ?_
      refine g_iload_n X dX5_rerun_26 rfl rfl ?_
      refine k_lookAtCell X ⟨Nat.le_of_ble_eq_true rfl, Nat.le_of_ble_eq_true rfl⟩ (Nat.le_of_ble_eq_true rfl) dX5_rerun_27 ?_
      intro v3 M3
      refine g_istore_n (lv' := [(2, .int v3), (0, .ref (q 34)), (1, .int x1)]) X dX5_rerun_30 rfl (by decide) rfl ?_
      refine g_iload_n X dX5_rerun_31 rfl rfl ?_
      refine g_if_lt (tgt := 42) X dX5_rerun_32 (by decide) ?_ ?_
      · refine g_aload_n X dX5_rerun_42 rfl rfl ?_
        refine g_iload_n X dX5_rerun_43 rfl rfl ?_
        refine k_run X ⟨Nat.le_of_ble_eq_true rfl, Nat.le_of_ble_eq_true rfl⟩ (Nat.le_of_ble_eq_true rfl) dX5_rerun_44 ?_
        intro v4 M4
        exact r_iret X dX5_rerun_47
      · refine g_bipush (v := (-100 : Int32)) X dX5_rerun_35 (by decide) ?_
        refine g_iload_n X dX5_rerun_37 rfl rfl ?_
        refine g_isub X dX5_rerun_38 ?_
        refine g_goto (tgt := 47) X dX5_rerun_39 (by decide) ?_
        exact r_iret X dX5_rerun_47
    · refine g_bipush (v := (-2 : Int32)) X dX5_rerun_22 (by decide) ?_
      exact r_iret X dX5_rerun_24
  · refine g_iconst (v := (-1 : Int32)) X dX5_rerun_8 (by decide) ?_
    exact r_iret X dX5_rerun_9
-- tellStale
def fR_tellStale_b135 (n : Nat) (k23 : Int32 → MR → Option (Int32 × MR)) (k31 : Int32 → Int32 → MR → Option (Int32 × MR)) (k43 : Int32 → Int32 → Int32 → MR → Option (Int32 × MR)) (x1 : Int32) (x2 : Int32) (x3 : Int32) (s0 : Int32) (s1 : Int32) (M : MR) : Option (Int32 × MR) :=
    wz M 28 40 s0 s1 fun M1 =>
    rd M1 28 40 x2 fun v2 =>
    k43 (x1 ||| v2) x2 (x3 + (nI 1)) M1
theorem wR_tellStale_b135 (X : gX p s m args meth c cX5_tellStale 5 RX5 none D (tyR cI cZ)) (n : Nat) (k23 : Int32 → MR → Option (Int32 × MR)) (k31 : Int32 → Int32 → MR → Option (Int32 × MR)) (k43 : Int32 → Int32 → Int32 → MR → Option (Int32 × MR)) (hk23 : ∀ (x1 : Int32) (M : MR), gG p l e (rmR 2 41) s m args below meth c 5 (ZR D cI cZ q (AR q s.heap.size) s.heap M) 0 0 (fun r => MQ below (QV D cI cZ q s.heap.size r) args s 0 0 (AR q s.heap.size)) 23 [(0, .ref (q 34)), (1, .int x1)] [] (k23 x1 M)) (hk31 : ∀ (x1 : Int32) (x2 : Int32) (M : MR), gG p l e (rmR 2 41) s m args below meth c 5 (ZR D cI cZ q (AR q s.heap.size) s.heap M) 0 0 (fun r => MQ below (QV D cI cZ q s.heap.size r) args s 0 0 (AR q s.heap.size)) 31 [(0, .ref (q 34)), (1, .int x1), (2, .int x2)] [] (k31 x1 x2 M)) (hk43 : ∀ (x1 : Int32) (x2 : Int32) (x3 : Int32) (M : MR), gG p l e (rmR 2 41) s m args below meth c 5 (ZR D cI cZ q (AR q s.heap.size) s.heap M) 0 0 (fun r => MQ below (QV D cI cZ q s.heap.size r) args s 0 0 (AR q s.heap.size)) 43 [(0, .ref (q 34)), (1, .int x1), (2, .int x2), (3, .int x3)] [] (k43 x1 x2 x3 M)) (x1 : Int32) (x2 : Int32) (x3 : Int32) (s0 : Int32) (s1 : Int32) (M : MR) : gG p l e (rmR 2 41) s m args below meth c 5 (ZR D cI cZ q (AR q s.heap.size) s.heap M) 0 0 (fun r => MQ below (QV D cI cZ q s.heap.size r) args s 0 0 (AR q s.heap.size)) 135 [(0, .ref (q 34)), (1, .int x1), (2, .int x2), (3, .int x3)] [.int s1, .int s0, .ref (q 28)] (fR_tellStale_b135 n k23 k31 k43 x1 x2 x3 s0 s1 M) := by
  unfold fR_tellStale_b135
  refine r_s_isStale X dX5_tellStale_135 ?_
  intro M1
  refine g_iload_n X dX5_tellStale_136 rfl rfl ?_
  refine g_aload_n X dX5_tellStale_137 rfl rfl ?_
  refine r_g_isStale X dX5_tellStale_138 ?_
  refine g_iload_n X dX5_tellStale_141 rfl rfl ?_
  refine r_l_isStale X dX5_tellStale_142 ?_
  intro v2
  refine g_ior X dX5_tellStale_143 ?_
  refine g_istore_n (lv' := [(1, .int (x1 ||| v2)), (0, .ref (q 34)), (2, .int x2), (3, .int x3)]) X dX5_tellStale_144 rfl (by decide) rfl ?_
  refine g_iinc (v := (nI 1)) (lv' := [(3, .int (x3 + (nI 1))), (1, .int (x1 ||| v2)), (0, .ref (q 34)), (2, .int x2)]) X dX5_tellStale_145 rfl (by decide) (by decide) rfl ?_
  refine g_goto (tgt := 43) X dX5_tellStale_148 (by decide) ?_
  exact g_pick [2, 1, 3, 0] rfl (hk43 (x1 ||| v2) x2 (x3 + (nI 1)) M1)
def fR_tellStale_b130 (n : Nat) (k23 : Int32 → MR → Option (Int32 × MR)) (k31 : Int32 → Int32 → MR → Option (Int32 × MR)) (k43 : Int32 → Int32 → Int32 → MR → Option (Int32 × MR)) (x1 : Int32) (x2 : Int32) (x3 : Int32) (s0 : Int32) (M : MR) : Option (Int32 × MR) :=
    fR_tellStale_b135 n k23 k31 k43 x1 x2 x3 s0 (nI 1) M
theorem wR_tellStale_b130 (X : gX p s m args meth c cX5_tellStale 5 RX5 none D (tyR cI cZ)) (n : Nat) (k23 : Int32 → MR → Option (Int32 × MR)) (k31 : Int32 → Int32 → MR → Option (Int32 × MR)) (k43 : Int32 → Int32 → Int32 → MR → Option (Int32 × MR)) (hk23 : ∀ (x1 : Int32) (M : MR), gG p l e (rmR 2 41) s m args below meth c 5 (ZR D cI cZ q (AR q s.heap.size) s.heap M) 0 0 (fun r => MQ below (QV D cI cZ q s.heap.size r) args s 0 0 (AR q s.heap.size)) 23 [(0, .ref (q 34)), (1, .int x1)] [] (k23 x1 M)) (hk31 : ∀ (x1 : Int32) (x2 : Int32) (M : MR), gG p l e (rmR 2 41) s m args below meth c 5 (ZR D cI cZ q (AR q s.heap.size) s.heap M) 0 0 (fun r => MQ below (QV D cI cZ q s.heap.size r) args s 0 0 (AR q s.heap.size)) 31 [(0, .ref (q 34)), (1, .int x1), (2, .int x2)] [] (k31 x1 x2 M)) (hk43 : ∀ (x1 : Int32) (x2 : Int32) (x3 : Int32) (M : MR), gG p l e (rmR 2 41) s m args below meth c 5 (ZR D cI cZ q (AR q s.heap.size) s.heap M) 0 0 (fun r => MQ below (QV D cI cZ q s.heap.size r) args s 0 0 (AR q s.heap.size)) 43 [(0, .ref (q 34)), (1, .int x1), (2, .int x2), (3, .int x3)] [] (k43 x1 x2 x3 M)) (x1 : Int32) (x2 : Int32) (x3 : Int32) (s0 : Int32) (M : MR) : gG p l e (rmR 2 41) s m args below meth c 5 (ZR D cI cZ q (AR q s.heap.size) s.heap M) 0 0 (fun r => MQ below (QV D cI cZ q s.heap.size r) args s 0 0 (AR q s.heap.size)) 130 [(0, .ref (q 34)), (1, .int x1), (2, .int x2), (3, .int x3)] [.int s0, .ref (q 28)] (fR_tellStale_b130 n k23 k31 k43 x1 x2 x3 s0 M) := by
  unfold fR_tellStale_b130
  refine g_iconst (v := (nI 1)) X dX5_tellStale_130 (by decide) ?_
  refine g_goto (tgt := 135) X dX5_tellStale_131 (by decide) ?_
  exact g_pick [0, 1, 2, 3] rfl (wR_tellStale_b135 X n k23 k31 k43 hk23 hk31 hk43 x1 x2 x3 s0 (nI 1) M)
def fR_tellStale_b151 (n : Nat) (k23 : Int32 → MR → Option (Int32 × MR)) (k31 : Int32 → Int32 → MR → Option (Int32 × MR)) (x1 : Int32) (x2 : Int32) (M : MR) : Option (Int32 × MR) :=
    k31 x1 (x2 + (nI 1)) M
theorem wR_tellStale_b151 (X : gX p s m args meth c cX5_tellStale 5 RX5 none D (tyR cI cZ)) (n : Nat) (k23 : Int32 → MR → Option (Int32 × MR)) (k31 : Int32 → Int32 → MR → Option (Int32 × MR)) (hk23 : ∀ (x1 : Int32) (M : MR), gG p l e (rmR 2 41) s m args below meth c 5 (ZR D cI cZ q (AR q s.heap.size) s.heap M) 0 0 (fun r => MQ below (QV D cI cZ q s.heap.size r) args s 0 0 (AR q s.heap.size)) 23 [(0, .ref (q 34)), (1, .int x1)] [] (k23 x1 M)) (hk31 : ∀ (x1 : Int32) (x2 : Int32) (M : MR), gG p l e (rmR 2 41) s m args below meth c 5 (ZR D cI cZ q (AR q s.heap.size) s.heap M) 0 0 (fun r => MQ below (QV D cI cZ q s.heap.size r) args s 0 0 (AR q s.heap.size)) 31 [(0, .ref (q 34)), (1, .int x1), (2, .int x2)] [] (k31 x1 x2 M)) (x1 : Int32) (x2 : Int32) (M : MR) : gG p l e (rmR 2 41) s m args below meth c 5 (ZR D cI cZ q (AR q s.heap.size) s.heap M) 0 0 (fun r => MQ below (QV D cI cZ q s.heap.size r) args s 0 0 (AR q s.heap.size)) 151 [(0, .ref (q 34)), (1, .int x1), (2, .int x2)] [] (fR_tellStale_b151 n k23 k31 x1 x2 M) := by
  unfold fR_tellStale_b151
  refine g_iinc (v := (nI 1)) (lv' := [(2, .int (x2 + (nI 1))), (0, .ref (q 34)), (1, .int x1)]) X dX5_tellStale_151 rfl (by decide) (by decide) rfl ?_
  refine g_goto (tgt := 31) X dX5_tellStale_154 (by decide) ?_
  exact g_pick [1, 2, 0] rfl (hk31 x1 (x2 + (nI 1)) M)
def fR_tellStale_l43 (n : Nat) (k23 : Int32 → MR → Option (Int32 × MR)) (k31 : Int32 → Int32 → MR → Option (Int32 × MR)) : Nat → Int32 → Int32 → Int32 → MR → Option (Int32 × MR)
  | 0, _, _, _, _ => none
  | k + 1, x1, x2, x3, M => bnd (fR_cellAt n x2 M) fun v1 M1 =>
    rd M1 0 62610 (v1 + (nI 8)) fun v2 =>
    if v2 ≤ x3 then
      (fR_tellStale_b151 n k23 k31 x1 x2 M1)
    else
      (rd M1 28 40 x2 fun v3 =>
      if v3 = 0 then
        (bnd (fR_cellAt n x2 M1) fun v4 M4 =>
        rd M4 0 62610 ((v4 + (nI 10)) + x3) fun v5 =>
        bnd (fR_editAt n v5 M4) fun v6 M6 =>
        rd M6 0 62610 (v6 + (nI 0)) fun v7 =>
        bnd (fR_newest n v7 M6) fun v8 M8 =>
        if v8 = v5 then
          (bnd (fR_editAt n v5 M8) fun v9 M9 =>
          rd M9 0 62610 (v9 + (nI 2)) fun v10 =>
          rd M9 28 40 v10 fun v11 =>
          if v11 = 0 then
            (fR_tellStale_b135 n k23 k31 (fR_tellStale_l43 n k23 k31 k) x1 x2 x3 x2 (nI 0) M9)
          else
            (fR_tellStale_b130 n k23 k31 (fR_tellStale_l43 n k23 k31 k) x1 x2 x3 x2 M9))
        else
          (fR_tellStale_b130 n k23 k31 (fR_tellStale_l43 n k23 k31 k) x1 x2 x3 x2 M8))
      else
        (fR_tellStale_b151 n k23 k31 x1 x2 M1))
theorem wR_tellStale_l43 (X : gX p s m args meth c cX5_tellStale 5 RX5 none D (tyR cI cZ)) (n : Nat) (k23 : Int32 → MR → Option (Int32 × MR)) (k31 : Int32 → Int32 → MR → Option (Int32 × MR)) (hk23 : ∀ (x1 : Int32) (M : MR), gG p l e (rmR 2 41) s m args below meth c 5 (ZR D cI cZ q (AR q s.heap.size) s.heap M) 0 0 (fun r => MQ below (QV D cI cZ q s.heap.size r) args s 0 0 (AR q s.heap.size)) 23 [(0, .ref (q 34)), (1, .int x1)] [] (k23 x1 M)) (hk31 : ∀ (x1 : Int32) (x2 : Int32) (M : MR), gG p l e (rmR 2 41) s m args below meth c 5 (ZR D cI cZ q (AR q s.heap.size) s.heap M) 0 0 (fun r => MQ below (QV D cI cZ q s.heap.size r) args s 0 0 (AR q s.heap.size)) 31 [(0, .ref (q 34)), (1, .int x1), (2, .int x2)] [] (k31 x1 x2 M)) : ∀ (k : Nat) (x1 : Int32) (x2 : Int32) (x3 : Int32) (M : MR), gG p l e (rmR 2 41) s m args below meth c 5 (ZR D cI cZ q (AR q s.heap.size) s.heap M) 0 0 (fun r => MQ below (QV D cI cZ q s.heap.size r) args s 0 0 (AR q s.heap.size)) 43 [(0, .ref (q 34)), (1, .int x1), (2, .int x2), (3, .int x3)] [] (fR_tellStale_l43 n k23 k31 k x1 x2 x3 M) := by
  intro k
  induction k with
  | zero =>
    intro x1 x2 x3 M
    exact g_none
  | succ k ih =>
    intro x1 x2 x3 M
    rw [fR_tellStale_l43]
    refine g_iload_n X dX5_tellStale_43 rfl rfl ?_
    refine g_aload_n X dX5_tellStale_44 rfl rfl ?_
    refine r_g_m X dX5_tellStale_45 ?_
    refine g_iload_n X dX5_tellStale_48 rfl rfl ?_
    refine k_cellAt X ⟨Nat.le_of_ble_eq_true rfl, Nat.le_of_ble_eq_true rfl⟩ (Nat.le_of_ble_eq_true rfl) dX5_tellStale_49 ?_
    intro v1 M1
    refine g_bipush (v := (nI 8)) X dX5_tellStale_52 (by decide) ?_
    refine g_iadd X dX5_tellStale_54 ?_
    refine r_l_m X dX5_tellStale_55 ?_
    intro v2
    refine g_icmp_ge (tgt := 151) X dX5_tellStale_56 (by decide) ?_ ?_
    · exact g_pick [0, 1, 2] rfl (wR_tellStale_b151 X n k23 k31 hk23 hk31 x1 x2 M1)
    · refine g_aload_n X dX5_tellStale_59 rfl rfl ?_
      refine r_g_isStale X dX5_tellStale_60 ?_
      refine g_iload_n X dX5_tellStale_63 rfl rfl ?_
      refine r_l_isStale X dX5_tellStale_64 ?_
      intro v3
      refine g_if_ne (tgt := 151) X dX5_tellStale_65 (by decide) ?_ ?_
      · exact g_pick [0, 1, 2] rfl (wR_tellStale_b151 X n k23 k31 hk23 hk31 x1 x2 M1)
      · refine g_aload_n X dX5_tellStale_68 rfl rfl ?_
        refine r_g_m X dX5_tellStale_69 ?_
        refine g_iload_n X dX5_tellStale_72 rfl rfl ?_
        refine k_cellAt X ⟨Nat.le_of_ble_eq_true rfl, Nat.le_of_ble_eq_true rfl⟩ (Nat.le_of_ble_eq_true rfl) dX5_tellStale_73 ?_
        intro v4 M4
        refine g_bipush (v := (nI 10)) X dX5_tellStale_76 (by decide) ?_
        refine g_iadd X dX5_tellStale_78 ?_
        refine g_iload_n X dX5_tellStale_79 rfl rfl ?_
        refine g_iadd X dX5_tellStale_80 ?_
        refine r_l_m X dX5_tellStale_81 ?_
        intro v5
        refine g_istore (lv' := [(4, .int v5), (0, .ref (q 34)), (1, .int x1), (2, .int x2), (3, .int x3)]) X dX5_tellStale_82 (by decide) rfl ?_
        refine g_aload_n X dX5_tellStale_84 rfl rfl ?_
        refine r_g_isStale X dX5_tellStale_85 ?_
        refine g_iload_n X dX5_tellStale_88 rfl rfl ?_
        refine g_aload_n X dX5_tellStale_89 rfl rfl ?_
        refine g_aload_n X dX5_tellStale_90 rfl rfl ?_
        refine r_g_m X dX5_tellStale_91 ?_
        refine g_iload X dX5_tellStale_94 rfl ?_
        refine k_editAt X ⟨Nat.le_of_ble_eq_true rfl, Nat.le_of_ble_eq_true rfl⟩ (Nat.le_of_ble_eq_true rfl) dX5_tellStale_96 ?_
        intro v6 M6
        refine g_iconst (v := (nI 0)) X dX5_tellStale_99 (by decide) ?_
        refine g_iadd X dX5_tellStale_100 ?_
        refine r_l_m X dX5_tellStale_101 ?_
        intro v7
        refine k_newest X ⟨Nat.le_of_ble_eq_true rfl, Nat.le_of_ble_eq_true rfl⟩ (Nat.le_of_ble_eq_true rfl) dX5_tellStale_102 ?_
        intro v8 M8
        refine g_iload X dX5_tellStale_105 rfl ?_
        refine g_icmp_ne (tgt := 130) X dX5_tellStale_107 (by decide) ?_ ?_
        · exact g_pick [1, 2, 3, 4] rfl (wR_tellStale_b130 X n k23 k31 (fR_tellStale_l43 n k23 k31 k) hk23 hk31 ih x1 x2 x3 x2 M8)
        · refine g_aload_n X dX5_tellStale_110 rfl rfl ?_
          refine r_g_isStale X dX5_tellStale_111 ?_
          refine g_aload_n X dX5_tellStale_114 rfl rfl ?_
          refine r_g_m X dX5_tellStale_115 ?_
          refine g_iload X dX5_tellStale_118 rfl ?_
          refine k_editAt X ⟨Nat.le_of_ble_eq_true rfl, Nat.le_of_ble_eq_true rfl⟩ (Nat.le_of_ble_eq_true rfl) dX5_tellStale_120 ?_
          intro v9 M9
          refine g_iconst (v := (nI 2)) X dX5_tellStale_123 (by decide) ?_
          refine g_iadd X dX5_tellStale_124 ?_
          refine r_l_m X dX5_tellStale_125 ?_
          intro v10
          refine r_l_isStale X dX5_tellStale_126 ?_
          intro v11
          refine g_if_eq (tgt := 134) X dX5_tellStale_127 (by decide) ?_ ?_
          · refine g_iconst (v := (nI 0)) X dX5_tellStale_134 (by decide) ?_
            exact g_pick [1, 2, 3, 4] rfl (wR_tellStale_b135 X n k23 k31 (fR_tellStale_l43 n k23 k31 k) hk23 hk31 ih x1 x2 x3 x2 (nI 0) M9)
          · exact g_pick [1, 2, 3, 4] rfl (wR_tellStale_b130 X n k23 k31 (fR_tellStale_l43 n k23 k31 k) hk23 hk31 ih x1 x2 x3 x2 M9)
def fR_tellStale_l31 (n : Nat) (k23 : Int32 → MR → Option (Int32 × MR)) : Nat → Int32 → Int32 → MR → Option (Int32 × MR)
  | 0, _, _, _ => none
  | k + 1, x1, x2, M => rd M 0 62610 (nI 0) fun v1 =>
    if v1 ≤ x2 then (k23 x1 M) else (fR_tellStale_l43 n k23 (fR_tellStale_l31 n k23 k) n x1 x2 (nI 0) M)
theorem wR_tellStale_l31 (X : gX p s m args meth c cX5_tellStale 5 RX5 none D (tyR cI cZ)) (n : Nat) (k23 : Int32 → MR → Option (Int32 × MR)) (hk23 : ∀ (x1 : Int32) (M : MR), gG p l e (rmR 2 41) s m args below meth c 5 (ZR D cI cZ q (AR q s.heap.size) s.heap M) 0 0 (fun r => MQ below (QV D cI cZ q s.heap.size r) args s 0 0 (AR q s.heap.size)) 23 [(0, .ref (q 34)), (1, .int x1)] [] (k23 x1 M)) : ∀ (k : Nat) (x1 : Int32) (x2 : Int32) (M : MR), gG p l e (rmR 2 41) s m args below meth c 5 (ZR D cI cZ q (AR q s.heap.size) s.heap M) 0 0 (fun r => MQ below (QV D cI cZ q s.heap.size r) args s 0 0 (AR q s.heap.size)) 31 [(0, .ref (q 34)), (1, .int x1), (2, .int x2)] [] (fR_tellStale_l31 n k23 k x1 x2 M) := by
  intro k
  induction k with
  | zero =>
    intro x1 x2 M
    exact g_none
  | succ k ih =>
    intro x1 x2 M
    rw [fR_tellStale_l31]
    refine g_iload_n X dX5_tellStale_31 rfl rfl ?_
    refine g_aload_n X dX5_tellStale_32 rfl rfl ?_
    refine r_g_m X dX5_tellStale_33 ?_
    refine g_iconst (v := (nI 0)) X dX5_tellStale_36 (by decide) ?_
    refine r_l_m X dX5_tellStale_37 ?_
    intro v1
    refine g_icmp_ge (tgt := 157) X dX5_tellStale_38 (by decide) ?_ ?_
    · refine g_goto (tgt := 23) X dX5_tellStale_157 (by decide) ?_
      exact g_pick [0, 1] rfl (hk23 x1 M)
    · refine g_iconst (v := (nI 0)) X dX5_tellStale_41 (by decide) ?_
      refine g_istore_n (lv' := [(3, .int (nI 0)), (0, .ref (q 34)), (1, .int x1), (2, .int x2)]) X dX5_tellStale_42 rfl (by decide) rfl ?_
      exact g_pick [1, 2, 3, 0] rfl (wR_tellStale_l43 X n k23 (fR_tellStale_l31 n k23 k) hk23 ih n x1 x2 (nI 0) M)
def fR_tellStale_l23 (n : Nat) : Nat → Int32 → MR → Option (Int32 × MR)
  | 0, _, _ => none
  | k + 1, x1, M => if x1 = 0 then (some (0, M)) else (fR_tellStale_l31 n (fR_tellStale_l23 n k) n (nI 0) (nI 0) M)
theorem wR_tellStale_l23 (X : gX p s m args meth c cX5_tellStale 5 RX5 none D (tyR cI cZ)) (n : Nat) : ∀ (k : Nat) (x1 : Int32) (M : MR), gG p l e (rmR 2 41) s m args below meth c 5 (ZR D cI cZ q (AR q s.heap.size) s.heap M) 0 0 (fun r => MQ below (QV D cI cZ q s.heap.size r) args s 0 0 (AR q s.heap.size)) 23 [(0, .ref (q 34)), (1, .int x1)] [] (fR_tellStale_l23 n k x1 M) := by
  intro k
  induction k with
  | zero =>
    intro x1 M
    exact g_none
  | succ k ih =>
    intro x1 M
    rw [fR_tellStale_l23]
    refine g_iload_n X dX5_tellStale_23 rfl rfl ?_
    refine g_if_eq (tgt := 160) X dX5_tellStale_24 (by decide) ?_ ?_
    · exact r_vret X dX5_tellStale_160
    · refine g_iconst (v := (nI 0)) X dX5_tellStale_27 (by decide) ?_
      refine g_istore_n (lv' := [(1, .int (nI 0)), (0, .ref (q 34))]) X dX5_tellStale_28 rfl (by decide) rfl ?_
      refine g_iconst (v := (nI 0)) X dX5_tellStale_29 (by decide) ?_
      refine g_istore_n (lv' := [(2, .int (nI 0)), (1, .int (nI 0)), (0, .ref (q 34))]) X dX5_tellStale_30 rfl (by decide) rfl ?_
      exact g_pick [2, 1, 0] rfl (wR_tellStale_l31 X n (fR_tellStale_l23 n k) ih n (nI 0) (nI 0) M)
def fR_tellStale_l2 (n : Nat) : Nat → Int32 → MR → Option (Int32 × MR)
  | 0, _, _ => none
  | k + 1, x1, M => if (nI 40) ≤ x1 then
      (fR_tellStale_l23 n n (nI 1) M)
    else
      (wz M 28 40 x1 (nI 0) fun M1 =>
      (fR_tellStale_l2 n k) (x1 + (nI 1)) M1)
theorem wR_tellStale_l2 (X : gX p s m args meth c cX5_tellStale 5 RX5 none D (tyR cI cZ)) (n : Nat) : ∀ (k : Nat) (x1 : Int32) (M : MR), gG p l e (rmR 2 41) s m args below meth c 5 (ZR D cI cZ q (AR q s.heap.size) s.heap M) 0 0 (fun r => MQ below (QV D cI cZ q s.heap.size r) args s 0 0 (AR q s.heap.size)) 2 [(0, .ref (q 34)), (1, .int x1)] [] (fR_tellStale_l2 n k x1 M) := by
  intro k
  induction k with
  | zero =>
    intro x1 M
    exact g_none
  | succ k ih =>
    intro x1 M
    rw [fR_tellStale_l2]
    refine g_iload_n X dX5_tellStale_2 rfl rfl ?_
    refine g_bipush (v := (nI 40)) X dX5_tellStale_3 (by decide) ?_
    refine g_icmp_ge (tgt := 21) X dX5_tellStale_5 (by decide) ?_ ?_
    · refine g_iconst (v := (nI 1)) X dX5_tellStale_21 (by decide) ?_
      refine g_istore_n (lv' := [(1, .int (nI 1)), (0, .ref (q 34))]) X dX5_tellStale_22 rfl (by decide) rfl ?_
      exact g_pick [1, 0] rfl (wR_tellStale_l23 X n n (nI 1) M)
    · refine g_aload_n X dX5_tellStale_8 rfl rfl ?_
      refine r_g_isStale X dX5_tellStale_9 ?_
      refine g_iload_n X dX5_tellStale_12 rfl rfl ?_
      refine g_iconst (v := (nI 0)) X dX5_tellStale_13 (by decide) ?_
      refine r_s_isStale X dX5_tellStale_14 ?_
      intro M1
      refine g_iinc (v := (nI 1)) (lv' := [(1, .int (x1 + (nI 1))), (0, .ref (q 34))]) X dX5_tellStale_15 rfl (by decide) (by decide) rfl ?_
      refine g_goto (tgt := 2) X dX5_tellStale_18 (by decide) ?_
      exact g_pick [1, 0] rfl (ih (x1 + (nI 1)) M1)
def fR_tellStale (n : Nat) (M : MR) : Option (Int32 × MR) :=
    fR_tellStale_l2 n n (nI 0) M
theorem c_tellStale (l : Launch) (D : va_G) (cI cZ : ClassId) (q : Nat → Nat) (n : Nat) (M : MR) : MetR l D cI cZ q yX5_tellStale cX5_tellStale 5 none 2 41 QV [.ref (q 34)] M (fR_tellStale n M) := by
  refine MetR.of (by decide) rfl (Nat.le_of_ble_eq_true rfl) ?_
  intro p e s m args below meth c X
  unfold fR_tellStale
  refine g_pick (lv' := [(0, .ref (q 34))]) [0] rfl ?_
  refine g_iconst (v := (nI 0)) X dX5_tellStale_0 (by decide) ?_
  refine g_istore_n (lv' := [(1, .int (nI 0)), (0, .ref (q 34))]) X dX5_tellStale_1 rfl (by decide) rfl ?_
  exact g_pick [1, 0] rfl (wR_tellStale_l2 X n n (nI 0) M)
theorem tc_tellStale : Cond.code yX5_tellStale cX5_tellStale 5 none ∈ tt := tt_in (List.mem_of_getElem? (i := 1079) (by decide +kernel)) (by decide +kernel)
theorem tl_tellStale : Cond.methodLink RX5 257 yX5_tellStale ∈ tt := tt_in (List.mem_of_getElem? (i := 1076) (by decide +kernel)) (by decide +kernel)
theorem ti_tellStale : Cond.instanceMethod yX5_tellStale ∈ tt := tt_in (List.mem_of_getElem? (i := 1078) (by decide +kernel)) (by decide +kernel)
theorem te_tellStale : Cond.selects RX5 yX5_tellStale yX5_tellStale ∈ tt := tt_in (List.mem_of_getElem? (i := 77) (by decide +kernel)) (by decide +kernel)
theorem k_tellStale (X : gX p s m args meth c cc nL RX5 rt D (tyR cI cZ)) {n : Nat} {M : MR} {rest : List Value} {K : Int32 → MR → Option ρ} (hR : 2 + 1 ≤ R.frames ∧ 8 + (5 + 11) + 41 ≤ R.locals) (hcat : (rest.map fun v => v.category).sum ≤ 8) (d : decode cc pc = .ok (.invokevirtual 257, 3)) (kk : ∀ v M1, gG p l e R s m args below meth c nL (ZR D cI cZ q (AR q s.heap.size) s.heap M1) 0 0 QQ (pc + 3) lv (rest) (K v M1)) : gG p l e R s m args below meth c nL (ZR D cI cZ q (AR q s.heap.size) s.heap M) 0 0 QQ pc lv (.ref (q 34) :: rest) (bnd (fR_tellStale n M) K) := r_callVv (As := []) X (c_tellStale l D cI cZ q n M) (cwVR (k := 0) X.2.2.2.2.1 tl_tellStale ti_tellStale te_tellStale tc_tellStale ini5 (by decide +kernel) hR) rfl rfl hcat d kk
-- isFree
def fR_isFree_b97 (n : Nat) (k4 : Int32 → Int32 → Int32 → MR → Option (Int32 × MR)) (x1 : Int32) (x3 : Int32) (s0 : Int32) (s1 : Int32) (M : MR) : Option (Int32 × MR) :=
    k4 x1 (s0 &&& s1) (x3 + (nI 1)) M
theorem wR_isFree_b97 (X : gX p s m args meth c cX5_isFree 5 RX5 (some .boolean) D (tyR cI cZ)) (n : Nat) (k4 : Int32 → Int32 → Int32 → MR → Option (Int32 × MR)) (hk4 : ∀ (x1 : Int32) (x2 : Int32) (x3 : Int32) (M : MR), gG p l e (rmR 2 41) s m args below meth c 5 (ZR D cI cZ q (AR q s.heap.size) s.heap M) 0 0 (fun r => MQ below (QI D cI cZ q s.heap.size r) args s 0 0 (AR q s.heap.size)) 4 [(0, .ref (q 34)), (1, .int x1), (2, .int x2), (3, .int x3)] [] (k4 x1 x2 x3 M)) (x1 : Int32) (x3 : Int32) (s0 : Int32) (s1 : Int32) (M : MR) : gG p l e (rmR 2 41) s m args below meth c 5 (ZR D cI cZ q (AR q s.heap.size) s.heap M) 0 0 (fun r => MQ below (QI D cI cZ q s.heap.size r) args s 0 0 (AR q s.heap.size)) 97 [(0, .ref (q 34)), (1, .int x1), (3, .int x3)] [.int s1, .int s0] (fR_isFree_b97 n k4 x1 x3 s0 s1 M) := by
  unfold fR_isFree_b97
  refine g_iand X dX5_isFree_97 ?_
  refine g_istore_n (lv' := [(2, .int (s0 &&& s1)), (0, .ref (q 34)), (1, .int x1), (3, .int x3)]) X dX5_isFree_98 rfl (by decide) rfl ?_
  refine g_iinc (v := (nI 1)) (lv' := [(3, .int (x3 + (nI 1))), (2, .int (s0 &&& s1)), (0, .ref (q 34)), (1, .int x1)]) X dX5_isFree_99 rfl (by decide) (by decide) rfl ?_
  refine g_goto (tgt := 4) X dX5_isFree_102 (by decide) ?_
  exact g_pick [2, 3, 1, 0] rfl (hk4 x1 (s0 &&& s1) (x3 + (nI 1)) M)
def fR_isFree_b92 (n : Nat) (k4 : Int32 → Int32 → Int32 → MR → Option (Int32 × MR)) (x1 : Int32) (x3 : Int32) (s0 : Int32) (M : MR) : Option (Int32 × MR) :=
    fR_isFree_b97 n k4 x1 x3 s0 (nI 1) M
theorem wR_isFree_b92 (X : gX p s m args meth c cX5_isFree 5 RX5 (some .boolean) D (tyR cI cZ)) (n : Nat) (k4 : Int32 → Int32 → Int32 → MR → Option (Int32 × MR)) (hk4 : ∀ (x1 : Int32) (x2 : Int32) (x3 : Int32) (M : MR), gG p l e (rmR 2 41) s m args below meth c 5 (ZR D cI cZ q (AR q s.heap.size) s.heap M) 0 0 (fun r => MQ below (QI D cI cZ q s.heap.size r) args s 0 0 (AR q s.heap.size)) 4 [(0, .ref (q 34)), (1, .int x1), (2, .int x2), (3, .int x3)] [] (k4 x1 x2 x3 M)) (x1 : Int32) (x3 : Int32) (s0 : Int32) (M : MR) : gG p l e (rmR 2 41) s m args below meth c 5 (ZR D cI cZ q (AR q s.heap.size) s.heap M) 0 0 (fun r => MQ below (QI D cI cZ q s.heap.size r) args s 0 0 (AR q s.heap.size)) 92 [(0, .ref (q 34)), (1, .int x1), (3, .int x3)] [.int s0] (fR_isFree_b92 n k4 x1 x3 s0 M) := by
  unfold fR_isFree_b92
  refine g_iconst (v := (nI 1)) X dX5_isFree_92 (by decide) ?_
  refine g_goto (tgt := 97) X dX5_isFree_93 (by decide) ?_
  exact g_pick [0, 1, 2] rfl (wR_isFree_b97 X n k4 hk4 x1 x3 s0 (nI 1) M)
def fR_isFree_l4 (n : Nat) : Nat → Int32 → Int32 → Int32 → MR → Option (Int32 × MR)
  | 0, _, _, _, _ => none
  | k + 1, x1, x2, x3, M => bnd (fR_cellAt n x1 M) fun v1 M1 =>
    rd M1 0 62610 (v1 + (nI 8)) fun v2 =>
    if v2 ≤ x3 then
      (zt x2 (some (x2, M1)))
    else
      (bnd (fR_cellAt n x1 M1) fun v3 M3 =>
      rd M3 0 62610 ((v3 + (nI 10)) + x3) fun v4 =>
      bnd (fR_editAt n v4 M3) fun v5 M5 =>
      rd M5 0 62610 (v5 + (nI 0)) fun v6 =>
      bnd (fR_newest n v6 M5) fun v7 M7 =>
      if v7 < 0 then
        (fR_isFree_b92 n (fR_isFree_l4 n k) x1 x3 x2 M7)
      else
        (bnd (fR_editAt n v7 M7) fun v8 M8 =>
        rd M8 0 62610 (v8 + (nI 2)) fun v9 =>
        if v9 = x1 then
          (fR_isFree_b92 n (fR_isFree_l4 n k) x1 x3 x2 M8)
        else
          (bnd (fR_editAt n v7 M8) fun v10 M10 =>
          rd M10 0 62610 (v10 + (nI 2)) fun v11 =>
          rd M10 29 40 v11 fun v12 =>
          if v12 = 0 then
            (fR_isFree_b92 n (fR_isFree_l4 n k) x1 x3 x2 M10)
          else
            (fR_isFree_b97 n (fR_isFree_l4 n k) x1 x3 x2 (nI 0) M10))))
theorem wR_isFree_l4 (X : gX p s m args meth c cX5_isFree 5 RX5 (some .boolean) D (tyR cI cZ)) (n : Nat) : ∀ (k : Nat) (x1 : Int32) (x2 : Int32) (x3 : Int32) (M : MR), gG p l e (rmR 2 41) s m args below meth c 5 (ZR D cI cZ q (AR q s.heap.size) s.heap M) 0 0 (fun r => MQ below (QI D cI cZ q s.heap.size r) args s 0 0 (AR q s.heap.size)) 4 [(0, .ref (q 34)), (1, .int x1), (2, .int x2), (3, .int x3)] [] (fR_isFree_l4 n k x1 x2 x3 M) := by
  intro k
  induction k with
  | zero =>
    intro x1 x2 x3 M
    exact g_none
  | succ k ih =>
    intro x1 x2 x3 M
    rw [fR_isFree_l4]
    refine g_iload_n X dX5_isFree_4 rfl rfl ?_
    refine g_aload_n X dX5_isFree_5 rfl rfl ?_
    refine r_g_m X dX5_isFree_6 ?_
    refine g_iload_n X dX5_isFree_9 rfl rfl ?_
    refine k_cellAt X ⟨Nat.le_of_ble_eq_true rfl, Nat.le_of_ble_eq_true rfl⟩ (Nat.le_of_ble_eq_true rfl) dX5_isFree_10 ?_
    intro v1 M1
    refine g_bipush (v := (nI 8)) X dX5_isFree_13 (by decide) ?_
    refine g_iadd X dX5_isFree_15 ?_
    refine r_l_m X dX5_isFree_16 ?_
    intro v2
    refine g_icmp_ge (tgt := 105) X dX5_isFree_17 (by decide) ?_ ?_
    · refine g_iload_n X dX5_isFree_105 rfl rfl ?_
      exact r_zret X dX5_isFree_106
    · refine g_aload_n X dX5_isFree_20 rfl rfl ?_
      refine g_aload_n X dX5_isFree_21 rfl rfl ?_
      refine r_g_m X dX5_isFree_22 ?_
      refine g_aload_n X dX5_isFree_25 rfl rfl ?_
      refine r_g_m X dX5_isFree_26 ?_
      refine g_iload_n X dX5_isFree_29 rfl rfl ?_
      refine k_cellAt X ⟨Nat.le_of_ble_eq_true rfl, Nat.le_of_ble_eq_true rfl⟩ (Nat.le_of_ble_eq_true rfl) dX5_isFree_30 ?_
      intro v3 M3
      refine g_bipush (v := (nI 10)) X dX5_isFree_33 (by decide) ?_
      refine g_iadd X dX5_isFree_35 ?_
      refine g_iload_n X dX5_isFree_36 rfl rfl ?_
      refine g_iadd X dX5_isFree_37 ?_
      refine r_l_m X dX5_isFree_38 ?_
      intro v4
      refine k_editAt X ⟨Nat.le_of_ble_eq_true rfl, Nat.le_of_ble_eq_true rfl⟩ (Nat.le_of_ble_eq_true rfl) dX5_isFree_39 ?_
      intro v5 M5
      refine g_iconst (v := (nI 0)) X dX5_isFree_42 (by decide) ?_
      refine g_iadd X dX5_isFree_43 ?_
      refine r_l_m X dX5_isFree_44 ?_
      intro v6
      refine k_newest X ⟨Nat.le_of_ble_eq_true rfl, Nat.le_of_ble_eq_true rfl⟩ (Nat.le_of_ble_eq_true rfl) dX5_isFree_45 ?_
      intro v7 M7
      refine g_istore (lv' := [(4, .int v7), (0, .ref (q 34)), (1, .int x1), (2, .int x2), (3, .int x3)]) X dX5_isFree_48 (by decide) rfl ?_
      refine g_iload_n X dX5_isFree_50 rfl rfl ?_
      refine g_iload X dX5_isFree_51 rfl ?_
      refine g_if_lt (tgt := 92) X dX5_isFree_53 (by decide) ?_ ?_
      · exact g_pick [1, 2, 4] rfl (wR_isFree_b92 X n (fR_isFree_l4 n k) ih x1 x3 x2 M7)
      · refine g_aload_n X dX5_isFree_56 rfl rfl ?_
        refine r_g_m X dX5_isFree_57 ?_
        refine g_iload X dX5_isFree_60 rfl ?_
        refine k_editAt X ⟨Nat.le_of_ble_eq_true rfl, Nat.le_of_ble_eq_true rfl⟩ (Nat.le_of_ble_eq_true rfl) dX5_isFree_62 ?_
        intro v8 M8
        refine g_iconst (v := (nI 2)) X dX5_isFree_65 (by decide) ?_
        refine g_iadd X dX5_isFree_66 ?_
        refine r_l_m X dX5_isFree_67 ?_
        intro v9
        refine g_iload_n X dX5_isFree_68 rfl rfl ?_
        refine g_icmp_eq (tgt := 92) X dX5_isFree_69 (by decide) ?_ ?_
        · exact g_pick [1, 2, 4] rfl (wR_isFree_b92 X n (fR_isFree_l4 n k) ih x1 x3 x2 M8)
        · refine g_aload_n X dX5_isFree_72 rfl rfl ?_
          refine r_g_waits X dX5_isFree_73 ?_
          refine g_aload_n X dX5_isFree_76 rfl rfl ?_
          refine r_g_m X dX5_isFree_77 ?_
          refine g_iload X dX5_isFree_80 rfl ?_
          refine k_editAt X ⟨Nat.le_of_ble_eq_true rfl, Nat.le_of_ble_eq_true rfl⟩ (Nat.le_of_ble_eq_true rfl) dX5_isFree_82 ?_
          intro v10 M10
          refine g_iconst (v := (nI 2)) X dX5_isFree_85 (by decide) ?_
          refine g_iadd X dX5_isFree_86 ?_
          refine r_l_m X dX5_isFree_87 ?_
          intro v11
          refine r_l_waits X dX5_isFree_88 ?_
          intro v12
          refine g_if_ne (tgt := 96) X dX5_isFree_89 (by decide) ?_ ?_
          · refine g_iconst (v := (nI 0)) X dX5_isFree_96 (by decide) ?_
            exact g_pick [1, 2, 4] rfl (wR_isFree_b97 X n (fR_isFree_l4 n k) ih x1 x3 x2 (nI 0) M10)
          · exact g_pick [1, 2, 4] rfl (wR_isFree_b92 X n (fR_isFree_l4 n k) ih x1 x3 x2 M10)
def fR_isFree (n : Nat) (x1 : Int32) (M : MR) : Option (Int32 × MR) :=
    fR_isFree_l4 n n x1 (nI 1) (nI 0) M
theorem c_isFree (l : Launch) (D : va_G) (cI cZ : ClassId) (q : Nat → Nat) (n : Nat) (x1 : Int32) (M : MR) : MetR l D cI cZ q yX5_isFree cX5_isFree 5 (some .boolean) 2 41 QI [.ref (q 34), .int x1] M (fR_isFree n x1 M) := by
  refine MetR.of (by decide) rfl (Nat.le_of_ble_eq_true rfl) ?_
  intro p e s m args below meth c X
  unfold fR_isFree
  refine g_pick (lv' := [(0, .ref (q 34)), (1, .int x1)]) [0, 1] rfl ?_
  refine g_iconst (v := (nI 1)) X dX5_isFree_0 (by decide) ?_
  refine g_istore_n (lv' := [(2, .int (nI 1)), (0, .ref (q 34)), (1, .int x1)]) X dX5_isFree_1 rfl (by decide) rfl ?_
  refine g_iconst (v := (nI 0)) X dX5_isFree_2 (by decide) ?_
  refine g_istore_n (lv' := [(3, .int (nI 0)), (2, .int (nI 1)), (0, .ref (q 34)), (1, .int x1)]) X dX5_isFree_3 rfl (by decide) rfl ?_
  exact g_pick [2, 3, 1, 0] rfl (wR_isFree_l4 X n n x1 (nI 1) (nI 0) M)
theorem tc_isFree : Cond.code yX5_isFree cX5_isFree 5 (some .boolean) ∈ tt := tt_in (List.mem_of_getElem? (i := 1083) (by decide +kernel)) (by decide +kernel)
theorem tl_isFree : Cond.methodLink RX5 260 yX5_isFree ∈ tt := tt_in (List.mem_of_getElem? (i := 1080) (by decide +kernel)) (by decide +kernel)
theorem ti_isFree : Cond.instanceMethod yX5_isFree ∈ tt := tt_in (List.mem_of_getElem? (i := 1082) (by decide +kernel)) (by decide +kernel)
theorem te_isFree : Cond.selects RX5 yX5_isFree yX5_isFree ∈ tt := tt_in (List.mem_of_getElem? (i := 78) (by decide +kernel)) (by decide +kernel)
theorem k_isFree (X : gX p s m args meth c cc nL RX5 rt D (tyR cI cZ)) {n : Nat} {x1 : Int32} {M : MR} {rest : List Value} {K : Int32 → MR → Option ρ} (hR : 2 + 1 ≤ R.frames ∧ 8 + (5 + 11) + 41 ≤ R.locals) (hcat : (rest.map fun v => v.category).sum ≤ 8) (d : decode cc pc = .ok (.invokevirtual 260, 3)) (kk : ∀ v M1, gG p l e R s m args below meth c nL (ZR D cI cZ q (AR q s.heap.size) s.heap M1) 0 0 QQ (pc + 3) lv (.int v :: rest) (K v M1)) : gG p l e R s m args below meth c nL (ZR D cI cZ q (AR q s.heap.size) s.heap M) 0 0 QQ pc lv (.int x1 :: .ref (q 34) :: rest) (bnd (fR_isFree n x1 M) K) := r_callVi (As := [.int x1]) X (c_isFree l D cI cZ q n x1 M) (cwVR (k := 1) X.2.2.2.2.1 tl_isFree ti_isFree te_isFree tc_isFree ini5 (by decide +kernel) hR) rfl rfl hcat d kk
-- rerunStale
def fR_rerunStale_b45 (n : Nat) (k8 : Int32 → Int32 → MR → Option (Int32 × MR)) (x2 : Int32) (s0 : Int32) (s1 : Int32) (M : MR) : Option (Int32 × MR) :=
    k8 (s0 + s1) (x2 + (nI 1)) M
theorem wR_rerunStale_b45 (X : gX p s m args meth c cX5_rerunStale 7 RX5 (some .int) D (tyR cI cZ)) (n : Nat) (k8 : Int32 → Int32 → MR → Option (Int32 × MR)) (hk8 : ∀ (x1 : Int32) (x2 : Int32) (M : MR), gG p l e (rmR 10 231) s m args below meth c 7 (ZR D cI cZ q (AR q s.heap.size) s.heap M) 0 0 (fun r => MQ below (QI D cI cZ q s.heap.size r) args s 0 0 (AR q s.heap.size)) 8 [(0, .ref (q 34)), (1, .int x1), (2, .int x2)] [] (k8 x1 x2 M)) (x2 : Int32) (s0 : Int32) (s1 : Int32) (M : MR) : gG p l e (rmR 10 231) s m args below meth c 7 (ZR D cI cZ q (AR q s.heap.size) s.heap M) 0 0 (fun r => MQ below (QI D cI cZ q s.heap.size r) args s 0 0 (AR q s.heap.size)) 45 [(0, .ref (q 34)), (2, .int x2)] [.int s1, .int s0] (fR_rerunStale_b45 n k8 x2 s0 s1 M) := by
  unfold fR_rerunStale_b45
  refine g_iadd X dX5_rerunStale_45 ?_
  refine g_istore_n (lv' := [(1, .int (s0 + s1)), (0, .ref (q 34)), (2, .int x2)]) X dX5_rerunStale_46 rfl (by decide) rfl ?_
  refine g_iinc (v := (nI 1)) (lv' := [(2, .int (x2 + (nI 1))), (1, .int (s0 + s1)), (0, .ref (q 34))]) X dX5_rerunStale_47 rfl (by decide) (by decide) rfl ?_
  refine g_goto (tgt := 8) X dX5_rerunStale_50 (by decide) ?_
  exact g_pick [2, 1, 0] rfl (hk8 (s0 + s1) (x2 + (nI 1)) M)
def fR_rerunStale_b145 (n : Nat) (k74 : Int32 → Int32 → Int32 → MR → Option (Int32 × MR)) (k95 : Int32 → Int32 → Int32 → Int32 → Int32 → Int32 → MR → Option (Int32 × MR)) (x1 : Int32) (x2 : Int32) (x3 : Int32) (x5 : Int32) (x6 : Int32) (s0 : Int32) (M : MR) : Option (Int32 × MR) :=
    k95 x1 x2 x3 s0 x5 (x6 + (-1 : Int32)) M
theorem wR_rerunStale_b145 (X : gX p s m args meth c cX5_rerunStale 7 RX5 (some .int) D (tyR cI cZ)) (n : Nat) (k74 : Int32 → Int32 → Int32 → MR → Option (Int32 × MR)) (k95 : Int32 → Int32 → Int32 → Int32 → Int32 → Int32 → MR → Option (Int32 × MR)) (hk74 : ∀ (x1 : Int32) (x2 : Int32) (x3 : Int32) (M : MR), gG p l e (rmR 10 231) s m args below meth c 7 (ZR D cI cZ q (AR q s.heap.size) s.heap M) 0 0 (fun r => MQ below (QI D cI cZ q s.heap.size r) args s 0 0 (AR q s.heap.size)) 74 [(0, .ref (q 34)), (1, .int x1), (2, .int x2), (3, .int x3)] [] (k74 x1 x2 x3 M)) (hk95 : ∀ (x1 : Int32) (x2 : Int32) (x3 : Int32) (x4 : Int32) (x5 : Int32) (x6 : Int32) (M : MR), gG p l e (rmR 10 231) s m args below meth c 7 (ZR D cI cZ q (AR q s.heap.size) s.heap M) 0 0 (fun r => MQ below (QI D cI cZ q s.heap.size r) args s 0 0 (AR q s.heap.size)) 95 [(0, .ref (q 34)), (1, .int x1), (2, .int x2), (3, .int x3), (4, .int x4), (5, .int x5), (6, .int x6)] [] (k95 x1 x2 x3 x4 x5 x6 M)) (x1 : Int32) (x2 : Int32) (x3 : Int32) (x5 : Int32) (x6 : Int32) (s0 : Int32) (M : MR) : gG p l e (rmR 10 231) s m args below meth c 7 (ZR D cI cZ q (AR q s.heap.size) s.heap M) 0 0 (fun r => MQ below (QI D cI cZ q s.heap.size r) args s 0 0 (AR q s.heap.size)) 145 [(0, .ref (q 34)), (1, .int x1), (2, .int x2), (3, .int x3), (5, .int x5), (6, .int x6)] [.int s0] (fR_rerunStale_b145 n k74 k95 x1 x2 x3 x5 x6 s0 M) := by
  unfold fR_rerunStale_b145
  refine g_istore (lv' := [(4, .int s0), (0, .ref (q 34)), (1, .int x1), (2, .int x2), (3, .int x3), (5, .int x5), (6, .int x6)]) X dX5_rerunStale_145 (by decide) rfl ?_
  refine g_iinc (v := (-1 : Int32)) (lv' := [(6, .int (x6 + (-1 : Int32))), (4, .int s0), (0, .ref (q 34)), (1, .int x1), (2, .int x2), (3, .int x3), (5, .int x5)]) X dX5_rerunStale_147 rfl (by decide) (by decide) rfl ?_
  refine g_goto (tgt := 95) X dX5_rerunStale_150 (by decide) ?_
  exact g_pick [2, 3, 4, 5, 1, 6, 0] rfl (hk95 x1 x2 x3 s0 x5 (x6 + (-1 : Int32)) M)
def fR_rerunStale_b143 (n : Nat) (k74 : Int32 → Int32 → Int32 → MR → Option (Int32 × MR)) (k95 : Int32 → Int32 → Int32 → Int32 → Int32 → Int32 → MR → Option (Int32 × MR)) (x1 : Int32) (x2 : Int32) (x3 : Int32) (x4 : Int32) (x5 : Int32) (x6 : Int32) (M : MR) : Option (Int32 × MR) :=
    fR_rerunStale_b145 n k74 k95 x1 x2 x3 x5 x6 x4 M
theorem wR_rerunStale_b143 (X : gX p s m args meth c cX5_rerunStale 7 RX5 (some .int) D (tyR cI cZ)) (n : Nat) (k74 : Int32 → Int32 → Int32 → MR → Option (Int32 × MR)) (k95 : Int32 → Int32 → Int32 → Int32 → Int32 → Int32 → MR → Option (Int32 × MR)) (hk74 : ∀ (x1 : Int32) (x2 : Int32) (x3 : Int32) (M : MR), gG p l e (rmR 10 231) s m args below meth c 7 (ZR D cI cZ q (AR q s.heap.size) s.heap M) 0 0 (fun r => MQ below (QI D cI cZ q s.heap.size r) args s 0 0 (AR q s.heap.size)) 74 [(0, .ref (q 34)), (1, .int x1), (2, .int x2), (3, .int x3)] [] (k74 x1 x2 x3 M)) (hk95 : ∀ (x1 : Int32) (x2 : Int32) (x3 : Int32) (x4 : Int32) (x5 : Int32) (x6 : Int32) (M : MR), gG p l e (rmR 10 231) s m args below meth c 7 (ZR D cI cZ q (AR q s.heap.size) s.heap M) 0 0 (fun r => MQ below (QI D cI cZ q s.heap.size r) args s 0 0 (AR q s.heap.size)) 95 [(0, .ref (q 34)), (1, .int x1), (2, .int x2), (3, .int x3), (4, .int x4), (5, .int x5), (6, .int x6)] [] (k95 x1 x2 x3 x4 x5 x6 M)) (x1 : Int32) (x2 : Int32) (x3 : Int32) (x4 : Int32) (x5 : Int32) (x6 : Int32) (M : MR) : gG p l e (rmR 10 231) s m args below meth c 7 (ZR D cI cZ q (AR q s.heap.size) s.heap M) 0 0 (fun r => MQ below (QI D cI cZ q s.heap.size r) args s 0 0 (AR q s.heap.size)) 143 [(0, .ref (q 34)), (1, .int x1), (2, .int x2), (3, .int x3), (4, .int x4), (5, .int x5), (6, .int x6)] [] (fR_rerunStale_b143 n k74 k95 x1 x2 x3 x4 x5 x6 M) := by
  unfold fR_rerunStale_b143
  refine g_iload X dX5_rerunStale_143 rfl ?_
  exact g_pick [0, 1, 2, 3, 5, 6] rfl (wR_rerunStale_b145 X n k74 k95 hk74 hk95 x1 x2 x3 x5 x6 x4 M)
def fR_rerunStale_b117 (n : Nat) (k74 : Int32 → Int32 → Int32 → MR → Option (Int32 × MR)) (k95 : Int32 → Int32 → Int32 → Int32 → Int32 → Int32 → MR → Option (Int32 × MR)) (x1 : Int32) (x2 : Int32) (x3 : Int32) (x4 : Int32) (x6 : Int32) (s0 : Int32) (M : MR) : Option (Int32 × MR) :=
    rd M 29 40 x6 fun v1 =>
    if v1 = 0 then
      (fR_rerunStale_b143 n k74 k95 x1 x2 x3 x4 s0 x6 M)
    else
      (bnd (fR_isFree n x6 M) fun v2 M2 =>
      if v2 = 0 then
        (fR_rerunStale_b143 n k74 k95 x1 x2 x3 x4 s0 x6 M2)
      else
        (fR_rerunStale_b145 n k74 k95 x1 x2 x3 s0 x6 x6 M2))
theorem wR_rerunStale_b117 (X : gX p s m args meth c cX5_rerunStale 7 RX5 (some .int) D (tyR cI cZ)) (n : Nat) (k74 : Int32 → Int32 → Int32 → MR → Option (Int32 × MR)) (k95 : Int32 → Int32 → Int32 → Int32 → Int32 → Int32 → MR → Option (Int32 × MR)) (hk74 : ∀ (x1 : Int32) (x2 : Int32) (x3 : Int32) (M : MR), gG p l e (rmR 10 231) s m args below meth c 7 (ZR D cI cZ q (AR q s.heap.size) s.heap M) 0 0 (fun r => MQ below (QI D cI cZ q s.heap.size r) args s 0 0 (AR q s.heap.size)) 74 [(0, .ref (q 34)), (1, .int x1), (2, .int x2), (3, .int x3)] [] (k74 x1 x2 x3 M)) (hk95 : ∀ (x1 : Int32) (x2 : Int32) (x3 : Int32) (x4 : Int32) (x5 : Int32) (x6 : Int32) (M : MR), gG p l e (rmR 10 231) s m args below meth c 7 (ZR D cI cZ q (AR q s.heap.size) s.heap M) 0 0 (fun r => MQ below (QI D cI cZ q s.heap.size r) args s 0 0 (AR q s.heap.size)) 95 [(0, .ref (q 34)), (1, .int x1), (2, .int x2), (3, .int x3), (4, .int x4), (5, .int x5), (6, .int x6)] [] (k95 x1 x2 x3 x4 x5 x6 M)) (x1 : Int32) (x2 : Int32) (x3 : Int32) (x4 : Int32) (x6 : Int32) (s0 : Int32) (M : MR) : gG p l e (rmR 10 231) s m args below meth c 7 (ZR D cI cZ q (AR q s.heap.size) s.heap M) 0 0 (fun r => MQ below (QI D cI cZ q s.heap.size r) args s 0 0 (AR q s.heap.size)) 117 [(0, .ref (q 34)), (1, .int x1), (2, .int x2), (3, .int x3), (4, .int x4), (6, .int x6)] [.int s0] (fR_rerunStale_b117 n k74 k95 x1 x2 x3 x4 x6 s0 M) := by
  unfold fR_rerunStale_b117
  refine g_istore (lv' := [(5, .int s0), (0, .ref (q 34)), (1, .int x1), (2, .int x2), (3, .int x3), (4, .int x4), (6, .int x6)]) X dX5_rerunStale_117 (by decide) rfl ?_
  refine g_aload_n X dX5_rerunStale_119 rfl rfl ?_
  refine r_g_waits X dX5_rerunStale_120 ?_
  refine g_iload X dX5_rerunStale_123 rfl ?_
  refine r_l_waits X dX5_rerunStale_125 ?_
  intro v1
  refine g_if_eq (tgt := 143) X dX5_rerunStale_126 (by decide) ?_ ?_
  · exact g_pick [1, 2, 3, 4, 5, 0, 6] rfl (wR_rerunStale_b143 X n k74 k95 hk74 hk95 x1 x2 x3 x4 s0 x6 M)
  · refine g_aload_n X dX5_rerunStale_129 rfl rfl ?_
    refine g_iload X dX5_rerunStale_130 rfl ?_
    refine k_isFree X ⟨Nat.le_of_ble_eq_true rfl, Nat.le_of_ble_eq_true rfl⟩ (Nat.le_of_ble_eq_true rfl) dX5_rerunStale_132 ?_
    intro v2 M2
    refine g_if_eq (tgt := 143) X dX5_rerunStale_135 (by decide) ?_ ?_
    · exact g_pick [1, 2, 3, 4, 5, 0, 6] rfl (wR_rerunStale_b143 X n k74 k95 hk74 hk95 x1 x2 x3 x4 s0 x6 M2)
    · refine g_iload X dX5_rerunStale_138 rfl ?_
      refine g_goto (tgt := 145) X dX5_rerunStale_140 (by decide) ?_
      exact g_pick [1, 2, 3, 4, 0, 6] rfl (wR_rerunStale_b145 X n k74 k95 hk74 hk95 x1 x2 x3 s0 x6 x6 M2)
def fR_rerunStale_b195 (n : Nat) (k74 : Int32 → Int32 → Int32 → MR → Option (Int32 × MR)) (x1 : Int32) (x2 : Int32) (x3 : Int32) (M : MR) : Option (Int32 × MR) :=
    k74 x1 x2 (x3 + (nI 1)) M
theorem wR_rerunStale_b195 (X : gX p s m args meth c cX5_rerunStale 7 RX5 (some .int) D (tyR cI cZ)) (n : Nat) (k74 : Int32 → Int32 → Int32 → MR → Option (Int32 × MR)) (hk74 : ∀ (x1 : Int32) (x2 : Int32) (x3 : Int32) (M : MR), gG p l e (rmR 10 231) s m args below meth c 7 (ZR D cI cZ q (AR q s.heap.size) s.heap M) 0 0 (fun r => MQ below (QI D cI cZ q s.heap.size r) args s 0 0 (AR q s.heap.size)) 74 [(0, .ref (q 34)), (1, .int x1), (2, .int x2), (3, .int x3)] [] (k74 x1 x2 x3 M)) (x1 : Int32) (x2 : Int32) (x3 : Int32) (M : MR) : gG p l e (rmR 10 231) s m args below meth c 7 (ZR D cI cZ q (AR q s.heap.size) s.heap M) 0 0 (fun r => MQ below (QI D cI cZ q s.heap.size r) args s 0 0 (AR q s.heap.size)) 195 [(0, .ref (q 34)), (1, .int x1), (2, .int x2), (3, .int x3)] [] (fR_rerunStale_b195 n k74 x1 x2 x3 M) := by
  unfold fR_rerunStale_b195
  refine g_iinc (v := (nI 1)) (lv' := [(3, .int (x3 + (nI 1))), (0, .ref (q 34)), (1, .int x1), (2, .int x2)]) X dX5_rerunStale_195 rfl (by decide) (by decide) rfl ?_
  refine g_goto (tgt := 74) X dX5_rerunStale_198 (by decide) ?_
  exact g_pick [1, 2, 3, 0] rfl (hk74 x1 x2 (x3 + (nI 1)) M)
def fR_rerunStale_b165 (n : Nat) (k74 : Int32 → Int32 → Int32 → MR → Option (Int32 × MR)) (x1 : Int32) (x2 : Int32) (x3 : Int32) (s0 : Int32) (M : MR) : Option (Int32 × MR) :=
    wz M 29 40 s0 (nI 0) fun M1 =>
    bnd (fR_lookAtCell n s0 M1) fun v2 M2 =>
    if 0 ≤ v2 then
      (fR_rerunStale_b195 n k74 x1 x2 x3 M2)
    else
      (bnd (fR_run n s0 M2) fun v3 M3 =>
      fR_rerunStale_b195 n k74 x1 (x2 + (nI 1)) x3 M3)
theorem wR_rerunStale_b165 (X : gX p s m args meth c cX5_rerunStale 7 RX5 (some .int) D (tyR cI cZ)) (n : Nat) (k74 : Int32 → Int32 → Int32 → MR → Option (Int32 × MR)) (hk74 : ∀ (x1 : Int32) (x2 : Int32) (x3 : Int32) (M : MR), gG p l e (rmR 10 231) s m args below meth c 7 (ZR D cI cZ q (AR q s.heap.size) s.heap M) 0 0 (fun r => MQ below (QI D cI cZ q s.heap.size r) args s 0 0 (AR q s.heap.size)) 74 [(0, .ref (q 34)), (1, .int x1), (2, .int x2), (3, .int x3)] [] (k74 x1 x2 x3 M)) (x1 : Int32) (x2 : Int32) (x3 : Int32) (s0 : Int32) (M : MR) : gG p l e (rmR 10 231) s m args below meth c 7 (ZR D cI cZ q (AR q s.heap.size) s.heap M) 0 0 (fun r => MQ below (QI D cI cZ q s.heap.size r) args s 0 0 (AR q s.heap.size)) 165 [(0, .ref (q 34)), (1, .int x1), (2, .int x2), (3, .int x3)] [.int s0] (fR_rerunStale_b165 n k74 x1 x2 x3 s0 M) := by
  unfold fR_rerunStale_b165
  refine g_istore (lv' := [(4, .int s0), (0, .ref (q 34)), (1, .int x1), (2, .int x2), (3, .int x3)]) X dX5_rerunStale_165 (by decide) rfl ?_
  refine g_aload_n X dX5_rerunStale_167 rfl rfl ?_
  refine r_g_waits X dX5_rerunStale_168 ?_
  refine g_iload X dX5_rerunStale_171 rfl ?_
  refine g_iconst (v := (nI 0)) X dX5_rerunStale_173 (by decide) ?_
  refine r_s_waits X dX5_rerunStale_174 ?_
  intro M1
  refine g_aload_n X dX5_rerunStale_175 rfl rfl ?_
  refine g_iload X dX5_rerunStale_176 rfl ?_
  refine k_lookAtCell X ⟨Nat.le_of_ble_eq_true rfl, Nat.le_of_ble_eq_true rfl⟩ (Nat.le_of_ble_eq_true rfl) dX5_rerunStale_178 ?_
  intro v2 M2
  refine g_if_ge (tgt := 195) X dX5_rerunStale_181 (by decide) ?_ ?_
  · exact g_pick [1, 2, 3, 4] rfl (wR_rerunStale_b195 X n k74 hk74 x1 x2 x3 M2)
  · refine g_aload_n X dX5_rerunStale_184 rfl rfl ?_
    refine g_iload X dX5_rerunStale_185 rfl ?_
    refine k_run X ⟨Nat.le_of_ble_eq_true rfl, Nat.le_of_ble_eq_true rfl⟩ (Nat.le_of_ble_eq_true rfl) dX5_rerunStale_187 ?_
    intro v3 M3
    refine g_istore (lv' := [(6, .int v3), (4, .int s0), (0, .ref (q 34)), (1, .int x1), (2, .int x2), (3, .int x3)]) X dX5_rerunStale_190 (by decide) rfl ?_
    refine g_iinc (v := (nI 1)) (lv' := [(2, .int (x2 + (nI 1))), (6, .int v3), (4, .int s0), (0, .ref (q 34)), (1, .int x1), (3, .int x3)]) X dX5_rerunStale_192 rfl (by decide) (by decide) rfl ?_
    exact g_pick [3, 4, 0, 5] rfl (wR_rerunStale_b195 X n k74 hk74 x1 (x2 + (nI 1)) x3 M3)
def fR_rerunStale_l95 (n : Nat) (k74 : Int32 → Int32 → Int32 → MR → Option (Int32 × MR)) : Nat → Int32 → Int32 → Int32 → Int32 → Int32 → Int32 → MR → Option (Int32 × MR)
  | 0, _, _, _, _, _, _, _ => none
  | k + 1, x1, x2, x3, x4, x5, x6, M => if x6 < 0 then
      (if 0 ≤ x4 then (fR_rerunStale_b165 n k74 x1 x2 x3 x4 M) else (fR_rerunStale_b165 n k74 x1 x2 x3 x5 M))
    else
      (rd M 29 40 x6 fun v1 =>
      if v1 = 0 then
        (fR_rerunStale_b117 n k74 (fR_rerunStale_l95 n k74 k) x1 x2 x3 x4 x6 x5 M)
      else
        (fR_rerunStale_b117 n k74 (fR_rerunStale_l95 n k74 k) x1 x2 x3 x4 x6 x6 M))
theorem wR_rerunStale_l95 (X : gX p s m args meth c cX5_rerunStale 7 RX5 (some .int) D (tyR cI cZ)) (n : Nat) (k74 : Int32 → Int32 → Int32 → MR → Option (Int32 × MR)) (hk74 : ∀ (x1 : Int32) (x2 : Int32) (x3 : Int32) (M : MR), gG p l e (rmR 10 231) s m args below meth c 7 (ZR D cI cZ q (AR q s.heap.size) s.heap M) 0 0 (fun r => MQ below (QI D cI cZ q s.heap.size r) args s 0 0 (AR q s.heap.size)) 74 [(0, .ref (q 34)), (1, .int x1), (2, .int x2), (3, .int x3)] [] (k74 x1 x2 x3 M)) : ∀ (k : Nat) (x1 : Int32) (x2 : Int32) (x3 : Int32) (x4 : Int32) (x5 : Int32) (x6 : Int32) (M : MR), gG p l e (rmR 10 231) s m args below meth c 7 (ZR D cI cZ q (AR q s.heap.size) s.heap M) 0 0 (fun r => MQ below (QI D cI cZ q s.heap.size r) args s 0 0 (AR q s.heap.size)) 95 [(0, .ref (q 34)), (1, .int x1), (2, .int x2), (3, .int x3), (4, .int x4), (5, .int x5), (6, .int x6)] [] (fR_rerunStale_l95 n k74 k x1 x2 x3 x4 x5 x6 M) := by
  intro k
  induction k with
  | zero =>
    intro x1 x2 x3 x4 x5 x6 M
    exact g_none
  | succ k ih =>
    intro x1 x2 x3 x4 x5 x6 M
    rw [fR_rerunStale_l95]
    refine g_iload X dX5_rerunStale_95 rfl ?_
    refine g_if_lt (tgt := 153) X dX5_rerunStale_97 (by decide) ?_ ?_
    · refine g_iload X dX5_rerunStale_153 rfl ?_
      refine g_if_ge (tgt := 163) X dX5_rerunStale_155 (by decide) ?_ ?_
      · refine g_iload X dX5_rerunStale_163 rfl ?_
        exact g_pick [0, 1, 2, 3] rfl (wR_rerunStale_b165 X n k74 hk74 x1 x2 x3 x4 M)
      · refine g_iload X dX5_rerunStale_158 rfl ?_
        refine g_goto (tgt := 165) X dX5_rerunStale_160 (by decide) ?_
        exact g_pick [0, 1, 2, 3] rfl (wR_rerunStale_b165 X n k74 hk74 x1 x2 x3 x5 M)
    · refine g_aload_n X dX5_rerunStale_100 rfl rfl ?_
      refine r_g_waits X dX5_rerunStale_101 ?_
      refine g_iload X dX5_rerunStale_104 rfl ?_
      refine r_l_waits X dX5_rerunStale_106 ?_
      intro v1
      refine g_if_eq (tgt := 115) X dX5_rerunStale_107 (by decide) ?_ ?_
      · refine g_iload X dX5_rerunStale_115 rfl ?_
        exact g_pick [0, 1, 2, 3, 4, 6] rfl (wR_rerunStale_b117 X n k74 (fR_rerunStale_l95 n k74 k) hk74 ih x1 x2 x3 x4 x6 x5 M)
      · refine g_iload X dX5_rerunStale_110 rfl ?_
        refine g_goto (tgt := 117) X dX5_rerunStale_112 (by decide) ?_
        exact g_pick [0, 1, 2, 3, 4, 6] rfl (wR_rerunStale_b117 X n k74 (fR_rerunStale_l95 n k74 k) hk74 ih x1 x2 x3 x4 x6 x6 M)
def fR_rerunStale_l74 (n : Nat) : Nat → Int32 → Int32 → Int32 → MR → Option (Int32 × MR)
  | 0, _, _, _, _ => none
  | k + 1, x1, x2, x3, M => if x1 ≤ x3 then
      (some (x2, M))
    else
      (rd M 0 62610 (nI 0) fun v1 =>
      fR_rerunStale_l95 n (fR_rerunStale_l74 n k) n x1 x2 x3 (-1 : Int32) (-1 : Int32) (v1 - (nI 1)) M)
theorem wR_rerunStale_l74 (X : gX p s m args meth c cX5_rerunStale 7 RX5 (some .int) D (tyR cI cZ)) (n : Nat) : ∀ (k : Nat) (x1 : Int32) (x2 : Int32) (x3 : Int32) (M : MR), gG p l e (rmR 10 231) s m args below meth c 7 (ZR D cI cZ q (AR q s.heap.size) s.heap M) 0 0 (fun r => MQ below (QI D cI cZ q s.heap.size r) args s 0 0 (AR q s.heap.size)) 74 [(0, .ref (q 34)), (1, .int x1), (2, .int x2), (3, .int x3)] [] (fR_rerunStale_l74 n k x1 x2 x3 M) := by
  intro k
  induction k with
  | zero =>
    intro x1 x2 x3 M
    exact g_none
  | succ k ih =>
    intro x1 x2 x3 M
    rw [fR_rerunStale_l74]
    refine g_iload_n X dX5_rerunStale_74 rfl rfl ?_
    refine g_iload_n X dX5_rerunStale_75 rfl rfl ?_
    refine g_icmp_ge (tgt := 201) X dX5_rerunStale_76 (by decide) ?_ ?_
    · refine g_iload_n X dX5_rerunStale_201 rfl rfl ?_
      exact r_iret X dX5_rerunStale_202
    · refine g_iconst (v := (-1 : Int32)) X dX5_rerunStale_79 (by decide) ?_
      refine g_istore (lv' := [(4, .int (-1 : Int32)), (0, .ref (q 34)), (1, .int x1), (2, .int x2), (3, .int x3)]) X dX5_rerunStale_80 (by decide) rfl ?_
      refine g_iconst (v := (-1 : Int32)) X dX5_rerunStale_82 (by decide) ?_
      refine g_istore (lv' := [(5, .int (-1 : Int32)), (4, .int (-1 : Int32)), (0, .ref (q 34)), (1, .int x1), (2, .int x2), (3, .int x3)]) X dX5_rerunStale_83 (by decide) rfl ?_
      refine g_aload_n X dX5_rerunStale_85 rfl rfl ?_
      refine r_g_m X dX5_rerunStale_86 ?_
      refine g_iconst (v := (nI 0)) X dX5_rerunStale_89 (by decide) ?_
      refine r_l_m X dX5_rerunStale_90 ?_
      intro v1
      refine g_iconst (v := (nI 1)) X dX5_rerunStale_91 (by decide) ?_
      refine g_isub X dX5_rerunStale_92 ?_
      refine g_istore (lv' := [(6, .int (v1 - (nI 1))), (5, .int (-1 : Int32)), (4, .int (-1 : Int32)), (0, .ref (q 34)), (1, .int x1), (2, .int x2), (3, .int x3)]) X dX5_rerunStale_93 (by decide) rfl ?_
      exact g_pick [3, 4, 5, 6, 2, 1, 0] rfl (wR_rerunStale_l95 X n (fR_rerunStale_l74 n k) ih n x1 x2 x3 (-1 : Int32) (-1 : Int32) (v1 - (nI 1)) M)
def fR_rerunStale_l8 (n : Nat) : Nat → Int32 → Int32 → MR → Option (Int32 × MR)
  | 0, _, _, _ => none
  | k + 1, x1, x2, M => rd M 0 62610 (nI 0) fun v1 =>
    if v1 ≤ x2 then
      (rd M 0 62610 (nI 1) fun v2 =>
      if (v2 + x1) ≤ (nI 150) then (fR_rerunStale_l74 n n x1 (nI 0) (nI 0) M) else (some ((-2 : Int32), M)))
    else
      (rd M 28 40 x2 fun v3 =>
      wz M 29 40 x2 v3 fun M4 =>
      rd M4 28 40 x2 fun v5 =>
      if v5 = 0 then
        (fR_rerunStale_b45 n (fR_rerunStale_l8 n k) x2 x1 (nI 0) M4)
      else
        (fR_rerunStale_b45 n (fR_rerunStale_l8 n k) x2 x1 (nI 1) M4))
theorem wR_rerunStale_l8 (X : gX p s m args meth c cX5_rerunStale 7 RX5 (some .int) D (tyR cI cZ)) (n : Nat) : ∀ (k : Nat) (x1 : Int32) (x2 : Int32) (M : MR), gG p l e (rmR 10 231) s m args below meth c 7 (ZR D cI cZ q (AR q s.heap.size) s.heap M) 0 0 (fun r => MQ below (QI D cI cZ q s.heap.size r) args s 0 0 (AR q s.heap.size)) 8 [(0, .ref (q 34)), (1, .int x1), (2, .int x2)] [] (fR_rerunStale_l8 n k x1 x2 M) := by
  intro k
  induction k with
  | zero =>
    intro x1 x2 M
    exact g_none
  | succ k ih =>
    intro x1 x2 M
    rw [fR_rerunStale_l8]
    refine g_iload_n X dX5_rerunStale_8 rfl rfl ?_
    refine g_aload_n X dX5_rerunStale_9 rfl rfl ?_
    refine r_g_m X dX5_rerunStale_10 ?_
    refine g_iconst (v := (nI 0)) X dX5_rerunStale_13 (by decide) ?_
    refine r_l_m X dX5_rerunStale_14 ?_
    intro v1
    refine g_icmp_ge (tgt := 53) X dX5_rerunStale_15 (by decide) ?_ ?_
    · refine g_aload_n X dX5_rerunStale_53 rfl rfl ?_
      refine r_g_m X dX5_rerunStale_54 ?_
      refine g_iconst (v := (nI 1)) X dX5_rerunStale_57 (by decide) ?_
      refine r_l_m X dX5_rerunStale_58 ?_
      intro v2
      refine g_iload_n X dX5_rerunStale_59 rfl rfl ?_
      refine g_iadd X dX5_rerunStale_60 ?_
      refine g_sipush (v := (nI 150)) X dX5_rerunStale_61 (by decide) ?_
      refine g_icmp_le (tgt := 70) X dX5_rerunStale_64 (by decide) ?_ ?_
      · refine g_iconst (v := (nI 0)) X dX5_rerunStale_70 (by decide) ?_
        refine g_istore_n (lv' := [(2, .int (nI 0)), (0, .ref (q 34)), (1, .int x1)]) X dX5_rerunStale_71 rfl (by decide) rfl ?_
        refine g_iconst (v := (nI 0)) X dX5_rerunStale_72 (by decide) ?_
        refine g_istore_n (lv' := [(3, .int (nI 0)), (2, .int (nI 0)), (0, .ref (q 34)), (1, .int x1)]) X dX5_rerunStale_73 rfl (by decide) rfl ?_
        exact g_pick [2, 3, 1, 0] rfl (wR_rerunStale_l74 X n n x1 (nI 0) (nI 0) M)
      · refine g_bipush (v := (-2 : Int32)) X dX5_rerunStale_67 (by decide) ?_
        exact r_iret X dX5_rerunStale_69
    · refine g_aload_n X dX5_rerunStale_18 rfl rfl ?_
      refine r_g_waits X dX5_rerunStale_19 ?_
      refine g_iload_n X dX5_rerunStale_22 rfl rfl ?_
      refine g_aload_n X dX5_rerunStale_23 rfl rfl ?_
      refine r_g_isStale X dX5_rerunStale_24 ?_
      refine g_iload_n X dX5_rerunStale_27 rfl rfl ?_
      refine r_l_isStale X dX5_rerunStale_28 ?_
      intro v3
      refine r_s_waits X dX5_rerunStale_29 ?_
      intro M4
      refine g_iload_n X dX5_rerunStale_30 rfl rfl ?_
      refine g_aload_n X dX5_rerunStale_31 rfl rfl ?_
      refine r_g_isStale X dX5_rerunStale_32 ?_
      refine g_iload_n X dX5_rerunStale_35 rfl rfl ?_
      refine r_l_isStale X dX5_rerunStale_36 ?_
      intro v5
      refine g_if_eq (tgt := 44) X dX5_rerunStale_37 (by decide) ?_ ?_
      · refine g_iconst (v := (nI 0)) X dX5_rerunStale_44 (by decide) ?_
        exact g_pick [0, 2] rfl (wR_rerunStale_b45 X n (fR_rerunStale_l8 n k) ih x2 x1 (nI 0) M4)
      · refine g_iconst (v := (nI 1)) X dX5_rerunStale_40 (by decide) ?_
        refine g_goto (tgt := 45) X dX5_rerunStale_41 (by decide) ?_
        exact g_pick [0, 2] rfl (wR_rerunStale_b45 X n (fR_rerunStale_l8 n k) ih x2 x1 (nI 1) M4)
def fR_rerunStale (n : Nat) (M : MR) : Option (Int32 × MR) :=
    bnd (fR_tellStale n M) fun _ M1 =>
    fR_rerunStale_l8 n n (nI 0) (nI 0) M1
theorem c_rerunStale (l : Launch) (D : va_G) (cI cZ : ClassId) (q : Nat → Nat) (n : Nat) (M : MR) : MetR l D cI cZ q yX5_rerunStale cX5_rerunStale 7 (some .int) 10 231 QI [.ref (q 34)] M (fR_rerunStale n M) := by
  refine MetR.of (by decide) rfl (Nat.le_of_ble_eq_true rfl) ?_
  intro p e s m args below meth c X
  unfold fR_rerunStale
  refine g_pick (lv' := [(0, .ref (q 34))]) [0] rfl ?_
  refine g_aload_n X dX5_rerunStale_0 rfl rfl ?_
  refine k_tellStale X ⟨Nat.le_of_ble_eq_true rfl, Nat.le_of_ble_eq_true rfl⟩ (Nat.le_of_ble_eq_true rfl) dX5_rerunStale_1 ?_
  intro v1 M1
  refine g_iconst (v := (nI 0)) X dX5_rerunStale_4 (by decide) ?_
  refine g_istore_n (lv' := [(1, .int (nI 0)), (0, .ref (q 34))]) X dX5_rerunStale_5 rfl (by decide) rfl ?_
  refine g_iconst (v := (nI 0)) X dX5_rerunStale_6 (by decide) ?_
  refine g_istore_n (lv' := [(2, .int (nI 0)), (1, .int (nI 0)), (0, .ref (q 34))]) X dX5_rerunStale_7 rfl (by decide) rfl ?_
  exact g_pick [2, 1, 0] rfl (wR_rerunStale_l8 X n n (nI 0) (nI 0) M1)
-- forget
def fR_forget_b22 (n : Nat) (x1 : Int32) (s0 : Int32) (M : MR) : Option (Int32 × MR) :=
    wr M 0 62610 ((nI 4) + x1) (nI 0) fun M1 =>
    some (s0, M1)
theorem wR_forget_b22 (X : gX p s m args meth c cX5_forget 3 RX5 (some .int) D (tyR cI cZ)) (n : Nat) (x1 : Int32) (s0 : Int32) (M : MR) : gG p l e (rmR 2 41) s m args below meth c 3 (ZR D cI cZ q (AR q s.heap.size) s.heap M) 0 0 (fun r => MQ below (QI D cI cZ q s.heap.size r) args s 0 0 (AR q s.heap.size)) 22 [(0, .ref (q 34)), (1, .int x1)] [.int s0] (fR_forget_b22 n x1 s0 M) := by
  unfold fR_forget_b22
  refine g_istore_n (lv' := [(2, .int s0), (0, .ref (q 34)), (1, .int x1)]) X dX5_forget_22 rfl (by decide) rfl ?_
  refine g_aload_n X dX5_forget_23 rfl rfl ?_
  refine r_g_m X dX5_forget_24 ?_
  refine g_iconst (v := (nI 4)) X dX5_forget_27 (by decide) ?_
  refine g_iload_n X dX5_forget_28 rfl rfl ?_
  refine g_iadd X dX5_forget_29 ?_
  refine g_iconst (v := (nI 0)) X dX5_forget_30 (by decide) ?_
  refine r_s_m X dX5_forget_31 ?_
  intro M1
  refine g_iload_n X dX5_forget_32 rfl rfl ?_
  exact r_iret X dX5_forget_33
def fR_forget (n : Nat) (x1 : Int32) (M : MR) : Option (Int32 × MR) :=
    bnd (fR_isName n x1 M) fun v1 M1 =>
    if v1 = 0 then
      (some ((-1 : Int32), M1))
    else
      (bnd (fR_newest n x1 M1) fun v2 M2 =>
      if 0 ≤ v2 then (fR_forget_b22 n x1 (nI 1) M2) else (fR_forget_b22 n x1 (nI 0) M2))
theorem c_forget (l : Launch) (D : va_G) (cI cZ : ClassId) (q : Nat → Nat) (n : Nat) (x1 : Int32) (M : MR) : MetR l D cI cZ q yX5_forget cX5_forget 3 (some .int) 2 41 QI [.ref (q 34), .int x1] M (fR_forget n x1 M) := by
  refine MetR.of (by decide) rfl (Nat.le_of_ble_eq_true rfl) ?_
  intro p e s m args below meth c X
  unfold fR_forget
  refine g_pick (lv' := [(0, .ref (q 34)), (1, .int x1)]) [0, 1] rfl ?_
  refine g_iload_n X dX5_forget_0 rfl rfl ?_
  refine k_isName X ⟨Nat.le_of_ble_eq_true rfl, Nat.le_of_ble_eq_true rfl⟩ (Nat.le_of_ble_eq_true rfl) dX5_forget_1 ?_
  intro v1 M1
  refine g_if_ne (tgt := 9) X dX5_forget_4 (by decide) ?_ ?_
  · refine g_aload_n X dX5_forget_9 rfl rfl ?_
    refine g_iload_n X dX5_forget_10 rfl rfl ?_
    refine k_newest X ⟨Nat.le_of_ble_eq_true rfl, Nat.le_of_ble_eq_true rfl⟩ (Nat.le_of_ble_eq_true rfl) dX5_forget_11 ?_
    intro v2 M2
    refine g_if_ge (tgt := 21) X dX5_forget_14 (by decide) ?_ ?_
    · refine g_iconst (v := (nI 1)) X dX5_forget_21 (by decide) ?_
      exact g_pick [0, 1] rfl (wR_forget_b22 X n x1 (nI 1) M2)
    · refine g_iconst (v := (nI 0)) X dX5_forget_17 (by decide) ?_
      refine g_goto (tgt := 22) X dX5_forget_18 (by decide) ?_
      exact g_pick [0, 1] rfl (wR_forget_b22 X n x1 (nI 0) M2)
  · refine g_iconst (v := (-1 : Int32)) X dX5_forget_7 (by decide) ?_
    exact r_iret X dX5_forget_8
-- of
def fR_of (n : Nat) (x1 : Int32) (x2 : Int32) (M : MR) : Option (Int32 × MR) :=
    bnd (fR_isCell n x1 M) fun v1 M1 =>
    if v1 = 0 then
      (some ((-3 : Int32), M1))
    else
      (bnd (fR_cellAt n x1 M1) fun v2 M2 =>
      if x2 = (nI 0) then
        (rd M2 0 62610 (v2 + (nI 3)) fun v4 =>
        some (v4, M2))
      else if x2 = (nI 1) then
        (rd M2 0 62610 (v2 + (nI 4)) fun v6 =>
        some (v6, M2))
      else if x2 = (nI 2) then
        (rd M2 0 62610 (v2 + (nI 5)) fun v8 =>
        some (v8, M2))
      else if x2 = (nI 3) then
        (rd M2 0 62610 (v2 + (nI 6)) fun v10 =>
        some (v10, M2))
      else if x2 = (nI 4) then
        (rd M2 0 62610 (v2 + (nI 7)) fun v12 =>
        some ((v12 - (nI 1)), M2))
      else if x2 = (nI 5) then
        (rd M2 0 62610 (v2 + (nI 0)) fun v14 =>
        some (v14, M2))
      else if x2 = (nI 6) then
        (rd M2 0 62610 (v2 + (nI 1)) fun v16 =>
        some (v16, M2))
      else if x2 = (nI 7) then
        (rd M2 0 62610 (v2 + (nI 8)) fun v18 =>
        some (v18, M2))
      else if x2 = (nI 8) then
        (rd M2 0 62610 (v2 + (nI 2)) fun v20 =>
        some (v20, M2))
      else (some ((-3 : Int32), M2)))
theorem c_of (l : Launch) (D : va_G) (cI cZ : ClassId) (q : Nat → Nat) (n : Nat) (x1 : Int32) (x2 : Int32) (M : MR) : MetR l D cI cZ q yX5_of cX5_of 4 (some .int) 1 21 QI [.ref (q 34), .int x1, .int x2] M (fR_of n x1 x2 M) := by
  refine MetR.of (by decide) rfl (Nat.le_of_ble_eq_true rfl) ?_
  intro p e s m args below meth c X
  unfold fR_of
  refine g_pick (lv' := [(0, .ref (q 34)), (1, .int x1), (2, .int x2)]) [0, 1, 2] rfl ?_
  refine g_aload_n X dX5_of_0 rfl rfl ?_
  refine g_iload_n X dX5_of_1 rfl rfl ?_
  refine k_isCell X ⟨Nat.le_of_ble_eq_true rfl, Nat.le_of_ble_eq_true rfl⟩ (Nat.le_of_ble_eq_true rfl) dX5_of_2 ?_
  intro v1 M1
  refine g_if_ne (tgt := 11) X dX5_of_5 (by decide) ?_ ?_
  · refine g_iload_n X dX5_of_11 rfl rfl ?_
    refine k_cellAt X ⟨Nat.le_of_ble_eq_true rfl, Nat.le_of_ble_eq_true rfl⟩ (Nat.le_of_ble_eq_true rfl) dX5_of_12 ?_
    intro v2 M2
    refine g_istore_n (lv' := [(3, .int v2), (0, .ref (q 34)), (1, .int x1), (2, .int x2)]) X dX5_of_15 rfl (by decide) rfl ?_
    refine g_iload_n X dX5_of_16 rfl rfl ?_
    refine g_ite (fun h3 => ?_) (fun h3 => ?_)
    · refine g_tIn (off := 51) (tgt := 68) X dX5_of_17 (by rw [h3]; decide) (by rw [h3]; decide) (by rw [h3]; rfl) (by decide) ?_
      refine g_aload_n X dX5_of_68 rfl rfl ?_
      refine r_g_m X dX5_of_69 ?_
      refine g_iload_n X dX5_of_72 rfl rfl ?_
      refine g_iconst (v := (nI 3)) X dX5_of_73 (by decide) ?_
      refine g_iadd X dX5_of_74 ?_
      refine r_l_m X dX5_of_75 ?_
      intro v4
      exact r_iret X dX5_of_76
    have eh3 := tn_i (n := 0) h3 (by decide)
    refine g_ite (fun h5 => ?_) (fun h5 => ?_)
    · refine g_tIn (off := 60) (tgt := 77) X dX5_of_17 (by rw [h5]; decide) (by rw [h5]; decide) (by rw [h5]; rfl) (by decide) ?_
      refine g_aload_n X dX5_of_77 rfl rfl ?_
      refine r_g_m X dX5_of_78 ?_
      refine g_iload_n X dX5_of_81 rfl rfl ?_
      refine g_iconst (v := (nI 4)) X dX5_of_82 (by decide) ?_
      refine g_iadd X dX5_of_83 ?_
      refine r_l_m X dX5_of_84 ?_
      intro v6
      exact r_iret X dX5_of_85
    have eh5 := tn_i (n := 1) h5 (by decide)
    refine g_ite (fun h7 => ?_) (fun h7 => ?_)
    · refine g_tIn (off := 69) (tgt := 86) X dX5_of_17 (by rw [h7]; decide) (by rw [h7]; decide) (by rw [h7]; rfl) (by decide) ?_
      refine g_aload_n X dX5_of_86 rfl rfl ?_
      refine r_g_m X dX5_of_87 ?_
      refine g_iload_n X dX5_of_90 rfl rfl ?_
      refine g_iconst (v := (nI 5)) X dX5_of_91 (by decide) ?_
      refine g_iadd X dX5_of_92 ?_
      refine r_l_m X dX5_of_93 ?_
      intro v8
      exact r_iret X dX5_of_94
    have eh7 := tn_i (n := 2) h7 (by decide)
    refine g_ite (fun h9 => ?_) (fun h9 => ?_)
    · refine g_tIn (off := 78) (tgt := 95) X dX5_of_17 (by rw [h9]; decide) (by rw [h9]; decide) (by rw [h9]; rfl) (by decide) ?_
      refine g_aload_n X dX5_of_95 rfl rfl ?_
      refine r_g_m X dX5_of_96 ?_
      refine g_iload_n X dX5_of_99 rfl rfl ?_
      refine g_bipush (v := (nI 6)) X dX5_of_100 (by decide) ?_
      refine g_iadd X dX5_of_102 ?_
      refine r_l_m X dX5_of_103 ?_
      intro v10
      exact r_iret X dX5_of_104
    have eh9 := tn_i (n := 3) h9 (by decide)
    refine g_ite (fun h11 => ?_) (fun h11 => ?_)
    · refine g_tIn (off := 88) (tgt := 105) X dX5_of_17 (by rw [h11]; decide) (by rw [h11]; decide) (by rw [h11]; rfl) (by decide) ?_
      refine g_aload_n X dX5_of_105 rfl rfl ?_
      refine r_g_m X dX5_of_106 ?_
      refine g_iload_n X dX5_of_109 rfl rfl ?_
      refine g_bipush (v := (nI 7)) X dX5_of_110 (by decide) ?_
      refine g_iadd X dX5_of_112 ?_
      refine r_l_m X dX5_of_113 ?_
      intro v12
      refine g_iconst (v := (nI 1)) X dX5_of_114 (by decide) ?_
      refine g_isub X dX5_of_115 ?_
      exact r_iret X dX5_of_116
    have eh11 := tn_i (n := 4) h11 (by decide)
    refine g_ite (fun h13 => ?_) (fun h13 => ?_)
    · refine g_tIn (off := 100) (tgt := 117) X dX5_of_17 (by rw [h13]; decide) (by rw [h13]; decide) (by rw [h13]; rfl) (by decide) ?_
      refine g_aload_n X dX5_of_117 rfl rfl ?_
      refine r_g_m X dX5_of_118 ?_
      refine g_iload_n X dX5_of_121 rfl rfl ?_
      refine g_iconst (v := (nI 0)) X dX5_of_122 (by decide) ?_
      refine g_iadd X dX5_of_123 ?_
      refine r_l_m X dX5_of_124 ?_
      intro v14
      exact r_iret X dX5_of_125
    have eh13 := tn_i (n := 5) h13 (by decide)
    refine g_ite (fun h15 => ?_) (fun h15 => ?_)
    · refine g_tIn (off := 109) (tgt := 126) X dX5_of_17 (by rw [h15]; decide) (by rw [h15]; decide) (by rw [h15]; rfl) (by decide) ?_
      refine g_aload_n X dX5_of_126 rfl rfl ?_
      refine r_g_m X dX5_of_127 ?_
      refine g_iload_n X dX5_of_130 rfl rfl ?_
      refine g_iconst (v := (nI 1)) X dX5_of_131 (by decide) ?_
      refine g_iadd X dX5_of_132 ?_
      refine r_l_m X dX5_of_133 ?_
      intro v16
      exact r_iret X dX5_of_134
    have eh15 := tn_i (n := 6) h15 (by decide)
    refine g_ite (fun h17 => ?_) (fun h17 => ?_)
    · refine g_tIn (off := 118) (tgt := 135) X dX5_of_17 (by rw [h17]; decide) (by rw [h17]; decide) (by rw [h17]; rfl) (by decide) ?_
      refine g_aload_n X dX5_of_135 rfl rfl ?_
      refine r_g_m X dX5_of_136 ?_
      refine g_iload_n X dX5_of_139 rfl rfl ?_
      refine g_bipush (v := (nI 8)) X dX5_of_140 (by decide) ?_
      refine g_iadd X dX5_of_142 ?_
      refine r_l_m X dX5_of_143 ?_
      intro v18
      exact r_iret X dX5_of_144
    have eh17 := tn_i (n := 7) h17 (by decide)
    refine g_ite (fun h19 => ?_) (fun h19 => ?_)
    · refine g_tIn (off := 128) (tgt := 145) X dX5_of_17 (by rw [h19]; decide) (by rw [h19]; decide) (by rw [h19]; rfl) (by decide) ?_
      refine g_aload_n X dX5_of_145 rfl rfl ?_
      refine r_g_m X dX5_of_146 ?_
      refine g_iload_n X dX5_of_149 rfl rfl ?_
      refine g_iconst (v := (nI 2)) X dX5_of_150 (by decide) ?_
      refine g_iadd X dX5_of_151 ?_
      refine r_l_m X dX5_of_152 ?_
      intro v20
      exact r_iret X dX5_of_153
    have eh19 := tn_i (n := 8) h19 (by decide)
    refine g_tOut (tgt := 154) X dX5_of_17 (by omega) (by decide) ?_
    refine g_bipush (v := (-3 : Int32)) X dX5_of_154 (by decide) ?_
    exact r_iret X dX5_of_156
  · refine g_bipush (v := (-3 : Int32)) X dX5_of_8 (by decide) ?_
    exact r_iret X dX5_of_10
-- leans
def fR_leans (n : Nat) (x1 : Int32) (x2 : Int32) (M : MR) : Option (Int32 × MR) :=
    bnd (fR_isCell n x1 M) fun v1 M1 =>
    if v1 = 0 then
      (some ((-1 : Int32), M1))
    else
      (if x2 < 0 then
        (some ((-1 : Int32), M1))
      else
        (bnd (fR_cellAt n x1 M1) fun v2 M2 =>
        rd M2 0 62610 (v2 + (nI 8)) fun v3 =>
        if x2 < v3 then
          (bnd (fR_cellAt n x1 M2) fun v4 M4 =>
          rd M4 0 62610 ((v4 + (nI 10)) + x2) fun v5 =>
          some (v5, M4))
        else
          (some ((-1 : Int32), M2))))
theorem c_leans (l : Launch) (D : va_G) (cI cZ : ClassId) (q : Nat → Nat) (n : Nat) (x1 : Int32) (x2 : Int32) (M : MR) : MetR l D cI cZ q yX5_leans cX5_leans 3 (some .int) 1 21 QI [.ref (q 34), .int x1, .int x2] M (fR_leans n x1 x2 M) := by
  refine MetR.of (by decide) rfl (Nat.le_of_ble_eq_true rfl) ?_
  intro p e s m args below meth c X
  unfold fR_leans
  refine g_pick (lv' := [(0, .ref (q 34)), (1, .int x1), (2, .int x2)]) [0, 1, 2] rfl ?_
  refine g_aload_n X dX5_leans_0 rfl rfl ?_
  refine g_iload_n X dX5_leans_1 rfl rfl ?_
  refine k_isCell X ⟨Nat.le_of_ble_eq_true rfl, Nat.le_of_ble_eq_true rfl⟩ (Nat.le_of_ble_eq_true rfl) dX5_leans_2 ?_
  intro v1 M1
  refine g_if_eq (tgt := 28) X dX5_leans_5 (by decide) ?_ ?_
  · refine g_iconst (v := (-1 : Int32)) X dX5_leans_28 (by decide) ?_
    refine g_goto (tgt := 46) X dX5_leans_29 (by decide) ?_
    exact r_iret X dX5_leans_46
  · refine g_iload_n X dX5_leans_8 rfl rfl ?_
    refine g_if_lt (tgt := 28) X dX5_leans_9 (by decide) ?_ ?_
    · refine g_iconst (v := (-1 : Int32)) X dX5_leans_28 (by decide) ?_
      refine g_goto (tgt := 46) X dX5_leans_29 (by decide) ?_
      exact r_iret X dX5_leans_46
    · refine g_iload_n X dX5_leans_12 rfl rfl ?_
      refine g_aload_n X dX5_leans_13 rfl rfl ?_
      refine r_g_m X dX5_leans_14 ?_
      refine g_iload_n X dX5_leans_17 rfl rfl ?_
      refine k_cellAt X ⟨Nat.le_of_ble_eq_true rfl, Nat.le_of_ble_eq_true rfl⟩ (Nat.le_of_ble_eq_true rfl) dX5_leans_18 ?_
      intro v2 M2
      refine g_bipush (v := (nI 8)) X dX5_leans_21 (by decide) ?_
      refine g_iadd X dX5_leans_23 ?_
      refine r_l_m X dX5_leans_24 ?_
      intro v3
      refine g_icmp_lt (tgt := 32) X dX5_leans_25 (by decide) ?_ ?_
      · refine g_aload_n X dX5_leans_32 rfl rfl ?_
        refine r_g_m X dX5_leans_33 ?_
        refine g_iload_n X dX5_leans_36 rfl rfl ?_
        refine k_cellAt X ⟨Nat.le_of_ble_eq_true rfl, Nat.le_of_ble_eq_true rfl⟩ (Nat.le_of_ble_eq_true rfl) dX5_leans_37 ?_
        intro v4 M4
        refine g_bipush (v := (nI 10)) X dX5_leans_40 (by decide) ?_
        refine g_iadd X dX5_leans_42 ?_
        refine g_iload_n X dX5_leans_43 rfl rfl ?_
        refine g_iadd X dX5_leans_44 ?_
        refine r_l_m X dX5_leans_45 ?_
        intro v5
        exact r_iret X dX5_leans_46
      · refine g_iconst (v := (-1 : Int32)) X dX5_leans_28 (by decide) ?_
        refine g_goto (tgt := 46) X dX5_leans_29 (by decide) ?_
        exact r_iret X dX5_leans_46
-- stale
def fR_stale (n : Nat) (x1 : Int32) (M : MR) : Option (Int32 × MR) :=
    bnd (fR_tellStale n M) fun _ M1 =>
    bnd (fR_isCell n x1 M1) fun v2 M2 =>
    if v2 = 0 then
      (zt (nI 0) (some ((nI 0), M2)))
    else
      (rd M2 28 40 x1 fun v3 =>
      if v3 = 0 then (zt (nI 0) (some ((nI 0), M2))) else (zt (nI 1) (some ((nI 1), M2))))
theorem c_stale (l : Launch) (D : va_G) (cI cZ : ClassId) (q : Nat → Nat) (n : Nat) (x1 : Int32) (M : MR) : MetR l D cI cZ q yX5_stale cX5_stale 2 (some .boolean) 3 65 QI [.ref (q 34), .int x1] M (fR_stale n x1 M) := by
  refine MetR.of (by decide) rfl (Nat.le_of_ble_eq_true rfl) ?_
  intro p e s m args below meth c X
  unfold fR_stale
  refine g_pick (lv' := [(0, .ref (q 34)), (1, .int x1)]) [0, 1] rfl ?_
  refine g_aload_n X dX5_stale_0 rfl rfl ?_
  refine k_tellStale X ⟨Nat.le_of_ble_eq_true rfl, Nat.le_of_ble_eq_true rfl⟩ (Nat.le_of_ble_eq_true rfl) dX5_stale_1 ?_
  intro v1 M1
  refine g_aload_n X dX5_stale_4 rfl rfl ?_
  refine g_iload_n X dX5_stale_5 rfl rfl ?_
  refine k_isCell X ⟨Nat.le_of_ble_eq_true rfl, Nat.le_of_ble_eq_true rfl⟩ (Nat.le_of_ble_eq_true rfl) dX5_stale_6 ?_
  intro v2 M2
  refine g_if_eq (tgt := 25) X dX5_stale_9 (by decide) ?_ ?_
  · refine g_iconst (v := (nI 0)) X dX5_stale_25 (by decide) ?_
    exact r_zret X dX5_stale_26
  · refine g_aload_n X dX5_stale_12 rfl rfl ?_
    refine r_g_isStale X dX5_stale_13 ?_
    refine g_iload_n X dX5_stale_16 rfl rfl ?_
    refine r_l_isStale X dX5_stale_17 ?_
    intro v3
    refine g_if_eq (tgt := 25) X dX5_stale_18 (by decide) ?_ ?_
    · refine g_iconst (v := (nI 0)) X dX5_stale_25 (by decide) ?_
      exact r_zret X dX5_stale_26
    · refine g_iconst (v := (nI 1)) X dX5_stale_21 (by decide) ?_
      refine g_goto (tgt := 26) X dX5_stale_22 (by decide) ?_
      exact r_zret X dX5_stale_26
end RM
