theorem dX4_forget_0 : decode cX4_forget 0 = .ok (.iload_n 1, 1) := by decide +kernel
theorem dX4_forget_1 : decode cX4_forget 1 = .ok (.invokestatic 60, 3) := by decide +kernel
theorem dX4_forget_4 : decode cX4_forget 4 = .ok (.ifCond .ne 5, 3) := by decide +kernel
theorem dX4_forget_7 : decode cX4_forget 7 = .ok (.iconst (-1), 1) := by decide +kernel
theorem dX4_forget_8 : decode cX4_forget 8 = .ok (.ireturn, 1) := by decide +kernel
theorem dX4_forget_9 : decode cX4_forget 9 = .ok (.aload_n 0, 1) := by decide +kernel
theorem dX4_forget_10 : decode cX4_forget 10 = .ok (.getfield 35, 3) := by decide +kernel
theorem dX4_forget_13 : decode cX4_forget 13 = .ok (.iload_n 1, 1) := by decide +kernel
theorem dX4_forget_14 : decode cX4_forget 14 = .ok (.invokevirtual 119, 3) := by decide +kernel
theorem dX4_forget_17 : decode cX4_forget 17 = .ok (.ifCond .eq 7, 3) := by decide +kernel
theorem dX4_forget_20 : decode cX4_forget 20 = .ok (.iconst 1, 1) := by decide +kernel
theorem dX4_forget_21 : decode cX4_forget 21 = .ok (.goto 4, 3) := by decide +kernel
theorem dX4_forget_24 : decode cX4_forget 24 = .ok (.iconst 0, 1) := by decide +kernel
theorem dX4_forget_25 : decode cX4_forget 25 = .ok (.ireturn, 1) := by decide +kernel
theorem dX4_of_0 : decode cX4_of 0 = .ok (.aload_n 0, 1) := by decide +kernel
theorem dX4_of_1 : decode cX4_of 1 = .ok (.getfield 35, 3) := by decide +kernel
theorem dX4_of_4 : decode cX4_of 4 = .ok (.getfield 64, 3) := by decide +kernel
theorem dX4_of_7 : decode cX4_of 7 = .ok (.iload_n 1, 1) := by decide +kernel
theorem dX4_of_8 : decode cX4_of 8 = .ok (.invokevirtual 92, 3) := by decide +kernel
theorem dX4_of_11 : decode cX4_of 11 = .ok (.ifCond .eq 13, 3) := by decide +kernel
theorem dX4_of_14 : decode cX4_of 14 = .ok (.iload_n 2, 1) := by decide +kernel
theorem dX4_of_15 : decode cX4_of 15 = .ok (.ifCond .lt 9, 3) := by decide +kernel
theorem dX4_of_18 : decode cX4_of 18 = .ok (.iload_n 2, 1) := by decide +kernel
theorem dX4_of_19 : decode cX4_of 19 = .ok (.bipush 8, 2) := by decide +kernel
theorem dX4_of_21 : decode cX4_of 21 = .ok (.if_icmp .le 6, 3) := by decide +kernel
theorem dX4_of_24 : decode cX4_of 24 = .ok (.bipush (-3), 2) := by decide +kernel
theorem dX4_of_26 : decode cX4_of 26 = .ok (.ireturn, 1) := by decide +kernel
theorem dX4_of_27 : decode cX4_of 27 = .ok (.aload_n 0, 1) := by decide +kernel
theorem dX4_of_28 : decode cX4_of 28 = .ok (.getfield 35, 3) := by decide +kernel
theorem dX4_of_31 : decode cX4_of 31 = .ok (.getfield 64, 3) := by decide +kernel
theorem dX4_of_34 : decode cX4_of 34 = .ok (.iload_n 1, 1) := by decide +kernel
theorem dX4_of_35 : decode cX4_of 35 = .ok (.iload_n 2, 1) := by decide +kernel
theorem dX4_of_36 : decode cX4_of 36 = .ok (.invokevirtual 95, 3) := by decide +kernel
theorem dX4_of_39 : decode cX4_of 39 = .ok (.ireturn, 1) := by decide +kernel
theorem dX4_leans_0 : decode cX4_leans 0 = .ok (.aload_n 0, 1) := by decide +kernel
theorem dX4_leans_1 : decode cX4_leans 1 = .ok (.getfield 35, 3) := by decide +kernel
theorem dX4_leans_4 : decode cX4_leans 4 = .ok (.getfield 64, 3) := by decide +kernel
theorem dX4_leans_7 : decode cX4_leans 7 = .ok (.iload_n 1, 1) := by decide +kernel
theorem dX4_leans_8 : decode cX4_leans 8 = .ok (.invokevirtual 92, 3) := by decide +kernel
theorem dX4_leans_11 : decode cX4_leans 11 = .ok (.ifCond .eq 24, 3) := by decide +kernel
theorem dX4_leans_14 : decode cX4_leans 14 = .ok (.iload_n 2, 1) := by decide +kernel
theorem dX4_leans_15 : decode cX4_leans 15 = .ok (.ifCond .lt 20, 3) := by decide +kernel
theorem dX4_leans_18 : decode cX4_leans 18 = .ok (.iload_n 2, 1) := by decide +kernel
theorem dX4_leans_19 : decode cX4_leans 19 = .ok (.aload_n 0, 1) := by decide +kernel
theorem dX4_leans_20 : decode cX4_leans 20 = .ok (.getfield 35, 3) := by decide +kernel
theorem dX4_leans_23 : decode cX4_leans 23 = .ok (.getfield 64, 3) := by decide +kernel
theorem dX4_leans_26 : decode cX4_leans 26 = .ok (.iload_n 1, 1) := by decide +kernel
theorem dX4_leans_27 : decode cX4_leans 27 = .ok (.bipush 7, 2) := by decide +kernel
theorem dX4_leans_29 : decode cX4_leans 29 = .ok (.invokevirtual 95, 3) := by decide +kernel
theorem dX4_leans_32 : decode cX4_leans 32 = .ok (.if_icmp .lt 5, 3) := by decide +kernel
theorem dX4_leans_35 : decode cX4_leans 35 = .ok (.iconst (-1), 1) := by decide +kernel
theorem dX4_leans_36 : decode cX4_leans 36 = .ok (.ireturn, 1) := by decide +kernel
theorem dX4_leans_37 : decode cX4_leans 37 = .ok (.aload_n 0, 1) := by decide +kernel
theorem dX4_leans_38 : decode cX4_leans 38 = .ok (.getfield 35, 3) := by decide +kernel
theorem dX4_leans_41 : decode cX4_leans 41 = .ok (.iload_n 1, 1) := by decide +kernel
theorem dX4_leans_42 : decode cX4_leans 42 = .ok (.iload_n 2, 1) := by decide +kernel
theorem dX4_leans_43 : decode cX4_leans 43 = .ok (.invokevirtual 122, 3) := by decide +kernel
theorem dX4_leans_46 : decode cX4_leans 46 = .ok (.ireturn, 1) := by decide +kernel
theorem dX4_stale_0 : decode cX4_stale 0 = .ok (.aload_n 0, 1) := by decide +kernel
theorem dX4_stale_1 : decode cX4_stale 1 = .ok (.getfield 35, 3) := by decide +kernel
theorem dX4_stale_4 : decode cX4_stale 4 = .ok (.getfield 64, 3) := by decide +kernel
theorem dX4_stale_7 : decode cX4_stale 7 = .ok (.iload_n 1, 1) := by decide +kernel
theorem dX4_stale_8 : decode cX4_stale 8 = .ok (.invokevirtual 92, 3) := by decide +kernel
theorem dX4_stale_11 : decode cX4_stale 11 = .ok (.ifCond .eq 21, 3) := by decide +kernel
theorem dX4_stale_14 : decode cX4_stale 14 = .ok (.aload_n 0, 1) := by decide +kernel
theorem dX4_stale_15 : decode cX4_stale 15 = .ok (.getfield 35, 3) := by decide +kernel
theorem dX4_stale_18 : decode cX4_stale 18 = .ok (.invokevirtual 101, 3) := by decide +kernel
theorem dX4_stale_21 : decode cX4_stale 21 = .ok (.iload_n 1, 1) := by decide +kernel
theorem dX4_stale_22 : decode cX4_stale 22 = .ok (.invokestatic 125, 3) := by decide +kernel
theorem dX4_stale_25 : decode cX4_stale 25 = .ok (.ifCond .eq 7, 3) := by decide +kernel
theorem dX4_stale_28 : decode cX4_stale 28 = .ok (.iconst 1, 1) := by decide +kernel
theorem dX4_stale_29 : decode cX4_stale 29 = .ok (.goto 4, 3) := by decide +kernel
theorem dX4_stale_32 : decode cX4_stale 32 = .ok (.iconst 0, 1) := by decide +kernel
theorem dX4_stale_33 : decode cX4_stale 33 = .ok (.ireturn, 1) := by decide +kernel
theorem dX4_written_0 : decode cX4_written 0 = .ok (.aload_n 0, 1) := by decide +kernel
theorem dX4_written_1 : decode cX4_written 1 = .ok (.getfield 35, 3) := by decide +kernel
theorem dX4_written_4 : decode cX4_written 4 = .ok (.getfield 64, 3) := by decide +kernel
theorem dX4_written_7 : decode cX4_written 7 = .ok (.iload_n 1, 1) := by decide +kernel
theorem dX4_written_8 : decode cX4_written 8 = .ok (.invokevirtual 92, 3) := by decide +kernel
theorem dX4_written_11 : decode cX4_written 11 = .ok (.ifCond .eq 29, 3) := by decide +kernel
theorem dX4_written_14 : decode cX4_written 14 = .ok (.iload_n 2, 1) := by decide +kernel
theorem dX4_written_15 : decode cX4_written 15 = .ok (.ifCond .lt 25, 3) := by decide +kernel
theorem dX4_written_18 : decode cX4_written 18 = .ok (.iload_n 2, 1) := by decide +kernel
theorem dX4_written_19 : decode cX4_written 19 = .ok (.bipush 20, 2) := by decide +kernel
theorem dX4_written_21 : decode cX4_written 21 = .ok (.if_icmp .ge 19, 3) := by decide +kernel
theorem dX4_written_24 : decode cX4_written 24 = .ok (.iload_n 2, 1) := by decide +kernel
theorem dX4_written_25 : decode cX4_written 25 = .ok (.aload_n 0, 1) := by decide +kernel
theorem dX4_written_26 : decode cX4_written 26 = .ok (.getfield 35, 3) := by decide +kernel
theorem dX4_written_29 : decode cX4_written 29 = .ok (.getfield 64, 3) := by decide +kernel
theorem dX4_written_32 : decode cX4_written 32 = .ok (.iload_n 1, 1) := by decide +kernel
theorem dX4_written_33 : decode cX4_written 33 = .ok (.iconst 3, 1) := by decide +kernel
theorem dX4_written_34 : decode cX4_written 34 = .ok (.invokevirtual 95, 3) := by decide +kernel
theorem dX4_written_37 : decode cX4_written 37 = .ok (.if_icmp .lt 5, 3) := by decide +kernel
theorem dX4_written_40 : decode cX4_written 40 = .ok (.iconst 0, 1) := by decide +kernel
theorem dX4_written_41 : decode cX4_written 41 = .ok (.ireturn, 1) := by decide +kernel
theorem dX4_written_42 : decode cX4_written 42 = .ok (.iload_n 3, 1) := by decide +kernel
theorem dX4_written_43 : decode cX4_written 43 = .ok (.ifCond .ne 19, 3) := by decide +kernel
theorem dX4_written_46 : decode cX4_written 46 = .ok (.aload_n 0, 1) := by decide +kernel
theorem dX4_written_47 : decode cX4_written 47 = .ok (.getfield 35, 3) := by decide +kernel
theorem dX4_written_50 : decode cX4_written 50 = .ok (.getfield 64, 3) := by decide +kernel
theorem dX4_written_53 : decode cX4_written 53 = .ok (.iload_n 1, 1) := by decide +kernel
theorem dX4_written_54 : decode cX4_written 54 = .ok (.bipush 85, 2) := by decide +kernel
theorem dX4_written_56 : decode cX4_written 56 = .ok (.iload_n 2, 1) := by decide +kernel
theorem dX4_written_57 : decode cX4_written 57 = .ok (.iadd, 1) := by decide +kernel
theorem dX4_written_58 : decode cX4_written 58 = .ok (.invokevirtual 95, 3) := by decide +kernel
theorem dX4_written_61 : decode cX4_written 61 = .ok (.ireturn, 1) := by decide +kernel
theorem dX4_written_62 : decode cX4_written 62 = .ok (.iload_n 3, 1) := by decide +kernel
theorem dX4_written_63 : decode cX4_written 63 = .ok (.iconst 1, 1) := by decide +kernel
theorem dX4_written_64 : decode cX4_written 64 = .ok (.if_icmp .ne 21, 3) := by decide +kernel
theorem dX4_written_67 : decode cX4_written 67 = .ok (.aload_n 0, 1) := by decide +kernel
theorem dX4_written_68 : decode cX4_written 68 = .ok (.getfield 35, 3) := by decide +kernel
theorem dX4_written_71 : decode cX4_written 71 = .ok (.getfield 64, 3) := by decide +kernel
theorem dX4_written_74 : decode cX4_written 74 = .ok (.iload_n 1, 1) := by decide +kernel
theorem dX4_written_75 : decode cX4_written 75 = .ok (.bipush 105, 2) := by decide +kernel
theorem dX4_written_77 : decode cX4_written 77 = .ok (.iload_n 2, 1) := by decide +kernel
theorem dX4_written_78 : decode cX4_written 78 = .ok (.iadd, 1) := by decide +kernel
theorem dX4_written_79 : decode cX4_written 79 = .ok (.invokevirtual 95, 3) := by decide +kernel
theorem dX4_written_82 : decode cX4_written 82 = .ok (.goto 4, 3) := by decide +kernel
theorem dX4_written_85 : decode cX4_written 85 = .ok (.iconst 0, 1) := by decide +kernel
theorem dX4_written_86 : decode cX4_written 86 = .ok (.ireturn, 1) := by decide +kernel
theorem dX4_count_0 : decode cX4_count 0 = .ok (.iload_n 1, 1) := by decide +kernel
theorem dX4_count_1 : decode cX4_count 1 = .ok (.tableswitch 69 0 3 #[31, 42, 53, 64], 31) := by decide +kernel
theorem dX4_count_32 : decode cX4_count 32 = .ok (.aload_n 0, 1) := by decide +kernel
theorem dX4_count_33 : decode cX4_count 33 = .ok (.getfield 35, 3) := by decide +kernel
theorem dX4_count_36 : decode cX4_count 36 = .ok (.getfield 111, 3) := by decide +kernel
theorem dX4_count_39 : decode cX4_count 39 = .ok (.invokevirtual 68, 3) := by decide +kernel
theorem dX4_count_42 : decode cX4_count 42 = .ok (.ireturn, 1) := by decide +kernel
theorem dX4_count_43 : decode cX4_count 43 = .ok (.aload_n 0, 1) := by decide +kernel
theorem dX4_count_44 : decode cX4_count 44 = .ok (.getfield 35, 3) := by decide +kernel
theorem dX4_count_47 : decode cX4_count 47 = .ok (.getfield 129, 3) := by decide +kernel
theorem dX4_count_50 : decode cX4_count 50 = .ok (.invokevirtual 68, 3) := by decide +kernel
theorem dX4_count_53 : decode cX4_count 53 = .ok (.ireturn, 1) := by decide +kernel
theorem dX4_count_54 : decode cX4_count 54 = .ok (.aload_n 0, 1) := by decide +kernel
theorem dX4_count_55 : decode cX4_count 55 = .ok (.getfield 35, 3) := by decide +kernel
theorem dX4_count_58 : decode cX4_count 58 = .ok (.getfield 64, 3) := by decide +kernel
theorem dX4_count_61 : decode cX4_count 61 = .ok (.invokevirtual 68, 3) := by decide +kernel
theorem dX4_count_64 : decode cX4_count 64 = .ok (.ireturn, 1) := by decide +kernel
theorem dX4_count_65 : decode cX4_count 65 = .ok (.aload_n 0, 1) := by decide +kernel
theorem dX4_count_66 : decode cX4_count 66 = .ok (.getfield 13, 3) := by decide +kernel
theorem dX4_count_69 : decode cX4_count 69 = .ok (.ireturn, 1) := by decide +kernel
theorem dX4_count_70 : decode cX4_count 70 = .ok (.iconst (-1), 1) := by decide +kernel
theorem dX4_count_71 : decode cX4_count 71 = .ok (.ireturn, 1) := by decide +kernel
theorem dX4_newest_0 : decode cX4_newest 0 = .ok (.aload_n 0, 1) := by decide +kernel
theorem dX4_newest_1 : decode cX4_newest 1 = .ok (.getfield 35, 3) := by decide +kernel
theorem dX4_newest_4 : decode cX4_newest 4 = .ok (.iload_n 1, 1) := by decide +kernel
theorem dX4_newest_5 : decode cX4_newest 5 = .ok (.invokevirtual 132, 3) := by decide +kernel
theorem dX4_newest_8 : decode cX4_newest 8 = .ok (.ireturn, 1) := by decide +kernel
theorem dX4_edition_0 : decode cX4_edition 0 = .ok (.aload_n 0, 1) := by decide +kernel
theorem dX4_edition_1 : decode cX4_edition 1 = .ok (.getfield 35, 3) := by decide +kernel
theorem dX4_edition_4 : decode cX4_edition 4 = .ok (.getfield 111, 3) := by decide +kernel
theorem dX4_edition_7 : decode cX4_edition 7 = .ok (.iload_n 1, 1) := by decide +kernel
theorem dX4_edition_8 : decode cX4_edition 8 = .ok (.invokevirtual 92, 3) := by decide +kernel
theorem dX4_edition_11 : decode cX4_edition 11 = .ok (.ifCond .ne 6, 3) := by decide +kernel
theorem dX4_edition_14 : decode cX4_edition 14 = .ok (.bipush (-3), 2) := by decide +kernel
theorem dX4_edition_16 : decode cX4_edition 16 = .ok (.ireturn, 1) := by decide +kernel
theorem dX4_edition_17 : decode cX4_edition 17 = .ok (.aload_n 0, 1) := by decide +kernel
theorem dX4_edition_18 : decode cX4_edition 18 = .ok (.getfield 35, 3) := by decide +kernel
theorem dX4_edition_21 : decode cX4_edition 21 = .ok (.iload_n 1, 1) := by decide +kernel
theorem dX4_edition_22 : decode cX4_edition 22 = .ok (.invokevirtual 135, 3) := by decide +kernel
theorem dX4_edition_25 : decode cX4_edition 25 = .ok (.istore_n 3, 1) := by decide +kernel
theorem dX4_edition_26 : decode cX4_edition 26 = .ok (.iload_n 2, 1) := by decide +kernel
theorem dX4_edition_27 : decode cX4_edition 27 = .ok (.tableswitch 170 0 7 #[45, 58, 67, 80, 93, 110, 131, 153], 45) := by decide +kernel
theorem dX4_edition_72 : decode cX4_edition 72 = .ok (.aload_n 0, 1) := by decide +kernel
theorem dX4_edition_73 : decode cX4_edition 73 = .ok (.getfield 35, 3) := by decide +kernel
theorem dX4_edition_76 : decode cX4_edition 76 = .ok (.getfield 111, 3) := by decide +kernel
theorem dX4_edition_79 : decode cX4_edition 79 = .ok (.iload_n 1, 1) := by decide +kernel
theorem dX4_edition_80 : decode cX4_edition 80 = .ok (.iconst 0, 1) := by decide +kernel
theorem dX4_edition_81 : decode cX4_edition 81 = .ok (.invokevirtual 95, 3) := by decide +kernel
theorem dX4_edition_84 : decode cX4_edition 84 = .ok (.ireturn, 1) := by decide +kernel
theorem dX4_edition_85 : decode cX4_edition 85 = .ok (.aload_n 0, 1) := by decide +kernel
theorem dX4_edition_86 : decode cX4_edition 86 = .ok (.getfield 35, 3) := by decide +kernel
theorem dX4_edition_89 : decode cX4_edition 89 = .ok (.iload_n 1, 1) := by decide +kernel
theorem dX4_edition_90 : decode cX4_edition 90 = .ok (.invokevirtual 138, 3) := by decide +kernel
theorem dX4_edition_93 : decode cX4_edition 93 = .ok (.ireturn, 1) := by decide +kernel
theorem dX4_edition_94 : decode cX4_edition 94 = .ok (.aload_n 0, 1) := by decide +kernel
theorem dX4_edition_95 : decode cX4_edition 95 = .ok (.getfield 35, 3) := by decide +kernel
theorem dX4_edition_98 : decode cX4_edition 98 = .ok (.getfield 111, 3) := by decide +kernel
theorem dX4_edition_101 : decode cX4_edition 101 = .ok (.iload_n 1, 1) := by decide +kernel
theorem dX4_edition_102 : decode cX4_edition 102 = .ok (.iconst 1, 1) := by decide +kernel
theorem dX4_edition_103 : decode cX4_edition 103 = .ok (.invokevirtual 95, 3) := by decide +kernel
theorem dX4_edition_106 : decode cX4_edition 106 = .ok (.ireturn, 1) := by decide +kernel
theorem dX4_edition_107 : decode cX4_edition 107 = .ok (.aload_n 0, 1) := by decide +kernel
theorem dX4_edition_108 : decode cX4_edition 108 = .ok (.getfield 35, 3) := by decide +kernel
theorem dX4_edition_111 : decode cX4_edition 111 = .ok (.getfield 111, 3) := by decide +kernel
theorem dX4_edition_114 : decode cX4_edition 114 = .ok (.iload_n 1, 1) := by decide +kernel
theorem dX4_edition_115 : decode cX4_edition 115 = .ok (.iconst 2, 1) := by decide +kernel
theorem dX4_edition_116 : decode cX4_edition 116 = .ok (.invokevirtual 95, 3) := by decide +kernel
theorem dX4_edition_119 : decode cX4_edition 119 = .ok (.ireturn, 1) := by decide +kernel
theorem dX4_edition_120 : decode cX4_edition 120 = .ok (.aload_n 0, 1) := by decide +kernel
theorem dX4_edition_121 : decode cX4_edition 121 = .ok (.getfield 35, 3) := by decide +kernel
theorem dX4_edition_124 : decode cX4_edition 124 = .ok (.iload_n 1, 1) := by decide +kernel
theorem dX4_edition_125 : decode cX4_edition 125 = .ok (.invokevirtual 141, 3) := by decide +kernel
theorem dX4_edition_128 : decode cX4_edition 128 = .ok (.ifCond .eq 7, 3) := by decide +kernel
theorem dX4_edition_131 : decode cX4_edition 131 = .ok (.iconst 1, 1) := by decide +kernel
theorem dX4_edition_132 : decode cX4_edition 132 = .ok (.goto 4, 3) := by decide +kernel
theorem dX4_edition_135 : decode cX4_edition 135 = .ok (.iconst 0, 1) := by decide +kernel
theorem dX4_edition_136 : decode cX4_edition 136 = .ok (.ireturn, 1) := by decide +kernel
theorem dX4_edition_137 : decode cX4_edition 137 = .ok (.aload_n 0, 1) := by decide +kernel
theorem dX4_edition_138 : decode cX4_edition 138 = .ok (.getfield 35, 3) := by decide +kernel
theorem dX4_edition_141 : decode cX4_edition 141 = .ok (.getfield 111, 3) := by decide +kernel
theorem dX4_edition_144 : decode cX4_edition 144 = .ok (.iload_n 1, 1) := by decide +kernel
theorem dX4_edition_145 : decode cX4_edition 145 = .ok (.iload_n 3, 1) := by decide +kernel
theorem dX4_edition_146 : decode cX4_edition 146 = .ok (.ifCond .eq 7, 3) := by decide +kernel
theorem dX4_edition_149 : decode cX4_edition 149 = .ok (.iconst 5, 1) := by decide +kernel
theorem dX4_edition_150 : decode cX4_edition 150 = .ok (.goto 4, 3) := by decide +kernel
theorem dX4_edition_153 : decode cX4_edition 153 = .ok (.iconst 3, 1) := by decide +kernel
theorem dX4_edition_154 : decode cX4_edition 154 = .ok (.invokevirtual 95, 3) := by decide +kernel
theorem dX4_edition_157 : decode cX4_edition 157 = .ok (.ireturn, 1) := by decide +kernel
theorem dX4_edition_158 : decode cX4_edition 158 = .ok (.aload_n 0, 1) := by decide +kernel
theorem dX4_edition_159 : decode cX4_edition 159 = .ok (.getfield 35, 3) := by decide +kernel
theorem dX4_edition_162 : decode cX4_edition 162 = .ok (.getfield 111, 3) := by decide +kernel
theorem dX4_edition_165 : decode cX4_edition 165 = .ok (.iload_n 1, 1) := by decide +kernel
theorem dX4_edition_166 : decode cX4_edition 166 = .ok (.iload_n 3, 1) := by decide +kernel
theorem dX4_edition_167 : decode cX4_edition 167 = .ok (.ifCond .eq 8, 3) := by decide +kernel
theorem dX4_edition_170 : decode cX4_edition 170 = .ok (.bipush 6, 2) := by decide +kernel
theorem dX4_edition_172 : decode cX4_edition 172 = .ok (.goto 4, 3) := by decide +kernel
theorem dX4_edition_175 : decode cX4_edition 175 = .ok (.iconst 4, 1) := by decide +kernel
theorem dX4_edition_176 : decode cX4_edition 176 = .ok (.invokevirtual 95, 3) := by decide +kernel
theorem dX4_edition_179 : decode cX4_edition 179 = .ok (.ireturn, 1) := by decide +kernel
theorem dX4_edition_180 : decode cX4_edition 180 = .ok (.iload_n 3, 1) := by decide +kernel
theorem dX4_edition_181 : decode cX4_edition 181 = .ok (.ifCond .eq 14, 3) := by decide +kernel
theorem dX4_edition_184 : decode cX4_edition 184 = .ok (.aload_n 0, 1) := by decide +kernel
theorem dX4_edition_185 : decode cX4_edition 185 = .ok (.getfield 35, 3) := by decide +kernel
theorem dX4_edition_188 : decode cX4_edition 188 = .ok (.iload_n 1, 1) := by decide +kernel
theorem dX4_edition_189 : decode cX4_edition 189 = .ok (.invokevirtual 144, 3) := by decide +kernel
theorem dX4_edition_192 : decode cX4_edition 192 = .ok (.goto 4, 3) := by decide +kernel
theorem dX4_edition_195 : decode cX4_edition 195 = .ok (.iconst 0, 1) := by decide +kernel
theorem dX4_edition_196 : decode cX4_edition 196 = .ok (.ireturn, 1) := by decide +kernel
theorem dX4_edition_197 : decode cX4_edition 197 = .ok (.bipush (-3), 2) := by decide +kernel
theorem dX4_edition_199 : decode cX4_edition 199 = .ok (.ireturn, 1) := by decide +kernel
theorem dX4_classOf_0 : decode cX4_classOf 0 = .ok (.aload_n 0, 1) := by decide +kernel
theorem dX4_classOf_1 : decode cX4_classOf 1 = .ok (.getfield 35, 3) := by decide +kernel
theorem dX4_classOf_4 : decode cX4_classOf 4 = .ok (.getfield 129, 3) := by decide +kernel
theorem dX4_classOf_7 : decode cX4_classOf 7 = .ok (.iload_n 1, 1) := by decide +kernel
theorem dX4_classOf_8 : decode cX4_classOf 8 = .ok (.invokevirtual 92, 3) := by decide +kernel
theorem dX4_classOf_11 : decode cX4_classOf 11 = .ok (.ifCond .eq 18, 3) := by decide +kernel
theorem dX4_classOf_14 : decode cX4_classOf 14 = .ok (.aload_n 0, 1) := by decide +kernel
theorem dX4_classOf_15 : decode cX4_classOf 15 = .ok (.getfield 35, 3) := by decide +kernel
theorem dX4_classOf_18 : decode cX4_classOf 18 = .ok (.getfield 129, 3) := by decide +kernel
theorem dX4_classOf_21 : decode cX4_classOf 21 = .ok (.iload_n 1, 1) := by decide +kernel
theorem dX4_classOf_22 : decode cX4_classOf 22 = .ok (.iconst 0, 1) := by decide +kernel
theorem dX4_classOf_23 : decode cX4_classOf 23 = .ok (.invokevirtual 95, 3) := by decide +kernel
theorem dX4_classOf_26 : decode cX4_classOf 26 = .ok (.goto 4, 3) := by decide +kernel
theorem dX4_classOf_29 : decode cX4_classOf 29 = .ok (.iconst (-1), 1) := by decide +kernel
theorem dX4_classOf_30 : decode cX4_classOf 30 = .ok (.ireturn, 1) := by decide +kernel
theorem dX4_field_0 : decode cX4_field 0 = .ok (.iload_n 2, 1) := by decide +kernel
theorem dX4_field_1 : decode cX4_field 1 = .ok (.ifCond .lt 25, 3) := by decide +kernel
theorem dX4_field_4 : decode cX4_field 4 = .ok (.iload_n 2, 1) := by decide +kernel
theorem dX4_field_5 : decode cX4_field 5 = .ok (.bipush 10, 2) := by decide +kernel
theorem dX4_field_7 : decode cX4_field 7 = .ok (.if_icmp .ge 19, 3) := by decide +kernel
theorem dX4_field_10 : decode cX4_field 10 = .ok (.aload_n 0, 1) := by decide +kernel
theorem dX4_field_11 : decode cX4_field 11 = .ok (.getfield 35, 3) := by decide +kernel
theorem dX4_field_14 : decode cX4_field 14 = .ok (.iload_n 1, 1) := by decide +kernel
theorem dX4_field_15 : decode cX4_field 15 = .ok (.iload_n 2, 1) := by decide +kernel
theorem dX4_field_16 : decode cX4_field 16 = .ok (.invokevirtual 147, 3) := by decide +kernel
theorem dX4_field_19 : decode cX4_field 19 = .ok (.ifCond .eq 7, 3) := by decide +kernel
theorem dX4_field_22 : decode cX4_field 22 = .ok (.iconst 1, 1) := by decide +kernel
theorem dX4_field_23 : decode cX4_field 23 = .ok (.goto 4, 3) := by decide +kernel
theorem dX4_field_26 : decode cX4_field 26 = .ok (.iconst 0, 1) := by decide +kernel
theorem dX4_field_27 : decode cX4_field 27 = .ok (.istore 4, 2) := by decide +kernel
theorem dX4_field_29 : decode cX4_field 29 = .ok (.iload_n 3, 1) := by decide +kernel
theorem dX4_field_30 : decode cX4_field 30 = .ok (.ifCond .ne 27, 3) := by decide +kernel
theorem dX4_field_33 : decode cX4_field 33 = .ok (.iload 4, 2) := by decide +kernel
theorem dX4_field_35 : decode cX4_field 35 = .ok (.ifCond .eq 20, 3) := by decide +kernel
theorem dX4_field_38 : decode cX4_field 38 = .ok (.aload_n 0, 1) := by decide +kernel
theorem dX4_field_39 : decode cX4_field 39 = .ok (.getfield 35, 3) := by decide +kernel
theorem dX4_field_42 : decode cX4_field 42 = .ok (.getfield 129, 3) := by decide +kernel
theorem dX4_field_45 : decode cX4_field 45 = .ok (.iload_n 1, 1) := by decide +kernel
theorem dX4_field_46 : decode cX4_field 46 = .ok (.iconst 1, 1) := by decide +kernel
theorem dX4_field_47 : decode cX4_field 47 = .ok (.iload_n 2, 1) := by decide +kernel
theorem dX4_field_48 : decode cX4_field 48 = .ok (.iadd, 1) := by decide +kernel
theorem dX4_field_49 : decode cX4_field 49 = .ok (.invokevirtual 95, 3) := by decide +kernel
theorem dX4_field_52 : decode cX4_field 52 = .ok (.goto 4, 3) := by decide +kernel
theorem dX4_field_55 : decode cX4_field 55 = .ok (.iconst (-1), 1) := by decide +kernel
theorem dX4_field_56 : decode cX4_field 56 = .ok (.ireturn, 1) := by decide +kernel
theorem dX4_field_57 : decode cX4_field 57 = .ok (.iload 4, 2) := by decide +kernel
theorem dX4_field_59 : decode cX4_field 59 = .ok (.ifCond .eq 26, 3) := by decide +kernel
theorem dX4_field_62 : decode cX4_field 62 = .ok (.iload_n 3, 1) := by decide +kernel
theorem dX4_field_63 : decode cX4_field 63 = .ok (.iconst 1, 1) := by decide +kernel
theorem dX4_field_64 : decode cX4_field 64 = .ok (.if_icmp .ne 21, 3) := by decide +kernel
theorem dX4_field_67 : decode cX4_field 67 = .ok (.aload_n 0, 1) := by decide +kernel
theorem dX4_field_68 : decode cX4_field 68 = .ok (.getfield 35, 3) := by decide +kernel
theorem dX4_field_71 : decode cX4_field 71 = .ok (.getfield 129, 3) := by decide +kernel
theorem dX4_field_74 : decode cX4_field 74 = .ok (.iload_n 1, 1) := by decide +kernel
theorem dX4_field_75 : decode cX4_field 75 = .ok (.bipush 11, 2) := by decide +kernel
theorem dX4_field_77 : decode cX4_field 77 = .ok (.iload_n 2, 1) := by decide +kernel
theorem dX4_field_78 : decode cX4_field 78 = .ok (.iadd, 1) := by decide +kernel
theorem dX4_field_79 : decode cX4_field 79 = .ok (.invokevirtual 95, 3) := by decide +kernel
theorem dX4_field_82 : decode cX4_field 82 = .ok (.goto 4, 3) := by decide +kernel
theorem dX4_field_85 : decode cX4_field 85 = .ok (.iconst 0, 1) := by decide +kernel
theorem dX4_field_86 : decode cX4_field 86 = .ok (.ireturn, 1) := by decide +kernel
theorem dX4_is_0 : decode cX4_is 0 = .ok (.aload_n 0, 1) := by decide +kernel
theorem dX4_is_1 : decode cX4_is 1 = .ok (.getfield 35, 3) := by decide +kernel
theorem dX4_is_4 : decode cX4_is 4 = .ok (.getfield 129, 3) := by decide +kernel
theorem dX4_is_7 : decode cX4_is 7 = .ok (.iload_n 1, 1) := by decide +kernel
theorem dX4_is_8 : decode cX4_is 8 = .ok (.invokevirtual 92, 3) := by decide +kernel
theorem dX4_is_11 : decode cX4_is 11 = .ok (.ifCond .eq 44, 3) := by decide +kernel
theorem dX4_is_14 : decode cX4_is 14 = .ok (.aload_n 0, 1) := by decide +kernel
theorem dX4_is_15 : decode cX4_is 15 = .ok (.getfield 35, 3) := by decide +kernel
theorem dX4_is_18 : decode cX4_is 18 = .ok (.getfield 111, 3) := by decide +kernel
theorem dX4_is_21 : decode cX4_is 21 = .ok (.iload_n 2, 1) := by decide +kernel
theorem dX4_is_22 : decode cX4_is 22 = .ok (.invokevirtual 92, 3) := by decide +kernel
theorem dX4_is_25 : decode cX4_is 25 = .ok (.ifCond .eq 30, 3) := by decide +kernel
theorem dX4_is_28 : decode cX4_is 28 = .ok (.aload_n 0, 1) := by decide +kernel
theorem dX4_is_29 : decode cX4_is 29 = .ok (.getfield 35, 3) := by decide +kernel
theorem dX4_is_32 : decode cX4_is 32 = .ok (.aload_n 0, 1) := by decide +kernel
theorem dX4_is_33 : decode cX4_is 33 = .ok (.getfield 35, 3) := by decide +kernel
theorem dX4_is_36 : decode cX4_is 36 = .ok (.getfield 129, 3) := by decide +kernel
theorem dX4_is_39 : decode cX4_is 39 = .ok (.iload_n 1, 1) := by decide +kernel
theorem dX4_is_40 : decode cX4_is 40 = .ok (.iconst 0, 1) := by decide +kernel
theorem dX4_is_41 : decode cX4_is 41 = .ok (.invokevirtual 95, 3) := by decide +kernel
theorem dX4_is_44 : decode cX4_is 44 = .ok (.iload_n 2, 1) := by decide +kernel
theorem dX4_is_45 : decode cX4_is 45 = .ok (.invokevirtual 151, 3) := by decide +kernel
theorem dX4_is_48 : decode cX4_is 48 = .ok (.ifCond .eq 7, 3) := by decide +kernel
theorem dX4_is_51 : decode cX4_is 51 = .ok (.iconst 1, 1) := by decide +kernel
theorem dX4_is_52 : decode cX4_is 52 = .ok (.goto 4, 3) := by decide +kernel
theorem dX4_is_55 : decode cX4_is 55 = .ok (.iconst 0, 1) := by decide +kernel
theorem dX4_is_56 : decode cX4_is 56 = .ok (.ireturn, 1) := by decide +kernel
theorem dX4_call_0 : decode cX4_call 0 = .ok (.aload_n 0, 1) := by decide +kernel
theorem dX4_call_1 : decode cX4_call 1 = .ok (.getfield 35, 3) := by decide +kernel
theorem dX4_call_4 : decode cX4_call 4 = .ok (.getfield 129, 3) := by decide +kernel
theorem dX4_call_7 : decode cX4_call 7 = .ok (.iload_n 1, 1) := by decide +kernel
theorem dX4_call_8 : decode cX4_call 8 = .ok (.invokevirtual 92, 3) := by decide +kernel
theorem dX4_call_11 : decode cX4_call 11 = .ok (.ifCond .eq 12, 3) := by decide +kernel
theorem dX4_call_14 : decode cX4_call 14 = .ok (.iload_n 2, 1) := by decide +kernel
theorem dX4_call_15 : decode cX4_call 15 = .ok (.ifCond .lt 8, 3) := by decide +kernel
theorem dX4_call_18 : decode cX4_call 18 = .ok (.iload_n 2, 1) := by decide +kernel
theorem dX4_call_19 : decode cX4_call 19 = .ok (.iconst 5, 1) := by decide +kernel
theorem dX4_call_20 : decode cX4_call 20 = .ok (.if_icmp .lt 5, 3) := by decide +kernel
theorem dX4_call_23 : decode cX4_call 23 = .ok (.iconst (-1), 1) := by decide +kernel
theorem dX4_call_24 : decode cX4_call 24 = .ok (.ireturn, 1) := by decide +kernel
theorem dX4_call_25 : decode cX4_call 25 = .ok (.aload_n 0, 1) := by decide +kernel
theorem dX4_call_26 : decode cX4_call 26 = .ok (.getfield 27, 3) := by decide +kernel
theorem dX4_call_29 : decode cX4_call 29 = .ok (.iload_n 1, 1) := by decide +kernel
theorem dX4_call_30 : decode cX4_call 30 = .ok (.iload_n 2, 1) := by decide +kernel
theorem dX4_call_31 : decode cX4_call 31 = .ok (.iload_n 3, 1) := by decide +kernel
theorem dX4_call_32 : decode cX4_call 32 = .ok (.invokevirtual 154, 3) := by decide +kernel
theorem dX4_call_35 : decode cX4_call 35 = .ok (.aload_n 0, 1) := by decide +kernel
theorem dX4_call_36 : decode cX4_call 36 = .ok (.getfield 27, 3) := by decide +kernel
theorem dX4_call_39 : decode cX4_call 39 = .ok (.invokevirtual 158, 3) := by decide +kernel
theorem dX4_call_42 : decode cX4_call 42 = .ok (.istore 4, 2) := by decide +kernel
theorem dX4_call_44 : decode cX4_call 44 = .ok (.aload_n 0, 1) := by decide +kernel
theorem dX4_call_45 : decode cX4_call 45 = .ok (.iload 4, 2) := by decide +kernel
theorem dX4_call_47 : decode cX4_call 47 = .ok (.ifCond .ne 13, 3) := by decide +kernel
theorem dX4_call_50 : decode cX4_call 50 = .ok (.aload_n 0, 1) := by decide +kernel
theorem dX4_call_51 : decode cX4_call 51 = .ok (.getfield 27, 3) := by decide +kernel
theorem dX4_call_54 : decode cX4_call 54 = .ok (.invokevirtual 161, 3) := by decide +kernel
theorem dX4_call_57 : decode cX4_call 57 = .ok (.goto 4, 3) := by decide +kernel
theorem dX4_call_60 : decode cX4_call 60 = .ok (.iconst 0, 1) := by decide +kernel
theorem dX4_call_61 : decode cX4_call 61 = .ok (.putfield 44, 3) := by decide +kernel
theorem dX4_call_64 : decode cX4_call 64 = .ok (.aload_n 0, 1) := by decide +kernel
theorem dX4_call_65 : decode cX4_call 65 = .ok (.iload 4, 2) := by decide +kernel
theorem dX4_call_67 : decode cX4_call 67 = .ok (.ifCond .ne 13, 3) := by decide +kernel
theorem dX4_call_70 : decode cX4_call 70 = .ok (.aload_n 0, 1) := by decide +kernel
theorem dX4_call_71 : decode cX4_call 71 = .ok (.getfield 27, 3) := by decide +kernel
theorem dX4_call_74 : decode cX4_call 74 = .ok (.invokevirtual 164, 3) := by decide +kernel
theorem dX4_call_77 : decode cX4_call 77 = .ok (.goto 4, 3) := by decide +kernel
theorem dX4_call_80 : decode cX4_call 80 = .ok (.iconst 0, 1) := by decide +kernel
theorem dX4_call_81 : decode cX4_call 81 = .ok (.putfield 47, 3) := by decide +kernel
theorem dX4_call_84 : decode cX4_call 84 = .ok (.aload_n 0, 1) := by decide +kernel
theorem dX4_call_85 : decode cX4_call 85 = .ok (.aload_n 0, 1) := by decide +kernel
theorem dX4_call_86 : decode cX4_call 86 = .ok (.getfield 27, 3) := by decide +kernel
theorem dX4_call_89 : decode cX4_call 89 = .ok (.getfield 167, 3) := by decide +kernel
theorem dX4_call_92 : decode cX4_call 92 = .ok (.putfield 50, 3) := by decide +kernel
theorem dX4_call_95 : decode cX4_call 95 = .ok (.aload_n 0, 1) := by decide +kernel
theorem dX4_call_96 : decode cX4_call 96 = .ok (.aload_n 0, 1) := by decide +kernel
theorem dX4_call_97 : decode cX4_call 97 = .ok (.getfield 27, 3) := by decide +kernel
theorem dX4_call_100 : decode cX4_call 100 = .ok (.getfield 170, 3) := by decide +kernel
theorem dX4_call_103 : decode cX4_call 103 = .ok (.putfield 53, 3) := by decide +kernel
theorem dX4_call_106 : decode cX4_call 106 = .ok (.iload 4, 2) := by decide +kernel
theorem dX4_call_108 : decode cX4_call 108 = .ok (.ireturn, 1) := by decide +kernel
theorem dX4_came_0 : decode cX4_came 0 = .ok (.iload_n 1, 1) := by decide +kernel
theorem dX4_came_1 : decode cX4_came 1 = .ok (.tableswitch 51 0 3 #[31, 36, 41, 46], 31) := by decide +kernel
theorem dX4_came_32 : decode cX4_came 32 = .ok (.aload_n 0, 1) := by decide +kernel
theorem dX4_came_33 : decode cX4_came 33 = .ok (.getfield 44, 3) := by decide +kernel
theorem dX4_came_36 : decode cX4_came 36 = .ok (.ireturn, 1) := by decide +kernel
theorem dX4_came_37 : decode cX4_came 37 = .ok (.aload_n 0, 1) := by decide +kernel
theorem dX4_came_38 : decode cX4_came 38 = .ok (.getfield 47, 3) := by decide +kernel
theorem dX4_came_41 : decode cX4_came 41 = .ok (.ireturn, 1) := by decide +kernel
theorem dX4_came_42 : decode cX4_came 42 = .ok (.aload_n 0, 1) := by decide +kernel
theorem dX4_came_43 : decode cX4_came 43 = .ok (.getfield 50, 3) := by decide +kernel
theorem dX4_came_46 : decode cX4_came 46 = .ok (.ireturn, 1) := by decide +kernel
theorem dX4_came_47 : decode cX4_came 47 = .ok (.aload_n 0, 1) := by decide +kernel
theorem dX4_came_48 : decode cX4_came 48 = .ok (.getfield 53, 3) := by decide +kernel
theorem dX4_came_51 : decode cX4_came 51 = .ok (.ireturn, 1) := by decide +kernel
theorem dX4_came_52 : decode cX4_came 52 = .ok (.iconst 0, 1) := by decide +kernel
theorem dX4_came_53 : decode cX4_came 53 = .ok (.ireturn, 1) := by decide +kernel
theorem dX4_convert_0 : decode cX4_convert 0 = .ok (.aload_n 0, 1) := by decide +kernel
theorem dX4_convert_1 : decode cX4_convert 1 = .ok (.getfield 35, 3) := by decide +kernel
theorem dX4_convert_4 : decode cX4_convert 4 = .ok (.iload_n 2, 1) := by decide +kernel
theorem dX4_convert_5 : decode cX4_convert 5 = .ok (.invokevirtual 132, 3) := by decide +kernel
theorem dX4_convert_8 : decode cX4_convert 8 = .ok (.istore_n 3, 1) := by decide +kernel
theorem dX4_convert_9 : decode cX4_convert 9 = .ok (.aload_n 0, 1) := by decide +kernel
theorem dX4_convert_10 : decode cX4_convert 10 = .ok (.getfield 35, 3) := by decide +kernel
theorem dX4_convert_13 : decode cX4_convert 13 = .ok (.getfield 129, 3) := by decide +kernel
theorem dX4_convert_16 : decode cX4_convert 16 = .ok (.iload_n 1, 1) := by decide +kernel
theorem dX4_convert_17 : decode cX4_convert 17 = .ok (.invokevirtual 92, 3) := by decide +kernel
theorem dX4_convert_20 : decode cX4_convert 20 = .ok (.ifCond .eq 19, 3) := by decide +kernel
theorem dX4_convert_23 : decode cX4_convert 23 = .ok (.iload_n 3, 1) := by decide +kernel
theorem dX4_convert_24 : decode cX4_convert 24 = .ok (.iconst (-1), 1) := by decide +kernel
theorem dX4_convert_25 : decode cX4_convert 25 = .ok (.if_icmp .eq 14, 3) := by decide +kernel
theorem dX4_convert_28 : decode cX4_convert 28 = .ok (.aload_n 0, 1) := by decide +kernel
theorem dX4_convert_29 : decode cX4_convert 29 = .ok (.getfield 35, 3) := by decide +kernel
theorem dX4_convert_32 : decode cX4_convert 32 = .ok (.iload_n 3, 1) := by decide +kernel
theorem dX4_convert_33 : decode cX4_convert 33 = .ok (.invokevirtual 135, 3) := by decide +kernel
theorem dX4_convert_36 : decode cX4_convert 36 = .ok (.ifCond .ne 5, 3) := by decide +kernel
theorem dX4_convert_39 : decode cX4_convert 39 = .ok (.iconst (-1), 1) := by decide +kernel
theorem dX4_convert_40 : decode cX4_convert 40 = .ok (.ireturn, 1) := by decide +kernel
theorem dX4_convert_41 : decode cX4_convert 41 = .ok (.aload_n 0, 1) := by decide +kernel
theorem dX4_convert_42 : decode cX4_convert 42 = .ok (.getfield 35, 3) := by decide +kernel
theorem dX4_convert_45 : decode cX4_convert 45 = .ok (.iload_n 3, 1) := by decide +kernel
theorem dX4_convert_46 : decode cX4_convert 46 = .ok (.invokevirtual 173, 3) := by decide +kernel
theorem dX4_convert_49 : decode cX4_convert 49 = .ok (.istore 4, 2) := by decide +kernel
theorem dX4_convert_51 : decode cX4_convert 51 = .ok (.iload 4, 2) := by decide +kernel
theorem dX4_convert_53 : decode cX4_convert 53 = .ok (.iconst (-1), 1) := by decide +kernel
theorem dX4_convert_54 : decode cX4_convert 54 = .ok (.if_icmp .ne 6, 3) := by decide +kernel
theorem dX4_convert_57 : decode cX4_convert 57 = .ok (.bipush (-2), 2) := by decide +kernel
theorem dX4_convert_59 : decode cX4_convert 59 = .ok (.ireturn, 1) := by decide +kernel
theorem dX4_convert_60 : decode cX4_convert 60 = .ok (.aload_n 0, 1) := by decide +kernel
theorem dX4_convert_61 : decode cX4_convert 61 = .ok (.getfield 35, 3) := by decide +kernel
theorem dX4_convert_64 : decode cX4_convert 64 = .ok (.iload_n 1, 1) := by decide +kernel
theorem dX4_convert_65 : decode cX4_convert 65 = .ok (.iload 4, 2) := by decide +kernel
theorem dX4_convert_67 : decode cX4_convert 67 = .ok (.invokevirtual 176, 3) := by decide +kernel
theorem dX4_convert_70 : decode cX4_convert 70 = .ok (.iload 4, 2) := by decide +kernel
theorem dX4_convert_72 : decode cX4_convert 72 = .ok (.ireturn, 1) := by decide +kernel
section CM
variable {ρ : Type} {p : Program} {l : Launch} {e : Env} {s : State} {m : MethodId} {args : Array Value} {below : List Frame} {meth : Method} {c : Code}
variable {cc : ByteArray} {nL : Nat} {own : String} {rt : Option FieldType} {D : va_G} {cI : ClassId} {sf : sfT} {A : Nat → Prop} {q : Nat → Nat} {tk : Nat} {fr lo : Nat} {S0 S : CS} {QQ : ρ × CS → State → Prop} {pc : Nat} {lv : List (Nat × Value)}

-- X4.forget
theorem tlX4_119 : Cond.methodLink RX4 119 yX0_dropNewest ∈ tt := tt_in (List.mem_of_getElem? (i := 658) (by decide +kernel)) (by decide +kernel)
def f4_forget (n : Nat) (x1 : Int32) (S : CS) : Option (Int32 × CS) :=
    bnd (f4_isName n x1 S) fun v1 S1 =>
    if v1 = 0 then
      (some ((-1 : Int32), S1))
    else
      (bnd (f0_dropNewest n x1 S1) fun v2 S2 =>
      if v2 = 0 then (some ((nI 0), S2)) else (some ((nI 1), S2)))
theorem w4_forget (hsf : sfOk (SF tk)) (X : hX p s m args meth c cX4_forget 2 RX4 (some .int) D (tyC cI) (SF tk) A) {S0 : CS} (n : Nat) (x1 : Int32) (S : CS) : hG p l e (fun r => rmC 3 62 (cS r.2 - cS S0) (sS r.2 - sS S0)) s m args below meth c 2 (ZW D (wC cI q) A s.heap S0 S) (cS S - cS S0) (sS S - sS S0) (fun r => MQ below (QWi D (tyC cI) (wC cI q) A r) args s (cS r.2 - cS S0) (sS r.2 - sS S0) A) (fun r => le S r.2) 0 [(0, .ref (q 50)), (1, .int x1)] [] (f4_forget n x1 S) := by
    unfold f4_forget
    refine h_iload_n X dX4_forget_0 rfl rfl ?_
    refine k4_isName hsf X tlX4_60 ⟨Nat.le_of_ble_eq_true rfl, Nat.le_of_ble_eq_true rfl⟩ (Nat.le_of_ble_eq_true rfl) dX4_forget_1 ?_
    intro v1 S1
    refine h_if_ne (tgt := 9) X dX4_forget_4 (by decide) ?_ ?_
    · refine h_aload_n X dX4_forget_9 rfl rfl ?_
      refine c_g_B_now X fl4_35 dX4_forget_10 ?_
      refine h_iload_n X dX4_forget_13 rfl rfl ?_
      refine k0_dropNewest hsf X tlX4_119 ⟨Nat.le_of_ble_eq_true rfl, Nat.le_of_ble_eq_true rfl⟩ (Nat.le_of_ble_eq_true rfl) dX4_forget_14 ?_
      intro v2 S2
      refine h_if_eq (tgt := 24) X dX4_forget_17 (by decide) ?_ ?_
      · refine h_iconst (v := (nI 0)) X dX4_forget_24 (by decide) ?_
        exact h_iret X dX4_forget_25
      · refine h_iconst (v := (nI 1)) X dX4_forget_20 (by decide) ?_
        refine h_goto (tgt := 25) X dX4_forget_21 (by decide) ?_
        exact h_iret X dX4_forget_25
    · refine h_iconst (v := (-1 : Int32)) X dX4_forget_7 (by decide) ?_
      exact h_iret X dX4_forget_8
theorem mo4_forget (n : Nat) (x1 : Int32) (S : CS) : mo S (f4_forget n x1 S) := by
    unfold f4_forget
    refine m_bnd (mo4_isName _ _ _) (fun v1 S1 => ?_)
    refine m_ite ?_ ?_
    · exact m_some
    · refine m_bnd (mo0_dropNewest _ _ _) (fun v2 S2 => ?_)
      refine m_ite ?_ ?_
      · exact m_some
      · exact m_some
theorem c4_forget (hsf : sfOk (SF tk)) (l : Launch) (D : va_G) (cI : ClassId) (q : Nat → Nat) (n : Nat) (x1 : Int32) (S : CS) : MetW l D (tyC cI) (SF tk) (wC cI q) yX4_forget cX4_forget 2 (some .int) 3 62 QWi [.ref (q 50), .int x1] S (f4_forget n x1 S) := by
  refine MetW.of (own := RX4) (by decide) rfl (Nat.le_of_ble_eq_true rfl) (mo4_forget n x1 S) ?_
  intro x p e s m args below meth c X
  refine h_pick (lv' := [(0, .ref (q 50)), (1, .int x1)]) [0, 1] rfl ?_
  exact h_close (w4_forget hsf X n x1 S)
-- X4.of
def f4_of (n : Nat) (x1 : Int32) (x2 : Int32) (S : CS) : Option (Int32 × CS) :=
    bT 5 S (f2_has n x1 (tOf 5 S)) fun v1 S1 =>
    if v1 = 0 then
      (some ((-3 : Int32), S1))
    else
      (if x2 < 0 then
        (some ((-3 : Int32), S1))
      else
        (if x2 ≤ (nI 8) then
          (bT 5 S1 (f2_get n x1 x2 (tOf 5 S1)) fun v2 S2 =>
          some (v2, S2))
        else
          (some ((-3 : Int32), S1))))
theorem w4_of (hsf : sfOk (SF tk)) (X : hX p s m args meth c cX4_of 3 RX4 (some .int) D (tyC cI) (SF tk) A) {S0 : CS} (n : Nat) (x1 : Int32) (x2 : Int32) (S : CS) : hG p l e (fun r => rmC 1 23 (cS r.2 - cS S0) (sS r.2 - sS S0)) s m args below meth c 3 (ZW D (wC cI q) A s.heap S0 S) (cS S - cS S0) (sS S - sS S0) (fun r => MQ below (QWi D (tyC cI) (wC cI q) A r) args s (cS r.2 - cS S0) (sS r.2 - sS S0) A) (fun r => le S r.2) 0 [(0, .ref (q 50)), (1, .int x1), (2, .int x2)] [] (f4_of n x1 x2 S) := by
    unfold f4_of
    refine h_aload_n X dX4_of_0 rfl rfl ?_
    refine c_g_B_now X fl4_35 dX4_of_1 ?_
    refine c_g_IM_cells X fl4_64 dX4_of_4 ?_
    refine h_iload_n X dX4_of_7 rfl rfl ?_
    refine kt2_has_5 hsf X tlX4_92 ⟨Nat.le_of_ble_eq_true rfl, Nat.le_of_ble_eq_true rfl⟩ (Nat.le_of_ble_eq_true rfl) dX4_of_8 ?_
    intro v1 S1
    refine h_if_eq (tgt := 24) X dX4_of_11 (by decide) ?_ ?_
    · refine h_bipush (v := (-3 : Int32)) X dX4_of_24 (by decide) ?_
      exact h_iret X dX4_of_26
    · refine h_iload_n X dX4_of_14 rfl rfl ?_
      refine h_if_lt (tgt := 24) X dX4_of_15 (by decide) ?_ ?_
      · refine h_bipush (v := (-3 : Int32)) X dX4_of_24 (by decide) ?_
        exact h_iret X dX4_of_26
      · refine h_iload_n X dX4_of_18 rfl rfl ?_
        refine h_bipush (v := (nI 8)) X dX4_of_19 (by decide) ?_
        refine h_icmp_le (tgt := 27) X dX4_of_21 (by decide) ?_ ?_
        · refine h_aload_n X dX4_of_27 rfl rfl ?_
          refine c_g_B_now X fl4_35 dX4_of_28 ?_
          refine c_g_IM_cells X fl4_64 dX4_of_31 ?_
          refine h_iload_n X dX4_of_34 rfl rfl ?_
          refine h_iload_n X dX4_of_35 rfl rfl ?_
          refine kt2_get_5 hsf X tlX4_95 ⟨Nat.le_of_ble_eq_true rfl, Nat.le_of_ble_eq_true rfl⟩ (Nat.le_of_ble_eq_true rfl) dX4_of_36 ?_
          intro v2 S2
          exact h_iret X dX4_of_39
        · refine h_bipush (v := (-3 : Int32)) X dX4_of_24 (by decide) ?_
          exact h_iret X dX4_of_26
theorem mo4_of (n : Nat) (x1 : Int32) (x2 : Int32) (S : CS) : mo S (f4_of n x1 x2 S) := by
    unfold f4_of
    refine m_bT (mo2_has _ _ _) (fun v1 S1 => ?_)
    refine m_ite ?_ ?_
    · exact m_some
    · refine m_ite ?_ ?_
      · exact m_some
      · refine m_ite ?_ ?_
        · refine m_bT (mo2_get _ _ _ _) (fun v2 S2 => ?_)
          exact m_some
        · exact m_some
theorem c4_of (hsf : sfOk (SF tk)) (l : Launch) (D : va_G) (cI : ClassId) (q : Nat → Nat) (n : Nat) (x1 : Int32) (x2 : Int32) (S : CS) : MetW l D (tyC cI) (SF tk) (wC cI q) yX4_of cX4_of 3 (some .int) 1 23 QWi [.ref (q 50), .int x1, .int x2] S (f4_of n x1 x2 S) := by
  refine MetW.of (own := RX4) (by decide) rfl (Nat.le_of_ble_eq_true rfl) (mo4_of n x1 x2 S) ?_
  intro x p e s m args below meth c X
  refine h_pick (lv' := [(0, .ref (q 50)), (1, .int x1), (2, .int x2)]) [0, 1, 2] rfl ?_
  exact h_close (w4_of hsf X n x1 x2 S)
-- X4.leans
theorem tlX4_122 : Cond.methodLink RX4 122 yX0_leanOf ∈ tt := tt_in (List.mem_of_getElem? (i := 670) (by decide +kernel)) (by decide +kernel)
def f4_leans (n : Nat) (x1 : Int32) (x2 : Int32) (S : CS) : Option (Int32 × CS) :=
    bT 5 S (f2_has n x1 (tOf 5 S)) fun v1 S1 =>
    if v1 = 0 then
      (some ((-1 : Int32), S1))
    else
      (if x2 < 0 then
        (some ((-1 : Int32), S1))
      else
        (bT 5 S1 (f2_get n x1 (nI 7) (tOf 5 S1)) fun v2 S2 =>
        if x2 < v2 then
          (bnd (f0_leanOf n x1 x2 S2) fun v3 S3 =>
          some (v3, S3))
        else
          (some ((-1 : Int32), S2))))
theorem w4_leans (hsf : sfOk (SF tk)) (X : hX p s m args meth c cX4_leans 3 RX4 (some .int) D (tyC cI) (SF tk) A) {S0 : CS} (n : Nat) (x1 : Int32) (x2 : Int32) (S : CS) : hG p l e (fun r => rmC 2 45 (cS r.2 - cS S0) (sS r.2 - sS S0)) s m args below meth c 3 (ZW D (wC cI q) A s.heap S0 S) (cS S - cS S0) (sS S - sS S0) (fun r => MQ below (QWi D (tyC cI) (wC cI q) A r) args s (cS r.2 - cS S0) (sS r.2 - sS S0) A) (fun r => le S r.2) 0 [(0, .ref (q 50)), (1, .int x1), (2, .int x2)] [] (f4_leans n x1 x2 S) := by
    unfold f4_leans
    refine h_aload_n X dX4_leans_0 rfl rfl ?_
    refine c_g_B_now X fl4_35 dX4_leans_1 ?_
    refine c_g_IM_cells X fl4_64 dX4_leans_4 ?_
    refine h_iload_n X dX4_leans_7 rfl rfl ?_
    refine kt2_has_5 hsf X tlX4_92 ⟨Nat.le_of_ble_eq_true rfl, Nat.le_of_ble_eq_true rfl⟩ (Nat.le_of_ble_eq_true rfl) dX4_leans_8 ?_
    intro v1 S1
    refine h_if_eq (tgt := 35) X dX4_leans_11 (by decide) ?_ ?_
    · refine h_iconst (v := (-1 : Int32)) X dX4_leans_35 (by decide) ?_
      exact h_iret X dX4_leans_36
    · refine h_iload_n X dX4_leans_14 rfl rfl ?_
      refine h_if_lt (tgt := 35) X dX4_leans_15 (by decide) ?_ ?_
      · refine h_iconst (v := (-1 : Int32)) X dX4_leans_35 (by decide) ?_
        exact h_iret X dX4_leans_36
      · refine h_iload_n X dX4_leans_18 rfl rfl ?_
        refine h_aload_n X dX4_leans_19 rfl rfl ?_
        refine c_g_B_now X fl4_35 dX4_leans_20 ?_
        refine c_g_IM_cells X fl4_64 dX4_leans_23 ?_
        refine h_iload_n X dX4_leans_26 rfl rfl ?_
        refine h_bipush (v := (nI 7)) X dX4_leans_27 (by decide) ?_
        refine kt2_get_5 hsf X tlX4_95 ⟨Nat.le_of_ble_eq_true rfl, Nat.le_of_ble_eq_true rfl⟩ (Nat.le_of_ble_eq_true rfl) dX4_leans_29 ?_
        intro v2 S2
        refine h_icmp_lt (tgt := 37) X dX4_leans_32 (by decide) ?_ ?_
        · refine h_aload_n X dX4_leans_37 rfl rfl ?_
          refine c_g_B_now X fl4_35 dX4_leans_38 ?_
          refine h_iload_n X dX4_leans_41 rfl rfl ?_
          refine h_iload_n X dX4_leans_42 rfl rfl ?_
          refine k0_leanOf hsf X tlX4_122 ⟨Nat.le_of_ble_eq_true rfl, Nat.le_of_ble_eq_true rfl⟩ (Nat.le_of_ble_eq_true rfl) dX4_leans_43 ?_
          intro v3 S3
          exact h_iret X dX4_leans_46
        · refine h_iconst (v := (-1 : Int32)) X dX4_leans_35 (by decide) ?_
          exact h_iret X dX4_leans_36
theorem mo4_leans (n : Nat) (x1 : Int32) (x2 : Int32) (S : CS) : mo S (f4_leans n x1 x2 S) := by
    unfold f4_leans
    refine m_bT (mo2_has _ _ _) (fun v1 S1 => ?_)
    refine m_ite ?_ ?_
    · exact m_some
    · refine m_ite ?_ ?_
      · exact m_some
      · refine m_bT (mo2_get _ _ _ _) (fun v2 S2 => ?_)
        refine m_ite ?_ ?_
        · refine m_bnd (mo0_leanOf _ _ _ _) (fun v3 S3 => ?_)
          exact m_some
        · exact m_some
theorem c4_leans (hsf : sfOk (SF tk)) (l : Launch) (D : va_G) (cI : ClassId) (q : Nat → Nat) (n : Nat) (x1 : Int32) (x2 : Int32) (S : CS) : MetW l D (tyC cI) (SF tk) (wC cI q) yX4_leans cX4_leans 3 (some .int) 2 45 QWi [.ref (q 50), .int x1, .int x2] S (f4_leans n x1 x2 S) := by
  refine MetW.of (own := RX4) (by decide) rfl (Nat.le_of_ble_eq_true rfl) (mo4_leans n x1 x2 S) ?_
  intro x p e s m args below meth c X
  refine h_pick (lv' := [(0, .ref (q 50)), (1, .int x1), (2, .int x2)]) [0, 1, 2] rfl ?_
  exact h_close (w4_leans hsf X n x1 x2 S)
-- X4.stale
theorem tlX4_125 : Cond.methodLink RX4 125 yX0_isMarked ∈ tt := tt_in (List.mem_of_getElem? (i := 675) (by decide +kernel)) (by decide +kernel)
def f4_stale (n : Nat) (x1 : Int32) (S : CS) : Option (Int32 × CS) :=
    bT 5 S (f2_has n x1 (tOf 5 S)) fun v1 S1 =>
    if v1 = 0 then
      (zt (nI 0) (some ((nI 0), S1)))
    else
      (bnd (f0_staleCells n S1) fun v2 S2 =>
      bnd (f0_isMarked n v2 x1 S2) fun v3 S3 =>
      if v3 = 0 then (zt (nI 0) (some ((nI 0), S3))) else (zt (nI 1) (some ((nI 1), S3))))
theorem w4_stale (hsf : sfOk (SF tk)) (X : hX p s m args meth c cX4_stale 2 RX4 (some .boolean) D (tyC cI) (SF tk) A) {S0 : CS} (n : Nat) (x1 : Int32) (S : CS) : hG p l e (fun r => rmC 5 112 (cS r.2 - cS S0) (sS r.2 - sS S0)) s m args below meth c 2 (ZW D (wC cI q) A s.heap S0 S) (cS S - cS S0) (sS S - sS S0) (fun r => MQ below (QWi D (tyC cI) (wC cI q) A r) args s (cS r.2 - cS S0) (sS r.2 - sS S0) A) (fun r => le S r.2) 0 [(0, .ref (q 50)), (1, .int x1)] [] (f4_stale n x1 S) := by
    unfold f4_stale
    refine h_aload_n X dX4_stale_0 rfl rfl ?_
    refine c_g_B_now X fl4_35 dX4_stale_1 ?_
    refine c_g_IM_cells X fl4_64 dX4_stale_4 ?_
    refine h_iload_n X dX4_stale_7 rfl rfl ?_
    refine kt2_has_5 hsf X tlX4_92 ⟨Nat.le_of_ble_eq_true rfl, Nat.le_of_ble_eq_true rfl⟩ (Nat.le_of_ble_eq_true rfl) dX4_stale_8 ?_
    intro v1 S1
    refine h_if_eq (tgt := 32) X dX4_stale_11 (by decide) ?_ ?_
    · refine h_iconst (v := (nI 0)) X dX4_stale_32 (by decide) ?_
      exact h_zret X dX4_stale_33
    · refine h_aload_n X dX4_stale_14 rfl rfl ?_
      refine c_g_B_now X fl4_35 dX4_stale_15 ?_
      refine k0_staleCells hsf X tlX4_101 ⟨Nat.le_of_ble_eq_true rfl, Nat.le_of_ble_eq_true rfl⟩ (Nat.le_of_ble_eq_true rfl) dX4_stale_18 ?_
      intro v2 S2
      refine h_iload_n X dX4_stale_21 rfl rfl ?_
      refine k0_isMarked hsf X tlX4_125 ⟨Nat.le_of_ble_eq_true rfl, Nat.le_of_ble_eq_true rfl⟩ (Nat.le_of_ble_eq_true rfl) dX4_stale_22 ?_
      intro v3 S3
      refine h_if_eq (tgt := 32) X dX4_stale_25 (by decide) ?_ ?_
      · refine h_iconst (v := (nI 0)) X dX4_stale_32 (by decide) ?_
        exact h_zret X dX4_stale_33
      · refine h_iconst (v := (nI 1)) X dX4_stale_28 (by decide) ?_
        refine h_goto (tgt := 33) X dX4_stale_29 (by decide) ?_
        exact h_zret X dX4_stale_33
theorem mo4_stale (n : Nat) (x1 : Int32) (S : CS) : mo S (f4_stale n x1 S) := by
    unfold f4_stale
    refine m_bT (mo2_has _ _ _) (fun v1 S1 => ?_)
    refine m_ite ?_ ?_
    · exact m_zt m_some
    · refine m_bnd (mo0_staleCells _ _) (fun v2 S2 => ?_)
      refine m_bnd (mo0_isMarked _ _ _ _) (fun v3 S3 => ?_)
      refine m_ite ?_ ?_
      · exact m_zt m_some
      · exact m_zt m_some
theorem c4_stale (hsf : sfOk (SF tk)) (l : Launch) (D : va_G) (cI : ClassId) (q : Nat → Nat) (n : Nat) (x1 : Int32) (S : CS) : MetW l D (tyC cI) (SF tk) (wC cI q) yX4_stale cX4_stale 2 (some .boolean) 5 112 QWi [.ref (q 50), .int x1] S (f4_stale n x1 S) := by
  refine MetW.of (own := RX4) (by decide) rfl (Nat.le_of_ble_eq_true rfl) (mo4_stale n x1 S) ?_
  intro x p e s m args below meth c X
  refine h_pick (lv' := [(0, .ref (q 50)), (1, .int x1)]) [0, 1] rfl ?_
  exact h_close (w4_stale hsf X n x1 S)
-- X4.written
def f4_written (n : Nat) (x1 : Int32) (x2 : Int32) (x3 : Int32) (S : CS) : Option (Int32 × CS) :=
    bT 5 S (f2_has n x1 (tOf 5 S)) fun v1 S1 =>
    if v1 = 0 then
      (some ((nI 0), S1))
    else
      (if x2 < 0 then
        (some ((nI 0), S1))
      else
        (if (nI 20) ≤ x2 then
          (some ((nI 0), S1))
        else
          (bT 5 S1 (f2_get n x1 (nI 3) (tOf 5 S1)) fun v2 S2 =>
          if x2 < v2 then
            (if x3 = 0 then
              (bT 5 S2 (f2_get n x1 ((nI 85) + x2) (tOf 5 S2)) fun v4 S4 =>
              some (v4, S4))
            else
              (if x3 = (nI 1) then
                (bT 5 S2 (f2_get n x1 ((nI 105) + x2) (tOf 5 S2)) fun v3 S3 =>
                some (v3, S3))
              else
                (some ((nI 0), S2))))
          else
            (some ((nI 0), S2)))))
theorem w4_written (hsf : sfOk (SF tk)) (X : hX p s m args meth c cX4_written 4 RX4 (some .int) D (tyC cI) (SF tk) A) {S0 : CS} (n : Nat) (x1 : Int32) (x2 : Int32) (x3 : Int32) (S : CS) : hG p l e (fun r => rmC 1 23 (cS r.2 - cS S0) (sS r.2 - sS S0)) s m args below meth c 4 (ZW D (wC cI q) A s.heap S0 S) (cS S - cS S0) (sS S - sS S0) (fun r => MQ below (QWi D (tyC cI) (wC cI q) A r) args s (cS r.2 - cS S0) (sS r.2 - sS S0) A) (fun r => le S r.2) 0 [(0, .ref (q 50)), (1, .int x1), (2, .int x2), (3, .int x3)] [] (f4_written n x1 x2 x3 S) := by
    unfold f4_written
    refine h_aload_n X dX4_written_0 rfl rfl ?_
    refine c_g_B_now X fl4_35 dX4_written_1 ?_
    refine c_g_IM_cells X fl4_64 dX4_written_4 ?_
    refine h_iload_n X dX4_written_7 rfl rfl ?_
    refine kt2_has_5 hsf X tlX4_92 ⟨Nat.le_of_ble_eq_true rfl, Nat.le_of_ble_eq_true rfl⟩ (Nat.le_of_ble_eq_true rfl) dX4_written_8 ?_
    intro v1 S1
    refine h_if_eq (tgt := 40) X dX4_written_11 (by decide) ?_ ?_
    · refine h_iconst (v := (nI 0)) X dX4_written_40 (by decide) ?_
      exact h_iret X dX4_written_41
    · refine h_iload_n X dX4_written_14 rfl rfl ?_
      refine h_if_lt (tgt := 40) X dX4_written_15 (by decide) ?_ ?_
      · refine h_iconst (v := (nI 0)) X dX4_written_40 (by decide) ?_
        exact h_iret X dX4_written_41
      · refine h_iload_n X dX4_written_18 rfl rfl ?_
        refine h_bipush (v := (nI 20)) X dX4_written_19 (by decide) ?_
        refine h_icmp_ge (tgt := 40) X dX4_written_21 (by decide) ?_ ?_
        · refine h_iconst (v := (nI 0)) X dX4_written_40 (by decide) ?_
          exact h_iret X dX4_written_41
        · refine h_iload_n X dX4_written_24 rfl rfl ?_
          refine h_aload_n X dX4_written_25 rfl rfl ?_
          refine c_g_B_now X fl4_35 dX4_written_26 ?_
          refine c_g_IM_cells X fl4_64 dX4_written_29 ?_
          refine h_iload_n X dX4_written_32 rfl rfl ?_
          refine h_iconst (v := (nI 3)) X dX4_written_33 (by decide) ?_
          refine kt2_get_5 hsf X tlX4_95 ⟨Nat.le_of_ble_eq_true rfl, Nat.le_of_ble_eq_true rfl⟩ (Nat.le_of_ble_eq_true rfl) dX4_written_34 ?_
          intro v2 S2
          refine h_icmp_lt (tgt := 42) X dX4_written_37 (by decide) ?_ ?_
          · refine h_iload_n X dX4_written_42 rfl rfl ?_
            refine h_if_ne (tgt := 62) X dX4_written_43 (by decide) ?_ ?_
            · refine h_iload_n X dX4_written_62 rfl rfl ?_
              refine h_iconst (v := (nI 1)) X dX4_written_63 (by decide) ?_
              refine h_icmp_ne (tgt := 85) X dX4_written_64 (by decide) ?_ ?_
              · refine h_iconst (v := (nI 0)) X dX4_written_85 (by decide) ?_
                exact h_iret X dX4_written_86
              · refine h_aload_n X dX4_written_67 rfl rfl ?_
                refine c_g_B_now X fl4_35 dX4_written_68 ?_
                refine c_g_IM_cells X fl4_64 dX4_written_71 ?_
                refine h_iload_n X dX4_written_74 rfl rfl ?_
                refine h_bipush (v := (nI 105)) X dX4_written_75 (by decide) ?_
                refine h_iload_n X dX4_written_77 rfl rfl ?_
                refine h_iadd X dX4_written_78 ?_
                refine kt2_get_5 hsf X tlX4_95 ⟨Nat.le_of_ble_eq_true rfl, Nat.le_of_ble_eq_true rfl⟩ (Nat.le_of_ble_eq_true rfl) dX4_written_79 ?_
                intro v3 S3
                refine h_goto (tgt := 86) X dX4_written_82 (by decide) ?_
                exact h_iret X dX4_written_86
            · refine h_aload_n X dX4_written_46 rfl rfl ?_
              refine c_g_B_now X fl4_35 dX4_written_47 ?_
              refine c_g_IM_cells X fl4_64 dX4_written_50 ?_
              refine h_iload_n X dX4_written_53 rfl rfl ?_
              refine h_bipush (v := (nI 85)) X dX4_written_54 (by decide) ?_
              refine h_iload_n X dX4_written_56 rfl rfl ?_
              refine h_iadd X dX4_written_57 ?_
              refine kt2_get_5 hsf X tlX4_95 ⟨Nat.le_of_ble_eq_true rfl, Nat.le_of_ble_eq_true rfl⟩ (Nat.le_of_ble_eq_true rfl) dX4_written_58 ?_
              intro v4 S4
              exact h_iret X dX4_written_61
          · refine h_iconst (v := (nI 0)) X dX4_written_40 (by decide) ?_
            exact h_iret X dX4_written_41
theorem mo4_written (n : Nat) (x1 : Int32) (x2 : Int32) (x3 : Int32) (S : CS) : mo S (f4_written n x1 x2 x3 S) := by
    unfold f4_written
    refine m_bT (mo2_has _ _ _) (fun v1 S1 => ?_)
    refine m_ite ?_ ?_
    · exact m_some
    · refine m_ite ?_ ?_
      · exact m_some
      · refine m_ite ?_ ?_
        · exact m_some
        · refine m_bT (mo2_get _ _ _ _) (fun v2 S2 => ?_)
          refine m_ite ?_ ?_
          · refine m_ite ?_ ?_
            · refine m_bT (mo2_get _ _ _ _) (fun v4 S4 => ?_)
              exact m_some
            · refine m_ite ?_ ?_
              · refine m_bT (mo2_get _ _ _ _) (fun v3 S3 => ?_)
                exact m_some
              · exact m_some
          · exact m_some
theorem c4_written (hsf : sfOk (SF tk)) (l : Launch) (D : va_G) (cI : ClassId) (q : Nat → Nat) (n : Nat) (x1 : Int32) (x2 : Int32) (x3 : Int32) (S : CS) : MetW l D (tyC cI) (SF tk) (wC cI q) yX4_written cX4_written 4 (some .int) 1 23 QWi [.ref (q 50), .int x1, .int x2, .int x3] S (f4_written n x1 x2 x3 S) := by
  refine MetW.of (own := RX4) (by decide) rfl (Nat.le_of_ble_eq_true rfl) (mo4_written n x1 x2 x3 S) ?_
  intro x p e s m args below meth c X
  refine h_pick (lv' := [(0, .ref (q 50)), (1, .int x1), (2, .int x2), (3, .int x3)]) [0, 1, 2, 3] rfl ?_
  exact h_close (w4_written hsf X n x1 x2 x3 S)
-- X4.count
def f4_count (n : Nat) (x1 : Int32) (S : CS) : Option (Int32 × CS) :=
    if x1 = (nI 0) then
      (bT 6 S (f2_size n (tOf 6 S)) fun v2 S2 =>
      some (v2, S2))
    else if x1 = (nI 1) then
      (bT 7 S (f2_size n (tOf 7 S)) fun v4 S4 =>
      some (v4, S4))
    else if x1 = (nI 2) then
      (bT 5 S (f2_size n (tOf 5 S)) fun v6 S6 =>
      some (v6, S6))
    else if x1 = (nI 3) then
      (cg S 1 fun v8 =>
      some (v8, S))
    else (some ((-1 : Int32), S))
theorem w4_count (hsf : sfOk (SF tk)) (X : hX p s m args meth c cX4_count 2 RX4 (some .int) D (tyC cI) (SF tk) A) {S0 : CS} (n : Nat) (x1 : Int32) (S : CS) : hG p l e (fun r => rmC 1 20 (cS r.2 - cS S0) (sS r.2 - sS S0)) s m args below meth c 2 (ZW D (wC cI q) A s.heap S0 S) (cS S - cS S0) (sS S - sS S0) (fun r => MQ below (QWi D (tyC cI) (wC cI q) A r) args s (cS r.2 - cS S0) (sS r.2 - sS S0) A) (fun r => le S r.2) 0 [(0, .ref (q 50)), (1, .int x1)] [] (f4_count n x1 S) := by
    unfold f4_count
    refine h_iload_n X dX4_count_0 rfl rfl ?_
    refine h_ite (fun h1 => ?_) (fun h1 => ?_)
    · refine h_tIn (off := 31) (tgt := 32) X dX4_count_1 (by rw [h1]; decide) (by rw [h1]; decide) (by rw [h1]; rfl) (by decide) ?_
      refine h_aload_n X dX4_count_32 rfl rfl ?_
      refine c_g_B_now X fl4_35 dX4_count_33 ?_
      refine c_g_IM_editions X fl4_111 dX4_count_36 ?_
      refine kt2_size_6 hsf X tlX4_68 ⟨Nat.le_of_ble_eq_true rfl, Nat.le_of_ble_eq_true rfl⟩ (Nat.le_of_ble_eq_true rfl) dX4_count_39 ?_
      intro v2 S2
      exact h_iret X dX4_count_42
    have eh1 := tn_i (n := 0) h1 (by decide)
    refine h_ite (fun h3 => ?_) (fun h3 => ?_)
    · refine h_tIn (off := 42) (tgt := 43) X dX4_count_1 (by rw [h3]; decide) (by rw [h3]; decide) (by rw [h3]; rfl) (by decide) ?_
      refine h_aload_n X dX4_count_43 rfl rfl ?_
      refine c_g_B_now X fl4_35 dX4_count_44 ?_
      refine c_g_IM_objects X fl4_129 dX4_count_47 ?_
      refine kt2_size_7 hsf X tlX4_68 ⟨Nat.le_of_ble_eq_true rfl, Nat.le_of_ble_eq_true rfl⟩ (Nat.le_of_ble_eq_true rfl) dX4_count_50 ?_
      intro v4 S4
      exact h_iret X dX4_count_53
    have eh3 := tn_i (n := 1) h3 (by decide)
    refine h_ite (fun h5 => ?_) (fun h5 => ?_)
    · refine h_tIn (off := 53) (tgt := 54) X dX4_count_1 (by rw [h5]; decide) (by rw [h5]; decide) (by rw [h5]; rfl) (by decide) ?_
      refine h_aload_n X dX4_count_54 rfl rfl ?_
      refine c_g_B_now X fl4_35 dX4_count_55 ?_
      refine c_g_IM_cells X fl4_64 dX4_count_58 ?_
      refine kt2_size_5 hsf X tlX4_68 ⟨Nat.le_of_ble_eq_true rfl, Nat.le_of_ble_eq_true rfl⟩ (Nat.le_of_ble_eq_true rfl) dX4_count_61 ?_
      intro v6 S6
      exact h_iret X dX4_count_64
    have eh5 := tn_i (n := 2) h5 (by decide)
    refine h_ite (fun h7 => ?_) (fun h7 => ?_)
    · refine h_tIn (off := 64) (tgt := 65) X dX4_count_1 (by rw [h7]; decide) (by rw [h7]; decide) (by rw [h7]; rfl) (by decide) ?_
      refine h_aload_n X dX4_count_65 rfl rfl ?_
      refine c_g_B_onTape X fl4_13 dX4_count_66 ?_
      intro v8
      exact h_iret X dX4_count_69
    have eh7 := tn_i (n := 3) h7 (by decide)
    refine h_tOut (tgt := 70) X dX4_count_1 (by omega) (by decide) ?_
    refine h_iconst (v := (-1 : Int32)) X dX4_count_70 (by decide) ?_
    exact h_iret X dX4_count_71
theorem mo4_count (n : Nat) (x1 : Int32) (S : CS) : mo S (f4_count n x1 S) := by
    unfold f4_count
    refine m_ite ?_ ?_
    · refine m_bT (mo2_size _ _) (fun v2 S2 => ?_)
      exact m_some
    refine m_ite ?_ ?_
    · refine m_bT (mo2_size _ _) (fun v4 S4 => ?_)
      exact m_some
    refine m_ite ?_ ?_
    · refine m_bT (mo2_size _ _) (fun v6 S6 => ?_)
      exact m_some
    refine m_ite ?_ ?_
    · refine m_cg (fun v8 => ?_)
      exact m_some
    exact m_some
theorem c4_count (hsf : sfOk (SF tk)) (l : Launch) (D : va_G) (cI : ClassId) (q : Nat → Nat) (n : Nat) (x1 : Int32) (S : CS) : MetW l D (tyC cI) (SF tk) (wC cI q) yX4_count cX4_count 2 (some .int) 1 20 QWi [.ref (q 50), .int x1] S (f4_count n x1 S) := by
  refine MetW.of (own := RX4) (by decide) rfl (Nat.le_of_ble_eq_true rfl) (mo4_count n x1 S) ?_
  intro x p e s m args below meth c X
  refine h_pick (lv' := [(0, .ref (q 50)), (1, .int x1)]) [0, 1] rfl ?_
  exact h_close (w4_count hsf X n x1 S)
-- X4.newest
theorem tlX4_132 : Cond.methodLink RX4 132 yX0_newestOf ∈ tt := tt_in (List.mem_of_getElem? (i := 688) (by decide +kernel)) (by decide +kernel)
def f4_newest (n : Nat) (x1 : Int32) (S : CS) : Option (Int32 × CS) :=
    bnd (f0_newestOf n x1 S) fun v1 S1 =>
    some (v1, S1)
theorem w4_newest (hsf : sfOk (SF tk)) (X : hX p s m args meth c cX4_newest 2 RX4 (some .int) D (tyC cI) (SF tk) A) {S0 : CS} (n : Nat) (x1 : Int32) (S : CS) : hG p l e (fun r => rmC 2 41 (cS r.2 - cS S0) (sS r.2 - sS S0)) s m args below meth c 2 (ZW D (wC cI q) A s.heap S0 S) (cS S - cS S0) (sS S - sS S0) (fun r => MQ below (QWi D (tyC cI) (wC cI q) A r) args s (cS r.2 - cS S0) (sS r.2 - sS S0) A) (fun r => le S r.2) 0 [(0, .ref (q 50)), (1, .int x1)] [] (f4_newest n x1 S) := by
    unfold f4_newest
    refine h_aload_n X dX4_newest_0 rfl rfl ?_
    refine c_g_B_now X fl4_35 dX4_newest_1 ?_
    refine h_iload_n X dX4_newest_4 rfl rfl ?_
    refine k0_newestOf hsf X tlX4_132 ⟨Nat.le_of_ble_eq_true rfl, Nat.le_of_ble_eq_true rfl⟩ (Nat.le_of_ble_eq_true rfl) dX4_newest_5 ?_
    intro v1 S1
    exact h_iret X dX4_newest_8
theorem mo4_newest (n : Nat) (x1 : Int32) (S : CS) : mo S (f4_newest n x1 S) := by
    unfold f4_newest
    refine m_bnd (mo0_newestOf _ _ _) (fun v1 S1 => ?_)
    exact m_some
theorem c4_newest (hsf : sfOk (SF tk)) (l : Launch) (D : va_G) (cI : ClassId) (q : Nat → Nat) (n : Nat) (x1 : Int32) (S : CS) : MetW l D (tyC cI) (SF tk) (wC cI q) yX4_newest cX4_newest 2 (some .int) 2 41 QWi [.ref (q 50), .int x1] S (f4_newest n x1 S) := by
  refine MetW.of (own := RX4) (by decide) rfl (Nat.le_of_ble_eq_true rfl) (mo4_newest n x1 S) ?_
  intro x p e s m args below meth c X
  refine h_pick (lv' := [(0, .ref (q 50)), (1, .int x1)]) [0, 1] rfl ?_
  exact h_close (w4_newest hsf X n x1 S)
-- X4.edition
def f4_edition_b154 (n : Nat) (s0 : Int32) (s1 : Int32) (S : CS) : Option (Int32 × CS) :=
    bT 6 S (f2_get n s0 s1 (tOf 6 S)) fun v1 S1 =>
    some (v1, S1)
theorem mw4_edition_b154 (n : Nat) (s0 : Int32) (s1 : Int32) (S : CS) : mo S (f4_edition_b154 n s0 s1 S) := by
  unfold f4_edition_b154
  refine m_bT (mo2_get _ _ _ _) (fun v1 S1 => ?_)
  exact m_some
theorem w4_edition_b154 (hsf : sfOk (SF tk)) (X : hX p s m args meth c cX4_edition 4 RX4 (some .int) D (tyC cI) (SF tk) A) (n : Nat) (s0 : Int32) (s1 : Int32) (S : CS) : hG p l e (fun r => rmC 3 62 (cS r.2 - cS S0) (sS r.2 - sS S0)) s m args below meth c 4 (ZW D (wC cI q) A s.heap S0 S) (cS S - cS S0) (sS S - sS S0) (fun r => MQ below (QWi D (tyC cI) (wC cI q) A r) args s (cS r.2 - cS S0) (sS r.2 - sS S0) A) (fun r => le S r.2) 154 [] [.int s1, .int s0, .ref (q 106)] (f4_edition_b154 n s0 s1 S) := by
  unfold f4_edition_b154
  refine kt2_get_6 hsf X tlX4_95 ⟨Nat.le_of_ble_eq_true rfl, Nat.le_of_ble_eq_true rfl⟩ (Nat.le_of_ble_eq_true rfl) dX4_edition_154 ?_
  intro v1 S1
  exact h_iret X dX4_edition_157
def f4_edition_b176 (n : Nat) (s0 : Int32) (s1 : Int32) (S : CS) : Option (Int32 × CS) :=
    bT 6 S (f2_get n s0 s1 (tOf 6 S)) fun v1 S1 =>
    some (v1, S1)
theorem mw4_edition_b176 (n : Nat) (s0 : Int32) (s1 : Int32) (S : CS) : mo S (f4_edition_b176 n s0 s1 S) := by
  unfold f4_edition_b176
  refine m_bT (mo2_get _ _ _ _) (fun v1 S1 => ?_)
  exact m_some
theorem w4_edition_b176 (hsf : sfOk (SF tk)) (X : hX p s m args meth c cX4_edition 4 RX4 (some .int) D (tyC cI) (SF tk) A) (n : Nat) (s0 : Int32) (s1 : Int32) (S : CS) : hG p l e (fun r => rmC 3 62 (cS r.2 - cS S0) (sS r.2 - sS S0)) s m args below meth c 4 (ZW D (wC cI q) A s.heap S0 S) (cS S - cS S0) (sS S - sS S0) (fun r => MQ below (QWi D (tyC cI) (wC cI q) A r) args s (cS r.2 - cS S0) (sS r.2 - sS S0) A) (fun r => le S r.2) 176 [] [.int s1, .int s0, .ref (q 106)] (f4_edition_b176 n s0 s1 S) := by
  unfold f4_edition_b176
  refine kt2_get_6 hsf X tlX4_95 ⟨Nat.le_of_ble_eq_true rfl, Nat.le_of_ble_eq_true rfl⟩ (Nat.le_of_ble_eq_true rfl) dX4_edition_176 ?_
  intro v1 S1
  exact h_iret X dX4_edition_179
theorem tlX4_135 : Cond.methodLink RX4 135 yX0_isClass ∈ tt := tt_in (List.mem_of_getElem? (i := 693) (by decide +kernel)) (by decide +kernel)
theorem tlX4_138 : Cond.methodLink RX4 138 yX0_countOlder ∈ tt := tt_in (List.mem_of_getElem? (i := 697) (by decide +kernel)) (by decide +kernel)
theorem tlX4_141 : Cond.methodLink RX4 141 yX0_isNewest ∈ tt := tt_in (List.mem_of_getElem? (i := 701) (by decide +kernel)) (by decide +kernel)
theorem tlX4_144 : Cond.methodLink RX4 144 yX0_countMadeOf ∈ tt := tt_in (List.mem_of_getElem? (i := 702) (by decide +kernel)) (by decide +kernel)
def f4_edition (n : Nat) (x1 : Int32) (x2 : Int32) (S : CS) : Option (Int32 × CS) :=
    bT 6 S (f2_has n x1 (tOf 6 S)) fun v1 S1 =>
    if v1 = 0 then
      (some ((-3 : Int32), S1))
    else
      (bnd (f0_isClass n x1 S1) fun v2 S2 =>
      if x2 = (nI 0) then
        (bT 6 S2 (f2_get n x1 (nI 0) (tOf 6 S2)) fun v4 S4 =>
        some (v4, S4))
      else if x2 = (nI 1) then
        (bnd (f0_countOlder n x1 S2) fun v6 S6 =>
        some (v6, S6))
      else if x2 = (nI 2) then
        (bT 6 S2 (f2_get n x1 (nI 1) (tOf 6 S2)) fun v8 S8 =>
        some (v8, S8))
      else if x2 = (nI 3) then
        (bT 6 S2 (f2_get n x1 (nI 2) (tOf 6 S2)) fun v10 S10 =>
        some (v10, S10))
      else if x2 = (nI 4) then
        (bnd (f0_isNewest n x1 S2) fun v12 S12 =>
        if v12 = 0 then (some ((nI 0), S12)) else (some ((nI 1), S12)))
      else if x2 = (nI 5) then
        (if v2 = 0 then (f4_edition_b154 n x1 (nI 3) S2) else (f4_edition_b154 n x1 (nI 5) S2))
      else if x2 = (nI 6) then
        (if v2 = 0 then (f4_edition_b176 n x1 (nI 4) S2) else (f4_edition_b176 n x1 (nI 6) S2))
      else if x2 = (nI 7) then
        (if v2 = 0 then
          (some ((nI 0), S2))
        else
          (bnd (f0_countMadeOf n x1 S2) fun v16 S16 =>
          some (v16, S16)))
      else (some ((-3 : Int32), S2)))
theorem w4_edition (hsf : sfOk (SF tk)) (X : hX p s m args meth c cX4_edition 4 RX4 (some .int) D (tyC cI) (SF tk) A) {S0 : CS} (n : Nat) (x1 : Int32) (x2 : Int32) (S : CS) : hG p l e (fun r => rmC 3 62 (cS r.2 - cS S0) (sS r.2 - sS S0)) s m args below meth c 4 (ZW D (wC cI q) A s.heap S0 S) (cS S - cS S0) (sS S - sS S0) (fun r => MQ below (QWi D (tyC cI) (wC cI q) A r) args s (cS r.2 - cS S0) (sS r.2 - sS S0) A) (fun r => le S r.2) 0 [(0, .ref (q 50)), (1, .int x1), (2, .int x2)] [] (f4_edition n x1 x2 S) := by
    unfold f4_edition
    refine h_aload_n X dX4_edition_0 rfl rfl ?_
    refine c_g_B_now X fl4_35 dX4_edition_1 ?_
    refine c_g_IM_editions X fl4_111 dX4_edition_4 ?_
    refine h_iload_n X dX4_edition_7 rfl rfl ?_
    refine kt2_has_6 hsf X tlX4_92 ⟨Nat.le_of_ble_eq_true rfl, Nat.le_of_ble_eq_true rfl⟩ (Nat.le_of_ble_eq_true rfl) dX4_edition_8 ?_
    intro v1 S1
    refine h_if_ne (tgt := 17) X dX4_edition_11 (by decide) ?_ ?_
    · refine h_aload_n X dX4_edition_17 rfl rfl ?_
      refine c_g_B_now X fl4_35 dX4_edition_18 ?_
      refine h_iload_n X dX4_edition_21 rfl rfl ?_
      refine k0_isClass hsf X tlX4_135 ⟨Nat.le_of_ble_eq_true rfl, Nat.le_of_ble_eq_true rfl⟩ (Nat.le_of_ble_eq_true rfl) dX4_edition_22 ?_
      intro v2 S2
      refine h_istore_n (lv' := [(3, .int v2), (0, .ref (q 50)), (1, .int x1), (2, .int x2)]) X dX4_edition_25 rfl (by decide) rfl ?_
      refine h_iload_n X dX4_edition_26 rfl rfl ?_
      refine h_ite (fun h3 => ?_) (fun h3 => ?_)
      · refine h_tIn (off := 45) (tgt := 72) X dX4_edition_27 (by rw [h3]; decide) (by rw [h3]; decide) (by rw [h3]; rfl) (by decide) ?_
        refine h_aload_n X dX4_edition_72 rfl rfl ?_
        refine c_g_B_now X fl4_35 dX4_edition_73 ?_
        refine c_g_IM_editions X fl4_111 dX4_edition_76 ?_
        refine h_iload_n X dX4_edition_79 rfl rfl ?_
        refine h_iconst (v := (nI 0)) X dX4_edition_80 (by decide) ?_
        refine kt2_get_6 hsf X tlX4_95 ⟨Nat.le_of_ble_eq_true rfl, Nat.le_of_ble_eq_true rfl⟩ (Nat.le_of_ble_eq_true rfl) dX4_edition_81 ?_
        intro v4 S4
        exact h_iret X dX4_edition_84
      have eh3 := tn_i (n := 0) h3 (by decide)
      refine h_ite (fun h5 => ?_) (fun h5 => ?_)
      · refine h_tIn (off := 58) (tgt := 85) X dX4_edition_27 (by rw [h5]; decide) (by rw [h5]; decide) (by rw [h5]; rfl) (by decide) ?_
        refine h_aload_n X dX4_edition_85 rfl rfl ?_
        refine c_g_B_now X fl4_35 dX4_edition_86 ?_
        refine h_iload_n X dX4_edition_89 rfl rfl ?_
        refine k0_countOlder hsf X tlX4_138 ⟨Nat.le_of_ble_eq_true rfl, Nat.le_of_ble_eq_true rfl⟩ (Nat.le_of_ble_eq_true rfl) dX4_edition_90 ?_
        intro v6 S6
        exact h_iret X dX4_edition_93
      have eh5 := tn_i (n := 1) h5 (by decide)
      refine h_ite (fun h7 => ?_) (fun h7 => ?_)
      · refine h_tIn (off := 67) (tgt := 94) X dX4_edition_27 (by rw [h7]; decide) (by rw [h7]; decide) (by rw [h7]; rfl) (by decide) ?_
        refine h_aload_n X dX4_edition_94 rfl rfl ?_
        refine c_g_B_now X fl4_35 dX4_edition_95 ?_
        refine c_g_IM_editions X fl4_111 dX4_edition_98 ?_
        refine h_iload_n X dX4_edition_101 rfl rfl ?_
        refine h_iconst (v := (nI 1)) X dX4_edition_102 (by decide) ?_
        refine kt2_get_6 hsf X tlX4_95 ⟨Nat.le_of_ble_eq_true rfl, Nat.le_of_ble_eq_true rfl⟩ (Nat.le_of_ble_eq_true rfl) dX4_edition_103 ?_
        intro v8 S8
        exact h_iret X dX4_edition_106
      have eh7 := tn_i (n := 2) h7 (by decide)
      refine h_ite (fun h9 => ?_) (fun h9 => ?_)
      · refine h_tIn (off := 80) (tgt := 107) X dX4_edition_27 (by rw [h9]; decide) (by rw [h9]; decide) (by rw [h9]; rfl) (by decide) ?_
        refine h_aload_n X dX4_edition_107 rfl rfl ?_
        refine c_g_B_now X fl4_35 dX4_edition_108 ?_
        refine c_g_IM_editions X fl4_111 dX4_edition_111 ?_
        refine h_iload_n X dX4_edition_114 rfl rfl ?_
        refine h_iconst (v := (nI 2)) X dX4_edition_115 (by decide) ?_
        refine kt2_get_6 hsf X tlX4_95 ⟨Nat.le_of_ble_eq_true rfl, Nat.le_of_ble_eq_true rfl⟩ (Nat.le_of_ble_eq_true rfl) dX4_edition_116 ?_
        intro v10 S10
        exact h_iret X dX4_edition_119
      have eh9 := tn_i (n := 3) h9 (by decide)
      refine h_ite (fun h11 => ?_) (fun h11 => ?_)
      · refine h_tIn (off := 93) (tgt := 120) X dX4_edition_27 (by rw [h11]; decide) (by rw [h11]; decide) (by rw [h11]; rfl) (by decide) ?_
        refine h_aload_n X dX4_edition_120 rfl rfl ?_
        refine c_g_B_now X fl4_35 dX4_edition_121 ?_
        refine h_iload_n X dX4_edition_124 rfl rfl ?_
        refine k0_isNewest hsf X tlX4_141 ⟨Nat.le_of_ble_eq_true rfl, Nat.le_of_ble_eq_true rfl⟩ (Nat.le_of_ble_eq_true rfl) dX4_edition_125 ?_
        intro v12 S12
        refine h_if_eq (tgt := 135) X dX4_edition_128 (by decide) ?_ ?_
        · refine h_iconst (v := (nI 0)) X dX4_edition_135 (by decide) ?_
          exact h_iret X dX4_edition_136
        · refine h_iconst (v := (nI 1)) X dX4_edition_131 (by decide) ?_
          refine h_goto (tgt := 136) X dX4_edition_132 (by decide) ?_
          exact h_iret X dX4_edition_136
      have eh11 := tn_i (n := 4) h11 (by decide)
      refine h_ite (fun h13 => ?_) (fun h13 => ?_)
      · refine h_tIn (off := 110) (tgt := 137) X dX4_edition_27 (by rw [h13]; decide) (by rw [h13]; decide) (by rw [h13]; rfl) (by decide) ?_
        refine h_aload_n X dX4_edition_137 rfl rfl ?_
        refine c_g_B_now X fl4_35 dX4_edition_138 ?_
        refine c_g_IM_editions X fl4_111 dX4_edition_141 ?_
        refine h_iload_n X dX4_edition_144 rfl rfl ?_
        refine h_iload_n X dX4_edition_145 rfl rfl ?_
        refine h_if_eq (tgt := 153) X dX4_edition_146 (by decide) ?_ ?_
        · refine h_iconst (v := (nI 3)) X dX4_edition_153 (by decide) ?_
          exact h_pick [] rfl (w4_edition_b154 hsf X n x1 (nI 3) S2)
        · refine h_iconst (v := (nI 5)) X dX4_edition_149 (by decide) ?_
          refine h_goto (tgt := 154) X dX4_edition_150 (by decide) ?_
          exact h_pick [] rfl (w4_edition_b154 hsf X n x1 (nI 5) S2)
      have eh13 := tn_i (n := 5) h13 (by decide)
      refine h_ite (fun h14 => ?_) (fun h14 => ?_)
      · refine h_tIn (off := 131) (tgt := 158) X dX4_edition_27 (by rw [h14]; decide) (by rw [h14]; decide) (by rw [h14]; rfl) (by decide) ?_
        refine h_aload_n X dX4_edition_158 rfl rfl ?_
        refine c_g_B_now X fl4_35 dX4_edition_159 ?_
        refine c_g_IM_editions X fl4_111 dX4_edition_162 ?_
        refine h_iload_n X dX4_edition_165 rfl rfl ?_
        refine h_iload_n X dX4_edition_166 rfl rfl ?_
        refine h_if_eq (tgt := 175) X dX4_edition_167 (by decide) ?_ ?_
        · refine h_iconst (v := (nI 4)) X dX4_edition_175 (by decide) ?_
          exact h_pick [] rfl (w4_edition_b176 hsf X n x1 (nI 4) S2)
        · refine h_bipush (v := (nI 6)) X dX4_edition_170 (by decide) ?_
          refine h_goto (tgt := 176) X dX4_edition_172 (by decide) ?_
          exact h_pick [] rfl (w4_edition_b176 hsf X n x1 (nI 6) S2)
      have eh14 := tn_i (n := 6) h14 (by decide)
      refine h_ite (fun h15 => ?_) (fun h15 => ?_)
      · refine h_tIn (off := 153) (tgt := 180) X dX4_edition_27 (by rw [h15]; decide) (by rw [h15]; decide) (by rw [h15]; rfl) (by decide) ?_
        refine h_iload_n X dX4_edition_180 rfl rfl ?_
        refine h_if_eq (tgt := 195) X dX4_edition_181 (by decide) ?_ ?_
        · refine h_iconst (v := (nI 0)) X dX4_edition_195 (by decide) ?_
          exact h_iret X dX4_edition_196
        · refine h_aload_n X dX4_edition_184 rfl rfl ?_
          refine c_g_B_now X fl4_35 dX4_edition_185 ?_
          refine h_iload_n X dX4_edition_188 rfl rfl ?_
          refine k0_countMadeOf hsf X tlX4_144 ⟨Nat.le_of_ble_eq_true rfl, Nat.le_of_ble_eq_true rfl⟩ (Nat.le_of_ble_eq_true rfl) dX4_edition_189 ?_
          intro v16 S16
          refine h_goto (tgt := 196) X dX4_edition_192 (by decide) ?_
          exact h_iret X dX4_edition_196
      have eh15 := tn_i (n := 7) h15 (by decide)
      refine h_tOut (tgt := 197) X dX4_edition_27 (by omega) (by decide) ?_
      refine h_bipush (v := (-3 : Int32)) X dX4_edition_197 (by decide) ?_
      exact h_iret X dX4_edition_199
    · refine h_bipush (v := (-3 : Int32)) X dX4_edition_14 (by decide) ?_
      exact h_iret X dX4_edition_16
theorem mo4_edition (n : Nat) (x1 : Int32) (x2 : Int32) (S : CS) : mo S (f4_edition n x1 x2 S) := by
    unfold f4_edition
    refine m_bT (mo2_has _ _ _) (fun v1 S1 => ?_)
    refine m_ite ?_ ?_
    · exact m_some
    · refine m_bnd (mo0_isClass _ _ _) (fun v2 S2 => ?_)
      refine m_ite ?_ ?_
      · refine m_bT (mo2_get _ _ _ _) (fun v4 S4 => ?_)
        exact m_some
      refine m_ite ?_ ?_
      · refine m_bnd (mo0_countOlder _ _ _) (fun v6 S6 => ?_)
        exact m_some
      refine m_ite ?_ ?_
      · refine m_bT (mo2_get _ _ _ _) (fun v8 S8 => ?_)
        exact m_some
      refine m_ite ?_ ?_
      · refine m_bT (mo2_get _ _ _ _) (fun v10 S10 => ?_)
        exact m_some
      refine m_ite ?_ ?_
      · refine m_bnd (mo0_isNewest _ _ _) (fun v12 S12 => ?_)
        refine m_ite ?_ ?_
        · exact m_some
        · exact m_some
      refine m_ite ?_ ?_
      · refine m_ite ?_ ?_
        · exact mw4_edition_b154 n x1 (nI 3) S2
        · exact mw4_edition_b154 n x1 (nI 5) S2
      refine m_ite ?_ ?_
      · refine m_ite ?_ ?_
        · exact mw4_edition_b176 n x1 (nI 4) S2
        · exact mw4_edition_b176 n x1 (nI 6) S2
      refine m_ite ?_ ?_
      · refine m_ite ?_ ?_
        · exact m_some
        · refine m_bnd (mo0_countMadeOf _ _ _) (fun v16 S16 => ?_)
          exact m_some
      exact m_some
theorem c4_edition (hsf : sfOk (SF tk)) (l : Launch) (D : va_G) (cI : ClassId) (q : Nat → Nat) (n : Nat) (x1 : Int32) (x2 : Int32) (S : CS) : MetW l D (tyC cI) (SF tk) (wC cI q) yX4_edition cX4_edition 4 (some .int) 3 62 QWi [.ref (q 50), .int x1, .int x2] S (f4_edition n x1 x2 S) := by
  refine MetW.of (own := RX4) (by decide) rfl (Nat.le_of_ble_eq_true rfl) (mo4_edition n x1 x2 S) ?_
  intro x p e s m args below meth c X
  refine h_pick (lv' := [(0, .ref (q 50)), (1, .int x1), (2, .int x2)]) [0, 1, 2] rfl ?_
  exact h_close (w4_edition hsf X n x1 x2 S)
-- X4.classOf
def f4_classOf (n : Nat) (x1 : Int32) (S : CS) : Option (Int32 × CS) :=
    bT 7 S (f2_has n x1 (tOf 7 S)) fun v1 S1 =>
    if v1 = 0 then
      (some ((-1 : Int32), S1))
    else
      (bT 7 S1 (f2_get n x1 (nI 0) (tOf 7 S1)) fun v2 S2 =>
      some (v2, S2))
theorem w4_classOf (hsf : sfOk (SF tk)) (X : hX p s m args meth c cX4_classOf 2 RX4 (some .int) D (tyC cI) (SF tk) A) {S0 : CS} (n : Nat) (x1 : Int32) (S : CS) : hG p l e (fun r => rmC 1 23 (cS r.2 - cS S0) (sS r.2 - sS S0)) s m args below meth c 2 (ZW D (wC cI q) A s.heap S0 S) (cS S - cS S0) (sS S - sS S0) (fun r => MQ below (QWi D (tyC cI) (wC cI q) A r) args s (cS r.2 - cS S0) (sS r.2 - sS S0) A) (fun r => le S r.2) 0 [(0, .ref (q 50)), (1, .int x1)] [] (f4_classOf n x1 S) := by
    unfold f4_classOf
    refine h_aload_n X dX4_classOf_0 rfl rfl ?_
    refine c_g_B_now X fl4_35 dX4_classOf_1 ?_
    refine c_g_IM_objects X fl4_129 dX4_classOf_4 ?_
    refine h_iload_n X dX4_classOf_7 rfl rfl ?_
    refine kt2_has_7 hsf X tlX4_92 ⟨Nat.le_of_ble_eq_true rfl, Nat.le_of_ble_eq_true rfl⟩ (Nat.le_of_ble_eq_true rfl) dX4_classOf_8 ?_
    intro v1 S1
    refine h_if_eq (tgt := 29) X dX4_classOf_11 (by decide) ?_ ?_
    · refine h_iconst (v := (-1 : Int32)) X dX4_classOf_29 (by decide) ?_
      exact h_iret X dX4_classOf_30
    · refine h_aload_n X dX4_classOf_14 rfl rfl ?_
      refine c_g_B_now X fl4_35 dX4_classOf_15 ?_
      refine c_g_IM_objects X fl4_129 dX4_classOf_18 ?_
      refine h_iload_n X dX4_classOf_21 rfl rfl ?_
      refine h_iconst (v := (nI 0)) X dX4_classOf_22 (by decide) ?_
      refine kt2_get_7 hsf X tlX4_95 ⟨Nat.le_of_ble_eq_true rfl, Nat.le_of_ble_eq_true rfl⟩ (Nat.le_of_ble_eq_true rfl) dX4_classOf_23 ?_
      intro v2 S2
      refine h_goto (tgt := 30) X dX4_classOf_26 (by decide) ?_
      exact h_iret X dX4_classOf_30
theorem mo4_classOf (n : Nat) (x1 : Int32) (S : CS) : mo S (f4_classOf n x1 S) := by
    unfold f4_classOf
    refine m_bT (mo2_has _ _ _) (fun v1 S1 => ?_)
    refine m_ite ?_ ?_
    · exact m_some
    · refine m_bT (mo2_get _ _ _ _) (fun v2 S2 => ?_)
      exact m_some
theorem c4_classOf (hsf : sfOk (SF tk)) (l : Launch) (D : va_G) (cI : ClassId) (q : Nat → Nat) (n : Nat) (x1 : Int32) (S : CS) : MetW l D (tyC cI) (SF tk) (wC cI q) yX4_classOf cX4_classOf 2 (some .int) 1 23 QWi [.ref (q 50), .int x1] S (f4_classOf n x1 S) := by
  refine MetW.of (own := RX4) (by decide) rfl (Nat.le_of_ble_eq_true rfl) (mo4_classOf n x1 S) ?_
  intro x p e s m args below meth c X
  refine h_pick (lv' := [(0, .ref (q 50)), (1, .int x1)]) [0, 1] rfl ?_
  exact h_close (w4_classOf hsf X n x1 S)
-- X4.field
def f4_field_b27 (n : Nat) (x1 : Int32) (x2 : Int32) (x3 : Int32) (s0 : Int32) (S : CS) : Option (Int32 × CS) :=
    if x3 = 0 then
      (if s0 = 0 then
        (some ((-1 : Int32), S))
      else
        (bT 7 S (f2_get n x1 ((nI 1) + x2) (tOf 7 S)) fun v2 S2 =>
        some (v2, S2)))
    else
      (if s0 = 0 then
        (some ((nI 0), S))
      else
        (if x3 = (nI 1) then
          (bT 7 S (f2_get n x1 ((nI 11) + x2) (tOf 7 S)) fun v1 S1 =>
          some (v1, S1))
        else
          (some ((nI 0), S))))
theorem mw4_field_b27 (n : Nat) (x1 : Int32) (x2 : Int32) (x3 : Int32) (s0 : Int32) (S : CS) : mo S (f4_field_b27 n x1 x2 x3 s0 S) := by
  unfold f4_field_b27
  refine m_ite ?_ ?_
  · refine m_ite ?_ ?_
    · exact m_some
    · refine m_bT (mo2_get _ _ _ _) (fun v2 S2 => ?_)
      exact m_some
  · refine m_ite ?_ ?_
    · exact m_some
    · refine m_ite ?_ ?_
      · refine m_bT (mo2_get _ _ _ _) (fun v1 S1 => ?_)
        exact m_some
      · exact m_some
theorem w4_field_b27 (hsf : sfOk (SF tk)) (X : hX p s m args meth c cX4_field 5 RX4 (some .int) D (tyC cI) (SF tk) A) (n : Nat) (x1 : Int32) (x2 : Int32) (x3 : Int32) (s0 : Int32) (S : CS) : hG p l e (fun r => rmC 2 45 (cS r.2 - cS S0) (sS r.2 - sS S0)) s m args below meth c 5 (ZW D (wC cI q) A s.heap S0 S) (cS S - cS S0) (sS S - sS S0) (fun r => MQ below (QWi D (tyC cI) (wC cI q) A r) args s (cS r.2 - cS S0) (sS r.2 - sS S0) A) (fun r => le S r.2) 27 [(0, .ref (q 50)), (1, .int x1), (2, .int x2), (3, .int x3)] [.int s0] (f4_field_b27 n x1 x2 x3 s0 S) := by
  unfold f4_field_b27
  refine h_istore (lv' := [(4, .int s0), (0, .ref (q 50)), (1, .int x1), (2, .int x2), (3, .int x3)]) X dX4_field_27 (by decide) rfl ?_
  refine h_iload_n X dX4_field_29 rfl rfl ?_
  refine h_if_ne (tgt := 57) X dX4_field_30 (by decide) ?_ ?_
  · refine h_iload X dX4_field_57 rfl ?_
    refine h_if_eq (tgt := 85) X dX4_field_59 (by decide) ?_ ?_
    · refine h_iconst (v := (nI 0)) X dX4_field_85 (by decide) ?_
      exact h_iret X dX4_field_86
    · refine h_iload_n X dX4_field_62 rfl rfl ?_
      refine h_iconst (v := (nI 1)) X dX4_field_63 (by decide) ?_
      refine h_icmp_ne (tgt := 85) X dX4_field_64 (by decide) ?_ ?_
      · refine h_iconst (v := (nI 0)) X dX4_field_85 (by decide) ?_
        exact h_iret X dX4_field_86
      · refine h_aload_n X dX4_field_67 rfl rfl ?_
        refine c_g_B_now X fl4_35 dX4_field_68 ?_
        refine c_g_IM_objects X fl4_129 dX4_field_71 ?_
        refine h_iload_n X dX4_field_74 rfl rfl ?_
        refine h_bipush (v := (nI 11)) X dX4_field_75 (by decide) ?_
        refine h_iload_n X dX4_field_77 rfl rfl ?_
        refine h_iadd X dX4_field_78 ?_
        refine kt2_get_7 hsf X tlX4_95 ⟨Nat.le_of_ble_eq_true rfl, Nat.le_of_ble_eq_true rfl⟩ (Nat.le_of_ble_eq_true rfl) dX4_field_79 ?_
        intro v1 S1
        refine h_goto (tgt := 86) X dX4_field_82 (by decide) ?_
        exact h_iret X dX4_field_86
  · refine h_iload X dX4_field_33 rfl ?_
    refine h_if_eq (tgt := 55) X dX4_field_35 (by decide) ?_ ?_
    · refine h_iconst (v := (-1 : Int32)) X dX4_field_55 (by decide) ?_
      exact h_iret X dX4_field_56
    · refine h_aload_n X dX4_field_38 rfl rfl ?_
      refine c_g_B_now X fl4_35 dX4_field_39 ?_
      refine c_g_IM_objects X fl4_129 dX4_field_42 ?_
      refine h_iload_n X dX4_field_45 rfl rfl ?_
      refine h_iconst (v := (nI 1)) X dX4_field_46 (by decide) ?_
      refine h_iload_n X dX4_field_47 rfl rfl ?_
      refine h_iadd X dX4_field_48 ?_
      refine kt2_get_7 hsf X tlX4_95 ⟨Nat.le_of_ble_eq_true rfl, Nat.le_of_ble_eq_true rfl⟩ (Nat.le_of_ble_eq_true rfl) dX4_field_49 ?_
      intro v2 S2
      refine h_goto (tgt := 56) X dX4_field_52 (by decide) ?_
      exact h_iret X dX4_field_56
def f4_field_b26 (n : Nat) (x1 : Int32) (x2 : Int32) (x3 : Int32) (S : CS) : Option (Int32 × CS) :=
    f4_field_b27 n x1 x2 x3 (nI 0) S
theorem mw4_field_b26 (n : Nat) (x1 : Int32) (x2 : Int32) (x3 : Int32) (S : CS) : mo S (f4_field_b26 n x1 x2 x3 S) := by
  unfold f4_field_b26
  exact mw4_field_b27 n x1 x2 x3 (nI 0) S
theorem w4_field_b26 (hsf : sfOk (SF tk)) (X : hX p s m args meth c cX4_field 5 RX4 (some .int) D (tyC cI) (SF tk) A) (n : Nat) (x1 : Int32) (x2 : Int32) (x3 : Int32) (S : CS) : hG p l e (fun r => rmC 2 45 (cS r.2 - cS S0) (sS r.2 - sS S0)) s m args below meth c 5 (ZW D (wC cI q) A s.heap S0 S) (cS S - cS S0) (sS S - sS S0) (fun r => MQ below (QWi D (tyC cI) (wC cI q) A r) args s (cS r.2 - cS S0) (sS r.2 - sS S0) A) (fun r => le S r.2) 26 [(0, .ref (q 50)), (1, .int x1), (2, .int x2), (3, .int x3)] [] (f4_field_b26 n x1 x2 x3 S) := by
  unfold f4_field_b26
  refine h_iconst (v := (nI 0)) X dX4_field_26 (by decide) ?_
  exact h_pick [0, 1, 2, 3] rfl (w4_field_b27 hsf X n x1 x2 x3 (nI 0) S)
theorem tlX4_147 : Cond.methodLink RX4 147 yX0_hasField ∈ tt := tt_in (List.mem_of_getElem? (i := 714) (by decide +kernel)) (by decide +kernel)
def f4_field (n : Nat) (x1 : Int32) (x2 : Int32) (x3 : Int32) (S : CS) : Option (Int32 × CS) :=
    if x2 < 0 then
      (f4_field_b26 n x1 x2 x3 S)
    else
      (if (nI 10) ≤ x2 then
        (f4_field_b26 n x1 x2 x3 S)
      else
        (bnd (f0_hasField n x1 x2 S) fun v1 S1 =>
        if v1 = 0 then (f4_field_b26 n x1 x2 x3 S1) else (f4_field_b27 n x1 x2 x3 (nI 1) S1)))
theorem w4_field (hsf : sfOk (SF tk)) (X : hX p s m args meth c cX4_field 5 RX4 (some .int) D (tyC cI) (SF tk) A) {S0 : CS} (n : Nat) (x1 : Int32) (x2 : Int32) (x3 : Int32) (S : CS) : hG p l e (fun r => rmC 2 45 (cS r.2 - cS S0) (sS r.2 - sS S0)) s m args below meth c 5 (ZW D (wC cI q) A s.heap S0 S) (cS S - cS S0) (sS S - sS S0) (fun r => MQ below (QWi D (tyC cI) (wC cI q) A r) args s (cS r.2 - cS S0) (sS r.2 - sS S0) A) (fun r => le S r.2) 0 [(0, .ref (q 50)), (1, .int x1), (2, .int x2), (3, .int x3)] [] (f4_field n x1 x2 x3 S) := by
    unfold f4_field
    refine h_iload_n X dX4_field_0 rfl rfl ?_
    refine h_if_lt (tgt := 26) X dX4_field_1 (by decide) ?_ ?_
    · exact h_pick [0, 1, 2, 3] rfl (w4_field_b26 hsf X n x1 x2 x3 S)
    · refine h_iload_n X dX4_field_4 rfl rfl ?_
      refine h_bipush (v := (nI 10)) X dX4_field_5 (by decide) ?_
      refine h_icmp_ge (tgt := 26) X dX4_field_7 (by decide) ?_ ?_
      · exact h_pick [0, 1, 2, 3] rfl (w4_field_b26 hsf X n x1 x2 x3 S)
      · refine h_aload_n X dX4_field_10 rfl rfl ?_
        refine c_g_B_now X fl4_35 dX4_field_11 ?_
        refine h_iload_n X dX4_field_14 rfl rfl ?_
        refine h_iload_n X dX4_field_15 rfl rfl ?_
        refine k0_hasField hsf X tlX4_147 ⟨Nat.le_of_ble_eq_true rfl, Nat.le_of_ble_eq_true rfl⟩ (Nat.le_of_ble_eq_true rfl) dX4_field_16 ?_
        intro v1 S1
        refine h_if_eq (tgt := 26) X dX4_field_19 (by decide) ?_ ?_
        · exact h_pick [0, 1, 2, 3] rfl (w4_field_b26 hsf X n x1 x2 x3 S1)
        · refine h_iconst (v := (nI 1)) X dX4_field_22 (by decide) ?_
          refine h_goto (tgt := 27) X dX4_field_23 (by decide) ?_
          exact h_pick [0, 1, 2, 3] rfl (w4_field_b27 hsf X n x1 x2 x3 (nI 1) S1)
theorem mo4_field (n : Nat) (x1 : Int32) (x2 : Int32) (x3 : Int32) (S : CS) : mo S (f4_field n x1 x2 x3 S) := by
    unfold f4_field
    refine m_ite ?_ ?_
    · exact mw4_field_b26 n x1 x2 x3 S
    · refine m_ite ?_ ?_
      · exact mw4_field_b26 n x1 x2 x3 S
      · refine m_bnd (mo0_hasField _ _ _ _) (fun v1 S1 => ?_)
        refine m_ite ?_ ?_
        · exact mw4_field_b26 n x1 x2 x3 S1
        · exact mw4_field_b27 n x1 x2 x3 (nI 1) S1
theorem c4_field (hsf : sfOk (SF tk)) (l : Launch) (D : va_G) (cI : ClassId) (q : Nat → Nat) (n : Nat) (x1 : Int32) (x2 : Int32) (x3 : Int32) (S : CS) : MetW l D (tyC cI) (SF tk) (wC cI q) yX4_field cX4_field 5 (some .int) 2 45 QWi [.ref (q 50), .int x1, .int x2, .int x3] S (f4_field n x1 x2 x3 S) := by
  refine MetW.of (own := RX4) (by decide) rfl (Nat.le_of_ble_eq_true rfl) (mo4_field n x1 x2 x3 S) ?_
  intro x p e s m args below meth c X
  refine h_pick (lv' := [(0, .ref (q 50)), (1, .int x1), (2, .int x2), (3, .int x3)]) [0, 1, 2, 3] rfl ?_
  exact h_close (w4_field hsf X n x1 x2 x3 S)
-- X4.is
theorem tlX4_151 : Cond.methodLink RX4 151 yX0_isBelow ∈ tt := tt_in (List.mem_of_getElem? (i := 719) (by decide +kernel)) (by decide +kernel)
def f4_is (n : Nat) (x1 : Int32) (x2 : Int32) (S : CS) : Option (Int32 × CS) :=
    bT 7 S (f2_has n x1 (tOf 7 S)) fun v1 S1 =>
    if v1 = 0 then
      (zt (nI 0) (some ((nI 0), S1)))
    else
      (bT 6 S1 (f2_has n x2 (tOf 6 S1)) fun v2 S2 =>
      if v2 = 0 then
        (zt (nI 0) (some ((nI 0), S2)))
      else
        (bT 7 S2 (f2_get n x1 (nI 0) (tOf 7 S2)) fun v3 S3 =>
        bnd (f0_isBelow n v3 x2 S3) fun v4 S4 =>
        if v4 = 0 then (zt (nI 0) (some ((nI 0), S4))) else (zt (nI 1) (some ((nI 1), S4)))))
theorem w4_is (hsf : sfOk (SF tk)) (X : hX p s m args meth c cX4_is 3 RX4 (some .boolean) D (tyC cI) (SF tk) A) {S0 : CS} (n : Nat) (x1 : Int32) (x2 : Int32) (S : CS) : hG p l e (fun r => rmC 2 47 (cS r.2 - cS S0) (sS r.2 - sS S0)) s m args below meth c 3 (ZW D (wC cI q) A s.heap S0 S) (cS S - cS S0) (sS S - sS S0) (fun r => MQ below (QWi D (tyC cI) (wC cI q) A r) args s (cS r.2 - cS S0) (sS r.2 - sS S0) A) (fun r => le S r.2) 0 [(0, .ref (q 50)), (1, .int x1), (2, .int x2)] [] (f4_is n x1 x2 S) := by
    unfold f4_is
    refine h_aload_n X dX4_is_0 rfl rfl ?_
    refine c_g_B_now X fl4_35 dX4_is_1 ?_
    refine c_g_IM_objects X fl4_129 dX4_is_4 ?_
    refine h_iload_n X dX4_is_7 rfl rfl ?_
    refine kt2_has_7 hsf X tlX4_92 ⟨Nat.le_of_ble_eq_true rfl, Nat.le_of_ble_eq_true rfl⟩ (Nat.le_of_ble_eq_true rfl) dX4_is_8 ?_
    intro v1 S1
    refine h_if_eq (tgt := 55) X dX4_is_11 (by decide) ?_ ?_
    · refine h_iconst (v := (nI 0)) X dX4_is_55 (by decide) ?_
      exact h_zret X dX4_is_56
    · refine h_aload_n X dX4_is_14 rfl rfl ?_
      refine c_g_B_now X fl4_35 dX4_is_15 ?_
      refine c_g_IM_editions X fl4_111 dX4_is_18 ?_
      refine h_iload_n X dX4_is_21 rfl rfl ?_
      refine kt2_has_6 hsf X tlX4_92 ⟨Nat.le_of_ble_eq_true rfl, Nat.le_of_ble_eq_true rfl⟩ (Nat.le_of_ble_eq_true rfl) dX4_is_22 ?_
      intro v2 S2
      refine h_if_eq (tgt := 55) X dX4_is_25 (by decide) ?_ ?_
      · refine h_iconst (v := (nI 0)) X dX4_is_55 (by decide) ?_
        exact h_zret X dX4_is_56
      · refine h_aload_n X dX4_is_28 rfl rfl ?_
        refine c_g_B_now X fl4_35 dX4_is_29 ?_
        refine h_aload_n X dX4_is_32 rfl rfl ?_
        refine c_g_B_now X fl4_35 dX4_is_33 ?_
        refine c_g_IM_objects X fl4_129 dX4_is_36 ?_
        refine h_iload_n X dX4_is_39 rfl rfl ?_
        refine h_iconst (v := (nI 0)) X dX4_is_40 (by decide) ?_
        refine kt2_get_7 hsf X tlX4_95 ⟨Nat.le_of_ble_eq_true rfl, Nat.le_of_ble_eq_true rfl⟩ (Nat.le_of_ble_eq_true rfl) dX4_is_41 ?_
        intro v3 S3
        refine h_iload_n X dX4_is_44 rfl rfl ?_
        refine k0_isBelow hsf X tlX4_151 ⟨Nat.le_of_ble_eq_true rfl, Nat.le_of_ble_eq_true rfl⟩ (Nat.le_of_ble_eq_true rfl) dX4_is_45 ?_
        intro v4 S4
        refine h_if_eq (tgt := 55) X dX4_is_48 (by decide) ?_ ?_
        · refine h_iconst (v := (nI 0)) X dX4_is_55 (by decide) ?_
          exact h_zret X dX4_is_56
        · refine h_iconst (v := (nI 1)) X dX4_is_51 (by decide) ?_
          refine h_goto (tgt := 56) X dX4_is_52 (by decide) ?_
          exact h_zret X dX4_is_56
theorem mo4_is (n : Nat) (x1 : Int32) (x2 : Int32) (S : CS) : mo S (f4_is n x1 x2 S) := by
    unfold f4_is
    refine m_bT (mo2_has _ _ _) (fun v1 S1 => ?_)
    refine m_ite ?_ ?_
    · exact m_zt m_some
    · refine m_bT (mo2_has _ _ _) (fun v2 S2 => ?_)
      refine m_ite ?_ ?_
      · exact m_zt m_some
      · refine m_bT (mo2_get _ _ _ _) (fun v3 S3 => ?_)
        refine m_bnd (mo0_isBelow _ _ _ _) (fun v4 S4 => ?_)
        refine m_ite ?_ ?_
        · exact m_zt m_some
        · exact m_zt m_some
theorem c4_is (hsf : sfOk (SF tk)) (l : Launch) (D : va_G) (cI : ClassId) (q : Nat → Nat) (n : Nat) (x1 : Int32) (x2 : Int32) (S : CS) : MetW l D (tyC cI) (SF tk) (wC cI q) yX4_is cX4_is 3 (some .boolean) 2 47 QWi [.ref (q 50), .int x1, .int x2] S (f4_is n x1 x2 S) := by
  refine MetW.of (own := RX4) (by decide) rfl (Nat.le_of_ble_eq_true rfl) (mo4_is n x1 x2 S) ?_
  intro x p e s m args below meth c X
  refine h_pick (lv' := [(0, .ref (q 50)), (1, .int x1), (2, .int x2)]) [0, 1, 2] rfl ?_
  exact h_close (w4_is hsf X n x1 x2 S)
-- X4.call
def f4_call_b81 (n : Nat) (x4 : Int32) (s0 : Int32) (S : CS) : Option (Int32 × CS) :=
    cp S 3 s0 fun S1 =>
    cg S1 17 fun v2 =>
    cp S1 4 v2 fun S3 =>
    cg S3 16 fun v4 =>
    cp S3 5 v4 fun S5 =>
    some (x4, S5)
theorem mw4_call_b81 (n : Nat) (x4 : Int32) (s0 : Int32) (S : CS) : mo S (f4_call_b81 n x4 s0 S) := by
  unfold f4_call_b81
  refine m_cp (fun S1 => ?_)
  refine m_cg (fun v2 => ?_)
  refine m_cp (fun S3 => ?_)
  refine m_cg (fun v4 => ?_)
  refine m_cp (fun S5 => ?_)
  exact m_some
theorem w4_call_b81 (hsf : sfOk (SF tk)) (X : hX p s m args meth c cX4_call 5 RX4 (some .int) D (tyC cI) (SF tk) A) (n : Nat) (x4 : Int32) (s0 : Int32) (S : CS) : hG p l e (fun r => rmC 7 166 (cS r.2 - cS S0) (sS r.2 - sS S0)) s m args below meth c 5 (ZW D (wC cI q) A s.heap S0 S) (cS S - cS S0) (sS S - sS S0) (fun r => MQ below (QWi D (tyC cI) (wC cI q) A r) args s (cS r.2 - cS S0) (sS r.2 - sS S0) A) (fun r => le S r.2) 81 [(0, .ref (q 50)), (4, .int x4)] [.int s0, .ref (q 50)] (f4_call_b81 n x4 s0 S) := by
  unfold f4_call_b81
  refine c_p_B_cameNumber X fl4_47 dX4_call_81 ?_
  intro S1
  refine h_aload_n X dX4_call_84 rfl rfl ?_
  refine h_aload_n X dX4_call_85 rfl rfl ?_
  refine c_g_B_worker X fl4_27 dX4_call_86 ?_
  refine c_g_WK_failure X fl4_167 dX4_call_89 ?_
  intro v2
  refine c_p_B_cameFailure X fl4_50 dX4_call_92 ?_
  intro S3
  refine h_aload_n X dX4_call_95 rfl rfl ?_
  refine h_aload_n X dX4_call_96 rfl rfl ?_
  refine c_g_B_worker X fl4_27 dX4_call_97 ?_
  refine c_g_WK_steps X fl4_170 dX4_call_100 ?_
  intro v4
  refine c_p_B_cameSteps X fl4_53 dX4_call_103 ?_
  intro S5
  refine h_iload X dX4_call_106 rfl ?_
  exact h_iret X dX4_call_108
def f4_call_b61 (n : Nat) (x4 : Int32) (s0 : Int32) (S : CS) : Option (Int32 × CS) :=
    cp S 2 s0 fun S1 =>
    if x4 = 0 then
      (bnd (f3_lastNumber n S1) fun v2 S2 =>
      f4_call_b81 n x4 v2 S2)
    else
      (f4_call_b81 n x4 (nI 0) S1)
theorem mw4_call_b61 (n : Nat) (x4 : Int32) (s0 : Int32) (S : CS) : mo S (f4_call_b61 n x4 s0 S) := by
  unfold f4_call_b61
  refine m_cp (fun S1 => ?_)
  refine m_ite ?_ ?_
  · refine m_bnd (mo3_lastNumber _ _) (fun v2 S2 => ?_)
    exact mw4_call_b81 n x4 v2 S2
  · exact mw4_call_b81 n x4 (nI 0) S1
theorem w4_call_b61 (hsf : sfOk (SF tk)) (X : hX p s m args meth c cX4_call 5 RX4 (some .int) D (tyC cI) (SF tk) A) (n : Nat) (x4 : Int32) (s0 : Int32) (S : CS) : hG p l e (fun r => rmC 7 166 (cS r.2 - cS S0) (sS r.2 - sS S0)) s m args below meth c 5 (ZW D (wC cI q) A s.heap S0 S) (cS S - cS S0) (sS S - sS S0) (fun r => MQ below (QWi D (tyC cI) (wC cI q) A r) args s (cS r.2 - cS S0) (sS r.2 - sS S0) A) (fun r => le S r.2) 61 [(0, .ref (q 50)), (4, .int x4)] [.int s0, .ref (q 50)] (f4_call_b61 n x4 s0 S) := by
  unfold f4_call_b61
  refine c_p_B_cameKind X fl4_44 dX4_call_61 ?_
  intro S1
  refine h_aload_n X dX4_call_64 rfl rfl ?_
  refine h_iload X dX4_call_65 rfl ?_
  refine h_if_ne (tgt := 80) X dX4_call_67 (by decide) ?_ ?_
  · refine h_iconst (v := (nI 0)) X dX4_call_80 (by decide) ?_
    exact h_pick [0, 1] rfl (w4_call_b81 hsf X n x4 (nI 0) S1)
  · refine h_aload_n X dX4_call_70 rfl rfl ?_
    refine c_g_B_worker X fl4_27 dX4_call_71 ?_
    refine k3_lastNumber hsf X tlX4_164 ⟨Nat.le_of_ble_eq_true rfl, Nat.le_of_ble_eq_true rfl⟩ (Nat.le_of_ble_eq_true rfl) dX4_call_74 ?_
    intro v2 S2
    refine h_goto (tgt := 81) X dX4_call_77 (by decide) ?_
    exact h_pick [0, 1] rfl (w4_call_b81 hsf X n x4 v2 S2)
theorem tlX4_154 : Cond.methodLink RX4 154 yX3_beginByHand ∈ tt := tt_in (List.mem_of_getElem? (i := 724) (by decide +kernel)) (by decide +kernel)
def f4_call (n : Nat) (x1 : Int32) (x2 : Int32) (x3 : Int32) (S : CS) : Option (Int32 × CS) :=
    bT 7 S (f2_has n x1 (tOf 7 S)) fun v1 S1 =>
    if v1 = 0 then
      (some ((-1 : Int32), S1))
    else
      (if x2 < 0 then
        (some ((-1 : Int32), S1))
      else
        (if x2 < (nI 5) then
          (bnd (f3_beginByHand n x1 x2 x3 S1) fun _ S2 =>
          bnd (f3_work n S2) fun v3 S3 =>
          if v3 = 0 then
            (bnd (f3_lastKind n S3) fun v4 S4 =>
            f4_call_b61 n v3 v4 S4)
          else
            (f4_call_b61 n v3 (nI 0) S3))
        else
          (some ((-1 : Int32), S1))))
theorem w4_call (hsf : sfOk (SF tk)) (X : hX p s m args meth c cX4_call 5 RX4 (some .int) D (tyC cI) (SF tk) A) {S0 : CS} (n : Nat) (x1 : Int32) (x2 : Int32) (x3 : Int32) (S : CS) : hG p l e (fun r => rmC 7 166 (cS r.2 - cS S0) (sS r.2 - sS S0)) s m args below meth c 5 (ZW D (wC cI q) A s.heap S0 S) (cS S - cS S0) (sS S - sS S0) (fun r => MQ below (QWi D (tyC cI) (wC cI q) A r) args s (cS r.2 - cS S0) (sS r.2 - sS S0) A) (fun r => le S r.2) 0 [(0, .ref (q 50)), (1, .int x1), (2, .int x2), (3, .int x3)] [] (f4_call n x1 x2 x3 S) := by
    unfold f4_call
    refine h_aload_n X dX4_call_0 rfl rfl ?_
    refine c_g_B_now X fl4_35 dX4_call_1 ?_
    refine c_g_IM_objects X fl4_129 dX4_call_4 ?_
    refine h_iload_n X dX4_call_7 rfl rfl ?_
    refine kt2_has_7 hsf X tlX4_92 ⟨Nat.le_of_ble_eq_true rfl, Nat.le_of_ble_eq_true rfl⟩ (Nat.le_of_ble_eq_true rfl) dX4_call_8 ?_
    intro v1 S1
    refine h_if_eq (tgt := 23) X dX4_call_11 (by decide) ?_ ?_
    · refine h_iconst (v := (-1 : Int32)) X dX4_call_23 (by decide) ?_
      exact h_iret X dX4_call_24
    · refine h_iload_n X dX4_call_14 rfl rfl ?_
      refine h_if_lt (tgt := 23) X dX4_call_15 (by decide) ?_ ?_
      · refine h_iconst (v := (-1 : Int32)) X dX4_call_23 (by decide) ?_
        exact h_iret X dX4_call_24
      · refine h_iload_n X dX4_call_18 rfl rfl ?_
        refine h_iconst (v := (nI 5)) X dX4_call_19 (by decide) ?_
        refine h_icmp_lt (tgt := 25) X dX4_call_20 (by decide) ?_ ?_
        · refine h_aload_n X dX4_call_25 rfl rfl ?_
          refine c_g_B_worker X fl4_27 dX4_call_26 ?_
          refine h_iload_n X dX4_call_29 rfl rfl ?_
          refine h_iload_n X dX4_call_30 rfl rfl ?_
          refine h_iload_n X dX4_call_31 rfl rfl ?_
          refine k3_beginByHand hsf X tlX4_154 ⟨Nat.le_of_ble_eq_true rfl, Nat.le_of_ble_eq_true rfl⟩ (Nat.le_of_ble_eq_true rfl) dX4_call_32 ?_
          intro v2 S2
          refine h_aload_n X dX4_call_35 rfl rfl ?_
          refine c_g_B_worker X fl4_27 dX4_call_36 ?_
          refine k3_work hsf X tlX4_158 ⟨Nat.le_of_ble_eq_true rfl, Nat.le_of_ble_eq_true rfl⟩ (Nat.le_of_ble_eq_true rfl) dX4_call_39 ?_
          intro v3 S3
          refine h_istore (lv' := [(4, .int v3), (0, .ref (q 50)), (1, .int x1), (2, .int x2), (3, .int x3)]) X dX4_call_42 (by decide) rfl ?_
          refine h_aload_n X dX4_call_44 rfl rfl ?_
          refine h_iload X dX4_call_45 rfl ?_
          refine h_if_ne (tgt := 60) X dX4_call_47 (by decide) ?_ ?_
          · refine h_iconst (v := (nI 0)) X dX4_call_60 (by decide) ?_
            exact h_pick [1, 0] rfl (w4_call_b61 hsf X n v3 (nI 0) S3)
          · refine h_aload_n X dX4_call_50 rfl rfl ?_
            refine c_g_B_worker X fl4_27 dX4_call_51 ?_
            refine k3_lastKind hsf X tlX4_161 ⟨Nat.le_of_ble_eq_true rfl, Nat.le_of_ble_eq_true rfl⟩ (Nat.le_of_ble_eq_true rfl) dX4_call_54 ?_
            intro v4 S4
            refine h_goto (tgt := 61) X dX4_call_57 (by decide) ?_
            exact h_pick [1, 0] rfl (w4_call_b61 hsf X n v3 v4 S4)
        · refine h_iconst (v := (-1 : Int32)) X dX4_call_23 (by decide) ?_
          exact h_iret X dX4_call_24
theorem mo4_call (n : Nat) (x1 : Int32) (x2 : Int32) (x3 : Int32) (S : CS) : mo S (f4_call n x1 x2 x3 S) := by
    unfold f4_call
    refine m_bT (mo2_has _ _ _) (fun v1 S1 => ?_)
    refine m_ite ?_ ?_
    · exact m_some
    · refine m_ite ?_ ?_
      · exact m_some
      · refine m_ite ?_ ?_
        · refine m_bnd (mo3_beginByHand _ _ _ _ _) (fun v2 S2 => ?_)
          refine m_bnd (mo3_work _ _) (fun v3 S3 => ?_)
          refine m_ite ?_ ?_
          · refine m_bnd (mo3_lastKind _ _) (fun v4 S4 => ?_)
            exact mw4_call_b61 n v3 v4 S4
          · exact mw4_call_b61 n v3 (nI 0) S3
        · exact m_some
theorem c4_call (hsf : sfOk (SF tk)) (l : Launch) (D : va_G) (cI : ClassId) (q : Nat → Nat) (n : Nat) (x1 : Int32) (x2 : Int32) (x3 : Int32) (S : CS) : MetW l D (tyC cI) (SF tk) (wC cI q) yX4_call cX4_call 5 (some .int) 7 166 QWi [.ref (q 50), .int x1, .int x2, .int x3] S (f4_call n x1 x2 x3 S) := by
  refine MetW.of (own := RX4) (by decide) rfl (Nat.le_of_ble_eq_true rfl) (mo4_call n x1 x2 x3 S) ?_
  intro x p e s m args below meth c X
  refine h_pick (lv' := [(0, .ref (q 50)), (1, .int x1), (2, .int x2), (3, .int x3)]) [0, 1, 2, 3] rfl ?_
  exact h_close (w4_call hsf X n x1 x2 x3 S)
-- X4.came
def f4_came (n : Nat) (x1 : Int32) (S : CS) : Option (Int32 × CS) :=
    if x1 = (nI 0) then
      (cg S 2 fun v2 =>
      some (v2, S))
    else if x1 = (nI 1) then
      (cg S 3 fun v4 =>
      some (v4, S))
    else if x1 = (nI 2) then
      (cg S 4 fun v6 =>
      some (v6, S))
    else if x1 = (nI 3) then
      (cg S 5 fun v8 =>
      some (v8, S))
    else (some ((nI 0), S))
theorem w4_came (hsf : sfOk (SF tk)) (X : hX p s m args meth c cX4_came 2 RX4 (some .int) D (tyC cI) (SF tk) A) {S0 : CS} (n : Nat) (x1 : Int32) (S : CS) : hG p l e (fun r => rmC 0 0 (cS r.2 - cS S0) (sS r.2 - sS S0)) s m args below meth c 2 (ZW D (wC cI q) A s.heap S0 S) (cS S - cS S0) (sS S - sS S0) (fun r => MQ below (QWi D (tyC cI) (wC cI q) A r) args s (cS r.2 - cS S0) (sS r.2 - sS S0) A) (fun r => le S r.2) 0 [(0, .ref (q 50)), (1, .int x1)] [] (f4_came n x1 S) := by
    unfold f4_came
    refine h_iload_n X dX4_came_0 rfl rfl ?_
    refine h_ite (fun h1 => ?_) (fun h1 => ?_)
    · refine h_tIn (off := 31) (tgt := 32) X dX4_came_1 (by rw [h1]; decide) (by rw [h1]; decide) (by rw [h1]; rfl) (by decide) ?_
      refine h_aload_n X dX4_came_32 rfl rfl ?_
      refine c_g_B_cameKind X fl4_44 dX4_came_33 ?_
      intro v2
      exact h_iret X dX4_came_36
    have eh1 := tn_i (n := 0) h1 (by decide)
    refine h_ite (fun h3 => ?_) (fun h3 => ?_)
    · refine h_tIn (off := 36) (tgt := 37) X dX4_came_1 (by rw [h3]; decide) (by rw [h3]; decide) (by rw [h3]; rfl) (by decide) ?_
      refine h_aload_n X dX4_came_37 rfl rfl ?_
      refine c_g_B_cameNumber X fl4_47 dX4_came_38 ?_
      intro v4
      exact h_iret X dX4_came_41
    have eh3 := tn_i (n := 1) h3 (by decide)
    refine h_ite (fun h5 => ?_) (fun h5 => ?_)
    · refine h_tIn (off := 41) (tgt := 42) X dX4_came_1 (by rw [h5]; decide) (by rw [h5]; decide) (by rw [h5]; rfl) (by decide) ?_
      refine h_aload_n X dX4_came_42 rfl rfl ?_
      refine c_g_B_cameFailure X fl4_50 dX4_came_43 ?_
      intro v6
      exact h_iret X dX4_came_46
    have eh5 := tn_i (n := 2) h5 (by decide)
    refine h_ite (fun h7 => ?_) (fun h7 => ?_)
    · refine h_tIn (off := 46) (tgt := 47) X dX4_came_1 (by rw [h7]; decide) (by rw [h7]; decide) (by rw [h7]; rfl) (by decide) ?_
      refine h_aload_n X dX4_came_47 rfl rfl ?_
      refine c_g_B_cameSteps X fl4_53 dX4_came_48 ?_
      intro v8
      exact h_iret X dX4_came_51
    have eh7 := tn_i (n := 3) h7 (by decide)
    refine h_tOut (tgt := 52) X dX4_came_1 (by omega) (by decide) ?_
    refine h_iconst (v := (nI 0)) X dX4_came_52 (by decide) ?_
    exact h_iret X dX4_came_53
theorem mo4_came (n : Nat) (x1 : Int32) (S : CS) : mo S (f4_came n x1 S) := by
    unfold f4_came
    refine m_ite ?_ ?_
    · refine m_cg (fun v2 => ?_)
      exact m_some
    refine m_ite ?_ ?_
    · refine m_cg (fun v4 => ?_)
      exact m_some
    refine m_ite ?_ ?_
    · refine m_cg (fun v6 => ?_)
      exact m_some
    refine m_ite ?_ ?_
    · refine m_cg (fun v8 => ?_)
      exact m_some
    exact m_some
theorem c4_came (hsf : sfOk (SF tk)) (l : Launch) (D : va_G) (cI : ClassId) (q : Nat → Nat) (n : Nat) (x1 : Int32) (S : CS) : MetW l D (tyC cI) (SF tk) (wC cI q) yX4_came cX4_came 2 (some .int) 0 0 QWi [.ref (q 50), .int x1] S (f4_came n x1 S) := by
  refine MetW.of (own := RX4) (by decide) rfl (Nat.le_of_ble_eq_true rfl) (mo4_came n x1 S) ?_
  intro x p e s m args below meth c X
  refine h_pick (lv' := [(0, .ref (q 50)), (1, .int x1)]) [0, 1] rfl ?_
  exact h_close (w4_came hsf X n x1 S)
-- X4.convert
theorem tlX4_173 : Cond.methodLink RX4 173 yX0_addObject ∈ tt := tt_in (List.mem_of_getElem? (i := 736) (by decide +kernel)) (by decide +kernel)
theorem tlX4_176 : Cond.methodLink RX4 176 yX0_carryFields ∈ tt := tt_in (List.mem_of_getElem? (i := 737) (by decide +kernel)) (by decide +kernel)
def f4_convert (n : Nat) (x1 : Int32) (x2 : Int32) (S : CS) : Option (Int32 × CS) :=
    bnd (f0_newestOf n x2 S) fun v1 S1 =>
    bT 7 S1 (f2_has n x1 (tOf 7 S1)) fun v2 S2 =>
    if v2 = 0 then
      (some ((-1 : Int32), S2))
    else
      (if v1 = (-1 : Int32) then
        (some ((-1 : Int32), S2))
      else
        (bnd (f0_isClass n v1 S2) fun v3 S3 =>
        if v3 = 0 then
          (some ((-1 : Int32), S3))
        else
          (bnd (f0_addObject n v1 S3) fun v4 S4 =>
          if v4 = (-1 : Int32) then
            (some ((-2 : Int32), S4))
          else
            (bnd (f0_carryFields n x1 v4 S4) fun _ S5 =>
            some (v4, S5)))))
theorem w4_convert (hsf : sfOk (SF tk)) (X : hX p s m args meth c cX4_convert 5 RX4 (some .int) D (tyC cI) (SF tk) A) {S0 : CS} (n : Nat) (x1 : Int32) (x2 : Int32) (S : CS) : hG p l e (fun r => rmC 4 92 (cS r.2 - cS S0) (sS r.2 - sS S0)) s m args below meth c 5 (ZW D (wC cI q) A s.heap S0 S) (cS S - cS S0) (sS S - sS S0) (fun r => MQ below (QWi D (tyC cI) (wC cI q) A r) args s (cS r.2 - cS S0) (sS r.2 - sS S0) A) (fun r => le S r.2) 0 [(0, .ref (q 50)), (1, .int x1), (2, .int x2)] [] (f4_convert n x1 x2 S) := by
    unfold f4_convert
    refine h_aload_n X dX4_convert_0 rfl rfl ?_
    refine c_g_B_now X fl4_35 dX4_convert_1 ?_
    refine h_iload_n X dX4_convert_4 rfl rfl ?_
    refine k0_newestOf hsf X tlX4_132 ⟨Nat.le_of_ble_eq_true rfl, Nat.le_of_ble_eq_true rfl⟩ (Nat.le_of_ble_eq_true rfl) dX4_convert_5 ?_
    intro v1 S1
    refine h_istore_n (lv' := [(3, .int v1), (0, .ref (q 50)), (1, .int x1), (2, .int x2)]) X dX4_convert_8 rfl (by decide) rfl ?_
    refine h_aload_n X dX4_convert_9 rfl rfl ?_
    refine c_g_B_now X fl4_35 dX4_convert_10 ?_
    refine c_g_IM_objects X fl4_129 dX4_convert_13 ?_
    refine h_iload_n X dX4_convert_16 rfl rfl ?_
    refine kt2_has_7 hsf X tlX4_92 ⟨Nat.le_of_ble_eq_true rfl, Nat.le_of_ble_eq_true rfl⟩ (Nat.le_of_ble_eq_true rfl) dX4_convert_17 ?_
    intro v2 S2
    refine h_if_eq (tgt := 39) X dX4_convert_20 (by decide) ?_ ?_
    · refine h_iconst (v := (-1 : Int32)) X dX4_convert_39 (by decide) ?_
      exact h_iret X dX4_convert_40
    · refine h_iload_n X dX4_convert_23 rfl rfl ?_
      refine h_iconst (v := (-1 : Int32)) X dX4_convert_24 (by decide) ?_
      refine h_icmp_eq (tgt := 39) X dX4_convert_25 (by decide) ?_ ?_
      · refine h_iconst (v := (-1 : Int32)) X dX4_convert_39 (by decide) ?_
        exact h_iret X dX4_convert_40
      · refine h_aload_n X dX4_convert_28 rfl rfl ?_
        refine c_g_B_now X fl4_35 dX4_convert_29 ?_
        refine h_iload_n X dX4_convert_32 rfl rfl ?_
        refine k0_isClass hsf X tlX4_135 ⟨Nat.le_of_ble_eq_true rfl, Nat.le_of_ble_eq_true rfl⟩ (Nat.le_of_ble_eq_true rfl) dX4_convert_33 ?_
        intro v3 S3
        refine h_if_ne (tgt := 41) X dX4_convert_36 (by decide) ?_ ?_
        · refine h_aload_n X dX4_convert_41 rfl rfl ?_
          refine c_g_B_now X fl4_35 dX4_convert_42 ?_
          refine h_iload_n X dX4_convert_45 rfl rfl ?_
          refine k0_addObject hsf X tlX4_173 ⟨Nat.le_of_ble_eq_true rfl, Nat.le_of_ble_eq_true rfl⟩ (Nat.le_of_ble_eq_true rfl) dX4_convert_46 ?_
          intro v4 S4
          refine h_istore (lv' := [(4, .int v4), (3, .int v1), (0, .ref (q 50)), (1, .int x1), (2, .int x2)]) X dX4_convert_49 (by decide) rfl ?_
          refine h_iload X dX4_convert_51 rfl ?_
          refine h_iconst (v := (-1 : Int32)) X dX4_convert_53 (by decide) ?_
          refine h_icmp_ne (tgt := 60) X dX4_convert_54 (by decide) ?_ ?_
          · refine h_aload_n X dX4_convert_60 rfl rfl ?_
            refine c_g_B_now X fl4_35 dX4_convert_61 ?_
            refine h_iload_n X dX4_convert_64 rfl rfl ?_
            refine h_iload X dX4_convert_65 rfl ?_
            refine k0_carryFields hsf X tlX4_176 ⟨Nat.le_of_ble_eq_true rfl, Nat.le_of_ble_eq_true rfl⟩ (Nat.le_of_ble_eq_true rfl) dX4_convert_67 ?_
            intro v5 S5
            refine h_iload X dX4_convert_70 rfl ?_
            exact h_iret X dX4_convert_72
          · refine h_bipush (v := (-2 : Int32)) X dX4_convert_57 (by decide) ?_
            exact h_iret X dX4_convert_59
        · refine h_iconst (v := (-1 : Int32)) X dX4_convert_39 (by decide) ?_
          exact h_iret X dX4_convert_40
theorem mo4_convert (n : Nat) (x1 : Int32) (x2 : Int32) (S : CS) : mo S (f4_convert n x1 x2 S) := by
    unfold f4_convert
    refine m_bnd (mo0_newestOf _ _ _) (fun v1 S1 => ?_)
    refine m_bT (mo2_has _ _ _) (fun v2 S2 => ?_)
    refine m_ite ?_ ?_
    · exact m_some
    · refine m_ite ?_ ?_
      · exact m_some
      · refine m_bnd (mo0_isClass _ _ _) (fun v3 S3 => ?_)
        refine m_ite ?_ ?_
        · exact m_some
        · refine m_bnd (mo0_addObject _ _ _) (fun v4 S4 => ?_)
          refine m_ite ?_ ?_
          · exact m_some
          · refine m_bnd (mo0_carryFields _ _ _ _) (fun v5 S5 => ?_)
            exact m_some
theorem c4_convert (hsf : sfOk (SF tk)) (l : Launch) (D : va_G) (cI : ClassId) (q : Nat → Nat) (n : Nat) (x1 : Int32) (x2 : Int32) (S : CS) : MetW l D (tyC cI) (SF tk) (wC cI q) yX4_convert cX4_convert 5 (some .int) 4 92 QWi [.ref (q 50), .int x1, .int x2] S (f4_convert n x1 x2 S) := by
  refine MetW.of (own := RX4) (by decide) rfl (Nat.le_of_ble_eq_true rfl) (mo4_convert n x1 x2 S) ?_
  intro x p e s m args below meth c X
  refine h_pick (lv' := [(0, .ref (q 50)), (1, .int x1), (2, .int x2)]) [0, 1, 2] rfl ?_
  exact h_close (w4_convert hsf X n x1 x2 S)
end CM
