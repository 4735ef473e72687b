theorem dX4_takeTape_0 : decode cX4_takeTape 0 = .ok (.aload_n 0, 1) := by decide +kernel
theorem dX4_takeTape_1 : decode cX4_takeTape 1 = .ok (.getfield 35, 3) := by decide +kernel
theorem dX4_takeTape_4 : decode cX4_takeTape 4 = .ok (.getfield 64, 3) := by decide +kernel
theorem dX4_takeTape_7 : decode cX4_takeTape 7 = .ok (.iload_n 1, 1) := by decide +kernel
theorem dX4_takeTape_8 : decode cX4_takeTape 8 = .ok (.bipush 8, 2) := by decide +kernel
theorem dX4_takeTape_10 : decode cX4_takeTape 10 = .ok (.aload_n 0, 1) := by decide +kernel
theorem dX4_takeTape_11 : decode cX4_takeTape 11 = .ok (.getfield 13, 3) := by decide +kernel
theorem dX4_takeTape_14 : decode cX4_takeTape 14 = .ok (.invokevirtual 194, 3) := by decide +kernel
theorem dX4_takeTape_17 : decode cX4_takeTape 17 = .ok (.iconst 0, 1) := by decide +kernel
theorem dX4_takeTape_18 : decode cX4_takeTape 18 = .ok (.istore_n 2, 1) := by decide +kernel
theorem dX4_takeTape_19 : decode cX4_takeTape 19 = .ok (.iload_n 2, 1) := by decide +kernel
theorem dX4_takeTape_20 : decode cX4_takeTape 20 = .ok (.aload_n 0, 1) := by decide +kernel
theorem dX4_takeTape_21 : decode cX4_takeTape 21 = .ok (.getfield 13, 3) := by decide +kernel
theorem dX4_takeTape_24 : decode cX4_takeTape 24 = .ok (.if_icmp .ge 36, 3) := by decide +kernel
theorem dX4_takeTape_27 : decode cX4_takeTape 27 = .ok (.iload_n 2, 1) := by decide +kernel
theorem dX4_takeTape_28 : decode cX4_takeTape 28 = .ok (.bipush 60, 2) := by decide +kernel
theorem dX4_takeTape_30 : decode cX4_takeTape 30 = .ok (.if_icmp .ge 30, 3) := by decide +kernel
theorem dX4_takeTape_33 : decode cX4_takeTape 33 = .ok (.aload_n 0, 1) := by decide +kernel
theorem dX4_takeTape_34 : decode cX4_takeTape 34 = .ok (.getfield 35, 3) := by decide +kernel
theorem dX4_takeTape_37 : decode cX4_takeTape 37 = .ok (.getfield 64, 3) := by decide +kernel
theorem dX4_takeTape_40 : decode cX4_takeTape 40 = .ok (.iload_n 1, 1) := by decide +kernel
theorem dX4_takeTape_41 : decode cX4_takeTape 41 = .ok (.bipush 9, 2) := by decide +kernel
theorem dX4_takeTape_43 : decode cX4_takeTape 43 = .ok (.iload_n 2, 1) := by decide +kernel
theorem dX4_takeTape_44 : decode cX4_takeTape 44 = .ok (.iadd, 1) := by decide +kernel
theorem dX4_takeTape_45 : decode cX4_takeTape 45 = .ok (.aload_n 0, 1) := by decide +kernel
theorem dX4_takeTape_46 : decode cX4_takeTape 46 = .ok (.getfield 9, 3) := by decide +kernel
theorem dX4_takeTape_49 : decode cX4_takeTape 49 = .ok (.iload_n 2, 1) := by decide +kernel
theorem dX4_takeTape_50 : decode cX4_takeTape 50 = .ok (.iaload, 1) := by decide +kernel
theorem dX4_takeTape_51 : decode cX4_takeTape 51 = .ok (.invokevirtual 194, 3) := by decide +kernel
theorem dX4_takeTape_54 : decode cX4_takeTape 54 = .ok (.iinc 2 1, 3) := by decide +kernel
theorem dX4_takeTape_57 : decode cX4_takeTape 57 = .ok (.goto (-38), 3) := by decide +kernel
theorem dX4_takeTape_60 : decode cX4_takeTape 60 = .ok (.aload_n 0, 1) := by decide +kernel
theorem dX4_takeTape_61 : decode cX4_takeTape 61 = .ok (.iconst 0, 1) := by decide +kernel
theorem dX4_takeTape_62 : decode cX4_takeTape 62 = .ok (.putfield 13, 3) := by decide +kernel
theorem dX4_takeTape_65 : decode cX4_takeTape 65 = .ok (.return_, 1) := by decide +kernel
theorem dX4_noteRun_0 : decode cX4_noteRun 0 = .ok (.aload_n 0, 1) := by decide +kernel
theorem dX4_noteRun_1 : decode cX4_noteRun 1 = .ok (.getfield 35, 3) := by decide +kernel
theorem dX4_noteRun_4 : decode cX4_noteRun 4 = .ok (.getfield 64, 3) := by decide +kernel
theorem dX4_noteRun_7 : decode cX4_noteRun 7 = .ok (.astore 4, 2) := by decide +kernel
theorem dX4_noteRun_9 : decode cX4_noteRun 9 = .ok (.aload 4, 2) := by decide +kernel
theorem dX4_noteRun_11 : decode cX4_noteRun 11 = .ok (.iload_n 1, 1) := by decide +kernel
theorem dX4_noteRun_12 : decode cX4_noteRun 12 = .ok (.iconst 0, 1) := by decide +kernel
theorem dX4_noteRun_13 : decode cX4_noteRun 13 = .ok (.iload_n 2, 1) := by decide +kernel
theorem dX4_noteRun_14 : decode cX4_noteRun 14 = .ok (.invokevirtual 194, 3) := by decide +kernel
theorem dX4_noteRun_17 : decode cX4_noteRun 17 = .ok (.aload 4, 2) := by decide +kernel
theorem dX4_noteRun_19 : decode cX4_noteRun 19 = .ok (.iload_n 1, 1) := by decide +kernel
theorem dX4_noteRun_20 : decode cX4_noteRun 20 = .ok (.iconst 1, 1) := by decide +kernel
theorem dX4_noteRun_21 : decode cX4_noteRun 21 = .ok (.aload_n 0, 1) := by decide +kernel
theorem dX4_noteRun_22 : decode cX4_noteRun 22 = .ok (.getfield 27, 3) := by decide +kernel
theorem dX4_noteRun_25 : decode cX4_noteRun 25 = .ok (.getfield 167, 3) := by decide +kernel
theorem dX4_noteRun_28 : decode cX4_noteRun 28 = .ok (.invokevirtual 194, 3) := by decide +kernel
theorem dX4_noteRun_31 : decode cX4_noteRun 31 = .ok (.aload 4, 2) := by decide +kernel
theorem dX4_noteRun_33 : decode cX4_noteRun 33 = .ok (.iload_n 1, 1) := by decide +kernel
theorem dX4_noteRun_34 : decode cX4_noteRun 34 = .ok (.iconst 2, 1) := by decide +kernel
theorem dX4_noteRun_35 : decode cX4_noteRun 35 = .ok (.aload_n 0, 1) := by decide +kernel
theorem dX4_noteRun_36 : decode cX4_noteRun 36 = .ok (.getfield 27, 3) := by decide +kernel
theorem dX4_noteRun_39 : decode cX4_noteRun 39 = .ok (.getfield 170, 3) := by decide +kernel
theorem dX4_noteRun_42 : decode cX4_noteRun 42 = .ok (.invokevirtual 194, 3) := by decide +kernel
theorem dX4_noteRun_45 : decode cX4_noteRun 45 = .ok (.aload 4, 2) := by decide +kernel
theorem dX4_noteRun_47 : decode cX4_noteRun 47 = .ok (.iload_n 1, 1) := by decide +kernel
theorem dX4_noteRun_48 : decode cX4_noteRun 48 = .ok (.iconst 3, 1) := by decide +kernel
theorem dX4_noteRun_49 : decode cX4_noteRun 49 = .ok (.aload_n 0, 1) := by decide +kernel
theorem dX4_noteRun_50 : decode cX4_noteRun 50 = .ok (.getfield 27, 3) := by decide +kernel
theorem dX4_noteRun_53 : decode cX4_noteRun 53 = .ok (.getfield 221, 3) := by decide +kernel
theorem dX4_noteRun_56 : decode cX4_noteRun 56 = .ok (.invokevirtual 194, 3) := by decide +kernel
theorem dX4_noteRun_59 : decode cX4_noteRun 59 = .ok (.aload 4, 2) := by decide +kernel
theorem dX4_noteRun_61 : decode cX4_noteRun 61 = .ok (.iload_n 1, 1) := by decide +kernel
theorem dX4_noteRun_62 : decode cX4_noteRun 62 = .ok (.iconst 4, 1) := by decide +kernel
theorem dX4_noteRun_63 : decode cX4_noteRun 63 = .ok (.iload_n 3, 1) := by decide +kernel
theorem dX4_noteRun_64 : decode cX4_noteRun 64 = .ok (.invokevirtual 194, 3) := by decide +kernel
theorem dX4_noteRun_67 : decode cX4_noteRun 67 = .ok (.iconst 0, 1) := by decide +kernel
theorem dX4_noteRun_68 : decode cX4_noteRun 68 = .ok (.istore 5, 2) := by decide +kernel
theorem dX4_noteRun_70 : decode cX4_noteRun 70 = .ok (.iload 5, 2) := by decide +kernel
theorem dX4_noteRun_72 : decode cX4_noteRun 72 = .ok (.aload_n 0, 1) := by decide +kernel
theorem dX4_noteRun_73 : decode cX4_noteRun 73 = .ok (.getfield 27, 3) := by decide +kernel
theorem dX4_noteRun_76 : decode cX4_noteRun 76 = .ok (.getfield 224, 3) := by decide +kernel
theorem dX4_noteRun_79 : decode cX4_noteRun 79 = .ok (.invokevirtual 68, 3) := by decide +kernel
theorem dX4_noteRun_82 : decode cX4_noteRun 82 = .ok (.if_icmp .ge 57, 3) := by decide +kernel
theorem dX4_noteRun_85 : decode cX4_noteRun 85 = .ok (.aload 4, 2) := by decide +kernel
theorem dX4_noteRun_87 : decode cX4_noteRun 87 = .ok (.iload_n 1, 1) := by decide +kernel
theorem dX4_noteRun_88 : decode cX4_noteRun 88 = .ok (.bipush 85, 2) := by decide +kernel
theorem dX4_noteRun_90 : decode cX4_noteRun 90 = .ok (.iload 5, 2) := by decide +kernel
theorem dX4_noteRun_92 : decode cX4_noteRun 92 = .ok (.iadd, 1) := by decide +kernel
theorem dX4_noteRun_93 : decode cX4_noteRun 93 = .ok (.aload_n 0, 1) := by decide +kernel
theorem dX4_noteRun_94 : decode cX4_noteRun 94 = .ok (.getfield 27, 3) := by decide +kernel
theorem dX4_noteRun_97 : decode cX4_noteRun 97 = .ok (.getfield 224, 3) := by decide +kernel
theorem dX4_noteRun_100 : decode cX4_noteRun 100 = .ok (.iload 5, 2) := by decide +kernel
theorem dX4_noteRun_102 : decode cX4_noteRun 102 = .ok (.iconst 0, 1) := by decide +kernel
theorem dX4_noteRun_103 : decode cX4_noteRun 103 = .ok (.invokevirtual 95, 3) := by decide +kernel
theorem dX4_noteRun_106 : decode cX4_noteRun 106 = .ok (.invokevirtual 194, 3) := by decide +kernel
theorem dX4_noteRun_109 : decode cX4_noteRun 109 = .ok (.aload 4, 2) := by decide +kernel
theorem dX4_noteRun_111 : decode cX4_noteRun 111 = .ok (.iload_n 1, 1) := by decide +kernel
theorem dX4_noteRun_112 : decode cX4_noteRun 112 = .ok (.bipush 105, 2) := by decide +kernel
theorem dX4_noteRun_114 : decode cX4_noteRun 114 = .ok (.iload 5, 2) := by decide +kernel
theorem dX4_noteRun_116 : decode cX4_noteRun 116 = .ok (.iadd, 1) := by decide +kernel
theorem dX4_noteRun_117 : decode cX4_noteRun 117 = .ok (.aload_n 0, 1) := by decide +kernel
theorem dX4_noteRun_118 : decode cX4_noteRun 118 = .ok (.getfield 27, 3) := by decide +kernel
theorem dX4_noteRun_121 : decode cX4_noteRun 121 = .ok (.getfield 224, 3) := by decide +kernel
theorem dX4_noteRun_124 : decode cX4_noteRun 124 = .ok (.iload 5, 2) := by decide +kernel
theorem dX4_noteRun_126 : decode cX4_noteRun 126 = .ok (.iconst 1, 1) := by decide +kernel
theorem dX4_noteRun_127 : decode cX4_noteRun 127 = .ok (.invokevirtual 95, 3) := by decide +kernel
theorem dX4_noteRun_130 : decode cX4_noteRun 130 = .ok (.invokevirtual 194, 3) := by decide +kernel
theorem dX4_noteRun_133 : decode cX4_noteRun 133 = .ok (.iinc 5 1, 3) := by decide +kernel
theorem dX4_noteRun_136 : decode cX4_noteRun 136 = .ok (.goto (-66), 3) := by decide +kernel
theorem dX4_noteRun_139 : decode cX4_noteRun 139 = .ok (.return_, 1) := by decide +kernel
theorem dX4_runCell_0 : decode cX4_runCell 0 = .ok (.aload_n 0, 1) := by decide +kernel
theorem dX4_runCell_1 : decode cX4_runCell 1 = .ok (.getfield 35, 3) := by decide +kernel
theorem dX4_runCell_4 : decode cX4_runCell 4 = .ok (.iload_n 1, 1) := by decide +kernel
theorem dX4_runCell_5 : decode cX4_runCell 5 = .ok (.aload_n 0, 1) := by decide +kernel
theorem dX4_runCell_6 : decode cX4_runCell 6 = .ok (.getfield 20, 3) := by decide +kernel
theorem dX4_runCell_9 : decode cX4_runCell 9 = .ok (.getfield 197, 3) := by decide +kernel
theorem dX4_runCell_12 : decode cX4_runCell 12 = .ok (.invokevirtual 200, 3) := by decide +kernel
theorem dX4_runCell_15 : decode cX4_runCell 15 = .ok (.aload_n 0, 1) := by decide +kernel
theorem dX4_runCell_16 : decode cX4_runCell 16 = .ok (.getfield 27, 3) := by decide +kernel
theorem dX4_runCell_19 : decode cX4_runCell 19 = .ok (.invokevirtual 203, 3) := by decide +kernel
theorem dX4_runCell_22 : decode cX4_runCell 22 = .ok (.iconst 0, 1) := by decide +kernel
theorem dX4_runCell_23 : decode cX4_runCell 23 = .ok (.istore_n 2, 1) := by decide +kernel
theorem dX4_runCell_24 : decode cX4_runCell 24 = .ok (.iconst (-1), 1) := by decide +kernel
theorem dX4_runCell_25 : decode cX4_runCell 25 = .ok (.istore_n 3, 1) := by decide +kernel
theorem dX4_runCell_26 : decode cX4_runCell 26 = .ok (.aload_n 0, 1) := by decide +kernel
theorem dX4_runCell_27 : decode cX4_runCell 27 = .ok (.getfield 35, 3) := by decide +kernel
theorem dX4_runCell_30 : decode cX4_runCell 30 = .ok (.getfield 64, 3) := by decide +kernel
theorem dX4_runCell_33 : decode cX4_runCell 33 = .ok (.iload_n 1, 1) := by decide +kernel
theorem dX4_runCell_34 : decode cX4_runCell 34 = .ok (.bipush 6, 2) := by decide +kernel
theorem dX4_runCell_36 : decode cX4_runCell 36 = .ok (.invokevirtual 95, 3) := by decide +kernel
theorem dX4_runCell_39 : decode cX4_runCell 39 = .ok (.iconst 1, 1) := by decide +kernel
theorem dX4_runCell_40 : decode cX4_runCell 40 = .ok (.if_icmp .ne 19, 3) := by decide +kernel
theorem dX4_runCell_43 : decode cX4_runCell 43 = .ok (.aload_n 0, 1) := by decide +kernel
theorem dX4_runCell_44 : decode cX4_runCell 44 = .ok (.getfield 35, 3) := by decide +kernel
theorem dX4_runCell_47 : decode cX4_runCell 47 = .ok (.iload_n 1, 1) := by decide +kernel
theorem dX4_runCell_48 : decode cX4_runCell 48 = .ok (.aload_n 0, 1) := by decide +kernel
theorem dX4_runCell_49 : decode cX4_runCell 49 = .ok (.getfield 20, 3) := by decide +kernel
theorem dX4_runCell_52 : decode cX4_runCell 52 = .ok (.invokevirtual 206, 3) := by decide +kernel
theorem dX4_runCell_55 : decode cX4_runCell 55 = .ok (.istore_n 3, 1) := by decide +kernel
theorem dX4_runCell_56 : decode cX4_runCell 56 = .ok (.goto 49, 3) := by decide +kernel
theorem dX4_runCell_59 : decode cX4_runCell 59 = .ok (.aload_n 0, 1) := by decide +kernel
theorem dX4_runCell_60 : decode cX4_runCell 60 = .ok (.getfield 27, 3) := by decide +kernel
theorem dX4_runCell_63 : decode cX4_runCell 63 = .ok (.aload_n 0, 1) := by decide +kernel
theorem dX4_runCell_64 : decode cX4_runCell 64 = .ok (.getfield 20, 3) := by decide +kernel
theorem dX4_runCell_67 : decode cX4_runCell 67 = .ok (.invokevirtual 210, 3) := by decide +kernel
theorem dX4_runCell_70 : decode cX4_runCell 70 = .ok (.aload_n 0, 1) := by decide +kernel
theorem dX4_runCell_71 : decode cX4_runCell 71 = .ok (.getfield 27, 3) := by decide +kernel
theorem dX4_runCell_74 : decode cX4_runCell 74 = .ok (.invokevirtual 158, 3) := by decide +kernel
theorem dX4_runCell_77 : decode cX4_runCell 77 = .ok (.istore_n 2, 1) := by decide +kernel
theorem dX4_runCell_78 : decode cX4_runCell 78 = .ok (.iload_n 2, 1) := by decide +kernel
theorem dX4_runCell_79 : decode cX4_runCell 79 = .ok (.ifCond .ne 26, 3) := by decide +kernel
theorem dX4_runCell_82 : decode cX4_runCell 82 = .ok (.aload_n 0, 1) := by decide +kernel
theorem dX4_runCell_83 : decode cX4_runCell 83 = .ok (.getfield 35, 3) := by decide +kernel
theorem dX4_runCell_86 : decode cX4_runCell 86 = .ok (.iload_n 1, 1) := by decide +kernel
theorem dX4_runCell_87 : decode cX4_runCell 87 = .ok (.aload_n 0, 1) := by decide +kernel
theorem dX4_runCell_88 : decode cX4_runCell 88 = .ok (.getfield 27, 3) := by decide +kernel
theorem dX4_runCell_91 : decode cX4_runCell 91 = .ok (.invokevirtual 161, 3) := by decide +kernel
theorem dX4_runCell_94 : decode cX4_runCell 94 = .ok (.aload_n 0, 1) := by decide +kernel
theorem dX4_runCell_95 : decode cX4_runCell 95 = .ok (.getfield 27, 3) := by decide +kernel
theorem dX4_runCell_98 : decode cX4_runCell 98 = .ok (.invokevirtual 164, 3) := by decide +kernel
theorem dX4_runCell_101 : decode cX4_runCell 101 = .ok (.invokevirtual 214, 3) := by decide +kernel
theorem dX4_runCell_104 : decode cX4_runCell 104 = .ok (.istore_n 3, 1) := by decide +kernel
theorem dX4_runCell_105 : decode cX4_runCell 105 = .ok (.aload_n 0, 1) := by decide +kernel
theorem dX4_runCell_106 : decode cX4_runCell 106 = .ok (.iload_n 1, 1) := by decide +kernel
theorem dX4_runCell_107 : decode cX4_runCell 107 = .ok (.iload_n 2, 1) := by decide +kernel
theorem dX4_runCell_108 : decode cX4_runCell 108 = .ok (.iload_n 3, 1) := by decide +kernel
theorem dX4_runCell_109 : decode cX4_runCell 109 = .ok (.invokevirtual 218, 3) := by decide +kernel
theorem dX4_runCell_112 : decode cX4_runCell 112 = .ok (.iload_n 2, 1) := by decide +kernel
theorem dX4_runCell_113 : decode cX4_runCell 113 = .ok (.ireturn, 1) := by decide +kernel
theorem dX4_cell_0 : decode cX4_cell 0 = .ok (.iload_n 1, 1) := by decide +kernel
theorem dX4_cell_1 : decode cX4_cell 1 = .ok (.invokestatic 60, 3) := by decide +kernel
theorem dX4_cell_4 : decode cX4_cell 4 = .ok (.ifCond .eq 12, 3) := by decide +kernel
theorem dX4_cell_7 : decode cX4_cell 7 = .ok (.iload_n 2, 1) := by decide +kernel
theorem dX4_cell_8 : decode cX4_cell 8 = .ok (.ifCond .eq 10, 3) := by decide +kernel
theorem dX4_cell_11 : decode cX4_cell 11 = .ok (.iload_n 2, 1) := by decide +kernel
theorem dX4_cell_12 : decode cX4_cell 12 = .ok (.iconst 1, 1) := by decide +kernel
theorem dX4_cell_13 : decode cX4_cell 13 = .ok (.if_icmp .eq 5, 3) := by decide +kernel
theorem dX4_cell_16 : decode cX4_cell 16 = .ok (.iconst (-1), 1) := by decide +kernel
theorem dX4_cell_17 : decode cX4_cell 17 = .ok (.ireturn, 1) := by decide +kernel
theorem dX4_cell_18 : decode cX4_cell 18 = .ok (.aload_n 0, 1) := by decide +kernel
theorem dX4_cell_19 : decode cX4_cell 19 = .ok (.getfield 35, 3) := by decide +kernel
theorem dX4_cell_22 : decode cX4_cell 22 = .ok (.getfield 64, 3) := by decide +kernel
theorem dX4_cell_25 : decode cX4_cell 25 = .ok (.invokevirtual 68, 3) := by decide +kernel
theorem dX4_cell_28 : decode cX4_cell 28 = .ok (.bipush 40, 2) := by decide +kernel
theorem dX4_cell_30 : decode cX4_cell 30 = .ok (.if_icmp .ge 13, 3) := by decide +kernel
theorem dX4_cell_33 : decode cX4_cell 33 = .ok (.aload_n 0, 1) := by decide +kernel
theorem dX4_cell_34 : decode cX4_cell 34 = .ok (.getfield 35, 3) := by decide +kernel
theorem dX4_cell_37 : decode cX4_cell 37 = .ok (.invokevirtual 74, 3) := by decide +kernel
theorem dX4_cell_40 : decode cX4_cell 40 = .ok (.ifCond .eq 6, 3) := by decide +kernel
theorem dX4_cell_43 : decode cX4_cell 43 = .ok (.bipush (-2), 2) := by decide +kernel
theorem dX4_cell_45 : decode cX4_cell 45 = .ok (.ireturn, 1) := by decide +kernel
theorem dX4_cell_46 : decode cX4_cell 46 = .ok (.aload_n 0, 1) := by decide +kernel
theorem dX4_cell_47 : decode cX4_cell 47 = .ok (.iload_n 2, 1) := by decide +kernel
theorem dX4_cell_48 : decode cX4_cell 48 = .ok (.invokevirtual 78, 3) := by decide +kernel
theorem dX4_cell_51 : decode cX4_cell 51 = .ok (.istore_n 3, 1) := by decide +kernel
theorem dX4_cell_52 : decode cX4_cell 52 = .ok (.iload_n 3, 1) := by decide +kernel
theorem dX4_cell_53 : decode cX4_cell 53 = .ok (.iconst (-1), 1) := by decide +kernel
theorem dX4_cell_54 : decode cX4_cell 54 = .ok (.if_icmp .eq 8, 3) := by decide +kernel
theorem dX4_cell_57 : decode cX4_cell 57 = .ok (.bipush (-100), 2) := by decide +kernel
theorem dX4_cell_59 : decode cX4_cell 59 = .ok (.iload_n 3, 1) := by decide +kernel
theorem dX4_cell_60 : decode cX4_cell 60 = .ok (.isub, 1) := by decide +kernel
theorem dX4_cell_61 : decode cX4_cell 61 = .ok (.ireturn, 1) := by decide +kernel
theorem dX4_cell_62 : decode cX4_cell 62 = .ok (.aload_n 0, 1) := by decide +kernel
theorem dX4_cell_63 : decode cX4_cell 63 = .ok (.getfield 35, 3) := by decide +kernel
theorem dX4_cell_66 : decode cX4_cell 66 = .ok (.iload_n 1, 1) := by decide +kernel
theorem dX4_cell_67 : decode cX4_cell 67 = .ok (.iload_n 2, 1) := by decide +kernel
theorem dX4_cell_68 : decode cX4_cell 68 = .ok (.invokevirtual 82, 3) := by decide +kernel
theorem dX4_cell_71 : decode cX4_cell 71 = .ok (.istore 4, 2) := by decide +kernel
theorem dX4_cell_73 : decode cX4_cell 73 = .ok (.aload_n 0, 1) := by decide +kernel
theorem dX4_cell_74 : decode cX4_cell 74 = .ok (.iload 4, 2) := by decide +kernel
theorem dX4_cell_76 : decode cX4_cell 76 = .ok (.invokevirtual 86, 3) := by decide +kernel
theorem dX4_cell_79 : decode cX4_cell 79 = .ok (.aload_n 0, 1) := by decide +kernel
theorem dX4_cell_80 : decode cX4_cell 80 = .ok (.iload 4, 2) := by decide +kernel
theorem dX4_cell_82 : decode cX4_cell 82 = .ok (.invokevirtual 89, 3) := by decide +kernel
theorem dX4_cell_85 : decode cX4_cell 85 = .ok (.pop, 1) := by decide +kernel
theorem dX4_cell_86 : decode cX4_cell 86 = .ok (.iload 4, 2) := by decide +kernel
theorem dX4_cell_88 : decode cX4_cell 88 = .ok (.ireturn, 1) := by decide +kernel
theorem dX4_redo_0 : decode cX4_redo 0 = .ok (.aload_n 0, 1) := by decide +kernel
theorem dX4_redo_1 : decode cX4_redo 1 = .ok (.getfield 35, 3) := by decide +kernel
theorem dX4_redo_4 : decode cX4_redo 4 = .ok (.getfield 64, 3) := by decide +kernel
theorem dX4_redo_7 : decode cX4_redo 7 = .ok (.iload_n 1, 1) := by decide +kernel
theorem dX4_redo_8 : decode cX4_redo 8 = .ok (.invokevirtual 92, 3) := by decide +kernel
theorem dX4_redo_11 : decode cX4_redo 11 = .ok (.ifCond .ne 5, 3) := by decide +kernel
theorem dX4_redo_14 : decode cX4_redo 14 = .ok (.iconst (-1), 1) := by decide +kernel
theorem dX4_redo_15 : decode cX4_redo 15 = .ok (.ireturn, 1) := by decide +kernel
theorem dX4_redo_16 : decode cX4_redo 16 = .ok (.aload_n 0, 1) := by decide +kernel
theorem dX4_redo_17 : decode cX4_redo 17 = .ok (.getfield 35, 3) := by decide +kernel
theorem dX4_redo_20 : decode cX4_redo 20 = .ok (.invokevirtual 74, 3) := by decide +kernel
theorem dX4_redo_23 : decode cX4_redo 23 = .ok (.ifCond .eq 6, 3) := by decide +kernel
theorem dX4_redo_26 : decode cX4_redo 26 = .ok (.bipush (-2), 2) := by decide +kernel
theorem dX4_redo_28 : decode cX4_redo 28 = .ok (.ireturn, 1) := by decide +kernel
theorem dX4_redo_29 : decode cX4_redo 29 = .ok (.aload_n 0, 1) := by decide +kernel
theorem dX4_redo_30 : decode cX4_redo 30 = .ok (.aload_n 0, 1) := by decide +kernel
theorem dX4_redo_31 : decode cX4_redo 31 = .ok (.getfield 35, 3) := by decide +kernel
theorem dX4_redo_34 : decode cX4_redo 34 = .ok (.getfield 64, 3) := by decide +kernel
theorem dX4_redo_37 : decode cX4_redo 37 = .ok (.iload_n 1, 1) := by decide +kernel
theorem dX4_redo_38 : decode cX4_redo 38 = .ok (.bipush 6, 2) := by decide +kernel
theorem dX4_redo_40 : decode cX4_redo 40 = .ok (.invokevirtual 95, 3) := by decide +kernel
theorem dX4_redo_43 : decode cX4_redo 43 = .ok (.invokevirtual 78, 3) := by decide +kernel
theorem dX4_redo_46 : decode cX4_redo 46 = .ok (.istore_n 2, 1) := by decide +kernel
theorem dX4_redo_47 : decode cX4_redo 47 = .ok (.iload_n 2, 1) := by decide +kernel
theorem dX4_redo_48 : decode cX4_redo 48 = .ok (.iconst (-1), 1) := by decide +kernel
theorem dX4_redo_49 : decode cX4_redo 49 = .ok (.if_icmp .eq 8, 3) := by decide +kernel
theorem dX4_redo_52 : decode cX4_redo 52 = .ok (.bipush (-100), 2) := by decide +kernel
theorem dX4_redo_54 : decode cX4_redo 54 = .ok (.iload_n 2, 1) := by decide +kernel
theorem dX4_redo_55 : decode cX4_redo 55 = .ok (.isub, 1) := by decide +kernel
theorem dX4_redo_56 : decode cX4_redo 56 = .ok (.ireturn, 1) := by decide +kernel
theorem dX4_redo_57 : decode cX4_redo 57 = .ok (.aload_n 0, 1) := by decide +kernel
theorem dX4_redo_58 : decode cX4_redo 58 = .ok (.iload_n 1, 1) := by decide +kernel
theorem dX4_redo_59 : decode cX4_redo 59 = .ok (.invokevirtual 86, 3) := by decide +kernel
theorem dX4_redo_62 : decode cX4_redo 62 = .ok (.aload_n 0, 1) := by decide +kernel
theorem dX4_redo_63 : decode cX4_redo 63 = .ok (.iload_n 1, 1) := by decide +kernel
theorem dX4_redo_64 : decode cX4_redo 64 = .ok (.invokevirtual 89, 3) := by decide +kernel
theorem dX4_redo_67 : decode cX4_redo 67 = .ok (.ireturn, 1) := by decide +kernel
theorem dX4_faultOfCell_0 : decode cX4_faultOfCell 0 = .ok (.aload_n 0, 1) := by decide +kernel
theorem dX4_faultOfCell_1 : decode cX4_faultOfCell 1 = .ok (.getfield 20, 3) := by decide +kernel
theorem dX4_faultOfCell_4 : decode cX4_faultOfCell 4 = .ok (.aload_n 0, 1) := by decide +kernel
theorem dX4_faultOfCell_5 : decode cX4_faultOfCell 5 = .ok (.getfield 35, 3) := by decide +kernel
theorem dX4_faultOfCell_8 : decode cX4_faultOfCell 8 = .ok (.invokevirtual 185, 3) := by decide +kernel
theorem dX4_faultOfCell_11 : decode cX4_faultOfCell 11 = .ok (.aload_n 0, 1) := by decide +kernel
theorem dX4_faultOfCell_12 : decode cX4_faultOfCell 12 = .ok (.getfield 35, 3) := by decide +kernel
theorem dX4_faultOfCell_15 : decode cX4_faultOfCell 15 = .ok (.getfield 64, 3) := by decide +kernel
theorem dX4_faultOfCell_18 : decode cX4_faultOfCell 18 = .ok (.iload_n 1, 1) := by decide +kernel
theorem dX4_faultOfCell_19 : decode cX4_faultOfCell 19 = .ok (.bipush 8, 2) := by decide +kernel
theorem dX4_faultOfCell_21 : decode cX4_faultOfCell 21 = .ok (.invokevirtual 95, 3) := by decide +kernel
theorem dX4_faultOfCell_24 : decode cX4_faultOfCell 24 = .ok (.istore_n 2, 1) := by decide +kernel
theorem dX4_faultOfCell_25 : decode cX4_faultOfCell 25 = .ok (.iconst 0, 1) := by decide +kernel
theorem dX4_faultOfCell_26 : decode cX4_faultOfCell 26 = .ok (.istore_n 3, 1) := by decide +kernel
theorem dX4_faultOfCell_27 : decode cX4_faultOfCell 27 = .ok (.iload_n 3, 1) := by decide +kernel
theorem dX4_faultOfCell_28 : decode cX4_faultOfCell 28 = .ok (.iload_n 2, 1) := by decide +kernel
theorem dX4_faultOfCell_29 : decode cX4_faultOfCell 29 = .ok (.if_icmp .ge 37, 3) := by decide +kernel
theorem dX4_faultOfCell_32 : decode cX4_faultOfCell 32 = .ok (.iload_n 3, 1) := by decide +kernel
theorem dX4_faultOfCell_33 : decode cX4_faultOfCell 33 = .ok (.bipush 60, 2) := by decide +kernel
theorem dX4_faultOfCell_35 : decode cX4_faultOfCell 35 = .ok (.if_icmp .ge 31, 3) := by decide +kernel
theorem dX4_faultOfCell_38 : decode cX4_faultOfCell 38 = .ok (.aload_n 0, 1) := by decide +kernel
theorem dX4_faultOfCell_39 : decode cX4_faultOfCell 39 = .ok (.getfield 20, 3) := by decide +kernel
theorem dX4_faultOfCell_42 : decode cX4_faultOfCell 42 = .ok (.aload_n 0, 1) := by decide +kernel
theorem dX4_faultOfCell_43 : decode cX4_faultOfCell 43 = .ok (.getfield 35, 3) := by decide +kernel
theorem dX4_faultOfCell_46 : decode cX4_faultOfCell 46 = .ok (.getfield 64, 3) := by decide +kernel
theorem dX4_faultOfCell_49 : decode cX4_faultOfCell 49 = .ok (.iload_n 1, 1) := by decide +kernel
theorem dX4_faultOfCell_50 : decode cX4_faultOfCell 50 = .ok (.bipush 9, 2) := by decide +kernel
theorem dX4_faultOfCell_52 : decode cX4_faultOfCell 52 = .ok (.iload_n 3, 1) := by decide +kernel
theorem dX4_faultOfCell_53 : decode cX4_faultOfCell 53 = .ok (.iadd, 1) := by decide +kernel
theorem dX4_faultOfCell_54 : decode cX4_faultOfCell 54 = .ok (.invokevirtual 95, 3) := by decide +kernel
theorem dX4_faultOfCell_57 : decode cX4_faultOfCell 57 = .ok (.invokevirtual 188, 3) := by decide +kernel
theorem dX4_faultOfCell_60 : decode cX4_faultOfCell 60 = .ok (.iinc 3 1, 3) := by decide +kernel
theorem dX4_faultOfCell_63 : decode cX4_faultOfCell 63 = .ok (.goto (-36), 3) := by decide +kernel
theorem dX4_faultOfCell_66 : decode cX4_faultOfCell 66 = .ok (.aload_n 0, 1) := by decide +kernel
theorem dX4_faultOfCell_67 : decode cX4_faultOfCell 67 = .ok (.getfield 20, 3) := by decide +kernel
theorem dX4_faultOfCell_70 : decode cX4_faultOfCell 70 = .ok (.aload_n 0, 1) := by decide +kernel
theorem dX4_faultOfCell_71 : decode cX4_faultOfCell 71 = .ok (.getfield 35, 3) := by decide +kernel
theorem dX4_faultOfCell_74 : decode cX4_faultOfCell 74 = .ok (.getfield 64, 3) := by decide +kernel
theorem dX4_faultOfCell_77 : decode cX4_faultOfCell 77 = .ok (.iload_n 1, 1) := by decide +kernel
theorem dX4_faultOfCell_78 : decode cX4_faultOfCell 78 = .ok (.bipush 6, 2) := by decide +kernel
theorem dX4_faultOfCell_80 : decode cX4_faultOfCell 80 = .ok (.invokevirtual 95, 3) := by decide +kernel
theorem dX4_faultOfCell_83 : decode cX4_faultOfCell 83 = .ok (.invokevirtual 191, 3) := by decide +kernel
theorem dX4_faultOfCell_86 : decode cX4_faultOfCell 86 = .ok (.ireturn, 1) := by decide +kernel
theorem dX4_rerun_0 : decode cX4_rerun 0 = .ok (.aload_n 0, 1) := by decide +kernel
theorem dX4_rerun_1 : decode cX4_rerun 1 = .ok (.getfield 35, 3) := by decide +kernel
theorem dX4_rerun_4 : decode cX4_rerun 4 = .ok (.getfield 64, 3) := by decide +kernel
theorem dX4_rerun_7 : decode cX4_rerun 7 = .ok (.iload_n 1, 1) := by decide +kernel
theorem dX4_rerun_8 : decode cX4_rerun 8 = .ok (.invokevirtual 92, 3) := by decide +kernel
theorem dX4_rerun_11 : decode cX4_rerun 11 = .ok (.ifCond .ne 5, 3) := by decide +kernel
theorem dX4_rerun_14 : decode cX4_rerun 14 = .ok (.iconst (-1), 1) := by decide +kernel
theorem dX4_rerun_15 : decode cX4_rerun 15 = .ok (.ireturn, 1) := by decide +kernel
theorem dX4_rerun_16 : decode cX4_rerun 16 = .ok (.aload_n 0, 1) := by decide +kernel
theorem dX4_rerun_17 : decode cX4_rerun 17 = .ok (.getfield 35, 3) := by decide +kernel
theorem dX4_rerun_20 : decode cX4_rerun 20 = .ok (.invokevirtual 74, 3) := by decide +kernel
theorem dX4_rerun_23 : decode cX4_rerun 23 = .ok (.ifCond .eq 6, 3) := by decide +kernel
theorem dX4_rerun_26 : decode cX4_rerun 26 = .ok (.bipush (-2), 2) := by decide +kernel
theorem dX4_rerun_28 : decode cX4_rerun 28 = .ok (.ireturn, 1) := by decide +kernel
theorem dX4_rerun_29 : decode cX4_rerun 29 = .ok (.aload_n 0, 1) := by decide +kernel
theorem dX4_rerun_30 : decode cX4_rerun 30 = .ok (.iload_n 1, 1) := by decide +kernel
theorem dX4_rerun_31 : decode cX4_rerun 31 = .ok (.invokevirtual 98, 3) := by decide +kernel
theorem dX4_rerun_34 : decode cX4_rerun 34 = .ok (.istore_n 2, 1) := by decide +kernel
theorem dX4_rerun_35 : decode cX4_rerun 35 = .ok (.iload_n 2, 1) := by decide +kernel
theorem dX4_rerun_36 : decode cX4_rerun 36 = .ok (.iconst (-1), 1) := by decide +kernel
theorem dX4_rerun_37 : decode cX4_rerun 37 = .ok (.if_icmp .eq 8, 3) := by decide +kernel
theorem dX4_rerun_40 : decode cX4_rerun 40 = .ok (.bipush (-100), 2) := by decide +kernel
theorem dX4_rerun_42 : decode cX4_rerun 42 = .ok (.iload_n 2, 1) := by decide +kernel
theorem dX4_rerun_43 : decode cX4_rerun 43 = .ok (.isub, 1) := by decide +kernel
theorem dX4_rerun_44 : decode cX4_rerun 44 = .ok (.ireturn, 1) := by decide +kernel
theorem dX4_rerun_45 : decode cX4_rerun 45 = .ok (.aload_n 0, 1) := by decide +kernel
theorem dX4_rerun_46 : decode cX4_rerun 46 = .ok (.iload_n 1, 1) := by decide +kernel
theorem dX4_rerun_47 : decode cX4_rerun 47 = .ok (.invokevirtual 89, 3) := by decide +kernel
theorem dX4_rerun_50 : decode cX4_rerun 50 = .ok (.ireturn, 1) := by decide +kernel
theorem dJ13_bitCount_95d88_0 : decode cJ13_bitCount_95d88 0 = .ok (.lload_n 0, 1) := by decide +kernel
theorem dJ13_bitCount_95d88_1 : decode cJ13_bitCount_95d88 1 = .ok (.lload_n 0, 1) := by decide +kernel
theorem dJ13_bitCount_95d88_2 : decode cJ13_bitCount_95d88 2 = .ok (.iconst 1, 1) := by decide +kernel
theorem dJ13_bitCount_95d88_3 : decode cJ13_bitCount_95d88 3 = .ok (.lushr, 1) := by decide +kernel
theorem dJ13_bitCount_95d88_4 : decode cJ13_bitCount_95d88 4 = .ok (.ldc2_w 314, 3) := by decide +kernel
theorem dJ13_bitCount_95d88_7 : decode cJ13_bitCount_95d88 7 = .ok (.land, 1) := by decide +kernel
theorem dJ13_bitCount_95d88_8 : decode cJ13_bitCount_95d88 8 = .ok (.lsub, 1) := by decide +kernel
theorem dJ13_bitCount_95d88_9 : decode cJ13_bitCount_95d88 9 = .ok (.lstore_n 0, 1) := by decide +kernel
theorem dJ13_bitCount_95d88_10 : decode cJ13_bitCount_95d88 10 = .ok (.lload_n 0, 1) := by decide +kernel
theorem dJ13_bitCount_95d88_11 : decode cJ13_bitCount_95d88 11 = .ok (.ldc2_w 316, 3) := by decide +kernel
theorem dJ13_bitCount_95d88_14 : decode cJ13_bitCount_95d88 14 = .ok (.land, 1) := by decide +kernel
theorem dJ13_bitCount_95d88_15 : decode cJ13_bitCount_95d88 15 = .ok (.lload_n 0, 1) := by decide +kernel
theorem dJ13_bitCount_95d88_16 : decode cJ13_bitCount_95d88 16 = .ok (.iconst 2, 1) := by decide +kernel
theorem dJ13_bitCount_95d88_17 : decode cJ13_bitCount_95d88 17 = .ok (.lushr, 1) := by decide +kernel
theorem dJ13_bitCount_95d88_18 : decode cJ13_bitCount_95d88 18 = .ok (.ldc2_w 316, 3) := by decide +kernel
theorem dJ13_bitCount_95d88_21 : decode cJ13_bitCount_95d88 21 = .ok (.land, 1) := by decide +kernel
theorem dJ13_bitCount_95d88_22 : decode cJ13_bitCount_95d88 22 = .ok (.ladd, 1) := by decide +kernel
theorem dJ13_bitCount_95d88_23 : decode cJ13_bitCount_95d88 23 = .ok (.lstore_n 0, 1) := by decide +kernel
theorem dJ13_bitCount_95d88_24 : decode cJ13_bitCount_95d88 24 = .ok (.lload_n 0, 1) := by decide +kernel
theorem dJ13_bitCount_95d88_25 : decode cJ13_bitCount_95d88 25 = .ok (.lload_n 0, 1) := by decide +kernel
theorem dJ13_bitCount_95d88_26 : decode cJ13_bitCount_95d88 26 = .ok (.iconst 4, 1) := by decide +kernel
theorem dJ13_bitCount_95d88_27 : decode cJ13_bitCount_95d88 27 = .ok (.lushr, 1) := by decide +kernel
theorem dJ13_bitCount_95d88_28 : decode cJ13_bitCount_95d88 28 = .ok (.ladd, 1) := by decide +kernel
theorem dJ13_bitCount_95d88_29 : decode cJ13_bitCount_95d88 29 = .ok (.ldc2_w 318, 3) := by decide +kernel
theorem dJ13_bitCount_95d88_32 : decode cJ13_bitCount_95d88 32 = .ok (.land, 1) := by decide +kernel
theorem dJ13_bitCount_95d88_33 : decode cJ13_bitCount_95d88 33 = .ok (.lstore_n 0, 1) := by decide +kernel
theorem dJ13_bitCount_95d88_34 : decode cJ13_bitCount_95d88 34 = .ok (.lload_n 0, 1) := by decide +kernel
theorem dJ13_bitCount_95d88_35 : decode cJ13_bitCount_95d88 35 = .ok (.lload_n 0, 1) := by decide +kernel
theorem dJ13_bitCount_95d88_36 : decode cJ13_bitCount_95d88 36 = .ok (.bipush 8, 2) := by decide +kernel
theorem dJ13_bitCount_95d88_38 : decode cJ13_bitCount_95d88 38 = .ok (.lushr, 1) := by decide +kernel
theorem dJ13_bitCount_95d88_39 : decode cJ13_bitCount_95d88 39 = .ok (.ladd, 1) := by decide +kernel
theorem dJ13_bitCount_95d88_40 : decode cJ13_bitCount_95d88 40 = .ok (.lstore_n 0, 1) := by decide +kernel
theorem dJ13_bitCount_95d88_41 : decode cJ13_bitCount_95d88 41 = .ok (.lload_n 0, 1) := by decide +kernel
theorem dJ13_bitCount_95d88_42 : decode cJ13_bitCount_95d88 42 = .ok (.lload_n 0, 1) := by decide +kernel
theorem dJ13_bitCount_95d88_43 : decode cJ13_bitCount_95d88 43 = .ok (.bipush 16, 2) := by decide +kernel
theorem dJ13_bitCount_95d88_45 : decode cJ13_bitCount_95d88 45 = .ok (.lushr, 1) := by decide +kernel
theorem dJ13_bitCount_95d88_46 : decode cJ13_bitCount_95d88 46 = .ok (.ladd, 1) := by decide +kernel
theorem dJ13_bitCount_95d88_47 : decode cJ13_bitCount_95d88 47 = .ok (.lstore_n 0, 1) := by decide +kernel
theorem dJ13_bitCount_95d88_48 : decode cJ13_bitCount_95d88 48 = .ok (.lload_n 0, 1) := by decide +kernel
theorem dJ13_bitCount_95d88_49 : decode cJ13_bitCount_95d88 49 = .ok (.lload_n 0, 1) := by decide +kernel
theorem dJ13_bitCount_95d88_50 : decode cJ13_bitCount_95d88 50 = .ok (.bipush 32, 2) := by decide +kernel
theorem dJ13_bitCount_95d88_52 : decode cJ13_bitCount_95d88 52 = .ok (.lushr, 1) := by decide +kernel
theorem dJ13_bitCount_95d88_53 : decode cJ13_bitCount_95d88 53 = .ok (.ladd, 1) := by decide +kernel
theorem dJ13_bitCount_95d88_54 : decode cJ13_bitCount_95d88 54 = .ok (.lstore_n 0, 1) := by decide +kernel
theorem dJ13_bitCount_95d88_55 : decode cJ13_bitCount_95d88 55 = .ok (.lload_n 0, 1) := by decide +kernel
theorem dJ13_bitCount_95d88_56 : decode cJ13_bitCount_95d88 56 = .ok (.l2i, 1) := by decide +kernel
theorem dJ13_bitCount_95d88_57 : decode cJ13_bitCount_95d88 57 = .ok (.bipush 127, 2) := by decide +kernel
theorem dJ13_bitCount_95d88_59 : decode cJ13_bitCount_95d88 59 = .ok (.iand, 1) := by decide +kernel
theorem dJ13_bitCount_95d88_60 : decode cJ13_bitCount_95d88 60 = .ok (.ireturn, 1) := by decide +kernel
theorem dX4_rerunStale_0 : decode cX4_rerunStale 0 = .ok (.aload_n 0, 1) := by decide +kernel
theorem dX4_rerunStale_1 : decode cX4_rerunStale 1 = .ok (.getfield 35, 3) := by decide +kernel
theorem dX4_rerunStale_4 : decode cX4_rerunStale 4 = .ok (.invokevirtual 101, 3) := by decide +kernel
theorem dX4_rerunStale_7 : decode cX4_rerunStale 7 = .ok (.lstore_n 1, 1) := by decide +kernel
theorem dX4_rerunStale_8 : decode cX4_rerunStale 8 = .ok (.lload_n 1, 1) := by decide +kernel
theorem dX4_rerunStale_9 : decode cX4_rerunStale 9 = .ok (.invokestatic 105, 3) := by decide +kernel
theorem dX4_rerunStale_12 : decode cX4_rerunStale 12 = .ok (.istore_n 3, 1) := by decide +kernel
theorem dX4_rerunStale_13 : decode cX4_rerunStale 13 = .ok (.aload_n 0, 1) := by decide +kernel
theorem dX4_rerunStale_14 : decode cX4_rerunStale 14 = .ok (.getfield 35, 3) := by decide +kernel
theorem dX4_rerunStale_17 : decode cX4_rerunStale 17 = .ok (.getfield 111, 3) := by decide +kernel
theorem dX4_rerunStale_20 : decode cX4_rerunStale 20 = .ok (.invokevirtual 68, 3) := by decide +kernel
theorem dX4_rerunStale_23 : decode cX4_rerunStale 23 = .ok (.iload_n 3, 1) := by decide +kernel
theorem dX4_rerunStale_24 : decode cX4_rerunStale 24 = .ok (.iadd, 1) := by decide +kernel
theorem dX4_rerunStale_25 : decode cX4_rerunStale 25 = .ok (.sipush 150, 3) := by decide +kernel
theorem dX4_rerunStale_28 : decode cX4_rerunStale 28 = .ok (.if_icmp .le 6, 3) := by decide +kernel
theorem dX4_rerunStale_31 : decode cX4_rerunStale 31 = .ok (.bipush (-2), 2) := by decide +kernel
theorem dX4_rerunStale_33 : decode cX4_rerunStale 33 = .ok (.ireturn, 1) := by decide +kernel
theorem dX4_rerunStale_34 : decode cX4_rerunStale 34 = .ok (.iconst 0, 1) := by decide +kernel
theorem dX4_rerunStale_35 : decode cX4_rerunStale 35 = .ok (.istore 4, 2) := by decide +kernel
theorem dX4_rerunStale_37 : decode cX4_rerunStale 37 = .ok (.iconst 0, 1) := by decide +kernel
theorem dX4_rerunStale_38 : decode cX4_rerunStale 38 = .ok (.istore 5, 2) := by decide +kernel
theorem dX4_rerunStale_40 : decode cX4_rerunStale 40 = .ok (.iload 5, 2) := by decide +kernel
theorem dX4_rerunStale_42 : decode cX4_rerunStale 42 = .ok (.iload_n 3, 1) := by decide +kernel
theorem dX4_rerunStale_43 : decode cX4_rerunStale 43 = .ok (.if_icmp .ge 50, 3) := by decide +kernel
theorem dX4_rerunStale_46 : decode cX4_rerunStale 46 = .ok (.aload_n 0, 1) := by decide +kernel
theorem dX4_rerunStale_47 : decode cX4_rerunStale 47 = .ok (.getfield 35, 3) := by decide +kernel
theorem dX4_rerunStale_50 : decode cX4_rerunStale 50 = .ok (.lload_n 1, 1) := by decide +kernel
theorem dX4_rerunStale_51 : decode cX4_rerunStale 51 = .ok (.invokevirtual 114, 3) := by decide +kernel
theorem dX4_rerunStale_54 : decode cX4_rerunStale 54 = .ok (.istore 6, 2) := by decide +kernel
theorem dX4_rerunStale_56 : decode cX4_rerunStale 56 = .ok (.lload_n 1, 1) := by decide +kernel
theorem dX4_rerunStale_57 : decode cX4_rerunStale 57 = .ok (.lconst 1, 1) := by decide +kernel
theorem dX4_rerunStale_58 : decode cX4_rerunStale 58 = .ok (.iload 6, 2) := by decide +kernel
theorem dX4_rerunStale_60 : decode cX4_rerunStale 60 = .ok (.lshl, 1) := by decide +kernel
theorem dX4_rerunStale_61 : decode cX4_rerunStale 61 = .ok (.ldc2_w 117, 3) := by decide +kernel
theorem dX4_rerunStale_64 : decode cX4_rerunStale 64 = .ok (.lxor, 1) := by decide +kernel
theorem dX4_rerunStale_65 : decode cX4_rerunStale 65 = .ok (.land, 1) := by decide +kernel
theorem dX4_rerunStale_66 : decode cX4_rerunStale 66 = .ok (.lstore_n 1, 1) := by decide +kernel
theorem dX4_rerunStale_67 : decode cX4_rerunStale 67 = .ok (.aload_n 0, 1) := by decide +kernel
theorem dX4_rerunStale_68 : decode cX4_rerunStale 68 = .ok (.iload 6, 2) := by decide +kernel
theorem dX4_rerunStale_70 : decode cX4_rerunStale 70 = .ok (.invokevirtual 98, 3) := by decide +kernel
theorem dX4_rerunStale_73 : decode cX4_rerunStale 73 = .ok (.iconst (-1), 1) := by decide +kernel
theorem dX4_rerunStale_74 : decode cX4_rerunStale 74 = .ok (.if_icmp .ne 13, 3) := by decide +kernel
theorem dX4_rerunStale_77 : decode cX4_rerunStale 77 = .ok (.aload_n 0, 1) := by decide +kernel
theorem dX4_rerunStale_78 : decode cX4_rerunStale 78 = .ok (.iload 6, 2) := by decide +kernel
theorem dX4_rerunStale_80 : decode cX4_rerunStale 80 = .ok (.invokevirtual 89, 3) := by decide +kernel
theorem dX4_rerunStale_83 : decode cX4_rerunStale 83 = .ok (.pop, 1) := by decide +kernel
theorem dX4_rerunStale_84 : decode cX4_rerunStale 84 = .ok (.iinc 4 1, 3) := by decide +kernel
theorem dX4_rerunStale_87 : decode cX4_rerunStale 87 = .ok (.iinc 5 1, 3) := by decide +kernel
theorem dX4_rerunStale_90 : decode cX4_rerunStale 90 = .ok (.goto (-50), 3) := by decide +kernel
theorem dX4_rerunStale_93 : decode cX4_rerunStale 93 = .ok (.iload 4, 2) := by decide +kernel
theorem dX4_rerunStale_95 : decode cX4_rerunStale 95 = .ok (.ireturn, 1) := by decide +kernel
section CM
variable {ρ : Type} {p : Program} {l : Launch} {e : Env} {s : State} {m : MethodId} {args : Array Value} {below : List Frame} {meth : Method} {c : Code}
variable {cc : ByteArray} {nL : Nat} {own : String} {rt : Option FieldType} {D : va_G} {cI : ClassId} {sf : sfT} {A : Nat → Prop} {q : Nat → Nat} {tk : Nat} {fr lo : Nat} {S0 S : CS} {QQ : ρ × CS → State → Prop} {pc : Nat} {lv : List (Nat × Value)}

-- X4.takeTape
theorem tlX4_194 : Cond.methodLink RX4 194 yX2_set ∈ tt := tt_in (List.mem_of_getElem? (i := 432) (by decide +kernel)) (by decide +kernel)
def f4_takeTape_l19 (n : Nat) : Nat → Int32 → Int32 → CS → Option (Int32 × CS)
  | 0, _, _, _ => none
  | k + 1, x1, x2, S => cg S 1 fun v1 =>
    if v1 ≤ x2 then
      (cp S 1 (nI 0) fun S2 =>
      some (0, S2))
    else
      (if (nI 60) ≤ x2 then
        (cp S 1 (nI 0) fun S3 =>
        some (0, S3))
      else
        (cr S 0 60 x2 fun v4 =>
        bT 5 S (f2_set n x1 ((nI 9) + x2) v4 (tOf 5 S)) fun _ S5 =>
        (f4_takeTape_l19 n k) x1 (x2 + (nI 1)) S5))
theorem mw4_takeTape_l19 (n : Nat) : ∀ (k : Nat) (x1 : Int32) (x2 : Int32) (S : CS), mo S (f4_takeTape_l19 n k x1 x2 S) := by
  intro k
  induction k with
  | zero =>
    intro x1 x2 S
    exact m_none
  | succ k ih =>
    intro x1 x2 S
    rw [f4_takeTape_l19]
    refine m_cg (fun v1 => ?_)
    refine m_ite ?_ ?_
    · refine m_cp (fun S2 => ?_)
      exact m_some
    · refine m_ite ?_ ?_
      · refine m_cp (fun S3 => ?_)
        exact m_some
      · refine m_cr (fun v4 => ?_)
        refine m_bT (mo2_set _ _ _ _ _) (fun v5 S5 => ?_)
        exact ih x1 (x2 + (nI 1)) S5
theorem w4_takeTape_l19 (hsf : sfOk (SF tk)) (X : hX p s m args meth c cX4_takeTape 3 RX4 none D (tyC cI) (SF tk) A) (n : Nat) : ∀ (k : Nat) (x1 : Int32) (x2 : Int32) (S : CS), hG p l e (fun r => rmC 1 24 (cS r.2 - cS S0) (sS r.2 - sS S0)) s m args below meth c 3 (ZW D (wC cI q) A s.heap S0 S) (cS S - cS S0) (sS S - sS S0) (fun r => MQ below (QWv D (tyC cI) (wC cI q) A r) args s (cS r.2 - cS S0) (sS r.2 - sS S0) A) (fun r => le S r.2) 19 [(0, .ref (q 50)), (1, .int x1), (2, .int x2)] [] (f4_takeTape_l19 n k x1 x2 S) := by
  intro k
  induction k with
  | zero =>
    intro x1 x2 S
    exact h_none
  | succ k ih =>
    intro x1 x2 S
    rw [f4_takeTape_l19]
    refine h_iload_n X dX4_takeTape_19 rfl rfl ?_
    refine h_aload_n X dX4_takeTape_20 rfl rfl ?_
    refine c_g_B_onTape X fl4_13 dX4_takeTape_21 ?_
    intro v1
    refine h_icmp_ge (tgt := 60) X dX4_takeTape_24 (by decide) ?_ ?_
    · refine h_aload_n X dX4_takeTape_60 rfl rfl ?_
      refine h_iconst (v := (nI 0)) X dX4_takeTape_61 (by decide) ?_
      refine c_p_B_onTape X fl4_13 dX4_takeTape_62 ?_
      intro S2
      exact h_vret X dX4_takeTape_65
    · refine h_iload_n X dX4_takeTape_27 rfl rfl ?_
      refine h_bipush (v := (nI 60)) X dX4_takeTape_28 (by decide) ?_
      refine h_icmp_ge (tgt := 60) X dX4_takeTape_30 (by decide) ?_ ?_
      · refine h_aload_n X dX4_takeTape_60 rfl rfl ?_
        refine h_iconst (v := (nI 0)) X dX4_takeTape_61 (by decide) ?_
        refine c_p_B_onTape X fl4_13 dX4_takeTape_62 ?_
        intro S3
        exact h_vret X dX4_takeTape_65
      · refine h_aload_n X dX4_takeTape_33 rfl rfl ?_
        refine c_g_B_now X fl4_35 dX4_takeTape_34 ?_
        refine c_g_IM_cells X fl4_64 dX4_takeTape_37 ?_
        refine h_iload_n X dX4_takeTape_40 rfl rfl ?_
        refine h_bipush (v := (nI 9)) X dX4_takeTape_41 (by decide) ?_
        refine h_iload_n X dX4_takeTape_43 rfl rfl ?_
        refine h_iadd X dX4_takeTape_44 ?_
        refine h_aload_n X dX4_takeTape_45 rfl rfl ?_
        refine c_g_B_tape X fl4_9 dX4_takeTape_46 ?_
        refine h_iload_n X dX4_takeTape_49 rfl rfl ?_
        refine c_l_0 X dX4_takeTape_50 ?_
        intro v4
        refine kt2_set_5 hsf X tlX4_194 ⟨Nat.le_of_ble_eq_true rfl, Nat.le_of_ble_eq_true rfl⟩ (Nat.le_of_ble_eq_true rfl) dX4_takeTape_51 ?_
        intro v5 S5
        refine h_iinc (v := (nI 1)) (lv' := [(2, .int (x2 + (nI 1))), (0, .ref (q 50)), (1, .int x1)]) X dX4_takeTape_54 rfl (by decide) (by decide) rfl ?_
        refine h_goto (tgt := 19) X dX4_takeTape_57 (by decide) ?_
        exact h_pick [1, 2, 0] rfl (ih x1 (x2 + (nI 1)) S5)
def f4_takeTape (n : Nat) (x1 : Int32) (S : CS) : Option (Int32 × CS) :=
    cg S 1 fun v1 =>
    bT 5 S (f2_set n x1 (nI 8) v1 (tOf 5 S)) fun _ S2 =>
    f4_takeTape_l19 n n x1 (nI 0) S2
theorem w4_takeTape (hsf : sfOk (SF tk)) (X : hX p s m args meth c cX4_takeTape 3 RX4 none D (tyC cI) (SF tk) A) {S0 : CS} (n : Nat) (x1 : Int32) (S : CS) : hG p l e (fun r => rmC 1 24 (cS r.2 - cS S0) (sS r.2 - sS S0)) s m args below meth c 3 (ZW D (wC cI q) A s.heap S0 S) (cS S - cS S0) (sS S - sS S0) (fun r => MQ below (QWv D (tyC cI) (wC cI q) A r) args s (cS r.2 - cS S0) (sS r.2 - sS S0) A) (fun r => le S r.2) 0 [(0, .ref (q 50)), (1, .int x1)] [] (f4_takeTape n x1 S) := by
    unfold f4_takeTape
    refine h_aload_n X dX4_takeTape_0 rfl rfl ?_
    refine c_g_B_now X fl4_35 dX4_takeTape_1 ?_
    refine c_g_IM_cells X fl4_64 dX4_takeTape_4 ?_
    refine h_iload_n X dX4_takeTape_7 rfl rfl ?_
    refine h_bipush (v := (nI 8)) X dX4_takeTape_8 (by decide) ?_
    refine h_aload_n X dX4_takeTape_10 rfl rfl ?_
    refine c_g_B_onTape X fl4_13 dX4_takeTape_11 ?_
    intro v1
    refine kt2_set_5 hsf X tlX4_194 ⟨Nat.le_of_ble_eq_true rfl, Nat.le_of_ble_eq_true rfl⟩ (Nat.le_of_ble_eq_true rfl) dX4_takeTape_14 ?_
    intro v2 S2
    refine h_iconst (v := (nI 0)) X dX4_takeTape_17 (by decide) ?_
    refine h_istore_n (lv' := [(2, .int (nI 0)), (0, .ref (q 50)), (1, .int x1)]) X dX4_takeTape_18 rfl (by decide) rfl ?_
    exact h_pick [1, 2, 0] rfl (w4_takeTape_l19 hsf X n n x1 (nI 0) S2)
theorem mo4_takeTape (n : Nat) (x1 : Int32) (S : CS) : mo S (f4_takeTape n x1 S) := by
    unfold f4_takeTape
    refine m_cg (fun v1 => ?_)
    refine m_bT (mo2_set _ _ _ _ _) (fun v2 S2 => ?_)
    exact mw4_takeTape_l19 n n x1 (nI 0) S2
theorem c4_takeTape (hsf : sfOk (SF tk)) (l : Launch) (D : va_G) (cI : ClassId) (q : Nat → Nat) (n : Nat) (x1 : Int32) (S : CS) : MetW l D (tyC cI) (SF tk) (wC cI q) yX4_takeTape cX4_takeTape 3 none 1 24 QWv [.ref (q 50), .int x1] S (f4_takeTape n x1 S) := by
  refine MetW.of (own := RX4) (by decide) rfl (Nat.le_of_ble_eq_true rfl) (mo4_takeTape n x1 S) ?_
  intro x p e s m args below meth c X
  refine h_pick (lv' := [(0, .ref (q 50)), (1, .int x1)]) [0, 1] rfl ?_
  exact h_close (w4_takeTape hsf X n x1 S)
theorem tc4_takeTape : Cond.code yX4_takeTape cX4_takeTape 3 none ∈ tt := tt_in (List.mem_of_getElem? (i := 431) (by decide +kernel)) (by decide +kernel)
theorem ti4_takeTape : Cond.instanceMethod yX4_takeTape ∈ tt := tt_in (List.mem_of_getElem? (i := 430) (by decide +kernel)) (by decide +kernel)
theorem te4_takeTape : Cond.selects RX4 yX4_takeTape yX4_takeTape ∈ tt := tt_in (List.mem_of_getElem? (i := 11) (by decide +kernel)) (by decide +kernel)
theorem k4_takeTape (hsf : sfOk (SF tk)) (X : hX p s m args meth c cc nL own rt D (tyC cI) (SF tk) A) {n : Nat} {x1 : Int32} {ix : Nat} (hlk : Cond.methodLink own ix yX4_takeTape ∈ tt) {rest : List Value} {K : Int32 → CS → Option (ρ × CS)} (hR : 1 + 1 ≤ fr ∧ 8 + (3 + 11) + 24 ≤ lo) (hcat : (rest.map fun v => v.category).sum ≤ 8) (d : decode cc pc = .ok (.invokevirtual ix, 3)) (kk : ∀ v S1, hG p l e (fun r => rmC fr lo (cS r.2 - cS S0) (sS r.2 - sS S0)) s m args below meth c nL (ZW D (wC cI q) A s.heap S0 S1) (cS S1 - cS S0) (sS S1 - sS S0) QQ (fun r => le S1 r.2) (pc + 3) lv rest (K v S1)) : hG p l e (fun r => rmC fr lo (cS r.2 - cS S0) (sS r.2 - sS S0)) s m args below meth c nL (ZW D (wC cI q) A s.heap S0 S) (cS S - cS S0) (sS S - sS S0) QQ (fun r => le S r.2) pc lv (.int x1 :: .ref (q 50) :: rest) (bnd (f4_takeTape n x1 S) K) := h_callVv (As := [.int x1]) (b := q 50) (C := RX4) hsf X (c4_takeTape hsf l D cI q n x1 S) (cwVC (k := 1) X.1.2.2.2.2.1 hlk ti4_takeTape te4_takeTape tc4_takeTape ini_4 (by decide +kernel) hR) (fun x H h1 h2 => va_recv h1 h2 (ci := 4) (q0 := 0) rfl rfl) rfl rfl hcat d kk
-- X4.noteRun
theorem tlX4_68 : Cond.methodLink RX4 68 yX2_size ∈ tt := tt_in (List.mem_of_getElem? (i := 294) (by decide +kernel)) (by decide +kernel)
theorem tlX4_95 : Cond.methodLink RX4 95 yX2_get ∈ tt := tt_in (List.mem_of_getElem? (i := 456) (by decide +kernel)) (by decide +kernel)
def f4_noteRun_l70 (n : Nat) : Nat → Int32 → Int32 → CS → Option (Int32 × CS)
  | 0, _, _, _ => none
  | k + 1, x1, x5, S => bT 2 S (f2_size n (tOf 2 S)) fun v1 S1 =>
    if v1 ≤ x5 then
      (some (0, S1))
    else
      (bT 2 S1 (f2_get n x5 (nI 0) (tOf 2 S1)) fun v2 S2 =>
      bT 5 S2 (f2_set n x1 ((nI 85) + x5) v2 (tOf 5 S2)) fun _ S3 =>
      bT 2 S3 (f2_get n x5 (nI 1) (tOf 2 S3)) fun v4 S4 =>
      bT 5 S4 (f2_set n x1 ((nI 105) + x5) v4 (tOf 5 S4)) fun _ S5 =>
      (f4_noteRun_l70 n k) x1 (x5 + (nI 1)) S5)
theorem mw4_noteRun_l70 (n : Nat) : ∀ (k : Nat) (x1 : Int32) (x5 : Int32) (S : CS), mo S (f4_noteRun_l70 n k x1 x5 S) := by
  intro k
  induction k with
  | zero =>
    intro x1 x5 S
    exact m_none
  | succ k ih =>
    intro x1 x5 S
    rw [f4_noteRun_l70]
    refine m_bT (mo2_size _ _) (fun v1 S1 => ?_)
    refine m_ite ?_ ?_
    · exact m_some
    · refine m_bT (mo2_get _ _ _ _) (fun v2 S2 => ?_)
      refine m_bT (mo2_set _ _ _ _ _) (fun v3 S3 => ?_)
      refine m_bT (mo2_get _ _ _ _) (fun v4 S4 => ?_)
      refine m_bT (mo2_set _ _ _ _ _) (fun v5 S5 => ?_)
      exact ih x1 (x5 + (nI 1)) S5
theorem w4_noteRun_l70 (hsf : sfOk (SF tk)) (X : hX p s m args meth c cX4_noteRun 6 RX4 none D (tyC cI) (SF tk) A) (n : Nat) : ∀ (k : Nat) (x1 : Int32) (x5 : Int32) (S : CS), hG p l e (fun r => rmC 1 24 (cS r.2 - cS S0) (sS r.2 - sS S0)) s m args below meth c 6 (ZW D (wC cI q) A s.heap S0 S) (cS S - cS S0) (sS S - sS S0) (fun r => MQ below (QWv D (tyC cI) (wC cI q) A r) args s (cS r.2 - cS S0) (sS r.2 - sS S0) A) (fun r => le S r.2) 70 [(0, .ref (q 50)), (1, .int x1), (4, .ref (q 105)), (5, .int x5)] [] (f4_noteRun_l70 n k x1 x5 S) := by
  intro k
  induction k with
  | zero =>
    intro x1 x5 S
    exact h_none
  | succ k ih =>
    intro x1 x5 S
    rw [f4_noteRun_l70]
    refine h_iload X dX4_noteRun_70 rfl ?_
    refine h_aload_n X dX4_noteRun_72 rfl rfl ?_
    refine c_g_B_worker X fl4_27 dX4_noteRun_73 ?_
    refine c_g_WK_written X fl4_224 dX4_noteRun_76 ?_
    refine kt2_size_2 hsf X tlX4_68 ⟨Nat.le_of_ble_eq_true rfl, Nat.le_of_ble_eq_true rfl⟩ (Nat.le_of_ble_eq_true rfl) dX4_noteRun_79 ?_
    intro v1 S1
    refine h_icmp_ge (tgt := 139) X dX4_noteRun_82 (by decide) ?_ ?_
    · exact h_vret X dX4_noteRun_139
    · refine h_aload X dX4_noteRun_85 rfl ?_
      refine h_iload_n X dX4_noteRun_87 rfl rfl ?_
      refine h_bipush (v := (nI 85)) X dX4_noteRun_88 (by decide) ?_
      refine h_iload X dX4_noteRun_90 rfl ?_
      refine h_iadd X dX4_noteRun_92 ?_
      refine h_aload_n X dX4_noteRun_93 rfl rfl ?_
      refine c_g_B_worker X fl4_27 dX4_noteRun_94 ?_
      refine c_g_WK_written X fl4_224 dX4_noteRun_97 ?_
      refine h_iload X dX4_noteRun_100 rfl ?_
      refine h_iconst (v := (nI 0)) X dX4_noteRun_102 (by decide) ?_
      refine kt2_get_2 hsf X tlX4_95 ⟨Nat.le_of_ble_eq_true rfl, Nat.le_of_ble_eq_true rfl⟩ (Nat.le_of_ble_eq_true rfl) dX4_noteRun_103 ?_
      intro v2 S2
      refine kt2_set_5 hsf X tlX4_194 ⟨Nat.le_of_ble_eq_true rfl, Nat.le_of_ble_eq_true rfl⟩ (Nat.le_of_ble_eq_true rfl) dX4_noteRun_106 ?_
      intro v3 S3
      refine h_aload X dX4_noteRun_109 rfl ?_
      refine h_iload_n X dX4_noteRun_111 rfl rfl ?_
      refine h_bipush (v := (nI 105)) X dX4_noteRun_112 (by decide) ?_
      refine h_iload X dX4_noteRun_114 rfl ?_
      refine h_iadd X dX4_noteRun_116 ?_
      refine h_aload_n X dX4_noteRun_117 rfl rfl ?_
      refine c_g_B_worker X fl4_27 dX4_noteRun_118 ?_
      refine c_g_WK_written X fl4_224 dX4_noteRun_121 ?_
      refine h_iload X dX4_noteRun_124 rfl ?_
      refine h_iconst (v := (nI 1)) X dX4_noteRun_126 (by decide) ?_
      refine kt2_get_2 hsf X tlX4_95 ⟨Nat.le_of_ble_eq_true rfl, Nat.le_of_ble_eq_true rfl⟩ (Nat.le_of_ble_eq_true rfl) dX4_noteRun_127 ?_
      intro v4 S4
      refine kt2_set_5 hsf X tlX4_194 ⟨Nat.le_of_ble_eq_true rfl, Nat.le_of_ble_eq_true rfl⟩ (Nat.le_of_ble_eq_true rfl) dX4_noteRun_130 ?_
      intro v5 S5
      refine h_iinc (v := (nI 1)) (lv' := [(5, .int (x5 + (nI 1))), (0, .ref (q 50)), (1, .int x1), (4, .ref (q 105))]) X dX4_noteRun_133 rfl (by decide) (by decide) rfl ?_
      refine h_goto (tgt := 70) X dX4_noteRun_136 (by decide) ?_
      exact h_pick [1, 2, 3, 0] rfl (ih x1 (x5 + (nI 1)) S5)
def f4_noteRun (n : Nat) (x1 : Int32) (x2 : Int32) (x3 : Int32) (S : CS) : Option (Int32 × CS) :=
    bT 5 S (f2_set n x1 (nI 0) x2 (tOf 5 S)) fun _ S1 =>
    cg S1 17 fun v2 =>
    bT 5 S1 (f2_set n x1 (nI 1) v2 (tOf 5 S1)) fun _ S3 =>
    cg S3 16 fun v4 =>
    bT 5 S3 (f2_set n x1 (nI 2) v4 (tOf 5 S3)) fun _ S5 =>
    cg S5 15 fun v6 =>
    bT 5 S5 (f2_set n x1 (nI 3) v6 (tOf 5 S5)) fun _ S7 =>
    bT 5 S7 (f2_set n x1 (nI 4) x3 (tOf 5 S7)) fun _ S8 =>
    f4_noteRun_l70 n n x1 (nI 0) S8
theorem w4_noteRun (hsf : sfOk (SF tk)) (X : hX p s m args meth c cX4_noteRun 6 RX4 none D (tyC cI) (SF tk) A) {S0 : CS} (n : Nat) (x1 : Int32) (x2 : Int32) (x3 : Int32) (S : CS) : hG p l e (fun r => rmC 1 24 (cS r.2 - cS S0) (sS r.2 - sS S0)) s m args below meth c 6 (ZW D (wC cI q) A s.heap S0 S) (cS S - cS S0) (sS S - sS S0) (fun r => MQ below (QWv D (tyC cI) (wC cI q) A r) args s (cS r.2 - cS S0) (sS r.2 - sS S0) A) (fun r => le S r.2) 0 [(0, .ref (q 50)), (1, .int x1), (2, .int x2), (3, .int x3)] [] (f4_noteRun n x1 x2 x3 S) := by
    unfold f4_noteRun
    refine h_aload_n X dX4_noteRun_0 rfl rfl ?_
    refine c_g_B_now X fl4_35 dX4_noteRun_1 ?_
    refine c_g_IM_cells X fl4_64 dX4_noteRun_4 ?_
    refine h_astore (lv' := [(4, .ref (q 105)), (0, .ref (q 50)), (1, .int x1), (2, .int x2), (3, .int x3)]) X dX4_noteRun_7 (by decide) rfl ?_
    refine h_aload X dX4_noteRun_9 rfl ?_
    refine h_iload_n X dX4_noteRun_11 rfl rfl ?_
    refine h_iconst (v := (nI 0)) X dX4_noteRun_12 (by decide) ?_
    refine h_iload_n X dX4_noteRun_13 rfl rfl ?_
    refine kt2_set_5 hsf X tlX4_194 ⟨Nat.le_of_ble_eq_true rfl, Nat.le_of_ble_eq_true rfl⟩ (Nat.le_of_ble_eq_true rfl) dX4_noteRun_14 ?_
    intro v1 S1
    refine h_aload X dX4_noteRun_17 rfl ?_
    refine h_iload_n X dX4_noteRun_19 rfl rfl ?_
    refine h_iconst (v := (nI 1)) X dX4_noteRun_20 (by decide) ?_
    refine h_aload_n X dX4_noteRun_21 rfl rfl ?_
    refine c_g_B_worker X fl4_27 dX4_noteRun_22 ?_
    refine c_g_WK_failure X fl4_167 dX4_noteRun_25 ?_
    intro v2
    refine kt2_set_5 hsf X tlX4_194 ⟨Nat.le_of_ble_eq_true rfl, Nat.le_of_ble_eq_true rfl⟩ (Nat.le_of_ble_eq_true rfl) dX4_noteRun_28 ?_
    intro v3 S3
    refine h_aload X dX4_noteRun_31 rfl ?_
    refine h_iload_n X dX4_noteRun_33 rfl rfl ?_
    refine h_iconst (v := (nI 2)) X dX4_noteRun_34 (by decide) ?_
    refine h_aload_n X dX4_noteRun_35 rfl rfl ?_
    refine c_g_B_worker X fl4_27 dX4_noteRun_36 ?_
    refine c_g_WK_steps X fl4_170 dX4_noteRun_39 ?_
    intro v4
    refine kt2_set_5 hsf X tlX4_194 ⟨Nat.le_of_ble_eq_true rfl, Nat.le_of_ble_eq_true rfl⟩ (Nat.le_of_ble_eq_true rfl) dX4_noteRun_42 ?_
    intro v5 S5
    refine h_aload X dX4_noteRun_45 rfl ?_
    refine h_iload_n X dX4_noteRun_47 rfl rfl ?_
    refine h_iconst (v := (nI 3)) X dX4_noteRun_48 (by decide) ?_
    refine h_aload_n X dX4_noteRun_49 rfl rfl ?_
    refine c_g_B_worker X fl4_27 dX4_noteRun_50 ?_
    refine c_g_WK_wrote X fl4_221 dX4_noteRun_53 ?_
    intro v6
    refine kt2_set_5 hsf X tlX4_194 ⟨Nat.le_of_ble_eq_true rfl, Nat.le_of_ble_eq_true rfl⟩ (Nat.le_of_ble_eq_true rfl) dX4_noteRun_56 ?_
    intro v7 S7
    refine h_aload X dX4_noteRun_59 rfl ?_
    refine h_iload_n X dX4_noteRun_61 rfl rfl ?_
    refine h_iconst (v := (nI 4)) X dX4_noteRun_62 (by decide) ?_
    refine h_iload_n X dX4_noteRun_63 rfl rfl ?_
    refine kt2_set_5 hsf X tlX4_194 ⟨Nat.le_of_ble_eq_true rfl, Nat.le_of_ble_eq_true rfl⟩ (Nat.le_of_ble_eq_true rfl) dX4_noteRun_64 ?_
    intro v8 S8
    refine h_iconst (v := (nI 0)) X dX4_noteRun_67 (by decide) ?_
    refine h_istore (lv' := [(5, .int (nI 0)), (4, .ref (q 105)), (0, .ref (q 50)), (1, .int x1), (2, .int x2), (3, .int x3)]) X dX4_noteRun_68 (by decide) rfl ?_
    exact h_pick [2, 3, 1, 0] rfl (w4_noteRun_l70 hsf X n n x1 (nI 0) S8)
theorem mo4_noteRun (n : Nat) (x1 : Int32) (x2 : Int32) (x3 : Int32) (S : CS) : mo S (f4_noteRun n x1 x2 x3 S) := by
    unfold f4_noteRun
    refine m_bT (mo2_set _ _ _ _ _) (fun v1 S1 => ?_)
    refine m_cg (fun v2 => ?_)
    refine m_bT (mo2_set _ _ _ _ _) (fun v3 S3 => ?_)
    refine m_cg (fun v4 => ?_)
    refine m_bT (mo2_set _ _ _ _ _) (fun v5 S5 => ?_)
    refine m_cg (fun v6 => ?_)
    refine m_bT (mo2_set _ _ _ _ _) (fun v7 S7 => ?_)
    refine m_bT (mo2_set _ _ _ _ _) (fun v8 S8 => ?_)
    exact mw4_noteRun_l70 n n x1 (nI 0) S8
theorem c4_noteRun (hsf : sfOk (SF tk)) (l : Launch) (D : va_G) (cI : ClassId) (q : Nat → Nat) (n : Nat) (x1 : Int32) (x2 : Int32) (x3 : Int32) (S : CS) : MetW l D (tyC cI) (SF tk) (wC cI q) yX4_noteRun cX4_noteRun 6 none 1 24 QWv [.ref (q 50), .int x1, .int x2, .int x3] S (f4_noteRun n x1 x2 x3 S) := by
  refine MetW.of (own := RX4) (by decide) rfl (Nat.le_of_ble_eq_true rfl) (mo4_noteRun n x1 x2 x3 S) ?_
  intro x p e s m args below meth c X
  refine h_pick (lv' := [(0, .ref (q 50)), (1, .int x1), (2, .int x2), (3, .int x3)]) [0, 1, 2, 3] rfl ?_
  exact h_close (w4_noteRun hsf X n x1 x2 x3 S)
theorem tc4_noteRun : Cond.code yX4_noteRun cX4_noteRun 6 none ∈ tt := tt_in (List.mem_of_getElem? (i := 606) (by decide +kernel)) (by decide +kernel)
theorem ti4_noteRun : Cond.instanceMethod yX4_noteRun ∈ tt := tt_in (List.mem_of_getElem? (i := 605) (by decide +kernel)) (by decide +kernel)
theorem te4_noteRun : Cond.selects RX4 yX4_noteRun yX4_noteRun ∈ tt := tt_in (List.mem_of_getElem? (i := 34) (by decide +kernel)) (by decide +kernel)
theorem k4_noteRun (hsf : sfOk (SF tk)) (X : hX p s m args meth c cc nL own rt D (tyC cI) (SF tk) A) {n : Nat} {x1 : Int32} {x2 : Int32} {x3 : Int32} {ix : Nat} (hlk : Cond.methodLink own ix yX4_noteRun ∈ tt) {rest : List Value} {K : Int32 → CS → Option (ρ × CS)} (hR : 1 + 1 ≤ fr ∧ 8 + (6 + 11) + 24 ≤ lo) (hcat : (rest.map fun v => v.category).sum ≤ 8) (d : decode cc pc = .ok (.invokevirtual ix, 3)) (kk : ∀ v S1, hG p l e (fun r => rmC fr lo (cS r.2 - cS S0) (sS r.2 - sS S0)) s m args below meth c nL (ZW D (wC cI q) A s.heap S0 S1) (cS S1 - cS S0) (sS S1 - sS S0) QQ (fun r => le S1 r.2) (pc + 3) lv rest (K v S1)) : hG p l e (fun r => rmC fr lo (cS r.2 - cS S0) (sS r.2 - sS S0)) s m args below meth c nL (ZW D (wC cI q) A s.heap S0 S) (cS S - cS S0) (sS S - sS S0) QQ (fun r => le S r.2) pc lv (.int x3 :: .int x2 :: .int x1 :: .ref (q 50) :: rest) (bnd (f4_noteRun n x1 x2 x3 S) K) := h_callVv (As := [.int x1, .int x2, .int x3]) (b := q 50) (C := RX4) hsf X (c4_noteRun hsf l D cI q n x1 x2 x3 S) (cwVC (k := 3) X.1.2.2.2.2.1 hlk ti4_noteRun te4_noteRun tc4_noteRun ini_4 (by decide +kernel) hR) (fun x H h1 h2 => va_recv h1 h2 (ci := 4) (q0 := 0) rfl rfl) rfl rfl hcat d kk
-- X4.runCell
theorem tlX4_218 : Cond.methodLink RX4 218 yX4_noteRun ∈ tt := tt_in (List.mem_of_getElem? (i := 603) (by decide +kernel)) (by decide +kernel)
def f4_runCell_b105 (n : Nat) (x1 : Int32) (x2 : Int32) (x3 : Int32) (S : CS) : Option (Int32 × CS) :=
    bnd (f4_noteRun n x1 x2 x3 S) fun _ S1 =>
    some (x2, S1)
theorem mw4_runCell_b105 (n : Nat) (x1 : Int32) (x2 : Int32) (x3 : Int32) (S : CS) : mo S (f4_runCell_b105 n x1 x2 x3 S) := by
  unfold f4_runCell_b105
  refine m_bnd (mo4_noteRun _ _ _ _ _) (fun v1 S1 => ?_)
  exact m_some
theorem w4_runCell_b105 (hsf : sfOk (SF tk)) (X : hX p s m args meth c cX4_runCell 4 RX4 (some .int) D (tyC cI) (SF tk) A) (n : Nat) (x1 : Int32) (x2 : Int32) (x3 : Int32) (S : CS) : hG p l e (fun r => rmC 7 166 (cS r.2 - cS S0) (sS r.2 - sS S0)) s m args below meth c 4 (ZW D (wC cI q) A s.heap S0 S) (cS S - cS S0) (sS S - sS S0) (fun r => MQ below (QWi D (tyC cI) (wC cI q) A r) args s (cS r.2 - cS S0) (sS r.2 - sS S0) A) (fun r => le S r.2) 105 [(0, .ref (q 50)), (1, .int x1), (2, .int x2), (3, .int x3)] [] (f4_runCell_b105 n x1 x2 x3 S) := by
  unfold f4_runCell_b105
  refine h_aload_n X dX4_runCell_105 rfl rfl ?_
  refine h_iload_n X dX4_runCell_106 rfl rfl ?_
  refine h_iload_n X dX4_runCell_107 rfl rfl ?_
  refine h_iload_n X dX4_runCell_108 rfl rfl ?_
  refine k4_noteRun hsf X tlX4_218 ⟨Nat.le_of_ble_eq_true rfl, Nat.le_of_ble_eq_true rfl⟩ (Nat.le_of_ble_eq_true rfl) dX4_runCell_109 ?_
  intro v1 S1
  refine h_iload_n X dX4_runCell_112 rfl rfl ?_
  exact h_iret X dX4_runCell_113
theorem tlX4_200 : Cond.methodLink RX4 200 yX0_noteLeans ∈ tt := tt_in (List.mem_of_getElem? (i := 437) (by decide +kernel)) (by decide +kernel)
theorem tlX4_203 : Cond.methodLink RX4 203 yX3_clear ∈ tt := tt_in (List.mem_of_getElem? (i := 451) (by decide +kernel)) (by decide +kernel)
theorem tlX4_210 : Cond.methodLink RX4 210 yX3_beginCell ∈ tt := tt_in (List.mem_of_getElem? (i := 470) (by decide +kernel)) (by decide +kernel)
theorem tlX4_158 : Cond.methodLink RX4 158 yX3_work ∈ tt := tt_in (List.mem_of_getElem? (i := 482) (by decide +kernel)) (by decide +kernel)
theorem tlX4_161 : Cond.methodLink RX4 161 yX3_lastKind ∈ tt := tt_in (List.mem_of_getElem? (i := 591) (by decide +kernel)) (by decide +kernel)
theorem tlX4_164 : Cond.methodLink RX4 164 yX3_lastNumber ∈ tt := tt_in (List.mem_of_getElem? (i := 595) (by decide +kernel)) (by decide +kernel)
theorem tlX4_214 : Cond.methodLink RX4 214 yX0_addValue ∈ tt := tt_in (List.mem_of_getElem? (i := 599) (by decide +kernel)) (by decide +kernel)
theorem tlX4_206 : Cond.methodLink RX4 206 yX0_addClass ∈ tt := tt_in (List.mem_of_getElem? (i := 457) (by decide +kernel)) (by decide +kernel)
def f4_runCell (n : Nat) (x1 : Int32) (S : CS) : Option (Int32 × CS) :=
    cg S 7 fun v1 =>
    bnd (f0_noteLeans n x1 v1 S) fun _ S2 =>
    bnd (f3_clear n S2) fun _ S3 =>
    bT 5 S3 (f2_get n x1 (nI 6) (tOf 5 S3)) fun v4 S4 =>
    if v4 = (nI 1) then
      (bnd (f0_addClass n x1 S4) fun v10 S10 =>
      f4_runCell_b105 n x1 (nI 0) v10 S10)
    else
      (bnd (f3_beginCell n S4) fun _ S5 =>
      bnd (f3_work n S5) fun v6 S6 =>
      if v6 = 0 then
        (bnd (f3_lastKind n S6) fun v7 S7 =>
        bnd (f3_lastNumber n S7) fun v8 S8 =>
        bnd (f0_addValue n x1 v7 v8 S8) fun v9 S9 =>
        f4_runCell_b105 n x1 v6 v9 S9)
      else
        (f4_runCell_b105 n x1 v6 (-1 : Int32) S6))
theorem w4_runCell (hsf : sfOk (SF tk)) (X : hX p s m args meth c cX4_runCell 4 RX4 (some .int) D (tyC cI) (SF tk) A) {S0 : CS} (n : Nat) (x1 : Int32) (S : CS) : hG p l e (fun r => rmC 7 166 (cS r.2 - cS S0) (sS r.2 - sS S0)) s m args below meth c 4 (ZW D (wC cI q) A s.heap S0 S) (cS S - cS S0) (sS S - sS S0) (fun r => MQ below (QWi D (tyC cI) (wC cI q) A r) args s (cS r.2 - cS S0) (sS r.2 - sS S0) A) (fun r => le S r.2) 0 [(0, .ref (q 50)), (1, .int x1)] [] (f4_runCell n x1 S) := by
    unfold f4_runCell
    refine h_aload_n X dX4_runCell_0 rfl rfl ?_
    refine c_g_B_now X fl4_35 dX4_runCell_1 ?_
    refine h_iload_n X dX4_runCell_4 rfl rfl ?_
    refine h_aload_n X dX4_runCell_5 rfl rfl ?_
    refine c_g_B_reader X fl4_20 dX4_runCell_6 ?_
    refine c_g_RD_used X fl4_197 dX4_runCell_9 ?_
    intro v1
    refine k0_noteLeans hsf X tlX4_200 ⟨Nat.le_of_ble_eq_true rfl, Nat.le_of_ble_eq_true rfl⟩ (Nat.le_of_ble_eq_true rfl) dX4_runCell_12 ?_
    intro v2 S2
    refine h_aload_n X dX4_runCell_15 rfl rfl ?_
    refine c_g_B_worker X fl4_27 dX4_runCell_16 ?_
    refine k3_clear hsf X tlX4_203 ⟨Nat.le_of_ble_eq_true rfl, Nat.le_of_ble_eq_true rfl⟩ (Nat.le_of_ble_eq_true rfl) dX4_runCell_19 ?_
    intro v3 S3
    refine h_iconst (v := (nI 0)) X dX4_runCell_22 (by decide) ?_
    refine h_istore_n (lv' := [(2, .int (nI 0)), (0, .ref (q 50)), (1, .int x1)]) X dX4_runCell_23 rfl (by decide) rfl ?_
    refine h_iconst (v := (-1 : Int32)) X dX4_runCell_24 (by decide) ?_
    refine h_istore_n (lv' := [(3, .int (-1 : Int32)), (2, .int (nI 0)), (0, .ref (q 50)), (1, .int x1)]) X dX4_runCell_25 rfl (by decide) rfl ?_
    refine h_aload_n X dX4_runCell_26 rfl rfl ?_
    refine c_g_B_now X fl4_35 dX4_runCell_27 ?_
    refine c_g_IM_cells X fl4_64 dX4_runCell_30 ?_
    refine h_iload_n X dX4_runCell_33 rfl rfl ?_
    refine h_bipush (v := (nI 6)) X dX4_runCell_34 (by decide) ?_
    refine kt2_get_5 hsf X tlX4_95 ⟨Nat.le_of_ble_eq_true rfl, Nat.le_of_ble_eq_true rfl⟩ (Nat.le_of_ble_eq_true rfl) dX4_runCell_36 ?_
    intro v4 S4
    refine h_iconst (v := (nI 1)) X dX4_runCell_39 (by decide) ?_
    refine h_icmp_ne (tgt := 59) X dX4_runCell_40 (by decide) ?_ ?_
    · refine h_aload_n X dX4_runCell_59 rfl rfl ?_
      refine c_g_B_worker X fl4_27 dX4_runCell_60 ?_
      refine h_aload_n X dX4_runCell_63 rfl rfl ?_
      refine c_g_B_reader X fl4_20 dX4_runCell_64 ?_
      refine k3_beginCell hsf X tlX4_210 ⟨Nat.le_of_ble_eq_true rfl, Nat.le_of_ble_eq_true rfl⟩ (Nat.le_of_ble_eq_true rfl) dX4_runCell_67 ?_
      intro v5 S5
      refine h_aload_n X dX4_runCell_70 rfl rfl ?_
      refine c_g_B_worker X fl4_27 dX4_runCell_71 ?_
      refine k3_work hsf X tlX4_158 ⟨Nat.le_of_ble_eq_true rfl, Nat.le_of_ble_eq_true rfl⟩ (Nat.le_of_ble_eq_true rfl) dX4_runCell_74 ?_
      intro v6 S6
      refine h_istore_n (lv' := [(2, .int v6), (3, .int (-1 : Int32)), (0, .ref (q 50)), (1, .int x1)]) X dX4_runCell_77 rfl (by decide) rfl ?_
      refine h_iload_n X dX4_runCell_78 rfl rfl ?_
      refine h_if_ne (tgt := 105) X dX4_runCell_79 (by decide) ?_ ?_
      · exact h_pick [2, 3, 0, 1] rfl (w4_runCell_b105 hsf X n x1 v6 (-1 : Int32) S6)
      · refine h_aload_n X dX4_runCell_82 rfl rfl ?_
        refine c_g_B_now X fl4_35 dX4_runCell_83 ?_
        refine h_iload_n X dX4_runCell_86 rfl rfl ?_
        refine h_aload_n X dX4_runCell_87 rfl rfl ?_
        refine c_g_B_worker X fl4_27 dX4_runCell_88 ?_
        refine k3_lastKind hsf X tlX4_161 ⟨Nat.le_of_ble_eq_true rfl, Nat.le_of_ble_eq_true rfl⟩ (Nat.le_of_ble_eq_true rfl) dX4_runCell_91 ?_
        intro v7 S7
        refine h_aload_n X dX4_runCell_94 rfl rfl ?_
        refine c_g_B_worker X fl4_27 dX4_runCell_95 ?_
        refine k3_lastNumber hsf X tlX4_164 ⟨Nat.le_of_ble_eq_true rfl, Nat.le_of_ble_eq_true rfl⟩ (Nat.le_of_ble_eq_true rfl) dX4_runCell_98 ?_
        intro v8 S8
        refine k0_addValue hsf X tlX4_214 ⟨Nat.le_of_ble_eq_true rfl, Nat.le_of_ble_eq_true rfl⟩ (Nat.le_of_ble_eq_true rfl) dX4_runCell_101 ?_
        intro v9 S9
        refine h_istore_n (lv' := [(3, .int v9), (2, .int v6), (0, .ref (q 50)), (1, .int x1)]) X dX4_runCell_104 rfl (by decide) rfl ?_
        exact h_pick [2, 3, 1, 0] rfl (w4_runCell_b105 hsf X n x1 v6 v9 S9)
    · refine h_aload_n X dX4_runCell_43 rfl rfl ?_
      refine c_g_B_now X fl4_35 dX4_runCell_44 ?_
      refine h_iload_n X dX4_runCell_47 rfl rfl ?_
      refine h_aload_n X dX4_runCell_48 rfl rfl ?_
      refine c_g_B_reader X fl4_20 dX4_runCell_49 ?_
      refine k0_addClass hsf X tlX4_206 ⟨Nat.le_of_ble_eq_true rfl, Nat.le_of_ble_eq_true rfl⟩ (Nat.le_of_ble_eq_true rfl) dX4_runCell_52 ?_
      intro v10 S10
      refine h_istore_n (lv' := [(3, .int v10), (2, .int (nI 0)), (0, .ref (q 50)), (1, .int x1)]) X dX4_runCell_55 rfl (by decide) rfl ?_
      refine h_goto (tgt := 105) X dX4_runCell_56 (by decide) ?_
      exact h_pick [2, 3, 1, 0] rfl (w4_runCell_b105 hsf X n x1 (nI 0) v10 S10)
theorem mo4_runCell (n : Nat) (x1 : Int32) (S : CS) : mo S (f4_runCell n x1 S) := by
    unfold f4_runCell
    refine m_cg (fun v1 => ?_)
    refine m_bnd (mo0_noteLeans _ _ _ _) (fun v2 S2 => ?_)
    refine m_bnd (mo3_clear _ _) (fun v3 S3 => ?_)
    refine m_bT (mo2_get _ _ _ _) (fun v4 S4 => ?_)
    refine m_ite ?_ ?_
    · refine m_bnd (mo0_addClass _ _ _) (fun v10 S10 => ?_)
      exact mw4_runCell_b105 n x1 (nI 0) v10 S10
    · refine m_bnd (mo3_beginCell _ _) (fun v5 S5 => ?_)
      refine m_bnd (mo3_work _ _) (fun v6 S6 => ?_)
      refine m_ite ?_ ?_
      · refine m_bnd (mo3_lastKind _ _) (fun v7 S7 => ?_)
        refine m_bnd (mo3_lastNumber _ _) (fun v8 S8 => ?_)
        refine m_bnd (mo0_addValue _ _ _ _ _) (fun v9 S9 => ?_)
        exact mw4_runCell_b105 n x1 v6 v9 S9
      · exact mw4_runCell_b105 n x1 v6 (-1 : Int32) S6
theorem c4_runCell (hsf : sfOk (SF tk)) (l : Launch) (D : va_G) (cI : ClassId) (q : Nat → Nat) (n : Nat) (x1 : Int32) (S : CS) : MetW l D (tyC cI) (SF tk) (wC cI q) yX4_runCell cX4_runCell 4 (some .int) 7 166 QWi [.ref (q 50), .int x1] S (f4_runCell n x1 S) := by
  refine MetW.of (own := RX4) (by decide) rfl (Nat.le_of_ble_eq_true rfl) (mo4_runCell n x1 S) ?_
  intro x p e s m args below meth c X
  refine h_pick (lv' := [(0, .ref (q 50)), (1, .int x1)]) [0, 1] rfl ?_
  exact h_close (w4_runCell hsf X n x1 S)
theorem tc4_runCell : Cond.code yX4_runCell cX4_runCell 4 (some .int) ∈ tt := tt_in (List.mem_of_getElem? (i := 436) (by decide +kernel)) (by decide +kernel)
theorem ti4_runCell : Cond.instanceMethod yX4_runCell ∈ tt := tt_in (List.mem_of_getElem? (i := 435) (by decide +kernel)) (by decide +kernel)
theorem te4_runCell : Cond.selects RX4 yX4_runCell yX4_runCell ∈ tt := tt_in (List.mem_of_getElem? (i := 12) (by decide +kernel)) (by decide +kernel)
theorem k4_runCell (hsf : sfOk (SF tk)) (X : hX p s m args meth c cc nL own rt D (tyC cI) (SF tk) A) {n : Nat} {x1 : Int32} {ix : Nat} (hlk : Cond.methodLink own ix yX4_runCell ∈ tt) {rest : List Value} {K : Int32 → CS → Option (ρ × CS)} (hR : 7 + 1 ≤ fr ∧ 8 + (4 + 11) + 166 ≤ lo) (hcat : (rest.map fun v => v.category).sum ≤ 8) (d : decode cc pc = .ok (.invokevirtual ix, 3)) (kk : ∀ v S1, hG p l e (fun r => rmC fr lo (cS r.2 - cS S0) (sS r.2 - sS S0)) s m args below meth c nL (ZW D (wC cI q) A s.heap S0 S1) (cS S1 - cS S0) (sS S1 - sS S0) QQ (fun r => le S1 r.2) (pc + 3) lv (.int v :: rest) (K v S1)) : hG p l e (fun r => rmC fr lo (cS r.2 - cS S0) (sS r.2 - sS S0)) s m args below meth c nL (ZW D (wC cI q) A s.heap S0 S) (cS S - cS S0) (sS S - sS S0) QQ (fun r => le S r.2) pc lv (.int x1 :: .ref (q 50) :: rest) (bnd (f4_runCell n x1 S) K) := h_callVi (As := [.int x1]) (b := q 50) (C := RX4) hsf X (c4_runCell hsf l D cI q n x1 S) (cwVC (k := 1) X.1.2.2.2.2.1 hlk ti4_runCell te4_runCell tc4_runCell ini_4 (by decide +kernel) hR) (fun x H h1 h2 => va_recv h1 h2 (ci := 4) (q0 := 0) rfl rfl) rfl rfl hcat d kk
-- X4.cell
theorem tlX4_74 : Cond.methodLink RX4 74 yX0_isFullOfEditions ∈ tt := tt_in (List.mem_of_getElem? (i := 298) (by decide +kernel)) (by decide +kernel)
theorem tlX4_78 : Cond.methodLink RX4 78 yX4_faultOfTape ∈ tt := tt_in (List.mem_of_getElem? (i := 303) (by decide +kernel)) (by decide +kernel)
theorem tlX4_82 : Cond.methodLink RX4 82 yX0_addCell ∈ tt := tt_in (List.mem_of_getElem? (i := 422) (by decide +kernel)) (by decide +kernel)
theorem tlX4_86 : Cond.methodLink RX4 86 yX4_takeTape ∈ tt := tt_in (List.mem_of_getElem? (i := 428) (by decide +kernel)) (by decide +kernel)
theorem tlX4_89 : Cond.methodLink RX4 89 yX4_runCell ∈ tt := tt_in (List.mem_of_getElem? (i := 433) (by decide +kernel)) (by decide +kernel)
def f4_cell_b18 (n : Nat) (x1 : Int32) (x2 : Int32) (S : CS) : Option (Int32 × CS) :=
    bT 5 S (f2_size n (tOf 5 S)) fun v1 S1 =>
    if (nI 40) ≤ v1 then
      (some ((-2 : Int32), S1))
    else
      (bnd (f0_isFullOfEditions n S1) fun v2 S2 =>
      if v2 = 0 then
        (bnd (f4_faultOfTape n x2 S2) fun v3 S3 =>
        if v3 = (-1 : Int32) then
          (bnd (f0_addCell n x1 x2 S3) fun v4 S4 =>
          bnd (f4_takeTape n v4 S4) fun _ S5 =>
          bnd (f4_runCell n v4 S5) fun v6 S6 =>
          some (v4, S6))
        else
          (some (((-100 : Int32) - v3), S3)))
      else
        (some ((-2 : Int32), S2)))
theorem mw4_cell_b18 (n : Nat) (x1 : Int32) (x2 : Int32) (S : CS) : mo S (f4_cell_b18 n x1 x2 S) := by
  unfold f4_cell_b18
  refine m_bT (mo2_size _ _) (fun v1 S1 => ?_)
  refine m_ite ?_ ?_
  · exact m_some
  · refine m_bnd (mo0_isFullOfEditions _ _) (fun v2 S2 => ?_)
    refine m_ite ?_ ?_
    · refine m_bnd (mo4_faultOfTape _ _ _) (fun v3 S3 => ?_)
      refine m_ite ?_ ?_
      · refine m_bnd (mo0_addCell _ _ _ _) (fun v4 S4 => ?_)
        refine m_bnd (mo4_takeTape _ _ _) (fun v5 S5 => ?_)
        refine m_bnd (mo4_runCell _ _ _) (fun v6 S6 => ?_)
        exact m_some
      · exact m_some
    · exact m_some
theorem w4_cell_b18 (hsf : sfOk (SF tk)) (X : hX p s m args meth c cX4_cell 5 RX4 (some .int) D (tyC cI) (SF tk) A) (n : Nat) (x1 : Int32) (x2 : Int32) (S : CS) : hG p l e (fun r => rmC 8 189 (cS r.2 - cS S0) (sS r.2 - sS S0)) s m args below meth c 5 (ZW D (wC cI q) A s.heap S0 S) (cS S - cS S0) (sS S - sS S0) (fun r => MQ below (QWi D (tyC cI) (wC cI q) A r) args s (cS r.2 - cS S0) (sS r.2 - sS S0) A) (fun r => le S r.2) 18 [(0, .ref (q 50)), (1, .int x1), (2, .int x2)] [] (f4_cell_b18 n x1 x2 S) := by
  unfold f4_cell_b18
  refine h_aload_n X dX4_cell_18 rfl rfl ?_
  refine c_g_B_now X fl4_35 dX4_cell_19 ?_
  refine c_g_IM_cells X fl4_64 dX4_cell_22 ?_
  refine kt2_size_5 hsf X tlX4_68 ⟨Nat.le_of_ble_eq_true rfl, Nat.le_of_ble_eq_true rfl⟩ (Nat.le_of_ble_eq_true rfl) dX4_cell_25 ?_
  intro v1 S1
  refine h_bipush (v := (nI 40)) X dX4_cell_28 (by decide) ?_
  refine h_icmp_ge (tgt := 43) X dX4_cell_30 (by decide) ?_ ?_
  · refine h_bipush (v := (-2 : Int32)) X dX4_cell_43 (by decide) ?_
    exact h_iret X dX4_cell_45
  · refine h_aload_n X dX4_cell_33 rfl rfl ?_
    refine c_g_B_now X fl4_35 dX4_cell_34 ?_
    refine k0_isFullOfEditions hsf X tlX4_74 ⟨Nat.le_of_ble_eq_true rfl, Nat.le_of_ble_eq_true rfl⟩ (Nat.le_of_ble_eq_true rfl) dX4_cell_37 ?_
    intro v2 S2
    refine h_if_eq (tgt := 46) X dX4_cell_40 (by decide) ?_ ?_
    · refine h_aload_n X dX4_cell_46 rfl rfl ?_
      refine h_iload_n X dX4_cell_47 rfl rfl ?_
      refine k4_faultOfTape hsf X tlX4_78 ⟨Nat.le_of_ble_eq_true rfl, Nat.le_of_ble_eq_true rfl⟩ (Nat.le_of_ble_eq_true rfl) dX4_cell_48 ?_
      intro v3 S3
      refine h_istore_n (lv' := [(3, .int v3), (0, .ref (q 50)), (1, .int x1), (2, .int x2)]) X dX4_cell_51 rfl (by decide) rfl ?_
      refine h_iload_n X dX4_cell_52 rfl rfl ?_
      refine h_iconst (v := (-1 : Int32)) X dX4_cell_53 (by decide) ?_
      refine h_icmp_eq (tgt := 62) X dX4_cell_54 (by decide) ?_ ?_
      · refine h_aload_n X dX4_cell_62 rfl rfl ?_
        refine c_g_B_now X fl4_35 dX4_cell_63 ?_
        refine h_iload_n X dX4_cell_66 rfl rfl ?_
        refine h_iload_n X dX4_cell_67 rfl rfl ?_
        refine k0_addCell hsf X tlX4_82 ⟨Nat.le_of_ble_eq_true rfl, Nat.le_of_ble_eq_true rfl⟩ (Nat.le_of_ble_eq_true rfl) dX4_cell_68 ?_
        intro v4 S4
        refine h_istore (lv' := [(4, .int v4), (3, .int v3), (0, .ref (q 50)), (1, .int x1), (2, .int x2)]) X dX4_cell_71 (by decide) rfl ?_
        refine h_aload_n X dX4_cell_73 rfl rfl ?_
        refine h_iload X dX4_cell_74 rfl ?_
        refine k4_takeTape hsf X tlX4_86 ⟨Nat.le_of_ble_eq_true rfl, Nat.le_of_ble_eq_true rfl⟩ (Nat.le_of_ble_eq_true rfl) dX4_cell_76 ?_
        intro v5 S5
        refine h_aload_n X dX4_cell_79 rfl rfl ?_
        refine h_iload X dX4_cell_80 rfl ?_
        refine k4_runCell hsf X tlX4_89 ⟨Nat.le_of_ble_eq_true rfl, Nat.le_of_ble_eq_true rfl⟩ (Nat.le_of_ble_eq_true rfl) dX4_cell_82 ?_
        intro v6 S6
        refine h_pop X dX4_cell_85 rfl ?_
        refine h_iload X dX4_cell_86 rfl ?_
        exact h_iret X dX4_cell_88
      · refine h_bipush (v := (-100 : Int32)) X dX4_cell_57 (by decide) ?_
        refine h_iload_n X dX4_cell_59 rfl rfl ?_
        refine h_isub X dX4_cell_60 ?_
        exact h_iret X dX4_cell_61
    · refine h_bipush (v := (-2 : Int32)) X dX4_cell_43 (by decide) ?_
      exact h_iret X dX4_cell_45
theorem tlX4_60 : Cond.methodLink RX4 60 yX4_isName ∈ tt := tt_in (List.mem_of_getElem? (i := 291) (by decide +kernel)) (by decide +kernel)
def f4_cell (n : Nat) (x1 : Int32) (x2 : Int32) (S : CS) : Option (Int32 × CS) :=
    bnd (f4_isName n x1 S) fun v1 S1 =>
    if v1 = 0 then
      (some ((-1 : Int32), S1))
    else
      (if x2 = 0 then
        (f4_cell_b18 n x1 x2 S1)
      else
        (if x2 = (nI 1) then (f4_cell_b18 n x1 x2 S1) else (some ((-1 : Int32), S1))))
theorem w4_cell (hsf : sfOk (SF tk)) (X : hX p s m args meth c cX4_cell 5 RX4 (some .int) D (tyC cI) (SF tk) A) {S0 : CS} (n : Nat) (x1 : Int32) (x2 : Int32) (S : CS) : hG p l e (fun r => rmC 8 189 (cS r.2 - cS S0) (sS r.2 - sS S0)) s m args below meth c 5 (ZW D (wC cI q) A s.heap S0 S) (cS S - cS S0) (sS S - sS S0) (fun r => MQ below (QWi D (tyC cI) (wC cI q) A r) args s (cS r.2 - cS S0) (sS r.2 - sS S0) A) (fun r => le S r.2) 0 [(0, .ref (q 50)), (1, .int x1), (2, .int x2)] [] (f4_cell n x1 x2 S) := by
    unfold f4_cell
    refine h_iload_n X dX4_cell_0 rfl rfl ?_
    refine k4_isName hsf X tlX4_60 ⟨Nat.le_of_ble_eq_true rfl, Nat.le_of_ble_eq_true rfl⟩ (Nat.le_of_ble_eq_true rfl) dX4_cell_1 ?_
    intro v1 S1
    refine h_if_eq (tgt := 16) X dX4_cell_4 (by decide) ?_ ?_
    · refine h_iconst (v := (-1 : Int32)) X dX4_cell_16 (by decide) ?_
      exact h_iret X dX4_cell_17
    · refine h_iload_n X dX4_cell_7 rfl rfl ?_
      refine h_if_eq (tgt := 18) X dX4_cell_8 (by decide) ?_ ?_
      · exact h_pick [0, 1, 2] rfl (w4_cell_b18 hsf X n x1 x2 S1)
      · refine h_iload_n X dX4_cell_11 rfl rfl ?_
        refine h_iconst (v := (nI 1)) X dX4_cell_12 (by decide) ?_
        refine h_icmp_eq (tgt := 18) X dX4_cell_13 (by decide) ?_ ?_
        · exact h_pick [0, 1, 2] rfl (w4_cell_b18 hsf X n x1 x2 S1)
        · refine h_iconst (v := (-1 : Int32)) X dX4_cell_16 (by decide) ?_
          exact h_iret X dX4_cell_17
theorem mo4_cell (n : Nat) (x1 : Int32) (x2 : Int32) (S : CS) : mo S (f4_cell n x1 x2 S) := by
    unfold f4_cell
    refine m_bnd (mo4_isName _ _ _) (fun v1 S1 => ?_)
    refine m_ite ?_ ?_
    · exact m_some
    · refine m_ite ?_ ?_
      · exact mw4_cell_b18 n x1 x2 S1
      · refine m_ite ?_ ?_
        · exact mw4_cell_b18 n x1 x2 S1
        · exact m_some
theorem c4_cell (hsf : sfOk (SF tk)) (l : Launch) (D : va_G) (cI : ClassId) (q : Nat → Nat) (n : Nat) (x1 : Int32) (x2 : Int32) (S : CS) : MetW l D (tyC cI) (SF tk) (wC cI q) yX4_cell cX4_cell 5 (some .int) 8 189 QWi [.ref (q 50), .int x1, .int x2] S (f4_cell n x1 x2 S) := by
  refine MetW.of (own := RX4) (by decide) rfl (Nat.le_of_ble_eq_true rfl) (mo4_cell n x1 x2 S) ?_
  intro x p e s m args below meth c X
  refine h_pick (lv' := [(0, .ref (q 50)), (1, .int x1), (2, .int x2)]) [0, 1, 2] rfl ?_
  exact h_close (w4_cell hsf X n x1 x2 S)
-- X4.redo
theorem tlX4_92 : Cond.methodLink RX4 92 yX2_has ∈ tt := tt_in (List.mem_of_getElem? (i := 611) (by decide +kernel)) (by decide +kernel)
def f4_redo (n : Nat) (x1 : Int32) (S : CS) : Option (Int32 × CS) :=
    bT 5 S (f2_has n x1 (tOf 5 S)) fun v1 S1 =>
    if v1 = 0 then
      (some ((-1 : Int32), S1))
    else
      (bnd (f0_isFullOfEditions n S1) fun v2 S2 =>
      if v2 = 0 then
        (bT 5 S2 (f2_get n x1 (nI 6) (tOf 5 S2)) fun v3 S3 =>
        bnd (f4_faultOfTape n v3 S3) fun v4 S4 =>
        if v4 = (-1 : Int32) then
          (bnd (f4_takeTape n x1 S4) fun _ S5 =>
          bnd (f4_runCell n x1 S5) fun v6 S6 =>
          some (v6, S6))
        else
          (some (((-100 : Int32) - v4), S4)))
      else
        (some ((-2 : Int32), S2)))
theorem w4_redo (hsf : sfOk (SF tk)) (X : hX p s m args meth c cX4_redo 3 RX4 (some .int) D (tyC cI) (SF tk) A) {S0 : CS} (n : Nat) (x1 : Int32) (S : CS) : hG p l e (fun r => rmC 8 189 (cS r.2 - cS S0) (sS r.2 - sS S0)) s m args below meth c 3 (ZW D (wC cI q) A s.heap S0 S) (cS S - cS S0) (sS S - sS S0) (fun r => MQ below (QWi D (tyC cI) (wC cI q) A r) args s (cS r.2 - cS S0) (sS r.2 - sS S0) A) (fun r => le S r.2) 0 [(0, .ref (q 50)), (1, .int x1)] [] (f4_redo n x1 S) := by
    unfold f4_redo
    refine h_aload_n X dX4_redo_0 rfl rfl ?_
    refine c_g_B_now X fl4_35 dX4_redo_1 ?_
    refine c_g_IM_cells X fl4_64 dX4_redo_4 ?_
    refine h_iload_n X dX4_redo_7 rfl rfl ?_
    refine kt2_has_5 hsf X tlX4_92 ⟨Nat.le_of_ble_eq_true rfl, Nat.le_of_ble_eq_true rfl⟩ (Nat.le_of_ble_eq_true rfl) dX4_redo_8 ?_
    intro v1 S1
    refine h_if_ne (tgt := 16) X dX4_redo_11 (by decide) ?_ ?_
    · refine h_aload_n X dX4_redo_16 rfl rfl ?_
      refine c_g_B_now X fl4_35 dX4_redo_17 ?_
      refine k0_isFullOfEditions hsf X tlX4_74 ⟨Nat.le_of_ble_eq_true rfl, Nat.le_of_ble_eq_true rfl⟩ (Nat.le_of_ble_eq_true rfl) dX4_redo_20 ?_
      intro v2 S2
      refine h_if_eq (tgt := 29) X dX4_redo_23 (by decide) ?_ ?_
      · refine h_aload_n X dX4_redo_29 rfl rfl ?_
        refine h_aload_n X dX4_redo_30 rfl rfl ?_
        refine c_g_B_now X fl4_35 dX4_redo_31 ?_
        refine c_g_IM_cells X fl4_64 dX4_redo_34 ?_
        refine h_iload_n X dX4_redo_37 rfl rfl ?_
        refine h_bipush (v := (nI 6)) X dX4_redo_38 (by decide) ?_
        refine kt2_get_5 hsf X tlX4_95 ⟨Nat.le_of_ble_eq_true rfl, Nat.le_of_ble_eq_true rfl⟩ (Nat.le_of_ble_eq_true rfl) dX4_redo_40 ?_
        intro v3 S3
        refine k4_faultOfTape hsf X tlX4_78 ⟨Nat.le_of_ble_eq_true rfl, Nat.le_of_ble_eq_true rfl⟩ (Nat.le_of_ble_eq_true rfl) dX4_redo_43 ?_
        intro v4 S4
        refine h_istore_n (lv' := [(2, .int v4), (0, .ref (q 50)), (1, .int x1)]) X dX4_redo_46 rfl (by decide) rfl ?_
        refine h_iload_n X dX4_redo_47 rfl rfl ?_
        refine h_iconst (v := (-1 : Int32)) X dX4_redo_48 (by decide) ?_
        refine h_icmp_eq (tgt := 57) X dX4_redo_49 (by decide) ?_ ?_
        · refine h_aload_n X dX4_redo_57 rfl rfl ?_
          refine h_iload_n X dX4_redo_58 rfl rfl ?_
          refine k4_takeTape hsf X tlX4_86 ⟨Nat.le_of_ble_eq_true rfl, Nat.le_of_ble_eq_true rfl⟩ (Nat.le_of_ble_eq_true rfl) dX4_redo_59 ?_
          intro v5 S5
          refine h_aload_n X dX4_redo_62 rfl rfl ?_
          refine h_iload_n X dX4_redo_63 rfl rfl ?_
          refine k4_runCell hsf X tlX4_89 ⟨Nat.le_of_ble_eq_true rfl, Nat.le_of_ble_eq_true rfl⟩ (Nat.le_of_ble_eq_true rfl) dX4_redo_64 ?_
          intro v6 S6
          exact h_iret X dX4_redo_67
        · refine h_bipush (v := (-100 : Int32)) X dX4_redo_52 (by decide) ?_
          refine h_iload_n X dX4_redo_54 rfl rfl ?_
          refine h_isub X dX4_redo_55 ?_
          exact h_iret X dX4_redo_56
      · refine h_bipush (v := (-2 : Int32)) X dX4_redo_26 (by decide) ?_
        exact h_iret X dX4_redo_28
    · refine h_iconst (v := (-1 : Int32)) X dX4_redo_14 (by decide) ?_
      exact h_iret X dX4_redo_15
theorem mo4_redo (n : Nat) (x1 : Int32) (S : CS) : mo S (f4_redo n x1 S) := by
    unfold f4_redo
    refine m_bT (mo2_has _ _ _) (fun v1 S1 => ?_)
    refine m_ite ?_ ?_
    · exact m_some
    · refine m_bnd (mo0_isFullOfEditions _ _) (fun v2 S2 => ?_)
      refine m_ite ?_ ?_
      · refine m_bT (mo2_get _ _ _ _) (fun v3 S3 => ?_)
        refine m_bnd (mo4_faultOfTape _ _ _) (fun v4 S4 => ?_)
        refine m_ite ?_ ?_
        · refine m_bnd (mo4_takeTape _ _ _) (fun v5 S5 => ?_)
          refine m_bnd (mo4_runCell _ _ _) (fun v6 S6 => ?_)
          exact m_some
        · exact m_some
      · exact m_some
theorem c4_redo (hsf : sfOk (SF tk)) (l : Launch) (D : va_G) (cI : ClassId) (q : Nat → Nat) (n : Nat) (x1 : Int32) (S : CS) : MetW l D (tyC cI) (SF tk) (wC cI q) yX4_redo cX4_redo 3 (some .int) 8 189 QWi [.ref (q 50), .int x1] S (f4_redo n x1 S) := by
  refine MetW.of (own := RX4) (by decide) rfl (Nat.le_of_ble_eq_true rfl) (mo4_redo n x1 S) ?_
  intro x p e s m args below meth c X
  refine h_pick (lv' := [(0, .ref (q 50)), (1, .int x1)]) [0, 1] rfl ?_
  exact h_close (w4_redo hsf X n x1 S)
-- X4.faultOfCell
def f4_faultOfCell_b66 (n : Nat) (x1 : Int32) (S : CS) : Option (Int32 × CS) :=
    bT 5 S (f2_get n x1 (nI 6) (tOf 5 S)) fun v1 S1 =>
    bnd (f1_findFault n v1 S1) fun v2 S2 =>
    some (v2, S2)
theorem mw4_faultOfCell_b66 (n : Nat) (x1 : Int32) (S : CS) : mo S (f4_faultOfCell_b66 n x1 S) := by
  unfold f4_faultOfCell_b66
  refine m_bT (mo2_get _ _ _ _) (fun v1 S1 => ?_)
  refine m_bnd (mo1_findFault _ _ _) (fun v2 S2 => ?_)
  exact m_some
theorem w4_faultOfCell_b66 (hsf : sfOk (SF tk)) (X : hX p s m args meth c cX4_faultOfCell 4 RX4 (some .int) D (tyC cI) (SF tk) A) (n : Nat) (x1 : Int32) (S : CS) : hG p l e (fun r => rmC 6 139 (cS r.2 - cS S0) (sS r.2 - sS S0)) s m args below meth c 4 (ZW D (wC cI q) A s.heap S0 S) (cS S - cS S0) (sS S - sS S0) (fun r => MQ below (QWi D (tyC cI) (wC cI q) A r) args s (cS r.2 - cS S0) (sS r.2 - sS S0) A) (fun r => le S r.2) 66 [(0, .ref (q 50)), (1, .int x1)] [] (f4_faultOfCell_b66 n x1 S) := by
  unfold f4_faultOfCell_b66
  refine h_aload_n X dX4_faultOfCell_66 rfl rfl ?_
  refine c_g_B_reader X fl4_20 dX4_faultOfCell_67 ?_
  refine h_aload_n X dX4_faultOfCell_70 rfl rfl ?_
  refine c_g_B_now X fl4_35 dX4_faultOfCell_71 ?_
  refine c_g_IM_cells X fl4_64 dX4_faultOfCell_74 ?_
  refine h_iload_n X dX4_faultOfCell_77 rfl rfl ?_
  refine h_bipush (v := (nI 6)) X dX4_faultOfCell_78 (by decide) ?_
  refine kt2_get_5 hsf X tlX4_95 ⟨Nat.le_of_ble_eq_true rfl, Nat.le_of_ble_eq_true rfl⟩ (Nat.le_of_ble_eq_true rfl) dX4_faultOfCell_80 ?_
  intro v1 S1
  refine k1_findFault hsf X tlX4_191 ⟨Nat.le_of_ble_eq_true rfl, Nat.le_of_ble_eq_true rfl⟩ (Nat.le_of_ble_eq_true rfl) dX4_faultOfCell_83 ?_
  intro v2 S2
  exact h_iret X dX4_faultOfCell_86
def f4_faultOfCell_l27 (n : Nat) : Nat → Int32 → Int32 → Int32 → CS → Option (Int32 × CS)
  | 0, _, _, _, _ => none
  | k + 1, x1, x2, x3, S => if x2 ≤ x3 then
      (f4_faultOfCell_b66 n x1 S)
    else
      (if (nI 60) ≤ x3 then
        (f4_faultOfCell_b66 n x1 S)
      else
        (bT 5 S (f2_get n x1 ((nI 9) + x3) (tOf 5 S)) fun v1 S1 =>
        bnd (f1_addInt n v1 S1) fun _ S2 =>
        (f4_faultOfCell_l27 n k) x1 x2 (x3 + (nI 1)) S2))
theorem mw4_faultOfCell_l27 (n : Nat) : ∀ (k : Nat) (x1 : Int32) (x2 : Int32) (x3 : Int32) (S : CS), mo S (f4_faultOfCell_l27 n k x1 x2 x3 S) := by
  intro k
  induction k with
  | zero =>
    intro x1 x2 x3 S
    exact m_none
  | succ k ih =>
    intro x1 x2 x3 S
    rw [f4_faultOfCell_l27]
    refine m_ite ?_ ?_
    · exact mw4_faultOfCell_b66 n x1 S
    · refine m_ite ?_ ?_
      · exact mw4_faultOfCell_b66 n x1 S
      · refine m_bT (mo2_get _ _ _ _) (fun v1 S1 => ?_)
        refine m_bnd (mo1_addInt _ _ _) (fun v2 S2 => ?_)
        exact ih x1 x2 (x3 + (nI 1)) S2
theorem w4_faultOfCell_l27 (hsf : sfOk (SF tk)) (X : hX p s m args meth c cX4_faultOfCell 4 RX4 (some .int) D (tyC cI) (SF tk) A) (n : Nat) : ∀ (k : Nat) (x1 : Int32) (x2 : Int32) (x3 : Int32) (S : CS), hG p l e (fun r => rmC 6 139 (cS r.2 - cS S0) (sS r.2 - sS S0)) s m args below meth c 4 (ZW D (wC cI q) A s.heap S0 S) (cS S - cS S0) (sS S - sS S0) (fun r => MQ below (QWi D (tyC cI) (wC cI q) A r) args s (cS r.2 - cS S0) (sS r.2 - sS S0) A) (fun r => le S r.2) 27 [(0, .ref (q 50)), (1, .int x1), (2, .int x2), (3, .int x3)] [] (f4_faultOfCell_l27 n k x1 x2 x3 S) := by
  intro k
  induction k with
  | zero =>
    intro x1 x2 x3 S
    exact h_none
  | succ k ih =>
    intro x1 x2 x3 S
    rw [f4_faultOfCell_l27]
    refine h_iload_n X dX4_faultOfCell_27 rfl rfl ?_
    refine h_iload_n X dX4_faultOfCell_28 rfl rfl ?_
    refine h_icmp_ge (tgt := 66) X dX4_faultOfCell_29 (by decide) ?_ ?_
    · exact h_pick [0, 1] rfl (w4_faultOfCell_b66 hsf X n x1 S)
    · refine h_iload_n X dX4_faultOfCell_32 rfl rfl ?_
      refine h_bipush (v := (nI 60)) X dX4_faultOfCell_33 (by decide) ?_
      refine h_icmp_ge (tgt := 66) X dX4_faultOfCell_35 (by decide) ?_ ?_
      · exact h_pick [0, 1] rfl (w4_faultOfCell_b66 hsf X n x1 S)
      · refine h_aload_n X dX4_faultOfCell_38 rfl rfl ?_
        refine c_g_B_reader X fl4_20 dX4_faultOfCell_39 ?_
        refine h_aload_n X dX4_faultOfCell_42 rfl rfl ?_
        refine c_g_B_now X fl4_35 dX4_faultOfCell_43 ?_
        refine c_g_IM_cells X fl4_64 dX4_faultOfCell_46 ?_
        refine h_iload_n X dX4_faultOfCell_49 rfl rfl ?_
        refine h_bipush (v := (nI 9)) X dX4_faultOfCell_50 (by decide) ?_
        refine h_iload_n X dX4_faultOfCell_52 rfl rfl ?_
        refine h_iadd X dX4_faultOfCell_53 ?_
        refine kt2_get_5 hsf X tlX4_95 ⟨Nat.le_of_ble_eq_true rfl, Nat.le_of_ble_eq_true rfl⟩ (Nat.le_of_ble_eq_true rfl) dX4_faultOfCell_54 ?_
        intro v1 S1
        refine k1_addInt hsf X tlX4_188 ⟨Nat.le_of_ble_eq_true rfl, Nat.le_of_ble_eq_true rfl⟩ (Nat.le_of_ble_eq_true rfl) dX4_faultOfCell_57 ?_
        intro v2 S2
        refine h_iinc (v := (nI 1)) (lv' := [(3, .int (x3 + (nI 1))), (0, .ref (q 50)), (1, .int x1), (2, .int x2)]) X dX4_faultOfCell_60 rfl (by decide) (by decide) rfl ?_
        refine h_goto (tgt := 27) X dX4_faultOfCell_63 (by decide) ?_
        exact h_pick [1, 2, 3, 0] rfl (ih x1 x2 (x3 + (nI 1)) S2)
def f4_faultOfCell (n : Nat) (x1 : Int32) (S : CS) : Option (Int32 × CS) :=
    bnd (f1_open n S) fun _ S1 =>
    bT 5 S1 (f2_get n x1 (nI 8) (tOf 5 S1)) fun v2 S2 =>
    f4_faultOfCell_l27 n n x1 v2 (nI 0) S2
theorem w4_faultOfCell (hsf : sfOk (SF tk)) (X : hX p s m args meth c cX4_faultOfCell 4 RX4 (some .int) D (tyC cI) (SF tk) A) {S0 : CS} (n : Nat) (x1 : Int32) (S : CS) : hG p l e (fun r => rmC 6 139 (cS r.2 - cS S0) (sS r.2 - sS S0)) s m args below meth c 4 (ZW D (wC cI q) A s.heap S0 S) (cS S - cS S0) (sS S - sS S0) (fun r => MQ below (QWi D (tyC cI) (wC cI q) A r) args s (cS r.2 - cS S0) (sS r.2 - sS S0) A) (fun r => le S r.2) 0 [(0, .ref (q 50)), (1, .int x1)] [] (f4_faultOfCell n x1 S) := by
    unfold f4_faultOfCell
    refine h_aload_n X dX4_faultOfCell_0 rfl rfl ?_
    refine c_g_B_reader X fl4_20 dX4_faultOfCell_1 ?_
    refine h_aload_n X dX4_faultOfCell_4 rfl rfl ?_
    refine c_g_B_now X fl4_35 dX4_faultOfCell_5 ?_
    refine k1_open hsf X tlX4_185 ⟨Nat.le_of_ble_eq_true rfl, Nat.le_of_ble_eq_true rfl⟩ (Nat.le_of_ble_eq_true rfl) dX4_faultOfCell_8 ?_
    intro v1 S1
    refine h_aload_n X dX4_faultOfCell_11 rfl rfl ?_
    refine c_g_B_now X fl4_35 dX4_faultOfCell_12 ?_
    refine c_g_IM_cells X fl4_64 dX4_faultOfCell_15 ?_
    refine h_iload_n X dX4_faultOfCell_18 rfl rfl ?_
    refine h_bipush (v := (nI 8)) X dX4_faultOfCell_19 (by decide) ?_
    refine kt2_get_5 hsf X tlX4_95 ⟨Nat.le_of_ble_eq_true rfl, Nat.le_of_ble_eq_true rfl⟩ (Nat.le_of_ble_eq_true rfl) dX4_faultOfCell_21 ?_
    intro v2 S2
    refine h_istore_n (lv' := [(2, .int v2), (0, .ref (q 50)), (1, .int x1)]) X dX4_faultOfCell_24 rfl (by decide) rfl ?_
    refine h_iconst (v := (nI 0)) X dX4_faultOfCell_25 (by decide) ?_
    refine h_istore_n (lv' := [(3, .int (nI 0)), (2, .int v2), (0, .ref (q 50)), (1, .int x1)]) X dX4_faultOfCell_26 rfl (by decide) rfl ?_
    exact h_pick [2, 3, 1, 0] rfl (w4_faultOfCell_l27 hsf X n n x1 v2 (nI 0) S2)
theorem mo4_faultOfCell (n : Nat) (x1 : Int32) (S : CS) : mo S (f4_faultOfCell n x1 S) := by
    unfold f4_faultOfCell
    refine m_bnd (mo1_open _ _) (fun v1 S1 => ?_)
    refine m_bT (mo2_get _ _ _ _) (fun v2 S2 => ?_)
    exact mw4_faultOfCell_l27 n n x1 v2 (nI 0) S2
theorem c4_faultOfCell (hsf : sfOk (SF tk)) (l : Launch) (D : va_G) (cI : ClassId) (q : Nat → Nat) (n : Nat) (x1 : Int32) (S : CS) : MetW l D (tyC cI) (SF tk) (wC cI q) yX4_faultOfCell cX4_faultOfCell 4 (some .int) 6 139 QWi [.ref (q 50), .int x1] S (f4_faultOfCell n x1 S) := by
  refine MetW.of (own := RX4) (by decide) rfl (Nat.le_of_ble_eq_true rfl) (mo4_faultOfCell n x1 S) ?_
  intro x p e s m args below meth c X
  refine h_pick (lv' := [(0, .ref (q 50)), (1, .int x1)]) [0, 1] rfl ?_
  exact h_close (w4_faultOfCell hsf X n x1 S)
theorem tc4_faultOfCell : Cond.code yX4_faultOfCell cX4_faultOfCell 4 (some .int) ∈ tt := tt_in (List.mem_of_getElem? (i := 619) (by decide +kernel)) (by decide +kernel)
theorem ti4_faultOfCell : Cond.instanceMethod yX4_faultOfCell ∈ tt := tt_in (List.mem_of_getElem? (i := 618) (by decide +kernel)) (by decide +kernel)
theorem te4_faultOfCell : Cond.selects RX4 yX4_faultOfCell yX4_faultOfCell ∈ tt := tt_in (List.mem_of_getElem? (i := 35) (by decide +kernel)) (by decide +kernel)
theorem k4_faultOfCell (hsf : sfOk (SF tk)) (X : hX p s m args meth c cc nL own rt D (tyC cI) (SF tk) A) {n : Nat} {x1 : Int32} {ix : Nat} (hlk : Cond.methodLink own ix yX4_faultOfCell ∈ tt) {rest : List Value} {K : Int32 → CS → Option (ρ × CS)} (hR : 6 + 1 ≤ fr ∧ 8 + (4 + 11) + 139 ≤ lo) (hcat : (rest.map fun v => v.category).sum ≤ 8) (d : decode cc pc = .ok (.invokevirtual ix, 3)) (kk : ∀ v S1, hG p l e (fun r => rmC fr lo (cS r.2 - cS S0) (sS r.2 - sS S0)) s m args below meth c nL (ZW D (wC cI q) A s.heap S0 S1) (cS S1 - cS S0) (sS S1 - sS S0) QQ (fun r => le S1 r.2) (pc + 3) lv (.int v :: rest) (K v S1)) : hG p l e (fun r => rmC fr lo (cS r.2 - cS S0) (sS r.2 - sS S0)) s m args below meth c nL (ZW D (wC cI q) A s.heap S0 S) (cS S - cS S0) (sS S - sS S0) QQ (fun r => le S r.2) pc lv (.int x1 :: .ref (q 50) :: rest) (bnd (f4_faultOfCell n x1 S) K) := h_callVi (As := [.int x1]) (b := q 50) (C := RX4) hsf X (c4_faultOfCell hsf l D cI q n x1 S) (cwVC (k := 1) X.1.2.2.2.2.1 hlk ti4_faultOfCell te4_faultOfCell tc4_faultOfCell ini_4 (by decide +kernel) hR) (fun x H h1 h2 => va_recv h1 h2 (ci := 4) (q0 := 0) rfl rfl) rfl rfl hcat d kk
-- X4.rerun
theorem tlX4_98 : Cond.methodLink RX4 98 yX4_faultOfCell ∈ tt := tt_in (List.mem_of_getElem? (i := 616) (by decide +kernel)) (by decide +kernel)
def f4_rerun (n : Nat) (x1 : Int32) (S : CS) : Option (Int32 × CS) :=
    bT 5 S (f2_has n x1 (tOf 5 S)) fun v1 S1 =>
    if v1 = 0 then
      (some ((-1 : Int32), S1))
    else
      (bnd (f0_isFullOfEditions n S1) fun v2 S2 =>
      if v2 = 0 then
        (bnd (f4_faultOfCell n x1 S2) fun v3 S3 =>
        if v3 = (-1 : Int32) then
          (bnd (f4_runCell n x1 S3) fun v4 S4 =>
          some (v4, S4))
        else
          (some (((-100 : Int32) - v3), S3)))
      else
        (some ((-2 : Int32), S2)))
theorem w4_rerun (hsf : sfOk (SF tk)) (X : hX p s m args meth c cX4_rerun 3 RX4 (some .int) D (tyC cI) (SF tk) A) {S0 : CS} (n : Nat) (x1 : Int32) (S : CS) : hG p l e (fun r => rmC 8 189 (cS r.2 - cS S0) (sS r.2 - sS S0)) s m args below meth c 3 (ZW D (wC cI q) A s.heap S0 S) (cS S - cS S0) (sS S - sS S0) (fun r => MQ below (QWi D (tyC cI) (wC cI q) A r) args s (cS r.2 - cS S0) (sS r.2 - sS S0) A) (fun r => le S r.2) 0 [(0, .ref (q 50)), (1, .int x1)] [] (f4_rerun n x1 S) := by
    unfold f4_rerun
    refine h_aload_n X dX4_rerun_0 rfl rfl ?_
    refine c_g_B_now X fl4_35 dX4_rerun_1 ?_
    refine c_g_IM_cells X fl4_64 dX4_rerun_4 ?_
    refine h_iload_n X dX4_rerun_7 rfl rfl ?_
    refine kt2_has_5 hsf X tlX4_92 ⟨Nat.le_of_ble_eq_true rfl, Nat.le_of_ble_eq_true rfl⟩ (Nat.le_of_ble_eq_true rfl) dX4_rerun_8 ?_
    intro v1 S1
    refine h_if_ne (tgt := 16) X dX4_rerun_11 (by decide) ?_ ?_
    · refine h_aload_n X dX4_rerun_16 rfl rfl ?_
      refine c_g_B_now X fl4_35 dX4_rerun_17 ?_
      refine k0_isFullOfEditions hsf X tlX4_74 ⟨Nat.le_of_ble_eq_true rfl, Nat.le_of_ble_eq_true rfl⟩ (Nat.le_of_ble_eq_true rfl) dX4_rerun_20 ?_
      intro v2 S2
      refine h_if_eq (tgt := 29) X dX4_rerun_23 (by decide) ?_ ?_
      · refine h_aload_n X dX4_rerun_29 rfl rfl ?_
        refine h_iload_n X dX4_rerun_30 rfl rfl ?_
        refine k4_faultOfCell hsf X tlX4_98 ⟨Nat.le_of_ble_eq_true rfl, Nat.le_of_ble_eq_true rfl⟩ (Nat.le_of_ble_eq_true rfl) dX4_rerun_31 ?_
        intro v3 S3
        refine h_istore_n (lv' := [(2, .int v3), (0, .ref (q 50)), (1, .int x1)]) X dX4_rerun_34 rfl (by decide) rfl ?_
        refine h_iload_n X dX4_rerun_35 rfl rfl ?_
        refine h_iconst (v := (-1 : Int32)) X dX4_rerun_36 (by decide) ?_
        refine h_icmp_eq (tgt := 45) X dX4_rerun_37 (by decide) ?_ ?_
        · refine h_aload_n X dX4_rerun_45 rfl rfl ?_
          refine h_iload_n X dX4_rerun_46 rfl rfl ?_
          refine k4_runCell hsf X tlX4_89 ⟨Nat.le_of_ble_eq_true rfl, Nat.le_of_ble_eq_true rfl⟩ (Nat.le_of_ble_eq_true rfl) dX4_rerun_47 ?_
          intro v4 S4
          exact h_iret X dX4_rerun_50
        · refine h_bipush (v := (-100 : Int32)) X dX4_rerun_40 (by decide) ?_
          refine h_iload_n X dX4_rerun_42 rfl rfl ?_
          refine h_isub X dX4_rerun_43 ?_
          exact h_iret X dX4_rerun_44
      · refine h_bipush (v := (-2 : Int32)) X dX4_rerun_26 (by decide) ?_
        exact h_iret X dX4_rerun_28
    · refine h_iconst (v := (-1 : Int32)) X dX4_rerun_14 (by decide) ?_
      exact h_iret X dX4_rerun_15
theorem mo4_rerun (n : Nat) (x1 : Int32) (S : CS) : mo S (f4_rerun n x1 S) := by
    unfold f4_rerun
    refine m_bT (mo2_has _ _ _) (fun v1 S1 => ?_)
    refine m_ite ?_ ?_
    · exact m_some
    · refine m_bnd (mo0_isFullOfEditions _ _) (fun v2 S2 => ?_)
      refine m_ite ?_ ?_
      · refine m_bnd (mo4_faultOfCell _ _ _) (fun v3 S3 => ?_)
        refine m_ite ?_ ?_
        · refine m_bnd (mo4_runCell _ _ _) (fun v4 S4 => ?_)
          exact m_some
        · exact m_some
      · exact m_some
theorem c4_rerun (hsf : sfOk (SF tk)) (l : Launch) (D : va_G) (cI : ClassId) (q : Nat → Nat) (n : Nat) (x1 : Int32) (S : CS) : MetW l D (tyC cI) (SF tk) (wC cI q) yX4_rerun cX4_rerun 3 (some .int) 8 189 QWi [.ref (q 50), .int x1] S (f4_rerun n x1 S) := by
  refine MetW.of (own := RX4) (by decide) rfl (Nat.le_of_ble_eq_true rfl) (mo4_rerun n x1 S) ?_
  intro x p e s m args below meth c X
  refine h_pick (lv' := [(0, .ref (q 50)), (1, .int x1)]) [0, 1] rfl ?_
  exact h_close (w4_rerun hsf X n x1 S)
-- J13.bitCount_95d88
theorem kcJ13_314 : Cond.constantLong RJ13 314 (6148914691236517205 : Int64) ∈ tt := tt_in (List.mem_of_getElem? (i := 642) (by decide +kernel)) (by decide +kernel)
theorem kcJ13_316 : Cond.constantLong RJ13 316 (3689348814741910323 : Int64) ∈ tt := tt_in (List.mem_of_getElem? (i := 643) (by decide +kernel)) (by decide +kernel)
theorem kcJ13_318 : Cond.constantLong RJ13 318 (1085102592571150095 : Int64) ∈ tt := tt_in (List.mem_of_getElem? (i := 644) (by decide +kernel)) (by decide +kernel)
def fj13_bitCount (n : Nat) (x0 : Int64) (S : CS) : Option (Int32 × CS) :=
    some (((Int64.toInt32 ((((((((x0 - (((Int64.toUInt64 x0 >>> ((Int32.toInt64 (nI 1)).toUInt64 &&& Int64.toUInt64 63)).toInt64) &&& (6148914691236517205 : Int64))) &&& (3689348814741910323 : Int64)) + (((Int64.toUInt64 (x0 - (((Int64.toUInt64 x0 >>> ((Int32.toInt64 (nI 1)).toUInt64 &&& Int64.toUInt64 63)).toInt64) &&& (6148914691236517205 : Int64))) >>> ((Int32.toInt64 (nI 2)).toUInt64 &&& Int64.toUInt64 63)).toInt64) &&& (3689348814741910323 : Int64))) + ((Int64.toUInt64 (((x0 - (((Int64.toUInt64 x0 >>> ((Int32.toInt64 (nI 1)).toUInt64 &&& Int64.toUInt64 63)).toInt64) &&& (6148914691236517205 : Int64))) &&& (3689348814741910323 : Int64)) + (((Int64.toUInt64 (x0 - (((Int64.toUInt64 x0 >>> ((Int32.toInt64 (nI 1)).toUInt64 &&& Int64.toUInt64 63)).toInt64) &&& (6148914691236517205 : Int64))) >>> ((Int32.toInt64 (nI 2)).toUInt64 &&& Int64.toUInt64 63)).toInt64) &&& (3689348814741910323 : Int64))) >>> ((Int32.toInt64 (nI 4)).toUInt64 &&& Int64.toUInt64 63)).toInt64)) &&& (1085102592571150095 : Int64)) + ((Int64.toUInt64 (((((x0 - (((Int64.toUInt64 x0 >>> ((Int32.toInt64 (nI 1)).toUInt64 &&& Int64.toUInt64 63)).toInt64) &&& (6148914691236517205 : Int64))) &&& (3689348814741910323 : Int64)) + (((Int64.toUInt64 (x0 - (((Int64.toUInt64 x0 >>> ((Int32.toInt64 (nI 1)).toUInt64 &&& Int64.toUInt64 63)).toInt64) &&& (6148914691236517205 : Int64))) >>> ((Int32.toInt64 (nI 2)).toUInt64 &&& Int64.toUInt64 63)).toInt64) &&& (3689348814741910323 : Int64))) + ((Int64.toUInt64 (((x0 - (((Int64.toUInt64 x0 >>> ((Int32.toInt64 (nI 1)).toUInt64 &&& Int64.toUInt64 63)).toInt64) &&& (6148914691236517205 : Int64))) &&& (3689348814741910323 : Int64)) + (((Int64.toUInt64 (x0 - (((Int64.toUInt64 x0 >>> ((Int32.toInt64 (nI 1)).toUInt64 &&& Int64.toUInt64 63)).toInt64) &&& (6148914691236517205 : Int64))) >>> ((Int32.toInt64 (nI 2)).toUInt64 &&& Int64.toUInt64 63)).toInt64) &&& (3689348814741910323 : Int64))) >>> ((Int32.toInt64 (nI 4)).toUInt64 &&& Int64.toUInt64 63)).toInt64)) &&& (1085102592571150095 : Int64)) >>> ((Int32.toInt64 (nI 8)).toUInt64 &&& Int64.toUInt64 63)).toInt64)) + ((Int64.toUInt64 ((((((x0 - (((Int64.toUInt64 x0 >>> ((Int32.toInt64 (nI 1)).toUInt64 &&& Int64.toUInt64 63)).toInt64) &&& (6148914691236517205 : Int64))) &&& (3689348814741910323 : Int64)) + (((Int64.toUInt64 (x0 - (((Int64.toUInt64 x0 >>> ((Int32.toInt64 (nI 1)).toUInt64 &&& Int64.toUInt64 63)).toInt64) &&& (6148914691236517205 : Int64))) >>> ((Int32.toInt64 (nI 2)).toUInt64 &&& Int64.toUInt64 63)).toInt64) &&& (3689348814741910323 : Int64))) + ((Int64.toUInt64 (((x0 - (((Int64.toUInt64 x0 >>> ((Int32.toInt64 (nI 1)).toUInt64 &&& Int64.toUInt64 63)).toInt64) &&& (6148914691236517205 : Int64))) &&& (3689348814741910323 : Int64)) + (((Int64.toUInt64 (x0 - (((Int64.toUInt64 x0 >>> ((Int32.toInt64 (nI 1)).toUInt64 &&& Int64.toUInt64 63)).toInt64) &&& (6148914691236517205 : Int64))) >>> ((Int32.toInt64 (nI 2)).toUInt64 &&& Int64.toUInt64 63)).toInt64) &&& (3689348814741910323 : Int64))) >>> ((Int32.toInt64 (nI 4)).toUInt64 &&& Int64.toUInt64 63)).toInt64)) &&& (1085102592571150095 : Int64)) + ((Int64.toUInt64 (((((x0 - (((Int64.toUInt64 x0 >>> ((Int32.toInt64 (nI 1)).toUInt64 &&& Int64.toUInt64 63)).toInt64) &&& (6148914691236517205 : Int64))) &&& (3689348814741910323 : Int64)) + (((Int64.toUInt64 (x0 - (((Int64.toUInt64 x0 >>> ((Int32.toInt64 (nI 1)).toUInt64 &&& Int64.toUInt64 63)).toInt64) &&& (6148914691236517205 : Int64))) >>> ((Int32.toInt64 (nI 2)).toUInt64 &&& Int64.toUInt64 63)).toInt64) &&& (3689348814741910323 : Int64))) + ((Int64.toUInt64 (((x0 - (((Int64.toUInt64 x0 >>> ((Int32.toInt64 (nI 1)).toUInt64 &&& Int64.toUInt64 63)).toInt64) &&& (6148914691236517205 : Int64))) &&& (3689348814741910323 : Int64)) + (((Int64.toUInt64 (x0 - (((Int64.toUInt64 x0 >>> ((Int32.toInt64 (nI 1)).toUInt64 &&& Int64.toUInt64 63)).toInt64) &&& (6148914691236517205 : Int64))) >>> ((Int32.toInt64 (nI 2)).toUInt64 &&& Int64.toUInt64 63)).toInt64) &&& (3689348814741910323 : Int64))) >>> ((Int32.toInt64 (nI 4)).toUInt64 &&& Int64.toUInt64 63)).toInt64)) &&& (1085102592571150095 : Int64)) >>> ((Int32.toInt64 (nI 8)).toUInt64 &&& Int64.toUInt64 63)).toInt64)) >>> ((Int32.toInt64 (nI 16)).toUInt64 &&& Int64.toUInt64 63)).toInt64)) + ((Int64.toUInt64 (((((((x0 - (((Int64.toUInt64 x0 >>> ((Int32.toInt64 (nI 1)).toUInt64 &&& Int64.toUInt64 63)).toInt64) &&& (6148914691236517205 : Int64))) &&& (3689348814741910323 : Int64)) + (((Int64.toUInt64 (x0 - (((Int64.toUInt64 x0 >>> ((Int32.toInt64 (nI 1)).toUInt64 &&& Int64.toUInt64 63)).toInt64) &&& (6148914691236517205 : Int64))) >>> ((Int32.toInt64 (nI 2)).toUInt64 &&& Int64.toUInt64 63)).toInt64) &&& (3689348814741910323 : Int64))) + ((Int64.toUInt64 (((x0 - (((Int64.toUInt64 x0 >>> ((Int32.toInt64 (nI 1)).toUInt64 &&& Int64.toUInt64 63)).toInt64) &&& (6148914691236517205 : Int64))) &&& (3689348814741910323 : Int64)) + (((Int64.toUInt64 (x0 - (((Int64.toUInt64 x0 >>> ((Int32.toInt64 (nI 1)).toUInt64 &&& Int64.toUInt64 63)).toInt64) &&& (6148914691236517205 : Int64))) >>> ((Int32.toInt64 (nI 2)).toUInt64 &&& Int64.toUInt64 63)).toInt64) &&& (3689348814741910323 : Int64))) >>> ((Int32.toInt64 (nI 4)).toUInt64 &&& Int64.toUInt64 63)).toInt64)) &&& (1085102592571150095 : Int64)) + ((Int64.toUInt64 (((((x0 - (((Int64.toUInt64 x0 >>> ((Int32.toInt64 (nI 1)).toUInt64 &&& Int64.toUInt64 63)).toInt64) &&& (6148914691236517205 : Int64))) &&& (3689348814741910323 : Int64)) + (((Int64.toUInt64 (x0 - (((Int64.toUInt64 x0 >>> ((Int32.toInt64 (nI 1)).toUInt64 &&& Int64.toUInt64 63)).toInt64) &&& (6148914691236517205 : Int64))) >>> ((Int32.toInt64 (nI 2)).toUInt64 &&& Int64.toUInt64 63)).toInt64) &&& (3689348814741910323 : Int64))) + ((Int64.toUInt64 (((x0 - (((Int64.toUInt64 x0 >>> ((Int32.toInt64 (nI 1)).toUInt64 &&& Int64.toUInt64 63)).toInt64) &&& (6148914691236517205 : Int64))) &&& (3689348814741910323 : Int64)) + (((Int64.toUInt64 (x0 - (((Int64.toUInt64 x0 >>> ((Int32.toInt64 (nI 1)).toUInt64 &&& Int64.toUInt64 63)).toInt64) &&& (6148914691236517205 : Int64))) >>> ((Int32.toInt64 (nI 2)).toUInt64 &&& Int64.toUInt64 63)).toInt64) &&& (3689348814741910323 : Int64))) >>> ((Int32.toInt64 (nI 4)).toUInt64 &&& Int64.toUInt64 63)).toInt64)) &&& (1085102592571150095 : Int64)) >>> ((Int32.toInt64 (nI 8)).toUInt64 &&& Int64.toUInt64 63)).toInt64)) + ((Int64.toUInt64 ((((((x0 - (((Int64.toUInt64 x0 >>> ((Int32.toInt64 (nI 1)).toUInt64 &&& Int64.toUInt64 63)).toInt64) &&& (6148914691236517205 : Int64))) &&& (3689348814741910323 : Int64)) + (((Int64.toUInt64 (x0 - (((Int64.toUInt64 x0 >>> ((Int32.toInt64 (nI 1)).toUInt64 &&& Int64.toUInt64 63)).toInt64) &&& (6148914691236517205 : Int64))) >>> ((Int32.toInt64 (nI 2)).toUInt64 &&& Int64.toUInt64 63)).toInt64) &&& (3689348814741910323 : Int64))) + ((Int64.toUInt64 (((x0 - (((Int64.toUInt64 x0 >>> ((Int32.toInt64 (nI 1)).toUInt64 &&& Int64.toUInt64 63)).toInt64) &&& (6148914691236517205 : Int64))) &&& (3689348814741910323 : Int64)) + (((Int64.toUInt64 (x0 - (((Int64.toUInt64 x0 >>> ((Int32.toInt64 (nI 1)).toUInt64 &&& Int64.toUInt64 63)).toInt64) &&& (6148914691236517205 : Int64))) >>> ((Int32.toInt64 (nI 2)).toUInt64 &&& Int64.toUInt64 63)).toInt64) &&& (3689348814741910323 : Int64))) >>> ((Int32.toInt64 (nI 4)).toUInt64 &&& Int64.toUInt64 63)).toInt64)) &&& (1085102592571150095 : Int64)) + ((Int64.toUInt64 (((((x0 - (((Int64.toUInt64 x0 >>> ((Int32.toInt64 (nI 1)).toUInt64 &&& Int64.toUInt64 63)).toInt64) &&& (6148914691236517205 : Int64))) &&& (3689348814741910323 : Int64)) + (((Int64.toUInt64 (x0 - (((Int64.toUInt64 x0 >>> ((Int32.toInt64 (nI 1)).toUInt64 &&& Int64.toUInt64 63)).toInt64) &&& (6148914691236517205 : Int64))) >>> ((Int32.toInt64 (nI 2)).toUInt64 &&& Int64.toUInt64 63)).toInt64) &&& (3689348814741910323 : Int64))) + ((Int64.toUInt64 (((x0 - (((Int64.toUInt64 x0 >>> ((Int32.toInt64 (nI 1)).toUInt64 &&& Int64.toUInt64 63)).toInt64) &&& (6148914691236517205 : Int64))) &&& (3689348814741910323 : Int64)) + (((Int64.toUInt64 (x0 - (((Int64.toUInt64 x0 >>> ((Int32.toInt64 (nI 1)).toUInt64 &&& Int64.toUInt64 63)).toInt64) &&& (6148914691236517205 : Int64))) >>> ((Int32.toInt64 (nI 2)).toUInt64 &&& Int64.toUInt64 63)).toInt64) &&& (3689348814741910323 : Int64))) >>> ((Int32.toInt64 (nI 4)).toUInt64 &&& Int64.toUInt64 63)).toInt64)) &&& (1085102592571150095 : Int64)) >>> ((Int32.toInt64 (nI 8)).toUInt64 &&& Int64.toUInt64 63)).toInt64)) >>> ((Int32.toInt64 (nI 16)).toUInt64 &&& Int64.toUInt64 63)).toInt64)) >>> ((Int32.toInt64 (nI 32)).toUInt64 &&& Int64.toUInt64 63)).toInt64))) &&& (nI 127)), S)
theorem wj13_bitCount (hsf : sfOk (SF tk)) (X : hX p s m args meth c cJ13_bitCount_95d88 2 RJ13 (some .int) D (tyC cI) (SF tk) A) {S0 : CS} (n : Nat) (x0 : Int64) (S : CS) : hG p l e (fun r => rmC 0 0 (cS r.2 - cS S0) (sS r.2 - sS S0)) s m args below meth c 2 (ZW D (wC cI q) A s.heap S0 S) (cS S - cS S0) (sS S - sS S0) (fun r => MQ below (QWi D (tyC cI) (wC cI q) A r) args s (cS r.2 - cS S0) (sS r.2 - sS S0) A) (fun r => le S r.2) 0 [(0, .long x0)] [] (fj13_bitCount n x0 S) := by
    unfold fj13_bitCount
    refine h_lload_n X dJ13_bitCount_95d88_0 rfl rfl ?_
    refine h_lload_n X dJ13_bitCount_95d88_1 rfl rfl ?_
    refine h_iconst (v := (nI 1)) X dJ13_bitCount_95d88_2 (by decide) ?_
    refine h_lushr X dJ13_bitCount_95d88_3 ?_
    refine h_ldc2 (v := (6148914691236517205 : Int64)) X kcJ13_314 dJ13_bitCount_95d88_4 ?_
    refine h_land X dJ13_bitCount_95d88_7 ?_
    refine h_lsub X dJ13_bitCount_95d88_8 ?_
    refine h_lstore_n (lv' := [(0, .long (x0 - (((Int64.toUInt64 x0 >>> ((Int32.toInt64 (nI 1)).toUInt64 &&& Int64.toUInt64 63)).toInt64) &&& (6148914691236517205 : Int64))))]) X dJ13_bitCount_95d88_9 rfl (by decide) rfl ?_
    refine h_lload_n X dJ13_bitCount_95d88_10 rfl rfl ?_
    refine h_ldc2 (v := (3689348814741910323 : Int64)) X kcJ13_316 dJ13_bitCount_95d88_11 ?_
    refine h_land X dJ13_bitCount_95d88_14 ?_
    refine h_lload_n X dJ13_bitCount_95d88_15 rfl rfl ?_
    refine h_iconst (v := (nI 2)) X dJ13_bitCount_95d88_16 (by decide) ?_
    refine h_lushr X dJ13_bitCount_95d88_17 ?_
    refine h_ldc2 (v := (3689348814741910323 : Int64)) X kcJ13_316 dJ13_bitCount_95d88_18 ?_
    refine h_land X dJ13_bitCount_95d88_21 ?_
    refine h_ladd X dJ13_bitCount_95d88_22 ?_
    refine h_lstore_n (lv' := [(0, .long (((x0 - (((Int64.toUInt64 x0 >>> ((Int32.toInt64 (nI 1)).toUInt64 &&& Int64.toUInt64 63)).toInt64) &&& (6148914691236517205 : Int64))) &&& (3689348814741910323 : Int64)) + (((Int64.toUInt64 (x0 - (((Int64.toUInt64 x0 >>> ((Int32.toInt64 (nI 1)).toUInt64 &&& Int64.toUInt64 63)).toInt64) &&& (6148914691236517205 : Int64))) >>> ((Int32.toInt64 (nI 2)).toUInt64 &&& Int64.toUInt64 63)).toInt64) &&& (3689348814741910323 : Int64))))]) X dJ13_bitCount_95d88_23 rfl (by decide) rfl ?_
    refine h_lload_n X dJ13_bitCount_95d88_24 rfl rfl ?_
    refine h_lload_n X dJ13_bitCount_95d88_25 rfl rfl ?_
    refine h_iconst (v := (nI 4)) X dJ13_bitCount_95d88_26 (by decide) ?_
    refine h_lushr X dJ13_bitCount_95d88_27 ?_
    refine h_ladd X dJ13_bitCount_95d88_28 ?_
    refine h_ldc2 (v := (1085102592571150095 : Int64)) X kcJ13_318 dJ13_bitCount_95d88_29 ?_
    refine h_land X dJ13_bitCount_95d88_32 ?_
    refine h_lstore_n (lv' := [(0, .long (((((x0 - (((Int64.toUInt64 x0 >>> ((Int32.toInt64 (nI 1)).toUInt64 &&& Int64.toUInt64 63)).toInt64) &&& (6148914691236517205 : Int64))) &&& (3689348814741910323 : Int64)) + (((Int64.toUInt64 (x0 - (((Int64.toUInt64 x0 >>> ((Int32.toInt64 (nI 1)).toUInt64 &&& Int64.toUInt64 63)).toInt64) &&& (6148914691236517205 : Int64))) >>> ((Int32.toInt64 (nI 2)).toUInt64 &&& Int64.toUInt64 63)).toInt64) &&& (3689348814741910323 : Int64))) + ((Int64.toUInt64 (((x0 - (((Int64.toUInt64 x0 >>> ((Int32.toInt64 (nI 1)).toUInt64 &&& Int64.toUInt64 63)).toInt64) &&& (6148914691236517205 : Int64))) &&& (3689348814741910323 : Int64)) + (((Int64.toUInt64 (x0 - (((Int64.toUInt64 x0 >>> ((Int32.toInt64 (nI 1)).toUInt64 &&& Int64.toUInt64 63)).toInt64) &&& (6148914691236517205 : Int64))) >>> ((Int32.toInt64 (nI 2)).toUInt64 &&& Int64.toUInt64 63)).toInt64) &&& (3689348814741910323 : Int64))) >>> ((Int32.toInt64 (nI 4)).toUInt64 &&& Int64.toUInt64 63)).toInt64)) &&& (1085102592571150095 : Int64)))]) X dJ13_bitCount_95d88_33 rfl (by decide) rfl ?_
    refine h_lload_n X dJ13_bitCount_95d88_34 rfl rfl ?_
    refine h_lload_n X dJ13_bitCount_95d88_35 rfl rfl ?_
    refine h_bipush (v := (nI 8)) X dJ13_bitCount_95d88_36 (by decide) ?_
    refine h_lushr X dJ13_bitCount_95d88_38 ?_
    refine h_ladd X dJ13_bitCount_95d88_39 ?_
    refine h_lstore_n (lv' := [(0, .long ((((((x0 - (((Int64.toUInt64 x0 >>> ((Int32.toInt64 (nI 1)).toUInt64 &&& Int64.toUInt64 63)).toInt64) &&& (6148914691236517205 : Int64))) &&& (3689348814741910323 : Int64)) + (((Int64.toUInt64 (x0 - (((Int64.toUInt64 x0 >>> ((Int32.toInt64 (nI 1)).toUInt64 &&& Int64.toUInt64 63)).toInt64) &&& (6148914691236517205 : Int64))) >>> ((Int32.toInt64 (nI 2)).toUInt64 &&& Int64.toUInt64 63)).toInt64) &&& (3689348814741910323 : Int64))) + ((Int64.toUInt64 (((x0 - (((Int64.toUInt64 x0 >>> ((Int32.toInt64 (nI 1)).toUInt64 &&& Int64.toUInt64 63)).toInt64) &&& (6148914691236517205 : Int64))) &&& (3689348814741910323 : Int64)) + (((Int64.toUInt64 (x0 - (((Int64.toUInt64 x0 >>> ((Int32.toInt64 (nI 1)).toUInt64 &&& Int64.toUInt64 63)).toInt64) &&& (6148914691236517205 : Int64))) >>> ((Int32.toInt64 (nI 2)).toUInt64 &&& Int64.toUInt64 63)).toInt64) &&& (3689348814741910323 : Int64))) >>> ((Int32.toInt64 (nI 4)).toUInt64 &&& Int64.toUInt64 63)).toInt64)) &&& (1085102592571150095 : Int64)) + ((Int64.toUInt64 (((((x0 - (((Int64.toUInt64 x0 >>> ((Int32.toInt64 (nI 1)).toUInt64 &&& Int64.toUInt64 63)).toInt64) &&& (6148914691236517205 : Int64))) &&& (3689348814741910323 : Int64)) + (((Int64.toUInt64 (x0 - (((Int64.toUInt64 x0 >>> ((Int32.toInt64 (nI 1)).toUInt64 &&& Int64.toUInt64 63)).toInt64) &&& (6148914691236517205 : Int64))) >>> ((Int32.toInt64 (nI 2)).toUInt64 &&& Int64.toUInt64 63)).toInt64) &&& (3689348814741910323 : Int64))) + ((Int64.toUInt64 (((x0 - (((Int64.toUInt64 x0 >>> ((Int32.toInt64 (nI 1)).toUInt64 &&& Int64.toUInt64 63)).toInt64) &&& (6148914691236517205 : Int64))) &&& (3689348814741910323 : Int64)) + (((Int64.toUInt64 (x0 - (((Int64.toUInt64 x0 >>> ((Int32.toInt64 (nI 1)).toUInt64 &&& Int64.toUInt64 63)).toInt64) &&& (6148914691236517205 : Int64))) >>> ((Int32.toInt64 (nI 2)).toUInt64 &&& Int64.toUInt64 63)).toInt64) &&& (3689348814741910323 : Int64))) >>> ((Int32.toInt64 (nI 4)).toUInt64 &&& Int64.toUInt64 63)).toInt64)) &&& (1085102592571150095 : Int64)) >>> ((Int32.toInt64 (nI 8)).toUInt64 &&& Int64.toUInt64 63)).toInt64)))]) X dJ13_bitCount_95d88_40 rfl (by decide) rfl ?_
    refine h_lload_n X dJ13_bitCount_95d88_41 rfl rfl ?_
    refine h_lload_n X dJ13_bitCount_95d88_42 rfl rfl ?_
    refine h_bipush (v := (nI 16)) X dJ13_bitCount_95d88_43 (by decide) ?_
    refine h_lushr X dJ13_bitCount_95d88_45 ?_
    refine h_ladd X dJ13_bitCount_95d88_46 ?_
    refine h_lstore_n (lv' := [(0, .long (((((((x0 - (((Int64.toUInt64 x0 >>> ((Int32.toInt64 (nI 1)).toUInt64 &&& Int64.toUInt64 63)).toInt64) &&& (6148914691236517205 : Int64))) &&& (3689348814741910323 : Int64)) + (((Int64.toUInt64 (x0 - (((Int64.toUInt64 x0 >>> ((Int32.toInt64 (nI 1)).toUInt64 &&& Int64.toUInt64 63)).toInt64) &&& (6148914691236517205 : Int64))) >>> ((Int32.toInt64 (nI 2)).toUInt64 &&& Int64.toUInt64 63)).toInt64) &&& (3689348814741910323 : Int64))) + ((Int64.toUInt64 (((x0 - (((Int64.toUInt64 x0 >>> ((Int32.toInt64 (nI 1)).toUInt64 &&& Int64.toUInt64 63)).toInt64) &&& (6148914691236517205 : Int64))) &&& (3689348814741910323 : Int64)) + (((Int64.toUInt64 (x0 - (((Int64.toUInt64 x0 >>> ((Int32.toInt64 (nI 1)).toUInt64 &&& Int64.toUInt64 63)).toInt64) &&& (6148914691236517205 : Int64))) >>> ((Int32.toInt64 (nI 2)).toUInt64 &&& Int64.toUInt64 63)).toInt64) &&& (3689348814741910323 : Int64))) >>> ((Int32.toInt64 (nI 4)).toUInt64 &&& Int64.toUInt64 63)).toInt64)) &&& (1085102592571150095 : Int64)) + ((Int64.toUInt64 (((((x0 - (((Int64.toUInt64 x0 >>> ((Int32.toInt64 (nI 1)).toUInt64 &&& Int64.toUInt64 63)).toInt64) &&& (6148914691236517205 : Int64))) &&& (3689348814741910323 : Int64)) + (((Int64.toUInt64 (x0 - (((Int64.toUInt64 x0 >>> ((Int32.toInt64 (nI 1)).toUInt64 &&& Int64.toUInt64 63)).toInt64) &&& (6148914691236517205 : Int64))) >>> ((Int32.toInt64 (nI 2)).toUInt64 &&& Int64.toUInt64 63)).toInt64) &&& (3689348814741910323 : Int64))) + ((Int64.toUInt64 (((x0 - (((Int64.toUInt64 x0 >>> ((Int32.toInt64 (nI 1)).toUInt64 &&& Int64.toUInt64 63)).toInt64) &&& (6148914691236517205 : Int64))) &&& (3689348814741910323 : Int64)) + (((Int64.toUInt64 (x0 - (((Int64.toUInt64 x0 >>> ((Int32.toInt64 (nI 1)).toUInt64 &&& Int64.toUInt64 63)).toInt64) &&& (6148914691236517205 : Int64))) >>> ((Int32.toInt64 (nI 2)).toUInt64 &&& Int64.toUInt64 63)).toInt64) &&& (3689348814741910323 : Int64))) >>> ((Int32.toInt64 (nI 4)).toUInt64 &&& Int64.toUInt64 63)).toInt64)) &&& (1085102592571150095 : Int64)) >>> ((Int32.toInt64 (nI 8)).toUInt64 &&& Int64.toUInt64 63)).toInt64)) + ((Int64.toUInt64 ((((((x0 - (((Int64.toUInt64 x0 >>> ((Int32.toInt64 (nI 1)).toUInt64 &&& Int64.toUInt64 63)).toInt64) &&& (6148914691236517205 : Int64))) &&& (3689348814741910323 : Int64)) + (((Int64.toUInt64 (x0 - (((Int64.toUInt64 x0 >>> ((Int32.toInt64 (nI 1)).toUInt64 &&& Int64.toUInt64 63)).toInt64) &&& (6148914691236517205 : Int64))) >>> ((Int32.toInt64 (nI 2)).toUInt64 &&& Int64.toUInt64 63)).toInt64) &&& (3689348814741910323 : Int64))) + ((Int64.toUInt64 (((x0 - (((Int64.toUInt64 x0 >>> ((Int32.toInt64 (nI 1)).toUInt64 &&& Int64.toUInt64 63)).toInt64) &&& (6148914691236517205 : Int64))) &&& (3689348814741910323 : Int64)) + (((Int64.toUInt64 (x0 - (((Int64.toUInt64 x0 >>> ((Int32.toInt64 (nI 1)).toUInt64 &&& Int64.toUInt64 63)).toInt64) &&& (6148914691236517205 : Int64))) >>> ((Int32.toInt64 (nI 2)).toUInt64 &&& Int64.toUInt64 63)).toInt64) &&& (3689348814741910323 : Int64))) >>> ((Int32.toInt64 (nI 4)).toUInt64 &&& Int64.toUInt64 63)).toInt64)) &&& (1085102592571150095 : Int64)) + ((Int64.toUInt64 (((((x0 - (((Int64.toUInt64 x0 >>> ((Int32.toInt64 (nI 1)).toUInt64 &&& Int64.toUInt64 63)).toInt64) &&& (6148914691236517205 : Int64))) &&& (3689348814741910323 : Int64)) + (((Int64.toUInt64 (x0 - (((Int64.toUInt64 x0 >>> ((Int32.toInt64 (nI 1)).toUInt64 &&& Int64.toUInt64 63)).toInt64) &&& (6148914691236517205 : Int64))) >>> ((Int32.toInt64 (nI 2)).toUInt64 &&& Int64.toUInt64 63)).toInt64) &&& (3689348814741910323 : Int64))) + ((Int64.toUInt64 (((x0 - (((Int64.toUInt64 x0 >>> ((Int32.toInt64 (nI 1)).toUInt64 &&& Int64.toUInt64 63)).toInt64) &&& (6148914691236517205 : Int64))) &&& (3689348814741910323 : Int64)) + (((Int64.toUInt64 (x0 - (((Int64.toUInt64 x0 >>> ((Int32.toInt64 (nI 1)).toUInt64 &&& Int64.toUInt64 63)).toInt64) &&& (6148914691236517205 : Int64))) >>> ((Int32.toInt64 (nI 2)).toUInt64 &&& Int64.toUInt64 63)).toInt64) &&& (3689348814741910323 : Int64))) >>> ((Int32.toInt64 (nI 4)).toUInt64 &&& Int64.toUInt64 63)).toInt64)) &&& (1085102592571150095 : Int64)) >>> ((Int32.toInt64 (nI 8)).toUInt64 &&& Int64.toUInt64 63)).toInt64)) >>> ((Int32.toInt64 (nI 16)).toUInt64 &&& Int64.toUInt64 63)).toInt64)))]) X dJ13_bitCount_95d88_47 rfl (by decide) rfl ?_
    refine h_lload_n X dJ13_bitCount_95d88_48 rfl rfl ?_
    refine h_lload_n X dJ13_bitCount_95d88_49 rfl rfl ?_
    refine h_bipush (v := (nI 32)) X dJ13_bitCount_95d88_50 (by decide) ?_
    refine h_lushr X dJ13_bitCount_95d88_52 ?_
    refine h_ladd X dJ13_bitCount_95d88_53 ?_
    refine h_lstore_n (lv' := [(0, .long ((((((((x0 - (((Int64.toUInt64 x0 >>> ((Int32.toInt64 (nI 1)).toUInt64 &&& Int64.toUInt64 63)).toInt64) &&& (6148914691236517205 : Int64))) &&& (3689348814741910323 : Int64)) + (((Int64.toUInt64 (x0 - (((Int64.toUInt64 x0 >>> ((Int32.toInt64 (nI 1)).toUInt64 &&& Int64.toUInt64 63)).toInt64) &&& (6148914691236517205 : Int64))) >>> ((Int32.toInt64 (nI 2)).toUInt64 &&& Int64.toUInt64 63)).toInt64) &&& (3689348814741910323 : Int64))) + ((Int64.toUInt64 (((x0 - (((Int64.toUInt64 x0 >>> ((Int32.toInt64 (nI 1)).toUInt64 &&& Int64.toUInt64 63)).toInt64) &&& (6148914691236517205 : Int64))) &&& (3689348814741910323 : Int64)) + (((Int64.toUInt64 (x0 - (((Int64.toUInt64 x0 >>> ((Int32.toInt64 (nI 1)).toUInt64 &&& Int64.toUInt64 63)).toInt64) &&& (6148914691236517205 : Int64))) >>> ((Int32.toInt64 (nI 2)).toUInt64 &&& Int64.toUInt64 63)).toInt64) &&& (3689348814741910323 : Int64))) >>> ((Int32.toInt64 (nI 4)).toUInt64 &&& Int64.toUInt64 63)).toInt64)) &&& (1085102592571150095 : Int64)) + ((Int64.toUInt64 (((((x0 - (((Int64.toUInt64 x0 >>> ((Int32.toInt64 (nI 1)).toUInt64 &&& Int64.toUInt64 63)).toInt64) &&& (6148914691236517205 : Int64))) &&& (3689348814741910323 : Int64)) + (((Int64.toUInt64 (x0 - (((Int64.toUInt64 x0 >>> ((Int32.toInt64 (nI 1)).toUInt64 &&& Int64.toUInt64 63)).toInt64) &&& (6148914691236517205 : Int64))) >>> ((Int32.toInt64 (nI 2)).toUInt64 &&& Int64.toUInt64 63)).toInt64) &&& (3689348814741910323 : Int64))) + ((Int64.toUInt64 (((x0 - (((Int64.toUInt64 x0 >>> ((Int32.toInt64 (nI 1)).toUInt64 &&& Int64.toUInt64 63)).toInt64) &&& (6148914691236517205 : Int64))) &&& (3689348814741910323 : Int64)) + (((Int64.toUInt64 (x0 - (((Int64.toUInt64 x0 >>> ((Int32.toInt64 (nI 1)).toUInt64 &&& Int64.toUInt64 63)).toInt64) &&& (6148914691236517205 : Int64))) >>> ((Int32.toInt64 (nI 2)).toUInt64 &&& Int64.toUInt64 63)).toInt64) &&& (3689348814741910323 : Int64))) >>> ((Int32.toInt64 (nI 4)).toUInt64 &&& Int64.toUInt64 63)).toInt64)) &&& (1085102592571150095 : Int64)) >>> ((Int32.toInt64 (nI 8)).toUInt64 &&& Int64.toUInt64 63)).toInt64)) + ((Int64.toUInt64 ((((((x0 - (((Int64.toUInt64 x0 >>> ((Int32.toInt64 (nI 1)).toUInt64 &&& Int64.toUInt64 63)).toInt64) &&& (6148914691236517205 : Int64))) &&& (3689348814741910323 : Int64)) + (((Int64.toUInt64 (x0 - (((Int64.toUInt64 x0 >>> ((Int32.toInt64 (nI 1)).toUInt64 &&& Int64.toUInt64 63)).toInt64) &&& (6148914691236517205 : Int64))) >>> ((Int32.toInt64 (nI 2)).toUInt64 &&& Int64.toUInt64 63)).toInt64) &&& (3689348814741910323 : Int64))) + ((Int64.toUInt64 (((x0 - (((Int64.toUInt64 x0 >>> ((Int32.toInt64 (nI 1)).toUInt64 &&& Int64.toUInt64 63)).toInt64) &&& (6148914691236517205 : Int64))) &&& (3689348814741910323 : Int64)) + (((Int64.toUInt64 (x0 - (((Int64.toUInt64 x0 >>> ((Int32.toInt64 (nI 1)).toUInt64 &&& Int64.toUInt64 63)).toInt64) &&& (6148914691236517205 : Int64))) >>> ((Int32.toInt64 (nI 2)).toUInt64 &&& Int64.toUInt64 63)).toInt64) &&& (3689348814741910323 : Int64))) >>> ((Int32.toInt64 (nI 4)).toUInt64 &&& Int64.toUInt64 63)).toInt64)) &&& (1085102592571150095 : Int64)) + ((Int64.toUInt64 (((((x0 - (((Int64.toUInt64 x0 >>> ((Int32.toInt64 (nI 1)).toUInt64 &&& Int64.toUInt64 63)).toInt64) &&& (6148914691236517205 : Int64))) &&& (3689348814741910323 : Int64)) + (((Int64.toUInt64 (x0 - (((Int64.toUInt64 x0 >>> ((Int32.toInt64 (nI 1)).toUInt64 &&& Int64.toUInt64 63)).toInt64) &&& (6148914691236517205 : Int64))) >>> ((Int32.toInt64 (nI 2)).toUInt64 &&& Int64.toUInt64 63)).toInt64) &&& (3689348814741910323 : Int64))) + ((Int64.toUInt64 (((x0 - (((Int64.toUInt64 x0 >>> ((Int32.toInt64 (nI 1)).toUInt64 &&& Int64.toUInt64 63)).toInt64) &&& (6148914691236517205 : Int64))) &&& (3689348814741910323 : Int64)) + (((Int64.toUInt64 (x0 - (((Int64.toUInt64 x0 >>> ((Int32.toInt64 (nI 1)).toUInt64 &&& Int64.toUInt64 63)).toInt64) &&& (6148914691236517205 : Int64))) >>> ((Int32.toInt64 (nI 2)).toUInt64 &&& Int64.toUInt64 63)).toInt64) &&& (3689348814741910323 : Int64))) >>> ((Int32.toInt64 (nI 4)).toUInt64 &&& Int64.toUInt64 63)).toInt64)) &&& (1085102592571150095 : Int64)) >>> ((Int32.toInt64 (nI 8)).toUInt64 &&& Int64.toUInt64 63)).toInt64)) >>> ((Int32.toInt64 (nI 16)).toUInt64 &&& Int64.toUInt64 63)).toInt64)) + ((Int64.toUInt64 (((((((x0 - (((Int64.toUInt64 x0 >>> ((Int32.toInt64 (nI 1)).toUInt64 &&& Int64.toUInt64 63)).toInt64) &&& (6148914691236517205 : Int64))) &&& (3689348814741910323 : Int64)) + (((Int64.toUInt64 (x0 - (((Int64.toUInt64 x0 >>> ((Int32.toInt64 (nI 1)).toUInt64 &&& Int64.toUInt64 63)).toInt64) &&& (6148914691236517205 : Int64))) >>> ((Int32.toInt64 (nI 2)).toUInt64 &&& Int64.toUInt64 63)).toInt64) &&& (3689348814741910323 : Int64))) + ((Int64.toUInt64 (((x0 - (((Int64.toUInt64 x0 >>> ((Int32.toInt64 (nI 1)).toUInt64 &&& Int64.toUInt64 63)).toInt64) &&& (6148914691236517205 : Int64))) &&& (3689348814741910323 : Int64)) + (((Int64.toUInt64 (x0 - (((Int64.toUInt64 x0 >>> ((Int32.toInt64 (nI 1)).toUInt64 &&& Int64.toUInt64 63)).toInt64) &&& (6148914691236517205 : Int64))) >>> ((Int32.toInt64 (nI 2)).toUInt64 &&& Int64.toUInt64 63)).toInt64) &&& (3689348814741910323 : Int64))) >>> ((Int32.toInt64 (nI 4)).toUInt64 &&& Int64.toUInt64 63)).toInt64)) &&& (1085102592571150095 : Int64)) + ((Int64.toUInt64 (((((x0 - (((Int64.toUInt64 x0 >>> ((Int32.toInt64 (nI 1)).toUInt64 &&& Int64.toUInt64 63)).toInt64) &&& (6148914691236517205 : Int64))) &&& (3689348814741910323 : Int64)) + (((Int64.toUInt64 (x0 - (((Int64.toUInt64 x0 >>> ((Int32.toInt64 (nI 1)).toUInt64 &&& Int64.toUInt64 63)).toInt64) &&& (6148914691236517205 : Int64))) >>> ((Int32.toInt64 (nI 2)).toUInt64 &&& Int64.toUInt64 63)).toInt64) &&& (3689348814741910323 : Int64))) + ((Int64.toUInt64 (((x0 - (((Int64.toUInt64 x0 >>> ((Int32.toInt64 (nI 1)).toUInt64 &&& Int64.toUInt64 63)).toInt64) &&& (6148914691236517205 : Int64))) &&& (3689348814741910323 : Int64)) + (((Int64.toUInt64 (x0 - (((Int64.toUInt64 x0 >>> ((Int32.toInt64 (nI 1)).toUInt64 &&& Int64.toUInt64 63)).toInt64) &&& (6148914691236517205 : Int64))) >>> ((Int32.toInt64 (nI 2)).toUInt64 &&& Int64.toUInt64 63)).toInt64) &&& (3689348814741910323 : Int64))) >>> ((Int32.toInt64 (nI 4)).toUInt64 &&& Int64.toUInt64 63)).toInt64)) &&& (1085102592571150095 : Int64)) >>> ((Int32.toInt64 (nI 8)).toUInt64 &&& Int64.toUInt64 63)).toInt64)) + ((Int64.toUInt64 ((((((x0 - (((Int64.toUInt64 x0 >>> ((Int32.toInt64 (nI 1)).toUInt64 &&& Int64.toUInt64 63)).toInt64) &&& (6148914691236517205 : Int64))) &&& (3689348814741910323 : Int64)) + (((Int64.toUInt64 (x0 - (((Int64.toUInt64 x0 >>> ((Int32.toInt64 (nI 1)).toUInt64 &&& Int64.toUInt64 63)).toInt64) &&& (6148914691236517205 : Int64))) >>> ((Int32.toInt64 (nI 2)).toUInt64 &&& Int64.toUInt64 63)).toInt64) &&& (3689348814741910323 : Int64))) + ((Int64.toUInt64 (((x0 - (((Int64.toUInt64 x0 >>> ((Int32.toInt64 (nI 1)).toUInt64 &&& Int64.toUInt64 63)).toInt64) &&& (6148914691236517205 : Int64))) &&& (3689348814741910323 : Int64)) + (((Int64.toUInt64 (x0 - (((Int64.toUInt64 x0 >>> ((Int32.toInt64 (nI 1)).toUInt64 &&& Int64.toUInt64 63)).toInt64) &&& (6148914691236517205 : Int64))) >>> ((Int32.toInt64 (nI 2)).toUInt64 &&& Int64.toUInt64 63)).toInt64) &&& (3689348814741910323 : Int64))) >>> ((Int32.toInt64 (nI 4)).toUInt64 &&& Int64.toUInt64 63)).toInt64)) &&& (1085102592571150095 : Int64)) + ((Int64.toUInt64 (((((x0 - (((Int64.toUInt64 x0 >>> ((Int32.toInt64 (nI 1)).toUInt64 &&& Int64.toUInt64 63)).toInt64) &&& (6148914691236517205 : Int64))) &&& (3689348814741910323 : Int64)) + (((Int64.toUInt64 (x0 - (((Int64.toUInt64 x0 >>> ((Int32.toInt64 (nI 1)).toUInt64 &&& Int64.toUInt64 63)).toInt64) &&& (6148914691236517205 : Int64))) >>> ((Int32.toInt64 (nI 2)).toUInt64 &&& Int64.toUInt64 63)).toInt64) &&& (3689348814741910323 : Int64))) + ((Int64.toUInt64 (((x0 - (((Int64.toUInt64 x0 >>> ((Int32.toInt64 (nI 1)).toUInt64 &&& Int64.toUInt64 63)).toInt64) &&& (6148914691236517205 : Int64))) &&& (3689348814741910323 : Int64)) + (((Int64.toUInt64 (x0 - (((Int64.toUInt64 x0 >>> ((Int32.toInt64 (nI 1)).toUInt64 &&& Int64.toUInt64 63)).toInt64) &&& (6148914691236517205 : Int64))) >>> ((Int32.toInt64 (nI 2)).toUInt64 &&& Int64.toUInt64 63)).toInt64) &&& (3689348814741910323 : Int64))) >>> ((Int32.toInt64 (nI 4)).toUInt64 &&& Int64.toUInt64 63)).toInt64)) &&& (1085102592571150095 : Int64)) >>> ((Int32.toInt64 (nI 8)).toUInt64 &&& Int64.toUInt64 63)).toInt64)) >>> ((Int32.toInt64 (nI 16)).toUInt64 &&& Int64.toUInt64 63)).toInt64)) >>> ((Int32.toInt64 (nI 32)).toUInt64 &&& Int64.toUInt64 63)).toInt64)))]) X dJ13_bitCount_95d88_54 rfl (by decide) rfl ?_
    refine h_lload_n X dJ13_bitCount_95d88_55 rfl rfl ?_
    refine h_l2i X dJ13_bitCount_95d88_56 ?_
    refine h_bipush (v := (nI 127)) X dJ13_bitCount_95d88_57 (by decide) ?_
    refine h_iand X dJ13_bitCount_95d88_59 ?_
    exact h_iret X dJ13_bitCount_95d88_60
theorem moj13_bitCount (n : Nat) (x0 : Int64) (S : CS) : mo S (fj13_bitCount n x0 S) := by
    unfold fj13_bitCount
    exact m_some
theorem cj13_bitCount (hsf : sfOk (SF tk)) (l : Launch) (D : va_G) (cI : ClassId) (q : Nat → Nat) (n : Nat) (x0 : Int64) (S : CS) : MetW l D (tyC cI) (SF tk) (wC cI q) yJ13_bitCount_95d88 cJ13_bitCount_95d88 2 (some .int) 0 0 QWi [.long x0] S (fj13_bitCount n x0 S) := by
  refine MetW.of (own := RJ13) (by decide) rfl (Nat.le_of_ble_eq_true rfl) (moj13_bitCount n x0 S) ?_
  intro x p e s m args below meth c X
  refine h_pick (lv' := [(0, .long x0)]) [0] rfl ?_
  exact h_close (wj13_bitCount hsf X n x0 S)
theorem tcj13_bitCount : Cond.code yJ13_bitCount_95d88 cJ13_bitCount_95d88 2 (some .int) ∈ tt := tt_in (List.mem_of_getElem? (i := 641) (by decide +kernel)) (by decide +kernel)
theorem tsj13_bitCount : Cond.static yJ13_bitCount_95d88 ∈ tt := tt_in (List.mem_of_getElem? (i := 640) (by decide +kernel)) (by decide +kernel)
theorem kj13_bitCount (hsf : sfOk (SF tk)) (X : hX p s m args meth c cc nL own rt D (tyC cI) (SF tk) A) {n : Nat} {x0 : Int64} {ix : Nat} (hlk : Cond.methodLink own ix yJ13_bitCount_95d88 ∈ tt) {rest : List Value} {K : Int32 → CS → Option (ρ × CS)} (hR : 0 + 1 ≤ fr ∧ 8 + (2 + 11) + 0 ≤ lo) (hcat : (rest.map fun v => v.category).sum ≤ 8) (d : decode cc pc = .ok (.invokestatic ix, 3)) (kk : ∀ v S1, hG p l e (fun r => rmC fr lo (cS r.2 - cS S0) (sS r.2 - sS S0)) s m args below meth c nL (ZW D (wC cI q) A s.heap S0 S1) (cS S1 - cS S0) (sS S1 - sS S0) QQ (fun r => le S1 r.2) (pc + 3) lv (.int v :: rest) (K v S1)) : hG p l e (fun r => rmC fr lo (cS r.2 - cS S0) (sS r.2 - sS S0)) s m args below meth c nL (ZW D (wC cI q) A s.heap S0 S) (cS S - cS S0) (sS S - sS S0) QQ (fun r => le S r.2) pc lv (.long x0 :: rest) (bnd (fj13_bitCount n x0 S) K) := h_callSi (As := [.long x0]) (b := 0) (C := RX4) hsf X (cj13_bitCount hsf l D cI q n x0 S) (cwSC (k := 1) X.1.2.2.2.2.1 hlk tsj13_bitCount tcj13_bitCount ini_j13 (by decide +kernel) hR) rfl rfl hcat d kk
-- X4.rerunStale
theorem kcX4_117 : Cond.constantLong RX4 117 (-1 : Int64) ∈ tt := tt_in (List.mem_of_getElem? (i := 653) (by decide +kernel)) (by decide +kernel)
def f4_rerunStale_b87 (n : Nat) (k40 : Int64 → Int32 → Int32 → Int32 → CS → Option (Int32 × CS)) (x1 : Int64) (x3 : Int32) (x4 : Int32) (x5 : Int32) (S : CS) : Option (Int32 × CS) :=
    k40 x1 x3 x4 (x5 + (nI 1)) S
theorem mw4_rerunStale_b87 (n : Nat) (k40 : Int64 → Int32 → Int32 → Int32 → CS → Option (Int32 × CS)) (mhk40 : ∀ (x1 : Int64) (x3 : Int32) (x4 : Int32) (x5 : Int32) (S : CS), mo S (k40 x1 x3 x4 x5 S)) (x1 : Int64) (x3 : Int32) (x4 : Int32) (x5 : Int32) (S : CS) : mo S (f4_rerunStale_b87 n k40 x1 x3 x4 x5 S) := by
  unfold f4_rerunStale_b87
  exact mhk40 x1 x3 x4 (x5 + (nI 1)) S
theorem w4_rerunStale_b87 (hsf : sfOk (SF tk)) (X : hX p s m args meth c cX4_rerunStale 7 RX4 (some .int) D (tyC cI) (SF tk) A) (n : Nat) (k40 : Int64 → Int32 → Int32 → Int32 → CS → Option (Int32 × CS)) (hk40 : ∀ (x1 : Int64) (x3 : Int32) (x4 : Int32) (x5 : Int32) (S : CS), hG p l e (fun r => rmC 8 189 (cS r.2 - cS S0) (sS r.2 - sS S0)) s m args below meth c 7 (ZW D (wC cI q) A s.heap S0 S) (cS S - cS S0) (sS S - sS S0) (fun r => MQ below (QWi D (tyC cI) (wC cI q) A r) args s (cS r.2 - cS S0) (sS r.2 - sS S0) A) (fun r => le S r.2) 40 [(0, .ref (q 50)), (1, .long x1), (3, .int x3), (4, .int x4), (5, .int x5)] [] (k40 x1 x3 x4 x5 S)) (x1 : Int64) (x3 : Int32) (x4 : Int32) (x5 : Int32) (S : CS) : hG p l e (fun r => rmC 8 189 (cS r.2 - cS S0) (sS r.2 - sS S0)) s m args below meth c 7 (ZW D (wC cI q) A s.heap S0 S) (cS S - cS S0) (sS S - sS S0) (fun r => MQ below (QWi D (tyC cI) (wC cI q) A r) args s (cS r.2 - cS S0) (sS r.2 - sS S0) A) (fun r => le S r.2) 87 [(0, .ref (q 50)), (1, .long x1), (3, .int x3), (4, .int x4), (5, .int x5)] [] (f4_rerunStale_b87 n k40 x1 x3 x4 x5 S) := by
  unfold f4_rerunStale_b87
  refine h_iinc (v := (nI 1)) (lv' := [(5, .int (x5 + (nI 1))), (0, .ref (q 50)), (1, .long x1), (3, .int x3), (4, .int x4)]) X dX4_rerunStale_87 rfl (by decide) (by decide) rfl ?_
  refine h_goto (tgt := 40) X dX4_rerunStale_90 (by decide) ?_
  exact h_pick [1, 2, 3, 4, 0] rfl (hk40 x1 x3 x4 (x5 + (nI 1)) S)
theorem tlX4_114 : Cond.methodLink RX4 114 yX0_nextToRun ∈ tt := tt_in (List.mem_of_getElem? (i := 645) (by decide +kernel)) (by decide +kernel)
def f4_rerunStale_l40 (n : Nat) : Nat → Int64 → Int32 → Int32 → Int32 → CS → Option (Int32 × CS)
  | 0, _, _, _, _, _ => none
  | k + 1, x1, x3, x4, x5, S => if x3 ≤ x5 then
      (some (x4, S))
    else
      (bnd (f0_nextToRun n x1 S) fun v1 S1 =>
      bnd (f4_faultOfCell n v1 S1) fun v2 S2 =>
      if v2 = (-1 : Int32) then
        (bnd (f4_runCell n v1 S2) fun v3 S3 =>
        f4_rerunStale_b87 n (f4_rerunStale_l40 n k) (x1 &&& (((1 : Int64) <<< (Int32.toInt64 v1 &&& 63)) ^^^ (-1 : Int64))) x3 (x4 + (nI 1)) x5 S3)
      else
        (f4_rerunStale_b87 n (f4_rerunStale_l40 n k) (x1 &&& (((1 : Int64) <<< (Int32.toInt64 v1 &&& 63)) ^^^ (-1 : Int64))) x3 x4 x5 S2))
theorem mw4_rerunStale_l40 (n : Nat) : ∀ (k : Nat) (x1 : Int64) (x3 : Int32) (x4 : Int32) (x5 : Int32) (S : CS), mo S (f4_rerunStale_l40 n k x1 x3 x4 x5 S) := by
  intro k
  induction k with
  | zero =>
    intro x1 x3 x4 x5 S
    exact m_none
  | succ k ih =>
    intro x1 x3 x4 x5 S
    rw [f4_rerunStale_l40]
    refine m_ite ?_ ?_
    · exact m_some
    · refine m_bnd (mo0_nextToRun _ _ _) (fun v1 S1 => ?_)
      refine m_bnd (mo4_faultOfCell _ _ _) (fun v2 S2 => ?_)
      refine m_ite ?_ ?_
      · refine m_bnd (mo4_runCell _ _ _) (fun v3 S3 => ?_)
        exact mw4_rerunStale_b87 n (f4_rerunStale_l40 n k) ih (x1 &&& (((1 : Int64) <<< (Int32.toInt64 v1 &&& 63)) ^^^ (-1 : Int64))) x3 (x4 + (nI 1)) x5 S3
      · exact mw4_rerunStale_b87 n (f4_rerunStale_l40 n k) ih (x1 &&& (((1 : Int64) <<< (Int32.toInt64 v1 &&& 63)) ^^^ (-1 : Int64))) x3 x4 x5 S2
theorem w4_rerunStale_l40 (hsf : sfOk (SF tk)) (X : hX p s m args meth c cX4_rerunStale 7 RX4 (some .int) D (tyC cI) (SF tk) A) (n : Nat) : ∀ (k : Nat) (x1 : Int64) (x3 : Int32) (x4 : Int32) (x5 : Int32) (S : CS), hG p l e (fun r => rmC 8 189 (cS r.2 - cS S0) (sS r.2 - sS S0)) s m args below meth c 7 (ZW D (wC cI q) A s.heap S0 S) (cS S - cS S0) (sS S - sS S0) (fun r => MQ below (QWi D (tyC cI) (wC cI q) A r) args s (cS r.2 - cS S0) (sS r.2 - sS S0) A) (fun r => le S r.2) 40 [(0, .ref (q 50)), (1, .long x1), (3, .int x3), (4, .int x4), (5, .int x5)] [] (f4_rerunStale_l40 n k x1 x3 x4 x5 S) := by
  intro k
  induction k with
  | zero =>
    intro x1 x3 x4 x5 S
    exact h_none
  | succ k ih =>
    intro x1 x3 x4 x5 S
    rw [f4_rerunStale_l40]
    refine h_iload X dX4_rerunStale_40 rfl ?_
    refine h_iload_n X dX4_rerunStale_42 rfl rfl ?_
    refine h_icmp_ge (tgt := 93) X dX4_rerunStale_43 (by decide) ?_ ?_
    · refine h_iload X dX4_rerunStale_93 rfl ?_
      exact h_iret X dX4_rerunStale_95
    · refine h_aload_n X dX4_rerunStale_46 rfl rfl ?_
      refine c_g_B_now X fl4_35 dX4_rerunStale_47 ?_
      refine h_lload_n X dX4_rerunStale_50 rfl rfl ?_
      refine k0_nextToRun hsf X tlX4_114 ⟨Nat.le_of_ble_eq_true rfl, Nat.le_of_ble_eq_true rfl⟩ (Nat.le_of_ble_eq_true rfl) dX4_rerunStale_51 ?_
      intro v1 S1
      refine h_istore (lv' := [(6, .int v1), (0, .ref (q 50)), (1, .long x1), (3, .int x3), (4, .int x4), (5, .int x5)]) X dX4_rerunStale_54 (by decide) rfl ?_
      refine h_lload_n X dX4_rerunStale_56 rfl rfl ?_
      refine h_lconst (v := (1 : Int64)) X dX4_rerunStale_57 (by decide) ?_
      refine h_iload X dX4_rerunStale_58 rfl ?_
      refine h_lshl X dX4_rerunStale_60 ?_
      refine h_ldc2 (v := (-1 : Int64)) X kcX4_117 dX4_rerunStale_61 ?_
      refine h_lxor X dX4_rerunStale_64 ?_
      refine h_land X dX4_rerunStale_65 ?_
      refine h_lstore_n (lv' := [(1, .long (x1 &&& (((1 : Int64) <<< (Int32.toInt64 v1 &&& 63)) ^^^ (-1 : Int64)))), (6, .int v1), (0, .ref (q 50)), (3, .int x3), (4, .int x4), (5, .int x5)]) X dX4_rerunStale_66 rfl (by decide) rfl ?_
      refine h_aload_n X dX4_rerunStale_67 rfl rfl ?_
      refine h_iload X dX4_rerunStale_68 rfl ?_
      refine k4_faultOfCell hsf X tlX4_98 ⟨Nat.le_of_ble_eq_true rfl, Nat.le_of_ble_eq_true rfl⟩ (Nat.le_of_ble_eq_true rfl) dX4_rerunStale_70 ?_
      intro v2 S2
      refine h_iconst (v := (-1 : Int32)) X dX4_rerunStale_73 (by decide) ?_
      refine h_icmp_ne (tgt := 87) X dX4_rerunStale_74 (by decide) ?_ ?_
      · exact h_pick [2, 0, 3, 4, 5] rfl (w4_rerunStale_b87 hsf X n (f4_rerunStale_l40 n k) ih (x1 &&& (((1 : Int64) <<< (Int32.toInt64 v1 &&& 63)) ^^^ (-1 : Int64))) x3 x4 x5 S2)
      · refine h_aload_n X dX4_rerunStale_77 rfl rfl ?_
        refine h_iload X dX4_rerunStale_78 rfl ?_
        refine k4_runCell hsf X tlX4_89 ⟨Nat.le_of_ble_eq_true rfl, Nat.le_of_ble_eq_true rfl⟩ (Nat.le_of_ble_eq_true rfl) dX4_rerunStale_80 ?_
        intro v3 S3
        refine h_pop X dX4_rerunStale_83 rfl ?_
        refine h_iinc (v := (nI 1)) (lv' := [(4, .int (x4 + (nI 1))), (1, .long (x1 &&& (((1 : Int64) <<< (Int32.toInt64 v1 &&& 63)) ^^^ (-1 : Int64)))), (6, .int v1), (0, .ref (q 50)), (3, .int x3), (5, .int x5)]) X dX4_rerunStale_84 rfl (by decide) (by decide) rfl ?_
        exact h_pick [3, 1, 4, 0, 5] rfl (w4_rerunStale_b87 hsf X n (f4_rerunStale_l40 n k) ih (x1 &&& (((1 : Int64) <<< (Int32.toInt64 v1 &&& 63)) ^^^ (-1 : Int64))) x3 (x4 + (nI 1)) x5 S3)
theorem tlX4_101 : Cond.methodLink RX4 101 yX0_staleCells ∈ tt := tt_in (List.mem_of_getElem? (i := 624) (by decide +kernel)) (by decide +kernel)
theorem tlX4_105 : Cond.methodLink RX4 105 yJ13_bitCount_95d88 ∈ tt := tt_in (List.mem_of_getElem? (i := 639) (by decide +kernel)) (by decide +kernel)
def f4_rerunStale (n : Nat) (S : CS) : Option (Int32 × CS) :=
    bnd (f0_staleCells n S) fun v1 S1 =>
    bnd (fj13_bitCount n v1 S1) fun v2 S2 =>
    bT 6 S2 (f2_size n (tOf 6 S2)) fun v3 S3 =>
    if (v3 + v2) ≤ (nI 150) then (f4_rerunStale_l40 n n v1 v2 (nI 0) (nI 0) S3) else (some ((-2 : Int32), S3))
theorem w4_rerunStale (hsf : sfOk (SF tk)) (X : hX p s m args meth c cX4_rerunStale 7 RX4 (some .int) D (tyC cI) (SF tk) A) {S0 : CS} (n : Nat) (S : CS) : hG p l e (fun r => rmC 8 189 (cS r.2 - cS S0) (sS r.2 - sS S0)) s m args below meth c 7 (ZW D (wC cI q) A s.heap S0 S) (cS S - cS S0) (sS S - sS S0) (fun r => MQ below (QWi D (tyC cI) (wC cI q) A r) args s (cS r.2 - cS S0) (sS r.2 - sS S0) A) (fun r => le S r.2) 0 [(0, .ref (q 50))] [] (f4_rerunStale n S) := by
    unfold f4_rerunStale
    refine h_aload_n X dX4_rerunStale_0 rfl rfl ?_
    refine c_g_B_now X fl4_35 dX4_rerunStale_1 ?_
    refine k0_staleCells hsf X tlX4_101 ⟨Nat.le_of_ble_eq_true rfl, Nat.le_of_ble_eq_true rfl⟩ (Nat.le_of_ble_eq_true rfl) dX4_rerunStale_4 ?_
    intro v1 S1
    refine h_lstore_n (lv' := [(1, .long v1), (0, .ref (q 50))]) X dX4_rerunStale_7 rfl (by decide) rfl ?_
    refine h_lload_n X dX4_rerunStale_8 rfl rfl ?_
    refine kj13_bitCount hsf X tlX4_105 ⟨Nat.le_of_ble_eq_true rfl, Nat.le_of_ble_eq_true rfl⟩ (Nat.le_of_ble_eq_true rfl) dX4_rerunStale_9 ?_
    intro v2 S2
    refine h_istore_n (lv' := [(3, .int v2), (1, .long v1), (0, .ref (q 50))]) X dX4_rerunStale_12 rfl (by decide) rfl ?_
    refine h_aload_n X dX4_rerunStale_13 rfl rfl ?_
    refine c_g_B_now X fl4_35 dX4_rerunStale_14 ?_
    refine c_g_IM_editions X fl4_111 dX4_rerunStale_17 ?_
    refine kt2_size_6 hsf X tlX4_68 ⟨Nat.le_of_ble_eq_true rfl, Nat.le_of_ble_eq_true rfl⟩ (Nat.le_of_ble_eq_true rfl) dX4_rerunStale_20 ?_
    intro v3 S3
    refine h_iload_n X dX4_rerunStale_23 rfl rfl ?_
    refine h_iadd X dX4_rerunStale_24 ?_
    refine h_sipush (v := (nI 150)) X dX4_rerunStale_25 (by decide) ?_
    refine h_icmp_le (tgt := 34) X dX4_rerunStale_28 (by decide) ?_ ?_
    · refine h_iconst (v := (nI 0)) X dX4_rerunStale_34 (by decide) ?_
      refine h_istore (lv' := [(4, .int (nI 0)), (3, .int v2), (1, .long v1), (0, .ref (q 50))]) X dX4_rerunStale_35 (by decide) rfl ?_
      refine h_iconst (v := (nI 0)) X dX4_rerunStale_37 (by decide) ?_
      refine h_istore (lv' := [(5, .int (nI 0)), (4, .int (nI 0)), (3, .int v2), (1, .long v1), (0, .ref (q 50))]) X dX4_rerunStale_38 (by decide) rfl ?_
      exact h_pick [4, 3, 2, 1, 0] rfl (w4_rerunStale_l40 hsf X n n v1 v2 (nI 0) (nI 0) S3)
    · refine h_bipush (v := (-2 : Int32)) X dX4_rerunStale_31 (by decide) ?_
      exact h_iret X dX4_rerunStale_33
theorem mo4_rerunStale (n : Nat) (S : CS) : mo S (f4_rerunStale n S) := by
    unfold f4_rerunStale
    refine m_bnd (mo0_staleCells _ _) (fun v1 S1 => ?_)
    refine m_bnd (moj13_bitCount _ _ _) (fun v2 S2 => ?_)
    refine m_bT (mo2_size _ _) (fun v3 S3 => ?_)
    refine m_ite ?_ ?_
    · exact mw4_rerunStale_l40 n n v1 v2 (nI 0) (nI 0) S3
    · exact m_some
theorem c4_rerunStale (hsf : sfOk (SF tk)) (l : Launch) (D : va_G) (cI : ClassId) (q : Nat → Nat) (n : Nat) (S : CS) : MetW l D (tyC cI) (SF tk) (wC cI q) yX4_rerunStale cX4_rerunStale 7 (some .int) 8 189 QWi [.ref (q 50)] S (f4_rerunStale n S) := by
  refine MetW.of (own := RX4) (by decide) rfl (Nat.le_of_ble_eq_true rfl) (mo4_rerunStale n S) ?_
  intro x p e s m args below meth c X
  refine h_pick (lv' := [(0, .ref (q 50))]) [0] rfl ?_
  exact h_close (w4_rerunStale hsf X n S)
end CM
