theorem dX0_nextToStart_0 : decode cX0_nextToStart 0 = .ok (.iconst (-1), 1) := by decide +kernel
theorem dX0_nextToStart_1 : decode cX0_nextToStart 1 = .ok (.istore_n 2, 1) := by decide +kernel
theorem dX0_nextToStart_2 : decode cX0_nextToStart 2 = .ok (.iload_n 1, 1) := by decide +kernel
theorem dX0_nextToStart_3 : decode cX0_nextToStart 3 = .ok (.istore_n 3, 1) := by decide +kernel
theorem dX0_nextToStart_4 : decode cX0_nextToStart 4 = .ok (.iconst 0, 1) := by decide +kernel
theorem dX0_nextToStart_5 : decode cX0_nextToStart 5 = .ok (.istore 4, 2) := by decide +kernel
theorem dX0_nextToStart_7 : decode cX0_nextToStart 7 = .ok (.iload 4, 2) := by decide +kernel
theorem dX0_nextToStart_9 : decode cX0_nextToStart 9 = .ok (.sipush 150, 3) := by decide +kernel
theorem dX0_nextToStart_12 : decode cX0_nextToStart 12 = .ok (.if_icmp .ge 39, 3) := by decide +kernel
theorem dX0_nextToStart_15 : decode cX0_nextToStart 15 = .ok (.iload_n 3, 1) := by decide +kernel
theorem dX0_nextToStart_16 : decode cX0_nextToStart 16 = .ok (.iconst (-1), 1) := by decide +kernel
theorem dX0_nextToStart_17 : decode cX0_nextToStart 17 = .ok (.if_icmp .eq 34, 3) := by decide +kernel
theorem dX0_nextToStart_20 : decode cX0_nextToStart 20 = .ok (.aload_n 0, 1) := by decide +kernel
theorem dX0_nextToStart_21 : decode cX0_nextToStart 21 = .ok (.getfield 20, 3) := by decide +kernel
theorem dX0_nextToStart_24 : decode cX0_nextToStart 24 = .ok (.iload_n 3, 1) := by decide +kernel
theorem dX0_nextToStart_25 : decode cX0_nextToStart 25 = .ok (.bipush 6, 2) := by decide +kernel
theorem dX0_nextToStart_27 : decode cX0_nextToStart 27 = .ok (.invokevirtual 57, 3) := by decide +kernel
theorem dX0_nextToStart_30 : decode cX0_nextToStart 30 = .ok (.ifCond .ne 5, 3) := by decide +kernel
theorem dX0_nextToStart_33 : decode cX0_nextToStart 33 = .ok (.iload_n 3, 1) := by decide +kernel
theorem dX0_nextToStart_34 : decode cX0_nextToStart 34 = .ok (.istore_n 2, 1) := by decide +kernel
theorem dX0_nextToStart_35 : decode cX0_nextToStart 35 = .ok (.aload_n 0, 1) := by decide +kernel
theorem dX0_nextToStart_36 : decode cX0_nextToStart 36 = .ok (.getfield 20, 3) := by decide +kernel
theorem dX0_nextToStart_39 : decode cX0_nextToStart 39 = .ok (.iload_n 3, 1) := by decide +kernel
theorem dX0_nextToStart_40 : decode cX0_nextToStart 40 = .ok (.iconst 5, 1) := by decide +kernel
theorem dX0_nextToStart_41 : decode cX0_nextToStart 41 = .ok (.invokevirtual 57, 3) := by decide +kernel
theorem dX0_nextToStart_44 : decode cX0_nextToStart 44 = .ok (.istore_n 3, 1) := by decide +kernel
theorem dX0_nextToStart_45 : decode cX0_nextToStart 45 = .ok (.iinc 4 1, 3) := by decide +kernel
theorem dX0_nextToStart_48 : decode cX0_nextToStart 48 = .ok (.goto (-41), 3) := by decide +kernel
theorem dX0_nextToStart_51 : decode cX0_nextToStart 51 = .ok (.iload_n 2, 1) := by decide +kernel
theorem dX0_nextToStart_52 : decode cX0_nextToStart 52 = .ok (.ireturn, 1) := by decide +kernel
theorem dX0_beginUpToStart_0 : decode cX0_beginUpToStart 0 = .ok (.aload_n 0, 1) := by decide +kernel
theorem dX0_beginUpToStart_1 : decode cX0_beginUpToStart 1 = .ok (.iload_n 1, 1) := by decide +kernel
theorem dX0_beginUpToStart_2 : decode cX0_beginUpToStart 2 = .ok (.invokevirtual 99, 3) := by decide +kernel
theorem dX0_beginUpToStart_5 : decode cX0_beginUpToStart 5 = .ok (.istore_n 2, 1) := by decide +kernel
theorem dX0_beginUpToStart_6 : decode cX0_beginUpToStart 6 = .ok (.iconst 0, 1) := by decide +kernel
theorem dX0_beginUpToStart_7 : decode cX0_beginUpToStart 7 = .ok (.istore_n 3, 1) := by decide +kernel
theorem dX0_beginUpToStart_8 : decode cX0_beginUpToStart 8 = .ok (.iload_n 3, 1) := by decide +kernel
theorem dX0_beginUpToStart_9 : decode cX0_beginUpToStart 9 = .ok (.sipush 150, 3) := by decide +kernel
theorem dX0_beginUpToStart_12 : decode cX0_beginUpToStart 12 = .ok (.if_icmp .ge 56, 3) := by decide +kernel
theorem dX0_beginUpToStart_15 : decode cX0_beginUpToStart 15 = .ok (.iload_n 2, 1) := by decide +kernel
theorem dX0_beginUpToStart_16 : decode cX0_beginUpToStart 16 = .ok (.iconst (-1), 1) := by decide +kernel
theorem dX0_beginUpToStart_17 : decode cX0_beginUpToStart 17 = .ok (.if_icmp .eq 51, 3) := by decide +kernel
theorem dX0_beginUpToStart_20 : decode cX0_beginUpToStart 20 = .ok (.aload_n 0, 1) := by decide +kernel
theorem dX0_beginUpToStart_21 : decode cX0_beginUpToStart 21 = .ok (.getfield 20, 3) := by decide +kernel
theorem dX0_beginUpToStart_24 : decode cX0_beginUpToStart 24 = .ok (.iload_n 2, 1) := by decide +kernel
theorem dX0_beginUpToStart_25 : decode cX0_beginUpToStart 25 = .ok (.bipush 7, 2) := by decide +kernel
theorem dX0_beginUpToStart_27 : decode cX0_beginUpToStart 27 = .ok (.invokevirtual 57, 3) := by decide +kernel
theorem dX0_beginUpToStart_30 : decode cX0_beginUpToStart 30 = .ok (.aload_n 0, 1) := by decide +kernel
theorem dX0_beginUpToStart_31 : decode cX0_beginUpToStart 31 = .ok (.getfield 20, 3) := by decide +kernel
theorem dX0_beginUpToStart_34 : decode cX0_beginUpToStart 34 = .ok (.iload_n 2, 1) := by decide +kernel
theorem dX0_beginUpToStart_35 : decode cX0_beginUpToStart 35 = .ok (.bipush 8, 2) := by decide +kernel
theorem dX0_beginUpToStart_37 : decode cX0_beginUpToStart 37 = .ok (.invokevirtual 57, 3) := by decide +kernel
theorem dX0_beginUpToStart_40 : decode cX0_beginUpToStart 40 = .ok (.if_icmp .ge 5, 3) := by decide +kernel
theorem dX0_beginUpToStart_43 : decode cX0_beginUpToStart 43 = .ok (.iload_n 2, 1) := by decide +kernel
theorem dX0_beginUpToStart_44 : decode cX0_beginUpToStart 44 = .ok (.ireturn, 1) := by decide +kernel
theorem dX0_beginUpToStart_45 : decode cX0_beginUpToStart 45 = .ok (.aload_n 0, 1) := by decide +kernel
theorem dX0_beginUpToStart_46 : decode cX0_beginUpToStart 46 = .ok (.getfield 20, 3) := by decide +kernel
theorem dX0_beginUpToStart_49 : decode cX0_beginUpToStart 49 = .ok (.iload_n 2, 1) := by decide +kernel
theorem dX0_beginUpToStart_50 : decode cX0_beginUpToStart 50 = .ok (.bipush 6, 2) := by decide +kernel
theorem dX0_beginUpToStart_52 : decode cX0_beginUpToStart 52 = .ok (.iconst 1, 1) := by decide +kernel
theorem dX0_beginUpToStart_53 : decode cX0_beginUpToStart 53 = .ok (.invokevirtual 68, 3) := by decide +kernel
theorem dX0_beginUpToStart_56 : decode cX0_beginUpToStart 56 = .ok (.aload_n 0, 1) := by decide +kernel
theorem dX0_beginUpToStart_57 : decode cX0_beginUpToStart 57 = .ok (.iload_n 1, 1) := by decide +kernel
theorem dX0_beginUpToStart_58 : decode cX0_beginUpToStart 58 = .ok (.invokevirtual 99, 3) := by decide +kernel
theorem dX0_beginUpToStart_61 : decode cX0_beginUpToStart 61 = .ok (.istore_n 2, 1) := by decide +kernel
theorem dX0_beginUpToStart_62 : decode cX0_beginUpToStart 62 = .ok (.iinc 3 1, 3) := by decide +kernel
theorem dX0_beginUpToStart_65 : decode cX0_beginUpToStart 65 = .ok (.goto (-57), 3) := by decide +kernel
theorem dX0_beginUpToStart_68 : decode cX0_beginUpToStart 68 = .ok (.iconst (-1), 1) := by decide +kernel
theorem dX0_beginUpToStart_69 : decode cX0_beginUpToStart 69 = .ok (.ireturn, 1) := by decide +kernel
theorem dX0_addObject_0 : decode cX0_addObject 0 = .ok (.aload_n 0, 1) := by decide +kernel
theorem dX0_addObject_1 : decode cX0_addObject 1 = .ok (.getfield 23, 3) := by decide +kernel
theorem dX0_addObject_4 : decode cX0_addObject 4 = .ok (.invokevirtual 65, 3) := by decide +kernel
theorem dX0_addObject_7 : decode cX0_addObject 7 = .ok (.istore_n 2, 1) := by decide +kernel
theorem dX0_addObject_8 : decode cX0_addObject 8 = .ok (.aload_n 0, 1) := by decide +kernel
theorem dX0_addObject_9 : decode cX0_addObject 9 = .ok (.getfield 23, 3) := by decide +kernel
theorem dX0_addObject_12 : decode cX0_addObject 12 = .ok (.iload_n 2, 1) := by decide +kernel
theorem dX0_addObject_13 : decode cX0_addObject 13 = .ok (.iconst 0, 1) := by decide +kernel
theorem dX0_addObject_14 : decode cX0_addObject 14 = .ok (.iload_n 1, 1) := by decide +kernel
theorem dX0_addObject_15 : decode cX0_addObject 15 = .ok (.invokevirtual 68, 3) := by decide +kernel
theorem dX0_addObject_18 : decode cX0_addObject 18 = .ok (.iconst 0, 1) := by decide +kernel
theorem dX0_addObject_19 : decode cX0_addObject 19 = .ok (.istore_n 3, 1) := by decide +kernel
theorem dX0_addObject_20 : decode cX0_addObject 20 = .ok (.iload_n 3, 1) := by decide +kernel
theorem dX0_addObject_21 : decode cX0_addObject 21 = .ok (.bipush 10, 2) := by decide +kernel
theorem dX0_addObject_23 : decode cX0_addObject 23 = .ok (.if_icmp .ge 86, 3) := by decide +kernel
theorem dX0_addObject_26 : decode cX0_addObject 26 = .ok (.aload_n 0, 1) := by decide +kernel
theorem dX0_addObject_27 : decode cX0_addObject 27 = .ok (.getfield 20, 3) := by decide +kernel
theorem dX0_addObject_30 : decode cX0_addObject 30 = .ok (.iload_n 1, 1) := by decide +kernel
theorem dX0_addObject_31 : decode cX0_addObject 31 = .ok (.bipush 24, 2) := by decide +kernel
theorem dX0_addObject_33 : decode cX0_addObject 33 = .ok (.iload_n 3, 1) := by decide +kernel
theorem dX0_addObject_34 : decode cX0_addObject 34 = .ok (.iadd, 1) := by decide +kernel
theorem dX0_addObject_35 : decode cX0_addObject 35 = .ok (.invokevirtual 57, 3) := by decide +kernel
theorem dX0_addObject_38 : decode cX0_addObject 38 = .ok (.iconst 1, 1) := by decide +kernel
theorem dX0_addObject_39 : decode cX0_addObject 39 = .ok (.if_icmp .ne 7, 3) := by decide +kernel
theorem dX0_addObject_42 : decode cX0_addObject 42 = .ok (.iconst 1, 1) := by decide +kernel
theorem dX0_addObject_43 : decode cX0_addObject 43 = .ok (.goto 4, 3) := by decide +kernel
theorem dX0_addObject_46 : decode cX0_addObject 46 = .ok (.iconst 0, 1) := by decide +kernel
theorem dX0_addObject_47 : decode cX0_addObject 47 = .ok (.istore 4, 2) := by decide +kernel
theorem dX0_addObject_49 : decode cX0_addObject 49 = .ok (.aload_n 0, 1) := by decide +kernel
theorem dX0_addObject_50 : decode cX0_addObject 50 = .ok (.getfield 23, 3) := by decide +kernel
theorem dX0_addObject_53 : decode cX0_addObject 53 = .ok (.iload_n 2, 1) := by decide +kernel
theorem dX0_addObject_54 : decode cX0_addObject 54 = .ok (.iconst 1, 1) := by decide +kernel
theorem dX0_addObject_55 : decode cX0_addObject 55 = .ok (.iload_n 3, 1) := by decide +kernel
theorem dX0_addObject_56 : decode cX0_addObject 56 = .ok (.iadd, 1) := by decide +kernel
theorem dX0_addObject_57 : decode cX0_addObject 57 = .ok (.iload 4, 2) := by decide +kernel
theorem dX0_addObject_59 : decode cX0_addObject 59 = .ok (.ifCond .eq 7, 3) := by decide +kernel
theorem dX0_addObject_62 : decode cX0_addObject 62 = .ok (.iconst 0, 1) := by decide +kernel
theorem dX0_addObject_63 : decode cX0_addObject 63 = .ok (.goto 4, 3) := by decide +kernel
theorem dX0_addObject_66 : decode cX0_addObject 66 = .ok (.iconst (-1), 1) := by decide +kernel
theorem dX0_addObject_67 : decode cX0_addObject 67 = .ok (.invokevirtual 68, 3) := by decide +kernel
theorem dX0_addObject_70 : decode cX0_addObject 70 = .ok (.aload_n 0, 1) := by decide +kernel
theorem dX0_addObject_71 : decode cX0_addObject 71 = .ok (.getfield 23, 3) := by decide +kernel
theorem dX0_addObject_74 : decode cX0_addObject 74 = .ok (.iload_n 2, 1) := by decide +kernel
theorem dX0_addObject_75 : decode cX0_addObject 75 = .ok (.bipush 11, 2) := by decide +kernel
theorem dX0_addObject_77 : decode cX0_addObject 77 = .ok (.iload_n 3, 1) := by decide +kernel
theorem dX0_addObject_78 : decode cX0_addObject 78 = .ok (.iadd, 1) := by decide +kernel
theorem dX0_addObject_79 : decode cX0_addObject 79 = .ok (.iload 4, 2) := by decide +kernel
theorem dX0_addObject_81 : decode cX0_addObject 81 = .ok (.ifCond .eq 18, 3) := by decide +kernel
theorem dX0_addObject_84 : decode cX0_addObject 84 = .ok (.aload_n 0, 1) := by decide +kernel
theorem dX0_addObject_85 : decode cX0_addObject 85 = .ok (.getfield 20, 3) := by decide +kernel
theorem dX0_addObject_88 : decode cX0_addObject 88 = .ok (.iload_n 1, 1) := by decide +kernel
theorem dX0_addObject_89 : decode cX0_addObject 89 = .ok (.bipush 34, 2) := by decide +kernel
theorem dX0_addObject_91 : decode cX0_addObject 91 = .ok (.iload_n 3, 1) := by decide +kernel
theorem dX0_addObject_92 : decode cX0_addObject 92 = .ok (.iadd, 1) := by decide +kernel
theorem dX0_addObject_93 : decode cX0_addObject 93 = .ok (.invokevirtual 57, 3) := by decide +kernel
theorem dX0_addObject_96 : decode cX0_addObject 96 = .ok (.goto 4, 3) := by decide +kernel
theorem dX0_addObject_99 : decode cX0_addObject 99 = .ok (.iconst 0, 1) := by decide +kernel
theorem dX0_addObject_100 : decode cX0_addObject 100 = .ok (.invokevirtual 68, 3) := by decide +kernel
theorem dX0_addObject_103 : decode cX0_addObject 103 = .ok (.iinc 3 1, 3) := by decide +kernel
theorem dX0_addObject_106 : decode cX0_addObject 106 = .ok (.goto (-86), 3) := by decide +kernel
theorem dX0_addObject_109 : decode cX0_addObject 109 = .ok (.iload_n 2, 1) := by decide +kernel
theorem dX0_addObject_110 : decode cX0_addObject 110 = .ok (.ireturn, 1) := by decide +kernel
theorem dX0_hasField_0 : decode cX0_hasField 0 = .ok (.aload_n 0, 1) := by decide +kernel
theorem dX0_hasField_1 : decode cX0_hasField 1 = .ok (.getfield 23, 3) := by decide +kernel
theorem dX0_hasField_4 : decode cX0_hasField 4 = .ok (.iload_n 1, 1) := by decide +kernel
theorem dX0_hasField_5 : decode cX0_hasField 5 = .ok (.invokevirtual 54, 3) := by decide +kernel
theorem dX0_hasField_8 : decode cX0_hasField 8 = .ok (.ifCond .eq 22, 3) := by decide +kernel
theorem dX0_hasField_11 : decode cX0_hasField 11 = .ok (.aload_n 0, 1) := by decide +kernel
theorem dX0_hasField_12 : decode cX0_hasField 12 = .ok (.getfield 23, 3) := by decide +kernel
theorem dX0_hasField_15 : decode cX0_hasField 15 = .ok (.iload_n 1, 1) := by decide +kernel
theorem dX0_hasField_16 : decode cX0_hasField 16 = .ok (.iconst 1, 1) := by decide +kernel
theorem dX0_hasField_17 : decode cX0_hasField 17 = .ok (.iload_n 2, 1) := by decide +kernel
theorem dX0_hasField_18 : decode cX0_hasField 18 = .ok (.iadd, 1) := by decide +kernel
theorem dX0_hasField_19 : decode cX0_hasField 19 = .ok (.invokevirtual 57, 3) := by decide +kernel
theorem dX0_hasField_22 : decode cX0_hasField 22 = .ok (.iconst (-1), 1) := by decide +kernel
theorem dX0_hasField_23 : decode cX0_hasField 23 = .ok (.if_icmp .eq 7, 3) := by decide +kernel
theorem dX0_hasField_26 : decode cX0_hasField 26 = .ok (.iconst 1, 1) := by decide +kernel
theorem dX0_hasField_27 : decode cX0_hasField 27 = .ok (.goto 4, 3) := by decide +kernel
theorem dX0_hasField_30 : decode cX0_hasField 30 = .ok (.iconst 0, 1) := by decide +kernel
theorem dX0_hasField_31 : decode cX0_hasField 31 = .ok (.ireturn, 1) := by decide +kernel
theorem dX0_setField_0 : decode cX0_setField 0 = .ok (.aload_n 0, 1) := by decide +kernel
theorem dX0_setField_1 : decode cX0_setField 1 = .ok (.getfield 23, 3) := by decide +kernel
theorem dX0_setField_4 : decode cX0_setField 4 = .ok (.iload_n 1, 1) := by decide +kernel
theorem dX0_setField_5 : decode cX0_setField 5 = .ok (.iconst 1, 1) := by decide +kernel
theorem dX0_setField_6 : decode cX0_setField 6 = .ok (.iload_n 2, 1) := by decide +kernel
theorem dX0_setField_7 : decode cX0_setField 7 = .ok (.iadd, 1) := by decide +kernel
theorem dX0_setField_8 : decode cX0_setField 8 = .ok (.iload_n 3, 1) := by decide +kernel
theorem dX0_setField_9 : decode cX0_setField 9 = .ok (.invokevirtual 68, 3) := by decide +kernel
theorem dX0_setField_12 : decode cX0_setField 12 = .ok (.aload_n 0, 1) := by decide +kernel
theorem dX0_setField_13 : decode cX0_setField 13 = .ok (.getfield 23, 3) := by decide +kernel
theorem dX0_setField_16 : decode cX0_setField 16 = .ok (.iload_n 1, 1) := by decide +kernel
theorem dX0_setField_17 : decode cX0_setField 17 = .ok (.bipush 11, 2) := by decide +kernel
theorem dX0_setField_19 : decode cX0_setField 19 = .ok (.iload_n 2, 1) := by decide +kernel
theorem dX0_setField_20 : decode cX0_setField 20 = .ok (.iadd, 1) := by decide +kernel
theorem dX0_setField_21 : decode cX0_setField 21 = .ok (.iload 4, 2) := by decide +kernel
theorem dX0_setField_23 : decode cX0_setField 23 = .ok (.invokevirtual 68, 3) := by decide +kernel
theorem dX0_setField_26 : decode cX0_setField 26 = .ok (.return_, 1) := by decide +kernel
theorem dX0_carryFields_0 : decode cX0_carryFields 0 = .ok (.iconst 0, 1) := by decide +kernel
theorem dX0_carryFields_1 : decode cX0_carryFields 1 = .ok (.istore_n 3, 1) := by decide +kernel
theorem dX0_carryFields_2 : decode cX0_carryFields 2 = .ok (.iload_n 3, 1) := by decide +kernel
theorem dX0_carryFields_3 : decode cX0_carryFields 3 = .ok (.bipush 10, 2) := by decide +kernel
theorem dX0_carryFields_5 : decode cX0_carryFields 5 = .ok (.if_icmp .ge 56, 3) := by decide +kernel
theorem dX0_carryFields_8 : decode cX0_carryFields 8 = .ok (.aload_n 0, 1) := by decide +kernel
theorem dX0_carryFields_9 : decode cX0_carryFields 9 = .ok (.iload_n 1, 1) := by decide +kernel
theorem dX0_carryFields_10 : decode cX0_carryFields 10 = .ok (.iload_n 3, 1) := by decide +kernel
theorem dX0_carryFields_11 : decode cX0_carryFields 11 = .ok (.invokevirtual 102, 3) := by decide +kernel
theorem dX0_carryFields_14 : decode cX0_carryFields 14 = .ok (.ifCond .eq 41, 3) := by decide +kernel
theorem dX0_carryFields_17 : decode cX0_carryFields 17 = .ok (.aload_n 0, 1) := by decide +kernel
theorem dX0_carryFields_18 : decode cX0_carryFields 18 = .ok (.iload_n 2, 1) := by decide +kernel
theorem dX0_carryFields_19 : decode cX0_carryFields 19 = .ok (.iload_n 3, 1) := by decide +kernel
theorem dX0_carryFields_20 : decode cX0_carryFields 20 = .ok (.invokevirtual 102, 3) := by decide +kernel
theorem dX0_carryFields_23 : decode cX0_carryFields 23 = .ok (.ifCond .eq 32, 3) := by decide +kernel
theorem dX0_carryFields_26 : decode cX0_carryFields 26 = .ok (.aload_n 0, 1) := by decide +kernel
theorem dX0_carryFields_27 : decode cX0_carryFields 27 = .ok (.iload_n 2, 1) := by decide +kernel
theorem dX0_carryFields_28 : decode cX0_carryFields 28 = .ok (.iload_n 3, 1) := by decide +kernel
theorem dX0_carryFields_29 : decode cX0_carryFields 29 = .ok (.aload_n 0, 1) := by decide +kernel
theorem dX0_carryFields_30 : decode cX0_carryFields 30 = .ok (.getfield 23, 3) := by decide +kernel
theorem dX0_carryFields_33 : decode cX0_carryFields 33 = .ok (.iload_n 1, 1) := by decide +kernel
theorem dX0_carryFields_34 : decode cX0_carryFields 34 = .ok (.iconst 1, 1) := by decide +kernel
theorem dX0_carryFields_35 : decode cX0_carryFields 35 = .ok (.iload_n 3, 1) := by decide +kernel
theorem dX0_carryFields_36 : decode cX0_carryFields 36 = .ok (.iadd, 1) := by decide +kernel
theorem dX0_carryFields_37 : decode cX0_carryFields 37 = .ok (.invokevirtual 57, 3) := by decide +kernel
theorem dX0_carryFields_40 : decode cX0_carryFields 40 = .ok (.aload_n 0, 1) := by decide +kernel
theorem dX0_carryFields_41 : decode cX0_carryFields 41 = .ok (.getfield 23, 3) := by decide +kernel
theorem dX0_carryFields_44 : decode cX0_carryFields 44 = .ok (.iload_n 1, 1) := by decide +kernel
theorem dX0_carryFields_45 : decode cX0_carryFields 45 = .ok (.bipush 11, 2) := by decide +kernel
theorem dX0_carryFields_47 : decode cX0_carryFields 47 = .ok (.iload_n 3, 1) := by decide +kernel
theorem dX0_carryFields_48 : decode cX0_carryFields 48 = .ok (.iadd, 1) := by decide +kernel
theorem dX0_carryFields_49 : decode cX0_carryFields 49 = .ok (.invokevirtual 57, 3) := by decide +kernel
theorem dX0_carryFields_52 : decode cX0_carryFields 52 = .ok (.invokevirtual 106, 3) := by decide +kernel
theorem dX0_carryFields_55 : decode cX0_carryFields 55 = .ok (.iinc 3 1, 3) := by decide +kernel
theorem dX0_carryFields_58 : decode cX0_carryFields 58 = .ok (.goto (-56), 3) := by decide +kernel
theorem dX0_carryFields_61 : decode cX0_carryFields 61 = .ok (.return_, 1) := by decide +kernel
theorem dX0_addCell_0 : decode cX0_addCell 0 = .ok (.aload_n 0, 1) := by decide +kernel
theorem dX0_addCell_1 : decode cX0_addCell 1 = .ok (.getfield 16, 3) := by decide +kernel
theorem dX0_addCell_4 : decode cX0_addCell 4 = .ok (.invokevirtual 65, 3) := by decide +kernel
theorem dX0_addCell_7 : decode cX0_addCell 7 = .ok (.istore_n 3, 1) := by decide +kernel
theorem dX0_addCell_8 : decode cX0_addCell 8 = .ok (.aload_n 0, 1) := by decide +kernel
theorem dX0_addCell_9 : decode cX0_addCell 9 = .ok (.getfield 16, 3) := by decide +kernel
theorem dX0_addCell_12 : decode cX0_addCell 12 = .ok (.iload_n 3, 1) := by decide +kernel
theorem dX0_addCell_13 : decode cX0_addCell 13 = .ok (.iconst 5, 1) := by decide +kernel
theorem dX0_addCell_14 : decode cX0_addCell 14 = .ok (.iload_n 1, 1) := by decide +kernel
theorem dX0_addCell_15 : decode cX0_addCell 15 = .ok (.invokevirtual 68, 3) := by decide +kernel
theorem dX0_addCell_18 : decode cX0_addCell 18 = .ok (.aload_n 0, 1) := by decide +kernel
theorem dX0_addCell_19 : decode cX0_addCell 19 = .ok (.getfield 16, 3) := by decide +kernel
theorem dX0_addCell_22 : decode cX0_addCell 22 = .ok (.iload_n 3, 1) := by decide +kernel
theorem dX0_addCell_23 : decode cX0_addCell 23 = .ok (.bipush 6, 2) := by decide +kernel
theorem dX0_addCell_25 : decode cX0_addCell 25 = .ok (.iload_n 2, 1) := by decide +kernel
theorem dX0_addCell_26 : decode cX0_addCell 26 = .ok (.invokevirtual 68, 3) := by decide +kernel
theorem dX0_addCell_29 : decode cX0_addCell 29 = .ok (.iload_n 3, 1) := by decide +kernel
theorem dX0_addCell_30 : decode cX0_addCell 30 = .ok (.ireturn, 1) := by decide +kernel
theorem dX0_leanOf_0 : decode cX0_leanOf 0 = .ok (.aload_n 0, 1) := by decide +kernel
theorem dX0_leanOf_1 : decode cX0_leanOf 1 = .ok (.getfield 16, 3) := by decide +kernel
theorem dX0_leanOf_4 : decode cX0_leanOf 4 = .ok (.iload_n 1, 1) := by decide +kernel
theorem dX0_leanOf_5 : decode cX0_leanOf 5 = .ok (.bipush 69, 2) := by decide +kernel
theorem dX0_leanOf_7 : decode cX0_leanOf 7 = .ok (.iload_n 2, 1) := by decide +kernel
theorem dX0_leanOf_8 : decode cX0_leanOf 8 = .ok (.iadd, 1) := by decide +kernel
theorem dX0_leanOf_9 : decode cX0_leanOf 9 = .ok (.invokevirtual 57, 3) := by decide +kernel
theorem dX0_leanOf_12 : decode cX0_leanOf 12 = .ok (.ireturn, 1) := by decide +kernel
theorem dX0_noteLeans_0 : decode cX0_noteLeans 0 = .ok (.iconst 0, 1) := by decide +kernel
theorem dX0_noteLeans_1 : decode cX0_noteLeans 1 = .ok (.istore_n 3, 1) := by decide +kernel
theorem dX0_noteLeans_2 : decode cX0_noteLeans 2 = .ok (.iconst 0, 1) := by decide +kernel
theorem dX0_noteLeans_3 : decode cX0_noteLeans 3 = .ok (.istore 4, 2) := by decide +kernel
theorem dX0_noteLeans_5 : decode cX0_noteLeans 5 = .ok (.iload 4, 2) := by decide +kernel
theorem dX0_noteLeans_7 : decode cX0_noteLeans 7 = .ok (.aload_n 0, 1) := by decide +kernel
theorem dX0_noteLeans_8 : decode cX0_noteLeans 8 = .ok (.getfield 20, 3) := by decide +kernel
theorem dX0_noteLeans_11 : decode cX0_noteLeans 11 = .ok (.invokevirtual 61, 3) := by decide +kernel
theorem dX0_noteLeans_14 : decode cX0_noteLeans 14 = .ok (.if_icmp .ge 59, 3) := by decide +kernel
theorem dX0_noteLeans_17 : decode cX0_noteLeans 17 = .ok (.iload_n 3, 1) := by decide +kernel
theorem dX0_noteLeans_18 : decode cX0_noteLeans 18 = .ok (.bipush 16, 2) := by decide +kernel
theorem dX0_noteLeans_20 : decode cX0_noteLeans 20 = .ok (.if_icmp .ge 53, 3) := by decide +kernel
theorem dX0_noteLeans_23 : decode cX0_noteLeans 23 = .ok (.aload_n 0, 1) := by decide +kernel
theorem dX0_noteLeans_24 : decode cX0_noteLeans 24 = .ok (.iload 4, 2) := by decide +kernel
theorem dX0_noteLeans_26 : decode cX0_noteLeans 26 = .ok (.invokevirtual 110, 3) := by decide +kernel
theorem dX0_noteLeans_29 : decode cX0_noteLeans 29 = .ok (.ifCond .eq 38, 3) := by decide +kernel
theorem dX0_noteLeans_32 : decode cX0_noteLeans 32 = .ok (.iload_n 2, 1) := by decide +kernel
theorem dX0_noteLeans_33 : decode cX0_noteLeans 33 = .ok (.aload_n 0, 1) := by decide +kernel
theorem dX0_noteLeans_34 : decode cX0_noteLeans 34 = .ok (.getfield 20, 3) := by decide +kernel
theorem dX0_noteLeans_37 : decode cX0_noteLeans 37 = .ok (.iload 4, 2) := by decide +kernel
theorem dX0_noteLeans_39 : decode cX0_noteLeans 39 = .ok (.iconst 0, 1) := by decide +kernel
theorem dX0_noteLeans_40 : decode cX0_noteLeans 40 = .ok (.invokevirtual 57, 3) := by decide +kernel
theorem dX0_noteLeans_43 : decode cX0_noteLeans 43 = .ok (.iushr, 1) := by decide +kernel
theorem dX0_noteLeans_44 : decode cX0_noteLeans 44 = .ok (.iconst 1, 1) := by decide +kernel
theorem dX0_noteLeans_45 : decode cX0_noteLeans 45 = .ok (.iand, 1) := by decide +kernel
theorem dX0_noteLeans_46 : decode cX0_noteLeans 46 = .ok (.iconst 1, 1) := by decide +kernel
theorem dX0_noteLeans_47 : decode cX0_noteLeans 47 = .ok (.if_icmp .ne 20, 3) := by decide +kernel
theorem dX0_noteLeans_50 : decode cX0_noteLeans 50 = .ok (.aload_n 0, 1) := by decide +kernel
theorem dX0_noteLeans_51 : decode cX0_noteLeans 51 = .ok (.getfield 16, 3) := by decide +kernel
theorem dX0_noteLeans_54 : decode cX0_noteLeans 54 = .ok (.iload_n 1, 1) := by decide +kernel
theorem dX0_noteLeans_55 : decode cX0_noteLeans 55 = .ok (.bipush 69, 2) := by decide +kernel
theorem dX0_noteLeans_57 : decode cX0_noteLeans 57 = .ok (.iload_n 3, 1) := by decide +kernel
theorem dX0_noteLeans_58 : decode cX0_noteLeans 58 = .ok (.iadd, 1) := by decide +kernel
theorem dX0_noteLeans_59 : decode cX0_noteLeans 59 = .ok (.iload 4, 2) := by decide +kernel
theorem dX0_noteLeans_61 : decode cX0_noteLeans 61 = .ok (.invokevirtual 68, 3) := by decide +kernel
theorem dX0_noteLeans_64 : decode cX0_noteLeans 64 = .ok (.iinc 3 1, 3) := by decide +kernel
theorem dX0_noteLeans_67 : decode cX0_noteLeans 67 = .ok (.iinc 4 1, 3) := by decide +kernel
theorem dX0_noteLeans_70 : decode cX0_noteLeans 70 = .ok (.goto (-65), 3) := by decide +kernel
theorem dX0_noteLeans_73 : decode cX0_noteLeans 73 = .ok (.aload_n 0, 1) := by decide +kernel
theorem dX0_noteLeans_74 : decode cX0_noteLeans 74 = .ok (.getfield 16, 3) := by decide +kernel
theorem dX0_noteLeans_77 : decode cX0_noteLeans 77 = .ok (.iload_n 1, 1) := by decide +kernel
theorem dX0_noteLeans_78 : decode cX0_noteLeans 78 = .ok (.bipush 7, 2) := by decide +kernel
theorem dX0_noteLeans_80 : decode cX0_noteLeans 80 = .ok (.iload_n 3, 1) := by decide +kernel
theorem dX0_noteLeans_81 : decode cX0_noteLeans 81 = .ok (.invokevirtual 68, 3) := by decide +kernel
theorem dX0_noteLeans_84 : decode cX0_noteLeans 84 = .ok (.return_, 1) := by decide +kernel
theorem dX0_isMarked_0 : decode cX0_isMarked 0 = .ok (.iload_n 2, 1) := by decide +kernel
theorem dX0_isMarked_1 : decode cX0_isMarked 1 = .ok (.ifCond .lt 23, 3) := by decide +kernel
theorem dX0_isMarked_4 : decode cX0_isMarked 4 = .ok (.iload_n 2, 1) := by decide +kernel
theorem dX0_isMarked_5 : decode cX0_isMarked 5 = .ok (.bipush 40, 2) := by decide +kernel
theorem dX0_isMarked_7 : decode cX0_isMarked 7 = .ok (.if_icmp .ge 17, 3) := by decide +kernel
theorem dX0_isMarked_10 : decode cX0_isMarked 10 = .ok (.lload_n 0, 1) := by decide +kernel
theorem dX0_isMarked_11 : decode cX0_isMarked 11 = .ok (.iload_n 2, 1) := by decide +kernel
theorem dX0_isMarked_12 : decode cX0_isMarked 12 = .ok (.lushr, 1) := by decide +kernel
theorem dX0_isMarked_13 : decode cX0_isMarked 13 = .ok (.lconst 1, 1) := by decide +kernel
theorem dX0_isMarked_14 : decode cX0_isMarked 14 = .ok (.land, 1) := by decide +kernel
theorem dX0_isMarked_15 : decode cX0_isMarked 15 = .ok (.lconst 1, 1) := by decide +kernel
theorem dX0_isMarked_16 : decode cX0_isMarked 16 = .ok (.lcmp, 1) := by decide +kernel
theorem dX0_isMarked_17 : decode cX0_isMarked 17 = .ok (.ifCond .ne 7, 3) := by decide +kernel
theorem dX0_isMarked_20 : decode cX0_isMarked 20 = .ok (.iconst 1, 1) := by decide +kernel
theorem dX0_isMarked_21 : decode cX0_isMarked 21 = .ok (.goto 4, 3) := by decide +kernel
theorem dX0_isMarked_24 : decode cX0_isMarked 24 = .ok (.iconst 0, 1) := by decide +kernel
theorem dX0_isMarked_25 : decode cX0_isMarked 25 = .ok (.ireturn, 1) := by decide +kernel
theorem dX0_isStaleBy_0 : decode cX0_isStaleBy 0 = .ok (.iconst 0, 1) := by decide +kernel
theorem dX0_isStaleBy_1 : decode cX0_isStaleBy 1 = .ok (.istore 4, 2) := by decide +kernel
theorem dX0_isStaleBy_3 : decode cX0_isStaleBy 3 = .ok (.iload 4, 2) := by decide +kernel
theorem dX0_isStaleBy_5 : decode cX0_isStaleBy 5 = .ok (.aload_n 0, 1) := by decide +kernel
theorem dX0_isStaleBy_6 : decode cX0_isStaleBy 6 = .ok (.getfield 16, 3) := by decide +kernel
theorem dX0_isStaleBy_9 : decode cX0_isStaleBy 9 = .ok (.iload_n 3, 1) := by decide +kernel
theorem dX0_isStaleBy_10 : decode cX0_isStaleBy 10 = .ok (.bipush 7, 2) := by decide +kernel
theorem dX0_isStaleBy_12 : decode cX0_isStaleBy 12 = .ok (.invokevirtual 57, 3) := by decide +kernel
theorem dX0_isStaleBy_15 : decode cX0_isStaleBy 15 = .ok (.if_icmp .ge 46, 3) := by decide +kernel
theorem dX0_isStaleBy_18 : decode cX0_isStaleBy 18 = .ok (.aload_n 0, 1) := by decide +kernel
theorem dX0_isStaleBy_19 : decode cX0_isStaleBy 19 = .ok (.iload_n 3, 1) := by decide +kernel
theorem dX0_isStaleBy_20 : decode cX0_isStaleBy 20 = .ok (.iload 4, 2) := by decide +kernel
theorem dX0_isStaleBy_22 : decode cX0_isStaleBy 22 = .ok (.invokevirtual 120, 3) := by decide +kernel
theorem dX0_isStaleBy_25 : decode cX0_isStaleBy 25 = .ok (.istore 5, 2) := by decide +kernel
theorem dX0_isStaleBy_27 : decode cX0_isStaleBy 27 = .ok (.aload_n 0, 1) := by decide +kernel
theorem dX0_isStaleBy_28 : decode cX0_isStaleBy 28 = .ok (.iload 5, 2) := by decide +kernel
theorem dX0_isStaleBy_30 : decode cX0_isStaleBy 30 = .ok (.invokevirtual 110, 3) := by decide +kernel
theorem dX0_isStaleBy_33 : decode cX0_isStaleBy 33 = .ok (.ifCond .eq 20, 3) := by decide +kernel
theorem dX0_isStaleBy_36 : decode cX0_isStaleBy 36 = .ok (.lload_n 1, 1) := by decide +kernel
theorem dX0_isStaleBy_37 : decode cX0_isStaleBy 37 = .ok (.aload_n 0, 1) := by decide +kernel
theorem dX0_isStaleBy_38 : decode cX0_isStaleBy 38 = .ok (.getfield 20, 3) := by decide +kernel
theorem dX0_isStaleBy_41 : decode cX0_isStaleBy 41 = .ok (.iload 5, 2) := by decide +kernel
theorem dX0_isStaleBy_43 : decode cX0_isStaleBy 43 = .ok (.iconst 1, 1) := by decide +kernel
theorem dX0_isStaleBy_44 : decode cX0_isStaleBy 44 = .ok (.invokevirtual 57, 3) := by decide +kernel
theorem dX0_isStaleBy_47 : decode cX0_isStaleBy 47 = .ok (.invokestatic 113, 3) := by decide +kernel
theorem dX0_isStaleBy_50 : decode cX0_isStaleBy 50 = .ok (.ifCond .eq 5, 3) := by decide +kernel
theorem dX0_isStaleBy_53 : decode cX0_isStaleBy 53 = .ok (.iconst 1, 1) := by decide +kernel
theorem dX0_isStaleBy_54 : decode cX0_isStaleBy 54 = .ok (.ireturn, 1) := by decide +kernel
theorem dX0_isStaleBy_55 : decode cX0_isStaleBy 55 = .ok (.iinc 4 1, 3) := by decide +kernel
theorem dX0_isStaleBy_58 : decode cX0_isStaleBy 58 = .ok (.goto (-55), 3) := by decide +kernel
theorem dX0_isStaleBy_61 : decode cX0_isStaleBy 61 = .ok (.iconst 0, 1) := by decide +kernel
theorem dX0_isStaleBy_62 : decode cX0_isStaleBy 62 = .ok (.ireturn, 1) := by decide +kernel
theorem dX0_staleCells_0 : decode cX0_staleCells 0 = .ok (.lconst 0, 1) := by decide +kernel
theorem dX0_staleCells_1 : decode cX0_staleCells 1 = .ok (.lstore_n 1, 1) := by decide +kernel
theorem dX0_staleCells_2 : decode cX0_staleCells 2 = .ok (.iconst 1, 1) := by decide +kernel
theorem dX0_staleCells_3 : decode cX0_staleCells 3 = .ok (.istore_n 3, 1) := by decide +kernel
theorem dX0_staleCells_4 : decode cX0_staleCells 4 = .ok (.iconst 0, 1) := by decide +kernel
theorem dX0_staleCells_5 : decode cX0_staleCells 5 = .ok (.istore 4, 2) := by decide +kernel
theorem dX0_staleCells_7 : decode cX0_staleCells 7 = .ok (.iload 4, 2) := by decide +kernel
theorem dX0_staleCells_9 : decode cX0_staleCells 9 = .ok (.bipush 40, 2) := by decide +kernel
theorem dX0_staleCells_11 : decode cX0_staleCells 11 = .ok (.if_icmp .gt 64, 3) := by decide +kernel
theorem dX0_staleCells_14 : decode cX0_staleCells 14 = .ok (.iload_n 3, 1) := by decide +kernel
theorem dX0_staleCells_15 : decode cX0_staleCells 15 = .ok (.ifCond .eq 60, 3) := by decide +kernel
theorem dX0_staleCells_18 : decode cX0_staleCells 18 = .ok (.iconst 0, 1) := by decide +kernel
theorem dX0_staleCells_19 : decode cX0_staleCells 19 = .ok (.istore_n 3, 1) := by decide +kernel
theorem dX0_staleCells_20 : decode cX0_staleCells 20 = .ok (.iconst 0, 1) := by decide +kernel
theorem dX0_staleCells_21 : decode cX0_staleCells 21 = .ok (.istore 5, 2) := by decide +kernel
theorem dX0_staleCells_23 : decode cX0_staleCells 23 = .ok (.iload 5, 2) := by decide +kernel
theorem dX0_staleCells_25 : decode cX0_staleCells 25 = .ok (.aload_n 0, 1) := by decide +kernel
theorem dX0_staleCells_26 : decode cX0_staleCells 26 = .ok (.getfield 16, 3) := by decide +kernel
theorem dX0_staleCells_29 : decode cX0_staleCells 29 = .ok (.invokevirtual 61, 3) := by decide +kernel
theorem dX0_staleCells_32 : decode cX0_staleCells 32 = .ok (.if_icmp .ge 37, 3) := by decide +kernel
theorem dX0_staleCells_35 : decode cX0_staleCells 35 = .ok (.lload_n 1, 1) := by decide +kernel
theorem dX0_staleCells_36 : decode cX0_staleCells 36 = .ok (.iload 5, 2) := by decide +kernel
theorem dX0_staleCells_38 : decode cX0_staleCells 38 = .ok (.invokestatic 113, 3) := by decide +kernel
theorem dX0_staleCells_41 : decode cX0_staleCells 41 = .ok (.ifCond .ne 22, 3) := by decide +kernel
theorem dX0_staleCells_44 : decode cX0_staleCells 44 = .ok (.aload_n 0, 1) := by decide +kernel
theorem dX0_staleCells_45 : decode cX0_staleCells 45 = .ok (.lload_n 1, 1) := by decide +kernel
theorem dX0_staleCells_46 : decode cX0_staleCells 46 = .ok (.iload 5, 2) := by decide +kernel
theorem dX0_staleCells_48 : decode cX0_staleCells 48 = .ok (.invokevirtual 117, 3) := by decide +kernel
theorem dX0_staleCells_51 : decode cX0_staleCells 51 = .ok (.ifCond .eq 12, 3) := by decide +kernel
theorem dX0_staleCells_54 : decode cX0_staleCells 54 = .ok (.lload_n 1, 1) := by decide +kernel
theorem dX0_staleCells_55 : decode cX0_staleCells 55 = .ok (.lconst 1, 1) := by decide +kernel
theorem dX0_staleCells_56 : decode cX0_staleCells 56 = .ok (.iload 5, 2) := by decide +kernel
theorem dX0_staleCells_58 : decode cX0_staleCells 58 = .ok (.lshl, 1) := by decide +kernel
theorem dX0_staleCells_59 : decode cX0_staleCells 59 = .ok (.lor, 1) := by decide +kernel
theorem dX0_staleCells_60 : decode cX0_staleCells 60 = .ok (.lstore_n 1, 1) := by decide +kernel
theorem dX0_staleCells_61 : decode cX0_staleCells 61 = .ok (.iconst 1, 1) := by decide +kernel
theorem dX0_staleCells_62 : decode cX0_staleCells 62 = .ok (.istore_n 3, 1) := by decide +kernel
theorem dX0_staleCells_63 : decode cX0_staleCells 63 = .ok (.iinc 5 1, 3) := by decide +kernel
theorem dX0_staleCells_66 : decode cX0_staleCells 66 = .ok (.goto (-43), 3) := by decide +kernel
theorem dX0_staleCells_69 : decode cX0_staleCells 69 = .ok (.iinc 4 1, 3) := by decide +kernel
theorem dX0_staleCells_72 : decode cX0_staleCells 72 = .ok (.goto (-65), 3) := by decide +kernel
theorem dX0_staleCells_75 : decode cX0_staleCells 75 = .ok (.lload_n 1, 1) := by decide +kernel
theorem dX0_staleCells_76 : decode cX0_staleCells 76 = .ok (.lreturn, 1) := by decide +kernel
theorem dX0_leansOnWaiting_0 : decode cX0_leansOnWaiting 0 = .ok (.iconst 0, 1) := by decide +kernel
theorem dX0_leansOnWaiting_1 : decode cX0_leansOnWaiting 1 = .ok (.istore 4, 2) := by decide +kernel
theorem dX0_leansOnWaiting_3 : decode cX0_leansOnWaiting 3 = .ok (.iload 4, 2) := by decide +kernel
theorem dX0_leansOnWaiting_5 : decode cX0_leansOnWaiting 5 = .ok (.aload_n 0, 1) := by decide +kernel
theorem dX0_leansOnWaiting_6 : decode cX0_leansOnWaiting 6 = .ok (.getfield 16, 3) := by decide +kernel
theorem dX0_leansOnWaiting_9 : decode cX0_leansOnWaiting 9 = .ok (.iload_n 1, 1) := by decide +kernel
theorem dX0_leansOnWaiting_10 : decode cX0_leansOnWaiting 10 = .ok (.bipush 7, 2) := by decide +kernel
theorem dX0_leansOnWaiting_12 : decode cX0_leansOnWaiting 12 = .ok (.invokevirtual 57, 3) := by decide +kernel
theorem dX0_leansOnWaiting_15 : decode cX0_leansOnWaiting 15 = .ok (.if_icmp .ge 69, 3) := by decide +kernel
theorem dX0_leansOnWaiting_18 : decode cX0_leansOnWaiting 18 = .ok (.aload_n 0, 1) := by decide +kernel
theorem dX0_leansOnWaiting_19 : decode cX0_leansOnWaiting 19 = .ok (.aload_n 0, 1) := by decide +kernel
theorem dX0_leansOnWaiting_20 : decode cX0_leansOnWaiting 20 = .ok (.getfield 20, 3) := by decide +kernel
theorem dX0_leansOnWaiting_23 : decode cX0_leansOnWaiting 23 = .ok (.aload_n 0, 1) := by decide +kernel
theorem dX0_leansOnWaiting_24 : decode cX0_leansOnWaiting 24 = .ok (.iload_n 1, 1) := by decide +kernel
theorem dX0_leansOnWaiting_25 : decode cX0_leansOnWaiting 25 = .ok (.iload 4, 2) := by decide +kernel
theorem dX0_leansOnWaiting_27 : decode cX0_leansOnWaiting 27 = .ok (.invokevirtual 120, 3) := by decide +kernel
theorem dX0_leansOnWaiting_30 : decode cX0_leansOnWaiting 30 = .ok (.iconst 0, 1) := by decide +kernel
theorem dX0_leansOnWaiting_31 : decode cX0_leansOnWaiting 31 = .ok (.invokevirtual 57, 3) := by decide +kernel
theorem dX0_leansOnWaiting_34 : decode cX0_leansOnWaiting 34 = .ok (.invokevirtual 50, 3) := by decide +kernel
theorem dX0_leansOnWaiting_37 : decode cX0_leansOnWaiting 37 = .ok (.istore 5, 2) := by decide +kernel
theorem dX0_leansOnWaiting_39 : decode cX0_leansOnWaiting 39 = .ok (.iload 5, 2) := by decide +kernel
theorem dX0_leansOnWaiting_41 : decode cX0_leansOnWaiting 41 = .ok (.iconst (-1), 1) := by decide +kernel
theorem dX0_leansOnWaiting_42 : decode cX0_leansOnWaiting 42 = .ok (.if_icmp .ne 7, 3) := by decide +kernel
theorem dX0_leansOnWaiting_45 : decode cX0_leansOnWaiting 45 = .ok (.iconst (-1), 1) := by decide +kernel
theorem dX0_leansOnWaiting_46 : decode cX0_leansOnWaiting 46 = .ok (.goto 13, 3) := by decide +kernel
theorem dX0_leansOnWaiting_49 : decode cX0_leansOnWaiting 49 = .ok (.aload_n 0, 1) := by decide +kernel
theorem dX0_leansOnWaiting_50 : decode cX0_leansOnWaiting 50 = .ok (.getfield 20, 3) := by decide +kernel
theorem dX0_leansOnWaiting_53 : decode cX0_leansOnWaiting 53 = .ok (.iload 5, 2) := by decide +kernel
theorem dX0_leansOnWaiting_55 : decode cX0_leansOnWaiting 55 = .ok (.iconst 1, 1) := by decide +kernel
theorem dX0_leansOnWaiting_56 : decode cX0_leansOnWaiting 56 = .ok (.invokevirtual 57, 3) := by decide +kernel
theorem dX0_leansOnWaiting_59 : decode cX0_leansOnWaiting 59 = .ok (.istore 6, 2) := by decide +kernel
theorem dX0_leansOnWaiting_61 : decode cX0_leansOnWaiting 61 = .ok (.iload 6, 2) := by decide +kernel
theorem dX0_leansOnWaiting_63 : decode cX0_leansOnWaiting 63 = .ok (.iload_n 1, 1) := by decide +kernel
theorem dX0_leansOnWaiting_64 : decode cX0_leansOnWaiting 64 = .ok (.if_icmp .eq 14, 3) := by decide +kernel
theorem dX0_leansOnWaiting_67 : decode cX0_leansOnWaiting 67 = .ok (.lload_n 2, 1) := by decide +kernel
theorem dX0_leansOnWaiting_68 : decode cX0_leansOnWaiting 68 = .ok (.iload 6, 2) := by decide +kernel
theorem dX0_leansOnWaiting_70 : decode cX0_leansOnWaiting 70 = .ok (.invokestatic 113, 3) := by decide +kernel
theorem dX0_leansOnWaiting_73 : decode cX0_leansOnWaiting 73 = .ok (.ifCond .eq 5, 3) := by decide +kernel
theorem dX0_leansOnWaiting_76 : decode cX0_leansOnWaiting 76 = .ok (.iconst 1, 1) := by decide +kernel
theorem dX0_leansOnWaiting_77 : decode cX0_leansOnWaiting 77 = .ok (.ireturn, 1) := by decide +kernel
theorem dX0_leansOnWaiting_78 : decode cX0_leansOnWaiting 78 = .ok (.iinc 4 1, 3) := by decide +kernel
theorem dX0_leansOnWaiting_81 : decode cX0_leansOnWaiting 81 = .ok (.goto (-78), 3) := by decide +kernel
theorem dX0_leansOnWaiting_84 : decode cX0_leansOnWaiting 84 = .ok (.iconst 0, 1) := by decide +kernel
theorem dX0_leansOnWaiting_85 : decode cX0_leansOnWaiting 85 = .ok (.ireturn, 1) := by decide +kernel
section CM
variable {ρ : Type} {p : Program} {l : Launch} {e : Env} {s : State} {m : MethodId} {args : Array Value} {below : List Frame} {meth : Method} {c : Code}
variable {cc : ByteArray} {nL : Nat} {own : String} {rt : Option FieldType} {D : va_G} {cI : ClassId} {sf : sfT} {A : Nat → Prop} {q : Nat → Nat} {tk : Nat} {fr lo : Nat} {S0 S : CS} {QQ : ρ × CS → State → Prop} {pc : Nat} {lv : List (Nat × Value)}

-- X0.nextToStart
def f0_nextToStart_b35 (n : Nat) (k7 : Int32 → Int32 → Int32 → CS → Option (Int32 × CS)) (x2 : Int32) (x3 : Int32) (x4 : Int32) (S : CS) : Option (Int32 × CS) :=
    bT 6 S (f2_get n x3 (nI 5) (tOf 6 S)) fun v1 S1 =>
    k7 x2 v1 (x4 + (nI 1)) S1
theorem mw0_nextToStart_b35 (n : Nat) (k7 : Int32 → Int32 → Int32 → CS → Option (Int32 × CS)) (mhk7 : ∀ (x2 : Int32) (x3 : Int32) (x4 : Int32) (S : CS), mo S (k7 x2 x3 x4 S)) (x2 : Int32) (x3 : Int32) (x4 : Int32) (S : CS) : mo S (f0_nextToStart_b35 n k7 x2 x3 x4 S) := by
  unfold f0_nextToStart_b35
  refine m_bT (mo2_get _ _ _ _) (fun v1 S1 => ?_)
  exact mhk7 x2 v1 (x4 + (nI 1)) S1
theorem w0_nextToStart_b35 (hsf : sfOk (SF tk)) (X : hX p s m args meth c cX0_nextToStart 5 RX0 (some .int) D (tyC cI) (SF tk) A) (n : Nat) (k7 : Int32 → Int32 → Int32 → CS → Option (Int32 × CS)) (hk7 : ∀ (x2 : Int32) (x3 : Int32) (x4 : Int32) (S : CS), hG p l e (fun r => rmC 1 23 (cS r.2 - cS S0) (sS r.2 - sS S0)) s m args below meth c 5 (ZW D (wC cI q) A s.heap S0 S) (cS S - cS S0) (sS S - sS S0) (fun r => MQ below (QWi D (tyC cI) (wC cI q) A r) args s (cS r.2 - cS S0) (sS r.2 - sS S0) A) (fun r => le S r.2) 7 [(0, .ref (q 53)), (2, .int x2), (3, .int x3), (4, .int x4)] [] (k7 x2 x3 x4 S)) (x2 : Int32) (x3 : Int32) (x4 : Int32) (S : CS) : hG p l e (fun r => rmC 1 23 (cS r.2 - cS S0) (sS r.2 - sS S0)) s m args below meth c 5 (ZW D (wC cI q) A s.heap S0 S) (cS S - cS S0) (sS S - sS S0) (fun r => MQ below (QWi D (tyC cI) (wC cI q) A r) args s (cS r.2 - cS S0) (sS r.2 - sS S0) A) (fun r => le S r.2) 35 [(0, .ref (q 53)), (2, .int x2), (3, .int x3), (4, .int x4)] [] (f0_nextToStart_b35 n k7 x2 x3 x4 S) := by
  unfold f0_nextToStart_b35
  refine h_aload_n X dX0_nextToStart_35 rfl rfl ?_
  refine c_g_IM_editions X fl0_20 dX0_nextToStart_36 ?_
  refine h_iload_n X dX0_nextToStart_39 rfl rfl ?_
  refine h_iconst (v := (nI 5)) X dX0_nextToStart_40 (by decide) ?_
  refine kt2_get_6 hsf X tlX0_57 ⟨Nat.le_of_ble_eq_true rfl, Nat.le_of_ble_eq_true rfl⟩ (Nat.le_of_ble_eq_true rfl) dX0_nextToStart_41 ?_
  intro v1 S1
  refine h_istore_n (lv' := [(3, .int v1), (0, .ref (q 53)), (2, .int x2), (4, .int x4)]) X dX0_nextToStart_44 rfl (by decide) rfl ?_
  refine h_iinc (v := (nI 1)) (lv' := [(4, .int (x4 + (nI 1))), (3, .int v1), (0, .ref (q 53)), (2, .int x2)]) X dX0_nextToStart_45 rfl (by decide) (by decide) rfl ?_
  refine h_goto (tgt := 7) X dX0_nextToStart_48 (by decide) ?_
  exact h_pick [2, 3, 1, 0] rfl (hk7 x2 v1 (x4 + (nI 1)) S1)
def f0_nextToStart_l7 (n : Nat) : Nat → Int32 → Int32 → Int32 → CS → Option (Int32 × CS)
  | 0, _, _, _, _ => none
  | k + 1, x2, x3, x4, S => if (nI 150) ≤ x4 then
      (some (x2, S))
    else
      (if x3 = (-1 : Int32) then
        (some (x2, S))
      else
        (bT 6 S (f2_get n x3 (nI 6) (tOf 6 S)) fun v1 S1 =>
        if v1 = 0 then
          (f0_nextToStart_b35 n (f0_nextToStart_l7 n k) x3 x3 x4 S1)
        else
          (f0_nextToStart_b35 n (f0_nextToStart_l7 n k) x2 x3 x4 S1)))
theorem mw0_nextToStart_l7 (n : Nat) : ∀ (k : Nat) (x2 : Int32) (x3 : Int32) (x4 : Int32) (S : CS), mo S (f0_nextToStart_l7 n k x2 x3 x4 S) := by
  intro k
  induction k with
  | zero =>
    intro x2 x3 x4 S
    exact m_none
  | succ k ih =>
    intro x2 x3 x4 S
    rw [f0_nextToStart_l7]
    refine m_ite ?_ ?_
    · exact m_some
    · refine m_ite ?_ ?_
      · exact m_some
      · refine m_bT (mo2_get _ _ _ _) (fun v1 S1 => ?_)
        refine m_ite ?_ ?_
        · exact mw0_nextToStart_b35 n (f0_nextToStart_l7 n k) ih x3 x3 x4 S1
        · exact mw0_nextToStart_b35 n (f0_nextToStart_l7 n k) ih x2 x3 x4 S1
theorem w0_nextToStart_l7 (hsf : sfOk (SF tk)) (X : hX p s m args meth c cX0_nextToStart 5 RX0 (some .int) D (tyC cI) (SF tk) A) (n : Nat) : ∀ (k : Nat) (x2 : Int32) (x3 : Int32) (x4 : Int32) (S : CS), hG p l e (fun r => rmC 1 23 (cS r.2 - cS S0) (sS r.2 - sS S0)) s m args below meth c 5 (ZW D (wC cI q) A s.heap S0 S) (cS S - cS S0) (sS S - sS S0) (fun r => MQ below (QWi D (tyC cI) (wC cI q) A r) args s (cS r.2 - cS S0) (sS r.2 - sS S0) A) (fun r => le S r.2) 7 [(0, .ref (q 53)), (2, .int x2), (3, .int x3), (4, .int x4)] [] (f0_nextToStart_l7 n k x2 x3 x4 S) := by
  intro k
  induction k with
  | zero =>
    intro x2 x3 x4 S
    exact h_none
  | succ k ih =>
    intro x2 x3 x4 S
    rw [f0_nextToStart_l7]
    refine h_iload X dX0_nextToStart_7 rfl ?_
    refine h_sipush (v := (nI 150)) X dX0_nextToStart_9 (by decide) ?_
    refine h_icmp_ge (tgt := 51) X dX0_nextToStart_12 (by decide) ?_ ?_
    · refine h_iload_n X dX0_nextToStart_51 rfl rfl ?_
      exact h_iret X dX0_nextToStart_52
    · refine h_iload_n X dX0_nextToStart_15 rfl rfl ?_
      refine h_iconst (v := (-1 : Int32)) X dX0_nextToStart_16 (by decide) ?_
      refine h_icmp_eq (tgt := 51) X dX0_nextToStart_17 (by decide) ?_ ?_
      · refine h_iload_n X dX0_nextToStart_51 rfl rfl ?_
        exact h_iret X dX0_nextToStart_52
      · refine h_aload_n X dX0_nextToStart_20 rfl rfl ?_
        refine c_g_IM_editions X fl0_20 dX0_nextToStart_21 ?_
        refine h_iload_n X dX0_nextToStart_24 rfl rfl ?_
        refine h_bipush (v := (nI 6)) X dX0_nextToStart_25 (by decide) ?_
        refine kt2_get_6 hsf X tlX0_57 ⟨Nat.le_of_ble_eq_true rfl, Nat.le_of_ble_eq_true rfl⟩ (Nat.le_of_ble_eq_true rfl) dX0_nextToStart_27 ?_
        intro v1 S1
        refine h_if_ne (tgt := 35) X dX0_nextToStart_30 (by decide) ?_ ?_
        · exact h_pick [0, 1, 2, 3] rfl (w0_nextToStart_b35 hsf X n (f0_nextToStart_l7 n k) ih x2 x3 x4 S1)
        · refine h_iload_n X dX0_nextToStart_33 rfl rfl ?_
          refine h_istore_n (lv' := [(2, .int x3), (0, .ref (q 53)), (3, .int x3), (4, .int x4)]) X dX0_nextToStart_34 rfl (by decide) rfl ?_
          exact h_pick [1, 0, 2, 3] rfl (w0_nextToStart_b35 hsf X n (f0_nextToStart_l7 n k) ih x3 x3 x4 S1)
def f0_nextToStart (n : Nat) (x1 : Int32) (S : CS) : Option (Int32 × CS) :=
    f0_nextToStart_l7 n n (-1 : Int32) x1 (nI 0) S
theorem w0_nextToStart (hsf : sfOk (SF tk)) (X : hX p s m args meth c cX0_nextToStart 5 RX0 (some .int) D (tyC cI) (SF tk) A) {S0 : CS} (n : Nat) (x1 : Int32) (S : CS) : hG p l e (fun r => rmC 1 23 (cS r.2 - cS S0) (sS r.2 - sS S0)) s m args below meth c 5 (ZW D (wC cI q) A s.heap S0 S) (cS S - cS S0) (sS S - sS S0) (fun r => MQ below (QWi D (tyC cI) (wC cI q) A r) args s (cS r.2 - cS S0) (sS r.2 - sS S0) A) (fun r => le S r.2) 0 [(0, .ref (q 53)), (1, .int x1)] [] (f0_nextToStart n x1 S) := by
    unfold f0_nextToStart
    refine h_iconst (v := (-1 : Int32)) X dX0_nextToStart_0 (by decide) ?_
    refine h_istore_n (lv' := [(2, .int (-1 : Int32)), (0, .ref (q 53)), (1, .int x1)]) X dX0_nextToStart_1 rfl (by decide) rfl ?_
    refine h_iload_n X dX0_nextToStart_2 rfl rfl ?_
    refine h_istore_n (lv' := [(3, .int x1), (2, .int (-1 : Int32)), (0, .ref (q 53)), (1, .int x1)]) X dX0_nextToStart_3 rfl (by decide) rfl ?_
    refine h_iconst (v := (nI 0)) X dX0_nextToStart_4 (by decide) ?_
    refine h_istore (lv' := [(4, .int (nI 0)), (3, .int x1), (2, .int (-1 : Int32)), (0, .ref (q 53)), (1, .int x1)]) X dX0_nextToStart_5 (by decide) rfl ?_
    exact h_pick [3, 2, 1, 0] rfl (w0_nextToStart_l7 hsf X n n (-1 : Int32) x1 (nI 0) S)
theorem mo0_nextToStart (n : Nat) (x1 : Int32) (S : CS) : mo S (f0_nextToStart n x1 S) := by
    unfold f0_nextToStart
    exact mw0_nextToStart_l7 n n (-1 : Int32) x1 (nI 0) S
theorem c0_nextToStart (hsf : sfOk (SF tk)) (l : Launch) (D : va_G) (cI : ClassId) (q : Nat → Nat) (n : Nat) (x1 : Int32) (S : CS) : MetW l D (tyC cI) (SF tk) (wC cI q) yX0_nextToStart cX0_nextToStart 5 (some .int) 1 23 QWi [.ref (q 53), .int x1] S (f0_nextToStart n x1 S) := by
  refine MetW.of (own := RX0) (by decide) rfl (Nat.le_of_ble_eq_true rfl) (mo0_nextToStart n x1 S) ?_
  intro x p e s m args below meth c X
  refine h_pick (lv' := [(0, .ref (q 53)), (1, .int x1)]) [0, 1] rfl ?_
  exact h_close (w0_nextToStart hsf X n x1 S)
theorem tc0_nextToStart : Cond.code yX0_nextToStart cX0_nextToStart 5 (some .int) ∈ tt := tt_in (List.mem_of_getElem? (i := 512) (by decide +kernel)) (by decide +kernel)
theorem ti0_nextToStart : Cond.instanceMethod yX0_nextToStart ∈ tt := tt_in (List.mem_of_getElem? (i := 511) (by decide +kernel)) (by decide +kernel)
theorem te0_nextToStart : Cond.selects RX0 yX0_nextToStart yX0_nextToStart ∈ tt := tt_in (List.mem_of_getElem? (i := 18) (by decide +kernel)) (by decide +kernel)
theorem k0_nextToStart (hsf : sfOk (SF tk)) (X : hX p s m args meth c cc nL own rt D (tyC cI) (SF tk) A) {n : Nat} {x1 : Int32} {ix : Nat} (hlk : Cond.methodLink own ix yX0_nextToStart ∈ tt) {rest : List Value} {K : Int32 → CS → Option (ρ × CS)} (hR : 1 + 1 ≤ fr ∧ 8 + (5 + 11) + 23 ≤ lo) (hcat : (rest.map fun v => v.category).sum ≤ 8) (d : decode cc pc = .ok (.invokevirtual ix, 3)) (kk : ∀ v S1, hG p l e (fun r => rmC fr lo (cS r.2 - cS S0) (sS r.2 - sS S0)) s m args below meth c nL (ZW D (wC cI q) A s.heap S0 S1) (cS S1 - cS S0) (sS S1 - sS S0) QQ (fun r => le S1 r.2) (pc + 3) lv (.int v :: rest) (K v S1)) : hG p l e (fun r => rmC fr lo (cS r.2 - cS S0) (sS r.2 - sS S0)) s m args below meth c nL (ZW D (wC cI q) A s.heap S0 S) (cS S - cS S0) (sS S - sS S0) QQ (fun r => le S r.2) pc lv (.int x1 :: .ref (q 53) :: rest) (bnd (f0_nextToStart n x1 S) K) := h_callVi (As := [.int x1]) (b := q 53) (C := RX0) hsf X (c0_nextToStart hsf l D cI q n x1 S) (cwVC (k := 1) X.1.2.2.2.2.1 hlk ti0_nextToStart te0_nextToStart tc0_nextToStart ini_0 (by decide +kernel) hR) (fun x H h1 h2 => va_recv h1 h2 (ci := 0) (q0 := 9) rfl rfl) rfl rfl hcat d kk
-- X0.beginUpToStart
theorem tlX0_99 : Cond.methodLink RX0 99 yX0_nextToStart ∈ tt := tt_in (List.mem_of_getElem? (i := 509) (by decide +kernel)) (by decide +kernel)
def f0_beginUpToStart_l8 (n : Nat) : Nat → Int32 → Int32 → Int32 → CS → Option (Int32 × CS)
  | 0, _, _, _, _ => none
  | k + 1, x1, x2, x3, S => if (nI 150) ≤ x3 then
      (some ((-1 : Int32), S))
    else
      (if x2 = (-1 : Int32) then
        (some ((-1 : Int32), S))
      else
        (bT 6 S (f2_get n x2 (nI 7) (tOf 6 S)) fun v1 S1 =>
        bT 6 S1 (f2_get n x2 (nI 8) (tOf 6 S1)) fun v2 S2 =>
        if v2 ≤ v1 then
          (bT 6 S2 (f2_set n x2 (nI 6) (nI 1) (tOf 6 S2)) fun _ S3 =>
          bnd (f0_nextToStart n x1 S3) fun v4 S4 =>
          (f0_beginUpToStart_l8 n k) x1 v4 (x3 + (nI 1)) S4)
        else
          (some (x2, S2))))
theorem mw0_beginUpToStart_l8 (n : Nat) : ∀ (k : Nat) (x1 : Int32) (x2 : Int32) (x3 : Int32) (S : CS), mo S (f0_beginUpToStart_l8 n k x1 x2 x3 S) := by
  intro k
  induction k with
  | zero =>
    intro x1 x2 x3 S
    exact m_none
  | succ k ih =>
    intro x1 x2 x3 S
    rw [f0_beginUpToStart_l8]
    refine m_ite ?_ ?_
    · exact m_some
    · refine m_ite ?_ ?_
      · exact m_some
      · refine m_bT (mo2_get _ _ _ _) (fun v1 S1 => ?_)
        refine m_bT (mo2_get _ _ _ _) (fun v2 S2 => ?_)
        refine m_ite ?_ ?_
        · refine m_bT (mo2_set _ _ _ _ _) (fun v3 S3 => ?_)
          refine m_bnd (mo0_nextToStart _ _ _) (fun v4 S4 => ?_)
          exact ih x1 v4 (x3 + (nI 1)) S4
        · exact m_some
theorem w0_beginUpToStart_l8 (hsf : sfOk (SF tk)) (X : hX p s m args meth c cX0_beginUpToStart 4 RX0 (some .int) D (tyC cI) (SF tk) A) (n : Nat) : ∀ (k : Nat) (x1 : Int32) (x2 : Int32) (x3 : Int32) (S : CS), hG p l e (fun r => rmC 2 47 (cS r.2 - cS S0) (sS r.2 - sS S0)) s m args below meth c 4 (ZW D (wC cI q) A s.heap S0 S) (cS S - cS S0) (sS S - sS S0) (fun r => MQ below (QWi D (tyC cI) (wC cI q) A r) args s (cS r.2 - cS S0) (sS r.2 - sS S0) A) (fun r => le S r.2) 8 [(0, .ref (q 53)), (1, .int x1), (2, .int x2), (3, .int x3)] [] (f0_beginUpToStart_l8 n k x1 x2 x3 S) := by
  intro k
  induction k with
  | zero =>
    intro x1 x2 x3 S
    exact h_none
  | succ k ih =>
    intro x1 x2 x3 S
    rw [f0_beginUpToStart_l8]
    refine h_iload_n X dX0_beginUpToStart_8 rfl rfl ?_
    refine h_sipush (v := (nI 150)) X dX0_beginUpToStart_9 (by decide) ?_
    refine h_icmp_ge (tgt := 68) X dX0_beginUpToStart_12 (by decide) ?_ ?_
    · refine h_iconst (v := (-1 : Int32)) X dX0_beginUpToStart_68 (by decide) ?_
      exact h_iret X dX0_beginUpToStart_69
    · refine h_iload_n X dX0_beginUpToStart_15 rfl rfl ?_
      refine h_iconst (v := (-1 : Int32)) X dX0_beginUpToStart_16 (by decide) ?_
      refine h_icmp_eq (tgt := 68) X dX0_beginUpToStart_17 (by decide) ?_ ?_
      · refine h_iconst (v := (-1 : Int32)) X dX0_beginUpToStart_68 (by decide) ?_
        exact h_iret X dX0_beginUpToStart_69
      · refine h_aload_n X dX0_beginUpToStart_20 rfl rfl ?_
        refine c_g_IM_editions X fl0_20 dX0_beginUpToStart_21 ?_
        refine h_iload_n X dX0_beginUpToStart_24 rfl rfl ?_
        refine h_bipush (v := (nI 7)) X dX0_beginUpToStart_25 (by decide) ?_
        refine kt2_get_6 hsf X tlX0_57 ⟨Nat.le_of_ble_eq_true rfl, Nat.le_of_ble_eq_true rfl⟩ (Nat.le_of_ble_eq_true rfl) dX0_beginUpToStart_27 ?_
        intro v1 S1
        refine h_aload_n X dX0_beginUpToStart_30 rfl rfl ?_
        refine c_g_IM_editions X fl0_20 dX0_beginUpToStart_31 ?_
        refine h_iload_n X dX0_beginUpToStart_34 rfl rfl ?_
        refine h_bipush (v := (nI 8)) X dX0_beginUpToStart_35 (by decide) ?_
        refine kt2_get_6 hsf X tlX0_57 ⟨Nat.le_of_ble_eq_true rfl, Nat.le_of_ble_eq_true rfl⟩ (Nat.le_of_ble_eq_true rfl) dX0_beginUpToStart_37 ?_
        intro v2 S2
        refine h_icmp_ge (tgt := 45) X dX0_beginUpToStart_40 (by decide) ?_ ?_
        · refine h_aload_n X dX0_beginUpToStart_45 rfl rfl ?_
          refine c_g_IM_editions X fl0_20 dX0_beginUpToStart_46 ?_
          refine h_iload_n X dX0_beginUpToStart_49 rfl rfl ?_
          refine h_bipush (v := (nI 6)) X dX0_beginUpToStart_50 (by decide) ?_
          refine h_iconst (v := (nI 1)) X dX0_beginUpToStart_52 (by decide) ?_
          refine kt2_set_6 hsf X tlX0_68 ⟨Nat.le_of_ble_eq_true rfl, Nat.le_of_ble_eq_true rfl⟩ (Nat.le_of_ble_eq_true rfl) dX0_beginUpToStart_53 ?_
          intro v3 S3
          refine h_aload_n X dX0_beginUpToStart_56 rfl rfl ?_
          refine h_iload_n X dX0_beginUpToStart_57 rfl rfl ?_
          refine k0_nextToStart hsf X tlX0_99 ⟨Nat.le_of_ble_eq_true rfl, Nat.le_of_ble_eq_true rfl⟩ (Nat.le_of_ble_eq_true rfl) dX0_beginUpToStart_58 ?_
          intro v4 S4
          refine h_istore_n (lv' := [(2, .int v4), (0, .ref (q 53)), (1, .int x1), (3, .int x3)]) X dX0_beginUpToStart_61 rfl (by decide) rfl ?_
          refine h_iinc (v := (nI 1)) (lv' := [(3, .int (x3 + (nI 1))), (2, .int v4), (0, .ref (q 53)), (1, .int x1)]) X dX0_beginUpToStart_62 rfl (by decide) (by decide) rfl ?_
          refine h_goto (tgt := 8) X dX0_beginUpToStart_65 (by decide) ?_
          exact h_pick [2, 3, 1, 0] rfl (ih x1 v4 (x3 + (nI 1)) S4)
        · refine h_iload_n X dX0_beginUpToStart_43 rfl rfl ?_
          exact h_iret X dX0_beginUpToStart_44
def f0_beginUpToStart (n : Nat) (x1 : Int32) (S : CS) : Option (Int32 × CS) :=
    bnd (f0_nextToStart n x1 S) fun v1 S1 =>
    f0_beginUpToStart_l8 n n x1 v1 (nI 0) S1
theorem w0_beginUpToStart (hsf : sfOk (SF tk)) (X : hX p s m args meth c cX0_beginUpToStart 4 RX0 (some .int) D (tyC cI) (SF tk) A) {S0 : CS} (n : Nat) (x1 : Int32) (S : CS) : hG p l e (fun r => rmC 2 47 (cS r.2 - cS S0) (sS r.2 - sS S0)) s m args below meth c 4 (ZW D (wC cI q) A s.heap S0 S) (cS S - cS S0) (sS S - sS S0) (fun r => MQ below (QWi D (tyC cI) (wC cI q) A r) args s (cS r.2 - cS S0) (sS r.2 - sS S0) A) (fun r => le S r.2) 0 [(0, .ref (q 53)), (1, .int x1)] [] (f0_beginUpToStart n x1 S) := by
    unfold f0_beginUpToStart
    refine h_aload_n X dX0_beginUpToStart_0 rfl rfl ?_
    refine h_iload_n X dX0_beginUpToStart_1 rfl rfl ?_
    refine k0_nextToStart hsf X tlX0_99 ⟨Nat.le_of_ble_eq_true rfl, Nat.le_of_ble_eq_true rfl⟩ (Nat.le_of_ble_eq_true rfl) dX0_beginUpToStart_2 ?_
    intro v1 S1
    refine h_istore_n (lv' := [(2, .int v1), (0, .ref (q 53)), (1, .int x1)]) X dX0_beginUpToStart_5 rfl (by decide) rfl ?_
    refine h_iconst (v := (nI 0)) X dX0_beginUpToStart_6 (by decide) ?_
    refine h_istore_n (lv' := [(3, .int (nI 0)), (2, .int v1), (0, .ref (q 53)), (1, .int x1)]) X dX0_beginUpToStart_7 rfl (by decide) rfl ?_
    exact h_pick [2, 3, 1, 0] rfl (w0_beginUpToStart_l8 hsf X n n x1 v1 (nI 0) S1)
theorem mo0_beginUpToStart (n : Nat) (x1 : Int32) (S : CS) : mo S (f0_beginUpToStart n x1 S) := by
    unfold f0_beginUpToStart
    refine m_bnd (mo0_nextToStart _ _ _) (fun v1 S1 => ?_)
    exact mw0_beginUpToStart_l8 n n x1 v1 (nI 0) S1
theorem c0_beginUpToStart (hsf : sfOk (SF tk)) (l : Launch) (D : va_G) (cI : ClassId) (q : Nat → Nat) (n : Nat) (x1 : Int32) (S : CS) : MetW l D (tyC cI) (SF tk) (wC cI q) yX0_beginUpToStart cX0_beginUpToStart 4 (some .int) 2 47 QWi [.ref (q 53), .int x1] S (f0_beginUpToStart n x1 S) := by
  refine MetW.of (own := RX0) (by decide) rfl (Nat.le_of_ble_eq_true rfl) (mo0_beginUpToStart n x1 S) ?_
  intro x p e s m args below meth c X
  refine h_pick (lv' := [(0, .ref (q 53)), (1, .int x1)]) [0, 1] rfl ?_
  exact h_close (w0_beginUpToStart hsf X n x1 S)
theorem tc0_beginUpToStart : Cond.code yX0_beginUpToStart cX0_beginUpToStart 4 (some .int) ∈ tt := tt_in (List.mem_of_getElem? (i := 508) (by decide +kernel)) (by decide +kernel)
theorem ti0_beginUpToStart : Cond.instanceMethod yX0_beginUpToStart ∈ tt := tt_in (List.mem_of_getElem? (i := 506) (by decide +kernel)) (by decide +kernel)
theorem te0_beginUpToStart : Cond.selects RX0 yX0_beginUpToStart yX0_beginUpToStart ∈ tt := tt_in (List.mem_of_getElem? (i := 507) (by decide +kernel)) (by decide +kernel)
theorem k0_beginUpToStart (hsf : sfOk (SF tk)) (X : hX p s m args meth c cc nL own rt D (tyC cI) (SF tk) A) {n : Nat} {x1 : Int32} {ix : Nat} (hlk : Cond.methodLink own ix yX0_beginUpToStart ∈ tt) {rest : List Value} {K : Int32 → CS → Option (ρ × CS)} (hR : 2 + 1 ≤ fr ∧ 8 + (4 + 11) + 47 ≤ lo) (hcat : (rest.map fun v => v.category).sum ≤ 8) (d : decode cc pc = .ok (.invokevirtual ix, 3)) (kk : ∀ v S1, hG p l e (fun r => rmC fr lo (cS r.2 - cS S0) (sS r.2 - sS S0)) s m args below meth c nL (ZW D (wC cI q) A s.heap S0 S1) (cS S1 - cS S0) (sS S1 - sS S0) QQ (fun r => le S1 r.2) (pc + 3) lv (.int v :: rest) (K v S1)) : hG p l e (fun r => rmC fr lo (cS r.2 - cS S0) (sS r.2 - sS S0)) s m args below meth c nL (ZW D (wC cI q) A s.heap S0 S) (cS S - cS S0) (sS S - sS S0) QQ (fun r => le S r.2) pc lv (.int x1 :: .ref (q 53) :: rest) (bnd (f0_beginUpToStart n x1 S) K) := h_callVi (As := [.int x1]) (b := q 53) (C := RX0) hsf X (c0_beginUpToStart hsf l D cI q n x1 S) (cwVC (k := 1) X.1.2.2.2.2.1 hlk ti0_beginUpToStart te0_beginUpToStart tc0_beginUpToStart ini_0 (by decide +kernel) hR) (fun x H h1 h2 => va_recv h1 h2 (ci := 0) (q0 := 9) rfl rfl) rfl rfl hcat d kk
-- X0.addObject
def f0_addObject_b100 (n : Nat) (k20 : Int32 → Int32 → Int32 → CS → Option (Int32 × CS)) (x1 : Int32) (x2 : Int32) (x3 : Int32) (s0 : Int32) (s1 : Int32) (s2 : Int32) (S : CS) : Option (Int32 × CS) :=
    bT 7 S (f2_set n s0 s1 s2 (tOf 7 S)) fun _ S1 =>
    k20 x1 x2 (x3 + (nI 1)) S1
theorem mw0_addObject_b100 (n : Nat) (k20 : Int32 → Int32 → Int32 → CS → Option (Int32 × CS)) (mhk20 : ∀ (x1 : Int32) (x2 : Int32) (x3 : Int32) (S : CS), mo S (k20 x1 x2 x3 S)) (x1 : Int32) (x2 : Int32) (x3 : Int32) (s0 : Int32) (s1 : Int32) (s2 : Int32) (S : CS) : mo S (f0_addObject_b100 n k20 x1 x2 x3 s0 s1 s2 S) := by
  unfold f0_addObject_b100
  refine m_bT (mo2_set _ _ _ _ _) (fun v1 S1 => ?_)
  exact mhk20 x1 x2 (x3 + (nI 1)) S1
theorem w0_addObject_b100 (hsf : sfOk (SF tk)) (X : hX p s m args meth c cX0_addObject 5 RX0 (some .int) D (tyC cI) (SF tk) A) (n : Nat) (k20 : Int32 → Int32 → Int32 → CS → Option (Int32 × CS)) (hk20 : ∀ (x1 : Int32) (x2 : Int32) (x3 : Int32) (S : CS), hG p l e (fun r => rmC 3 68 (cS r.2 - cS S0) (sS r.2 - sS S0)) s m args below meth c 5 (ZW D (wC cI q) A s.heap S0 S) (cS S - cS S0) (sS S - sS S0) (fun r => MQ below (QWi D (tyC cI) (wC cI q) A r) args s (cS r.2 - cS S0) (sS r.2 - sS S0) A) (fun r => le S r.2) 20 [(0, .ref (q 53)), (1, .int x1), (2, .int x2), (3, .int x3)] [] (k20 x1 x2 x3 S)) (x1 : Int32) (x2 : Int32) (x3 : Int32) (s0 : Int32) (s1 : Int32) (s2 : Int32) (S : CS) : hG p l e (fun r => rmC 3 68 (cS r.2 - cS S0) (sS r.2 - sS S0)) s m args below meth c 5 (ZW D (wC cI q) A s.heap S0 S) (cS S - cS S0) (sS S - sS S0) (fun r => MQ below (QWi D (tyC cI) (wC cI q) A r) args s (cS r.2 - cS S0) (sS r.2 - sS S0) A) (fun r => le S r.2) 100 [(0, .ref (q 53)), (1, .int x1), (2, .int x2), (3, .int x3)] [.int s2, .int s1, .int s0, .ref (q 107)] (f0_addObject_b100 n k20 x1 x2 x3 s0 s1 s2 S) := by
  unfold f0_addObject_b100
  refine kt2_set_7 hsf X tlX0_68 ⟨Nat.le_of_ble_eq_true rfl, Nat.le_of_ble_eq_true rfl⟩ (Nat.le_of_ble_eq_true rfl) dX0_addObject_100 ?_
  intro v1 S1
  refine h_iinc (v := (nI 1)) (lv' := [(3, .int (x3 + (nI 1))), (0, .ref (q 53)), (1, .int x1), (2, .int x2)]) X dX0_addObject_103 rfl (by decide) (by decide) rfl ?_
  refine h_goto (tgt := 20) X dX0_addObject_106 (by decide) ?_
  exact h_pick [1, 2, 3, 0] rfl (hk20 x1 x2 (x3 + (nI 1)) S1)
def f0_addObject_b67 (n : Nat) (k20 : Int32 → Int32 → Int32 → CS → Option (Int32 × CS)) (x1 : Int32) (x2 : Int32) (x3 : Int32) (x4 : Int32) (s0 : Int32) (s1 : Int32) (s2 : Int32) (S : CS) : Option (Int32 × CS) :=
    bT 7 S (f2_set n s0 s1 s2 (tOf 7 S)) fun _ S1 =>
    if x4 = 0 then
      (f0_addObject_b100 n k20 x1 x2 x3 x2 ((nI 11) + x3) (nI 0) S1)
    else
      (bT 6 S1 (f2_get n x1 ((nI 34) + x3) (tOf 6 S1)) fun v2 S2 =>
      f0_addObject_b100 n k20 x1 x2 x3 x2 ((nI 11) + x3) v2 S2)
theorem mw0_addObject_b67 (n : Nat) (k20 : Int32 → Int32 → Int32 → CS → Option (Int32 × CS)) (mhk20 : ∀ (x1 : Int32) (x2 : Int32) (x3 : Int32) (S : CS), mo S (k20 x1 x2 x3 S)) (x1 : Int32) (x2 : Int32) (x3 : Int32) (x4 : Int32) (s0 : Int32) (s1 : Int32) (s2 : Int32) (S : CS) : mo S (f0_addObject_b67 n k20 x1 x2 x3 x4 s0 s1 s2 S) := by
  unfold f0_addObject_b67
  refine m_bT (mo2_set _ _ _ _ _) (fun v1 S1 => ?_)
  refine m_ite ?_ ?_
  · exact mw0_addObject_b100 n k20 mhk20 x1 x2 x3 x2 ((nI 11) + x3) (nI 0) S1
  · refine m_bT (mo2_get _ _ _ _) (fun v2 S2 => ?_)
    exact mw0_addObject_b100 n k20 mhk20 x1 x2 x3 x2 ((nI 11) + x3) v2 S2
theorem w0_addObject_b67 (hsf : sfOk (SF tk)) (X : hX p s m args meth c cX0_addObject 5 RX0 (some .int) D (tyC cI) (SF tk) A) (n : Nat) (k20 : Int32 → Int32 → Int32 → CS → Option (Int32 × CS)) (hk20 : ∀ (x1 : Int32) (x2 : Int32) (x3 : Int32) (S : CS), hG p l e (fun r => rmC 3 68 (cS r.2 - cS S0) (sS r.2 - sS S0)) s m args below meth c 5 (ZW D (wC cI q) A s.heap S0 S) (cS S - cS S0) (sS S - sS S0) (fun r => MQ below (QWi D (tyC cI) (wC cI q) A r) args s (cS r.2 - cS S0) (sS r.2 - sS S0) A) (fun r => le S r.2) 20 [(0, .ref (q 53)), (1, .int x1), (2, .int x2), (3, .int x3)] [] (k20 x1 x2 x3 S)) (x1 : Int32) (x2 : Int32) (x3 : Int32) (x4 : Int32) (s0 : Int32) (s1 : Int32) (s2 : Int32) (S : CS) : hG p l e (fun r => rmC 3 68 (cS r.2 - cS S0) (sS r.2 - sS S0)) s m args below meth c 5 (ZW D (wC cI q) A s.heap S0 S) (cS S - cS S0) (sS S - sS S0) (fun r => MQ below (QWi D (tyC cI) (wC cI q) A r) args s (cS r.2 - cS S0) (sS r.2 - sS S0) A) (fun r => le S r.2) 67 [(0, .ref (q 53)), (1, .int x1), (2, .int x2), (3, .int x3), (4, .int x4)] [.int s2, .int s1, .int s0, .ref (q 107)] (f0_addObject_b67 n k20 x1 x2 x3 x4 s0 s1 s2 S) := by
  unfold f0_addObject_b67
  refine kt2_set_7 hsf X tlX0_68 ⟨Nat.le_of_ble_eq_true rfl, Nat.le_of_ble_eq_true rfl⟩ (Nat.le_of_ble_eq_true rfl) dX0_addObject_67 ?_
  intro v1 S1
  refine h_aload_n X dX0_addObject_70 rfl rfl ?_
  refine c_g_IM_objects X fl0_23 dX0_addObject_71 ?_
  refine h_iload_n X dX0_addObject_74 rfl rfl ?_
  refine h_bipush (v := (nI 11)) X dX0_addObject_75 (by decide) ?_
  refine h_iload_n X dX0_addObject_77 rfl rfl ?_
  refine h_iadd X dX0_addObject_78 ?_
  refine h_iload X dX0_addObject_79 rfl ?_
  refine h_if_eq (tgt := 99) X dX0_addObject_81 (by decide) ?_ ?_
  · refine h_iconst (v := (nI 0)) X dX0_addObject_99 (by decide) ?_
    exact h_pick [0, 1, 2, 3] rfl (w0_addObject_b100 hsf X n k20 hk20 x1 x2 x3 x2 ((nI 11) + x3) (nI 0) S1)
  · refine h_aload_n X dX0_addObject_84 rfl rfl ?_
    refine c_g_IM_editions X fl0_20 dX0_addObject_85 ?_
    refine h_iload_n X dX0_addObject_88 rfl rfl ?_
    refine h_bipush (v := (nI 34)) X dX0_addObject_89 (by decide) ?_
    refine h_iload_n X dX0_addObject_91 rfl rfl ?_
    refine h_iadd X dX0_addObject_92 ?_
    refine kt2_get_6 hsf X tlX0_57 ⟨Nat.le_of_ble_eq_true rfl, Nat.le_of_ble_eq_true rfl⟩ (Nat.le_of_ble_eq_true rfl) dX0_addObject_93 ?_
    intro v2 S2
    refine h_goto (tgt := 100) X dX0_addObject_96 (by decide) ?_
    exact h_pick [0, 1, 2, 3] rfl (w0_addObject_b100 hsf X n k20 hk20 x1 x2 x3 x2 ((nI 11) + x3) v2 S2)
def f0_addObject_b47 (n : Nat) (k20 : Int32 → Int32 → Int32 → CS → Option (Int32 × CS)) (x1 : Int32) (x2 : Int32) (x3 : Int32) (s0 : Int32) (S : CS) : Option (Int32 × CS) :=
    if s0 = 0 then
      (f0_addObject_b67 n k20 x1 x2 x3 s0 x2 ((nI 1) + x3) (-1 : Int32) S)
    else
      (f0_addObject_b67 n k20 x1 x2 x3 s0 x2 ((nI 1) + x3) (nI 0) S)
theorem mw0_addObject_b47 (n : Nat) (k20 : Int32 → Int32 → Int32 → CS → Option (Int32 × CS)) (mhk20 : ∀ (x1 : Int32) (x2 : Int32) (x3 : Int32) (S : CS), mo S (k20 x1 x2 x3 S)) (x1 : Int32) (x2 : Int32) (x3 : Int32) (s0 : Int32) (S : CS) : mo S (f0_addObject_b47 n k20 x1 x2 x3 s0 S) := by
  unfold f0_addObject_b47
  refine m_ite ?_ ?_
  · exact mw0_addObject_b67 n k20 mhk20 x1 x2 x3 s0 x2 ((nI 1) + x3) (-1 : Int32) S
  · exact mw0_addObject_b67 n k20 mhk20 x1 x2 x3 s0 x2 ((nI 1) + x3) (nI 0) S
theorem w0_addObject_b47 (hsf : sfOk (SF tk)) (X : hX p s m args meth c cX0_addObject 5 RX0 (some .int) D (tyC cI) (SF tk) A) (n : Nat) (k20 : Int32 → Int32 → Int32 → CS → Option (Int32 × CS)) (hk20 : ∀ (x1 : Int32) (x2 : Int32) (x3 : Int32) (S : CS), hG p l e (fun r => rmC 3 68 (cS r.2 - cS S0) (sS r.2 - sS S0)) s m args below meth c 5 (ZW D (wC cI q) A s.heap S0 S) (cS S - cS S0) (sS S - sS S0) (fun r => MQ below (QWi D (tyC cI) (wC cI q) A r) args s (cS r.2 - cS S0) (sS r.2 - sS S0) A) (fun r => le S r.2) 20 [(0, .ref (q 53)), (1, .int x1), (2, .int x2), (3, .int x3)] [] (k20 x1 x2 x3 S)) (x1 : Int32) (x2 : Int32) (x3 : Int32) (s0 : Int32) (S : CS) : hG p l e (fun r => rmC 3 68 (cS r.2 - cS S0) (sS r.2 - sS S0)) s m args below meth c 5 (ZW D (wC cI q) A s.heap S0 S) (cS S - cS S0) (sS S - sS S0) (fun r => MQ below (QWi D (tyC cI) (wC cI q) A r) args s (cS r.2 - cS S0) (sS r.2 - sS S0) A) (fun r => le S r.2) 47 [(0, .ref (q 53)), (1, .int x1), (2, .int x2), (3, .int x3)] [.int s0] (f0_addObject_b47 n k20 x1 x2 x3 s0 S) := by
  unfold f0_addObject_b47
  refine h_istore (lv' := [(4, .int s0), (0, .ref (q 53)), (1, .int x1), (2, .int x2), (3, .int x3)]) X dX0_addObject_47 (by decide) rfl ?_
  refine h_aload_n X dX0_addObject_49 rfl rfl ?_
  refine c_g_IM_objects X fl0_23 dX0_addObject_50 ?_
  refine h_iload_n X dX0_addObject_53 rfl rfl ?_
  refine h_iconst (v := (nI 1)) X dX0_addObject_54 (by decide) ?_
  refine h_iload_n X dX0_addObject_55 rfl rfl ?_
  refine h_iadd X dX0_addObject_56 ?_
  refine h_iload X dX0_addObject_57 rfl ?_
  refine h_if_eq (tgt := 66) X dX0_addObject_59 (by decide) ?_ ?_
  · refine h_iconst (v := (-1 : Int32)) X dX0_addObject_66 (by decide) ?_
    exact h_pick [1, 2, 3, 4, 0] rfl (w0_addObject_b67 hsf X n k20 hk20 x1 x2 x3 s0 x2 ((nI 1) + x3) (-1 : Int32) S)
  · refine h_iconst (v := (nI 0)) X dX0_addObject_62 (by decide) ?_
    refine h_goto (tgt := 67) X dX0_addObject_63 (by decide) ?_
    exact h_pick [1, 2, 3, 4, 0] rfl (w0_addObject_b67 hsf X n k20 hk20 x1 x2 x3 s0 x2 ((nI 1) + x3) (nI 0) S)
def f0_addObject_l20 (n : Nat) : Nat → Int32 → Int32 → Int32 → CS → Option (Int32 × CS)
  | 0, _, _, _, _ => none
  | k + 1, x1, x2, x3, S => if (nI 10) ≤ x3 then
      (some (x2, S))
    else
      (bT 6 S (f2_get n x1 ((nI 24) + x3) (tOf 6 S)) fun v1 S1 =>
      if v1 = (nI 1) then
        (f0_addObject_b47 n (f0_addObject_l20 n k) x1 x2 x3 (nI 1) S1)
      else
        (f0_addObject_b47 n (f0_addObject_l20 n k) x1 x2 x3 (nI 0) S1))
theorem mw0_addObject_l20 (n : Nat) : ∀ (k : Nat) (x1 : Int32) (x2 : Int32) (x3 : Int32) (S : CS), mo S (f0_addObject_l20 n k x1 x2 x3 S) := by
  intro k
  induction k with
  | zero =>
    intro x1 x2 x3 S
    exact m_none
  | succ k ih =>
    intro x1 x2 x3 S
    rw [f0_addObject_l20]
    refine m_ite ?_ ?_
    · exact m_some
    · refine m_bT (mo2_get _ _ _ _) (fun v1 S1 => ?_)
      refine m_ite ?_ ?_
      · exact mw0_addObject_b47 n (f0_addObject_l20 n k) ih x1 x2 x3 (nI 1) S1
      · exact mw0_addObject_b47 n (f0_addObject_l20 n k) ih x1 x2 x3 (nI 0) S1
theorem w0_addObject_l20 (hsf : sfOk (SF tk)) (X : hX p s m args meth c cX0_addObject 5 RX0 (some .int) D (tyC cI) (SF tk) A) (n : Nat) : ∀ (k : Nat) (x1 : Int32) (x2 : Int32) (x3 : Int32) (S : CS), hG p l e (fun r => rmC 3 68 (cS r.2 - cS S0) (sS r.2 - sS S0)) s m args below meth c 5 (ZW D (wC cI q) A s.heap S0 S) (cS S - cS S0) (sS S - sS S0) (fun r => MQ below (QWi D (tyC cI) (wC cI q) A r) args s (cS r.2 - cS S0) (sS r.2 - sS S0) A) (fun r => le S r.2) 20 [(0, .ref (q 53)), (1, .int x1), (2, .int x2), (3, .int x3)] [] (f0_addObject_l20 n k x1 x2 x3 S) := by
  intro k
  induction k with
  | zero =>
    intro x1 x2 x3 S
    exact h_none
  | succ k ih =>
    intro x1 x2 x3 S
    rw [f0_addObject_l20]
    refine h_iload_n X dX0_addObject_20 rfl rfl ?_
    refine h_bipush (v := (nI 10)) X dX0_addObject_21 (by decide) ?_
    refine h_icmp_ge (tgt := 109) X dX0_addObject_23 (by decide) ?_ ?_
    · refine h_iload_n X dX0_addObject_109 rfl rfl ?_
      exact h_iret X dX0_addObject_110
    · refine h_aload_n X dX0_addObject_26 rfl rfl ?_
      refine c_g_IM_editions X fl0_20 dX0_addObject_27 ?_
      refine h_iload_n X dX0_addObject_30 rfl rfl ?_
      refine h_bipush (v := (nI 24)) X dX0_addObject_31 (by decide) ?_
      refine h_iload_n X dX0_addObject_33 rfl rfl ?_
      refine h_iadd X dX0_addObject_34 ?_
      refine kt2_get_6 hsf X tlX0_57 ⟨Nat.le_of_ble_eq_true rfl, Nat.le_of_ble_eq_true rfl⟩ (Nat.le_of_ble_eq_true rfl) dX0_addObject_35 ?_
      intro v1 S1
      refine h_iconst (v := (nI 1)) X dX0_addObject_38 (by decide) ?_
      refine h_icmp_ne (tgt := 46) X dX0_addObject_39 (by decide) ?_ ?_
      · refine h_iconst (v := (nI 0)) X dX0_addObject_46 (by decide) ?_
        exact h_pick [0, 1, 2, 3] rfl (w0_addObject_b47 hsf X n (f0_addObject_l20 n k) ih x1 x2 x3 (nI 0) S1)
      · refine h_iconst (v := (nI 1)) X dX0_addObject_42 (by decide) ?_
        refine h_goto (tgt := 47) X dX0_addObject_43 (by decide) ?_
        exact h_pick [0, 1, 2, 3] rfl (w0_addObject_b47 hsf X n (f0_addObject_l20 n k) ih x1 x2 x3 (nI 1) S1)
def f0_addObject (n : Nat) (x1 : Int32) (S : CS) : Option (Int32 × CS) :=
    bT 7 S (f2_add n (tOf 7 S)) fun v1 S1 =>
    bT 7 S1 (f2_set n v1 (nI 0) x1 (tOf 7 S1)) fun _ S2 =>
    f0_addObject_l20 n n x1 v1 (nI 0) S2
theorem w0_addObject (hsf : sfOk (SF tk)) (X : hX p s m args meth c cX0_addObject 5 RX0 (some .int) D (tyC cI) (SF tk) A) {S0 : CS} (n : Nat) (x1 : Int32) (S : CS) : hG p l e (fun r => rmC 3 68 (cS r.2 - cS S0) (sS r.2 - sS S0)) s m args below meth c 5 (ZW D (wC cI q) A s.heap S0 S) (cS S - cS S0) (sS S - sS S0) (fun r => MQ below (QWi D (tyC cI) (wC cI q) A r) args s (cS r.2 - cS S0) (sS r.2 - sS S0) A) (fun r => le S r.2) 0 [(0, .ref (q 53)), (1, .int x1)] [] (f0_addObject n x1 S) := by
    unfold f0_addObject
    refine h_aload_n X dX0_addObject_0 rfl rfl ?_
    refine c_g_IM_objects X fl0_23 dX0_addObject_1 ?_
    refine kt2_add_7 hsf X tlX0_65 ⟨Nat.le_of_ble_eq_true rfl, Nat.le_of_ble_eq_true rfl⟩ (Nat.le_of_ble_eq_true rfl) dX0_addObject_4 ?_
    intro v1 S1
    refine h_istore_n (lv' := [(2, .int v1), (0, .ref (q 53)), (1, .int x1)]) X dX0_addObject_7 rfl (by decide) rfl ?_
    refine h_aload_n X dX0_addObject_8 rfl rfl ?_
    refine c_g_IM_objects X fl0_23 dX0_addObject_9 ?_
    refine h_iload_n X dX0_addObject_12 rfl rfl ?_
    refine h_iconst (v := (nI 0)) X dX0_addObject_13 (by decide) ?_
    refine h_iload_n X dX0_addObject_14 rfl rfl ?_
    refine kt2_set_7 hsf X tlX0_68 ⟨Nat.le_of_ble_eq_true rfl, Nat.le_of_ble_eq_true rfl⟩ (Nat.le_of_ble_eq_true rfl) dX0_addObject_15 ?_
    intro v2 S2
    refine h_iconst (v := (nI 0)) X dX0_addObject_18 (by decide) ?_
    refine h_istore_n (lv' := [(3, .int (nI 0)), (2, .int v1), (0, .ref (q 53)), (1, .int x1)]) X dX0_addObject_19 rfl (by decide) rfl ?_
    exact h_pick [2, 3, 1, 0] rfl (w0_addObject_l20 hsf X n n x1 v1 (nI 0) S2)
theorem mo0_addObject (n : Nat) (x1 : Int32) (S : CS) : mo S (f0_addObject n x1 S) := by
    unfold f0_addObject
    refine m_bT (mo2_add _ _) (fun v1 S1 => ?_)
    refine m_bT (mo2_set _ _ _ _ _) (fun v2 S2 => ?_)
    exact mw0_addObject_l20 n n x1 v1 (nI 0) S2
theorem c0_addObject (hsf : sfOk (SF tk)) (l : Launch) (D : va_G) (cI : ClassId) (q : Nat → Nat) (n : Nat) (x1 : Int32) (S : CS) : MetW l D (tyC cI) (SF tk) (wC cI q) yX0_addObject cX0_addObject 5 (some .int) 3 68 QWi [.ref (q 53), .int x1] S (f0_addObject n x1 S) := by
  refine MetW.of (own := RX0) (by decide) rfl (Nat.le_of_ble_eq_true rfl) (mo0_addObject n x1 S) ?_
  intro x p e s m args below meth c X
  refine h_pick (lv' := [(0, .ref (q 53)), (1, .int x1)]) [0, 1] rfl ?_
  exact h_close (w0_addObject hsf X n x1 S)
theorem tc0_addObject : Cond.code yX0_addObject cX0_addObject 5 (some .int) ∈ tt := tt_in (List.mem_of_getElem? (i := 516) (by decide +kernel)) (by decide +kernel)
theorem ti0_addObject : Cond.instanceMethod yX0_addObject ∈ tt := tt_in (List.mem_of_getElem? (i := 514) (by decide +kernel)) (by decide +kernel)
theorem te0_addObject : Cond.selects RX0 yX0_addObject yX0_addObject ∈ tt := tt_in (List.mem_of_getElem? (i := 515) (by decide +kernel)) (by decide +kernel)
theorem k0_addObject (hsf : sfOk (SF tk)) (X : hX p s m args meth c cc nL own rt D (tyC cI) (SF tk) A) {n : Nat} {x1 : Int32} {ix : Nat} (hlk : Cond.methodLink own ix yX0_addObject ∈ tt) {rest : List Value} {K : Int32 → CS → Option (ρ × CS)} (hR : 3 + 1 ≤ fr ∧ 8 + (5 + 11) + 68 ≤ lo) (hcat : (rest.map fun v => v.category).sum ≤ 8) (d : decode cc pc = .ok (.invokevirtual ix, 3)) (kk : ∀ v S1, hG p l e (fun r => rmC fr lo (cS r.2 - cS S0) (sS r.2 - sS S0)) s m args below meth c nL (ZW D (wC cI q) A s.heap S0 S1) (cS S1 - cS S0) (sS S1 - sS S0) QQ (fun r => le S1 r.2) (pc + 3) lv (.int v :: rest) (K v S1)) : hG p l e (fun r => rmC fr lo (cS r.2 - cS S0) (sS r.2 - sS S0)) s m args below meth c nL (ZW D (wC cI q) A s.heap S0 S) (cS S - cS S0) (sS S - sS S0) QQ (fun r => le S r.2) pc lv (.int x1 :: .ref (q 53) :: rest) (bnd (f0_addObject n x1 S) K) := h_callVi (As := [.int x1]) (b := q 53) (C := RX0) hsf X (c0_addObject hsf l D cI q n x1 S) (cwVC (k := 1) X.1.2.2.2.2.1 hlk ti0_addObject te0_addObject tc0_addObject ini_0 (by decide +kernel) hR) (fun x H h1 h2 => va_recv h1 h2 (ci := 0) (q0 := 9) rfl rfl) rfl rfl hcat d kk
-- X0.hasField
def f0_hasField (n : Nat) (x1 : Int32) (x2 : Int32) (S : CS) : Option (Int32 × CS) :=
    bT 7 S (f2_has n x1 (tOf 7 S)) fun v1 S1 =>
    if v1 = 0 then
      (zt (nI 0) (some ((nI 0), S1)))
    else
      (bT 7 S1 (f2_get n x1 ((nI 1) + x2) (tOf 7 S1)) fun v2 S2 =>
      if v2 = (-1 : Int32) then (zt (nI 0) (some ((nI 0), S2))) else (zt (nI 1) (some ((nI 1), S2))))
theorem w0_hasField (hsf : sfOk (SF tk)) (X : hX p s m args meth c cX0_hasField 3 RX0 (some .boolean) D (tyC cI) (SF tk) A) {S0 : CS} (n : Nat) (x1 : Int32) (x2 : Int32) (S : CS) : hG p l e (fun r => rmC 1 23 (cS r.2 - cS S0) (sS r.2 - sS S0)) s m args below meth c 3 (ZW D (wC cI q) A s.heap S0 S) (cS S - cS S0) (sS S - sS S0) (fun r => MQ below (QWi D (tyC cI) (wC cI q) A r) args s (cS r.2 - cS S0) (sS r.2 - sS S0) A) (fun r => le S r.2) 0 [(0, .ref (q 53)), (1, .int x1), (2, .int x2)] [] (f0_hasField n x1 x2 S) := by
    unfold f0_hasField
    refine h_aload_n X dX0_hasField_0 rfl rfl ?_
    refine c_g_IM_objects X fl0_23 dX0_hasField_1 ?_
    refine h_iload_n X dX0_hasField_4 rfl rfl ?_
    refine kt2_has_7 hsf X tlX0_54 ⟨Nat.le_of_ble_eq_true rfl, Nat.le_of_ble_eq_true rfl⟩ (Nat.le_of_ble_eq_true rfl) dX0_hasField_5 ?_
    intro v1 S1
    refine h_if_eq (tgt := 30) X dX0_hasField_8 (by decide) ?_ ?_
    · refine h_iconst (v := (nI 0)) X dX0_hasField_30 (by decide) ?_
      exact h_zret X dX0_hasField_31
    · refine h_aload_n X dX0_hasField_11 rfl rfl ?_
      refine c_g_IM_objects X fl0_23 dX0_hasField_12 ?_
      refine h_iload_n X dX0_hasField_15 rfl rfl ?_
      refine h_iconst (v := (nI 1)) X dX0_hasField_16 (by decide) ?_
      refine h_iload_n X dX0_hasField_17 rfl rfl ?_
      refine h_iadd X dX0_hasField_18 ?_
      refine kt2_get_7 hsf X tlX0_57 ⟨Nat.le_of_ble_eq_true rfl, Nat.le_of_ble_eq_true rfl⟩ (Nat.le_of_ble_eq_true rfl) dX0_hasField_19 ?_
      intro v2 S2
      refine h_iconst (v := (-1 : Int32)) X dX0_hasField_22 (by decide) ?_
      refine h_icmp_eq (tgt := 30) X dX0_hasField_23 (by decide) ?_ ?_
      · refine h_iconst (v := (nI 0)) X dX0_hasField_30 (by decide) ?_
        exact h_zret X dX0_hasField_31
      · refine h_iconst (v := (nI 1)) X dX0_hasField_26 (by decide) ?_
        refine h_goto (tgt := 31) X dX0_hasField_27 (by decide) ?_
        exact h_zret X dX0_hasField_31
theorem mo0_hasField (n : Nat) (x1 : Int32) (x2 : Int32) (S : CS) : mo S (f0_hasField n x1 x2 S) := by
    unfold f0_hasField
    refine m_bT (mo2_has _ _ _) (fun v1 S1 => ?_)
    refine m_ite ?_ ?_
    · exact m_zt m_some
    · refine m_bT (mo2_get _ _ _ _) (fun v2 S2 => ?_)
      refine m_ite ?_ ?_
      · exact m_zt m_some
      · exact m_zt m_some
theorem c0_hasField (hsf : sfOk (SF tk)) (l : Launch) (D : va_G) (cI : ClassId) (q : Nat → Nat) (n : Nat) (x1 : Int32) (x2 : Int32) (S : CS) : MetW l D (tyC cI) (SF tk) (wC cI q) yX0_hasField cX0_hasField 3 (some .boolean) 1 23 QWi [.ref (q 53), .int x1, .int x2] S (f0_hasField n x1 x2 S) := by
  refine MetW.of (own := RX0) (by decide) rfl (Nat.le_of_ble_eq_true rfl) (mo0_hasField n x1 x2 S) ?_
  intro x p e s m args below meth c X
  refine h_pick (lv' := [(0, .ref (q 53)), (1, .int x1), (2, .int x2)]) [0, 1, 2] rfl ?_
  exact h_close (w0_hasField hsf X n x1 x2 S)
theorem tc0_hasField : Cond.code yX0_hasField cX0_hasField 3 (some .boolean) ∈ tt := tt_in (List.mem_of_getElem? (i := 561) (by decide +kernel)) (by decide +kernel)
theorem ti0_hasField : Cond.instanceMethod yX0_hasField ∈ tt := tt_in (List.mem_of_getElem? (i := 559) (by decide +kernel)) (by decide +kernel)
theorem te0_hasField : Cond.selects RX0 yX0_hasField yX0_hasField ∈ tt := tt_in (List.mem_of_getElem? (i := 560) (by decide +kernel)) (by decide +kernel)
theorem k0_hasField (hsf : sfOk (SF tk)) (X : hX p s m args meth c cc nL own rt D (tyC cI) (SF tk) A) {n : Nat} {x1 : Int32} {x2 : Int32} {ix : Nat} (hlk : Cond.methodLink own ix yX0_hasField ∈ tt) {rest : List Value} {K : Int32 → CS → Option (ρ × CS)} (hR : 1 + 1 ≤ fr ∧ 8 + (3 + 11) + 23 ≤ lo) (hcat : (rest.map fun v => v.category).sum ≤ 8) (d : decode cc pc = .ok (.invokevirtual ix, 3)) (kk : ∀ v S1, hG p l e (fun r => rmC fr lo (cS r.2 - cS S0) (sS r.2 - sS S0)) s m args below meth c nL (ZW D (wC cI q) A s.heap S0 S1) (cS S1 - cS S0) (sS S1 - sS S0) QQ (fun r => le S1 r.2) (pc + 3) lv (.int v :: rest) (K v S1)) : hG p l e (fun r => rmC fr lo (cS r.2 - cS S0) (sS r.2 - sS S0)) s m args below meth c nL (ZW D (wC cI q) A s.heap S0 S) (cS S - cS S0) (sS S - sS S0) QQ (fun r => le S r.2) pc lv (.int x2 :: .int x1 :: .ref (q 53) :: rest) (bnd (f0_hasField n x1 x2 S) K) := h_callVi (As := [.int x1, .int x2]) (b := q 53) (C := RX0) hsf X (c0_hasField hsf l D cI q n x1 x2 S) (cwVC (k := 2) X.1.2.2.2.2.1 hlk ti0_hasField te0_hasField tc0_hasField ini_0 (by decide +kernel) hR) (fun x H h1 h2 => va_recv h1 h2 (ci := 0) (q0 := 9) rfl rfl) rfl rfl hcat d kk
-- X0.setField
def f0_setField (n : Nat) (x1 : Int32) (x2 : Int32) (x3 : Int32) (x4 : Int32) (S : CS) : Option (Int32 × CS) :=
    bT 7 S (f2_set n x1 ((nI 1) + x2) x3 (tOf 7 S)) fun _ S1 =>
    bT 7 S1 (f2_set n x1 ((nI 11) + x2) x4 (tOf 7 S1)) fun _ S2 =>
    some (0, S2)
theorem w0_setField (hsf : sfOk (SF tk)) (X : hX p s m args meth c cX0_setField 5 RX0 none D (tyC cI) (SF tk) A) {S0 : CS} (n : Nat) (x1 : Int32) (x2 : Int32) (x3 : Int32) (x4 : Int32) (S : CS) : hG p l e (fun r => rmC 1 24 (cS r.2 - cS S0) (sS r.2 - sS S0)) s m args below meth c 5 (ZW D (wC cI q) A s.heap S0 S) (cS S - cS S0) (sS S - sS S0) (fun r => MQ below (QWv D (tyC cI) (wC cI q) A r) args s (cS r.2 - cS S0) (sS r.2 - sS S0) A) (fun r => le S r.2) 0 [(0, .ref (q 53)), (1, .int x1), (2, .int x2), (3, .int x3), (4, .int x4)] [] (f0_setField n x1 x2 x3 x4 S) := by
    unfold f0_setField
    refine h_aload_n X dX0_setField_0 rfl rfl ?_
    refine c_g_IM_objects X fl0_23 dX0_setField_1 ?_
    refine h_iload_n X dX0_setField_4 rfl rfl ?_
    refine h_iconst (v := (nI 1)) X dX0_setField_5 (by decide) ?_
    refine h_iload_n X dX0_setField_6 rfl rfl ?_
    refine h_iadd X dX0_setField_7 ?_
    refine h_iload_n X dX0_setField_8 rfl rfl ?_
    refine kt2_set_7 hsf X tlX0_68 ⟨Nat.le_of_ble_eq_true rfl, Nat.le_of_ble_eq_true rfl⟩ (Nat.le_of_ble_eq_true rfl) dX0_setField_9 ?_
    intro v1 S1
    refine h_aload_n X dX0_setField_12 rfl rfl ?_
    refine c_g_IM_objects X fl0_23 dX0_setField_13 ?_
    refine h_iload_n X dX0_setField_16 rfl rfl ?_
    refine h_bipush (v := (nI 11)) X dX0_setField_17 (by decide) ?_
    refine h_iload_n X dX0_setField_19 rfl rfl ?_
    refine h_iadd X dX0_setField_20 ?_
    refine h_iload X dX0_setField_21 rfl ?_
    refine kt2_set_7 hsf X tlX0_68 ⟨Nat.le_of_ble_eq_true rfl, Nat.le_of_ble_eq_true rfl⟩ (Nat.le_of_ble_eq_true rfl) dX0_setField_23 ?_
    intro v2 S2
    exact h_vret X dX0_setField_26
theorem mo0_setField (n : Nat) (x1 : Int32) (x2 : Int32) (x3 : Int32) (x4 : Int32) (S : CS) : mo S (f0_setField n x1 x2 x3 x4 S) := by
    unfold f0_setField
    refine m_bT (mo2_set _ _ _ _ _) (fun v1 S1 => ?_)
    refine m_bT (mo2_set _ _ _ _ _) (fun v2 S2 => ?_)
    exact m_some
theorem c0_setField (hsf : sfOk (SF tk)) (l : Launch) (D : va_G) (cI : ClassId) (q : Nat → Nat) (n : Nat) (x1 : Int32) (x2 : Int32) (x3 : Int32) (x4 : Int32) (S : CS) : MetW l D (tyC cI) (SF tk) (wC cI q) yX0_setField cX0_setField 5 none 1 24 QWv [.ref (q 53), .int x1, .int x2, .int x3, .int x4] S (f0_setField n x1 x2 x3 x4 S) := by
  refine MetW.of (own := RX0) (by decide) rfl (Nat.le_of_ble_eq_true rfl) (mo0_setField n x1 x2 x3 x4 S) ?_
  intro x p e s m args below meth c X
  refine h_pick (lv' := [(0, .ref (q 53)), (1, .int x1), (2, .int x2), (3, .int x3), (4, .int x4)]) [0, 1, 2, 3, 4] rfl ?_
  exact h_close (w0_setField hsf X n x1 x2 x3 x4 S)
theorem tc0_setField : Cond.code yX0_setField cX0_setField 5 none ∈ tt := tt_in (List.mem_of_getElem? (i := 569) (by decide +kernel)) (by decide +kernel)
theorem ti0_setField : Cond.instanceMethod yX0_setField ∈ tt := tt_in (List.mem_of_getElem? (i := 567) (by decide +kernel)) (by decide +kernel)
theorem te0_setField : Cond.selects RX0 yX0_setField yX0_setField ∈ tt := tt_in (List.mem_of_getElem? (i := 568) (by decide +kernel)) (by decide +kernel)
theorem k0_setField (hsf : sfOk (SF tk)) (X : hX p s m args meth c cc nL own rt D (tyC cI) (SF tk) A) {n : Nat} {x1 : Int32} {x2 : Int32} {x3 : Int32} {x4 : Int32} {ix : Nat} (hlk : Cond.methodLink own ix yX0_setField ∈ tt) {rest : List Value} {K : Int32 → CS → Option (ρ × CS)} (hR : 1 + 1 ≤ fr ∧ 8 + (5 + 11) + 24 ≤ lo) (hcat : (rest.map fun v => v.category).sum ≤ 8) (d : decode cc pc = .ok (.invokevirtual ix, 3)) (kk : ∀ v S1, hG p l e (fun r => rmC fr lo (cS r.2 - cS S0) (sS r.2 - sS S0)) s m args below meth c nL (ZW D (wC cI q) A s.heap S0 S1) (cS S1 - cS S0) (sS S1 - sS S0) QQ (fun r => le S1 r.2) (pc + 3) lv rest (K v S1)) : hG p l e (fun r => rmC fr lo (cS r.2 - cS S0) (sS r.2 - sS S0)) s m args below meth c nL (ZW D (wC cI q) A s.heap S0 S) (cS S - cS S0) (sS S - sS S0) QQ (fun r => le S r.2) pc lv (.int x4 :: .int x3 :: .int x2 :: .int x1 :: .ref (q 53) :: rest) (bnd (f0_setField n x1 x2 x3 x4 S) K) := h_callVv (As := [.int x1, .int x2, .int x3, .int x4]) (b := q 53) (C := RX0) hsf X (c0_setField hsf l D cI q n x1 x2 x3 x4 S) (cwVC (k := 4) X.1.2.2.2.2.1 hlk ti0_setField te0_setField tc0_setField ini_0 (by decide +kernel) hR) (fun x H h1 h2 => va_recv h1 h2 (ci := 0) (q0 := 9) rfl rfl) rfl rfl hcat d kk
-- X0.carryFields
def f0_carryFields_b55 (n : Nat) (k2 : Int32 → Int32 → Int32 → CS → Option (Int32 × CS)) (x1 : Int32) (x2 : Int32) (x3 : Int32) (S : CS) : Option (Int32 × CS) :=
    k2 x1 x2 (x3 + (nI 1)) S
theorem mw0_carryFields_b55 (n : Nat) (k2 : Int32 → Int32 → Int32 → CS → Option (Int32 × CS)) (mhk2 : ∀ (x1 : Int32) (x2 : Int32) (x3 : Int32) (S : CS), mo S (k2 x1 x2 x3 S)) (x1 : Int32) (x2 : Int32) (x3 : Int32) (S : CS) : mo S (f0_carryFields_b55 n k2 x1 x2 x3 S) := by
  unfold f0_carryFields_b55
  exact mhk2 x1 x2 (x3 + (nI 1)) S
theorem w0_carryFields_b55 (hsf : sfOk (SF tk)) (X : hX p s m args meth c cX0_carryFields 4 RX0 none D (tyC cI) (SF tk) A) (n : Nat) (k2 : Int32 → Int32 → Int32 → CS → Option (Int32 × CS)) (hk2 : ∀ (x1 : Int32) (x2 : Int32) (x3 : Int32) (S : CS), hG p l e (fun r => rmC 2 48 (cS r.2 - cS S0) (sS r.2 - sS S0)) s m args below meth c 4 (ZW D (wC cI q) A s.heap S0 S) (cS S - cS S0) (sS S - sS S0) (fun r => MQ below (QWv D (tyC cI) (wC cI q) A r) args s (cS r.2 - cS S0) (sS r.2 - sS S0) A) (fun r => le S r.2) 2 [(0, .ref (q 53)), (1, .int x1), (2, .int x2), (3, .int x3)] [] (k2 x1 x2 x3 S)) (x1 : Int32) (x2 : Int32) (x3 : Int32) (S : CS) : hG p l e (fun r => rmC 2 48 (cS r.2 - cS S0) (sS r.2 - sS S0)) s m args below meth c 4 (ZW D (wC cI q) A s.heap S0 S) (cS S - cS S0) (sS S - sS S0) (fun r => MQ below (QWv D (tyC cI) (wC cI q) A r) args s (cS r.2 - cS S0) (sS r.2 - sS S0) A) (fun r => le S r.2) 55 [(0, .ref (q 53)), (1, .int x1), (2, .int x2), (3, .int x3)] [] (f0_carryFields_b55 n k2 x1 x2 x3 S) := by
  unfold f0_carryFields_b55
  refine h_iinc (v := (nI 1)) (lv' := [(3, .int (x3 + (nI 1))), (0, .ref (q 53)), (1, .int x1), (2, .int x2)]) X dX0_carryFields_55 rfl (by decide) (by decide) rfl ?_
  refine h_goto (tgt := 2) X dX0_carryFields_58 (by decide) ?_
  exact h_pick [1, 2, 3, 0] rfl (hk2 x1 x2 (x3 + (nI 1)) S)
theorem tlX0_102 : Cond.methodLink RX0 102 yX0_hasField ∈ tt := tt_in (List.mem_of_getElem? (i := 741) (by decide +kernel)) (by decide +kernel)
theorem tlX0_106 : Cond.methodLink RX0 106 yX0_setField ∈ tt := tt_in (List.mem_of_getElem? (i := 742) (by decide +kernel)) (by decide +kernel)
def f0_carryFields_l2 (n : Nat) : Nat → Int32 → Int32 → Int32 → CS → Option (Int32 × CS)
  | 0, _, _, _, _ => none
  | k + 1, x1, x2, x3, S => if (nI 10) ≤ x3 then
      (some (0, S))
    else
      (bnd (f0_hasField n x1 x3 S) fun v1 S1 =>
      if v1 = 0 then
        (f0_carryFields_b55 n (f0_carryFields_l2 n k) x1 x2 x3 S1)
      else
        (bnd (f0_hasField n x2 x3 S1) fun v2 S2 =>
        if v2 = 0 then
          (f0_carryFields_b55 n (f0_carryFields_l2 n k) x1 x2 x3 S2)
        else
          (bT 7 S2 (f2_get n x1 ((nI 1) + x3) (tOf 7 S2)) fun v3 S3 =>
          bT 7 S3 (f2_get n x1 ((nI 11) + x3) (tOf 7 S3)) fun v4 S4 =>
          bnd (f0_setField n x2 x3 v3 v4 S4) fun _ S5 =>
          f0_carryFields_b55 n (f0_carryFields_l2 n k) x1 x2 x3 S5)))
theorem mw0_carryFields_l2 (n : Nat) : ∀ (k : Nat) (x1 : Int32) (x2 : Int32) (x3 : Int32) (S : CS), mo S (f0_carryFields_l2 n k x1 x2 x3 S) := by
  intro k
  induction k with
  | zero =>
    intro x1 x2 x3 S
    exact m_none
  | succ k ih =>
    intro x1 x2 x3 S
    rw [f0_carryFields_l2]
    refine m_ite ?_ ?_
    · exact m_some
    · refine m_bnd (mo0_hasField _ _ _ _) (fun v1 S1 => ?_)
      refine m_ite ?_ ?_
      · exact mw0_carryFields_b55 n (f0_carryFields_l2 n k) ih x1 x2 x3 S1
      · refine m_bnd (mo0_hasField _ _ _ _) (fun v2 S2 => ?_)
        refine m_ite ?_ ?_
        · exact mw0_carryFields_b55 n (f0_carryFields_l2 n k) ih x1 x2 x3 S2
        · refine m_bT (mo2_get _ _ _ _) (fun v3 S3 => ?_)
          refine m_bT (mo2_get _ _ _ _) (fun v4 S4 => ?_)
          refine m_bnd (mo0_setField _ _ _ _ _ _) (fun v5 S5 => ?_)
          exact mw0_carryFields_b55 n (f0_carryFields_l2 n k) ih x1 x2 x3 S5
theorem w0_carryFields_l2 (hsf : sfOk (SF tk)) (X : hX p s m args meth c cX0_carryFields 4 RX0 none D (tyC cI) (SF tk) A) (n : Nat) : ∀ (k : Nat) (x1 : Int32) (x2 : Int32) (x3 : Int32) (S : CS), hG p l e (fun r => rmC 2 48 (cS r.2 - cS S0) (sS r.2 - sS S0)) s m args below meth c 4 (ZW D (wC cI q) A s.heap S0 S) (cS S - cS S0) (sS S - sS S0) (fun r => MQ below (QWv D (tyC cI) (wC cI q) A r) args s (cS r.2 - cS S0) (sS r.2 - sS S0) A) (fun r => le S r.2) 2 [(0, .ref (q 53)), (1, .int x1), (2, .int x2), (3, .int x3)] [] (f0_carryFields_l2 n k x1 x2 x3 S) := by
  intro k
  induction k with
  | zero =>
    intro x1 x2 x3 S
    exact h_none
  | succ k ih =>
    intro x1 x2 x3 S
    rw [f0_carryFields_l2]
    refine h_iload_n X dX0_carryFields_2 rfl rfl ?_
    refine h_bipush (v := (nI 10)) X dX0_carryFields_3 (by decide) ?_
    refine h_icmp_ge (tgt := 61) X dX0_carryFields_5 (by decide) ?_ ?_
    · exact h_vret X dX0_carryFields_61
    · refine h_aload_n X dX0_carryFields_8 rfl rfl ?_
      refine h_iload_n X dX0_carryFields_9 rfl rfl ?_
      refine h_iload_n X dX0_carryFields_10 rfl rfl ?_
      refine k0_hasField hsf X tlX0_102 ⟨Nat.le_of_ble_eq_true rfl, Nat.le_of_ble_eq_true rfl⟩ (Nat.le_of_ble_eq_true rfl) dX0_carryFields_11 ?_
      intro v1 S1
      refine h_if_eq (tgt := 55) X dX0_carryFields_14 (by decide) ?_ ?_
      · exact h_pick [0, 1, 2, 3] rfl (w0_carryFields_b55 hsf X n (f0_carryFields_l2 n k) ih x1 x2 x3 S1)
      · refine h_aload_n X dX0_carryFields_17 rfl rfl ?_
        refine h_iload_n X dX0_carryFields_18 rfl rfl ?_
        refine h_iload_n X dX0_carryFields_19 rfl rfl ?_
        refine k0_hasField hsf X tlX0_102 ⟨Nat.le_of_ble_eq_true rfl, Nat.le_of_ble_eq_true rfl⟩ (Nat.le_of_ble_eq_true rfl) dX0_carryFields_20 ?_
        intro v2 S2
        refine h_if_eq (tgt := 55) X dX0_carryFields_23 (by decide) ?_ ?_
        · exact h_pick [0, 1, 2, 3] rfl (w0_carryFields_b55 hsf X n (f0_carryFields_l2 n k) ih x1 x2 x3 S2)
        · refine h_aload_n X dX0_carryFields_26 rfl rfl ?_
          refine h_iload_n X dX0_carryFields_27 rfl rfl ?_
          refine h_iload_n X dX0_carryFields_28 rfl rfl ?_
          refine h_aload_n X dX0_carryFields_29 rfl rfl ?_
          refine c_g_IM_objects X fl0_23 dX0_carryFields_30 ?_
          refine h_iload_n X dX0_carryFields_33 rfl rfl ?_
          refine h_iconst (v := (nI 1)) X dX0_carryFields_34 (by decide) ?_
          refine h_iload_n X dX0_carryFields_35 rfl rfl ?_
          refine h_iadd X dX0_carryFields_36 ?_
          refine kt2_get_7 hsf X tlX0_57 ⟨Nat.le_of_ble_eq_true rfl, Nat.le_of_ble_eq_true rfl⟩ (Nat.le_of_ble_eq_true rfl) dX0_carryFields_37 ?_
          intro v3 S3
          refine h_aload_n X dX0_carryFields_40 rfl rfl ?_
          refine c_g_IM_objects X fl0_23 dX0_carryFields_41 ?_
          refine h_iload_n X dX0_carryFields_44 rfl rfl ?_
          refine h_bipush (v := (nI 11)) X dX0_carryFields_45 (by decide) ?_
          refine h_iload_n X dX0_carryFields_47 rfl rfl ?_
          refine h_iadd X dX0_carryFields_48 ?_
          refine kt2_get_7 hsf X tlX0_57 ⟨Nat.le_of_ble_eq_true rfl, Nat.le_of_ble_eq_true rfl⟩ (Nat.le_of_ble_eq_true rfl) dX0_carryFields_49 ?_
          intro v4 S4
          refine k0_setField hsf X tlX0_106 ⟨Nat.le_of_ble_eq_true rfl, Nat.le_of_ble_eq_true rfl⟩ (Nat.le_of_ble_eq_true rfl) dX0_carryFields_52 ?_
          intro v5 S5
          exact h_pick [0, 1, 2, 3] rfl (w0_carryFields_b55 hsf X n (f0_carryFields_l2 n k) ih x1 x2 x3 S5)
def f0_carryFields (n : Nat) (x1 : Int32) (x2 : Int32) (S : CS) : Option (Int32 × CS) :=
    f0_carryFields_l2 n n x1 x2 (nI 0) S
theorem w0_carryFields (hsf : sfOk (SF tk)) (X : hX p s m args meth c cX0_carryFields 4 RX0 none D (tyC cI) (SF tk) A) {S0 : CS} (n : Nat) (x1 : Int32) (x2 : Int32) (S : CS) : hG p l e (fun r => rmC 2 48 (cS r.2 - cS S0) (sS r.2 - sS S0)) s m args below meth c 4 (ZW D (wC cI q) A s.heap S0 S) (cS S - cS S0) (sS S - sS S0) (fun r => MQ below (QWv D (tyC cI) (wC cI q) A r) args s (cS r.2 - cS S0) (sS r.2 - sS S0) A) (fun r => le S r.2) 0 [(0, .ref (q 53)), (1, .int x1), (2, .int x2)] [] (f0_carryFields n x1 x2 S) := by
    unfold f0_carryFields
    refine h_iconst (v := (nI 0)) X dX0_carryFields_0 (by decide) ?_
    refine h_istore_n (lv' := [(3, .int (nI 0)), (0, .ref (q 53)), (1, .int x1), (2, .int x2)]) X dX0_carryFields_1 rfl (by decide) rfl ?_
    exact h_pick [1, 2, 3, 0] rfl (w0_carryFields_l2 hsf X n n x1 x2 (nI 0) S)
theorem mo0_carryFields (n : Nat) (x1 : Int32) (x2 : Int32) (S : CS) : mo S (f0_carryFields n x1 x2 S) := by
    unfold f0_carryFields
    exact mw0_carryFields_l2 n n x1 x2 (nI 0) S
theorem c0_carryFields (hsf : sfOk (SF tk)) (l : Launch) (D : va_G) (cI : ClassId) (q : Nat → Nat) (n : Nat) (x1 : Int32) (x2 : Int32) (S : CS) : MetW l D (tyC cI) (SF tk) (wC cI q) yX0_carryFields cX0_carryFields 4 none 2 48 QWv [.ref (q 53), .int x1, .int x2] S (f0_carryFields n x1 x2 S) := by
  refine MetW.of (own := RX0) (by decide) rfl (Nat.le_of_ble_eq_true rfl) (mo0_carryFields n x1 x2 S) ?_
  intro x p e s m args below meth c X
  refine h_pick (lv' := [(0, .ref (q 53)), (1, .int x1), (2, .int x2)]) [0, 1, 2] rfl ?_
  exact h_close (w0_carryFields hsf X n x1 x2 S)
theorem tc0_carryFields : Cond.code yX0_carryFields cX0_carryFields 4 none ∈ tt := tt_in (List.mem_of_getElem? (i := 740) (by decide +kernel)) (by decide +kernel)
theorem ti0_carryFields : Cond.instanceMethod yX0_carryFields ∈ tt := tt_in (List.mem_of_getElem? (i := 738) (by decide +kernel)) (by decide +kernel)
theorem te0_carryFields : Cond.selects RX0 yX0_carryFields yX0_carryFields ∈ tt := tt_in (List.mem_of_getElem? (i := 739) (by decide +kernel)) (by decide +kernel)
theorem k0_carryFields (hsf : sfOk (SF tk)) (X : hX p s m args meth c cc nL own rt D (tyC cI) (SF tk) A) {n : Nat} {x1 : Int32} {x2 : Int32} {ix : Nat} (hlk : Cond.methodLink own ix yX0_carryFields ∈ tt) {rest : List Value} {K : Int32 → CS → Option (ρ × CS)} (hR : 2 + 1 ≤ fr ∧ 8 + (4 + 11) + 48 ≤ lo) (hcat : (rest.map fun v => v.category).sum ≤ 8) (d : decode cc pc = .ok (.invokevirtual ix, 3)) (kk : ∀ v S1, hG p l e (fun r => rmC fr lo (cS r.2 - cS S0) (sS r.2 - sS S0)) s m args below meth c nL (ZW D (wC cI q) A s.heap S0 S1) (cS S1 - cS S0) (sS S1 - sS S0) QQ (fun r => le S1 r.2) (pc + 3) lv rest (K v S1)) : hG p l e (fun r => rmC fr lo (cS r.2 - cS S0) (sS r.2 - sS S0)) s m args below meth c nL (ZW D (wC cI q) A s.heap S0 S) (cS S - cS S0) (sS S - sS S0) QQ (fun r => le S r.2) pc lv (.int x2 :: .int x1 :: .ref (q 53) :: rest) (bnd (f0_carryFields n x1 x2 S) K) := h_callVv (As := [.int x1, .int x2]) (b := q 53) (C := RX0) hsf X (c0_carryFields hsf l D cI q n x1 x2 S) (cwVC (k := 2) X.1.2.2.2.2.1 hlk ti0_carryFields te0_carryFields tc0_carryFields ini_0 (by decide +kernel) hR) (fun x H h1 h2 => va_recv h1 h2 (ci := 0) (q0 := 9) rfl rfl) rfl rfl hcat d kk
-- X0.addCell
def f0_addCell (n : Nat) (x1 : Int32) (x2 : Int32) (S : CS) : Option (Int32 × CS) :=
    bT 5 S (f2_add n (tOf 5 S)) fun v1 S1 =>
    bT 5 S1 (f2_set n v1 (nI 5) x1 (tOf 5 S1)) fun _ S2 =>
    bT 5 S2 (f2_set n v1 (nI 6) x2 (tOf 5 S2)) fun _ S3 =>
    some (v1, S3)
theorem w0_addCell (hsf : sfOk (SF tk)) (X : hX p s m args meth c cX0_addCell 4 RX0 (some .int) D (tyC cI) (SF tk) A) {S0 : CS} (n : Nat) (x1 : Int32) (x2 : Int32) (S : CS) : hG p l e (fun r => rmC 3 68 (cS r.2 - cS S0) (sS r.2 - sS S0)) s m args below meth c 4 (ZW D (wC cI q) A s.heap S0 S) (cS S - cS S0) (sS S - sS S0) (fun r => MQ below (QWi D (tyC cI) (wC cI q) A r) args s (cS r.2 - cS S0) (sS r.2 - sS S0) A) (fun r => le S r.2) 0 [(0, .ref (q 53)), (1, .int x1), (2, .int x2)] [] (f0_addCell n x1 x2 S) := by
    unfold f0_addCell
    refine h_aload_n X dX0_addCell_0 rfl rfl ?_
    refine c_g_IM_cells X fl0_16 dX0_addCell_1 ?_
    refine kt2_add_5 hsf X tlX0_65 ⟨Nat.le_of_ble_eq_true rfl, Nat.le_of_ble_eq_true rfl⟩ (Nat.le_of_ble_eq_true rfl) dX0_addCell_4 ?_
    intro v1 S1
    refine h_istore_n (lv' := [(3, .int v1), (0, .ref (q 53)), (1, .int x1), (2, .int x2)]) X dX0_addCell_7 rfl (by decide) rfl ?_
    refine h_aload_n X dX0_addCell_8 rfl rfl ?_
    refine c_g_IM_cells X fl0_16 dX0_addCell_9 ?_
    refine h_iload_n X dX0_addCell_12 rfl rfl ?_
    refine h_iconst (v := (nI 5)) X dX0_addCell_13 (by decide) ?_
    refine h_iload_n X dX0_addCell_14 rfl rfl ?_
    refine kt2_set_5 hsf X tlX0_68 ⟨Nat.le_of_ble_eq_true rfl, Nat.le_of_ble_eq_true rfl⟩ (Nat.le_of_ble_eq_true rfl) dX0_addCell_15 ?_
    intro v2 S2
    refine h_aload_n X dX0_addCell_18 rfl rfl ?_
    refine c_g_IM_cells X fl0_16 dX0_addCell_19 ?_
    refine h_iload_n X dX0_addCell_22 rfl rfl ?_
    refine h_bipush (v := (nI 6)) X dX0_addCell_23 (by decide) ?_
    refine h_iload_n X dX0_addCell_25 rfl rfl ?_
    refine kt2_set_5 hsf X tlX0_68 ⟨Nat.le_of_ble_eq_true rfl, Nat.le_of_ble_eq_true rfl⟩ (Nat.le_of_ble_eq_true rfl) dX0_addCell_26 ?_
    intro v3 S3
    refine h_iload_n X dX0_addCell_29 rfl rfl ?_
    exact h_iret X dX0_addCell_30
theorem mo0_addCell (n : Nat) (x1 : Int32) (x2 : Int32) (S : CS) : mo S (f0_addCell n x1 x2 S) := by
    unfold f0_addCell
    refine m_bT (mo2_add _ _) (fun v1 S1 => ?_)
    refine m_bT (mo2_set _ _ _ _ _) (fun v2 S2 => ?_)
    refine m_bT (mo2_set _ _ _ _ _) (fun v3 S3 => ?_)
    exact m_some
theorem c0_addCell (hsf : sfOk (SF tk)) (l : Launch) (D : va_G) (cI : ClassId) (q : Nat → Nat) (n : Nat) (x1 : Int32) (x2 : Int32) (S : CS) : MetW l D (tyC cI) (SF tk) (wC cI q) yX0_addCell cX0_addCell 4 (some .int) 3 68 QWi [.ref (q 53), .int x1, .int x2] S (f0_addCell n x1 x2 S) := by
  refine MetW.of (own := RX0) (by decide) rfl (Nat.le_of_ble_eq_true rfl) (mo0_addCell n x1 x2 S) ?_
  intro x p e s m args below meth c X
  refine h_pick (lv' := [(0, .ref (q 53)), (1, .int x1), (2, .int x2)]) [0, 1, 2] rfl ?_
  exact h_close (w0_addCell hsf X n x1 x2 S)
theorem tc0_addCell : Cond.code yX0_addCell cX0_addCell 4 (some .int) ∈ tt := tt_in (List.mem_of_getElem? (i := 425) (by decide +kernel)) (by decide +kernel)
theorem ti0_addCell : Cond.instanceMethod yX0_addCell ∈ tt := tt_in (List.mem_of_getElem? (i := 423) (by decide +kernel)) (by decide +kernel)
theorem te0_addCell : Cond.selects RX0 yX0_addCell yX0_addCell ∈ tt := tt_in (List.mem_of_getElem? (i := 424) (by decide +kernel)) (by decide +kernel)
theorem k0_addCell (hsf : sfOk (SF tk)) (X : hX p s m args meth c cc nL own rt D (tyC cI) (SF tk) A) {n : Nat} {x1 : Int32} {x2 : Int32} {ix : Nat} (hlk : Cond.methodLink own ix yX0_addCell ∈ tt) {rest : List Value} {K : Int32 → CS → Option (ρ × CS)} (hR : 3 + 1 ≤ fr ∧ 8 + (4 + 11) + 68 ≤ lo) (hcat : (rest.map fun v => v.category).sum ≤ 8) (d : decode cc pc = .ok (.invokevirtual ix, 3)) (kk : ∀ v S1, hG p l e (fun r => rmC fr lo (cS r.2 - cS S0) (sS r.2 - sS S0)) s m args below meth c nL (ZW D (wC cI q) A s.heap S0 S1) (cS S1 - cS S0) (sS S1 - sS S0) QQ (fun r => le S1 r.2) (pc + 3) lv (.int v :: rest) (K v S1)) : hG p l e (fun r => rmC fr lo (cS r.2 - cS S0) (sS r.2 - sS S0)) s m args below meth c nL (ZW D (wC cI q) A s.heap S0 S) (cS S - cS S0) (sS S - sS S0) QQ (fun r => le S r.2) pc lv (.int x2 :: .int x1 :: .ref (q 53) :: rest) (bnd (f0_addCell n x1 x2 S) K) := h_callVi (As := [.int x1, .int x2]) (b := q 53) (C := RX0) hsf X (c0_addCell hsf l D cI q n x1 x2 S) (cwVC (k := 2) X.1.2.2.2.2.1 hlk ti0_addCell te0_addCell tc0_addCell ini_0 (by decide +kernel) hR) (fun x H h1 h2 => va_recv h1 h2 (ci := 0) (q0 := 9) rfl rfl) rfl rfl hcat d kk
-- X0.leanOf
def f0_leanOf (n : Nat) (x1 : Int32) (x2 : Int32) (S : CS) : Option (Int32 × CS) :=
    bT 5 S (f2_get n x1 ((nI 69) + x2) (tOf 5 S)) fun v1 S1 =>
    some (v1, S1)
theorem w0_leanOf (hsf : sfOk (SF tk)) (X : hX p s m args meth c cX0_leanOf 3 RX0 (some .int) D (tyC cI) (SF tk) A) {S0 : CS} (n : Nat) (x1 : Int32) (x2 : Int32) (S : CS) : hG p l e (fun r => rmC 1 23 (cS r.2 - cS S0) (sS r.2 - sS S0)) s m args below meth c 3 (ZW D (wC cI q) A s.heap S0 S) (cS S - cS S0) (sS S - sS S0) (fun r => MQ below (QWi D (tyC cI) (wC cI q) A r) args s (cS r.2 - cS S0) (sS r.2 - sS S0) A) (fun r => le S r.2) 0 [(0, .ref (q 53)), (1, .int x1), (2, .int x2)] [] (f0_leanOf n x1 x2 S) := by
    unfold f0_leanOf
    refine h_aload_n X dX0_leanOf_0 rfl rfl ?_
    refine c_g_IM_cells X fl0_16 dX0_leanOf_1 ?_
    refine h_iload_n X dX0_leanOf_4 rfl rfl ?_
    refine h_bipush (v := (nI 69)) X dX0_leanOf_5 (by decide) ?_
    refine h_iload_n X dX0_leanOf_7 rfl rfl ?_
    refine h_iadd X dX0_leanOf_8 ?_
    refine kt2_get_5 hsf X tlX0_57 ⟨Nat.le_of_ble_eq_true rfl, Nat.le_of_ble_eq_true rfl⟩ (Nat.le_of_ble_eq_true rfl) dX0_leanOf_9 ?_
    intro v1 S1
    exact h_iret X dX0_leanOf_12
theorem mo0_leanOf (n : Nat) (x1 : Int32) (x2 : Int32) (S : CS) : mo S (f0_leanOf n x1 x2 S) := by
    unfold f0_leanOf
    refine m_bT (mo2_get _ _ _ _) (fun v1 S1 => ?_)
    exact m_some
theorem c0_leanOf (hsf : sfOk (SF tk)) (l : Launch) (D : va_G) (cI : ClassId) (q : Nat → Nat) (n : Nat) (x1 : Int32) (x2 : Int32) (S : CS) : MetW l D (tyC cI) (SF tk) (wC cI q) yX0_leanOf cX0_leanOf 3 (some .int) 1 23 QWi [.ref (q 53), .int x1, .int x2] S (f0_leanOf n x1 x2 S) := by
  refine MetW.of (own := RX0) (by decide) rfl (Nat.le_of_ble_eq_true rfl) (mo0_leanOf n x1 x2 S) ?_
  intro x p e s m args below meth c X
  refine h_pick (lv' := [(0, .ref (q 53)), (1, .int x1), (2, .int x2)]) [0, 1, 2] rfl ?_
  exact h_close (w0_leanOf hsf X n x1 x2 S)
theorem tc0_leanOf : Cond.code yX0_leanOf cX0_leanOf 3 (some .int) ∈ tt := tt_in (List.mem_of_getElem? (i := 638) (by decide +kernel)) (by decide +kernel)
theorem ti0_leanOf : Cond.instanceMethod yX0_leanOf ∈ tt := tt_in (List.mem_of_getElem? (i := 636) (by decide +kernel)) (by decide +kernel)
theorem te0_leanOf : Cond.selects RX0 yX0_leanOf yX0_leanOf ∈ tt := tt_in (List.mem_of_getElem? (i := 637) (by decide +kernel)) (by decide +kernel)
theorem k0_leanOf (hsf : sfOk (SF tk)) (X : hX p s m args meth c cc nL own rt D (tyC cI) (SF tk) A) {n : Nat} {x1 : Int32} {x2 : Int32} {ix : Nat} (hlk : Cond.methodLink own ix yX0_leanOf ∈ tt) {rest : List Value} {K : Int32 → CS → Option (ρ × CS)} (hR : 1 + 1 ≤ fr ∧ 8 + (3 + 11) + 23 ≤ lo) (hcat : (rest.map fun v => v.category).sum ≤ 8) (d : decode cc pc = .ok (.invokevirtual ix, 3)) (kk : ∀ v S1, hG p l e (fun r => rmC fr lo (cS r.2 - cS S0) (sS r.2 - sS S0)) s m args below meth c nL (ZW D (wC cI q) A s.heap S0 S1) (cS S1 - cS S0) (sS S1 - sS S0) QQ (fun r => le S1 r.2) (pc + 3) lv (.int v :: rest) (K v S1)) : hG p l e (fun r => rmC fr lo (cS r.2 - cS S0) (sS r.2 - sS S0)) s m args below meth c nL (ZW D (wC cI q) A s.heap S0 S) (cS S - cS S0) (sS S - sS S0) QQ (fun r => le S r.2) pc lv (.int x2 :: .int x1 :: .ref (q 53) :: rest) (bnd (f0_leanOf n x1 x2 S) K) := h_callVi (As := [.int x1, .int x2]) (b := q 53) (C := RX0) hsf X (c0_leanOf hsf l D cI q n x1 x2 S) (cwVC (k := 2) X.1.2.2.2.2.1 hlk ti0_leanOf te0_leanOf tc0_leanOf ini_0 (by decide +kernel) hR) (fun x H h1 h2 => va_recv h1 h2 (ci := 0) (q0 := 9) rfl rfl) rfl rfl hcat d kk
-- X0.noteLeans
def f0_noteLeans_b67 (n : Nat) (k5 : Int32 → Int32 → Int32 → Int32 → CS → Option (Int32 × CS)) (x1 : Int32) (x2 : Int32) (x3 : Int32) (x4 : Int32) (S : CS) : Option (Int32 × CS) :=
    k5 x1 x2 x3 (x4 + (nI 1)) S
theorem mw0_noteLeans_b67 (n : Nat) (k5 : Int32 → Int32 → Int32 → Int32 → CS → Option (Int32 × CS)) (mhk5 : ∀ (x1 : Int32) (x2 : Int32) (x3 : Int32) (x4 : Int32) (S : CS), mo S (k5 x1 x2 x3 x4 S)) (x1 : Int32) (x2 : Int32) (x3 : Int32) (x4 : Int32) (S : CS) : mo S (f0_noteLeans_b67 n k5 x1 x2 x3 x4 S) := by
  unfold f0_noteLeans_b67
  exact mhk5 x1 x2 x3 (x4 + (nI 1)) S
theorem w0_noteLeans_b67 (hsf : sfOk (SF tk)) (X : hX p s m args meth c cX0_noteLeans 5 RX0 none D (tyC cI) (SF tk) A) (n : Nat) (k5 : Int32 → Int32 → Int32 → Int32 → CS → Option (Int32 × CS)) (hk5 : ∀ (x1 : Int32) (x2 : Int32) (x3 : Int32) (x4 : Int32) (S : CS), hG p l e (fun r => rmC 3 62 (cS r.2 - cS S0) (sS r.2 - sS S0)) s m args below meth c 5 (ZW D (wC cI q) A s.heap S0 S) (cS S - cS S0) (sS S - sS S0) (fun r => MQ below (QWv D (tyC cI) (wC cI q) A r) args s (cS r.2 - cS S0) (sS r.2 - sS S0) A) (fun r => le S r.2) 5 [(0, .ref (q 53)), (1, .int x1), (2, .int x2), (3, .int x3), (4, .int x4)] [] (k5 x1 x2 x3 x4 S)) (x1 : Int32) (x2 : Int32) (x3 : Int32) (x4 : Int32) (S : CS) : hG p l e (fun r => rmC 3 62 (cS r.2 - cS S0) (sS r.2 - sS S0)) s m args below meth c 5 (ZW D (wC cI q) A s.heap S0 S) (cS S - cS S0) (sS S - sS S0) (fun r => MQ below (QWv D (tyC cI) (wC cI q) A r) args s (cS r.2 - cS S0) (sS r.2 - sS S0) A) (fun r => le S r.2) 67 [(0, .ref (q 53)), (1, .int x1), (2, .int x2), (3, .int x3), (4, .int x4)] [] (f0_noteLeans_b67 n k5 x1 x2 x3 x4 S) := by
  unfold f0_noteLeans_b67
  refine h_iinc (v := (nI 1)) (lv' := [(4, .int (x4 + (nI 1))), (0, .ref (q 53)), (1, .int x1), (2, .int x2), (3, .int x3)]) X dX0_noteLeans_67 rfl (by decide) (by decide) rfl ?_
  refine h_goto (tgt := 5) X dX0_noteLeans_70 (by decide) ?_
  exact h_pick [1, 2, 3, 4, 0] rfl (hk5 x1 x2 x3 (x4 + (nI 1)) S)
def f0_noteLeans_b73 (n : Nat) (x1 : Int32) (x3 : Int32) (S : CS) : Option (Int32 × CS) :=
    bT 5 S (f2_set n x1 (nI 7) x3 (tOf 5 S)) fun _ S1 =>
    some (0, S1)
theorem mw0_noteLeans_b73 (n : Nat) (x1 : Int32) (x3 : Int32) (S : CS) : mo S (f0_noteLeans_b73 n x1 x3 S) := by
  unfold f0_noteLeans_b73
  refine m_bT (mo2_set _ _ _ _ _) (fun v1 S1 => ?_)
  exact m_some
theorem w0_noteLeans_b73 (hsf : sfOk (SF tk)) (X : hX p s m args meth c cX0_noteLeans 5 RX0 none D (tyC cI) (SF tk) A) (n : Nat) (x1 : Int32) (x3 : Int32) (S : CS) : hG p l e (fun r => rmC 3 62 (cS r.2 - cS S0) (sS r.2 - sS S0)) s m args below meth c 5 (ZW D (wC cI q) A s.heap S0 S) (cS S - cS S0) (sS S - sS S0) (fun r => MQ below (QWv D (tyC cI) (wC cI q) A r) args s (cS r.2 - cS S0) (sS r.2 - sS S0) A) (fun r => le S r.2) 73 [(0, .ref (q 53)), (1, .int x1), (3, .int x3)] [] (f0_noteLeans_b73 n x1 x3 S) := by
  unfold f0_noteLeans_b73
  refine h_aload_n X dX0_noteLeans_73 rfl rfl ?_
  refine c_g_IM_cells X fl0_16 dX0_noteLeans_74 ?_
  refine h_iload_n X dX0_noteLeans_77 rfl rfl ?_
  refine h_bipush (v := (nI 7)) X dX0_noteLeans_78 (by decide) ?_
  refine h_iload_n X dX0_noteLeans_80 rfl rfl ?_
  refine kt2_set_5 hsf X tlX0_68 ⟨Nat.le_of_ble_eq_true rfl, Nat.le_of_ble_eq_true rfl⟩ (Nat.le_of_ble_eq_true rfl) dX0_noteLeans_81 ?_
  intro v1 S1
  exact h_vret X dX0_noteLeans_84
theorem tlX0_110 : Cond.methodLink RX0 110 yX0_isNewest ∈ tt := tt_in (List.mem_of_getElem? (i := 441) (by decide +kernel)) (by decide +kernel)
def f0_noteLeans_l5 (n : Nat) : Nat → Int32 → Int32 → Int32 → Int32 → CS → Option (Int32 × CS)
  | 0, _, _, _, _, _ => none
  | k + 1, x1, x2, x3, x4, S => bT 6 S (f2_size n (tOf 6 S)) fun v1 S1 =>
    if v1 ≤ x4 then
      (f0_noteLeans_b73 n x1 x3 S1)
    else
      (if (nI 16) ≤ x3 then
        (f0_noteLeans_b73 n x1 x3 S1)
      else
        (bnd (f0_isNewest n x4 S1) fun v2 S2 =>
        if v2 = 0 then
          (f0_noteLeans_b67 n (f0_noteLeans_l5 n k) x1 x2 x3 x4 S2)
        else
          (bT 6 S2 (f2_get n x4 (nI 0) (tOf 6 S2)) fun v3 S3 =>
          if (((Int32.toUInt32 x2 >>> (Int32.toUInt32 v3 &&& Int32.toUInt32 31)).toInt32) &&& (nI 1)) = (nI 1) then
            (bT 5 S3 (f2_set n x1 ((nI 69) + x3) x4 (tOf 5 S3)) fun _ S4 =>
            f0_noteLeans_b67 n (f0_noteLeans_l5 n k) x1 x2 (x3 + (nI 1)) x4 S4)
          else
            (f0_noteLeans_b67 n (f0_noteLeans_l5 n k) x1 x2 x3 x4 S3))))
theorem mw0_noteLeans_l5 (n : Nat) : ∀ (k : Nat) (x1 : Int32) (x2 : Int32) (x3 : Int32) (x4 : Int32) (S : CS), mo S (f0_noteLeans_l5 n k x1 x2 x3 x4 S) := by
  intro k
  induction k with
  | zero =>
    intro x1 x2 x3 x4 S
    exact m_none
  | succ k ih =>
    intro x1 x2 x3 x4 S
    rw [f0_noteLeans_l5]
    refine m_bT (mo2_size _ _) (fun v1 S1 => ?_)
    refine m_ite ?_ ?_
    · exact mw0_noteLeans_b73 n x1 x3 S1
    · refine m_ite ?_ ?_
      · exact mw0_noteLeans_b73 n x1 x3 S1
      · refine m_bnd (mo0_isNewest _ _ _) (fun v2 S2 => ?_)
        refine m_ite ?_ ?_
        · exact mw0_noteLeans_b67 n (f0_noteLeans_l5 n k) ih x1 x2 x3 x4 S2
        · refine m_bT (mo2_get _ _ _ _) (fun v3 S3 => ?_)
          refine m_ite ?_ ?_
          · refine m_bT (mo2_set _ _ _ _ _) (fun v4 S4 => ?_)
            exact mw0_noteLeans_b67 n (f0_noteLeans_l5 n k) ih x1 x2 (x3 + (nI 1)) x4 S4
          · exact mw0_noteLeans_b67 n (f0_noteLeans_l5 n k) ih x1 x2 x3 x4 S3
theorem w0_noteLeans_l5 (hsf : sfOk (SF tk)) (X : hX p s m args meth c cX0_noteLeans 5 RX0 none D (tyC cI) (SF tk) A) (n : Nat) : ∀ (k : Nat) (x1 : Int32) (x2 : Int32) (x3 : Int32) (x4 : Int32) (S : CS), hG p l e (fun r => rmC 3 62 (cS r.2 - cS S0) (sS r.2 - sS S0)) s m args below meth c 5 (ZW D (wC cI q) A s.heap S0 S) (cS S - cS S0) (sS S - sS S0) (fun r => MQ below (QWv D (tyC cI) (wC cI q) A r) args s (cS r.2 - cS S0) (sS r.2 - sS S0) A) (fun r => le S r.2) 5 [(0, .ref (q 53)), (1, .int x1), (2, .int x2), (3, .int x3), (4, .int x4)] [] (f0_noteLeans_l5 n k x1 x2 x3 x4 S) := by
  intro k
  induction k with
  | zero =>
    intro x1 x2 x3 x4 S
    exact h_none
  | succ k ih =>
    intro x1 x2 x3 x4 S
    rw [f0_noteLeans_l5]
    refine h_iload X dX0_noteLeans_5 rfl ?_
    refine h_aload_n X dX0_noteLeans_7 rfl rfl ?_
    refine c_g_IM_editions X fl0_20 dX0_noteLeans_8 ?_
    refine kt2_size_6 hsf X tlX0_61 ⟨Nat.le_of_ble_eq_true rfl, Nat.le_of_ble_eq_true rfl⟩ (Nat.le_of_ble_eq_true rfl) dX0_noteLeans_11 ?_
    intro v1 S1
    refine h_icmp_ge (tgt := 73) X dX0_noteLeans_14 (by decide) ?_ ?_
    · exact h_pick [0, 1, 3] rfl (w0_noteLeans_b73 hsf X n x1 x3 S1)
    · refine h_iload_n X dX0_noteLeans_17 rfl rfl ?_
      refine h_bipush (v := (nI 16)) X dX0_noteLeans_18 (by decide) ?_
      refine h_icmp_ge (tgt := 73) X dX0_noteLeans_20 (by decide) ?_ ?_
      · exact h_pick [0, 1, 3] rfl (w0_noteLeans_b73 hsf X n x1 x3 S1)
      · refine h_aload_n X dX0_noteLeans_23 rfl rfl ?_
        refine h_iload X dX0_noteLeans_24 rfl ?_
        refine k0_isNewest hsf X tlX0_110 ⟨Nat.le_of_ble_eq_true rfl, Nat.le_of_ble_eq_true rfl⟩ (Nat.le_of_ble_eq_true rfl) dX0_noteLeans_26 ?_
        intro v2 S2
        refine h_if_eq (tgt := 67) X dX0_noteLeans_29 (by decide) ?_ ?_
        · exact h_pick [0, 1, 2, 3, 4] rfl (w0_noteLeans_b67 hsf X n (f0_noteLeans_l5 n k) ih x1 x2 x3 x4 S2)
        · refine h_iload_n X dX0_noteLeans_32 rfl rfl ?_
          refine h_aload_n X dX0_noteLeans_33 rfl rfl ?_
          refine c_g_IM_editions X fl0_20 dX0_noteLeans_34 ?_
          refine h_iload X dX0_noteLeans_37 rfl ?_
          refine h_iconst (v := (nI 0)) X dX0_noteLeans_39 (by decide) ?_
          refine kt2_get_6 hsf X tlX0_57 ⟨Nat.le_of_ble_eq_true rfl, Nat.le_of_ble_eq_true rfl⟩ (Nat.le_of_ble_eq_true rfl) dX0_noteLeans_40 ?_
          intro v3 S3
          refine h_iushr X dX0_noteLeans_43 ?_
          refine h_iconst (v := (nI 1)) X dX0_noteLeans_44 (by decide) ?_
          refine h_iand X dX0_noteLeans_45 ?_
          refine h_iconst (v := (nI 1)) X dX0_noteLeans_46 (by decide) ?_
          refine h_icmp_ne (tgt := 67) X dX0_noteLeans_47 (by decide) ?_ ?_
          · exact h_pick [0, 1, 2, 3, 4] rfl (w0_noteLeans_b67 hsf X n (f0_noteLeans_l5 n k) ih x1 x2 x3 x4 S3)
          · refine h_aload_n X dX0_noteLeans_50 rfl rfl ?_
            refine c_g_IM_cells X fl0_16 dX0_noteLeans_51 ?_
            refine h_iload_n X dX0_noteLeans_54 rfl rfl ?_
            refine h_bipush (v := (nI 69)) X dX0_noteLeans_55 (by decide) ?_
            refine h_iload_n X dX0_noteLeans_57 rfl rfl ?_
            refine h_iadd X dX0_noteLeans_58 ?_
            refine h_iload X dX0_noteLeans_59 rfl ?_
            refine kt2_set_5 hsf X tlX0_68 ⟨Nat.le_of_ble_eq_true rfl, Nat.le_of_ble_eq_true rfl⟩ (Nat.le_of_ble_eq_true rfl) dX0_noteLeans_61 ?_
            intro v4 S4
            refine h_iinc (v := (nI 1)) (lv' := [(3, .int (x3 + (nI 1))), (0, .ref (q 53)), (1, .int x1), (2, .int x2), (4, .int x4)]) X dX0_noteLeans_64 rfl (by decide) (by decide) rfl ?_
            exact h_pick [1, 2, 3, 0, 4] rfl (w0_noteLeans_b67 hsf X n (f0_noteLeans_l5 n k) ih x1 x2 (x3 + (nI 1)) x4 S4)
def f0_noteLeans (n : Nat) (x1 : Int32) (x2 : Int32) (S : CS) : Option (Int32 × CS) :=
    f0_noteLeans_l5 n n x1 x2 (nI 0) (nI 0) S
theorem w0_noteLeans (hsf : sfOk (SF tk)) (X : hX p s m args meth c cX0_noteLeans 5 RX0 none D (tyC cI) (SF tk) A) {S0 : CS} (n : Nat) (x1 : Int32) (x2 : Int32) (S : CS) : hG p l e (fun r => rmC 3 62 (cS r.2 - cS S0) (sS r.2 - sS S0)) s m args below meth c 5 (ZW D (wC cI q) A s.heap S0 S) (cS S - cS S0) (sS S - sS S0) (fun r => MQ below (QWv D (tyC cI) (wC cI q) A r) args s (cS r.2 - cS S0) (sS r.2 - sS S0) A) (fun r => le S r.2) 0 [(0, .ref (q 53)), (1, .int x1), (2, .int x2)] [] (f0_noteLeans n x1 x2 S) := by
    unfold f0_noteLeans
    refine h_iconst (v := (nI 0)) X dX0_noteLeans_0 (by decide) ?_
    refine h_istore_n (lv' := [(3, .int (nI 0)), (0, .ref (q 53)), (1, .int x1), (2, .int x2)]) X dX0_noteLeans_1 rfl (by decide) rfl ?_
    refine h_iconst (v := (nI 0)) X dX0_noteLeans_2 (by decide) ?_
    refine h_istore (lv' := [(4, .int (nI 0)), (3, .int (nI 0)), (0, .ref (q 53)), (1, .int x1), (2, .int x2)]) X dX0_noteLeans_3 (by decide) rfl ?_
    exact h_pick [2, 3, 4, 1, 0] rfl (w0_noteLeans_l5 hsf X n n x1 x2 (nI 0) (nI 0) S)
theorem mo0_noteLeans (n : Nat) (x1 : Int32) (x2 : Int32) (S : CS) : mo S (f0_noteLeans n x1 x2 S) := by
    unfold f0_noteLeans
    exact mw0_noteLeans_l5 n n x1 x2 (nI 0) (nI 0) S
theorem c0_noteLeans (hsf : sfOk (SF tk)) (l : Launch) (D : va_G) (cI : ClassId) (q : Nat → Nat) (n : Nat) (x1 : Int32) (x2 : Int32) (S : CS) : MetW l D (tyC cI) (SF tk) (wC cI q) yX0_noteLeans cX0_noteLeans 5 none 3 62 QWv [.ref (q 53), .int x1, .int x2] S (f0_noteLeans n x1 x2 S) := by
  refine MetW.of (own := RX0) (by decide) rfl (Nat.le_of_ble_eq_true rfl) (mo0_noteLeans n x1 x2 S) ?_
  intro x p e s m args below meth c X
  refine h_pick (lv' := [(0, .ref (q 53)), (1, .int x1), (2, .int x2)]) [0, 1, 2] rfl ?_
  exact h_close (w0_noteLeans hsf X n x1 x2 S)
theorem tc0_noteLeans : Cond.code yX0_noteLeans cX0_noteLeans 5 none ∈ tt := tt_in (List.mem_of_getElem? (i := 440) (by decide +kernel)) (by decide +kernel)
theorem ti0_noteLeans : Cond.instanceMethod yX0_noteLeans ∈ tt := tt_in (List.mem_of_getElem? (i := 438) (by decide +kernel)) (by decide +kernel)
theorem te0_noteLeans : Cond.selects RX0 yX0_noteLeans yX0_noteLeans ∈ tt := tt_in (List.mem_of_getElem? (i := 439) (by decide +kernel)) (by decide +kernel)
theorem k0_noteLeans (hsf : sfOk (SF tk)) (X : hX p s m args meth c cc nL own rt D (tyC cI) (SF tk) A) {n : Nat} {x1 : Int32} {x2 : Int32} {ix : Nat} (hlk : Cond.methodLink own ix yX0_noteLeans ∈ tt) {rest : List Value} {K : Int32 → CS → Option (ρ × CS)} (hR : 3 + 1 ≤ fr ∧ 8 + (5 + 11) + 62 ≤ lo) (hcat : (rest.map fun v => v.category).sum ≤ 8) (d : decode cc pc = .ok (.invokevirtual ix, 3)) (kk : ∀ v S1, hG p l e (fun r => rmC fr lo (cS r.2 - cS S0) (sS r.2 - sS S0)) s m args below meth c nL (ZW D (wC cI q) A s.heap S0 S1) (cS S1 - cS S0) (sS S1 - sS S0) QQ (fun r => le S1 r.2) (pc + 3) lv rest (K v S1)) : hG p l e (fun r => rmC fr lo (cS r.2 - cS S0) (sS r.2 - sS S0)) s m args below meth c nL (ZW D (wC cI q) A s.heap S0 S) (cS S - cS S0) (sS S - sS S0) QQ (fun r => le S r.2) pc lv (.int x2 :: .int x1 :: .ref (q 53) :: rest) (bnd (f0_noteLeans n x1 x2 S) K) := h_callVv (As := [.int x1, .int x2]) (b := q 53) (C := RX0) hsf X (c0_noteLeans hsf l D cI q n x1 x2 S) (cwVC (k := 2) X.1.2.2.2.2.1 hlk ti0_noteLeans te0_noteLeans tc0_noteLeans ini_0 (by decide +kernel) hR) (fun x H h1 h2 => va_recv h1 h2 (ci := 0) (q0 := 9) rfl rfl) rfl rfl hcat d kk
-- X0.isMarked
def f0_isMarked (n : Nat) (x0 : Int64) (x2 : Int32) (S : CS) : Option (Int32 × CS) :=
    if x2 < 0 then
      (zt (nI 0) (some ((nI 0), S)))
    else
      (if (nI 40) ≤ x2 then
        (zt (nI 0) (some ((nI 0), S)))
      else
        (if (lg_cmp (((Int64.toUInt64 x0 >>> ((Int32.toInt64 x2).toUInt64 &&& Int64.toUInt64 63)).toInt64) &&& (1 : Int64)) (1 : Int64)) = 0 then (zt (nI 1) (some ((nI 1), S))) else (zt (nI 0) (some ((nI 0), S)))))
theorem w0_isMarked (hsf : sfOk (SF tk)) (X : hX p s m args meth c cX0_isMarked 3 RX0 (some .boolean) D (tyC cI) (SF tk) A) {S0 : CS} (n : Nat) (x0 : Int64) (x2 : Int32) (S : CS) : hG p l e (fun r => rmC 0 0 (cS r.2 - cS S0) (sS r.2 - sS S0)) s m args below meth c 3 (ZW D (wC cI q) A s.heap S0 S) (cS S - cS S0) (sS S - sS S0) (fun r => MQ below (QWi D (tyC cI) (wC cI q) A r) args s (cS r.2 - cS S0) (sS r.2 - sS S0) A) (fun r => le S r.2) 0 [(0, .long x0), (2, .int x2)] [] (f0_isMarked n x0 x2 S) := by
    unfold f0_isMarked
    refine h_iload_n X dX0_isMarked_0 rfl rfl ?_
    refine h_if_lt (tgt := 24) X dX0_isMarked_1 (by decide) ?_ ?_
    · refine h_iconst (v := (nI 0)) X dX0_isMarked_24 (by decide) ?_
      exact h_zret X dX0_isMarked_25
    · refine h_iload_n X dX0_isMarked_4 rfl rfl ?_
      refine h_bipush (v := (nI 40)) X dX0_isMarked_5 (by decide) ?_
      refine h_icmp_ge (tgt := 24) X dX0_isMarked_7 (by decide) ?_ ?_
      · refine h_iconst (v := (nI 0)) X dX0_isMarked_24 (by decide) ?_
        exact h_zret X dX0_isMarked_25
      · refine h_lload_n X dX0_isMarked_10 rfl rfl ?_
        refine h_iload_n X dX0_isMarked_11 rfl rfl ?_
        refine h_lushr X dX0_isMarked_12 ?_
        refine h_lconst (v := (1 : Int64)) X dX0_isMarked_13 (by decide) ?_
        refine h_land X dX0_isMarked_14 ?_
        refine h_lconst (v := (1 : Int64)) X dX0_isMarked_15 (by decide) ?_
        refine h_lcmp X dX0_isMarked_16 ?_
        refine h_if_ne (tgt := 24) X dX0_isMarked_17 (by decide) ?_ ?_
        · refine h_iconst (v := (nI 0)) X dX0_isMarked_24 (by decide) ?_
          exact h_zret X dX0_isMarked_25
        · refine h_iconst (v := (nI 1)) X dX0_isMarked_20 (by decide) ?_
          refine h_goto (tgt := 25) X dX0_isMarked_21 (by decide) ?_
          exact h_zret X dX0_isMarked_25
theorem mo0_isMarked (n : Nat) (x0 : Int64) (x2 : Int32) (S : CS) : mo S (f0_isMarked n x0 x2 S) := by
    unfold f0_isMarked
    refine m_ite ?_ ?_
    · exact m_zt m_some
    · refine m_ite ?_ ?_
      · exact m_zt m_some
      · refine m_ite ?_ ?_
        · exact m_zt m_some
        · exact m_zt m_some
theorem c0_isMarked (hsf : sfOk (SF tk)) (l : Launch) (D : va_G) (cI : ClassId) (q : Nat → Nat) (n : Nat) (x0 : Int64) (x2 : Int32) (S : CS) : MetW l D (tyC cI) (SF tk) (wC cI q) yX0_isMarked cX0_isMarked 3 (some .boolean) 0 0 QWi [.long x0, .int x2] S (f0_isMarked n x0 x2 S) := by
  refine MetW.of (own := RX0) (by decide) rfl (Nat.le_of_ble_eq_true rfl) (mo0_isMarked n x0 x2 S) ?_
  intro x p e s m args below meth c X
  refine h_pick (lv' := [(0, .long x0), (2, .int x2)]) [0, 1] rfl ?_
  exact h_close (w0_isMarked hsf X n x0 x2 S)
theorem tc0_isMarked : Cond.code yX0_isMarked cX0_isMarked 3 (some .boolean) ∈ tt := tt_in (List.mem_of_getElem? (i := 630) (by decide +kernel)) (by decide +kernel)
theorem ts0_isMarked : Cond.static yX0_isMarked ∈ tt := tt_in (List.mem_of_getElem? (i := 629) (by decide +kernel)) (by decide +kernel)
theorem k0_isMarked (hsf : sfOk (SF tk)) (X : hX p s m args meth c cc nL own rt D (tyC cI) (SF tk) A) {n : Nat} {x0 : Int64} {x2 : Int32} {ix : Nat} (hlk : Cond.methodLink own ix yX0_isMarked ∈ tt) {rest : List Value} {K : Int32 → CS → Option (ρ × CS)} (hR : 0 + 1 ≤ fr ∧ 8 + (3 + 11) + 0 ≤ lo) (hcat : (rest.map fun v => v.category).sum ≤ 8) (d : decode cc pc = .ok (.invokestatic ix, 3)) (kk : ∀ v S1, hG p l e (fun r => rmC fr lo (cS r.2 - cS S0) (sS r.2 - sS S0)) s m args below meth c nL (ZW D (wC cI q) A s.heap S0 S1) (cS S1 - cS S0) (sS S1 - sS S0) QQ (fun r => le S1 r.2) (pc + 3) lv (.int v :: rest) (K v S1)) : hG p l e (fun r => rmC fr lo (cS r.2 - cS S0) (sS r.2 - sS S0)) s m args below meth c nL (ZW D (wC cI q) A s.heap S0 S) (cS S - cS S0) (sS S - sS S0) QQ (fun r => le S r.2) pc lv (.int x2 :: .long x0 :: rest) (bnd (f0_isMarked n x0 x2 S) K) := h_callSi (As := [.long x0, .int x2]) (b := 0) (C := RX4) hsf X (c0_isMarked hsf l D cI q n x0 x2 S) (cwSC (k := 2) X.1.2.2.2.2.1 hlk ts0_isMarked tc0_isMarked ini_0 (by decide +kernel) hR) rfl rfl hcat d kk
-- X0.isStaleBy
theorem tlX0_120 : Cond.methodLink RX0 120 yX0_leanOf ∈ tt := tt_in (List.mem_of_getElem? (i := 635) (by decide +kernel)) (by decide +kernel)
theorem tlX0_113 : Cond.methodLink RX0 113 yX0_isMarked ∈ tt := tt_in (List.mem_of_getElem? (i := 628) (by decide +kernel)) (by decide +kernel)
def f0_isStaleBy_l3 (n : Nat) : Nat → Int64 → Int32 → Int32 → CS → Option (Int32 × CS)
  | 0, _, _, _, _ => none
  | k + 1, x1, x3, x4, S => bT 5 S (f2_get n x3 (nI 7) (tOf 5 S)) fun v1 S1 =>
    if v1 ≤ x4 then
      (zt (nI 0) (some ((nI 0), S1)))
    else
      (bnd (f0_leanOf n x3 x4 S1) fun v2 S2 =>
      bnd (f0_isNewest n v2 S2) fun v3 S3 =>
      if v3 = 0 then
        (zt (nI 1) (some ((nI 1), S3)))
      else
        (bT 6 S3 (f2_get n v2 (nI 1) (tOf 6 S3)) fun v4 S4 =>
        bnd (f0_isMarked n x1 v4 S4) fun v5 S5 =>
        if v5 = 0 then ((f0_isStaleBy_l3 n k) x1 x3 (x4 + (nI 1)) S5) else (zt (nI 1) (some ((nI 1), S5)))))
theorem mw0_isStaleBy_l3 (n : Nat) : ∀ (k : Nat) (x1 : Int64) (x3 : Int32) (x4 : Int32) (S : CS), mo S (f0_isStaleBy_l3 n k x1 x3 x4 S) := by
  intro k
  induction k with
  | zero =>
    intro x1 x3 x4 S
    exact m_none
  | succ k ih =>
    intro x1 x3 x4 S
    rw [f0_isStaleBy_l3]
    refine m_bT (mo2_get _ _ _ _) (fun v1 S1 => ?_)
    refine m_ite ?_ ?_
    · exact m_zt m_some
    · refine m_bnd (mo0_leanOf _ _ _ _) (fun v2 S2 => ?_)
      refine m_bnd (mo0_isNewest _ _ _) (fun v3 S3 => ?_)
      refine m_ite ?_ ?_
      · exact m_zt m_some
      · refine m_bT (mo2_get _ _ _ _) (fun v4 S4 => ?_)
        refine m_bnd (mo0_isMarked _ _ _ _) (fun v5 S5 => ?_)
        refine m_ite ?_ ?_
        · exact ih x1 x3 (x4 + (nI 1)) S5
        · exact m_zt m_some
theorem w0_isStaleBy_l3 (hsf : sfOk (SF tk)) (X : hX p s m args meth c cX0_isStaleBy 6 RX0 (some .boolean) D (tyC cI) (SF tk) A) (n : Nat) : ∀ (k : Nat) (x1 : Int64) (x3 : Int32) (x4 : Int32) (S : CS), hG p l e (fun r => rmC 3 62 (cS r.2 - cS S0) (sS r.2 - sS S0)) s m args below meth c 6 (ZW D (wC cI q) A s.heap S0 S) (cS S - cS S0) (sS S - sS S0) (fun r => MQ below (QWi D (tyC cI) (wC cI q) A r) args s (cS r.2 - cS S0) (sS r.2 - sS S0) A) (fun r => le S r.2) 3 [(0, .ref (q 53)), (1, .long x1), (3, .int x3), (4, .int x4)] [] (f0_isStaleBy_l3 n k x1 x3 x4 S) := by
  intro k
  induction k with
  | zero =>
    intro x1 x3 x4 S
    exact h_none
  | succ k ih =>
    intro x1 x3 x4 S
    rw [f0_isStaleBy_l3]
    refine h_iload X dX0_isStaleBy_3 rfl ?_
    refine h_aload_n X dX0_isStaleBy_5 rfl rfl ?_
    refine c_g_IM_cells X fl0_16 dX0_isStaleBy_6 ?_
    refine h_iload_n X dX0_isStaleBy_9 rfl rfl ?_
    refine h_bipush (v := (nI 7)) X dX0_isStaleBy_10 (by decide) ?_
    refine kt2_get_5 hsf X tlX0_57 ⟨Nat.le_of_ble_eq_true rfl, Nat.le_of_ble_eq_true rfl⟩ (Nat.le_of_ble_eq_true rfl) dX0_isStaleBy_12 ?_
    intro v1 S1
    refine h_icmp_ge (tgt := 61) X dX0_isStaleBy_15 (by decide) ?_ ?_
    · refine h_iconst (v := (nI 0)) X dX0_isStaleBy_61 (by decide) ?_
      exact h_zret X dX0_isStaleBy_62
    · refine h_aload_n X dX0_isStaleBy_18 rfl rfl ?_
      refine h_iload_n X dX0_isStaleBy_19 rfl rfl ?_
      refine h_iload X dX0_isStaleBy_20 rfl ?_
      refine k0_leanOf hsf X tlX0_120 ⟨Nat.le_of_ble_eq_true rfl, Nat.le_of_ble_eq_true rfl⟩ (Nat.le_of_ble_eq_true rfl) dX0_isStaleBy_22 ?_
      intro v2 S2
      refine h_istore (lv' := [(5, .int v2), (0, .ref (q 53)), (1, .long x1), (3, .int x3), (4, .int x4)]) X dX0_isStaleBy_25 (by decide) rfl ?_
      refine h_aload_n X dX0_isStaleBy_27 rfl rfl ?_
      refine h_iload X dX0_isStaleBy_28 rfl ?_
      refine k0_isNewest hsf X tlX0_110 ⟨Nat.le_of_ble_eq_true rfl, Nat.le_of_ble_eq_true rfl⟩ (Nat.le_of_ble_eq_true rfl) dX0_isStaleBy_30 ?_
      intro v3 S3
      refine h_if_eq (tgt := 53) X dX0_isStaleBy_33 (by decide) ?_ ?_
      · refine h_iconst (v := (nI 1)) X dX0_isStaleBy_53 (by decide) ?_
        exact h_zret X dX0_isStaleBy_54
      · refine h_lload_n X dX0_isStaleBy_36 rfl rfl ?_
        refine h_aload_n X dX0_isStaleBy_37 rfl rfl ?_
        refine c_g_IM_editions X fl0_20 dX0_isStaleBy_38 ?_
        refine h_iload X dX0_isStaleBy_41 rfl ?_
        refine h_iconst (v := (nI 1)) X dX0_isStaleBy_43 (by decide) ?_
        refine kt2_get_6 hsf X tlX0_57 ⟨Nat.le_of_ble_eq_true rfl, Nat.le_of_ble_eq_true rfl⟩ (Nat.le_of_ble_eq_true rfl) dX0_isStaleBy_44 ?_
        intro v4 S4
        refine k0_isMarked hsf X tlX0_113 ⟨Nat.le_of_ble_eq_true rfl, Nat.le_of_ble_eq_true rfl⟩ (Nat.le_of_ble_eq_true rfl) dX0_isStaleBy_47 ?_
        intro v5 S5
        refine h_if_eq (tgt := 55) X dX0_isStaleBy_50 (by decide) ?_ ?_
        · refine h_iinc (v := (nI 1)) (lv' := [(4, .int (x4 + (nI 1))), (5, .int v2), (0, .ref (q 53)), (1, .long x1), (3, .int x3)]) X dX0_isStaleBy_55 rfl (by decide) (by decide) rfl ?_
          refine h_goto (tgt := 3) X dX0_isStaleBy_58 (by decide) ?_
          exact h_pick [2, 3, 4, 0] rfl (ih x1 x3 (x4 + (nI 1)) S5)
        · refine h_iconst (v := (nI 1)) X dX0_isStaleBy_53 (by decide) ?_
          exact h_zret X dX0_isStaleBy_54
def f0_isStaleBy (n : Nat) (x1 : Int64) (x3 : Int32) (S : CS) : Option (Int32 × CS) :=
    f0_isStaleBy_l3 n n x1 x3 (nI 0) S
theorem w0_isStaleBy (hsf : sfOk (SF tk)) (X : hX p s m args meth c cX0_isStaleBy 6 RX0 (some .boolean) D (tyC cI) (SF tk) A) {S0 : CS} (n : Nat) (x1 : Int64) (x3 : Int32) (S : CS) : hG p l e (fun r => rmC 3 62 (cS r.2 - cS S0) (sS r.2 - sS S0)) s m args below meth c 6 (ZW D (wC cI q) A s.heap S0 S) (cS S - cS S0) (sS S - sS S0) (fun r => MQ below (QWi D (tyC cI) (wC cI q) A r) args s (cS r.2 - cS S0) (sS r.2 - sS S0) A) (fun r => le S r.2) 0 [(0, .ref (q 53)), (1, .long x1), (3, .int x3)] [] (f0_isStaleBy n x1 x3 S) := by
    unfold f0_isStaleBy
    refine h_iconst (v := (nI 0)) X dX0_isStaleBy_0 (by decide) ?_
    refine h_istore (lv' := [(4, .int (nI 0)), (0, .ref (q 53)), (1, .long x1), (3, .int x3)]) X dX0_isStaleBy_1 (by decide) rfl ?_
    exact h_pick [1, 2, 3, 0] rfl (w0_isStaleBy_l3 hsf X n n x1 x3 (nI 0) S)
theorem mo0_isStaleBy (n : Nat) (x1 : Int64) (x3 : Int32) (S : CS) : mo S (f0_isStaleBy n x1 x3 S) := by
    unfold f0_isStaleBy
    exact mw0_isStaleBy_l3 n n x1 x3 (nI 0) S
theorem c0_isStaleBy (hsf : sfOk (SF tk)) (l : Launch) (D : va_G) (cI : ClassId) (q : Nat → Nat) (n : Nat) (x1 : Int64) (x3 : Int32) (S : CS) : MetW l D (tyC cI) (SF tk) (wC cI q) yX0_isStaleBy cX0_isStaleBy 6 (some .boolean) 3 62 QWi [.ref (q 53), .long x1, .int x3] S (f0_isStaleBy n x1 x3 S) := by
  refine MetW.of (own := RX0) (by decide) rfl (Nat.le_of_ble_eq_true rfl) (mo0_isStaleBy n x1 x3 S) ?_
  intro x p e s m args below meth c X
  refine h_pick (lv' := [(0, .ref (q 53)), (1, .long x1), (3, .int x3)]) [0, 1, 2] rfl ?_
  exact h_close (w0_isStaleBy hsf X n x1 x3 S)
theorem tc0_isStaleBy : Cond.code yX0_isStaleBy cX0_isStaleBy 6 (some .boolean) ∈ tt := tt_in (List.mem_of_getElem? (i := 634) (by decide +kernel)) (by decide +kernel)
theorem ti0_isStaleBy : Cond.instanceMethod yX0_isStaleBy ∈ tt := tt_in (List.mem_of_getElem? (i := 633) (by decide +kernel)) (by decide +kernel)
theorem te0_isStaleBy : Cond.selects RX0 yX0_isStaleBy yX0_isStaleBy ∈ tt := tt_in (List.mem_of_getElem? (i := 36) (by decide +kernel)) (by decide +kernel)
theorem k0_isStaleBy (hsf : sfOk (SF tk)) (X : hX p s m args meth c cc nL own rt D (tyC cI) (SF tk) A) {n : Nat} {x1 : Int64} {x3 : Int32} {ix : Nat} (hlk : Cond.methodLink own ix yX0_isStaleBy ∈ tt) {rest : List Value} {K : Int32 → CS → Option (ρ × CS)} (hR : 3 + 1 ≤ fr ∧ 8 + (6 + 11) + 62 ≤ lo) (hcat : (rest.map fun v => v.category).sum ≤ 8) (d : decode cc pc = .ok (.invokevirtual ix, 3)) (kk : ∀ v S1, hG p l e (fun r => rmC fr lo (cS r.2 - cS S0) (sS r.2 - sS S0)) s m args below meth c nL (ZW D (wC cI q) A s.heap S0 S1) (cS S1 - cS S0) (sS S1 - sS S0) QQ (fun r => le S1 r.2) (pc + 3) lv (.int v :: rest) (K v S1)) : hG p l e (fun r => rmC fr lo (cS r.2 - cS S0) (sS r.2 - sS S0)) s m args below meth c nL (ZW D (wC cI q) A s.heap S0 S) (cS S - cS S0) (sS S - sS S0) QQ (fun r => le S r.2) pc lv (.int x3 :: .long x1 :: .ref (q 53) :: rest) (bnd (f0_isStaleBy n x1 x3 S) K) := h_callVi (As := [.long x1, .int x3]) (b := q 53) (C := RX0) hsf X (c0_isStaleBy hsf l D cI q n x1 x3 S) (cwVC (k := 2) X.1.2.2.2.2.1 hlk ti0_isStaleBy te0_isStaleBy tc0_isStaleBy ini_0 (by decide +kernel) hR) (fun x H h1 h2 => va_recv h1 h2 (ci := 0) (q0 := 9) rfl rfl) rfl rfl hcat d kk
-- X0.staleCells
def f0_staleCells_b63 (n : Nat) (k7 : Int64 → Int32 → Int32 → CS → Option (Int64 × CS)) (k23 : Int64 → Int32 → Int32 → Int32 → CS → Option (Int64 × CS)) (x1 : Int64) (x3 : Int32) (x4 : Int32) (x5 : Int32) (S : CS) : Option (Int64 × CS) :=
    k23 x1 x3 x4 (x5 + (nI 1)) S
theorem mw0_staleCells_b63 (n : Nat) (k7 : Int64 → Int32 → Int32 → CS → Option (Int64 × CS)) (k23 : Int64 → Int32 → Int32 → Int32 → CS → Option (Int64 × CS)) (mhk7 : ∀ (x1 : Int64) (x3 : Int32) (x4 : Int32) (S : CS), mo S (k7 x1 x3 x4 S)) (mhk23 : ∀ (x1 : Int64) (x3 : Int32) (x4 : Int32) (x5 : Int32) (S : CS), mo S (k23 x1 x3 x4 x5 S)) (x1 : Int64) (x3 : Int32) (x4 : Int32) (x5 : Int32) (S : CS) : mo S (f0_staleCells_b63 n k7 k23 x1 x3 x4 x5 S) := by
  unfold f0_staleCells_b63
  exact mhk23 x1 x3 x4 (x5 + (nI 1)) S
theorem w0_staleCells_b63 (hsf : sfOk (SF tk)) (X : hX p s m args meth c cX0_staleCells 6 RX0 (some .long) D (tyC cI) (SF tk) A) (n : Nat) (k7 : Int64 → Int32 → Int32 → CS → Option (Int64 × CS)) (k23 : Int64 → Int32 → Int32 → Int32 → CS → Option (Int64 × CS)) (hk7 : ∀ (x1 : Int64) (x3 : Int32) (x4 : Int32) (S : CS), hG p l e (fun r => rmC 4 87 (cS r.2 - cS S0) (sS r.2 - sS S0)) s m args below meth c 6 (ZW D (wC cI q) A s.heap S0 S) (cS S - cS S0) (sS S - sS S0) (fun r => MQ below (QWl D (tyC cI) (wC cI q) A r) args s (cS r.2 - cS S0) (sS r.2 - sS S0) A) (fun r => le S r.2) 7 [(0, .ref (q 53)), (1, .long x1), (3, .int x3), (4, .int x4)] [] (k7 x1 x3 x4 S)) (hk23 : ∀ (x1 : Int64) (x3 : Int32) (x4 : Int32) (x5 : Int32) (S : CS), hG p l e (fun r => rmC 4 87 (cS r.2 - cS S0) (sS r.2 - sS S0)) s m args below meth c 6 (ZW D (wC cI q) A s.heap S0 S) (cS S - cS S0) (sS S - sS S0) (fun r => MQ below (QWl D (tyC cI) (wC cI q) A r) args s (cS r.2 - cS S0) (sS r.2 - sS S0) A) (fun r => le S r.2) 23 [(0, .ref (q 53)), (1, .long x1), (3, .int x3), (4, .int x4), (5, .int x5)] [] (k23 x1 x3 x4 x5 S)) (x1 : Int64) (x3 : Int32) (x4 : Int32) (x5 : Int32) (S : CS) : hG p l e (fun r => rmC 4 87 (cS r.2 - cS S0) (sS r.2 - sS S0)) s m args below meth c 6 (ZW D (wC cI q) A s.heap S0 S) (cS S - cS S0) (sS S - sS S0) (fun r => MQ below (QWl D (tyC cI) (wC cI q) A r) args s (cS r.2 - cS S0) (sS r.2 - sS S0) A) (fun r => le S r.2) 63 [(0, .ref (q 53)), (1, .long x1), (3, .int x3), (4, .int x4), (5, .int x5)] [] (f0_staleCells_b63 n k7 k23 x1 x3 x4 x5 S) := by
  unfold f0_staleCells_b63
  refine h_iinc (v := (nI 1)) (lv' := [(5, .int (x5 + (nI 1))), (0, .ref (q 53)), (1, .long x1), (3, .int x3), (4, .int x4)]) X dX0_staleCells_63 rfl (by decide) (by decide) rfl ?_
  refine h_goto (tgt := 23) X dX0_staleCells_66 (by decide) ?_
  exact h_pick [1, 2, 3, 4, 0] rfl (hk23 x1 x3 x4 (x5 + (nI 1)) S)
theorem tlX0_117 : Cond.methodLink RX0 117 yX0_isStaleBy ∈ tt := tt_in (List.mem_of_getElem? (i := 631) (by decide +kernel)) (by decide +kernel)
def f0_staleCells_l23 (n : Nat) (k7 : Int64 → Int32 → Int32 → CS → Option (Int64 × CS)) : Nat → Int64 → Int32 → Int32 → Int32 → CS → Option (Int64 × CS)
  | 0, _, _, _, _, _ => none
  | k + 1, x1, x3, x4, x5, S => bT 5 S (f2_size n (tOf 5 S)) fun v1 S1 =>
    if v1 ≤ x5 then
      (k7 x1 x3 (x4 + (nI 1)) S1)
    else
      (bnd (f0_isMarked n x1 x5 S1) fun v2 S2 =>
      if v2 = 0 then
        (bnd (f0_isStaleBy n x1 x5 S2) fun v3 S3 =>
        if v3 = 0 then
          (f0_staleCells_b63 n k7 (f0_staleCells_l23 n k7 k) x1 x3 x4 x5 S3)
        else
          (f0_staleCells_b63 n k7 (f0_staleCells_l23 n k7 k) (x1 ||| ((1 : Int64) <<< (Int32.toInt64 x5 &&& 63))) (nI 1) x4 x5 S3))
      else
        (f0_staleCells_b63 n k7 (f0_staleCells_l23 n k7 k) x1 x3 x4 x5 S2))
theorem mw0_staleCells_l23 (n : Nat) (k7 : Int64 → Int32 → Int32 → CS → Option (Int64 × CS)) (mhk7 : ∀ (x1 : Int64) (x3 : Int32) (x4 : Int32) (S : CS), mo S (k7 x1 x3 x4 S)) : ∀ (k : Nat) (x1 : Int64) (x3 : Int32) (x4 : Int32) (x5 : Int32) (S : CS), mo S (f0_staleCells_l23 n k7 k x1 x3 x4 x5 S) := by
  intro k
  induction k with
  | zero =>
    intro x1 x3 x4 x5 S
    exact m_none
  | succ k ih =>
    intro x1 x3 x4 x5 S
    rw [f0_staleCells_l23]
    refine m_bT (mo2_size _ _) (fun v1 S1 => ?_)
    refine m_ite ?_ ?_
    · exact mhk7 x1 x3 (x4 + (nI 1)) S1
    · refine m_bnd (mo0_isMarked _ _ _ _) (fun v2 S2 => ?_)
      refine m_ite ?_ ?_
      · refine m_bnd (mo0_isStaleBy _ _ _ _) (fun v3 S3 => ?_)
        refine m_ite ?_ ?_
        · exact mw0_staleCells_b63 n k7 (f0_staleCells_l23 n k7 k) mhk7 ih x1 x3 x4 x5 S3
        · exact mw0_staleCells_b63 n k7 (f0_staleCells_l23 n k7 k) mhk7 ih (x1 ||| ((1 : Int64) <<< (Int32.toInt64 x5 &&& 63))) (nI 1) x4 x5 S3
      · exact mw0_staleCells_b63 n k7 (f0_staleCells_l23 n k7 k) mhk7 ih x1 x3 x4 x5 S2
theorem w0_staleCells_l23 (hsf : sfOk (SF tk)) (X : hX p s m args meth c cX0_staleCells 6 RX0 (some .long) D (tyC cI) (SF tk) A) (n : Nat) (k7 : Int64 → Int32 → Int32 → CS → Option (Int64 × CS)) (hk7 : ∀ (x1 : Int64) (x3 : Int32) (x4 : Int32) (S : CS), hG p l e (fun r => rmC 4 87 (cS r.2 - cS S0) (sS r.2 - sS S0)) s m args below meth c 6 (ZW D (wC cI q) A s.heap S0 S) (cS S - cS S0) (sS S - sS S0) (fun r => MQ below (QWl D (tyC cI) (wC cI q) A r) args s (cS r.2 - cS S0) (sS r.2 - sS S0) A) (fun r => le S r.2) 7 [(0, .ref (q 53)), (1, .long x1), (3, .int x3), (4, .int x4)] [] (k7 x1 x3 x4 S)) : ∀ (k : Nat) (x1 : Int64) (x3 : Int32) (x4 : Int32) (x5 : Int32) (S : CS), hG p l e (fun r => rmC 4 87 (cS r.2 - cS S0) (sS r.2 - sS S0)) s m args below meth c 6 (ZW D (wC cI q) A s.heap S0 S) (cS S - cS S0) (sS S - sS S0) (fun r => MQ below (QWl D (tyC cI) (wC cI q) A r) args s (cS r.2 - cS S0) (sS r.2 - sS S0) A) (fun r => le S r.2) 23 [(0, .ref (q 53)), (1, .long x1), (3, .int x3), (4, .int x4), (5, .int x5)] [] (f0_staleCells_l23 n k7 k x1 x3 x4 x5 S) := by
  intro k
  induction k with
  | zero =>
    intro x1 x3 x4 x5 S
    exact h_none
  | succ k ih =>
    intro x1 x3 x4 x5 S
    rw [f0_staleCells_l23]
    refine h_iload X dX0_staleCells_23 rfl ?_
    refine h_aload_n X dX0_staleCells_25 rfl rfl ?_
    refine c_g_IM_cells X fl0_16 dX0_staleCells_26 ?_
    refine kt2_size_5 hsf X tlX0_61 ⟨Nat.le_of_ble_eq_true rfl, Nat.le_of_ble_eq_true rfl⟩ (Nat.le_of_ble_eq_true rfl) dX0_staleCells_29 ?_
    intro v1 S1
    refine h_icmp_ge (tgt := 69) X dX0_staleCells_32 (by decide) ?_ ?_
    · refine h_iinc (v := (nI 1)) (lv' := [(4, .int (x4 + (nI 1))), (0, .ref (q 53)), (1, .long x1), (3, .int x3), (5, .int x5)]) X dX0_staleCells_69 rfl (by decide) (by decide) rfl ?_
      refine h_goto (tgt := 7) X dX0_staleCells_72 (by decide) ?_
      exact h_pick [1, 2, 3, 0] rfl (hk7 x1 x3 (x4 + (nI 1)) S1)
    · refine h_lload_n X dX0_staleCells_35 rfl rfl ?_
      refine h_iload X dX0_staleCells_36 rfl ?_
      refine k0_isMarked hsf X tlX0_113 ⟨Nat.le_of_ble_eq_true rfl, Nat.le_of_ble_eq_true rfl⟩ (Nat.le_of_ble_eq_true rfl) dX0_staleCells_38 ?_
      intro v2 S2
      refine h_if_ne (tgt := 63) X dX0_staleCells_41 (by decide) ?_ ?_
      · exact h_pick [0, 1, 2, 3, 4] rfl (w0_staleCells_b63 hsf X n k7 (f0_staleCells_l23 n k7 k) hk7 ih x1 x3 x4 x5 S2)
      · refine h_aload_n X dX0_staleCells_44 rfl rfl ?_
        refine h_lload_n X dX0_staleCells_45 rfl rfl ?_
        refine h_iload X dX0_staleCells_46 rfl ?_
        refine k0_isStaleBy hsf X tlX0_117 ⟨Nat.le_of_ble_eq_true rfl, Nat.le_of_ble_eq_true rfl⟩ (Nat.le_of_ble_eq_true rfl) dX0_staleCells_48 ?_
        intro v3 S3
        refine h_if_eq (tgt := 63) X dX0_staleCells_51 (by decide) ?_ ?_
        · exact h_pick [0, 1, 2, 3, 4] rfl (w0_staleCells_b63 hsf X n k7 (f0_staleCells_l23 n k7 k) hk7 ih x1 x3 x4 x5 S3)
        · refine h_lload_n X dX0_staleCells_54 rfl rfl ?_
          refine h_lconst (v := (1 : Int64)) X dX0_staleCells_55 (by decide) ?_
          refine h_iload X dX0_staleCells_56 rfl ?_
          refine h_lshl X dX0_staleCells_58 ?_
          refine h_lor X dX0_staleCells_59 ?_
          refine h_lstore_n (lv' := [(1, .long (x1 ||| ((1 : Int64) <<< (Int32.toInt64 x5 &&& 63)))), (0, .ref (q 53)), (3, .int x3), (4, .int x4), (5, .int x5)]) X dX0_staleCells_60 rfl (by decide) rfl ?_
          refine h_iconst (v := (nI 1)) X dX0_staleCells_61 (by decide) ?_
          refine h_istore_n (lv' := [(3, .int (nI 1)), (1, .long (x1 ||| ((1 : Int64) <<< (Int32.toInt64 x5 &&& 63)))), (0, .ref (q 53)), (4, .int x4), (5, .int x5)]) X dX0_staleCells_62 rfl (by decide) rfl ?_
          exact h_pick [2, 1, 0, 3, 4] rfl (w0_staleCells_b63 hsf X n k7 (f0_staleCells_l23 n k7 k) hk7 ih (x1 ||| ((1 : Int64) <<< (Int32.toInt64 x5 &&& 63))) (nI 1) x4 x5 S3)
def f0_staleCells_l7 (n : Nat) : Nat → Int64 → Int32 → Int32 → CS → Option (Int64 × CS)
  | 0, _, _, _, _ => none
  | k + 1, x1, x3, x4, S => if (nI 40) < x4 then
      (some (x1, S))
    else
      (if x3 = 0 then (some (x1, S)) else (f0_staleCells_l23 n (f0_staleCells_l7 n k) n x1 (nI 0) x4 (nI 0) S))
theorem mw0_staleCells_l7 (n : Nat) : ∀ (k : Nat) (x1 : Int64) (x3 : Int32) (x4 : Int32) (S : CS), mo S (f0_staleCells_l7 n k x1 x3 x4 S) := by
  intro k
  induction k with
  | zero =>
    intro x1 x3 x4 S
    exact m_none
  | succ k ih =>
    intro x1 x3 x4 S
    rw [f0_staleCells_l7]
    refine m_ite ?_ ?_
    · exact m_some
    · refine m_ite ?_ ?_
      · exact m_some
      · exact mw0_staleCells_l23 n (f0_staleCells_l7 n k) ih n x1 (nI 0) x4 (nI 0) S
theorem w0_staleCells_l7 (hsf : sfOk (SF tk)) (X : hX p s m args meth c cX0_staleCells 6 RX0 (some .long) D (tyC cI) (SF tk) A) (n : Nat) : ∀ (k : Nat) (x1 : Int64) (x3 : Int32) (x4 : Int32) (S : CS), hG p l e (fun r => rmC 4 87 (cS r.2 - cS S0) (sS r.2 - sS S0)) s m args below meth c 6 (ZW D (wC cI q) A s.heap S0 S) (cS S - cS S0) (sS S - sS S0) (fun r => MQ below (QWl D (tyC cI) (wC cI q) A r) args s (cS r.2 - cS S0) (sS r.2 - sS S0) A) (fun r => le S r.2) 7 [(0, .ref (q 53)), (1, .long x1), (3, .int x3), (4, .int x4)] [] (f0_staleCells_l7 n k x1 x3 x4 S) := by
  intro k
  induction k with
  | zero =>
    intro x1 x3 x4 S
    exact h_none
  | succ k ih =>
    intro x1 x3 x4 S
    rw [f0_staleCells_l7]
    refine h_iload X dX0_staleCells_7 rfl ?_
    refine h_bipush (v := (nI 40)) X dX0_staleCells_9 (by decide) ?_
    refine h_icmp_gt (tgt := 75) X dX0_staleCells_11 (by decide) ?_ ?_
    · refine h_lload_n X dX0_staleCells_75 rfl rfl ?_
      exact h_lret X dX0_staleCells_76
    · refine h_iload_n X dX0_staleCells_14 rfl rfl ?_
      refine h_if_eq (tgt := 75) X dX0_staleCells_15 (by decide) ?_ ?_
      · refine h_lload_n X dX0_staleCells_75 rfl rfl ?_
        exact h_lret X dX0_staleCells_76
      · refine h_iconst (v := (nI 0)) X dX0_staleCells_18 (by decide) ?_
        refine h_istore_n (lv' := [(3, .int (nI 0)), (0, .ref (q 53)), (1, .long x1), (4, .int x4)]) X dX0_staleCells_19 rfl (by decide) rfl ?_
        refine h_iconst (v := (nI 0)) X dX0_staleCells_20 (by decide) ?_
        refine h_istore (lv' := [(5, .int (nI 0)), (3, .int (nI 0)), (0, .ref (q 53)), (1, .long x1), (4, .int x4)]) X dX0_staleCells_21 (by decide) rfl ?_
        exact h_pick [2, 3, 1, 4, 0] rfl (w0_staleCells_l23 hsf X n (f0_staleCells_l7 n k) ih n x1 (nI 0) x4 (nI 0) S)
def f0_staleCells (n : Nat) (S : CS) : Option (Int64 × CS) :=
    f0_staleCells_l7 n n (0 : Int64) (nI 1) (nI 0) S
theorem w0_staleCells (hsf : sfOk (SF tk)) (X : hX p s m args meth c cX0_staleCells 6 RX0 (some .long) D (tyC cI) (SF tk) A) {S0 : CS} (n : Nat) (S : CS) : hG p l e (fun r => rmC 4 87 (cS r.2 - cS S0) (sS r.2 - sS S0)) s m args below meth c 6 (ZW D (wC cI q) A s.heap S0 S) (cS S - cS S0) (sS S - sS S0) (fun r => MQ below (QWl D (tyC cI) (wC cI q) A r) args s (cS r.2 - cS S0) (sS r.2 - sS S0) A) (fun r => le S r.2) 0 [(0, .ref (q 53))] [] (f0_staleCells n S) := by
    unfold f0_staleCells
    refine h_lconst (v := (0 : Int64)) X dX0_staleCells_0 (by decide) ?_
    refine h_lstore_n (lv' := [(1, .long (0 : Int64)), (0, .ref (q 53))]) X dX0_staleCells_1 rfl (by decide) rfl ?_
    refine h_iconst (v := (nI 1)) X dX0_staleCells_2 (by decide) ?_
    refine h_istore_n (lv' := [(3, .int (nI 1)), (1, .long (0 : Int64)), (0, .ref (q 53))]) X dX0_staleCells_3 rfl (by decide) rfl ?_
    refine h_iconst (v := (nI 0)) X dX0_staleCells_4 (by decide) ?_
    refine h_istore (lv' := [(4, .int (nI 0)), (3, .int (nI 1)), (1, .long (0 : Int64)), (0, .ref (q 53))]) X dX0_staleCells_5 (by decide) rfl ?_
    exact h_pick [3, 2, 1, 0] rfl (w0_staleCells_l7 hsf X n n (0 : Int64) (nI 1) (nI 0) S)
theorem mo0_staleCells (n : Nat) (S : CS) : mo S (f0_staleCells n S) := by
    unfold f0_staleCells
    exact mw0_staleCells_l7 n n (0 : Int64) (nI 1) (nI 0) S
theorem c0_staleCells (hsf : sfOk (SF tk)) (l : Launch) (D : va_G) (cI : ClassId) (q : Nat → Nat) (n : Nat) (S : CS) : MetW l D (tyC cI) (SF tk) (wC cI q) yX0_staleCells cX0_staleCells 6 (some .long) 4 87 QWl [.ref (q 53)] S (f0_staleCells n S) := by
  refine MetW.of (own := RX0) (by decide) rfl (Nat.le_of_ble_eq_true rfl) (mo0_staleCells n S) ?_
  intro x p e s m args below meth c X
  refine h_pick (lv' := [(0, .ref (q 53))]) [0] rfl ?_
  exact h_close (w0_staleCells hsf X n S)
theorem tc0_staleCells : Cond.code yX0_staleCells cX0_staleCells 6 (some .long) ∈ tt := tt_in (List.mem_of_getElem? (i := 627) (by decide +kernel)) (by decide +kernel)
theorem ti0_staleCells : Cond.instanceMethod yX0_staleCells ∈ tt := tt_in (List.mem_of_getElem? (i := 625) (by decide +kernel)) (by decide +kernel)
theorem te0_staleCells : Cond.selects RX0 yX0_staleCells yX0_staleCells ∈ tt := tt_in (List.mem_of_getElem? (i := 626) (by decide +kernel)) (by decide +kernel)
theorem k0_staleCells (hsf : sfOk (SF tk)) (X : hX p s m args meth c cc nL own rt D (tyC cI) (SF tk) A) {n : Nat} {ix : Nat} (hlk : Cond.methodLink own ix yX0_staleCells ∈ tt) {rest : List Value} {K : Int64 → CS → Option (ρ × CS)} (hR : 4 + 1 ≤ fr ∧ 8 + (6 + 11) + 87 ≤ lo) (hcat : (rest.map fun v => v.category).sum ≤ 8) (d : decode cc pc = .ok (.invokevirtual ix, 3)) (kk : ∀ v S1, hG p l e (fun r => rmC fr lo (cS r.2 - cS S0) (sS r.2 - sS S0)) s m args below meth c nL (ZW D (wC cI q) A s.heap S0 S1) (cS S1 - cS S0) (sS S1 - sS S0) QQ (fun r => le S1 r.2) (pc + 3) lv (.long v :: rest) (K v S1)) : hG p l e (fun r => rmC fr lo (cS r.2 - cS S0) (sS r.2 - sS S0)) s m args below meth c nL (ZW D (wC cI q) A s.heap S0 S) (cS S - cS S0) (sS S - sS S0) QQ (fun r => le S r.2) pc lv (.ref (q 53) :: rest) (bnd (f0_staleCells n S) K) := h_callVl (As := []) (b := q 53) (C := RX0) hsf X (c0_staleCells hsf l D cI q n S) (cwVC (k := 0) X.1.2.2.2.2.1 hlk ti0_staleCells te0_staleCells tc0_staleCells ini_0 (by decide +kernel) hR) (fun x H h1 h2 => va_recv h1 h2 (ci := 0) (q0 := 9) rfl rfl) rfl rfl hcat d kk
-- X0.leansOnWaiting
def f0_leansOnWaiting_b78 (n : Nat) (k3 : Int32 → Int64 → Int32 → CS → Option (Int32 × CS)) (x1 : Int32) (x2 : Int64) (x4 : Int32) (S : CS) : Option (Int32 × CS) :=
    k3 x1 x2 (x4 + (nI 1)) S
theorem mw0_leansOnWaiting_b78 (n : Nat) (k3 : Int32 → Int64 → Int32 → CS → Option (Int32 × CS)) (mhk3 : ∀ (x1 : Int32) (x2 : Int64) (x4 : Int32) (S : CS), mo S (k3 x1 x2 x4 S)) (x1 : Int32) (x2 : Int64) (x4 : Int32) (S : CS) : mo S (f0_leansOnWaiting_b78 n k3 x1 x2 x4 S) := by
  unfold f0_leansOnWaiting_b78
  exact mhk3 x1 x2 (x4 + (nI 1)) S
theorem w0_leansOnWaiting_b78 (hsf : sfOk (SF tk)) (X : hX p s m args meth c cX0_leansOnWaiting 7 RX0 (some .boolean) D (tyC cI) (SF tk) A) (n : Nat) (k3 : Int32 → Int64 → Int32 → CS → Option (Int32 × CS)) (hk3 : ∀ (x1 : Int32) (x2 : Int64) (x4 : Int32) (S : CS), hG p l e (fun r => rmC 2 45 (cS r.2 - cS S0) (sS r.2 - sS S0)) s m args below meth c 7 (ZW D (wC cI q) A s.heap S0 S) (cS S - cS S0) (sS S - sS S0) (fun r => MQ below (QWi D (tyC cI) (wC cI q) A r) args s (cS r.2 - cS S0) (sS r.2 - sS S0) A) (fun r => le S r.2) 3 [(0, .ref (q 53)), (1, .int x1), (2, .long x2), (4, .int x4)] [] (k3 x1 x2 x4 S)) (x1 : Int32) (x2 : Int64) (x4 : Int32) (S : CS) : hG p l e (fun r => rmC 2 45 (cS r.2 - cS S0) (sS r.2 - sS S0)) s m args below meth c 7 (ZW D (wC cI q) A s.heap S0 S) (cS S - cS S0) (sS S - sS S0) (fun r => MQ below (QWi D (tyC cI) (wC cI q) A r) args s (cS r.2 - cS S0) (sS r.2 - sS S0) A) (fun r => le S r.2) 78 [(0, .ref (q 53)), (1, .int x1), (2, .long x2), (4, .int x4)] [] (f0_leansOnWaiting_b78 n k3 x1 x2 x4 S) := by
  unfold f0_leansOnWaiting_b78
  refine h_iinc (v := (nI 1)) (lv' := [(4, .int (x4 + (nI 1))), (0, .ref (q 53)), (1, .int x1), (2, .long x2)]) X dX0_leansOnWaiting_78 rfl (by decide) (by decide) rfl ?_
  refine h_goto (tgt := 3) X dX0_leansOnWaiting_81 (by decide) ?_
  exact h_pick [1, 2, 3, 0] rfl (hk3 x1 x2 (x4 + (nI 1)) S)
def f0_leansOnWaiting_b59 (n : Nat) (k3 : Int32 → Int64 → Int32 → CS → Option (Int32 × CS)) (x1 : Int32) (x2 : Int64) (x4 : Int32) (s0 : Int32) (S : CS) : Option (Int32 × CS) :=
    if s0 = x1 then
      (f0_leansOnWaiting_b78 n k3 x1 x2 x4 S)
    else
      (bnd (f0_isMarked n x2 s0 S) fun v1 S1 =>
      if v1 = 0 then (f0_leansOnWaiting_b78 n k3 x1 x2 x4 S1) else (zt (nI 1) (some ((nI 1), S1))))
theorem mw0_leansOnWaiting_b59 (n : Nat) (k3 : Int32 → Int64 → Int32 → CS → Option (Int32 × CS)) (mhk3 : ∀ (x1 : Int32) (x2 : Int64) (x4 : Int32) (S : CS), mo S (k3 x1 x2 x4 S)) (x1 : Int32) (x2 : Int64) (x4 : Int32) (s0 : Int32) (S : CS) : mo S (f0_leansOnWaiting_b59 n k3 x1 x2 x4 s0 S) := by
  unfold f0_leansOnWaiting_b59
  refine m_ite ?_ ?_
  · exact mw0_leansOnWaiting_b78 n k3 mhk3 x1 x2 x4 S
  · refine m_bnd (mo0_isMarked _ _ _ _) (fun v1 S1 => ?_)
    refine m_ite ?_ ?_
    · exact mw0_leansOnWaiting_b78 n k3 mhk3 x1 x2 x4 S1
    · exact m_zt m_some
theorem w0_leansOnWaiting_b59 (hsf : sfOk (SF tk)) (X : hX p s m args meth c cX0_leansOnWaiting 7 RX0 (some .boolean) D (tyC cI) (SF tk) A) (n : Nat) (k3 : Int32 → Int64 → Int32 → CS → Option (Int32 × CS)) (hk3 : ∀ (x1 : Int32) (x2 : Int64) (x4 : Int32) (S : CS), hG p l e (fun r => rmC 2 45 (cS r.2 - cS S0) (sS r.2 - sS S0)) s m args below meth c 7 (ZW D (wC cI q) A s.heap S0 S) (cS S - cS S0) (sS S - sS S0) (fun r => MQ below (QWi D (tyC cI) (wC cI q) A r) args s (cS r.2 - cS S0) (sS r.2 - sS S0) A) (fun r => le S r.2) 3 [(0, .ref (q 53)), (1, .int x1), (2, .long x2), (4, .int x4)] [] (k3 x1 x2 x4 S)) (x1 : Int32) (x2 : Int64) (x4 : Int32) (s0 : Int32) (S : CS) : hG p l e (fun r => rmC 2 45 (cS r.2 - cS S0) (sS r.2 - sS S0)) s m args below meth c 7 (ZW D (wC cI q) A s.heap S0 S) (cS S - cS S0) (sS S - sS S0) (fun r => MQ below (QWi D (tyC cI) (wC cI q) A r) args s (cS r.2 - cS S0) (sS r.2 - sS S0) A) (fun r => le S r.2) 59 [(0, .ref (q 53)), (1, .int x1), (2, .long x2), (4, .int x4)] [.int s0] (f0_leansOnWaiting_b59 n k3 x1 x2 x4 s0 S) := by
  unfold f0_leansOnWaiting_b59
  refine h_istore (lv' := [(6, .int s0), (0, .ref (q 53)), (1, .int x1), (2, .long x2), (4, .int x4)]) X dX0_leansOnWaiting_59 (by decide) rfl ?_
  refine h_iload X dX0_leansOnWaiting_61 rfl ?_
  refine h_iload_n X dX0_leansOnWaiting_63 rfl rfl ?_
  refine h_icmp_eq (tgt := 78) X dX0_leansOnWaiting_64 (by decide) ?_ ?_
  · exact h_pick [1, 2, 3, 4] rfl (w0_leansOnWaiting_b78 hsf X n k3 hk3 x1 x2 x4 S)
  · refine h_lload_n X dX0_leansOnWaiting_67 rfl rfl ?_
    refine h_iload X dX0_leansOnWaiting_68 rfl ?_
    refine k0_isMarked hsf X tlX0_113 ⟨Nat.le_of_ble_eq_true rfl, Nat.le_of_ble_eq_true rfl⟩ (Nat.le_of_ble_eq_true rfl) dX0_leansOnWaiting_70 ?_
    intro v1 S1
    refine h_if_eq (tgt := 78) X dX0_leansOnWaiting_73 (by decide) ?_ ?_
    · exact h_pick [1, 2, 3, 4] rfl (w0_leansOnWaiting_b78 hsf X n k3 hk3 x1 x2 x4 S1)
    · refine h_iconst (v := (nI 1)) X dX0_leansOnWaiting_76 (by decide) ?_
      exact h_zret X dX0_leansOnWaiting_77
def f0_leansOnWaiting_l3 (n : Nat) : Nat → Int32 → Int64 → Int32 → CS → Option (Int32 × CS)
  | 0, _, _, _, _ => none
  | k + 1, x1, x2, x4, S => bT 5 S (f2_get n x1 (nI 7) (tOf 5 S)) fun v1 S1 =>
    if v1 ≤ x4 then
      (zt (nI 0) (some ((nI 0), S1)))
    else
      (bnd (f0_leanOf n x1 x4 S1) fun v2 S2 =>
      bT 6 S2 (f2_get n v2 (nI 0) (tOf 6 S2)) fun v3 S3 =>
      bnd (f0_newestOf n v3 S3) fun v4 S4 =>
      if v4 = (-1 : Int32) then
        (f0_leansOnWaiting_b59 n (f0_leansOnWaiting_l3 n k) x1 x2 x4 (-1 : Int32) S4)
      else
        (bT 6 S4 (f2_get n v4 (nI 1) (tOf 6 S4)) fun v5 S5 =>
        f0_leansOnWaiting_b59 n (f0_leansOnWaiting_l3 n k) x1 x2 x4 v5 S5))
theorem mw0_leansOnWaiting_l3 (n : Nat) : ∀ (k : Nat) (x1 : Int32) (x2 : Int64) (x4 : Int32) (S : CS), mo S (f0_leansOnWaiting_l3 n k x1 x2 x4 S) := by
  intro k
  induction k with
  | zero =>
    intro x1 x2 x4 S
    exact m_none
  | succ k ih =>
    intro x1 x2 x4 S
    rw [f0_leansOnWaiting_l3]
    refine m_bT (mo2_get _ _ _ _) (fun v1 S1 => ?_)
    refine m_ite ?_ ?_
    · exact m_zt m_some
    · refine m_bnd (mo0_leanOf _ _ _ _) (fun v2 S2 => ?_)
      refine m_bT (mo2_get _ _ _ _) (fun v3 S3 => ?_)
      refine m_bnd (mo0_newestOf _ _ _) (fun v4 S4 => ?_)
      refine m_ite ?_ ?_
      · exact mw0_leansOnWaiting_b59 n (f0_leansOnWaiting_l3 n k) ih x1 x2 x4 (-1 : Int32) S4
      · refine m_bT (mo2_get _ _ _ _) (fun v5 S5 => ?_)
        exact mw0_leansOnWaiting_b59 n (f0_leansOnWaiting_l3 n k) ih x1 x2 x4 v5 S5
theorem w0_leansOnWaiting_l3 (hsf : sfOk (SF tk)) (X : hX p s m args meth c cX0_leansOnWaiting 7 RX0 (some .boolean) D (tyC cI) (SF tk) A) (n : Nat) : ∀ (k : Nat) (x1 : Int32) (x2 : Int64) (x4 : Int32) (S : CS), hG p l e (fun r => rmC 2 45 (cS r.2 - cS S0) (sS r.2 - sS S0)) s m args below meth c 7 (ZW D (wC cI q) A s.heap S0 S) (cS S - cS S0) (sS S - sS S0) (fun r => MQ below (QWi D (tyC cI) (wC cI q) A r) args s (cS r.2 - cS S0) (sS r.2 - sS S0) A) (fun r => le S r.2) 3 [(0, .ref (q 53)), (1, .int x1), (2, .long x2), (4, .int x4)] [] (f0_leansOnWaiting_l3 n k x1 x2 x4 S) := by
  intro k
  induction k with
  | zero =>
    intro x1 x2 x4 S
    exact h_none
  | succ k ih =>
    intro x1 x2 x4 S
    rw [f0_leansOnWaiting_l3]
    refine h_iload X dX0_leansOnWaiting_3 rfl ?_
    refine h_aload_n X dX0_leansOnWaiting_5 rfl rfl ?_
    refine c_g_IM_cells X fl0_16 dX0_leansOnWaiting_6 ?_
    refine h_iload_n X dX0_leansOnWaiting_9 rfl rfl ?_
    refine h_bipush (v := (nI 7)) X dX0_leansOnWaiting_10 (by decide) ?_
    refine kt2_get_5 hsf X tlX0_57 ⟨Nat.le_of_ble_eq_true rfl, Nat.le_of_ble_eq_true rfl⟩ (Nat.le_of_ble_eq_true rfl) dX0_leansOnWaiting_12 ?_
    intro v1 S1
    refine h_icmp_ge (tgt := 84) X dX0_leansOnWaiting_15 (by decide) ?_ ?_
    · refine h_iconst (v := (nI 0)) X dX0_leansOnWaiting_84 (by decide) ?_
      exact h_zret X dX0_leansOnWaiting_85
    · refine h_aload_n X dX0_leansOnWaiting_18 rfl rfl ?_
      refine h_aload_n X dX0_leansOnWaiting_19 rfl rfl ?_
      refine c_g_IM_editions X fl0_20 dX0_leansOnWaiting_20 ?_
      refine h_aload_n X dX0_leansOnWaiting_23 rfl rfl ?_
      refine h_iload_n X dX0_leansOnWaiting_24 rfl rfl ?_
      refine h_iload X dX0_leansOnWaiting_25 rfl ?_
      refine k0_leanOf hsf X tlX0_120 ⟨Nat.le_of_ble_eq_true rfl, Nat.le_of_ble_eq_true rfl⟩ (Nat.le_of_ble_eq_true rfl) dX0_leansOnWaiting_27 ?_
      intro v2 S2
      refine h_iconst (v := (nI 0)) X dX0_leansOnWaiting_30 (by decide) ?_
      refine kt2_get_6 hsf X tlX0_57 ⟨Nat.le_of_ble_eq_true rfl, Nat.le_of_ble_eq_true rfl⟩ (Nat.le_of_ble_eq_true rfl) dX0_leansOnWaiting_31 ?_
      intro v3 S3
      refine k0_newestOf hsf X tlX0_50 ⟨Nat.le_of_ble_eq_true rfl, Nat.le_of_ble_eq_true rfl⟩ (Nat.le_of_ble_eq_true rfl) dX0_leansOnWaiting_34 ?_
      intro v4 S4
      refine h_istore (lv' := [(5, .int v4), (0, .ref (q 53)), (1, .int x1), (2, .long x2), (4, .int x4)]) X dX0_leansOnWaiting_37 (by decide) rfl ?_
      refine h_iload X dX0_leansOnWaiting_39 rfl ?_
      refine h_iconst (v := (-1 : Int32)) X dX0_leansOnWaiting_41 (by decide) ?_
      refine h_icmp_ne (tgt := 49) X dX0_leansOnWaiting_42 (by decide) ?_ ?_
      · refine h_aload_n X dX0_leansOnWaiting_49 rfl rfl ?_
        refine c_g_IM_editions X fl0_20 dX0_leansOnWaiting_50 ?_
        refine h_iload X dX0_leansOnWaiting_53 rfl ?_
        refine h_iconst (v := (nI 1)) X dX0_leansOnWaiting_55 (by decide) ?_
        refine kt2_get_6 hsf X tlX0_57 ⟨Nat.le_of_ble_eq_true rfl, Nat.le_of_ble_eq_true rfl⟩ (Nat.le_of_ble_eq_true rfl) dX0_leansOnWaiting_56 ?_
        intro v5 S5
        exact h_pick [1, 2, 3, 4] rfl (w0_leansOnWaiting_b59 hsf X n (f0_leansOnWaiting_l3 n k) ih x1 x2 x4 v5 S5)
      · refine h_iconst (v := (-1 : Int32)) X dX0_leansOnWaiting_45 (by decide) ?_
        refine h_goto (tgt := 59) X dX0_leansOnWaiting_46 (by decide) ?_
        exact h_pick [1, 2, 3, 4] rfl (w0_leansOnWaiting_b59 hsf X n (f0_leansOnWaiting_l3 n k) ih x1 x2 x4 (-1 : Int32) S4)
def f0_leansOnWaiting (n : Nat) (x1 : Int32) (x2 : Int64) (S : CS) : Option (Int32 × CS) :=
    f0_leansOnWaiting_l3 n n x1 x2 (nI 0) S
theorem w0_leansOnWaiting (hsf : sfOk (SF tk)) (X : hX p s m args meth c cX0_leansOnWaiting 7 RX0 (some .boolean) D (tyC cI) (SF tk) A) {S0 : CS} (n : Nat) (x1 : Int32) (x2 : Int64) (S : CS) : hG p l e (fun r => rmC 2 45 (cS r.2 - cS S0) (sS r.2 - sS S0)) s m args below meth c 7 (ZW D (wC cI q) A s.heap S0 S) (cS S - cS S0) (sS S - sS S0) (fun r => MQ below (QWi D (tyC cI) (wC cI q) A r) args s (cS r.2 - cS S0) (sS r.2 - sS S0) A) (fun r => le S r.2) 0 [(0, .ref (q 53)), (1, .int x1), (2, .long x2)] [] (f0_leansOnWaiting n x1 x2 S) := by
    unfold f0_leansOnWaiting
    refine h_iconst (v := (nI 0)) X dX0_leansOnWaiting_0 (by decide) ?_
    refine h_istore (lv' := [(4, .int (nI 0)), (0, .ref (q 53)), (1, .int x1), (2, .long x2)]) X dX0_leansOnWaiting_1 (by decide) rfl ?_
    exact h_pick [1, 2, 3, 0] rfl (w0_leansOnWaiting_l3 hsf X n n x1 x2 (nI 0) S)
theorem mo0_leansOnWaiting (n : Nat) (x1 : Int32) (x2 : Int64) (S : CS) : mo S (f0_leansOnWaiting n x1 x2 S) := by
    unfold f0_leansOnWaiting
    exact mw0_leansOnWaiting_l3 n n x1 x2 (nI 0) S
theorem c0_leansOnWaiting (hsf : sfOk (SF tk)) (l : Launch) (D : va_G) (cI : ClassId) (q : Nat → Nat) (n : Nat) (x1 : Int32) (x2 : Int64) (S : CS) : MetW l D (tyC cI) (SF tk) (wC cI q) yX0_leansOnWaiting cX0_leansOnWaiting 7 (some .boolean) 2 45 QWi [.ref (q 53), .int x1, .long x2] S (f0_leansOnWaiting n x1 x2 S) := by
  refine MetW.of (own := RX0) (by decide) rfl (Nat.le_of_ble_eq_true rfl) (mo0_leansOnWaiting n x1 x2 S) ?_
  intro x p e s m args below meth c X
  refine h_pick (lv' := [(0, .ref (q 53)), (1, .int x1), (2, .long x2)]) [0, 1, 2] rfl ?_
  exact h_close (w0_leansOnWaiting hsf X n x1 x2 S)
theorem tc0_leansOnWaiting : Cond.code yX0_leansOnWaiting cX0_leansOnWaiting 7 (some .boolean) ∈ tt := tt_in (List.mem_of_getElem? (i := 652) (by decide +kernel)) (by decide +kernel)
theorem ti0_leansOnWaiting : Cond.instanceMethod yX0_leansOnWaiting ∈ tt := tt_in (List.mem_of_getElem? (i := 651) (by decide +kernel)) (by decide +kernel)
theorem te0_leansOnWaiting : Cond.selects RX0 yX0_leansOnWaiting yX0_leansOnWaiting ∈ tt := tt_in (List.mem_of_getElem? (i := 37) (by decide +kernel)) (by decide +kernel)
theorem k0_leansOnWaiting (hsf : sfOk (SF tk)) (X : hX p s m args meth c cc nL own rt D (tyC cI) (SF tk) A) {n : Nat} {x1 : Int32} {x2 : Int64} {ix : Nat} (hlk : Cond.methodLink own ix yX0_leansOnWaiting ∈ tt) {rest : List Value} {K : Int32 → CS → Option (ρ × CS)} (hR : 2 + 1 ≤ fr ∧ 8 + (7 + 11) + 45 ≤ lo) (hcat : (rest.map fun v => v.category).sum ≤ 8) (d : decode cc pc = .ok (.invokevirtual ix, 3)) (kk : ∀ v S1, hG p l e (fun r => rmC fr lo (cS r.2 - cS S0) (sS r.2 - sS S0)) s m args below meth c nL (ZW D (wC cI q) A s.heap S0 S1) (cS S1 - cS S0) (sS S1 - sS S0) QQ (fun r => le S1 r.2) (pc + 3) lv (.int v :: rest) (K v S1)) : hG p l e (fun r => rmC fr lo (cS r.2 - cS S0) (sS r.2 - sS S0)) s m args below meth c nL (ZW D (wC cI q) A s.heap S0 S) (cS S - cS S0) (sS S - sS S0) QQ (fun r => le S r.2) pc lv (.long x2 :: .int x1 :: .ref (q 53) :: rest) (bnd (f0_leansOnWaiting n x1 x2 S) K) := h_callVi (As := [.int x1, .long x2]) (b := q 53) (C := RX0) hsf X (c0_leansOnWaiting hsf l D cI q n x1 x2 S) (cwVC (k := 2) X.1.2.2.2.2.1 hlk ti0_leansOnWaiting te0_leansOnWaiting tc0_leansOnWaiting ini_0 (by decide +kernel) hR) (fun x H h1 h2 => va_recv h1 h2 (ci := 0) (q0 := 9) rfl rfl) rfl rfl hcat d kk
end CM
