theorem dX5_cellAt_0 : decode cX5_cellAt 0 = .ok (.bipush 20, 2) := by decide +kernel
theorem dX5_cellAt_2 : decode cX5_cellAt 2 = .ok (.sipush 180, 3) := by decide +kernel
theorem dX5_cellAt_5 : decode cX5_cellAt 5 = .ok (.iload_n 0, 1) := by decide +kernel
theorem dX5_cellAt_6 : decode cX5_cellAt 6 = .ok (.imul, 1) := by decide +kernel
theorem dX5_cellAt_7 : decode cX5_cellAt 7 = .ok (.iadd, 1) := by decide +kernel
theorem dX5_cellAt_8 : decode cX5_cellAt 8 = .ok (.ireturn, 1) := by decide +kernel
theorem dX5_editAt_0 : decode cX5_editAt 0 = .ok (.sipush 7220, 3) := by decide +kernel
theorem dX5_editAt_3 : decode cX5_editAt 3 = .ok (.bipush 70, 2) := by decide +kernel
theorem dX5_editAt_5 : decode cX5_editAt 5 = .ok (.iload_n 0, 1) := by decide +kernel
theorem dX5_editAt_6 : decode cX5_editAt 6 = .ok (.imul, 1) := by decide +kernel
theorem dX5_editAt_7 : decode cX5_editAt 7 = .ok (.iadd, 1) := by decide +kernel
theorem dX5_editAt_8 : decode cX5_editAt 8 = .ok (.ireturn, 1) := by decide +kernel
theorem dX5_objAt_0 : decode cX5_objAt 0 = .ok (.sipush 17720, 3) := by decide +kernel
theorem dX5_objAt_3 : decode cX5_objAt 3 = .ok (.bipush 21, 2) := by decide +kernel
theorem dX5_objAt_5 : decode cX5_objAt 5 = .ok (.iload_n 0, 1) := by decide +kernel
theorem dX5_objAt_6 : decode cX5_objAt 6 = .ok (.imul, 1) := by decide +kernel
theorem dX5_objAt_7 : decode cX5_objAt 7 = .ok (.iadd, 1) := by decide +kernel
theorem dX5_objAt_8 : decode cX5_objAt 8 = .ok (.ireturn, 1) := by decide +kernel
theorem dX5_isCell_0 : decode cX5_isCell 0 = .ok (.iload_n 1, 1) := by decide +kernel
theorem dX5_isCell_1 : decode cX5_isCell 1 = .ok (.ifCond .lt 17, 3) := by decide +kernel
theorem dX5_isCell_4 : decode cX5_isCell 4 = .ok (.iload_n 1, 1) := by decide +kernel
theorem dX5_isCell_5 : decode cX5_isCell 5 = .ok (.aload_n 0, 1) := by decide +kernel
theorem dX5_isCell_6 : decode cX5_isCell 6 = .ok (.getfield 8, 3) := by decide +kernel
theorem dX5_isCell_9 : decode cX5_isCell 9 = .ok (.iconst 0, 1) := by decide +kernel
theorem dX5_isCell_10 : decode cX5_isCell 10 = .ok (.iaload, 1) := by decide +kernel
theorem dX5_isCell_11 : decode cX5_isCell 11 = .ok (.if_icmp .ge 7, 3) := by decide +kernel
theorem dX5_isCell_14 : decode cX5_isCell 14 = .ok (.iconst 1, 1) := by decide +kernel
theorem dX5_isCell_15 : decode cX5_isCell 15 = .ok (.goto 4, 3) := by decide +kernel
theorem dX5_isCell_18 : decode cX5_isCell 18 = .ok (.iconst 0, 1) := by decide +kernel
theorem dX5_isCell_19 : decode cX5_isCell 19 = .ok (.ireturn, 1) := by decide +kernel
theorem dX5_isEdition_0 : decode cX5_isEdition 0 = .ok (.iload_n 1, 1) := by decide +kernel
theorem dX5_isEdition_1 : decode cX5_isEdition 1 = .ok (.ifCond .lt 17, 3) := by decide +kernel
theorem dX5_isEdition_4 : decode cX5_isEdition 4 = .ok (.iload_n 1, 1) := by decide +kernel
theorem dX5_isEdition_5 : decode cX5_isEdition 5 = .ok (.aload_n 0, 1) := by decide +kernel
theorem dX5_isEdition_6 : decode cX5_isEdition 6 = .ok (.getfield 8, 3) := by decide +kernel
theorem dX5_isEdition_9 : decode cX5_isEdition 9 = .ok (.iconst 1, 1) := by decide +kernel
theorem dX5_isEdition_10 : decode cX5_isEdition 10 = .ok (.iaload, 1) := by decide +kernel
theorem dX5_isEdition_11 : decode cX5_isEdition 11 = .ok (.if_icmp .ge 7, 3) := by decide +kernel
theorem dX5_isEdition_14 : decode cX5_isEdition 14 = .ok (.iconst 1, 1) := by decide +kernel
theorem dX5_isEdition_15 : decode cX5_isEdition 15 = .ok (.goto 4, 3) := by decide +kernel
theorem dX5_isEdition_18 : decode cX5_isEdition 18 = .ok (.iconst 0, 1) := by decide +kernel
theorem dX5_isEdition_19 : decode cX5_isEdition 19 = .ok (.ireturn, 1) := by decide +kernel
theorem dX5_isObject_0 : decode cX5_isObject 0 = .ok (.iload_n 1, 1) := by decide +kernel
theorem dX5_isObject_1 : decode cX5_isObject 1 = .ok (.ifCond .lt 17, 3) := by decide +kernel
theorem dX5_isObject_4 : decode cX5_isObject 4 = .ok (.iload_n 1, 1) := by decide +kernel
theorem dX5_isObject_5 : decode cX5_isObject 5 = .ok (.aload_n 0, 1) := by decide +kernel
theorem dX5_isObject_6 : decode cX5_isObject 6 = .ok (.getfield 8, 3) := by decide +kernel
theorem dX5_isObject_9 : decode cX5_isObject 9 = .ok (.iconst 2, 1) := by decide +kernel
theorem dX5_isObject_10 : decode cX5_isObject 10 = .ok (.iaload, 1) := by decide +kernel
theorem dX5_isObject_11 : decode cX5_isObject 11 = .ok (.if_icmp .ge 7, 3) := by decide +kernel
theorem dX5_isObject_14 : decode cX5_isObject 14 = .ok (.iconst 1, 1) := by decide +kernel
theorem dX5_isObject_15 : decode cX5_isObject 15 = .ok (.goto 4, 3) := by decide +kernel
theorem dX5_isObject_18 : decode cX5_isObject 18 = .ok (.iconst 0, 1) := by decide +kernel
theorem dX5_isObject_19 : decode cX5_isObject 19 = .ok (.ireturn, 1) := by decide +kernel
theorem dX5_isName_0 : decode cX5_isName 0 = .ok (.iload_n 0, 1) := by decide +kernel
theorem dX5_isName_1 : decode cX5_isName 1 = .ok (.ifCond .lt 13, 3) := by decide +kernel
theorem dX5_isName_4 : decode cX5_isName 4 = .ok (.iload_n 0, 1) := by decide +kernel
theorem dX5_isName_5 : decode cX5_isName 5 = .ok (.bipush 16, 2) := by decide +kernel
theorem dX5_isName_7 : decode cX5_isName 7 = .ok (.if_icmp .ge 7, 3) := by decide +kernel
theorem dX5_isName_10 : decode cX5_isName 10 = .ok (.iconst 1, 1) := by decide +kernel
theorem dX5_isName_11 : decode cX5_isName 11 = .ok (.goto 4, 3) := by decide +kernel
theorem dX5_isName_14 : decode cX5_isName 14 = .ok (.iconst 0, 1) := by decide +kernel
theorem dX5_isName_15 : decode cX5_isName 15 = .ok (.ireturn, 1) := by decide +kernel
theorem dX5_isClass_0 : decode cX5_isClass 0 = .ok (.aload_n 0, 1) := by decide +kernel
theorem dX5_isClass_1 : decode cX5_isClass 1 = .ok (.iload_n 1, 1) := by decide +kernel
theorem dX5_isClass_2 : decode cX5_isClass 2 = .ok (.invokevirtual 69, 3) := by decide +kernel
theorem dX5_isClass_5 : decode cX5_isClass 5 = .ok (.ifCond .eq 22, 3) := by decide +kernel
theorem dX5_isClass_8 : decode cX5_isClass 8 = .ok (.aload_n 0, 1) := by decide +kernel
theorem dX5_isClass_9 : decode cX5_isClass 9 = .ok (.getfield 8, 3) := by decide +kernel
theorem dX5_isClass_12 : decode cX5_isClass 12 = .ok (.iload_n 1, 1) := by decide +kernel
theorem dX5_isClass_13 : decode cX5_isClass 13 = .ok (.invokestatic 73, 3) := by decide +kernel
theorem dX5_isClass_16 : decode cX5_isClass 16 = .ok (.iconst 1, 1) := by decide +kernel
theorem dX5_isClass_17 : decode cX5_isClass 17 = .ok (.iadd, 1) := by decide +kernel
theorem dX5_isClass_18 : decode cX5_isClass 18 = .ok (.iaload, 1) := by decide +kernel
theorem dX5_isClass_19 : decode cX5_isClass 19 = .ok (.iconst 1, 1) := by decide +kernel
theorem dX5_isClass_20 : decode cX5_isClass 20 = .ok (.if_icmp .ne 7, 3) := by decide +kernel
theorem dX5_isClass_23 : decode cX5_isClass 23 = .ok (.iconst 1, 1) := by decide +kernel
theorem dX5_isClass_24 : decode cX5_isClass 24 = .ok (.goto 4, 3) := by decide +kernel
theorem dX5_isClass_27 : decode cX5_isClass 27 = .ok (.iconst 0, 1) := by decide +kernel
theorem dX5_isClass_28 : decode cX5_isClass 28 = .ok (.ireturn, 1) := by decide +kernel
theorem dX5_newest_0 : decode cX5_newest 0 = .ok (.iload_n 1, 1) := by decide +kernel
theorem dX5_newest_1 : decode cX5_newest 1 = .ok (.invokestatic 77, 3) := by decide +kernel
theorem dX5_newest_4 : decode cX5_newest 4 = .ok (.ifCond .eq 16, 3) := by decide +kernel
theorem dX5_newest_7 : decode cX5_newest 7 = .ok (.aload_n 0, 1) := by decide +kernel
theorem dX5_newest_8 : decode cX5_newest 8 = .ok (.getfield 8, 3) := by decide +kernel
theorem dX5_newest_11 : decode cX5_newest 11 = .ok (.iconst 4, 1) := by decide +kernel
theorem dX5_newest_12 : decode cX5_newest 12 = .ok (.iload_n 1, 1) := by decide +kernel
theorem dX5_newest_13 : decode cX5_newest 13 = .ok (.iadd, 1) := by decide +kernel
theorem dX5_newest_14 : decode cX5_newest 14 = .ok (.iaload, 1) := by decide +kernel
theorem dX5_newest_15 : decode cX5_newest 15 = .ok (.iconst 1, 1) := by decide +kernel
theorem dX5_newest_16 : decode cX5_newest 16 = .ok (.isub, 1) := by decide +kernel
theorem dX5_newest_17 : decode cX5_newest 17 = .ok (.goto 4, 3) := by decide +kernel
theorem dX5_newest_20 : decode cX5_newest 20 = .ok (.iconst (-1), 1) := by decide +kernel
theorem dX5_newest_21 : decode cX5_newest 21 = .ok (.ireturn, 1) := by decide +kernel
theorem dX5_put_0 : decode cX5_put 0 = .ok (.iload_n 1, 1) := by decide +kernel
theorem dX5_put_1 : decode cX5_put 1 = .ok (.iconst 1, 1) := by decide +kernel
theorem dX5_put_2 : decode cX5_put 2 = .ok (.if_icmp .lt 8, 3) := by decide +kernel
theorem dX5_put_5 : decode cX5_put 5 = .ok (.iload_n 1, 1) := by decide +kernel
theorem dX5_put_6 : decode cX5_put 6 = .ok (.iconst 4, 1) := by decide +kernel
theorem dX5_put_7 : decode cX5_put 7 = .ok (.if_icmp .le 5, 3) := by decide +kernel
theorem dX5_put_10 : decode cX5_put 10 = .ok (.iconst (-1), 1) := by decide +kernel
theorem dX5_put_11 : decode cX5_put 11 = .ok (.ireturn, 1) := by decide +kernel
theorem dX5_put_12 : decode cX5_put 12 = .ok (.aload_n 0, 1) := by decide +kernel
theorem dX5_put_13 : decode cX5_put 13 = .ok (.getfield 80, 3) := by decide +kernel
theorem dX5_put_16 : decode cX5_put 16 = .ok (.iload_n 1, 1) := by decide +kernel
theorem dX5_put_17 : decode cX5_put 17 = .ok (.iadd, 1) := by decide +kernel
theorem dX5_put_18 : decode cX5_put 18 = .ok (.bipush 60, 2) := by decide +kernel
theorem dX5_put_20 : decode cX5_put 20 = .ok (.if_icmp .le 6, 3) := by decide +kernel
theorem dX5_put_23 : decode cX5_put 23 = .ok (.bipush (-2), 2) := by decide +kernel
theorem dX5_put_25 : decode cX5_put 25 = .ok (.ireturn, 1) := by decide +kernel
theorem dX5_put_26 : decode cX5_put 26 = .ok (.iconst 0, 1) := by decide +kernel
theorem dX5_put_27 : decode cX5_put 27 = .ok (.istore 6, 2) := by decide +kernel
theorem dX5_put_29 : decode cX5_put 29 = .ok (.iload 6, 2) := by decide +kernel
theorem dX5_put_31 : decode cX5_put 31 = .ok (.iload_n 1, 1) := by decide +kernel
theorem dX5_put_32 : decode cX5_put 32 = .ok (.if_icmp .ge 60, 3) := by decide +kernel
theorem dX5_put_35 : decode cX5_put 35 = .ok (.aload_n 0, 1) := by decide +kernel
theorem dX5_put_36 : decode cX5_put 36 = .ok (.getfield 18, 3) := by decide +kernel
theorem dX5_put_39 : decode cX5_put 39 = .ok (.aload_n 0, 1) := by decide +kernel
theorem dX5_put_40 : decode cX5_put 40 = .ok (.getfield 80, 3) := by decide +kernel
theorem dX5_put_43 : decode cX5_put 43 = .ok (.iload 6, 2) := by decide +kernel
theorem dX5_put_45 : decode cX5_put 45 = .ok (.ifCond .ne 7, 3) := by decide +kernel
theorem dX5_put_48 : decode cX5_put 48 = .ok (.iload_n 2, 1) := by decide +kernel
theorem dX5_put_49 : decode cX5_put 49 = .ok (.goto 26, 3) := by decide +kernel
theorem dX5_put_52 : decode cX5_put 52 = .ok (.iload 6, 2) := by decide +kernel
theorem dX5_put_54 : decode cX5_put 54 = .ok (.iconst 1, 1) := by decide +kernel
theorem dX5_put_55 : decode cX5_put 55 = .ok (.if_icmp .ne 7, 3) := by decide +kernel
theorem dX5_put_58 : decode cX5_put 58 = .ok (.iload_n 3, 1) := by decide +kernel
theorem dX5_put_59 : decode cX5_put 59 = .ok (.goto 16, 3) := by decide +kernel
theorem dX5_put_62 : decode cX5_put 62 = .ok (.iload 6, 2) := by decide +kernel
theorem dX5_put_64 : decode cX5_put 64 = .ok (.iconst 2, 1) := by decide +kernel
theorem dX5_put_65 : decode cX5_put 65 = .ok (.if_icmp .ne 8, 3) := by decide +kernel
theorem dX5_put_68 : decode cX5_put 68 = .ok (.iload 4, 2) := by decide +kernel
theorem dX5_put_70 : decode cX5_put 70 = .ok (.goto 5, 3) := by decide +kernel
theorem dX5_put_73 : decode cX5_put 73 = .ok (.iload 5, 2) := by decide +kernel
theorem dX5_put_75 : decode cX5_put 75 = .ok (.iastore, 1) := by decide +kernel
theorem dX5_put_76 : decode cX5_put 76 = .ok (.aload_n 0, 1) := by decide +kernel
theorem dX5_put_77 : decode cX5_put 77 = .ok (.dup, 1) := by decide +kernel
theorem dX5_put_78 : decode cX5_put 78 = .ok (.getfield 80, 3) := by decide +kernel
theorem dX5_put_81 : decode cX5_put 81 = .ok (.iconst 1, 1) := by decide +kernel
theorem dX5_put_82 : decode cX5_put 82 = .ok (.iadd, 1) := by decide +kernel
theorem dX5_put_83 : decode cX5_put 83 = .ok (.putfield 80, 3) := by decide +kernel
theorem dX5_put_86 : decode cX5_put 86 = .ok (.iinc 6 1, 3) := by decide +kernel
theorem dX5_put_89 : decode cX5_put 89 = .ok (.goto (-60), 3) := by decide +kernel
theorem dX5_put_92 : decode cX5_put 92 = .ok (.aload_n 0, 1) := by decide +kernel
theorem dX5_put_93 : decode cX5_put 93 = .ok (.getfield 80, 3) := by decide +kernel
theorem dX5_put_96 : decode cX5_put 96 = .ok (.ireturn, 1) := by decide +kernel
theorem dX5_wipe_0 : decode cX5_wipe 0 = .ok (.aload_n 0, 1) := by decide +kernel
theorem dX5_wipe_1 : decode cX5_wipe 1 = .ok (.getfield 80, 3) := by decide +kernel
theorem dX5_wipe_4 : decode cX5_wipe 4 = .ok (.istore_n 1, 1) := by decide +kernel
theorem dX5_wipe_5 : decode cX5_wipe 5 = .ok (.aload_n 0, 1) := by decide +kernel
theorem dX5_wipe_6 : decode cX5_wipe 6 = .ok (.iconst 0, 1) := by decide +kernel
theorem dX5_wipe_7 : decode cX5_wipe 7 = .ok (.putfield 80, 3) := by decide +kernel
theorem dX5_wipe_10 : decode cX5_wipe 10 = .ok (.iload_n 1, 1) := by decide +kernel
theorem dX5_wipe_11 : decode cX5_wipe 11 = .ok (.ireturn, 1) := by decide +kernel
theorem dX5_wrong_0 : decode cX5_wrong 0 = .ok (.aload_n 0, 1) := by decide +kernel
theorem dX5_wrong_1 : decode cX5_wrong 1 = .ok (.aload_n 0, 1) := by decide +kernel
theorem dX5_wrong_2 : decode cX5_wrong 2 = .ok (.getfield 84, 3) := by decide +kernel
theorem dX5_wrong_5 : decode cX5_wrong 5 = .ok (.ifCond .ge 7, 3) := by decide +kernel
theorem dX5_wrong_8 : decode cX5_wrong 8 = .ok (.iload_n 1, 1) := by decide +kernel
theorem dX5_wrong_9 : decode cX5_wrong 9 = .ok (.goto 7, 3) := by decide +kernel
theorem dX5_wrong_12 : decode cX5_wrong 12 = .ok (.aload_n 0, 1) := by decide +kernel
theorem dX5_wrong_13 : decode cX5_wrong 13 = .ok (.getfield 84, 3) := by decide +kernel
theorem dX5_wrong_16 : decode cX5_wrong 16 = .ok (.putfield 84, 3) := by decide +kernel
theorem dX5_wrong_19 : decode cX5_wrong 19 = .ok (.return_, 1) := by decide +kernel
theorem dX5_take_0 : decode cX5_take 0 = .ok (.aload_n 0, 1) := by decide +kernel
theorem dX5_take_1 : decode cX5_take 1 = .ok (.getfield 87, 3) := by decide +kernel
theorem dX5_take_4 : decode cX5_take 4 = .ok (.aload_n 0, 1) := by decide +kernel
theorem dX5_take_5 : decode cX5_take 5 = .ok (.getfield 90, 3) := by decide +kernel
theorem dX5_take_8 : decode cX5_take 8 = .ok (.if_icmp .lt 13, 3) := by decide +kernel
theorem dX5_take_11 : decode cX5_take 11 = .ok (.aload_n 0, 1) := by decide +kernel
theorem dX5_take_12 : decode cX5_take 12 = .ok (.aload_n 0, 1) := by decide +kernel
theorem dX5_take_13 : decode cX5_take 13 = .ok (.getfield 90, 3) := by decide +kernel
theorem dX5_take_16 : decode cX5_take 16 = .ok (.invokevirtual 93, 3) := by decide +kernel
theorem dX5_take_19 : decode cX5_take 19 = .ok (.iconst 0, 1) := by decide +kernel
theorem dX5_take_20 : decode cX5_take 20 = .ok (.ireturn, 1) := by decide +kernel
theorem dX5_take_21 : decode cX5_take 21 = .ok (.aload_n 0, 1) := by decide +kernel
theorem dX5_take_22 : decode cX5_take 22 = .ok (.dup, 1) := by decide +kernel
theorem dX5_take_23 : decode cX5_take 23 = .ok (.getfield 87, 3) := by decide +kernel
theorem dX5_take_26 : decode cX5_take 26 = .ok (.iconst 1, 1) := by decide +kernel
theorem dX5_take_27 : decode cX5_take 27 = .ok (.iadd, 1) := by decide +kernel
theorem dX5_take_28 : decode cX5_take 28 = .ok (.putfield 87, 3) := by decide +kernel
theorem dX5_take_31 : decode cX5_take 31 = .ok (.aload_n 0, 1) := by decide +kernel
theorem dX5_take_32 : decode cX5_take 32 = .ok (.getfield 21, 3) := by decide +kernel
theorem dX5_take_35 : decode cX5_take 35 = .ok (.aload_n 0, 1) := by decide +kernel
theorem dX5_take_36 : decode cX5_take 36 = .ok (.getfield 87, 3) := by decide +kernel
theorem dX5_take_39 : decode cX5_take 39 = .ok (.iconst 1, 1) := by decide +kernel
theorem dX5_take_40 : decode cX5_take 40 = .ok (.isub, 1) := by decide +kernel
theorem dX5_take_41 : decode cX5_take 41 = .ok (.iaload, 1) := by decide +kernel
theorem dX5_take_42 : decode cX5_take 42 = .ok (.ireturn, 1) := by decide +kernel
theorem dX5_means_0 : decode cX5_means 0 = .ok (.aload_n 0, 1) := by decide +kernel
theorem dX5_means_1 : decode cX5_means 1 = .ok (.iload_n 2, 1) := by decide +kernel
theorem dX5_means_2 : decode cX5_means 2 = .ok (.invokevirtual 97, 3) := by decide +kernel
theorem dX5_means_5 : decode cX5_means 5 = .ok (.istore 4, 2) := by decide +kernel
theorem dX5_means_7 : decode cX5_means 7 = .ok (.iload 4, 2) := by decide +kernel
theorem dX5_means_9 : decode cX5_means 9 = .ok (.ifCond .lt 19, 3) := by decide +kernel
theorem dX5_means_12 : decode cX5_means 12 = .ok (.aload_n 0, 1) := by decide +kernel
theorem dX5_means_13 : decode cX5_means 13 = .ok (.getfield 8, 3) := by decide +kernel
theorem dX5_means_16 : decode cX5_means 16 = .ok (.iload 4, 2) := by decide +kernel
theorem dX5_means_18 : decode cX5_means 18 = .ok (.invokestatic 73, 3) := by decide +kernel
theorem dX5_means_21 : decode cX5_means 21 = .ok (.iconst 1, 1) := by decide +kernel
theorem dX5_means_22 : decode cX5_means 22 = .ok (.iadd, 1) := by decide +kernel
theorem dX5_means_23 : decode cX5_means 23 = .ok (.iaload, 1) := by decide +kernel
theorem dX5_means_24 : decode cX5_means 24 = .ok (.iload_n 3, 1) := by decide +kernel
theorem dX5_means_25 : decode cX5_means 25 = .ok (.if_icmp .eq 5, 3) := by decide +kernel
theorem dX5_means_28 : decode cX5_means 28 = .ok (.iconst 0, 1) := by decide +kernel
theorem dX5_means_29 : decode cX5_means 29 = .ok (.ireturn, 1) := by decide +kernel
theorem dX5_means_30 : decode cX5_means 30 = .ok (.aload_n 0, 1) := by decide +kernel
theorem dX5_means_31 : decode cX5_means 31 = .ok (.getfield 27, 3) := by decide +kernel
theorem dX5_means_34 : decode cX5_means 34 = .ok (.iload 4, 2) := by decide +kernel
theorem dX5_means_36 : decode cX5_means 36 = .ok (.iconst 1, 1) := by decide +kernel
theorem dX5_means_37 : decode cX5_means 37 = .ok (.bastore, 1) := by decide +kernel
theorem dX5_means_38 : decode cX5_means 38 = .ok (.aload_n 0, 1) := by decide +kernel
theorem dX5_means_39 : decode cX5_means 39 = .ok (.getfield 24, 3) := by decide +kernel
theorem dX5_means_42 : decode cX5_means 42 = .ok (.iload_n 1, 1) := by decide +kernel
theorem dX5_means_43 : decode cX5_means 43 = .ok (.iload 4, 2) := by decide +kernel
theorem dX5_means_45 : decode cX5_means 45 = .ok (.iastore, 1) := by decide +kernel
theorem dX5_means_46 : decode cX5_means 46 = .ok (.iconst 1, 1) := by decide +kernel
theorem dX5_means_47 : decode cX5_means 47 = .ok (.ireturn, 1) := by decide +kernel
theorem dX5_hasInt_0 : decode cX5_hasInt 0 = .ok (.iload_n 0, 1) := by decide +kernel
theorem dX5_hasInt_1 : decode cX5_hasInt 1 = .ok (.ifCond .lt 13, 3) := by decide +kernel
theorem dX5_hasInt_4 : decode cX5_hasInt 4 = .ok (.iload_n 0, 1) := by decide +kernel
theorem dX5_hasInt_5 : decode cX5_hasInt 5 = .ok (.bipush 7, 2) := by decide +kernel
theorem dX5_hasInt_7 : decode cX5_hasInt 7 = .ok (.if_icmp .gt 7, 3) := by decide +kernel
theorem dX5_hasInt_10 : decode cX5_hasInt 10 = .ok (.iconst 1, 1) := by decide +kernel
theorem dX5_hasInt_11 : decode cX5_hasInt 11 = .ok (.goto 4, 3) := by decide +kernel
theorem dX5_hasInt_14 : decode cX5_hasInt 14 = .ok (.iconst 0, 1) := by decide +kernel
theorem dX5_hasInt_15 : decode cX5_hasInt 15 = .ok (.ireturn, 1) := by decide +kernel
theorem dX5_takes_0 : decode cX5_takes 0 = .ok (.iload_n 0, 1) := by decide +kernel
theorem dX5_takes_1 : decode cX5_takes 1 = .ok (.iconst 2, 1) := by decide +kernel
theorem dX5_takes_2 : decode cX5_takes 2 = .ok (.if_icmp .le 15, 3) := by decide +kernel
theorem dX5_takes_5 : decode cX5_takes 5 = .ok (.iload_n 0, 1) := by decide +kernel
theorem dX5_takes_6 : decode cX5_takes 6 = .ok (.bipush 16, 2) := by decide +kernel
theorem dX5_takes_8 : decode cX5_takes 8 = .ok (.if_icmp .eq 9, 3) := by decide +kernel
theorem dX5_takes_11 : decode cX5_takes 11 = .ok (.iload_n 0, 1) := by decide +kernel
theorem dX5_takes_12 : decode cX5_takes 12 = .ok (.bipush 17, 2) := by decide +kernel
theorem dX5_takes_14 : decode cX5_takes 14 = .ok (.if_icmp .ne 7, 3) := by decide +kernel
theorem dX5_takes_17 : decode cX5_takes 17 = .ok (.iconst 0, 1) := by decide +kernel
theorem dX5_takes_18 : decode cX5_takes 18 = .ok (.goto 39, 3) := by decide +kernel
theorem dX5_takes_21 : decode cX5_takes 21 = .ok (.iload_n 0, 1) := by decide +kernel
theorem dX5_takes_22 : decode cX5_takes 22 = .ok (.iconst 3, 1) := by decide +kernel
theorem dX5_takes_23 : decode cX5_takes 23 = .ok (.if_icmp .eq 19, 3) := by decide +kernel
theorem dX5_takes_26 : decode cX5_takes 26 = .ok (.iload_n 0, 1) := by decide +kernel
theorem dX5_takes_27 : decode cX5_takes 27 = .ok (.iconst 4, 1) := by decide +kernel
theorem dX5_takes_28 : decode cX5_takes 28 = .ok (.if_icmp .eq 14, 3) := by decide +kernel
theorem dX5_takes_31 : decode cX5_takes 31 = .ok (.iload_n 0, 1) := by decide +kernel
theorem dX5_takes_32 : decode cX5_takes 32 = .ok (.iconst 5, 1) := by decide +kernel
theorem dX5_takes_33 : decode cX5_takes 33 = .ok (.if_icmp .eq 9, 3) := by decide +kernel
theorem dX5_takes_36 : decode cX5_takes 36 = .ok (.iload_n 0, 1) := by decide +kernel
theorem dX5_takes_37 : decode cX5_takes 37 = .ok (.bipush 15, 2) := by decide +kernel
theorem dX5_takes_39 : decode cX5_takes 39 = .ok (.if_icmp .ne 7, 3) := by decide +kernel
theorem dX5_takes_42 : decode cX5_takes 42 = .ok (.iconst 1, 1) := by decide +kernel
theorem dX5_takes_43 : decode cX5_takes 43 = .ok (.goto 14, 3) := by decide +kernel
theorem dX5_takes_46 : decode cX5_takes 46 = .ok (.iload_n 0, 1) := by decide +kernel
theorem dX5_takes_47 : decode cX5_takes 47 = .ok (.bipush 14, 2) := by decide +kernel
theorem dX5_takes_49 : decode cX5_takes 49 = .ok (.if_icmp .ne 7, 3) := by decide +kernel
theorem dX5_takes_52 : decode cX5_takes 52 = .ok (.iconst 3, 1) := by decide +kernel
theorem dX5_takes_53 : decode cX5_takes 53 = .ok (.goto 4, 3) := by decide +kernel
theorem dX5_takes_56 : decode cX5_takes 56 = .ok (.iconst 2, 1) := by decide +kernel
theorem dX5_takes_57 : decode cX5_takes 57 = .ok (.ireturn, 1) := by decide +kernel
theorem dX5_isActRight_0 : decode cX5_isActRight 0 = .ok (.aload_n 0, 1) := by decide +kernel
theorem dX5_isActRight_1 : decode cX5_isActRight 1 = .ok (.getfield 21, 3) := by decide +kernel
theorem dX5_isActRight_4 : decode cX5_isActRight 4 = .ok (.iload_n 1, 1) := by decide +kernel
theorem dX5_isActRight_5 : decode cX5_isActRight 5 = .ok (.iaload, 1) := by decide +kernel
theorem dX5_isActRight_6 : decode cX5_isActRight 6 = .ok (.istore 5, 2) := by decide +kernel
theorem dX5_isActRight_8 : decode cX5_isActRight 8 = .ok (.iload 5, 2) := by decide +kernel
theorem dX5_isActRight_10 : decode cX5_isActRight 10 = .ok (.ifCond .lt 53, 3) := by decide +kernel
theorem dX5_isActRight_13 : decode cX5_isActRight 13 = .ok (.iload 5, 2) := by decide +kernel
theorem dX5_isActRight_15 : decode cX5_isActRight 15 = .ok (.bipush 18, 2) := by decide +kernel
theorem dX5_isActRight_17 : decode cX5_isActRight 17 = .ok (.if_icmp .gt 46, 3) := by decide +kernel
theorem dX5_isActRight_20 : decode cX5_isActRight 20 = .ok (.iload 5, 2) := by decide +kernel
theorem dX5_isActRight_22 : decode cX5_isActRight 22 = .ok (.invokestatic 100, 3) := by decide +kernel
theorem dX5_isActRight_25 : decode cX5_isActRight 25 = .ok (.ifCond .eq 10, 3) := by decide +kernel
theorem dX5_isActRight_28 : decode cX5_isActRight 28 = .ok (.iload_n 1, 1) := by decide +kernel
theorem dX5_isActRight_29 : decode cX5_isActRight 29 = .ok (.iconst 1, 1) := by decide +kernel
theorem dX5_isActRight_30 : decode cX5_isActRight 30 = .ok (.iadd, 1) := by decide +kernel
theorem dX5_isActRight_31 : decode cX5_isActRight 31 = .ok (.iload_n 2, 1) := by decide +kernel
theorem dX5_isActRight_32 : decode cX5_isActRight 32 = .ok (.if_icmp .ge 31, 3) := by decide +kernel
theorem dX5_isActRight_35 : decode cX5_isActRight 35 = .ok (.iload 5, 2) := by decide +kernel
theorem dX5_isActRight_37 : decode cX5_isActRight 37 = .ok (.invokestatic 103, 3) := by decide +kernel
theorem dX5_isActRight_40 : decode cX5_isActRight 40 = .ok (.iload_n 3, 1) := by decide +kernel
theorem dX5_isActRight_41 : decode cX5_isActRight 41 = .ok (.if_icmp .gt 22, 3) := by decide +kernel
theorem dX5_isActRight_44 : decode cX5_isActRight 44 = .ok (.iload 5, 2) := by decide +kernel
theorem dX5_isActRight_46 : decode cX5_isActRight 46 = .ok (.bipush 16, 2) := by decide +kernel
theorem dX5_isActRight_48 : decode cX5_isActRight 48 = .ok (.if_icmp .eq 10, 3) := by decide +kernel
theorem dX5_isActRight_51 : decode cX5_isActRight 51 = .ok (.iload 5, 2) := by decide +kernel
theorem dX5_isActRight_53 : decode cX5_isActRight 53 = .ok (.bipush 17, 2) := by decide +kernel
theorem dX5_isActRight_55 : decode cX5_isActRight 55 = .ok (.if_icmp .ne 10, 3) := by decide +kernel
theorem dX5_isActRight_58 : decode cX5_isActRight 58 = .ok (.iload 4, 2) := by decide +kernel
theorem dX5_isActRight_60 : decode cX5_isActRight 60 = .ok (.ifCond .ne 5, 3) := by decide +kernel
theorem dX5_isActRight_63 : decode cX5_isActRight 63 = .ok (.iconst 0, 1) := by decide +kernel
theorem dX5_isActRight_64 : decode cX5_isActRight 64 = .ok (.ireturn, 1) := by decide +kernel
theorem dX5_isActRight_65 : decode cX5_isActRight 65 = .ok (.iload 5, 2) := by decide +kernel
theorem dX5_isActRight_67 : decode cX5_isActRight 67 = .ok (.invokestatic 100, 3) := by decide +kernel
theorem dX5_isActRight_70 : decode cX5_isActRight 70 = .ok (.ifCond .eq 14, 3) := by decide +kernel
theorem dX5_isActRight_73 : decode cX5_isActRight 73 = .ok (.aload_n 0, 1) := by decide +kernel
theorem dX5_isActRight_74 : decode cX5_isActRight 74 = .ok (.getfield 21, 3) := by decide +kernel
theorem dX5_isActRight_77 : decode cX5_isActRight 77 = .ok (.iload_n 1, 1) := by decide +kernel
theorem dX5_isActRight_78 : decode cX5_isActRight 78 = .ok (.iconst 1, 1) := by decide +kernel
theorem dX5_isActRight_79 : decode cX5_isActRight 79 = .ok (.iadd, 1) := by decide +kernel
theorem dX5_isActRight_80 : decode cX5_isActRight 80 = .ok (.iaload, 1) := by decide +kernel
theorem dX5_isActRight_81 : decode cX5_isActRight 81 = .ok (.goto 4, 3) := by decide +kernel
theorem dX5_isActRight_84 : decode cX5_isActRight 84 = .ok (.iconst 0, 1) := by decide +kernel
theorem dX5_isActRight_85 : decode cX5_isActRight 85 = .ok (.istore 6, 2) := by decide +kernel
theorem dX5_isActRight_87 : decode cX5_isActRight 87 = .ok (.iload 5, 2) := by decide +kernel
theorem dX5_isActRight_89 : decode cX5_isActRight 89 = .ok (.tableswitch 100 1 7 #[43, 54, 54, 54, 65, 65, 83], 43) := by decide +kernel
theorem dX5_isActRight_132 : decode cX5_isActRight 132 = .ok (.aload_n 0, 1) := by decide +kernel
theorem dX5_isActRight_133 : decode cX5_isActRight 133 = .ok (.iload_n 1, 1) := by decide +kernel
theorem dX5_isActRight_134 : decode cX5_isActRight 134 = .ok (.iconst 1, 1) := by decide +kernel
theorem dX5_isActRight_135 : decode cX5_isActRight 135 = .ok (.iadd, 1) := by decide +kernel
theorem dX5_isActRight_136 : decode cX5_isActRight 136 = .ok (.iload 6, 2) := by decide +kernel
theorem dX5_isActRight_138 : decode cX5_isActRight 138 = .ok (.iconst 0, 1) := by decide +kernel
theorem dX5_isActRight_139 : decode cX5_isActRight 139 = .ok (.invokevirtual 106, 3) := by decide +kernel
theorem dX5_isActRight_142 : decode cX5_isActRight 142 = .ok (.ireturn, 1) := by decide +kernel
theorem dX5_isActRight_143 : decode cX5_isActRight 143 = .ok (.aload_n 0, 1) := by decide +kernel
theorem dX5_isActRight_144 : decode cX5_isActRight 144 = .ok (.iload_n 1, 1) := by decide +kernel
theorem dX5_isActRight_145 : decode cX5_isActRight 145 = .ok (.iconst 1, 1) := by decide +kernel
theorem dX5_isActRight_146 : decode cX5_isActRight 146 = .ok (.iadd, 1) := by decide +kernel
theorem dX5_isActRight_147 : decode cX5_isActRight 147 = .ok (.iload 6, 2) := by decide +kernel
theorem dX5_isActRight_149 : decode cX5_isActRight 149 = .ok (.iconst 1, 1) := by decide +kernel
theorem dX5_isActRight_150 : decode cX5_isActRight 150 = .ok (.invokevirtual 106, 3) := by decide +kernel
theorem dX5_isActRight_153 : decode cX5_isActRight 153 = .ok (.ireturn, 1) := by decide +kernel
theorem dX5_isActRight_154 : decode cX5_isActRight 154 = .ok (.iload 6, 2) := by decide +kernel
theorem dX5_isActRight_156 : decode cX5_isActRight 156 = .ok (.ifCond .lt 14, 3) := by decide +kernel
theorem dX5_isActRight_159 : decode cX5_isActRight 159 = .ok (.iload 6, 2) := by decide +kernel
theorem dX5_isActRight_161 : decode cX5_isActRight 161 = .ok (.bipush 9, 2) := by decide +kernel
theorem dX5_isActRight_163 : decode cX5_isActRight 163 = .ok (.if_icmp .gt 7, 3) := by decide +kernel
theorem dX5_isActRight_166 : decode cX5_isActRight 166 = .ok (.iconst 1, 1) := by decide +kernel
theorem dX5_isActRight_167 : decode cX5_isActRight 167 = .ok (.goto 4, 3) := by decide +kernel
theorem dX5_isActRight_170 : decode cX5_isActRight 170 = .ok (.iconst 0, 1) := by decide +kernel
theorem dX5_isActRight_171 : decode cX5_isActRight 171 = .ok (.ireturn, 1) := by decide +kernel
theorem dX5_isActRight_172 : decode cX5_isActRight 172 = .ok (.iload 6, 2) := by decide +kernel
theorem dX5_isActRight_174 : decode cX5_isActRight 174 = .ok (.ifCond .lt 13, 3) := by decide +kernel
theorem dX5_isActRight_177 : decode cX5_isActRight 177 = .ok (.iload 6, 2) := by decide +kernel
theorem dX5_isActRight_179 : decode cX5_isActRight 179 = .ok (.iconst 4, 1) := by decide +kernel
theorem dX5_isActRight_180 : decode cX5_isActRight 180 = .ok (.if_icmp .gt 7, 3) := by decide +kernel
theorem dX5_isActRight_183 : decode cX5_isActRight 183 = .ok (.iconst 1, 1) := by decide +kernel
theorem dX5_isActRight_184 : decode cX5_isActRight 184 = .ok (.goto 4, 3) := by decide +kernel
theorem dX5_isActRight_187 : decode cX5_isActRight 187 = .ok (.iconst 0, 1) := by decide +kernel
theorem dX5_isActRight_188 : decode cX5_isActRight 188 = .ok (.ireturn, 1) := by decide +kernel
theorem dX5_isActRight_189 : decode cX5_isActRight 189 = .ok (.iconst 1, 1) := by decide +kernel
theorem dX5_isActRight_190 : decode cX5_isActRight 190 = .ok (.ireturn, 1) := by decide +kernel
theorem dX5_code_0 : decode cX5_code 0 = .ok (.iload_n 1, 1) := by decide +kernel
theorem dX5_code_1 : decode cX5_code 1 = .ok (.istore 4, 2) := by decide +kernel
theorem dX5_code_3 : decode cX5_code 3 = .ok (.iconst 0, 1) := by decide +kernel
theorem dX5_code_4 : decode cX5_code 4 = .ok (.istore 5, 2) := by decide +kernel
theorem dX5_code_6 : decode cX5_code 6 = .ok (.iload 4, 2) := by decide +kernel
theorem dX5_code_8 : decode cX5_code 8 = .ok (.iload_n 2, 1) := by decide +kernel
theorem dX5_code_9 : decode cX5_code 9 = .ok (.if_icmp .ge 75, 3) := by decide +kernel
theorem dX5_code_12 : decode cX5_code 12 = .ok (.aload_n 0, 1) := by decide +kernel
theorem dX5_code_13 : decode cX5_code 13 = .ok (.getfield 84, 3) := by decide +kernel
theorem dX5_code_16 : decode cX5_code 16 = .ok (.ifCond .ge 68, 3) := by decide +kernel
theorem dX5_code_19 : decode cX5_code 19 = .ok (.aload_n 0, 1) := by decide +kernel
theorem dX5_code_20 : decode cX5_code 20 = .ok (.iload 4, 2) := by decide +kernel
theorem dX5_code_22 : decode cX5_code 22 = .ok (.iload_n 2, 1) := by decide +kernel
theorem dX5_code_23 : decode cX5_code 23 = .ok (.iload 5, 2) := by decide +kernel
theorem dX5_code_25 : decode cX5_code 25 = .ok (.iload_n 3, 1) := by decide +kernel
theorem dX5_code_26 : decode cX5_code 26 = .ok (.invokevirtual 110, 3) := by decide +kernel
theorem dX5_code_29 : decode cX5_code 29 = .ok (.ifCond .eq 46, 3) := by decide +kernel
theorem dX5_code_32 : decode cX5_code 32 = .ok (.iload 5, 2) := by decide +kernel
theorem dX5_code_34 : decode cX5_code 34 = .ok (.iconst 1, 1) := by decide +kernel
theorem dX5_code_35 : decode cX5_code 35 = .ok (.aload_n 0, 1) := by decide +kernel
theorem dX5_code_36 : decode cX5_code 36 = .ok (.getfield 21, 3) := by decide +kernel
theorem dX5_code_39 : decode cX5_code 39 = .ok (.iload 4, 2) := by decide +kernel
theorem dX5_code_41 : decode cX5_code 41 = .ok (.iaload, 1) := by decide +kernel
theorem dX5_code_42 : decode cX5_code 42 = .ok (.invokestatic 103, 3) := by decide +kernel
theorem dX5_code_45 : decode cX5_code 45 = .ok (.isub, 1) := by decide +kernel
theorem dX5_code_46 : decode cX5_code 46 = .ok (.iadd, 1) := by decide +kernel
theorem dX5_code_47 : decode cX5_code 47 = .ok (.istore 5, 2) := by decide +kernel
theorem dX5_code_49 : decode cX5_code 49 = .ok (.iload 4, 2) := by decide +kernel
theorem dX5_code_51 : decode cX5_code 51 = .ok (.aload_n 0, 1) := by decide +kernel
theorem dX5_code_52 : decode cX5_code 52 = .ok (.getfield 21, 3) := by decide +kernel
theorem dX5_code_55 : decode cX5_code 55 = .ok (.iload 4, 2) := by decide +kernel
theorem dX5_code_57 : decode cX5_code 57 = .ok (.iaload, 1) := by decide +kernel
theorem dX5_code_58 : decode cX5_code 58 = .ok (.invokestatic 100, 3) := by decide +kernel
theorem dX5_code_61 : decode cX5_code 61 = .ok (.ifCond .eq 7, 3) := by decide +kernel
theorem dX5_code_64 : decode cX5_code 64 = .ok (.iconst 2, 1) := by decide +kernel
theorem dX5_code_65 : decode cX5_code 65 = .ok (.goto 4, 3) := by decide +kernel
theorem dX5_code_68 : decode cX5_code 68 = .ok (.iconst 1, 1) := by decide +kernel
theorem dX5_code_69 : decode cX5_code 69 = .ok (.iadd, 1) := by decide +kernel
theorem dX5_code_70 : decode cX5_code 70 = .ok (.istore 4, 2) := by decide +kernel
theorem dX5_code_72 : decode cX5_code 72 = .ok (.goto (-66), 3) := by decide +kernel
theorem dX5_code_75 : decode cX5_code 75 = .ok (.aload_n 0, 1) := by decide +kernel
theorem dX5_code_76 : decode cX5_code 76 = .ok (.iload 4, 2) := by decide +kernel
theorem dX5_code_78 : decode cX5_code 78 = .ok (.invokevirtual 93, 3) := by decide +kernel
theorem dX5_code_81 : decode cX5_code 81 = .ok (.goto (-75), 3) := by decide +kernel
theorem dX5_code_84 : decode cX5_code 84 = .ok (.aload_n 0, 1) := by decide +kernel
theorem dX5_code_85 : decode cX5_code 85 = .ok (.getfield 84, 3) := by decide +kernel
theorem dX5_code_88 : decode cX5_code 88 = .ok (.ifCond .ge 14, 3) := by decide +kernel
theorem dX5_code_91 : decode cX5_code 91 = .ok (.iload 5, 2) := by decide +kernel
theorem dX5_code_93 : decode cX5_code 93 = .ok (.iconst 1, 1) := by decide +kernel
theorem dX5_code_94 : decode cX5_code 94 = .ok (.if_icmp .eq 8, 3) := by decide +kernel
theorem dX5_code_97 : decode cX5_code 97 = .ok (.aload_n 0, 1) := by decide +kernel
theorem dX5_code_98 : decode cX5_code 98 = .ok (.iload_n 2, 1) := by decide +kernel
theorem dX5_code_99 : decode cX5_code 99 = .ok (.invokevirtual 93, 3) := by decide +kernel
theorem dX5_code_102 : decode cX5_code 102 = .ok (.return_, 1) := by decide +kernel
section RM
variable {ρ : Type} {p : Program} {l : Launch} {e : Env} {R : Room} {s : State} {m : MethodId} {args : Array Value} {below : List Frame} {meth : Method} {c : Code}
variable {cc : ByteArray} {nL : Nat} {rt : Option FieldType} {D : va_G} {cI cZ : ClassId} {q : Nat → Nat} {QQ : ρ → State → Prop} {pc : Nat} {lv : List (Nat × Value)}

-- cellAt
def fR_cellAt (n : Nat) (x0 : Int32) (M : MR) : Option (Int32 × MR) :=
    some (((nI 20) + ((nI 180) * x0)), M)
theorem c_cellAt (l : Launch) (D : va_G) (cI cZ : ClassId) (q : Nat → Nat) (n : Nat) (x0 : Int32) (M : MR) : MetR l D cI cZ q yX5_cellAt cX5_cellAt 1 (some .int) 0 0 QI [.int x0] M (fR_cellAt n x0 M) := by
  refine MetR.of (by decide) rfl (Nat.le_of_ble_eq_true rfl) ?_
  intro p e s m args below meth c X
  unfold fR_cellAt
  refine g_pick (lv' := [(0, .int x0)]) [0] rfl ?_
  refine g_bipush (v := (nI 20)) X dX5_cellAt_0 (by decide) ?_
  refine g_sipush (v := (nI 180)) X dX5_cellAt_2 (by decide) ?_
  refine g_iload_n X dX5_cellAt_5 rfl rfl ?_
  refine g_imul X dX5_cellAt_6 ?_
  refine g_iadd X dX5_cellAt_7 ?_
  exact r_iret X dX5_cellAt_8
theorem tc_cellAt : Cond.code yX5_cellAt cX5_cellAt 1 (some .int) ∈ tt := tt_in (List.mem_of_getElem? (i := 940) (by decide +kernel)) (by decide +kernel)
theorem tl_cellAt : Cond.methodLink RX5 230 yX5_cellAt ∈ tt := tt_in (List.mem_of_getElem? (i := 938) (by decide +kernel)) (by decide +kernel)
theorem ts_cellAt : Cond.static yX5_cellAt ∈ tt := tt_in (List.mem_of_getElem? (i := 939) (by decide +kernel)) (by decide +kernel)
theorem k_cellAt (X : gX p s m args meth c cc nL RX5 rt D (tyR cI cZ)) {n : Nat} {x0 : Int32} {M : MR} {rest : List Value} {K : Int32 → MR → Option ρ} (hR : 0 + 1 ≤ R.frames ∧ 8 + (1 + 11) + 0 ≤ R.locals) (hcat : (rest.map fun v => v.category).sum ≤ 8) (d : decode cc pc = .ok (.invokestatic 230, 3)) (kk : ∀ v M1, gG p l e R s m args below meth c nL (ZR D cI cZ q (AR q s.heap.size) s.heap M1) 0 0 QQ (pc + 3) lv (.int v :: rest) (K v M1)) : gG p l e R s m args below meth c nL (ZR D cI cZ q (AR q s.heap.size) s.heap M) 0 0 QQ pc lv (.int x0 :: rest) (bnd (fR_cellAt n x0 M) K) := r_callSi (As := [.int x0]) X (c_cellAt l D cI cZ q n x0 M) (cwSR (k := 1) X.2.2.2.2.1 tl_cellAt ts_cellAt tc_cellAt ini5 (by decide +kernel) hR) rfl rfl hcat d kk
-- editAt
def fR_editAt (n : Nat) (x0 : Int32) (M : MR) : Option (Int32 × MR) :=
    some (((nI 7220) + ((nI 70) * x0)), M)
theorem c_editAt (l : Launch) (D : va_G) (cI cZ : ClassId) (q : Nat → Nat) (n : Nat) (x0 : Int32) (M : MR) : MetR l D cI cZ q yX5_editAt cX5_editAt 1 (some .int) 0 0 QI [.int x0] M (fR_editAt n x0 M) := by
  refine MetR.of (by decide) rfl (Nat.le_of_ble_eq_true rfl) ?_
  intro p e s m args below meth c X
  unfold fR_editAt
  refine g_pick (lv' := [(0, .int x0)]) [0] rfl ?_
  refine g_sipush (v := (nI 7220)) X dX5_editAt_0 (by decide) ?_
  refine g_bipush (v := (nI 70)) X dX5_editAt_3 (by decide) ?_
  refine g_iload_n X dX5_editAt_5 rfl rfl ?_
  refine g_imul X dX5_editAt_6 ?_
  refine g_iadd X dX5_editAt_7 ?_
  exact r_iret X dX5_editAt_8
theorem tc_editAt : Cond.code yX5_editAt cX5_editAt 1 (some .int) ∈ tt := tt_in (List.mem_of_getElem? (i := 921) (by decide +kernel)) (by decide +kernel)
theorem tl_editAt : Cond.methodLink RX5 73 yX5_editAt ∈ tt := tt_in (List.mem_of_getElem? (i := 919) (by decide +kernel)) (by decide +kernel)
theorem ts_editAt : Cond.static yX5_editAt ∈ tt := tt_in (List.mem_of_getElem? (i := 920) (by decide +kernel)) (by decide +kernel)
theorem k_editAt (X : gX p s m args meth c cc nL RX5 rt D (tyR cI cZ)) {n : Nat} {x0 : Int32} {M : MR} {rest : List Value} {K : Int32 → MR → Option ρ} (hR : 0 + 1 ≤ R.frames ∧ 8 + (1 + 11) + 0 ≤ R.locals) (hcat : (rest.map fun v => v.category).sum ≤ 8) (d : decode cc pc = .ok (.invokestatic 73, 3)) (kk : ∀ v M1, gG p l e R s m args below meth c nL (ZR D cI cZ q (AR q s.heap.size) s.heap M1) 0 0 QQ (pc + 3) lv (.int v :: rest) (K v M1)) : gG p l e R s m args below meth c nL (ZR D cI cZ q (AR q s.heap.size) s.heap M) 0 0 QQ pc lv (.int x0 :: rest) (bnd (fR_editAt n x0 M) K) := r_callSi (As := [.int x0]) X (c_editAt l D cI cZ q n x0 M) (cwSR (k := 1) X.2.2.2.2.1 tl_editAt ts_editAt tc_editAt ini5 (by decide +kernel) hR) rfl rfl hcat d kk
-- objAt
def fR_objAt (n : Nat) (x0 : Int32) (M : MR) : Option (Int32 × MR) :=
    some (((nI 17720) + ((nI 21) * x0)), M)
theorem c_objAt (l : Launch) (D : va_G) (cI cZ : ClassId) (q : Nat → Nat) (n : Nat) (x0 : Int32) (M : MR) : MetR l D cI cZ q yX5_objAt cX5_objAt 1 (some .int) 0 0 QI [.int x0] M (fR_objAt n x0 M) := by
  refine MetR.of (by decide) rfl (Nat.le_of_ble_eq_true rfl) ?_
  intro p e s m args below meth c X
  unfold fR_objAt
  refine g_pick (lv' := [(0, .int x0)]) [0] rfl ?_
  refine g_sipush (v := (nI 17720)) X dX5_objAt_0 (by decide) ?_
  refine g_bipush (v := (nI 21)) X dX5_objAt_3 (by decide) ?_
  refine g_iload_n X dX5_objAt_5 rfl rfl ?_
  refine g_imul X dX5_objAt_6 ?_
  refine g_iadd X dX5_objAt_7 ?_
  exact r_iret X dX5_objAt_8
theorem tc_objAt : Cond.code yX5_objAt cX5_objAt 1 (some .int) ∈ tt := tt_in (List.mem_of_getElem? (i := 1011) (by decide +kernel)) (by decide +kernel)
theorem tl_objAt : Cond.methodLink RX5 141 yX5_objAt ∈ tt := tt_in (List.mem_of_getElem? (i := 1009) (by decide +kernel)) (by decide +kernel)
theorem ts_objAt : Cond.static yX5_objAt ∈ tt := tt_in (List.mem_of_getElem? (i := 1010) (by decide +kernel)) (by decide +kernel)
theorem k_objAt (X : gX p s m args meth c cc nL RX5 rt D (tyR cI cZ)) {n : Nat} {x0 : Int32} {M : MR} {rest : List Value} {K : Int32 → MR → Option ρ} (hR : 0 + 1 ≤ R.frames ∧ 8 + (1 + 11) + 0 ≤ R.locals) (hcat : (rest.map fun v => v.category).sum ≤ 8) (d : decode cc pc = .ok (.invokestatic 141, 3)) (kk : ∀ v M1, gG p l e R s m args below meth c nL (ZR D cI cZ q (AR q s.heap.size) s.heap M1) 0 0 QQ (pc + 3) lv (.int v :: rest) (K v M1)) : gG p l e R s m args below meth c nL (ZR D cI cZ q (AR q s.heap.size) s.heap M) 0 0 QQ pc lv (.int x0 :: rest) (bnd (fR_objAt n x0 M) K) := r_callSi (As := [.int x0]) X (c_objAt l D cI cZ q n x0 M) (cwSR (k := 1) X.2.2.2.2.1 tl_objAt ts_objAt tc_objAt ini5 (by decide +kernel) hR) rfl rfl hcat d kk
-- isCell
def fR_isCell (n : Nat) (x1 : Int32) (M : MR) : Option (Int32 × MR) :=
    if x1 < 0 then
      (zt (nI 0) (some ((nI 0), M)))
    else
      (rd M 0 62610 (nI 0) fun v1 =>
      if v1 ≤ x1 then (zt (nI 0) (some ((nI 0), M))) else (zt (nI 1) (some ((nI 1), M))))
theorem c_isCell (l : Launch) (D : va_G) (cI cZ : ClassId) (q : Nat → Nat) (n : Nat) (x1 : Int32) (M : MR) : MetR l D cI cZ q yX5_isCell cX5_isCell 2 (some .boolean) 0 0 QI [.ref (q 34), .int x1] M (fR_isCell n x1 M) := by
  refine MetR.of (by decide) rfl (Nat.le_of_ble_eq_true rfl) ?_
  intro p e s m args below meth c X
  unfold fR_isCell
  refine g_pick (lv' := [(0, .ref (q 34)), (1, .int x1)]) [0, 1] rfl ?_
  refine g_iload_n X dX5_isCell_0 rfl rfl ?_
  refine g_if_lt (tgt := 18) X dX5_isCell_1 (by decide) ?_ ?_
  · refine g_iconst (v := (nI 0)) X dX5_isCell_18 (by decide) ?_
    exact r_zret X dX5_isCell_19
  · refine g_iload_n X dX5_isCell_4 rfl rfl ?_
    refine g_aload_n X dX5_isCell_5 rfl rfl ?_
    refine r_g_m X dX5_isCell_6 ?_
    refine g_iconst (v := (nI 0)) X dX5_isCell_9 (by decide) ?_
    refine r_l_m X dX5_isCell_10 ?_
    intro v1
    refine g_icmp_ge (tgt := 18) X dX5_isCell_11 (by decide) ?_ ?_
    · refine g_iconst (v := (nI 0)) X dX5_isCell_18 (by decide) ?_
      exact r_zret X dX5_isCell_19
    · refine g_iconst (v := (nI 1)) X dX5_isCell_14 (by decide) ?_
      refine g_goto (tgt := 19) X dX5_isCell_15 (by decide) ?_
      exact r_zret X dX5_isCell_19
theorem tc_isCell : Cond.code yX5_isCell cX5_isCell 2 (some .boolean) ∈ tt := tt_in (List.mem_of_getElem? (i := 1063) (by decide +kernel)) (by decide +kernel)
theorem tl_isCell : Cond.methodLink RX5 251 yX5_isCell ∈ tt := tt_in (List.mem_of_getElem? (i := 1060) (by decide +kernel)) (by decide +kernel)
theorem ti_isCell : Cond.instanceMethod yX5_isCell ∈ tt := tt_in (List.mem_of_getElem? (i := 1062) (by decide +kernel)) (by decide +kernel)
theorem te_isCell : Cond.selects RX5 yX5_isCell yX5_isCell ∈ tt := tt_in (List.mem_of_getElem? (i := 75) (by decide +kernel)) (by decide +kernel)
theorem k_isCell (X : gX p s m args meth c cc nL RX5 rt D (tyR cI cZ)) {n : Nat} {x1 : Int32} {M : MR} {rest : List Value} {K : Int32 → MR → Option ρ} (hR : 0 + 1 ≤ R.frames ∧ 8 + (2 + 11) + 0 ≤ R.locals) (hcat : (rest.map fun v => v.category).sum ≤ 8) (d : decode cc pc = .ok (.invokevirtual 251, 3)) (kk : ∀ v M1, gG p l e R s m args below meth c nL (ZR D cI cZ q (AR q s.heap.size) s.heap M1) 0 0 QQ (pc + 3) lv (.int v :: rest) (K v M1)) : gG p l e R s m args below meth c nL (ZR D cI cZ q (AR q s.heap.size) s.heap M) 0 0 QQ pc lv (.int x1 :: .ref (q 34) :: rest) (bnd (fR_isCell n x1 M) K) := r_callVi (As := [.int x1]) X (c_isCell l D cI cZ q n x1 M) (cwVR (k := 1) X.2.2.2.2.1 tl_isCell ti_isCell te_isCell tc_isCell ini5 (by decide +kernel) hR) rfl rfl hcat d kk
-- isEdition
def fR_isEdition (n : Nat) (x1 : Int32) (M : MR) : Option (Int32 × MR) :=
    if x1 < 0 then
      (zt (nI 0) (some ((nI 0), M)))
    else
      (rd M 0 62610 (nI 1) fun v1 =>
      if v1 ≤ x1 then (zt (nI 0) (some ((nI 0), M))) else (zt (nI 1) (some ((nI 1), M))))
theorem c_isEdition (l : Launch) (D : va_G) (cI cZ : ClassId) (q : Nat → Nat) (n : Nat) (x1 : Int32) (M : MR) : MetR l D cI cZ q yX5_isEdition cX5_isEdition 2 (some .boolean) 0 0 QI [.ref (q 34), .int x1] M (fR_isEdition n x1 M) := by
  refine MetR.of (by decide) rfl (Nat.le_of_ble_eq_true rfl) ?_
  intro p e s m args below meth c X
  unfold fR_isEdition
  refine g_pick (lv' := [(0, .ref (q 34)), (1, .int x1)]) [0, 1] rfl ?_
  refine g_iload_n X dX5_isEdition_0 rfl rfl ?_
  refine g_if_lt (tgt := 18) X dX5_isEdition_1 (by decide) ?_ ?_
  · refine g_iconst (v := (nI 0)) X dX5_isEdition_18 (by decide) ?_
    exact r_zret X dX5_isEdition_19
  · refine g_iload_n X dX5_isEdition_4 rfl rfl ?_
    refine g_aload_n X dX5_isEdition_5 rfl rfl ?_
    refine r_g_m X dX5_isEdition_6 ?_
    refine g_iconst (v := (nI 1)) X dX5_isEdition_9 (by decide) ?_
    refine r_l_m X dX5_isEdition_10 ?_
    intro v1
    refine g_icmp_ge (tgt := 18) X dX5_isEdition_11 (by decide) ?_ ?_
    · refine g_iconst (v := (nI 0)) X dX5_isEdition_18 (by decide) ?_
      exact r_zret X dX5_isEdition_19
    · refine g_iconst (v := (nI 1)) X dX5_isEdition_14 (by decide) ?_
      refine g_goto (tgt := 19) X dX5_isEdition_15 (by decide) ?_
      exact r_zret X dX5_isEdition_19
theorem tc_isEdition : Cond.code yX5_isEdition cX5_isEdition 2 (some .boolean) ∈ tt := tt_in (List.mem_of_getElem? (i := 1115) (by decide +kernel)) (by decide +kernel)
theorem tl_isEdition : Cond.methodLink RX5 69 yX5_isEdition ∈ tt := tt_in (List.mem_of_getElem? (i := 1112) (by decide +kernel)) (by decide +kernel)
theorem ti_isEdition : Cond.instanceMethod yX5_isEdition ∈ tt := tt_in (List.mem_of_getElem? (i := 1114) (by decide +kernel)) (by decide +kernel)
theorem te_isEdition : Cond.selects RX5 yX5_isEdition yX5_isEdition ∈ tt := tt_in (List.mem_of_getElem? (i := 79) (by decide +kernel)) (by decide +kernel)
theorem k_isEdition (X : gX p s m args meth c cc nL RX5 rt D (tyR cI cZ)) {n : Nat} {x1 : Int32} {M : MR} {rest : List Value} {K : Int32 → MR → Option ρ} (hR : 0 + 1 ≤ R.frames ∧ 8 + (2 + 11) + 0 ≤ R.locals) (hcat : (rest.map fun v => v.category).sum ≤ 8) (d : decode cc pc = .ok (.invokevirtual 69, 3)) (kk : ∀ v M1, gG p l e R s m args below meth c nL (ZR D cI cZ q (AR q s.heap.size) s.heap M1) 0 0 QQ (pc + 3) lv (.int v :: rest) (K v M1)) : gG p l e R s m args below meth c nL (ZR D cI cZ q (AR q s.heap.size) s.heap M) 0 0 QQ pc lv (.int x1 :: .ref (q 34) :: rest) (bnd (fR_isEdition n x1 M) K) := r_callVi (As := [.int x1]) X (c_isEdition l D cI cZ q n x1 M) (cwVR (k := 1) X.2.2.2.2.1 tl_isEdition ti_isEdition te_isEdition tc_isEdition ini5 (by decide +kernel) hR) rfl rfl hcat d kk
-- isObject
def fR_isObject (n : Nat) (x1 : Int32) (M : MR) : Option (Int32 × MR) :=
    if x1 < 0 then
      (zt (nI 0) (some ((nI 0), M)))
    else
      (rd M 0 62610 (nI 2) fun v1 =>
      if v1 ≤ x1 then (zt (nI 0) (some ((nI 0), M))) else (zt (nI 1) (some ((nI 1), M))))
theorem c_isObject (l : Launch) (D : va_G) (cI cZ : ClassId) (q : Nat → Nat) (n : Nat) (x1 : Int32) (M : MR) : MetR l D cI cZ q yX5_isObject cX5_isObject 2 (some .boolean) 0 0 QI [.ref (q 34), .int x1] M (fR_isObject n x1 M) := by
  refine MetR.of (by decide) rfl (Nat.le_of_ble_eq_true rfl) ?_
  intro p e s m args below meth c X
  unfold fR_isObject
  refine g_pick (lv' := [(0, .ref (q 34)), (1, .int x1)]) [0, 1] rfl ?_
  refine g_iload_n X dX5_isObject_0 rfl rfl ?_
  refine g_if_lt (tgt := 18) X dX5_isObject_1 (by decide) ?_ ?_
  · refine g_iconst (v := (nI 0)) X dX5_isObject_18 (by decide) ?_
    exact r_zret X dX5_isObject_19
  · refine g_iload_n X dX5_isObject_4 rfl rfl ?_
    refine g_aload_n X dX5_isObject_5 rfl rfl ?_
    refine r_g_m X dX5_isObject_6 ?_
    refine g_iconst (v := (nI 2)) X dX5_isObject_9 (by decide) ?_
    refine r_l_m X dX5_isObject_10 ?_
    intro v1
    refine g_icmp_ge (tgt := 18) X dX5_isObject_11 (by decide) ?_ ?_
    · refine g_iconst (v := (nI 0)) X dX5_isObject_18 (by decide) ?_
      exact r_zret X dX5_isObject_19
    · refine g_iconst (v := (nI 1)) X dX5_isObject_14 (by decide) ?_
      refine g_goto (tgt := 19) X dX5_isObject_15 (by decide) ?_
      exact r_zret X dX5_isObject_19
theorem tc_isObject : Cond.code yX5_isObject cX5_isObject 2 (some .boolean) ∈ tt := tt_in (List.mem_of_getElem? (i := 1123) (by decide +kernel)) (by decide +kernel)
theorem tl_isObject : Cond.methodLink RX5 263 yX5_isObject ∈ tt := tt_in (List.mem_of_getElem? (i := 1120) (by decide +kernel)) (by decide +kernel)
theorem ti_isObject : Cond.instanceMethod yX5_isObject ∈ tt := tt_in (List.mem_of_getElem? (i := 1122) (by decide +kernel)) (by decide +kernel)
theorem te_isObject : Cond.selects RX5 yX5_isObject yX5_isObject ∈ tt := tt_in (List.mem_of_getElem? (i := 80) (by decide +kernel)) (by decide +kernel)
theorem k_isObject (X : gX p s m args meth c cc nL RX5 rt D (tyR cI cZ)) {n : Nat} {x1 : Int32} {M : MR} {rest : List Value} {K : Int32 → MR → Option ρ} (hR : 0 + 1 ≤ R.frames ∧ 8 + (2 + 11) + 0 ≤ R.locals) (hcat : (rest.map fun v => v.category).sum ≤ 8) (d : decode cc pc = .ok (.invokevirtual 263, 3)) (kk : ∀ v M1, gG p l e R s m args below meth c nL (ZR D cI cZ q (AR q s.heap.size) s.heap M1) 0 0 QQ (pc + 3) lv (.int v :: rest) (K v M1)) : gG p l e R s m args below meth c nL (ZR D cI cZ q (AR q s.heap.size) s.heap M) 0 0 QQ pc lv (.int x1 :: .ref (q 34) :: rest) (bnd (fR_isObject n x1 M) K) := r_callVi (As := [.int x1]) X (c_isObject l D cI cZ q n x1 M) (cwVR (k := 1) X.2.2.2.2.1 tl_isObject ti_isObject te_isObject tc_isObject ini5 (by decide +kernel) hR) rfl rfl hcat d kk
-- isName
def fR_isName (n : Nat) (x0 : Int32) (M : MR) : Option (Int32 × MR) :=
    if x0 < 0 then
      (zt (nI 0) (some ((nI 0), M)))
    else
      (if (nI 16) ≤ x0 then (zt (nI 0) (some ((nI 0), M))) else (zt (nI 1) (some ((nI 1), M))))
theorem c_isName (l : Launch) (D : va_G) (cI cZ : ClassId) (q : Nat → Nat) (n : Nat) (x0 : Int32) (M : MR) : MetR l D cI cZ q yX5_isName cX5_isName 1 (some .boolean) 0 0 QI [.int x0] M (fR_isName n x0 M) := by
  refine MetR.of (by decide) rfl (Nat.le_of_ble_eq_true rfl) ?_
  intro p e s m args below meth c X
  unfold fR_isName
  refine g_pick (lv' := [(0, .int x0)]) [0] rfl ?_
  refine g_iload_n X dX5_isName_0 rfl rfl ?_
  refine g_if_lt (tgt := 14) X dX5_isName_1 (by decide) ?_ ?_
  · refine g_iconst (v := (nI 0)) X dX5_isName_14 (by decide) ?_
    exact r_zret X dX5_isName_15
  · refine g_iload_n X dX5_isName_4 rfl rfl ?_
    refine g_bipush (v := (nI 16)) X dX5_isName_5 (by decide) ?_
    refine g_icmp_ge (tgt := 14) X dX5_isName_7 (by decide) ?_ ?_
    · refine g_iconst (v := (nI 0)) X dX5_isName_14 (by decide) ?_
      exact r_zret X dX5_isName_15
    · refine g_iconst (v := (nI 1)) X dX5_isName_10 (by decide) ?_
      refine g_goto (tgt := 15) X dX5_isName_11 (by decide) ?_
      exact r_zret X dX5_isName_15
theorem tc_isName : Cond.code yX5_isName cX5_isName 1 (some .boolean) ∈ tt := tt_in (List.mem_of_getElem? (i := 879) (by decide +kernel)) (by decide +kernel)
theorem tl_isName : Cond.methodLink RX5 77 yX5_isName ∈ tt := tt_in (List.mem_of_getElem? (i := 877) (by decide +kernel)) (by decide +kernel)
theorem ts_isName : Cond.static yX5_isName ∈ tt := tt_in (List.mem_of_getElem? (i := 878) (by decide +kernel)) (by decide +kernel)
theorem k_isName (X : gX p s m args meth c cc nL RX5 rt D (tyR cI cZ)) {n : Nat} {x0 : Int32} {M : MR} {rest : List Value} {K : Int32 → MR → Option ρ} (hR : 0 + 1 ≤ R.frames ∧ 8 + (1 + 11) + 0 ≤ R.locals) (hcat : (rest.map fun v => v.category).sum ≤ 8) (d : decode cc pc = .ok (.invokestatic 77, 3)) (kk : ∀ v M1, gG p l e R s m args below meth c nL (ZR D cI cZ q (AR q s.heap.size) s.heap M1) 0 0 QQ (pc + 3) lv (.int v :: rest) (K v M1)) : gG p l e R s m args below meth c nL (ZR D cI cZ q (AR q s.heap.size) s.heap M) 0 0 QQ pc lv (.int x0 :: rest) (bnd (fR_isName n x0 M) K) := r_callSi (As := [.int x0]) X (c_isName l D cI cZ q n x0 M) (cwSR (k := 1) X.2.2.2.2.1 tl_isName ts_isName tc_isName ini5 (by decide +kernel) hR) rfl rfl hcat d kk
-- isClass
def fR_isClass (n : Nat) (x1 : Int32) (M : MR) : Option (Int32 × MR) :=
    bnd (fR_isEdition n x1 M) fun v1 M1 =>
    if v1 = 0 then
      (zt (nI 0) (some ((nI 0), M1)))
    else
      (bnd (fR_editAt n x1 M1) fun v2 M2 =>
      rd M2 0 62610 (v2 + (nI 1)) fun v3 =>
      if v3 = (nI 1) then (zt (nI 1) (some ((nI 1), M2))) else (zt (nI 0) (some ((nI 0), M2))))
theorem c_isClass (l : Launch) (D : va_G) (cI cZ : ClassId) (q : Nat → Nat) (n : Nat) (x1 : Int32) (M : MR) : MetR l D cI cZ q yX5_isClass cX5_isClass 2 (some .boolean) 1 21 QI [.ref (q 34), .int x1] M (fR_isClass n x1 M) := by
  refine MetR.of (by decide) rfl (Nat.le_of_ble_eq_true rfl) ?_
  intro p e s m args below meth c X
  unfold fR_isClass
  refine g_pick (lv' := [(0, .ref (q 34)), (1, .int x1)]) [0, 1] rfl ?_
  refine g_aload_n X dX5_isClass_0 rfl rfl ?_
  refine g_iload_n X dX5_isClass_1 rfl rfl ?_
  refine k_isEdition X ⟨Nat.le_of_ble_eq_true rfl, Nat.le_of_ble_eq_true rfl⟩ (Nat.le_of_ble_eq_true rfl) dX5_isClass_2 ?_
  intro v1 M1
  refine g_if_eq (tgt := 27) X dX5_isClass_5 (by decide) ?_ ?_
  · refine g_iconst (v := (nI 0)) X dX5_isClass_27 (by decide) ?_
    exact r_zret X dX5_isClass_28
  · refine g_aload_n X dX5_isClass_8 rfl rfl ?_
    refine r_g_m X dX5_isClass_9 ?_
    refine g_iload_n X dX5_isClass_12 rfl rfl ?_
    refine k_editAt X ⟨Nat.le_of_ble_eq_true rfl, Nat.le_of_ble_eq_true rfl⟩ (Nat.le_of_ble_eq_true rfl) dX5_isClass_13 ?_
    intro v2 M2
    refine g_iconst (v := (nI 1)) X dX5_isClass_16 (by decide) ?_
    refine g_iadd X dX5_isClass_17 ?_
    refine r_l_m X dX5_isClass_18 ?_
    intro v3
    refine g_iconst (v := (nI 1)) X dX5_isClass_19 (by decide) ?_
    refine g_icmp_ne (tgt := 27) X dX5_isClass_20 (by decide) ?_ ?_
    · refine g_iconst (v := (nI 0)) X dX5_isClass_27 (by decide) ?_
      exact r_zret X dX5_isClass_28
    · refine g_iconst (v := (nI 1)) X dX5_isClass_23 (by decide) ?_
      refine g_goto (tgt := 28) X dX5_isClass_24 (by decide) ?_
      exact r_zret X dX5_isClass_28
theorem tc_isClass : Cond.code yX5_isClass cX5_isClass 2 (some .boolean) ∈ tt := tt_in (List.mem_of_getElem? (i := 1135) (by decide +kernel)) (by decide +kernel)
theorem tl_isClass : Cond.methodLink RX5 266 yX5_isClass ∈ tt := tt_in (List.mem_of_getElem? (i := 1132) (by decide +kernel)) (by decide +kernel)
theorem ti_isClass : Cond.instanceMethod yX5_isClass ∈ tt := tt_in (List.mem_of_getElem? (i := 1134) (by decide +kernel)) (by decide +kernel)
theorem te_isClass : Cond.selects RX5 yX5_isClass yX5_isClass ∈ tt := tt_in (List.mem_of_getElem? (i := 81) (by decide +kernel)) (by decide +kernel)
theorem k_isClass (X : gX p s m args meth c cc nL RX5 rt D (tyR cI cZ)) {n : Nat} {x1 : Int32} {M : MR} {rest : List Value} {K : Int32 → MR → Option ρ} (hR : 1 + 1 ≤ R.frames ∧ 8 + (2 + 11) + 21 ≤ R.locals) (hcat : (rest.map fun v => v.category).sum ≤ 8) (d : decode cc pc = .ok (.invokevirtual 266, 3)) (kk : ∀ v M1, gG p l e R s m args below meth c nL (ZR D cI cZ q (AR q s.heap.size) s.heap M1) 0 0 QQ (pc + 3) lv (.int v :: rest) (K v M1)) : gG p l e R s m args below meth c nL (ZR D cI cZ q (AR q s.heap.size) s.heap M) 0 0 QQ pc lv (.int x1 :: .ref (q 34) :: rest) (bnd (fR_isClass n x1 M) K) := r_callVi (As := [.int x1]) X (c_isClass l D cI cZ q n x1 M) (cwVR (k := 1) X.2.2.2.2.1 tl_isClass ti_isClass te_isClass tc_isClass ini5 (by decide +kernel) hR) rfl rfl hcat d kk
-- newest
def fR_newest (n : Nat) (x1 : Int32) (M : MR) : Option (Int32 × MR) :=
    bnd (fR_isName n x1 M) fun v1 M1 =>
    if v1 = 0 then
      (some ((-1 : Int32), M1))
    else
      (rd M1 0 62610 ((nI 4) + x1) fun v2 =>
      some ((v2 - (nI 1)), M1))
theorem c_newest (l : Launch) (D : va_G) (cI cZ : ClassId) (q : Nat → Nat) (n : Nat) (x1 : Int32) (M : MR) : MetR l D cI cZ q yX5_newest cX5_newest 2 (some .int) 1 20 QI [.ref (q 34), .int x1] M (fR_newest n x1 M) := by
  refine MetR.of (by decide) rfl (Nat.le_of_ble_eq_true rfl) ?_
  intro p e s m args below meth c X
  unfold fR_newest
  refine g_pick (lv' := [(0, .ref (q 34)), (1, .int x1)]) [0, 1] rfl ?_
  refine g_iload_n X dX5_newest_0 rfl rfl ?_
  refine k_isName X ⟨Nat.le_of_ble_eq_true rfl, Nat.le_of_ble_eq_true rfl⟩ (Nat.le_of_ble_eq_true rfl) dX5_newest_1 ?_
  intro v1 M1
  refine g_if_eq (tgt := 20) X dX5_newest_4 (by decide) ?_ ?_
  · refine g_iconst (v := (-1 : Int32)) X dX5_newest_20 (by decide) ?_
    exact r_iret X dX5_newest_21
  · refine g_aload_n X dX5_newest_7 rfl rfl ?_
    refine r_g_m X dX5_newest_8 ?_
    refine g_iconst (v := (nI 4)) X dX5_newest_11 (by decide) ?_
    refine g_iload_n X dX5_newest_12 rfl rfl ?_
    refine g_iadd X dX5_newest_13 ?_
    refine r_l_m X dX5_newest_14 ?_
    intro v2
    refine g_iconst (v := (nI 1)) X dX5_newest_15 (by decide) ?_
    refine g_isub X dX5_newest_16 ?_
    refine g_goto (tgt := 21) X dX5_newest_17 (by decide) ?_
    exact r_iret X dX5_newest_21
theorem tc_newest : Cond.code yX5_newest cX5_newest 2 (some .int) ∈ tt := tt_in (List.mem_of_getElem? (i := 876) (by decide +kernel)) (by decide +kernel)
theorem tl_newest : Cond.methodLink RX5 97 yX5_newest ∈ tt := tt_in (List.mem_of_getElem? (i := 918) (by decide +kernel)) (by decide +kernel)
theorem ti_newest : Cond.instanceMethod yX5_newest ∈ tt := tt_in (List.mem_of_getElem? (i := 874) (by decide +kernel)) (by decide +kernel)
theorem te_newest : Cond.selects RX5 yX5_newest yX5_newest ∈ tt := tt_in (List.mem_of_getElem? (i := 875) (by decide +kernel)) (by decide +kernel)
theorem k_newest (X : gX p s m args meth c cc nL RX5 rt D (tyR cI cZ)) {n : Nat} {x1 : Int32} {M : MR} {rest : List Value} {K : Int32 → MR → Option ρ} (hR : 1 + 1 ≤ R.frames ∧ 8 + (2 + 11) + 20 ≤ R.locals) (hcat : (rest.map fun v => v.category).sum ≤ 8) (d : decode cc pc = .ok (.invokevirtual 97, 3)) (kk : ∀ v M1, gG p l e R s m args below meth c nL (ZR D cI cZ q (AR q s.heap.size) s.heap M1) 0 0 QQ (pc + 3) lv (.int v :: rest) (K v M1)) : gG p l e R s m args below meth c nL (ZR D cI cZ q (AR q s.heap.size) s.heap M) 0 0 QQ pc lv (.int x1 :: .ref (q 34) :: rest) (bnd (fR_newest n x1 M) K) := r_callVi (As := [.int x1]) X (c_newest l D cI cZ q n x1 M) (cwVR (k := 1) X.2.2.2.2.1 tl_newest ti_newest te_newest tc_newest ini5 (by decide +kernel) hR) rfl rfl hcat d kk
-- put
def fR_put_b75 (n : Nat) (k29 : Int32 → Int32 → Int32 → Int32 → Int32 → Int32 → MR → Option (Int32 × MR)) (x1 : Int32) (x2 : Int32) (x3 : Int32) (x4 : Int32) (x5 : Int32) (x6 : Int32) (s0 : Int32) (s1 : Int32) (M : MR) : Option (Int32 × MR) :=
    wr M 2 60 s0 s1 fun M1 =>
    gf M1 3 fun v2 =>
    pf M1 3 (v2 + (nI 1)) fun M3 =>
    k29 x1 x2 x3 x4 x5 (x6 + (nI 1)) M3
theorem wR_put_b75 (X : gX p s m args meth c cX5_put 7 RX5 (some .int) D (tyR cI cZ)) (n : Nat) (k29 : Int32 → Int32 → Int32 → Int32 → Int32 → Int32 → MR → Option (Int32 × MR)) (hk29 : ∀ (x1 : Int32) (x2 : Int32) (x3 : Int32) (x4 : Int32) (x5 : Int32) (x6 : Int32) (M : MR), gG p l e (rmR 0 0) s m args below meth c 7 (ZR D cI cZ q (AR q s.heap.size) s.heap M) 0 0 (fun r => MQ below (QI D cI cZ q s.heap.size r) args s 0 0 (AR q s.heap.size)) 29 [(0, .ref (q 34)), (1, .int x1), (2, .int x2), (3, .int x3), (4, .int x4), (5, .int x5), (6, .int x6)] [] (k29 x1 x2 x3 x4 x5 x6 M)) (x1 : Int32) (x2 : Int32) (x3 : Int32) (x4 : Int32) (x5 : Int32) (x6 : Int32) (s0 : Int32) (s1 : Int32) (M : MR) : gG p l e (rmR 0 0) s m args below meth c 7 (ZR D cI cZ q (AR q s.heap.size) s.heap M) 0 0 (fun r => MQ below (QI D cI cZ q s.heap.size r) args s 0 0 (AR q s.heap.size)) 75 [(0, .ref (q 34)), (1, .int x1), (2, .int x2), (3, .int x3), (4, .int x4), (5, .int x5), (6, .int x6)] [.int s1, .int s0, .ref (q 2)] (fR_put_b75 n k29 x1 x2 x3 x4 x5 x6 s0 s1 M) := by
  unfold fR_put_b75
  refine r_s_tape X dX5_put_75 ?_
  intro M1
  refine g_aload_n X dX5_put_76 rfl rfl ?_
  refine g_dup X dX5_put_77 rfl ?_
  refine r_g_taped X dX5_put_78 ?_
  intro v2
  refine g_iconst (v := (nI 1)) X dX5_put_81 (by decide) ?_
  refine g_iadd X dX5_put_82 ?_
  refine r_p_taped X dX5_put_83 ?_
  intro M3
  refine g_iinc (v := (nI 1)) (lv' := [(6, .int (x6 + (nI 1))), (0, .ref (q 34)), (1, .int x1), (2, .int x2), (3, .int x3), (4, .int x4), (5, .int x5)]) X dX5_put_86 rfl (by decide) (by decide) rfl ?_
  refine g_goto (tgt := 29) X dX5_put_89 (by decide) ?_
  exact g_pick [1, 2, 3, 4, 5, 6, 0] rfl (hk29 x1 x2 x3 x4 x5 (x6 + (nI 1)) M3)
def fR_put_l29 (n : Nat) : Nat → Int32 → Int32 → Int32 → Int32 → Int32 → Int32 → MR → Option (Int32 × MR)
  | 0, _, _, _, _, _, _, _ => none
  | k + 1, x1, x2, x3, x4, x5, x6, M => if x1 ≤ x6 then
      (gf M 3 fun v1 =>
      some (v1, M))
    else
      (gf M 3 fun v2 =>
      if x6 = 0 then
        (fR_put_b75 n (fR_put_l29 n k) x1 x2 x3 x4 x5 x6 v2 x2 M)
      else
        (if x6 = (nI 1) then
          (fR_put_b75 n (fR_put_l29 n k) x1 x2 x3 x4 x5 x6 v2 x3 M)
        else
          (if x6 = (nI 2) then
            (fR_put_b75 n (fR_put_l29 n k) x1 x2 x3 x4 x5 x6 v2 x4 M)
          else
            (fR_put_b75 n (fR_put_l29 n k) x1 x2 x3 x4 x5 x6 v2 x5 M))))
theorem wR_put_l29 (X : gX p s m args meth c cX5_put 7 RX5 (some .int) D (tyR cI cZ)) (n : Nat) : ∀ (k : Nat) (x1 : Int32) (x2 : Int32) (x3 : Int32) (x4 : Int32) (x5 : Int32) (x6 : Int32) (M : MR), gG p l e (rmR 0 0) s m args below meth c 7 (ZR D cI cZ q (AR q s.heap.size) s.heap M) 0 0 (fun r => MQ below (QI D cI cZ q s.heap.size r) args s 0 0 (AR q s.heap.size)) 29 [(0, .ref (q 34)), (1, .int x1), (2, .int x2), (3, .int x3), (4, .int x4), (5, .int x5), (6, .int x6)] [] (fR_put_l29 n k x1 x2 x3 x4 x5 x6 M) := by
  intro k
  induction k with
  | zero =>
    intro x1 x2 x3 x4 x5 x6 M
    exact g_none
  | succ k ih =>
    intro x1 x2 x3 x4 x5 x6 M
    rw [fR_put_l29]
    refine g_iload X dX5_put_29 rfl ?_
    refine g_iload_n X dX5_put_31 rfl rfl ?_
    refine g_icmp_ge (tgt := 92) X dX5_put_32 (by decide) ?_ ?_
    · refine g_aload_n X dX5_put_92 rfl rfl ?_
      refine r_g_taped X dX5_put_93 ?_
      intro v1
      exact r_iret X dX5_put_96
    · refine g_aload_n X dX5_put_35 rfl rfl ?_
      refine r_g_tape X dX5_put_36 ?_
      refine g_aload_n X dX5_put_39 rfl rfl ?_
      refine r_g_taped X dX5_put_40 ?_
      intro v2
      refine g_iload X dX5_put_43 rfl ?_
      refine g_if_ne (tgt := 52) X dX5_put_45 (by decide) ?_ ?_
      · refine g_iload X dX5_put_52 rfl ?_
        refine g_iconst (v := (nI 1)) X dX5_put_54 (by decide) ?_
        refine g_icmp_ne (tgt := 62) X dX5_put_55 (by decide) ?_ ?_
        · refine g_iload X dX5_put_62 rfl ?_
          refine g_iconst (v := (nI 2)) X dX5_put_64 (by decide) ?_
          refine g_icmp_ne (tgt := 73) X dX5_put_65 (by decide) ?_ ?_
          · refine g_iload X dX5_put_73 rfl ?_
            exact g_pick [0, 1, 2, 3, 4, 5, 6] rfl (wR_put_b75 X n (fR_put_l29 n k) ih x1 x2 x3 x4 x5 x6 v2 x5 M)
          · refine g_iload X dX5_put_68 rfl ?_
            refine g_goto (tgt := 75) X dX5_put_70 (by decide) ?_
            exact g_pick [0, 1, 2, 3, 4, 5, 6] rfl (wR_put_b75 X n (fR_put_l29 n k) ih x1 x2 x3 x4 x5 x6 v2 x4 M)
        · refine g_iload_n X dX5_put_58 rfl rfl ?_
          refine g_goto (tgt := 75) X dX5_put_59 (by decide) ?_
          exact g_pick [0, 1, 2, 3, 4, 5, 6] rfl (wR_put_b75 X n (fR_put_l29 n k) ih x1 x2 x3 x4 x5 x6 v2 x3 M)
      · refine g_iload_n X dX5_put_48 rfl rfl ?_
        refine g_goto (tgt := 75) X dX5_put_49 (by decide) ?_
        exact g_pick [0, 1, 2, 3, 4, 5, 6] rfl (wR_put_b75 X n (fR_put_l29 n k) ih x1 x2 x3 x4 x5 x6 v2 x2 M)
def fR_put (n : Nat) (x1 : Int32) (x2 : Int32) (x3 : Int32) (x4 : Int32) (x5 : Int32) (M : MR) : Option (Int32 × MR) :=
    if x1 < (nI 1) then
      (some ((-1 : Int32), M))
    else
      (if x1 ≤ (nI 4) then
        (gf M 3 fun v1 =>
        if (v1 + x1) ≤ (nI 60) then (fR_put_l29 n n x1 x2 x3 x4 x5 (nI 0) M) else (some ((-2 : Int32), M)))
      else
        (some ((-1 : Int32), M)))
theorem c_put (l : Launch) (D : va_G) (cI cZ : ClassId) (q : Nat → Nat) (n : Nat) (x1 : Int32) (x2 : Int32) (x3 : Int32) (x4 : Int32) (x5 : Int32) (M : MR) : MetR l D cI cZ q yX5_put cX5_put 7 (some .int) 0 0 QI [.ref (q 34), .int x1, .int x2, .int x3, .int x4, .int x5] M (fR_put n x1 x2 x3 x4 x5 M) := by
  refine MetR.of (by decide) rfl (Nat.le_of_ble_eq_true rfl) ?_
  intro p e s m args below meth c X
  unfold fR_put
  refine g_pick (lv' := [(0, .ref (q 34)), (1, .int x1), (2, .int x2), (3, .int x3), (4, .int x4), (5, .int x5)]) [0, 1, 2, 3, 4, 5] rfl ?_
  refine g_iload_n X dX5_put_0 rfl rfl ?_
  refine g_iconst (v := (nI 1)) X dX5_put_1 (by decide) ?_
  refine g_icmp_lt (tgt := 10) X dX5_put_2 (by decide) ?_ ?_
  · refine g_iconst (v := (-1 : Int32)) X dX5_put_10 (by decide) ?_
    exact r_iret X dX5_put_11
  · refine g_iload_n X dX5_put_5 rfl rfl ?_
    refine g_iconst (v := (nI 4)) X dX5_put_6 (by decide) ?_
    refine g_icmp_le (tgt := 12) X dX5_put_7 (by decide) ?_ ?_
    · refine g_aload_n X dX5_put_12 rfl rfl ?_
      refine r_g_taped X dX5_put_13 ?_
      intro v1
      refine g_iload_n X dX5_put_16 rfl rfl ?_
      refine g_iadd X dX5_put_17 ?_
      refine g_bipush (v := (nI 60)) X dX5_put_18 (by decide) ?_
      refine g_icmp_le (tgt := 26) X dX5_put_20 (by decide) ?_ ?_
      · refine g_iconst (v := (nI 0)) X dX5_put_26 (by decide) ?_
        refine g_istore (lv' := [(6, .int (nI 0)), (0, .ref (q 34)), (1, .int x1), (2, .int x2), (3, .int x3), (4, .int x4), (5, .int x5)]) X dX5_put_27 (by decide) rfl ?_
        exact g_pick [1, 2, 3, 4, 5, 6, 0] rfl (wR_put_l29 X n n x1 x2 x3 x4 x5 (nI 0) M)
      · refine g_bipush (v := (-2 : Int32)) X dX5_put_23 (by decide) ?_
        exact r_iret X dX5_put_25
    · refine g_iconst (v := (-1 : Int32)) X dX5_put_10 (by decide) ?_
      exact r_iret X dX5_put_11
-- wipe
def fR_wipe (n : Nat) (M : MR) : Option (Int32 × MR) :=
    gf M 3 fun v1 =>
    pf M 3 (nI 0) fun M2 =>
    some (v1, M2)
theorem c_wipe (l : Launch) (D : va_G) (cI cZ : ClassId) (q : Nat → Nat) (n : Nat) (M : MR) : MetR l D cI cZ q yX5_wipe cX5_wipe 2 (some .int) 0 0 QI [.ref (q 34)] M (fR_wipe n M) := by
  refine MetR.of (by decide) rfl (Nat.le_of_ble_eq_true rfl) ?_
  intro p e s m args below meth c X
  unfold fR_wipe
  refine g_pick (lv' := [(0, .ref (q 34))]) [0] rfl ?_
  refine g_aload_n X dX5_wipe_0 rfl rfl ?_
  refine r_g_taped X dX5_wipe_1 ?_
  intro v1
  refine g_istore_n (lv' := [(1, .int v1), (0, .ref (q 34))]) X dX5_wipe_4 rfl (by decide) rfl ?_
  refine g_aload_n X dX5_wipe_5 rfl rfl ?_
  refine g_iconst (v := (nI 0)) X dX5_wipe_6 (by decide) ?_
  refine r_p_taped X dX5_wipe_7 ?_
  intro M2
  refine g_iload_n X dX5_wipe_10 rfl rfl ?_
  exact r_iret X dX5_wipe_11
-- wrong
def fR_wrong (n : Nat) (x1 : Int32) (M : MR) : Option (Int32 × MR) :=
    gf M 7 fun v1 =>
    if 0 ≤ v1 then
      (gf M 7 fun v2 =>
      pf M 7 v2 fun M3 =>
      some (0, M3))
    else
      (pf M 7 x1 fun M4 =>
      some (0, M4))
theorem c_wrong (l : Launch) (D : va_G) (cI cZ : ClassId) (q : Nat → Nat) (n : Nat) (x1 : Int32) (M : MR) : MetR l D cI cZ q yX5_wrong cX5_wrong 2 none 0 0 QV [.ref (q 34), .int x1] M (fR_wrong n x1 M) := by
  refine MetR.of (by decide) rfl (Nat.le_of_ble_eq_true rfl) ?_
  intro p e s m args below meth c X
  unfold fR_wrong
  refine g_pick (lv' := [(0, .ref (q 34)), (1, .int x1)]) [0, 1] rfl ?_
  refine g_aload_n X dX5_wrong_0 rfl rfl ?_
  refine g_aload_n X dX5_wrong_1 rfl rfl ?_
  refine r_g_fault X dX5_wrong_2 ?_
  intro v1
  refine g_if_ge (tgt := 12) X dX5_wrong_5 (by decide) ?_ ?_
  · refine g_aload_n X dX5_wrong_12 rfl rfl ?_
    refine r_g_fault X dX5_wrong_13 ?_
    intro v2
    refine r_p_fault X dX5_wrong_16 ?_
    intro M3
    exact r_vret X dX5_wrong_19
  · refine g_iload_n X dX5_wrong_8 rfl rfl ?_
    refine g_goto (tgt := 16) X dX5_wrong_9 (by decide) ?_
    refine r_p_fault X dX5_wrong_16 ?_
    intro M4
    exact r_vret X dX5_wrong_19
theorem tc_wrong : Cond.code yX5_wrong cX5_wrong 2 none ∈ tt := tt_in (List.mem_of_getElem? (i := 925) (by decide +kernel)) (by decide +kernel)
theorem tl_wrong : Cond.methodLink RX5 93 yX5_wrong ∈ tt := tt_in (List.mem_of_getElem? (i := 922) (by decide +kernel)) (by decide +kernel)
theorem ti_wrong : Cond.instanceMethod yX5_wrong ∈ tt := tt_in (List.mem_of_getElem? (i := 924) (by decide +kernel)) (by decide +kernel)
theorem te_wrong : Cond.selects RX5 yX5_wrong yX5_wrong ∈ tt := tt_in (List.mem_of_getElem? (i := 43) (by decide +kernel)) (by decide +kernel)
theorem k_wrong (X : gX p s m args meth c cc nL RX5 rt D (tyR cI cZ)) {n : Nat} {x1 : Int32} {M : MR} {rest : List Value} {K : Int32 → MR → Option ρ} (hR : 0 + 1 ≤ R.frames ∧ 8 + (2 + 11) + 0 ≤ R.locals) (hcat : (rest.map fun v => v.category).sum ≤ 8) (d : decode cc pc = .ok (.invokevirtual 93, 3)) (kk : ∀ v M1, gG p l e R s m args below meth c nL (ZR D cI cZ q (AR q s.heap.size) s.heap M1) 0 0 QQ (pc + 3) lv (rest) (K v M1)) : gG p l e R s m args below meth c nL (ZR D cI cZ q (AR q s.heap.size) s.heap M) 0 0 QQ pc lv (.int x1 :: .ref (q 34) :: rest) (bnd (fR_wrong n x1 M) K) := r_callVv (As := [.int x1]) X (c_wrong l D cI cZ q n x1 M) (cwVR (k := 1) X.2.2.2.2.1 tl_wrong ti_wrong te_wrong tc_wrong ini5 (by decide +kernel) hR) rfl rfl hcat d kk
-- take
def fR_take (n : Nat) (M : MR) : Option (Int32 × MR) :=
    gf M 8 fun v1 =>
    gf M 6 fun v2 =>
    if v1 < v2 then
      (gf M 8 fun v3 =>
      pf M 8 (v3 + (nI 1)) fun M4 =>
      gf M4 8 fun v5 =>
      rd M4 4 60 (v5 - (nI 1)) fun v6 =>
      some (v6, M4))
    else
      (gf M 6 fun v7 =>
      bnd (fR_wrong n v7 M) fun _ M8 =>
      some ((nI 0), M8))
theorem c_take (l : Launch) (D : va_G) (cI cZ : ClassId) (q : Nat → Nat) (n : Nat) (M : MR) : MetR l D cI cZ q yX5_take cX5_take 1 (some .int) 1 21 QI [.ref (q 34)] M (fR_take n M) := by
  refine MetR.of (by decide) rfl (Nat.le_of_ble_eq_true rfl) ?_
  intro p e s m args below meth c X
  unfold fR_take
  refine g_pick (lv' := [(0, .ref (q 34))]) [0] rfl ?_
  refine g_aload_n X dX5_take_0 rfl rfl ?_
  refine r_g_at X dX5_take_1 ?_
  intro v1
  refine g_aload_n X dX5_take_4 rfl rfl ?_
  refine r_g_length X dX5_take_5 ?_
  intro v2
  refine g_icmp_lt (tgt := 21) X dX5_take_8 (by decide) ?_ ?_
  · refine g_aload_n X dX5_take_21 rfl rfl ?_
    refine g_dup X dX5_take_22 rfl ?_
    refine r_g_at X dX5_take_23 ?_
    intro v3
    refine g_iconst (v := (nI 1)) X dX5_take_26 (by decide) ?_
    refine g_iadd X dX5_take_27 ?_
    refine r_p_at X dX5_take_28 ?_
    intro M4
    refine g_aload_n X dX5_take_31 rfl rfl ?_
    refine r_g_text X dX5_take_32 ?_
    refine g_aload_n X dX5_take_35 rfl rfl ?_
    refine r_g_at X dX5_take_36 ?_
    intro v5
    refine g_iconst (v := (nI 1)) X dX5_take_39 (by decide) ?_
    refine g_isub X dX5_take_40 ?_
    refine r_l_text X dX5_take_41 ?_
    intro v6
    exact r_iret X dX5_take_42
  · refine g_aload_n X dX5_take_11 rfl rfl ?_
    refine g_aload_n X dX5_take_12 rfl rfl ?_
    refine r_g_length X dX5_take_13 ?_
    intro v7
    refine k_wrong X ⟨Nat.le_of_ble_eq_true rfl, Nat.le_of_ble_eq_true rfl⟩ (Nat.le_of_ble_eq_true rfl) dX5_take_16 ?_
    intro v8 M8
    refine g_iconst (v := (nI 0)) X dX5_take_19 (by decide) ?_
    exact r_iret X dX5_take_20
theorem tc_take : Cond.code yX5_take cX5_take 1 (some .int) ∈ tt := tt_in (List.mem_of_getElem? (i := 933) (by decide +kernel)) (by decide +kernel)
theorem tl_take : Cond.methodLink RX5 114 yX5_take ∈ tt := tt_in (List.mem_of_getElem? (i := 930) (by decide +kernel)) (by decide +kernel)
theorem ti_take : Cond.instanceMethod yX5_take ∈ tt := tt_in (List.mem_of_getElem? (i := 932) (by decide +kernel)) (by decide +kernel)
theorem te_take : Cond.selects RX5 yX5_take yX5_take ∈ tt := tt_in (List.mem_of_getElem? (i := 45) (by decide +kernel)) (by decide +kernel)
theorem k_take (X : gX p s m args meth c cc nL RX5 rt D (tyR cI cZ)) {n : Nat} {M : MR} {rest : List Value} {K : Int32 → MR → Option ρ} (hR : 1 + 1 ≤ R.frames ∧ 8 + (1 + 11) + 21 ≤ R.locals) (hcat : (rest.map fun v => v.category).sum ≤ 8) (d : decode cc pc = .ok (.invokevirtual 114, 3)) (kk : ∀ v M1, gG p l e R s m args below meth c nL (ZR D cI cZ q (AR q s.heap.size) s.heap M1) 0 0 QQ (pc + 3) lv (.int v :: rest) (K v M1)) : gG p l e R s m args below meth c nL (ZR D cI cZ q (AR q s.heap.size) s.heap M) 0 0 QQ pc lv (.ref (q 34) :: rest) (bnd (fR_take n M) K) := r_callVi (As := []) X (c_take l D cI cZ q n M) (cwVR (k := 0) X.2.2.2.2.1 tl_take ti_take te_take tc_take ini5 (by decide +kernel) hR) rfl rfl hcat d kk
-- means
def fR_means (n : Nat) (x1 : Int32) (x2 : Int32) (x3 : Int32) (M : MR) : Option (Int32 × MR) :=
    bnd (fR_newest n x2 M) fun v1 M1 =>
    if v1 < 0 then
      (zt (nI 0) (some ((nI 0), M1)))
    else
      (bnd (fR_editAt n v1 M1) fun v2 M2 =>
      rd M2 0 62610 (v2 + (nI 1)) fun v3 =>
      if v3 = x3 then
        (wz M2 9 150 v1 (nI 1) fun M4 =>
        wr M4 5 60 x1 v1 fun M5 =>
        zt (nI 1) (some ((nI 1), M5)))
      else
        (zt (nI 0) (some ((nI 0), M2))))
theorem c_means (l : Launch) (D : va_G) (cI cZ : ClassId) (q : Nat → Nat) (n : Nat) (x1 : Int32) (x2 : Int32) (x3 : Int32) (M : MR) : MetR l D cI cZ q yX5_means cX5_means 5 (some .boolean) 2 41 QI [.ref (q 34), .int x1, .int x2, .int x3] M (fR_means n x1 x2 x3 M) := by
  refine MetR.of (by decide) rfl (Nat.le_of_ble_eq_true rfl) ?_
  intro p e s m args below meth c X
  unfold fR_means
  refine g_pick (lv' := [(0, .ref (q 34)), (1, .int x1), (2, .int x2), (3, .int x3)]) [0, 1, 2, 3] rfl ?_
  refine g_aload_n X dX5_means_0 rfl rfl ?_
  refine g_iload_n X dX5_means_1 rfl rfl ?_
  refine k_newest X ⟨Nat.le_of_ble_eq_true rfl, Nat.le_of_ble_eq_true rfl⟩ (Nat.le_of_ble_eq_true rfl) dX5_means_2 ?_
  intro v1 M1
  refine g_istore (lv' := [(4, .int v1), (0, .ref (q 34)), (1, .int x1), (2, .int x2), (3, .int x3)]) X dX5_means_5 (by decide) rfl ?_
  refine g_iload X dX5_means_7 rfl ?_
  refine g_if_lt (tgt := 28) X dX5_means_9 (by decide) ?_ ?_
  · refine g_iconst (v := (nI 0)) X dX5_means_28 (by decide) ?_
    exact r_zret X dX5_means_29
  · refine g_aload_n X dX5_means_12 rfl rfl ?_
    refine r_g_m X dX5_means_13 ?_
    refine g_iload X dX5_means_16 rfl ?_
    refine k_editAt X ⟨Nat.le_of_ble_eq_true rfl, Nat.le_of_ble_eq_true rfl⟩ (Nat.le_of_ble_eq_true rfl) dX5_means_18 ?_
    intro v2 M2
    refine g_iconst (v := (nI 1)) X dX5_means_21 (by decide) ?_
    refine g_iadd X dX5_means_22 ?_
    refine r_l_m X dX5_means_23 ?_
    intro v3
    refine g_iload_n X dX5_means_24 rfl rfl ?_
    refine g_icmp_eq (tgt := 30) X dX5_means_25 (by decide) ?_ ?_
    · refine g_aload_n X dX5_means_30 rfl rfl ?_
      refine r_g_leaned X dX5_means_31 ?_
      refine g_iload X dX5_means_34 rfl ?_
      refine g_iconst (v := (nI 1)) X dX5_means_36 (by decide) ?_
      refine r_s_leaned X dX5_means_37 ?_
      intro M4
      refine g_aload_n X dX5_means_38 rfl rfl ?_
      refine r_g_meant X dX5_means_39 ?_
      refine g_iload_n X dX5_means_42 rfl rfl ?_
      refine g_iload X dX5_means_43 rfl ?_
      refine r_s_meant X dX5_means_45 ?_
      intro M5
      refine g_iconst (v := (nI 1)) X dX5_means_46 (by decide) ?_
      exact r_zret X dX5_means_47
    · refine g_iconst (v := (nI 0)) X dX5_means_28 (by decide) ?_
      exact r_zret X dX5_means_29
theorem tc_means : Cond.code yX5_means cX5_means 5 (some .boolean) ∈ tt := tt_in (List.mem_of_getElem? (i := 917) (by decide +kernel)) (by decide +kernel)
theorem tl_means : Cond.methodLink RX5 106 yX5_means ∈ tt := tt_in (List.mem_of_getElem? (i := 914) (by decide +kernel)) (by decide +kernel)
theorem ti_means : Cond.instanceMethod yX5_means ∈ tt := tt_in (List.mem_of_getElem? (i := 916) (by decide +kernel)) (by decide +kernel)
theorem te_means : Cond.selects RX5 yX5_means yX5_means ∈ tt := tt_in (List.mem_of_getElem? (i := 42) (by decide +kernel)) (by decide +kernel)
theorem k_means (X : gX p s m args meth c cc nL RX5 rt D (tyR cI cZ)) {n : Nat} {x1 : Int32} {x2 : Int32} {x3 : Int32} {M : MR} {rest : List Value} {K : Int32 → MR → Option ρ} (hR : 2 + 1 ≤ R.frames ∧ 8 + (5 + 11) + 41 ≤ R.locals) (hcat : (rest.map fun v => v.category).sum ≤ 8) (d : decode cc pc = .ok (.invokevirtual 106, 3)) (kk : ∀ v M1, gG p l e R s m args below meth c nL (ZR D cI cZ q (AR q s.heap.size) s.heap M1) 0 0 QQ (pc + 3) lv (.int v :: rest) (K v M1)) : gG p l e R s m args below meth c nL (ZR D cI cZ q (AR q s.heap.size) s.heap M) 0 0 QQ pc lv (.int x3 :: .int x2 :: .int x1 :: .ref (q 34) :: rest) (bnd (fR_means n x1 x2 x3 M) K) := r_callVi (As := [.int x1, .int x2, .int x3]) X (c_means l D cI cZ q n x1 x2 x3 M) (cwVR (k := 3) X.2.2.2.2.1 tl_means ti_means te_means tc_means ini5 (by decide +kernel) hR) rfl rfl hcat d kk
-- hasInt
def fR_hasInt (n : Nat) (x0 : Int32) (M : MR) : Option (Int32 × MR) :=
    if x0 < 0 then
      (zt (nI 0) (some ((nI 0), M)))
    else
      (if (nI 7) < x0 then (zt (nI 0) (some ((nI 0), M))) else (zt (nI 1) (some ((nI 1), M))))
theorem c_hasInt (l : Launch) (D : va_G) (cI cZ : ClassId) (q : Nat → Nat) (n : Nat) (x0 : Int32) (M : MR) : MetR l D cI cZ q yX5_hasInt cX5_hasInt 1 (some .boolean) 0 0 QI [.int x0] M (fR_hasInt n x0 M) := by
  refine MetR.of (by decide) rfl (Nat.le_of_ble_eq_true rfl) ?_
  intro p e s m args below meth c X
  unfold fR_hasInt
  refine g_pick (lv' := [(0, .int x0)]) [0] rfl ?_
  refine g_iload_n X dX5_hasInt_0 rfl rfl ?_
  refine g_if_lt (tgt := 14) X dX5_hasInt_1 (by decide) ?_ ?_
  · refine g_iconst (v := (nI 0)) X dX5_hasInt_14 (by decide) ?_
    exact r_zret X dX5_hasInt_15
  · refine g_iload_n X dX5_hasInt_4 rfl rfl ?_
    refine g_bipush (v := (nI 7)) X dX5_hasInt_5 (by decide) ?_
    refine g_icmp_gt (tgt := 14) X dX5_hasInt_7 (by decide) ?_ ?_
    · refine g_iconst (v := (nI 0)) X dX5_hasInt_14 (by decide) ?_
      exact r_zret X dX5_hasInt_15
    · refine g_iconst (v := (nI 1)) X dX5_hasInt_10 (by decide) ?_
      refine g_goto (tgt := 15) X dX5_hasInt_11 (by decide) ?_
      exact r_zret X dX5_hasInt_15
theorem tc_hasInt : Cond.code yX5_hasInt cX5_hasInt 1 (some .boolean) ∈ tt := tt_in (List.mem_of_getElem? (i := 910) (by decide +kernel)) (by decide +kernel)
theorem tl_hasInt : Cond.methodLink RX5 100 yX5_hasInt ∈ tt := tt_in (List.mem_of_getElem? (i := 908) (by decide +kernel)) (by decide +kernel)
theorem ts_hasInt : Cond.static yX5_hasInt ∈ tt := tt_in (List.mem_of_getElem? (i := 909) (by decide +kernel)) (by decide +kernel)
theorem k_hasInt (X : gX p s m args meth c cc nL RX5 rt D (tyR cI cZ)) {n : Nat} {x0 : Int32} {M : MR} {rest : List Value} {K : Int32 → MR → Option ρ} (hR : 0 + 1 ≤ R.frames ∧ 8 + (1 + 11) + 0 ≤ R.locals) (hcat : (rest.map fun v => v.category).sum ≤ 8) (d : decode cc pc = .ok (.invokestatic 100, 3)) (kk : ∀ v M1, gG p l e R s m args below meth c nL (ZR D cI cZ q (AR q s.heap.size) s.heap M1) 0 0 QQ (pc + 3) lv (.int v :: rest) (K v M1)) : gG p l e R s m args below meth c nL (ZR D cI cZ q (AR q s.heap.size) s.heap M) 0 0 QQ pc lv (.int x0 :: rest) (bnd (fR_hasInt n x0 M) K) := r_callSi (As := [.int x0]) X (c_hasInt l D cI cZ q n x0 M) (cwSR (k := 1) X.2.2.2.2.1 tl_hasInt ts_hasInt tc_hasInt ini5 (by decide +kernel) hR) rfl rfl hcat d kk
-- takes
def fR_takes (n : Nat) (x0 : Int32) (M : MR) : Option (Int32 × MR) :=
    if x0 ≤ (nI 2) then
      (some ((nI 0), M))
    else
      (if x0 = (nI 16) then
        (some ((nI 0), M))
      else
        (if x0 = (nI 17) then
          (some ((nI 0), M))
        else
          (if x0 = (nI 3) then
            (some ((nI 1), M))
          else
            (if x0 = (nI 4) then
              (some ((nI 1), M))
            else
              (if x0 = (nI 5) then
                (some ((nI 1), M))
              else
                (if x0 = (nI 15) then (some ((nI 1), M)) else (if x0 = (nI 14) then (some ((nI 3), M)) else (some ((nI 2), M)))))))))
theorem c_takes (l : Launch) (D : va_G) (cI cZ : ClassId) (q : Nat → Nat) (n : Nat) (x0 : Int32) (M : MR) : MetR l D cI cZ q yX5_takes cX5_takes 1 (some .int) 0 0 QI [.int x0] M (fR_takes n x0 M) := by
  refine MetR.of (by decide) rfl (Nat.le_of_ble_eq_true rfl) ?_
  intro p e s m args below meth c X
  unfold fR_takes
  refine g_pick (lv' := [(0, .int x0)]) [0] rfl ?_
  refine g_iload_n X dX5_takes_0 rfl rfl ?_
  refine g_iconst (v := (nI 2)) X dX5_takes_1 (by decide) ?_
  refine g_icmp_le (tgt := 17) X dX5_takes_2 (by decide) ?_ ?_
  · refine g_iconst (v := (nI 0)) X dX5_takes_17 (by decide) ?_
    refine g_goto (tgt := 57) X dX5_takes_18 (by decide) ?_
    exact r_iret X dX5_takes_57
  · refine g_iload_n X dX5_takes_5 rfl rfl ?_
    refine g_bipush (v := (nI 16)) X dX5_takes_6 (by decide) ?_
    refine g_icmp_eq (tgt := 17) X dX5_takes_8 (by decide) ?_ ?_
    · refine g_iconst (v := (nI 0)) X dX5_takes_17 (by decide) ?_
      refine g_goto (tgt := 57) X dX5_takes_18 (by decide) ?_
      exact r_iret X dX5_takes_57
    · refine g_iload_n X dX5_takes_11 rfl rfl ?_
      refine g_bipush (v := (nI 17)) X dX5_takes_12 (by decide) ?_
      refine g_icmp_ne (tgt := 21) X dX5_takes_14 (by decide) ?_ ?_
      · refine g_iload_n X dX5_takes_21 rfl rfl ?_
        refine g_iconst (v := (nI 3)) X dX5_takes_22 (by decide) ?_
        refine g_icmp_eq (tgt := 42) X dX5_takes_23 (by decide) ?_ ?_
        · refine g_iconst (v := (nI 1)) X dX5_takes_42 (by decide) ?_
          refine g_goto (tgt := 57) X dX5_takes_43 (by decide) ?_
          exact r_iret X dX5_takes_57
        · refine g_iload_n X dX5_takes_26 rfl rfl ?_
          refine g_iconst (v := (nI 4)) X dX5_takes_27 (by decide) ?_
          refine g_icmp_eq (tgt := 42) X dX5_takes_28 (by decide) ?_ ?_
          · refine g_iconst (v := (nI 1)) X dX5_takes_42 (by decide) ?_
            refine g_goto (tgt := 57) X dX5_takes_43 (by decide) ?_
            exact r_iret X dX5_takes_57
          · refine g_iload_n X dX5_takes_31 rfl rfl ?_
            refine g_iconst (v := (nI 5)) X dX5_takes_32 (by decide) ?_
            refine g_icmp_eq (tgt := 42) X dX5_takes_33 (by decide) ?_ ?_
            · refine g_iconst (v := (nI 1)) X dX5_takes_42 (by decide) ?_
              refine g_goto (tgt := 57) X dX5_takes_43 (by decide) ?_
              exact r_iret X dX5_takes_57
            · refine g_iload_n X dX5_takes_36 rfl rfl ?_
              refine g_bipush (v := (nI 15)) X dX5_takes_37 (by decide) ?_
              refine g_icmp_ne (tgt := 46) X dX5_takes_39 (by decide) ?_ ?_
              · refine g_iload_n X dX5_takes_46 rfl rfl ?_
                refine g_bipush (v := (nI 14)) X dX5_takes_47 (by decide) ?_
                refine g_icmp_ne (tgt := 56) X dX5_takes_49 (by decide) ?_ ?_
                · refine g_iconst (v := (nI 2)) X dX5_takes_56 (by decide) ?_
                  exact r_iret X dX5_takes_57
                · refine g_iconst (v := (nI 3)) X dX5_takes_52 (by decide) ?_
                  refine g_goto (tgt := 57) X dX5_takes_53 (by decide) ?_
                  exact r_iret X dX5_takes_57
              · refine g_iconst (v := (nI 1)) X dX5_takes_42 (by decide) ?_
                refine g_goto (tgt := 57) X dX5_takes_43 (by decide) ?_
                exact r_iret X dX5_takes_57
      · refine g_iconst (v := (nI 0)) X dX5_takes_17 (by decide) ?_
        refine g_goto (tgt := 57) X dX5_takes_18 (by decide) ?_
        exact r_iret X dX5_takes_57
theorem tc_takes : Cond.code yX5_takes cX5_takes 1 (some .int) ∈ tt := tt_in (List.mem_of_getElem? (i := 913) (by decide +kernel)) (by decide +kernel)
theorem tl_takes : Cond.methodLink RX5 103 yX5_takes ∈ tt := tt_in (List.mem_of_getElem? (i := 911) (by decide +kernel)) (by decide +kernel)
theorem ts_takes : Cond.static yX5_takes ∈ tt := tt_in (List.mem_of_getElem? (i := 912) (by decide +kernel)) (by decide +kernel)
theorem k_takes (X : gX p s m args meth c cc nL RX5 rt D (tyR cI cZ)) {n : Nat} {x0 : Int32} {M : MR} {rest : List Value} {K : Int32 → MR → Option ρ} (hR : 0 + 1 ≤ R.frames ∧ 8 + (1 + 11) + 0 ≤ R.locals) (hcat : (rest.map fun v => v.category).sum ≤ 8) (d : decode cc pc = .ok (.invokestatic 103, 3)) (kk : ∀ v M1, gG p l e R s m args below meth c nL (ZR D cI cZ q (AR q s.heap.size) s.heap M1) 0 0 QQ (pc + 3) lv (.int v :: rest) (K v M1)) : gG p l e R s m args below meth c nL (ZR D cI cZ q (AR q s.heap.size) s.heap M) 0 0 QQ pc lv (.int x0 :: rest) (bnd (fR_takes n x0 M) K) := r_callSi (As := [.int x0]) X (c_takes l D cI cZ q n x0 M) (cwSR (k := 1) X.2.2.2.2.1 tl_takes ts_takes tc_takes ini5 (by decide +kernel) hR) rfl rfl hcat d kk
-- isActRight
def fR_isActRight_b85 (n : Nat) (x1 : Int32) (x5 : Int32) (s0 : Int32) (M : MR) : Option (Int32 × MR) :=
    if x5 = (nI 1) then
      (bnd (fR_means n (x1 + (nI 1)) s0 (nI 0) M) fun v2 M2 =>
      zt v2 (some (v2, M2)))
    else if x5 = (nI 2) then
      (bnd (fR_means n (x1 + (nI 1)) s0 (nI 1) M) fun v4 M4 =>
      zt v4 (some (v4, M4)))
    else if x5 = (nI 3) then
      (bnd (fR_means n (x1 + (nI 1)) s0 (nI 1) M) fun v6 M6 =>
      zt v6 (some (v6, M6)))
    else if x5 = (nI 4) then
      (bnd (fR_means n (x1 + (nI 1)) s0 (nI 1) M) fun v8 M8 =>
      zt v8 (some (v8, M8)))
    else if x5 = (nI 5) then
      (if s0 < 0 then
        (zt (nI 0) (some ((nI 0), M)))
      else
        (if (nI 9) < s0 then (zt (nI 0) (some ((nI 0), M))) else (zt (nI 1) (some ((nI 1), M)))))
    else if x5 = (nI 6) then
      (if s0 < 0 then
        (zt (nI 0) (some ((nI 0), M)))
      else
        (if (nI 9) < s0 then (zt (nI 0) (some ((nI 0), M))) else (zt (nI 1) (some ((nI 1), M)))))
    else if x5 = (nI 7) then
      (if s0 < 0 then
        (zt (nI 0) (some ((nI 0), M)))
      else
        (if (nI 4) < s0 then (zt (nI 0) (some ((nI 0), M))) else (zt (nI 1) (some ((nI 1), M)))))
    else (zt (nI 1) (some ((nI 1), M)))
theorem wR_isActRight_b85 (X : gX p s m args meth c cX5_isActRight 7 RX5 (some .boolean) D (tyR cI cZ)) (n : Nat) (x1 : Int32) (x5 : Int32) (s0 : Int32) (M : MR) : gG p l e (rmR 3 65) s m args below meth c 7 (ZR D cI cZ q (AR q s.heap.size) s.heap M) 0 0 (fun r => MQ below (QI D cI cZ q s.heap.size r) args s 0 0 (AR q s.heap.size)) 85 [(0, .ref (q 34)), (1, .int x1), (5, .int x5)] [.int s0] (fR_isActRight_b85 n x1 x5 s0 M) := by
  unfold fR_isActRight_b85
  refine g_istore (lv' := [(6, .int s0), (0, .ref (q 34)), (1, .int x1), (5, .int x5)]) X dX5_isActRight_85 (by decide) rfl ?_
  refine g_iload X dX5_isActRight_87 rfl ?_
  refine g_ite (fun h1 => ?_) (fun h1 => ?_)
  · refine g_tIn (off := 43) (tgt := 132) X dX5_isActRight_89 (by rw [h1]; decide) (by rw [h1]; decide) (by rw [h1]; rfl) (by decide) ?_
    refine g_aload_n X dX5_isActRight_132 rfl rfl ?_
    refine g_iload_n X dX5_isActRight_133 rfl rfl ?_
    refine g_iconst (v := (nI 1)) X dX5_isActRight_134 (by decide) ?_
    refine g_iadd X dX5_isActRight_135 ?_
    refine g_iload X dX5_isActRight_136 rfl ?_
    refine g_iconst (v := (nI 0)) X dX5_isActRight_138 (by decide) ?_
    refine k_means X ⟨Nat.le_of_ble_eq_true rfl, Nat.le_of_ble_eq_true rfl⟩ (Nat.le_of_ble_eq_true rfl) dX5_isActRight_139 ?_
    intro v2 M2
    exact r_zret X dX5_isActRight_142
  have eh1 := tn_i (n := 1) h1 (by decide)
  refine g_ite (fun h3 => ?_) (fun h3 => ?_)
  · refine g_tIn (off := 54) (tgt := 143) X dX5_isActRight_89 (by rw [h3]; decide) (by rw [h3]; decide) (by rw [h3]; rfl) (by decide) ?_
    refine g_aload_n X dX5_isActRight_143 rfl rfl ?_
    refine g_iload_n X dX5_isActRight_144 rfl rfl ?_
    refine g_iconst (v := (nI 1)) X dX5_isActRight_145 (by decide) ?_
    refine g_iadd X dX5_isActRight_146 ?_
    refine g_iload X dX5_isActRight_147 rfl ?_
    refine g_iconst (v := (nI 1)) X dX5_isActRight_149 (by decide) ?_
    refine k_means X ⟨Nat.le_of_ble_eq_true rfl, Nat.le_of_ble_eq_true rfl⟩ (Nat.le_of_ble_eq_true rfl) dX5_isActRight_150 ?_
    intro v4 M4
    exact r_zret X dX5_isActRight_153
  have eh3 := tn_i (n := 2) h3 (by decide)
  refine g_ite (fun h5 => ?_) (fun h5 => ?_)
  · refine g_tIn (off := 54) (tgt := 143) X dX5_isActRight_89 (by rw [h5]; decide) (by rw [h5]; decide) (by rw [h5]; rfl) (by decide) ?_
    refine g_aload_n X dX5_isActRight_143 rfl rfl ?_
    refine g_iload_n X dX5_isActRight_144 rfl rfl ?_
    refine g_iconst (v := (nI 1)) X dX5_isActRight_145 (by decide) ?_
    refine g_iadd X dX5_isActRight_146 ?_
    refine g_iload X dX5_isActRight_147 rfl ?_
    refine g_iconst (v := (nI 1)) X dX5_isActRight_149 (by decide) ?_
    refine k_means X ⟨Nat.le_of_ble_eq_true rfl, Nat.le_of_ble_eq_true rfl⟩ (Nat.le_of_ble_eq_true rfl) dX5_isActRight_150 ?_
    intro v6 M6
    exact r_zret X dX5_isActRight_153
  have eh5 := tn_i (n := 3) h5 (by decide)
  refine g_ite (fun h7 => ?_) (fun h7 => ?_)
  · refine g_tIn (off := 54) (tgt := 143) X dX5_isActRight_89 (by rw [h7]; decide) (by rw [h7]; decide) (by rw [h7]; rfl) (by decide) ?_
    refine g_aload_n X dX5_isActRight_143 rfl rfl ?_
    refine g_iload_n X dX5_isActRight_144 rfl rfl ?_
    refine g_iconst (v := (nI 1)) X dX5_isActRight_145 (by decide) ?_
    refine g_iadd X dX5_isActRight_146 ?_
    refine g_iload X dX5_isActRight_147 rfl ?_
    refine g_iconst (v := (nI 1)) X dX5_isActRight_149 (by decide) ?_
    refine k_means X ⟨Nat.le_of_ble_eq_true rfl, Nat.le_of_ble_eq_true rfl⟩ (Nat.le_of_ble_eq_true rfl) dX5_isActRight_150 ?_
    intro v8 M8
    exact r_zret X dX5_isActRight_153
  have eh7 := tn_i (n := 4) h7 (by decide)
  refine g_ite (fun h9 => ?_) (fun h9 => ?_)
  · refine g_tIn (off := 65) (tgt := 154) X dX5_isActRight_89 (by rw [h9]; decide) (by rw [h9]; decide) (by rw [h9]; rfl) (by decide) ?_
    refine g_iload X dX5_isActRight_154 rfl ?_
    refine g_if_lt (tgt := 170) X dX5_isActRight_156 (by decide) ?_ ?_
    · refine g_iconst (v := (nI 0)) X dX5_isActRight_170 (by decide) ?_
      exact r_zret X dX5_isActRight_171
    · refine g_iload X dX5_isActRight_159 rfl ?_
      refine g_bipush (v := (nI 9)) X dX5_isActRight_161 (by decide) ?_
      refine g_icmp_gt (tgt := 170) X dX5_isActRight_163 (by decide) ?_ ?_
      · refine g_iconst (v := (nI 0)) X dX5_isActRight_170 (by decide) ?_
        exact r_zret X dX5_isActRight_171
      · refine g_iconst (v := (nI 1)) X dX5_isActRight_166 (by decide) ?_
        refine g_goto (tgt := 171) X dX5_isActRight_167 (by decide) ?_
        exact r_zret X dX5_isActRight_171
  have eh9 := tn_i (n := 5) h9 (by decide)
  refine g_ite (fun h10 => ?_) (fun h10 => ?_)
  · refine g_tIn (off := 65) (tgt := 154) X dX5_isActRight_89 (by rw [h10]; decide) (by rw [h10]; decide) (by rw [h10]; rfl) (by decide) ?_
    refine g_iload X dX5_isActRight_154 rfl ?_
    refine g_if_lt (tgt := 170) X dX5_isActRight_156 (by decide) ?_ ?_
    · refine g_iconst (v := (nI 0)) X dX5_isActRight_170 (by decide) ?_
      exact r_zret X dX5_isActRight_171
    · refine g_iload X dX5_isActRight_159 rfl ?_
      refine g_bipush (v := (nI 9)) X dX5_isActRight_161 (by decide) ?_
      refine g_icmp_gt (tgt := 170) X dX5_isActRight_163 (by decide) ?_ ?_
      · refine g_iconst (v := (nI 0)) X dX5_isActRight_170 (by decide) ?_
        exact r_zret X dX5_isActRight_171
      · refine g_iconst (v := (nI 1)) X dX5_isActRight_166 (by decide) ?_
        refine g_goto (tgt := 171) X dX5_isActRight_167 (by decide) ?_
        exact r_zret X dX5_isActRight_171
  have eh10 := tn_i (n := 6) h10 (by decide)
  refine g_ite (fun h11 => ?_) (fun h11 => ?_)
  · refine g_tIn (off := 83) (tgt := 172) X dX5_isActRight_89 (by rw [h11]; decide) (by rw [h11]; decide) (by rw [h11]; rfl) (by decide) ?_
    refine g_iload X dX5_isActRight_172 rfl ?_
    refine g_if_lt (tgt := 187) X dX5_isActRight_174 (by decide) ?_ ?_
    · refine g_iconst (v := (nI 0)) X dX5_isActRight_187 (by decide) ?_
      exact r_zret X dX5_isActRight_188
    · refine g_iload X dX5_isActRight_177 rfl ?_
      refine g_iconst (v := (nI 4)) X dX5_isActRight_179 (by decide) ?_
      refine g_icmp_gt (tgt := 187) X dX5_isActRight_180 (by decide) ?_ ?_
      · refine g_iconst (v := (nI 0)) X dX5_isActRight_187 (by decide) ?_
        exact r_zret X dX5_isActRight_188
      · refine g_iconst (v := (nI 1)) X dX5_isActRight_183 (by decide) ?_
        refine g_goto (tgt := 188) X dX5_isActRight_184 (by decide) ?_
        exact r_zret X dX5_isActRight_188
  have eh11 := tn_i (n := 7) h11 (by decide)
  refine g_tOut (tgt := 189) X dX5_isActRight_89 (by omega) (by decide) ?_
  refine g_iconst (v := (nI 1)) X dX5_isActRight_189 (by decide) ?_
  exact r_zret X dX5_isActRight_190
def fR_isActRight_b65 (n : Nat) (x1 : Int32) (x5 : Int32) (M : MR) : Option (Int32 × MR) :=
    bnd (fR_hasInt n x5 M) fun v1 M1 =>
    if v1 = 0 then
      (fR_isActRight_b85 n x1 x5 (nI 0) M1)
    else
      (rd M1 4 60 (x1 + (nI 1)) fun v2 =>
      fR_isActRight_b85 n x1 x5 v2 M1)
theorem wR_isActRight_b65 (X : gX p s m args meth c cX5_isActRight 7 RX5 (some .boolean) D (tyR cI cZ)) (n : Nat) (x1 : Int32) (x5 : Int32) (M : MR) : gG p l e (rmR 3 65) s m args below meth c 7 (ZR D cI cZ q (AR q s.heap.size) s.heap M) 0 0 (fun r => MQ below (QI D cI cZ q s.heap.size r) args s 0 0 (AR q s.heap.size)) 65 [(0, .ref (q 34)), (1, .int x1), (5, .int x5)] [] (fR_isActRight_b65 n x1 x5 M) := by
  unfold fR_isActRight_b65
  refine g_iload X dX5_isActRight_65 rfl ?_
  refine k_hasInt X ⟨Nat.le_of_ble_eq_true rfl, Nat.le_of_ble_eq_true rfl⟩ (Nat.le_of_ble_eq_true rfl) dX5_isActRight_67 ?_
  intro v1 M1
  refine g_if_eq (tgt := 84) X dX5_isActRight_70 (by decide) ?_ ?_
  · refine g_iconst (v := (nI 0)) X dX5_isActRight_84 (by decide) ?_
    exact g_pick [0, 1, 2] rfl (wR_isActRight_b85 X n x1 x5 (nI 0) M1)
  · refine g_aload_n X dX5_isActRight_73 rfl rfl ?_
    refine r_g_text X dX5_isActRight_74 ?_
    refine g_iload_n X dX5_isActRight_77 rfl rfl ?_
    refine g_iconst (v := (nI 1)) X dX5_isActRight_78 (by decide) ?_
    refine g_iadd X dX5_isActRight_79 ?_
    refine r_l_text X dX5_isActRight_80 ?_
    intro v2
    refine g_goto (tgt := 85) X dX5_isActRight_81 (by decide) ?_
    exact g_pick [0, 1, 2] rfl (wR_isActRight_b85 X n x1 x5 v2 M1)
def fR_isActRight_b58 (n : Nat) (x1 : Int32) (x4 : Int32) (x5 : Int32) (M : MR) : Option (Int32 × MR) :=
    if x4 = 0 then (zt (nI 0) (some ((nI 0), M))) else (fR_isActRight_b65 n x1 x5 M)
theorem wR_isActRight_b58 (X : gX p s m args meth c cX5_isActRight 7 RX5 (some .boolean) D (tyR cI cZ)) (n : Nat) (x1 : Int32) (x4 : Int32) (x5 : Int32) (M : MR) : gG p l e (rmR 3 65) s m args below meth c 7 (ZR D cI cZ q (AR q s.heap.size) s.heap M) 0 0 (fun r => MQ below (QI D cI cZ q s.heap.size r) args s 0 0 (AR q s.heap.size)) 58 [(0, .ref (q 34)), (1, .int x1), (4, .int x4), (5, .int x5)] [] (fR_isActRight_b58 n x1 x4 x5 M) := by
  unfold fR_isActRight_b58
  refine g_iload X dX5_isActRight_58 rfl ?_
  refine g_if_ne (tgt := 65) X dX5_isActRight_60 (by decide) ?_ ?_
  · exact g_pick [0, 1, 3] rfl (wR_isActRight_b65 X n x1 x5 M)
  · refine g_iconst (v := (nI 0)) X dX5_isActRight_63 (by decide) ?_
    exact r_zret X dX5_isActRight_64
def fR_isActRight_b35 (n : Nat) (x1 : Int32) (x3 : Int32) (x4 : Int32) (x5 : Int32) (M : MR) : Option (Int32 × MR) :=
    bnd (fR_takes n x5 M) fun v1 M1 =>
    if x3 < v1 then
      (zt (nI 0) (some ((nI 0), M1)))
    else
      (if x5 = (nI 16) then
        (fR_isActRight_b58 n x1 x4 x5 M1)
      else
        (if x5 = (nI 17) then (fR_isActRight_b58 n x1 x4 x5 M1) else (fR_isActRight_b65 n x1 x5 M1)))
theorem wR_isActRight_b35 (X : gX p s m args meth c cX5_isActRight 7 RX5 (some .boolean) D (tyR cI cZ)) (n : Nat) (x1 : Int32) (x3 : Int32) (x4 : Int32) (x5 : Int32) (M : MR) : gG p l e (rmR 3 65) s m args below meth c 7 (ZR D cI cZ q (AR q s.heap.size) s.heap M) 0 0 (fun r => MQ below (QI D cI cZ q s.heap.size r) args s 0 0 (AR q s.heap.size)) 35 [(0, .ref (q 34)), (1, .int x1), (3, .int x3), (4, .int x4), (5, .int x5)] [] (fR_isActRight_b35 n x1 x3 x4 x5 M) := by
  unfold fR_isActRight_b35
  refine g_iload X dX5_isActRight_35 rfl ?_
  refine k_takes X ⟨Nat.le_of_ble_eq_true rfl, Nat.le_of_ble_eq_true rfl⟩ (Nat.le_of_ble_eq_true rfl) dX5_isActRight_37 ?_
  intro v1 M1
  refine g_iload_n X dX5_isActRight_40 rfl rfl ?_
  refine g_icmp_gt (tgt := 63) X dX5_isActRight_41 (by decide) ?_ ?_
  · refine g_iconst (v := (nI 0)) X dX5_isActRight_63 (by decide) ?_
    exact r_zret X dX5_isActRight_64
  · refine g_iload X dX5_isActRight_44 rfl ?_
    refine g_bipush (v := (nI 16)) X dX5_isActRight_46 (by decide) ?_
    refine g_icmp_eq (tgt := 58) X dX5_isActRight_48 (by decide) ?_ ?_
    · exact g_pick [0, 1, 3, 4] rfl (wR_isActRight_b58 X n x1 x4 x5 M1)
    · refine g_iload X dX5_isActRight_51 rfl ?_
      refine g_bipush (v := (nI 17)) X dX5_isActRight_53 (by decide) ?_
      refine g_icmp_ne (tgt := 65) X dX5_isActRight_55 (by decide) ?_ ?_
      · exact g_pick [0, 1, 4] rfl (wR_isActRight_b65 X n x1 x5 M1)
      · exact g_pick [0, 1, 3, 4] rfl (wR_isActRight_b58 X n x1 x4 x5 M1)
def fR_isActRight (n : Nat) (x1 : Int32) (x2 : Int32) (x3 : Int32) (x4 : Int32) (M : MR) : Option (Int32 × MR) :=
    rd M 4 60 x1 fun v1 =>
    if v1 < 0 then
      (zt (nI 0) (some ((nI 0), M)))
    else
      (if (nI 18) < v1 then
        (zt (nI 0) (some ((nI 0), M)))
      else
        (bnd (fR_hasInt n v1 M) fun v2 M2 =>
        if v2 = 0 then
          (fR_isActRight_b35 n x1 x3 x4 v1 M2)
        else
          (if x2 ≤ (x1 + (nI 1)) then (zt (nI 0) (some ((nI 0), M2))) else (fR_isActRight_b35 n x1 x3 x4 v1 M2))))
theorem c_isActRight (l : Launch) (D : va_G) (cI cZ : ClassId) (q : Nat → Nat) (n : Nat) (x1 : Int32) (x2 : Int32) (x3 : Int32) (x4 : Int32) (M : MR) : MetR l D cI cZ q yX5_isActRight cX5_isActRight 7 (some .boolean) 3 65 QI [.ref (q 34), .int x1, .int x2, .int x3, .int x4] M (fR_isActRight n x1 x2 x3 x4 M) := by
  refine MetR.of (by decide) rfl (Nat.le_of_ble_eq_true rfl) ?_
  intro p e s m args below meth c X
  unfold fR_isActRight
  refine g_pick (lv' := [(0, .ref (q 34)), (1, .int x1), (2, .int x2), (3, .int x3), (4, .int x4)]) [0, 1, 2, 3, 4] rfl ?_
  refine g_aload_n X dX5_isActRight_0 rfl rfl ?_
  refine r_g_text X dX5_isActRight_1 ?_
  refine g_iload_n X dX5_isActRight_4 rfl rfl ?_
  refine r_l_text X dX5_isActRight_5 ?_
  intro v1
  refine g_istore (lv' := [(5, .int v1), (0, .ref (q 34)), (1, .int x1), (2, .int x2), (3, .int x3), (4, .int x4)]) X dX5_isActRight_6 (by decide) rfl ?_
  refine g_iload X dX5_isActRight_8 rfl ?_
  refine g_if_lt (tgt := 63) X dX5_isActRight_10 (by decide) ?_ ?_
  · refine g_iconst (v := (nI 0)) X dX5_isActRight_63 (by decide) ?_
    exact r_zret X dX5_isActRight_64
  · refine g_iload X dX5_isActRight_13 rfl ?_
    refine g_bipush (v := (nI 18)) X dX5_isActRight_15 (by decide) ?_
    refine g_icmp_gt (tgt := 63) X dX5_isActRight_17 (by decide) ?_ ?_
    · refine g_iconst (v := (nI 0)) X dX5_isActRight_63 (by decide) ?_
      exact r_zret X dX5_isActRight_64
    · refine g_iload X dX5_isActRight_20 rfl ?_
      refine k_hasInt X ⟨Nat.le_of_ble_eq_true rfl, Nat.le_of_ble_eq_true rfl⟩ (Nat.le_of_ble_eq_true rfl) dX5_isActRight_22 ?_
      intro v2 M2
      refine g_if_eq (tgt := 35) X dX5_isActRight_25 (by decide) ?_ ?_
      · exact g_pick [1, 2, 4, 5, 0] rfl (wR_isActRight_b35 X n x1 x3 x4 v1 M2)
      · refine g_iload_n X dX5_isActRight_28 rfl rfl ?_
        refine g_iconst (v := (nI 1)) X dX5_isActRight_29 (by decide) ?_
        refine g_iadd X dX5_isActRight_30 ?_
        refine g_iload_n X dX5_isActRight_31 rfl rfl ?_
        refine g_icmp_ge (tgt := 63) X dX5_isActRight_32 (by decide) ?_ ?_
        · refine g_iconst (v := (nI 0)) X dX5_isActRight_63 (by decide) ?_
          exact r_zret X dX5_isActRight_64
        · exact g_pick [1, 2, 4, 5, 0] rfl (wR_isActRight_b35 X n x1 x3 x4 v1 M2)
theorem tc_isActRight : Cond.code yX5_isActRight cX5_isActRight 7 (some .boolean) ∈ tt := tt_in (List.mem_of_getElem? (i := 907) (by decide +kernel)) (by decide +kernel)
theorem tl_isActRight : Cond.methodLink RX5 110 yX5_isActRight ∈ tt := tt_in (List.mem_of_getElem? (i := 904) (by decide +kernel)) (by decide +kernel)
theorem ti_isActRight : Cond.instanceMethod yX5_isActRight ∈ tt := tt_in (List.mem_of_getElem? (i := 906) (by decide +kernel)) (by decide +kernel)
theorem te_isActRight : Cond.selects RX5 yX5_isActRight yX5_isActRight ∈ tt := tt_in (List.mem_of_getElem? (i := 41) (by decide +kernel)) (by decide +kernel)
theorem k_isActRight (X : gX p s m args meth c cc nL RX5 rt D (tyR cI cZ)) {n : Nat} {x1 : Int32} {x2 : Int32} {x3 : Int32} {x4 : Int32} {M : MR} {rest : List Value} {K : Int32 → MR → Option ρ} (hR : 3 + 1 ≤ R.frames ∧ 8 + (7 + 11) + 65 ≤ R.locals) (hcat : (rest.map fun v => v.category).sum ≤ 8) (d : decode cc pc = .ok (.invokevirtual 110, 3)) (kk : ∀ v M1, gG p l e R s m args below meth c nL (ZR D cI cZ q (AR q s.heap.size) s.heap M1) 0 0 QQ (pc + 3) lv (.int v :: rest) (K v M1)) : gG p l e R s m args below meth c nL (ZR D cI cZ q (AR q s.heap.size) s.heap M) 0 0 QQ pc lv (.int x4 :: .int x3 :: .int x2 :: .int x1 :: .ref (q 34) :: rest) (bnd (fR_isActRight n x1 x2 x3 x4 M) K) := r_callVi (As := [.int x1, .int x2, .int x3, .int x4]) X (c_isActRight l D cI cZ q n x1 x2 x3 x4 M) (cwVR (k := 4) X.2.2.2.2.1 tl_isActRight ti_isActRight te_isActRight tc_isActRight ini5 (by decide +kernel) hR) rfl rfl hcat d kk
-- code
def fR_code_b69 (n : Nat) (k6 : Int32 → Int32 → Int32 → Int32 → MR → Option (Int32 × MR)) (x2 : Int32) (x3 : Int32) (x5 : Int32) (s0 : Int32) (s1 : Int32) (M : MR) : Option (Int32 × MR) :=
    k6 x2 x3 (s0 + s1) x5 M
theorem wR_code_b69 (X : gX p s m args meth c cX5_code 6 RX5 none D (tyR cI cZ)) (n : Nat) (k6 : Int32 → Int32 → Int32 → Int32 → MR → Option (Int32 × MR)) (hk6 : ∀ (x2 : Int32) (x3 : Int32) (x4 : Int32) (x5 : Int32) (M : MR), gG p l e (rmR 4 91) s m args below meth c 6 (ZR D cI cZ q (AR q s.heap.size) s.heap M) 0 0 (fun r => MQ below (QV D cI cZ q s.heap.size r) args s 0 0 (AR q s.heap.size)) 6 [(0, .ref (q 34)), (2, .int x2), (3, .int x3), (4, .int x4), (5, .int x5)] [] (k6 x2 x3 x4 x5 M)) (x2 : Int32) (x3 : Int32) (x5 : Int32) (s0 : Int32) (s1 : Int32) (M : MR) : gG p l e (rmR 4 91) s m args below meth c 6 (ZR D cI cZ q (AR q s.heap.size) s.heap M) 0 0 (fun r => MQ below (QV D cI cZ q s.heap.size r) args s 0 0 (AR q s.heap.size)) 69 [(0, .ref (q 34)), (2, .int x2), (3, .int x3), (5, .int x5)] [.int s1, .int s0] (fR_code_b69 n k6 x2 x3 x5 s0 s1 M) := by
  unfold fR_code_b69
  refine g_iadd X dX5_code_69 ?_
  refine g_istore (lv' := [(4, .int (s0 + s1)), (0, .ref (q 34)), (2, .int x2), (3, .int x3), (5, .int x5)]) X dX5_code_70 (by decide) rfl ?_
  refine g_goto (tgt := 6) X dX5_code_72 (by decide) ?_
  exact g_pick [1, 2, 3, 0, 4] rfl (hk6 x2 x3 (s0 + s1) x5 M)
def fR_code_b84 (n : Nat) (x2 : Int32) (x5 : Int32) (M : MR) : Option (Int32 × MR) :=
    gf M 7 fun v1 =>
    if 0 ≤ v1 then
      (some (0, M))
    else
      (if x5 = (nI 1) then
        (some (0, M))
      else
        (bnd (fR_wrong n x2 M) fun _ M2 =>
        some (0, M2)))
theorem wR_code_b84 (X : gX p s m args meth c cX5_code 6 RX5 none D (tyR cI cZ)) (n : Nat) (x2 : Int32) (x5 : Int32) (M : MR) : gG p l e (rmR 4 91) s m args below meth c 6 (ZR D cI cZ q (AR q s.heap.size) s.heap M) 0 0 (fun r => MQ below (QV D cI cZ q s.heap.size r) args s 0 0 (AR q s.heap.size)) 84 [(0, .ref (q 34)), (2, .int x2), (5, .int x5)] [] (fR_code_b84 n x2 x5 M) := by
  unfold fR_code_b84
  refine g_aload_n X dX5_code_84 rfl rfl ?_
  refine r_g_fault X dX5_code_85 ?_
  intro v1
  refine g_if_ge (tgt := 102) X dX5_code_88 (by decide) ?_ ?_
  · exact r_vret X dX5_code_102
  · refine g_iload X dX5_code_91 rfl ?_
    refine g_iconst (v := (nI 1)) X dX5_code_93 (by decide) ?_
    refine g_icmp_eq (tgt := 102) X dX5_code_94 (by decide) ?_ ?_
    · exact r_vret X dX5_code_102
    · refine g_aload_n X dX5_code_97 rfl rfl ?_
      refine g_iload_n X dX5_code_98 rfl rfl ?_
      refine k_wrong X ⟨Nat.le_of_ble_eq_true rfl, Nat.le_of_ble_eq_true rfl⟩ (Nat.le_of_ble_eq_true rfl) dX5_code_99 ?_
      intro v2 M2
      exact r_vret X dX5_code_102
def fR_code_l6 (n : Nat) : Nat → Int32 → Int32 → Int32 → Int32 → MR → Option (Int32 × MR)
  | 0, _, _, _, _, _ => none
  | k + 1, x2, x3, x4, x5, M => if x2 ≤ x4 then
      (fR_code_b84 n x2 x5 M)
    else
      (gf M 7 fun v1 =>
      if 0 ≤ v1 then
        (fR_code_b84 n x2 x5 M)
      else
        (bnd (fR_isActRight n x4 x2 x5 x3 M) fun v2 M2 =>
        if v2 = 0 then
          (bnd (fR_wrong n x4 M2) fun _ M3 =>
          (fR_code_l6 n k) x2 x3 x4 x5 M3)
        else
          (rd M2 4 60 x4 fun v4 =>
          bnd (fR_takes n v4 M2) fun v5 M5 =>
          rd M5 4 60 x4 fun v6 =>
          bnd (fR_hasInt n v6 M5) fun v7 M7 =>
          if v7 = 0 then
            (fR_code_b69 n (fR_code_l6 n k) x2 x3 (x5 + ((nI 1) - v5)) x4 (nI 1) M7)
          else
            (fR_code_b69 n (fR_code_l6 n k) x2 x3 (x5 + ((nI 1) - v5)) x4 (nI 2) M7))))
theorem wR_code_l6 (X : gX p s m args meth c cX5_code 6 RX5 none D (tyR cI cZ)) (n : Nat) : ∀ (k : Nat) (x2 : Int32) (x3 : Int32) (x4 : Int32) (x5 : Int32) (M : MR), gG p l e (rmR 4 91) s m args below meth c 6 (ZR D cI cZ q (AR q s.heap.size) s.heap M) 0 0 (fun r => MQ below (QV D cI cZ q s.heap.size r) args s 0 0 (AR q s.heap.size)) 6 [(0, .ref (q 34)), (2, .int x2), (3, .int x3), (4, .int x4), (5, .int x5)] [] (fR_code_l6 n k x2 x3 x4 x5 M) := by
  intro k
  induction k with
  | zero =>
    intro x2 x3 x4 x5 M
    exact g_none
  | succ k ih =>
    intro x2 x3 x4 x5 M
    rw [fR_code_l6]
    refine g_iload X dX5_code_6 rfl ?_
    refine g_iload_n X dX5_code_8 rfl rfl ?_
    refine g_icmp_ge (tgt := 84) X dX5_code_9 (by decide) ?_ ?_
    · exact g_pick [0, 1, 4] rfl (wR_code_b84 X n x2 x5 M)
    · refine g_aload_n X dX5_code_12 rfl rfl ?_
      refine r_g_fault X dX5_code_13 ?_
      intro v1
      refine g_if_ge (tgt := 84) X dX5_code_16 (by decide) ?_ ?_
      · exact g_pick [0, 1, 4] rfl (wR_code_b84 X n x2 x5 M)
      · refine g_aload_n X dX5_code_19 rfl rfl ?_
        refine g_iload X dX5_code_20 rfl ?_
        refine g_iload_n X dX5_code_22 rfl rfl ?_
        refine g_iload X dX5_code_23 rfl ?_
        refine g_iload_n X dX5_code_25 rfl rfl ?_
        refine k_isActRight X ⟨Nat.le_of_ble_eq_true rfl, Nat.le_of_ble_eq_true rfl⟩ (Nat.le_of_ble_eq_true rfl) dX5_code_26 ?_
        intro v2 M2
        refine g_if_eq (tgt := 75) X dX5_code_29 (by decide) ?_ ?_
        · refine g_aload_n X dX5_code_75 rfl rfl ?_
          refine g_iload X dX5_code_76 rfl ?_
          refine k_wrong X ⟨Nat.le_of_ble_eq_true rfl, Nat.le_of_ble_eq_true rfl⟩ (Nat.le_of_ble_eq_true rfl) dX5_code_78 ?_
          intro v3 M3
          refine g_goto (tgt := 6) X dX5_code_81 (by decide) ?_
          exact g_pick [0, 1, 2, 3, 4] rfl (ih x2 x3 x4 x5 M3)
        · refine g_iload X dX5_code_32 rfl ?_
          refine g_iconst (v := (nI 1)) X dX5_code_34 (by decide) ?_
          refine g_aload_n X dX5_code_35 rfl rfl ?_
          refine r_g_text X dX5_code_36 ?_
          refine g_iload X dX5_code_39 rfl ?_
          refine r_l_text X dX5_code_41 ?_
          intro v4
          refine k_takes X ⟨Nat.le_of_ble_eq_true rfl, Nat.le_of_ble_eq_true rfl⟩ (Nat.le_of_ble_eq_true rfl) dX5_code_42 ?_
          intro v5 M5
          refine g_isub X dX5_code_45 ?_
          refine g_iadd X dX5_code_46 ?_
          refine g_istore (lv' := [(5, .int (x5 + ((nI 1) - v5))), (0, .ref (q 34)), (2, .int x2), (3, .int x3), (4, .int x4)]) X dX5_code_47 (by decide) rfl ?_
          refine g_iload X dX5_code_49 rfl ?_
          refine g_aload_n X dX5_code_51 rfl rfl ?_
          refine r_g_text X dX5_code_52 ?_
          refine g_iload X dX5_code_55 rfl ?_
          refine r_l_text X dX5_code_57 ?_
          intro v6
          refine k_hasInt X ⟨Nat.le_of_ble_eq_true rfl, Nat.le_of_ble_eq_true rfl⟩ (Nat.le_of_ble_eq_true rfl) dX5_code_58 ?_
          intro v7 M7
          refine g_if_eq (tgt := 68) X dX5_code_61 (by decide) ?_ ?_
          · refine g_iconst (v := (nI 1)) X dX5_code_68 (by decide) ?_
            exact g_pick [1, 2, 3, 0] rfl (wR_code_b69 X n (fR_code_l6 n k) ih x2 x3 (x5 + ((nI 1) - v5)) x4 (nI 1) M7)
          · refine g_iconst (v := (nI 2)) X dX5_code_64 (by decide) ?_
            refine g_goto (tgt := 69) X dX5_code_65 (by decide) ?_
            exact g_pick [1, 2, 3, 0] rfl (wR_code_b69 X n (fR_code_l6 n k) ih x2 x3 (x5 + ((nI 1) - v5)) x4 (nI 2) M7)
def fR_code (n : Nat) (x1 : Int32) (x2 : Int32) (x3 : Int32) (M : MR) : Option (Int32 × MR) :=
    fR_code_l6 n n x2 x3 x1 (nI 0) M
theorem c_code (l : Launch) (D : va_G) (cI cZ : ClassId) (q : Nat → Nat) (n : Nat) (x1 : Int32) (x2 : Int32) (x3 : Int32) (M : MR) : MetR l D cI cZ q yX5_code cX5_code 6 none 4 91 QV [.ref (q 34), .int x1, .int x2, .int x3] M (fR_code n x1 x2 x3 M) := by
  refine MetR.of (by decide) rfl (Nat.le_of_ble_eq_true rfl) ?_
  intro p e s m args below meth c X
  unfold fR_code
  refine g_pick (lv' := [(0, .ref (q 34)), (1, .int x1), (2, .int x2), (3, .int x3)]) [0, 1, 2, 3] rfl ?_
  refine g_iload_n X dX5_code_0 rfl rfl ?_
  refine g_istore (lv' := [(4, .int x1), (0, .ref (q 34)), (1, .int x1), (2, .int x2), (3, .int x3)]) X dX5_code_1 (by decide) rfl ?_
  refine g_iconst (v := (nI 0)) X dX5_code_3 (by decide) ?_
  refine g_istore (lv' := [(5, .int (nI 0)), (4, .int x1), (0, .ref (q 34)), (1, .int x1), (2, .int x2), (3, .int x3)]) X dX5_code_4 (by decide) rfl ?_
  exact g_pick [2, 4, 5, 1, 0] rfl (wR_code_l6 X n n x2 x3 x1 (nI 0) M)
theorem tc_code : Cond.code yX5_code cX5_code 6 none ∈ tt := tt_in (List.mem_of_getElem? (i := 903) (by decide +kernel)) (by decide +kernel)
theorem tl_code : Cond.methodLink RX5 118 yX5_code ∈ tt := tt_in (List.mem_of_getElem? (i := 900) (by decide +kernel)) (by decide +kernel)
theorem ti_code : Cond.instanceMethod yX5_code ∈ tt := tt_in (List.mem_of_getElem? (i := 902) (by decide +kernel)) (by decide +kernel)
theorem te_code : Cond.selects RX5 yX5_code yX5_code ∈ tt := tt_in (List.mem_of_getElem? (i := 40) (by decide +kernel)) (by decide +kernel)
theorem k_code (X : gX p s m args meth c cc nL RX5 rt D (tyR cI cZ)) {n : Nat} {x1 : Int32} {x2 : Int32} {x3 : Int32} {M : MR} {rest : List Value} {K : Int32 → MR → Option ρ} (hR : 4 + 1 ≤ R.frames ∧ 8 + (6 + 11) + 91 ≤ R.locals) (hcat : (rest.map fun v => v.category).sum ≤ 8) (d : decode cc pc = .ok (.invokevirtual 118, 3)) (kk : ∀ v M1, gG p l e R s m args below meth c nL (ZR D cI cZ q (AR q s.heap.size) s.heap M1) 0 0 QQ (pc + 3) lv (rest) (K v M1)) : gG p l e R s m args below meth c nL (ZR D cI cZ q (AR q s.heap.size) s.heap M) 0 0 QQ pc lv (.int x3 :: .int x2 :: .int x1 :: .ref (q 34) :: rest) (bnd (fR_code n x1 x2 x3 M) K) := r_callVv (As := [.int x1, .int x2, .int x3]) X (c_code l D cI cZ q n x1 x2 x3 M) (cwVR (k := 3) X.2.2.2.2.1 tl_code ti_code te_code tc_code ini5 (by decide +kernel) hR) rfl rfl hcat d kk
end RM
