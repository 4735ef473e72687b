theorem dX0_nextToRun_0 : decode cX0_nextToRun 0 = .ok (.iconst (-1), 1) := by decide +kernel
theorem dX0_nextToRun_1 : decode cX0_nextToRun 1 = .ok (.istore_n 3, 1) := by decide +kernel
theorem dX0_nextToRun_2 : decode cX0_nextToRun 2 = .ok (.iconst 0, 1) := by decide +kernel
theorem dX0_nextToRun_3 : decode cX0_nextToRun 3 = .ok (.istore 4, 2) := by decide +kernel
theorem dX0_nextToRun_5 : decode cX0_nextToRun 5 = .ok (.iload 4, 2) := by decide +kernel
theorem dX0_nextToRun_7 : decode cX0_nextToRun 7 = .ok (.aload_n 0, 1) := by decide +kernel
theorem dX0_nextToRun_8 : decode cX0_nextToRun 8 = .ok (.getfield 16, 3) := by decide +kernel
theorem dX0_nextToRun_11 : decode cX0_nextToRun 11 = .ok (.invokevirtual 61, 3) := by decide +kernel
theorem dX0_nextToRun_14 : decode cX0_nextToRun 14 = .ok (.if_icmp .ge 39, 3) := by decide +kernel
theorem dX0_nextToRun_17 : decode cX0_nextToRun 17 = .ok (.lload_n 1, 1) := by decide +kernel
theorem dX0_nextToRun_18 : decode cX0_nextToRun 18 = .ok (.iload 4, 2) := by decide +kernel
theorem dX0_nextToRun_20 : decode cX0_nextToRun 20 = .ok (.invokestatic 113, 3) := by decide +kernel
theorem dX0_nextToRun_23 : decode cX0_nextToRun 23 = .ok (.ifCond .eq 24, 3) := by decide +kernel
theorem dX0_nextToRun_26 : decode cX0_nextToRun 26 = .ok (.aload_n 0, 1) := by decide +kernel
theorem dX0_nextToRun_27 : decode cX0_nextToRun 27 = .ok (.iload 4, 2) := by decide +kernel
theorem dX0_nextToRun_29 : decode cX0_nextToRun 29 = .ok (.lload_n 1, 1) := by decide +kernel
theorem dX0_nextToRun_30 : decode cX0_nextToRun 30 = .ok (.invokevirtual 123, 3) := by decide +kernel
theorem dX0_nextToRun_33 : decode cX0_nextToRun 33 = .ok (.ifCond .ne 6, 3) := by decide +kernel
theorem dX0_nextToRun_36 : decode cX0_nextToRun 36 = .ok (.iload 4, 2) := by decide +kernel
theorem dX0_nextToRun_38 : decode cX0_nextToRun 38 = .ok (.ireturn, 1) := by decide +kernel
theorem dX0_nextToRun_39 : decode cX0_nextToRun 39 = .ok (.iload_n 3, 1) := by decide +kernel
theorem dX0_nextToRun_40 : decode cX0_nextToRun 40 = .ok (.iconst (-1), 1) := by decide +kernel
theorem dX0_nextToRun_41 : decode cX0_nextToRun 41 = .ok (.if_icmp .ne 6, 3) := by decide +kernel
theorem dX0_nextToRun_44 : decode cX0_nextToRun 44 = .ok (.iload 4, 2) := by decide +kernel
theorem dX0_nextToRun_46 : decode cX0_nextToRun 46 = .ok (.istore_n 3, 1) := by decide +kernel
theorem dX0_nextToRun_47 : decode cX0_nextToRun 47 = .ok (.iinc 4 1, 3) := by decide +kernel
theorem dX0_nextToRun_50 : decode cX0_nextToRun 50 = .ok (.goto (-45), 3) := by decide +kernel
theorem dX0_nextToRun_53 : decode cX0_nextToRun 53 = .ok (.iload_n 3, 1) := by decide +kernel
theorem dX0_nextToRun_54 : decode cX0_nextToRun 54 = .ok (.ireturn, 1) := by decide +kernel
theorem dX1_open_0 : decode cX1_open 0 = .ok (.iconst 0, 1) := by decide +kernel
theorem dX1_open_1 : decode cX1_open 1 = .ok (.istore_n 2, 1) := by decide +kernel
theorem dX1_open_2 : decode cX1_open 2 = .ok (.iload_n 2, 1) := by decide +kernel
theorem dX1_open_3 : decode cX1_open 3 = .ok (.bipush 16, 2) := by decide +kernel
theorem dX1_open_5 : decode cX1_open 5 = .ok (.if_icmp .ge 40, 3) := by decide +kernel
theorem dX1_open_8 : decode cX1_open 8 = .ok (.aload_n 0, 1) := by decide +kernel
theorem dX1_open_9 : decode cX1_open 9 = .ok (.getfield 36, 3) := by decide +kernel
theorem dX1_open_12 : decode cX1_open 12 = .ok (.iload_n 2, 1) := by decide +kernel
theorem dX1_open_13 : decode cX1_open 13 = .ok (.aload_n 1, 1) := by decide +kernel
theorem dX1_open_14 : decode cX1_open 14 = .ok (.iload_n 2, 1) := by decide +kernel
theorem dX1_open_15 : decode cX1_open 15 = .ok (.invokevirtual 52, 3) := by decide +kernel
theorem dX1_open_18 : decode cX1_open 18 = .ok (.iastore, 1) := by decide +kernel
theorem dX1_open_19 : decode cX1_open 19 = .ok (.aload_n 0, 1) := by decide +kernel
theorem dX1_open_20 : decode cX1_open 20 = .ok (.getfield 40, 3) := by decide +kernel
theorem dX1_open_23 : decode cX1_open 23 = .ok (.iload_n 2, 1) := by decide +kernel
theorem dX1_open_24 : decode cX1_open 24 = .ok (.aload_n 1, 1) := by decide +kernel
theorem dX1_open_25 : decode cX1_open 25 = .ok (.getfield 58, 3) := by decide +kernel
theorem dX1_open_28 : decode cX1_open 28 = .ok (.aload_n 0, 1) := by decide +kernel
theorem dX1_open_29 : decode cX1_open 29 = .ok (.getfield 36, 3) := by decide +kernel
theorem dX1_open_32 : decode cX1_open 32 = .ok (.iload_n 2, 1) := by decide +kernel
theorem dX1_open_33 : decode cX1_open 33 = .ok (.iaload, 1) := by decide +kernel
theorem dX1_open_34 : decode cX1_open 34 = .ok (.iconst 2, 1) := by decide +kernel
theorem dX1_open_35 : decode cX1_open 35 = .ok (.invokevirtual 61, 3) := by decide +kernel
theorem dX1_open_38 : decode cX1_open 38 = .ok (.iastore, 1) := by decide +kernel
theorem dX1_open_39 : decode cX1_open 39 = .ok (.iinc 2 1, 3) := by decide +kernel
theorem dX1_open_42 : decode cX1_open 42 = .ok (.goto (-40), 3) := by decide +kernel
theorem dX1_open_45 : decode cX1_open 45 = .ok (.aload_n 0, 1) := by decide +kernel
theorem dX1_open_46 : decode cX1_open 46 = .ok (.getfield 14, 3) := by decide +kernel
theorem dX1_open_49 : decode cX1_open 49 = .ok (.invokevirtual 65, 3) := by decide +kernel
theorem dX1_open_52 : decode cX1_open 52 = .ok (.aload_n 0, 1) := by decide +kernel
theorem dX1_open_53 : decode cX1_open 53 = .ok (.getfield 20, 3) := by decide +kernel
theorem dX1_open_56 : decode cX1_open 56 = .ok (.invokevirtual 65, 3) := by decide +kernel
theorem dX1_open_59 : decode cX1_open 59 = .ok (.aload_n 0, 1) := by decide +kernel
theorem dX1_open_60 : decode cX1_open 60 = .ok (.iconst 0, 1) := by decide +kernel
theorem dX1_open_61 : decode cX1_open 61 = .ok (.putfield 23, 3) := by decide +kernel
theorem dX1_open_64 : decode cX1_open 64 = .ok (.aload_n 0, 1) := by decide +kernel
theorem dX1_open_65 : decode cX1_open 65 = .ok (.iconst 0, 1) := by decide +kernel
theorem dX1_open_66 : decode cX1_open 66 = .ok (.putfield 27, 3) := by decide +kernel
theorem dX1_open_69 : decode cX1_open 69 = .ok (.aload_n 0, 1) := by decide +kernel
theorem dX1_open_70 : decode cX1_open 70 = .ok (.iconst (-1), 1) := by decide +kernel
theorem dX1_open_71 : decode cX1_open 71 = .ok (.putfield 30, 3) := by decide +kernel
theorem dX1_open_74 : decode cX1_open 74 = .ok (.aload_n 0, 1) := by decide +kernel
theorem dX1_open_75 : decode cX1_open 75 = .ok (.iconst 0, 1) := by decide +kernel
theorem dX1_open_76 : decode cX1_open 76 = .ok (.putfield 33, 3) := by decide +kernel
theorem dX1_open_79 : decode cX1_open 79 = .ok (.aload_n 0, 1) := by decide +kernel
theorem dX1_open_80 : decode cX1_open 80 = .ok (.iconst 0, 1) := by decide +kernel
theorem dX1_open_81 : decode cX1_open 81 = .ok (.putfield 49, 3) := by decide +kernel
theorem dX1_open_84 : decode cX1_open 84 = .ok (.return_, 1) := by decide +kernel
theorem dX1_addInt_0 : decode cX1_addInt 0 = .ok (.aload_n 0, 1) := by decide +kernel
theorem dX1_addInt_1 : decode cX1_addInt 1 = .ok (.getfield 23, 3) := by decide +kernel
theorem dX1_addInt_4 : decode cX1_addInt 4 = .ok (.ifCond .lt 42, 3) := by decide +kernel
theorem dX1_addInt_7 : decode cX1_addInt 7 = .ok (.aload_n 0, 1) := by decide +kernel
theorem dX1_addInt_8 : decode cX1_addInt 8 = .ok (.getfield 23, 3) := by decide +kernel
theorem dX1_addInt_11 : decode cX1_addInt 11 = .ok (.bipush 60, 2) := by decide +kernel
theorem dX1_addInt_13 : decode cX1_addInt 13 = .ok (.if_icmp .ge 33, 3) := by decide +kernel
theorem dX1_addInt_16 : decode cX1_addInt 16 = .ok (.aload_n 0, 1) := by decide +kernel
theorem dX1_addInt_17 : decode cX1_addInt 17 = .ok (.getfield 43, 3) := by decide +kernel
theorem dX1_addInt_20 : decode cX1_addInt 20 = .ok (.aload_n 0, 1) := by decide +kernel
theorem dX1_addInt_21 : decode cX1_addInt 21 = .ok (.getfield 23, 3) := by decide +kernel
theorem dX1_addInt_24 : decode cX1_addInt 24 = .ok (.iload_n 1, 1) := by decide +kernel
theorem dX1_addInt_25 : decode cX1_addInt 25 = .ok (.iastore, 1) := by decide +kernel
theorem dX1_addInt_26 : decode cX1_addInt 26 = .ok (.aload_n 0, 1) := by decide +kernel
theorem dX1_addInt_27 : decode cX1_addInt 27 = .ok (.getfield 46, 3) := by decide +kernel
theorem dX1_addInt_30 : decode cX1_addInt 30 = .ok (.aload_n 0, 1) := by decide +kernel
theorem dX1_addInt_31 : decode cX1_addInt 31 = .ok (.getfield 23, 3) := by decide +kernel
theorem dX1_addInt_34 : decode cX1_addInt 34 = .ok (.iload_n 1, 1) := by decide +kernel
theorem dX1_addInt_35 : decode cX1_addInt 35 = .ok (.iastore, 1) := by decide +kernel
theorem dX1_addInt_36 : decode cX1_addInt 36 = .ok (.aload_n 0, 1) := by decide +kernel
theorem dX1_addInt_37 : decode cX1_addInt 37 = .ok (.dup, 1) := by decide +kernel
theorem dX1_addInt_38 : decode cX1_addInt 38 = .ok (.getfield 23, 3) := by decide +kernel
theorem dX1_addInt_41 : decode cX1_addInt 41 = .ok (.iconst 1, 1) := by decide +kernel
theorem dX1_addInt_42 : decode cX1_addInt 42 = .ok (.iadd, 1) := by decide +kernel
theorem dX1_addInt_43 : decode cX1_addInt 43 = .ok (.putfield 23, 3) := by decide +kernel
theorem dX1_addInt_46 : decode cX1_addInt 46 = .ok (.return_, 1) := by decide +kernel
theorem dX1_textAt_0 : decode cX1_textAt 0 = .ok (.iload_n 1, 1) := by decide +kernel
theorem dX1_textAt_1 : decode cX1_textAt 1 = .ok (.ifCond .lt 26, 3) := by decide +kernel
theorem dX1_textAt_4 : decode cX1_textAt 4 = .ok (.iload_n 1, 1) := by decide +kernel
theorem dX1_textAt_5 : decode cX1_textAt 5 = .ok (.aload_n 0, 1) := by decide +kernel
theorem dX1_textAt_6 : decode cX1_textAt 6 = .ok (.getfield 23, 3) := by decide +kernel
theorem dX1_textAt_9 : decode cX1_textAt 9 = .ok (.if_icmp .ge 18, 3) := by decide +kernel
theorem dX1_textAt_12 : decode cX1_textAt 12 = .ok (.iload_n 1, 1) := by decide +kernel
theorem dX1_textAt_13 : decode cX1_textAt 13 = .ok (.bipush 60, 2) := by decide +kernel
theorem dX1_textAt_15 : decode cX1_textAt 15 = .ok (.if_icmp .ge 12, 3) := by decide +kernel
theorem dX1_textAt_18 : decode cX1_textAt 18 = .ok (.aload_n 0, 1) := by decide +kernel
theorem dX1_textAt_19 : decode cX1_textAt 19 = .ok (.getfield 43, 3) := by decide +kernel
theorem dX1_textAt_22 : decode cX1_textAt 22 = .ok (.iload_n 1, 1) := by decide +kernel
theorem dX1_textAt_23 : decode cX1_textAt 23 = .ok (.iaload, 1) := by decide +kernel
theorem dX1_textAt_24 : decode cX1_textAt 24 = .ok (.goto 4, 3) := by decide +kernel
theorem dX1_textAt_27 : decode cX1_textAt 27 = .ok (.iconst 0, 1) := by decide +kernel
theorem dX1_textAt_28 : decode cX1_textAt 28 = .ok (.ireturn, 1) := by decide +kernel
theorem dX1_sizeOf_0 : decode cX1_sizeOf 0 = .ok (.iload_n 0, 1) := by decide +kernel
theorem dX1_sizeOf_1 : decode cX1_sizeOf 1 = .ok (.bipush 8, 2) := by decide +kernel
theorem dX1_sizeOf_3 : decode cX1_sizeOf 3 = .ok (.if_icmp .ge 7, 3) := by decide +kernel
theorem dX1_sizeOf_6 : decode cX1_sizeOf 6 = .ok (.iconst 2, 1) := by decide +kernel
theorem dX1_sizeOf_7 : decode cX1_sizeOf 7 = .ok (.goto 4, 3) := by decide +kernel
theorem dX1_sizeOf_10 : decode cX1_sizeOf 10 = .ok (.iconst 1, 1) := by decide +kernel
theorem dX1_sizeOf_11 : decode cX1_sizeOf 11 = .ok (.ireturn, 1) := by decide +kernel
theorem dX1_standsFor_0 : decode cX1_standsFor 0 = .ok (.iload_n 1, 1) := by decide +kernel
theorem dX1_standsFor_1 : decode cX1_standsFor 1 = .ok (.ifCond .lt 33, 3) := by decide +kernel
theorem dX1_standsFor_4 : decode cX1_standsFor 4 = .ok (.iload_n 1, 1) := by decide +kernel
theorem dX1_standsFor_5 : decode cX1_standsFor 5 = .ok (.bipush 16, 2) := by decide +kernel
theorem dX1_standsFor_7 : decode cX1_standsFor 7 = .ok (.if_icmp .ge 27, 3) := by decide +kernel
theorem dX1_standsFor_10 : decode cX1_standsFor 10 = .ok (.aload_n 0, 1) := by decide +kernel
theorem dX1_standsFor_11 : decode cX1_standsFor 11 = .ok (.getfield 36, 3) := by decide +kernel
theorem dX1_standsFor_14 : decode cX1_standsFor 14 = .ok (.iload_n 1, 1) := by decide +kernel
theorem dX1_standsFor_15 : decode cX1_standsFor 15 = .ok (.iaload, 1) := by decide +kernel
theorem dX1_standsFor_16 : decode cX1_standsFor 16 = .ok (.iconst (-1), 1) := by decide +kernel
theorem dX1_standsFor_17 : decode cX1_standsFor 17 = .ok (.if_icmp .eq 17, 3) := by decide +kernel
theorem dX1_standsFor_20 : decode cX1_standsFor 20 = .ok (.aload_n 0, 1) := by decide +kernel
theorem dX1_standsFor_21 : decode cX1_standsFor 21 = .ok (.getfield 40, 3) := by decide +kernel
theorem dX1_standsFor_24 : decode cX1_standsFor 24 = .ok (.iload_n 1, 1) := by decide +kernel
theorem dX1_standsFor_25 : decode cX1_standsFor 25 = .ok (.iaload, 1) := by decide +kernel
theorem dX1_standsFor_26 : decode cX1_standsFor 26 = .ok (.iload_n 2, 1) := by decide +kernel
theorem dX1_standsFor_27 : decode cX1_standsFor 27 = .ok (.if_icmp .ne 7, 3) := by decide +kernel
theorem dX1_standsFor_30 : decode cX1_standsFor 30 = .ok (.iconst 1, 1) := by decide +kernel
theorem dX1_standsFor_31 : decode cX1_standsFor 31 = .ok (.goto 4, 3) := by decide +kernel
theorem dX1_standsFor_34 : decode cX1_standsFor 34 = .ok (.iconst 0, 1) := by decide +kernel
theorem dX1_standsFor_35 : decode cX1_standsFor 35 = .ok (.ireturn, 1) := by decide +kernel
theorem dX1_isIntRight_0 : decode cX1_isIntRight 0 = .ok (.iload_n 1, 1) := by decide +kernel
theorem dX1_isIntRight_1 : decode cX1_isIntRight 1 = .ok (.tableswitch 78 0 7 #[47, 49, 56, 56, 56, 78, 78, 63], 47) := by decide +kernel
theorem dX1_isIntRight_48 : decode cX1_isIntRight 48 = .ok (.iconst 1, 1) := by decide +kernel
theorem dX1_isIntRight_49 : decode cX1_isIntRight 49 = .ok (.ireturn, 1) := by decide +kernel
theorem dX1_isIntRight_50 : decode cX1_isIntRight 50 = .ok (.aload_n 0, 1) := by decide +kernel
theorem dX1_isIntRight_51 : decode cX1_isIntRight 51 = .ok (.iload_n 2, 1) := by decide +kernel
theorem dX1_isIntRight_52 : decode cX1_isIntRight 52 = .ok (.iconst 0, 1) := by decide +kernel
theorem dX1_isIntRight_53 : decode cX1_isIntRight 53 = .ok (.invokevirtual 90, 3) := by decide +kernel
theorem dX1_isIntRight_56 : decode cX1_isIntRight 56 = .ok (.ireturn, 1) := by decide +kernel
theorem dX1_isIntRight_57 : decode cX1_isIntRight 57 = .ok (.aload_n 0, 1) := by decide +kernel
theorem dX1_isIntRight_58 : decode cX1_isIntRight 58 = .ok (.iload_n 2, 1) := by decide +kernel
theorem dX1_isIntRight_59 : decode cX1_isIntRight 59 = .ok (.iconst 1, 1) := by decide +kernel
theorem dX1_isIntRight_60 : decode cX1_isIntRight 60 = .ok (.invokevirtual 90, 3) := by decide +kernel
theorem dX1_isIntRight_63 : decode cX1_isIntRight 63 = .ok (.ireturn, 1) := by decide +kernel
theorem dX1_isIntRight_64 : decode cX1_isIntRight 64 = .ok (.iload_n 2, 1) := by decide +kernel
theorem dX1_isIntRight_65 : decode cX1_isIntRight 65 = .ok (.ifCond .lt 12, 3) := by decide +kernel
theorem dX1_isIntRight_68 : decode cX1_isIntRight 68 = .ok (.iload_n 2, 1) := by decide +kernel
theorem dX1_isIntRight_69 : decode cX1_isIntRight 69 = .ok (.iconst 5, 1) := by decide +kernel
theorem dX1_isIntRight_70 : decode cX1_isIntRight 70 = .ok (.if_icmp .ge 7, 3) := by decide +kernel
theorem dX1_isIntRight_73 : decode cX1_isIntRight 73 = .ok (.iconst 1, 1) := by decide +kernel
theorem dX1_isIntRight_74 : decode cX1_isIntRight 74 = .ok (.goto 4, 3) := by decide +kernel
theorem dX1_isIntRight_77 : decode cX1_isIntRight 77 = .ok (.iconst 0, 1) := by decide +kernel
theorem dX1_isIntRight_78 : decode cX1_isIntRight 78 = .ok (.ireturn, 1) := by decide +kernel
theorem dX1_isIntRight_79 : decode cX1_isIntRight 79 = .ok (.iload_n 2, 1) := by decide +kernel
theorem dX1_isIntRight_80 : decode cX1_isIntRight 80 = .ok (.ifCond .lt 13, 3) := by decide +kernel
theorem dX1_isIntRight_83 : decode cX1_isIntRight 83 = .ok (.iload_n 2, 1) := by decide +kernel
theorem dX1_isIntRight_84 : decode cX1_isIntRight 84 = .ok (.bipush 10, 2) := by decide +kernel
theorem dX1_isIntRight_86 : decode cX1_isIntRight 86 = .ok (.if_icmp .ge 7, 3) := by decide +kernel
theorem dX1_isIntRight_89 : decode cX1_isIntRight 89 = .ok (.iconst 1, 1) := by decide +kernel
theorem dX1_isIntRight_90 : decode cX1_isIntRight 90 = .ok (.goto 4, 3) := by decide +kernel
theorem dX1_isIntRight_93 : decode cX1_isIntRight 93 = .ok (.iconst 0, 1) := by decide +kernel
theorem dX1_isIntRight_94 : decode cX1_isIntRight 94 = .ok (.ireturn, 1) := by decide +kernel
theorem dX1_usesName_0 : decode cX1_usesName 0 = .ok (.iload_n 0, 1) := by decide +kernel
theorem dX1_usesName_1 : decode cX1_usesName 1 = .ok (.iconst 1, 1) := by decide +kernel
theorem dX1_usesName_2 : decode cX1_usesName 2 = .ok (.if_icmp .lt 12, 3) := by decide +kernel
theorem dX1_usesName_5 : decode cX1_usesName 5 = .ok (.iload_n 0, 1) := by decide +kernel
theorem dX1_usesName_6 : decode cX1_usesName 6 = .ok (.iconst 4, 1) := by decide +kernel
theorem dX1_usesName_7 : decode cX1_usesName 7 = .ok (.if_icmp .gt 7, 3) := by decide +kernel
theorem dX1_usesName_10 : decode cX1_usesName 10 = .ok (.iconst 1, 1) := by decide +kernel
theorem dX1_usesName_11 : decode cX1_usesName 11 = .ok (.goto 4, 3) := by decide +kernel
theorem dX1_usesName_14 : decode cX1_usesName 14 = .ok (.iconst 0, 1) := by decide +kernel
theorem dX1_usesName_15 : decode cX1_usesName 15 = .ok (.ireturn, 1) := by decide +kernel
theorem dX1_bind_0 : decode cX1_bind 0 = .ok (.aload_n 0, 1) := by decide +kernel
theorem dX1_bind_1 : decode cX1_bind 1 = .ok (.iload_n 1, 1) := by decide +kernel
theorem dX1_bind_2 : decode cX1_bind 2 = .ok (.invokevirtual 83, 3) := by decide +kernel
theorem dX1_bind_5 : decode cX1_bind 5 = .ok (.istore_n 2, 1) := by decide +kernel
theorem dX1_bind_6 : decode cX1_bind 6 = .ok (.iload_n 2, 1) := by decide +kernel
theorem dX1_bind_7 : decode cX1_bind 7 = .ok (.invokestatic 124, 3) := by decide +kernel
theorem dX1_bind_10 : decode cX1_bind 10 = .ok (.ifCond .eq 37, 3) := by decide +kernel
theorem dX1_bind_13 : decode cX1_bind 13 = .ok (.iload_n 1, 1) := by decide +kernel
theorem dX1_bind_14 : decode cX1_bind 14 = .ok (.ifCond .lt 33, 3) := by decide +kernel
theorem dX1_bind_17 : decode cX1_bind 17 = .ok (.iload_n 1, 1) := by decide +kernel
theorem dX1_bind_18 : decode cX1_bind 18 = .ok (.bipush 60, 2) := by decide +kernel
theorem dX1_bind_20 : decode cX1_bind 20 = .ok (.if_icmp .ge 27, 3) := by decide +kernel
theorem dX1_bind_23 : decode cX1_bind 23 = .ok (.aload_n 0, 1) := by decide +kernel
theorem dX1_bind_24 : decode cX1_bind 24 = .ok (.getfield 46, 3) := by decide +kernel
theorem dX1_bind_27 : decode cX1_bind 27 = .ok (.iload_n 1, 1) := by decide +kernel
theorem dX1_bind_28 : decode cX1_bind 28 = .ok (.aload_n 0, 1) := by decide +kernel
theorem dX1_bind_29 : decode cX1_bind 29 = .ok (.getfield 36, 3) := by decide +kernel
theorem dX1_bind_32 : decode cX1_bind 32 = .ok (.iload_n 2, 1) := by decide +kernel
theorem dX1_bind_33 : decode cX1_bind 33 = .ok (.iaload, 1) := by decide +kernel
theorem dX1_bind_34 : decode cX1_bind 34 = .ok (.iastore, 1) := by decide +kernel
theorem dX1_bind_35 : decode cX1_bind 35 = .ok (.aload_n 0, 1) := by decide +kernel
theorem dX1_bind_36 : decode cX1_bind 36 = .ok (.dup, 1) := by decide +kernel
theorem dX1_bind_37 : decode cX1_bind 37 = .ok (.getfield 27, 3) := by decide +kernel
theorem dX1_bind_40 : decode cX1_bind 40 = .ok (.iconst 1, 1) := by decide +kernel
theorem dX1_bind_41 : decode cX1_bind 41 = .ok (.iload_n 2, 1) := by decide +kernel
theorem dX1_bind_42 : decode cX1_bind 42 = .ok (.ishl, 1) := by decide +kernel
theorem dX1_bind_43 : decode cX1_bind 43 = .ok (.ior, 1) := by decide +kernel
theorem dX1_bind_44 : decode cX1_bind 44 = .ok (.putfield 27, 3) := by decide +kernel
theorem dX1_bind_47 : decode cX1_bind 47 = .ok (.return_, 1) := by decide +kernel
theorem dX1_codeFault_0 : decode cX1_codeFault 0 = .ok (.iload_n 1, 1) := by decide +kernel
theorem dX1_codeFault_1 : decode cX1_codeFault 1 = .ok (.istore 4, 2) := by decide +kernel
theorem dX1_codeFault_3 : decode cX1_codeFault 3 = .ok (.iconst 0, 1) := by decide +kernel
theorem dX1_codeFault_4 : decode cX1_codeFault 4 = .ok (.istore 5, 2) := by decide +kernel
theorem dX1_codeFault_6 : decode cX1_codeFault 6 = .ok (.iconst 0, 1) := by decide +kernel
theorem dX1_codeFault_7 : decode cX1_codeFault 7 = .ok (.istore 6, 2) := by decide +kernel
theorem dX1_codeFault_9 : decode cX1_codeFault 9 = .ok (.iload 6, 2) := by decide +kernel
theorem dX1_codeFault_11 : decode cX1_codeFault 11 = .ok (.bipush 60, 2) := by decide +kernel
theorem dX1_codeFault_13 : decode cX1_codeFault 13 = .ok (.if_icmp .ge 148, 3) := by decide +kernel
theorem dX1_codeFault_16 : decode cX1_codeFault 16 = .ok (.iload 4, 2) := by decide +kernel
theorem dX1_codeFault_18 : decode cX1_codeFault 18 = .ok (.iload_n 2, 1) := by decide +kernel
theorem dX1_codeFault_19 : decode cX1_codeFault 19 = .ok (.if_icmp .ge 142, 3) := by decide +kernel
theorem dX1_codeFault_22 : decode cX1_codeFault 22 = .ok (.aload_n 0, 1) := by decide +kernel
theorem dX1_codeFault_23 : decode cX1_codeFault 23 = .ok (.iload 4, 2) := by decide +kernel
theorem dX1_codeFault_25 : decode cX1_codeFault 25 = .ok (.invokevirtual 83, 3) := by decide +kernel
theorem dX1_codeFault_28 : decode cX1_codeFault 28 = .ok (.istore 7, 2) := by decide +kernel
theorem dX1_codeFault_30 : decode cX1_codeFault 30 = .ok (.iload 7, 2) := by decide +kernel
theorem dX1_codeFault_32 : decode cX1_codeFault 32 = .ok (.ifCond .lt 23, 3) := by decide +kernel
theorem dX1_codeFault_35 : decode cX1_codeFault 35 = .ok (.iload 7, 2) := by decide +kernel
theorem dX1_codeFault_37 : decode cX1_codeFault 37 = .ok (.getstatic 112, 3) := by decide +kernel
theorem dX1_codeFault_40 : decode cX1_codeFault 40 = .ok (.arraylength, 1) := by decide +kernel
theorem dX1_codeFault_41 : decode cX1_codeFault 41 = .ok (.if_icmp .ge 14, 3) := by decide +kernel
theorem dX1_codeFault_44 : decode cX1_codeFault 44 = .ok (.iload 5, 2) := by decide +kernel
theorem dX1_codeFault_46 : decode cX1_codeFault 46 = .ok (.getstatic 112, 3) := by decide +kernel
theorem dX1_codeFault_49 : decode cX1_codeFault 49 = .ok (.iload 7, 2) := by decide +kernel
theorem dX1_codeFault_51 : decode cX1_codeFault 51 = .ok (.iaload, 1) := by decide +kernel
theorem dX1_codeFault_52 : decode cX1_codeFault 52 = .ok (.if_icmp .ge 6, 3) := by decide +kernel
theorem dX1_codeFault_55 : decode cX1_codeFault 55 = .ok (.iload 4, 2) := by decide +kernel
theorem dX1_codeFault_57 : decode cX1_codeFault 57 = .ok (.ireturn, 1) := by decide +kernel
theorem dX1_codeFault_58 : decode cX1_codeFault 58 = .ok (.iload_n 3, 1) := by decide +kernel
theorem dX1_codeFault_59 : decode cX1_codeFault 59 = .ok (.ifCond .ne 20, 3) := by decide +kernel
theorem dX1_codeFault_62 : decode cX1_codeFault 62 = .ok (.iload 7, 2) := by decide +kernel
theorem dX1_codeFault_64 : decode cX1_codeFault 64 = .ok (.bipush 16, 2) := by decide +kernel
theorem dX1_codeFault_66 : decode cX1_codeFault 66 = .ok (.if_icmp .eq 10, 3) := by decide +kernel
theorem dX1_codeFault_69 : decode cX1_codeFault 69 = .ok (.iload 7, 2) := by decide +kernel
theorem dX1_codeFault_71 : decode cX1_codeFault 71 = .ok (.bipush 17, 2) := by decide +kernel
theorem dX1_codeFault_73 : decode cX1_codeFault 73 = .ok (.if_icmp .ne 6, 3) := by decide +kernel
theorem dX1_codeFault_76 : decode cX1_codeFault 76 = .ok (.iload 4, 2) := by decide +kernel
theorem dX1_codeFault_78 : decode cX1_codeFault 78 = .ok (.ireturn, 1) := by decide +kernel
theorem dX1_codeFault_79 : decode cX1_codeFault 79 = .ok (.iload 4, 2) := by decide +kernel
theorem dX1_codeFault_81 : decode cX1_codeFault 81 = .ok (.iload 7, 2) := by decide +kernel
theorem dX1_codeFault_83 : decode cX1_codeFault 83 = .ok (.invokestatic 115, 3) := by decide +kernel
theorem dX1_codeFault_86 : decode cX1_codeFault 86 = .ok (.iadd, 1) := by decide +kernel
theorem dX1_codeFault_87 : decode cX1_codeFault 87 = .ok (.istore 8, 2) := by decide +kernel
theorem dX1_codeFault_89 : decode cX1_codeFault 89 = .ok (.iload 8, 2) := by decide +kernel
theorem dX1_codeFault_91 : decode cX1_codeFault 91 = .ok (.iload_n 2, 1) := by decide +kernel
theorem dX1_codeFault_92 : decode cX1_codeFault 92 = .ok (.if_icmp .gt 27, 3) := by decide +kernel
theorem dX1_codeFault_95 : decode cX1_codeFault 95 = .ok (.iload 7, 2) := by decide +kernel
theorem dX1_codeFault_97 : decode cX1_codeFault 97 = .ok (.bipush 8, 2) := by decide +kernel
theorem dX1_codeFault_99 : decode cX1_codeFault 99 = .ok (.if_icmp .ge 23, 3) := by decide +kernel
theorem dX1_codeFault_102 : decode cX1_codeFault 102 = .ok (.aload_n 0, 1) := by decide +kernel
theorem dX1_codeFault_103 : decode cX1_codeFault 103 = .ok (.iload 7, 2) := by decide +kernel
theorem dX1_codeFault_105 : decode cX1_codeFault 105 = .ok (.aload_n 0, 1) := by decide +kernel
theorem dX1_codeFault_106 : decode cX1_codeFault 106 = .ok (.iload 4, 2) := by decide +kernel
theorem dX1_codeFault_108 : decode cX1_codeFault 108 = .ok (.iconst 1, 1) := by decide +kernel
theorem dX1_codeFault_109 : decode cX1_codeFault 109 = .ok (.iadd, 1) := by decide +kernel
theorem dX1_codeFault_110 : decode cX1_codeFault 110 = .ok (.invokevirtual 83, 3) := by decide +kernel
theorem dX1_codeFault_113 : decode cX1_codeFault 113 = .ok (.invokevirtual 118, 3) := by decide +kernel
theorem dX1_codeFault_116 : decode cX1_codeFault 116 = .ok (.ifCond .ne 6, 3) := by decide +kernel
theorem dX1_codeFault_119 : decode cX1_codeFault 119 = .ok (.iload 4, 2) := by decide +kernel
theorem dX1_codeFault_121 : decode cX1_codeFault 121 = .ok (.ireturn, 1) := by decide +kernel
theorem dX1_codeFault_122 : decode cX1_codeFault 122 = .ok (.iload 7, 2) := by decide +kernel
theorem dX1_codeFault_124 : decode cX1_codeFault 124 = .ok (.invokestatic 121, 3) := by decide +kernel
theorem dX1_codeFault_127 : decode cX1_codeFault 127 = .ok (.ifCond .eq 11, 3) := by decide +kernel
theorem dX1_codeFault_130 : decode cX1_codeFault 130 = .ok (.aload_n 0, 1) := by decide +kernel
theorem dX1_codeFault_131 : decode cX1_codeFault 131 = .ok (.iload 4, 2) := by decide +kernel
theorem dX1_codeFault_133 : decode cX1_codeFault 133 = .ok (.iconst 1, 1) := by decide +kernel
theorem dX1_codeFault_134 : decode cX1_codeFault 134 = .ok (.iadd, 1) := by decide +kernel
theorem dX1_codeFault_135 : decode cX1_codeFault 135 = .ok (.invokevirtual 94, 3) := by decide +kernel
theorem dX1_codeFault_138 : decode cX1_codeFault 138 = .ok (.iload 5, 2) := by decide +kernel
theorem dX1_codeFault_140 : decode cX1_codeFault 140 = .ok (.iconst 1, 1) := by decide +kernel
theorem dX1_codeFault_141 : decode cX1_codeFault 141 = .ok (.getstatic 112, 3) := by decide +kernel
theorem dX1_codeFault_144 : decode cX1_codeFault 144 = .ok (.iload 7, 2) := by decide +kernel
theorem dX1_codeFault_146 : decode cX1_codeFault 146 = .ok (.iaload, 1) := by decide +kernel
theorem dX1_codeFault_147 : decode cX1_codeFault 147 = .ok (.isub, 1) := by decide +kernel
theorem dX1_codeFault_148 : decode cX1_codeFault 148 = .ok (.iadd, 1) := by decide +kernel
theorem dX1_codeFault_149 : decode cX1_codeFault 149 = .ok (.istore 5, 2) := by decide +kernel
theorem dX1_codeFault_151 : decode cX1_codeFault 151 = .ok (.iload 8, 2) := by decide +kernel
theorem dX1_codeFault_153 : decode cX1_codeFault 153 = .ok (.istore 4, 2) := by decide +kernel
theorem dX1_codeFault_155 : decode cX1_codeFault 155 = .ok (.iinc 6 1, 3) := by decide +kernel
theorem dX1_codeFault_158 : decode cX1_codeFault 158 = .ok (.goto (-149), 3) := by decide +kernel
theorem dX1_codeFault_161 : decode cX1_codeFault 161 = .ok (.iload 5, 2) := by decide +kernel
theorem dX1_codeFault_163 : decode cX1_codeFault 163 = .ok (.iconst 1, 1) := by decide +kernel
theorem dX1_codeFault_164 : decode cX1_codeFault 164 = .ok (.if_icmp .ne 7, 3) := by decide +kernel
theorem dX1_codeFault_167 : decode cX1_codeFault 167 = .ok (.iconst (-1), 1) := by decide +kernel
theorem dX1_codeFault_168 : decode cX1_codeFault 168 = .ok (.goto 4, 3) := by decide +kernel
theorem dX1_codeFault_171 : decode cX1_codeFault 171 = .ok (.iload_n 2, 1) := by decide +kernel
theorem dX1_codeFault_172 : decode cX1_codeFault 172 = .ok (.ireturn, 1) := by decide +kernel
theorem dX1_isThere_0 : decode cX1_isThere 0 = .ok (.iload_n 1, 1) := by decide +kernel
theorem dX1_isThere_1 : decode cX1_isThere 1 = .ok (.aload_n 0, 1) := by decide +kernel
theorem dX1_isThere_2 : decode cX1_isThere 2 = .ok (.getfield 23, 3) := by decide +kernel
theorem dX1_isThere_5 : decode cX1_isThere 5 = .ok (.if_icmp .ge 25, 3) := by decide +kernel
theorem dX1_isThere_8 : decode cX1_isThere 8 = .ok (.aload_n 0, 1) := by decide +kernel
theorem dX1_isThere_9 : decode cX1_isThere 9 = .ok (.iload_n 1, 1) := by decide +kernel
theorem dX1_isThere_10 : decode cX1_isThere 10 = .ok (.invokevirtual 83, 3) := by decide +kernel
theorem dX1_isThere_13 : decode cX1_isThere 13 = .ok (.iload_n 2, 1) := by decide +kernel
theorem dX1_isThere_14 : decode cX1_isThere 14 = .ok (.if_icmp .lt 16, 3) := by decide +kernel
theorem dX1_isThere_17 : decode cX1_isThere 17 = .ok (.aload_n 0, 1) := by decide +kernel
theorem dX1_isThere_18 : decode cX1_isThere 18 = .ok (.iload_n 1, 1) := by decide +kernel
theorem dX1_isThere_19 : decode cX1_isThere 19 = .ok (.invokevirtual 83, 3) := by decide +kernel
theorem dX1_isThere_22 : decode cX1_isThere 22 = .ok (.iload_n 3, 1) := by decide +kernel
theorem dX1_isThere_23 : decode cX1_isThere 23 = .ok (.if_icmp .gt 7, 3) := by decide +kernel
theorem dX1_isThere_26 : decode cX1_isThere 26 = .ok (.iconst 1, 1) := by decide +kernel
theorem dX1_isThere_27 : decode cX1_isThere 27 = .ok (.goto 4, 3) := by decide +kernel
theorem dX1_isThere_30 : decode cX1_isThere 30 = .ok (.iconst 0, 1) := by decide +kernel
theorem dX1_isThere_31 : decode cX1_isThere 31 = .ok (.ireturn, 1) := by decide +kernel
theorem dX1_readParent_0 : decode cX1_readParent 0 = .ok (.aload_n 0, 1) := by decide +kernel
theorem dX1_readParent_1 : decode cX1_readParent 1 = .ok (.iconst 0, 1) := by decide +kernel
theorem dX1_readParent_2 : decode cX1_readParent 2 = .ok (.iconst (-1), 1) := by decide +kernel
theorem dX1_readParent_3 : decode cX1_readParent 3 = .ok (.bipush 15, 2) := by decide +kernel
theorem dX1_readParent_5 : decode cX1_readParent 5 = .ok (.invokevirtual 86, 3) := by decide +kernel
theorem dX1_readParent_8 : decode cX1_readParent 8 = .ok (.ifCond .ne 5, 3) := by decide +kernel
theorem dX1_readParent_11 : decode cX1_readParent 11 = .ok (.iconst 0, 1) := by decide +kernel
theorem dX1_readParent_12 : decode cX1_readParent 12 = .ok (.ireturn, 1) := by decide +kernel
theorem dX1_readParent_13 : decode cX1_readParent 13 = .ok (.aload_n 0, 1) := by decide +kernel
theorem dX1_readParent_14 : decode cX1_readParent 14 = .ok (.iconst 1, 1) := by decide +kernel
theorem dX1_readParent_15 : decode cX1_readParent 15 = .ok (.putfield 49, 3) := by decide +kernel
theorem dX1_readParent_18 : decode cX1_readParent 18 = .ok (.aload_n 0, 1) := by decide +kernel
theorem dX1_readParent_19 : decode cX1_readParent 19 = .ok (.iconst 0, 1) := by decide +kernel
theorem dX1_readParent_20 : decode cX1_readParent 20 = .ok (.invokevirtual 83, 3) := by decide +kernel
theorem dX1_readParent_23 : decode cX1_readParent 23 = .ok (.iconst (-1), 1) := by decide +kernel
theorem dX1_readParent_24 : decode cX1_readParent 24 = .ok (.if_icmp .ne 5, 3) := by decide +kernel
theorem dX1_readParent_27 : decode cX1_readParent 27 = .ok (.iconst 1, 1) := by decide +kernel
theorem dX1_readParent_28 : decode cX1_readParent 28 = .ok (.ireturn, 1) := by decide +kernel
theorem dX1_readParent_29 : decode cX1_readParent 29 = .ok (.aload_n 0, 1) := by decide +kernel
theorem dX1_readParent_30 : decode cX1_readParent 30 = .ok (.aload_n 0, 1) := by decide +kernel
theorem dX1_readParent_31 : decode cX1_readParent 31 = .ok (.iconst 0, 1) := by decide +kernel
theorem dX1_readParent_32 : decode cX1_readParent 32 = .ok (.invokevirtual 83, 3) := by decide +kernel
theorem dX1_readParent_35 : decode cX1_readParent 35 = .ok (.iconst 1, 1) := by decide +kernel
theorem dX1_readParent_36 : decode cX1_readParent 36 = .ok (.invokevirtual 90, 3) := by decide +kernel
theorem dX1_readParent_39 : decode cX1_readParent 39 = .ok (.ifCond .ne 5, 3) := by decide +kernel
theorem dX1_readParent_42 : decode cX1_readParent 42 = .ok (.iconst 0, 1) := by decide +kernel
theorem dX1_readParent_43 : decode cX1_readParent 43 = .ok (.ireturn, 1) := by decide +kernel
theorem dX1_readParent_44 : decode cX1_readParent 44 = .ok (.aload_n 0, 1) := by decide +kernel
theorem dX1_readParent_45 : decode cX1_readParent 45 = .ok (.iconst 0, 1) := by decide +kernel
theorem dX1_readParent_46 : decode cX1_readParent 46 = .ok (.invokevirtual 94, 3) := by decide +kernel
theorem dX1_readParent_49 : decode cX1_readParent 49 = .ok (.aload_n 0, 1) := by decide +kernel
theorem dX1_readParent_50 : decode cX1_readParent 50 = .ok (.aload_n 0, 1) := by decide +kernel
theorem dX1_readParent_51 : decode cX1_readParent 51 = .ok (.iconst 0, 1) := by decide +kernel
theorem dX1_readParent_52 : decode cX1_readParent 52 = .ok (.invokevirtual 98, 3) := by decide +kernel
theorem dX1_readParent_55 : decode cX1_readParent 55 = .ok (.putfield 30, 3) := by decide +kernel
theorem dX1_readParent_58 : decode cX1_readParent 58 = .ok (.iconst 1, 1) := by decide +kernel
theorem dX1_readParent_59 : decode cX1_readParent 59 = .ok (.ireturn, 1) := by decide +kernel
section CM
variable {ρ : Type} {p : Program} {l : Launch} {e : Env} {s : State} {m : MethodId} {args : Array Value} {below : List Frame} {meth : Method} {c : Code}
variable {cc : ByteArray} {nL : Nat} {own : String} {rt : Option FieldType} {D : va_G} {cI : ClassId} {sf : sfT} {A : Nat → Prop} {q : Nat → Nat} {tk : Nat} {fr lo : Nat} {S0 S : CS} {QQ : ρ × CS → State → Prop} {pc : Nat} {lv : List (Nat × Value)}

-- X0.nextToRun
def f0_nextToRun_b47 (n : Nat) (k5 : Int64 → Int32 → Int32 → CS → Option (Int32 × CS)) (x1 : Int64) (x3 : Int32) (x4 : Int32) (S : CS) : Option (Int32 × CS) :=
    k5 x1 x3 (x4 + (nI 1)) S
theorem mw0_nextToRun_b47 (n : Nat) (k5 : Int64 → Int32 → Int32 → CS → Option (Int32 × CS)) (mhk5 : ∀ (x1 : Int64) (x3 : Int32) (x4 : Int32) (S : CS), mo S (k5 x1 x3 x4 S)) (x1 : Int64) (x3 : Int32) (x4 : Int32) (S : CS) : mo S (f0_nextToRun_b47 n k5 x1 x3 x4 S) := by
  unfold f0_nextToRun_b47
  exact mhk5 x1 x3 (x4 + (nI 1)) S
theorem w0_nextToRun_b47 (hsf : sfOk (SF tk)) (X : hX p s m args meth c cX0_nextToRun 5 RX0 (some .int) D (tyC cI) (SF tk) A) (n : Nat) (k5 : Int64 → Int32 → Int32 → CS → Option (Int32 × CS)) (hk5 : ∀ (x1 : Int64) (x3 : Int32) (x4 : Int32) (S : CS), hG p l e (fun r => rmC 3 71 (cS r.2 - cS S0) (sS r.2 - sS S0)) s m args below meth c 5 (ZW D (wC cI q) A s.heap S0 S) (cS S - cS S0) (sS S - sS S0) (fun r => MQ below (QWi D (tyC cI) (wC cI q) A r) args s (cS r.2 - cS S0) (sS r.2 - sS S0) A) (fun r => le S r.2) 5 [(0, .ref (q 53)), (1, .long x1), (3, .int x3), (4, .int x4)] [] (k5 x1 x3 x4 S)) (x1 : Int64) (x3 : Int32) (x4 : Int32) (S : CS) : hG p l e (fun r => rmC 3 71 (cS r.2 - cS S0) (sS r.2 - sS S0)) s m args below meth c 5 (ZW D (wC cI q) A s.heap S0 S) (cS S - cS S0) (sS S - sS S0) (fun r => MQ below (QWi D (tyC cI) (wC cI q) A r) args s (cS r.2 - cS S0) (sS r.2 - sS S0) A) (fun r => le S r.2) 47 [(0, .ref (q 53)), (1, .long x1), (3, .int x3), (4, .int x4)] [] (f0_nextToRun_b47 n k5 x1 x3 x4 S) := by
  unfold f0_nextToRun_b47
  refine h_iinc (v := (nI 1)) (lv' := [(4, .int (x4 + (nI 1))), (0, .ref (q 53)), (1, .long x1), (3, .int x3)]) X dX0_nextToRun_47 rfl (by decide) (by decide) rfl ?_
  refine h_goto (tgt := 5) X dX0_nextToRun_50 (by decide) ?_
  exact h_pick [1, 2, 3, 0] rfl (hk5 x1 x3 (x4 + (nI 1)) S)
theorem tlX0_123 : Cond.methodLink RX0 123 yX0_leansOnWaiting ∈ tt := tt_in (List.mem_of_getElem? (i := 649) (by decide +kernel)) (by decide +kernel)
def f0_nextToRun_l5 (n : Nat) : Nat → Int64 → Int32 → Int32 → CS → Option (Int32 × CS)
  | 0, _, _, _, _ => none
  | k + 1, x1, x3, x4, S => bT 5 S (f2_size n (tOf 5 S)) fun v1 S1 =>
    if v1 ≤ x4 then
      (some (x3, S1))
    else
      (bnd (f0_isMarked n x1 x4 S1) fun v2 S2 =>
      if v2 = 0 then
        (f0_nextToRun_b47 n (f0_nextToRun_l5 n k) x1 x3 x4 S2)
      else
        (bnd (f0_leansOnWaiting n x4 x1 S2) fun v3 S3 =>
        if v3 = 0 then
          (some (x4, S3))
        else
          (if x3 = (-1 : Int32) then
            (f0_nextToRun_b47 n (f0_nextToRun_l5 n k) x1 x4 x4 S3)
          else
            (f0_nextToRun_b47 n (f0_nextToRun_l5 n k) x1 x3 x4 S3))))
theorem mw0_nextToRun_l5 (n : Nat) : ∀ (k : Nat) (x1 : Int64) (x3 : Int32) (x4 : Int32) (S : CS), mo S (f0_nextToRun_l5 n k x1 x3 x4 S) := by
  intro k
  induction k with
  | zero =>
    intro x1 x3 x4 S
    exact m_none
  | succ k ih =>
    intro x1 x3 x4 S
    rw [f0_nextToRun_l5]
    refine m_bT (mo2_size _ _) (fun v1 S1 => ?_)
    refine m_ite ?_ ?_
    · exact m_some
    · refine m_bnd (mo0_isMarked _ _ _ _) (fun v2 S2 => ?_)
      refine m_ite ?_ ?_
      · exact mw0_nextToRun_b47 n (f0_nextToRun_l5 n k) ih x1 x3 x4 S2
      · refine m_bnd (mo0_leansOnWaiting _ _ _ _) (fun v3 S3 => ?_)
        refine m_ite ?_ ?_
        · exact m_some
        · refine m_ite ?_ ?_
          · exact mw0_nextToRun_b47 n (f0_nextToRun_l5 n k) ih x1 x4 x4 S3
          · exact mw0_nextToRun_b47 n (f0_nextToRun_l5 n k) ih x1 x3 x4 S3
theorem w0_nextToRun_l5 (hsf : sfOk (SF tk)) (X : hX p s m args meth c cX0_nextToRun 5 RX0 (some .int) D (tyC cI) (SF tk) A) (n : Nat) : ∀ (k : Nat) (x1 : Int64) (x3 : Int32) (x4 : Int32) (S : CS), hG p l e (fun r => rmC 3 71 (cS r.2 - cS S0) (sS r.2 - sS S0)) s m args below meth c 5 (ZW D (wC cI q) A s.heap S0 S) (cS S - cS S0) (sS S - sS S0) (fun r => MQ below (QWi D (tyC cI) (wC cI q) A r) args s (cS r.2 - cS S0) (sS r.2 - sS S0) A) (fun r => le S r.2) 5 [(0, .ref (q 53)), (1, .long x1), (3, .int x3), (4, .int x4)] [] (f0_nextToRun_l5 n k x1 x3 x4 S) := by
  intro k
  induction k with
  | zero =>
    intro x1 x3 x4 S
    exact h_none
  | succ k ih =>
    intro x1 x3 x4 S
    rw [f0_nextToRun_l5]
    refine h_iload X dX0_nextToRun_5 rfl ?_
    refine h_aload_n X dX0_nextToRun_7 rfl rfl ?_
    refine c_g_IM_cells X fl0_16 dX0_nextToRun_8 ?_
    refine kt2_size_5 hsf X tlX0_61 ⟨Nat.le_of_ble_eq_true rfl, Nat.le_of_ble_eq_true rfl⟩ (Nat.le_of_ble_eq_true rfl) dX0_nextToRun_11 ?_
    intro v1 S1
    refine h_icmp_ge (tgt := 53) X dX0_nextToRun_14 (by decide) ?_ ?_
    · refine h_iload_n X dX0_nextToRun_53 rfl rfl ?_
      exact h_iret X dX0_nextToRun_54
    · refine h_lload_n X dX0_nextToRun_17 rfl rfl ?_
      refine h_iload X dX0_nextToRun_18 rfl ?_
      refine k0_isMarked hsf X tlX0_113 ⟨Nat.le_of_ble_eq_true rfl, Nat.le_of_ble_eq_true rfl⟩ (Nat.le_of_ble_eq_true rfl) dX0_nextToRun_20 ?_
      intro v2 S2
      refine h_if_eq (tgt := 47) X dX0_nextToRun_23 (by decide) ?_ ?_
      · exact h_pick [0, 1, 2, 3] rfl (w0_nextToRun_b47 hsf X n (f0_nextToRun_l5 n k) ih x1 x3 x4 S2)
      · refine h_aload_n X dX0_nextToRun_26 rfl rfl ?_
        refine h_iload X dX0_nextToRun_27 rfl ?_
        refine h_lload_n X dX0_nextToRun_29 rfl rfl ?_
        refine k0_leansOnWaiting hsf X tlX0_123 ⟨Nat.le_of_ble_eq_true rfl, Nat.le_of_ble_eq_true rfl⟩ (Nat.le_of_ble_eq_true rfl) dX0_nextToRun_30 ?_
        intro v3 S3
        refine h_if_ne (tgt := 39) X dX0_nextToRun_33 (by decide) ?_ ?_
        · refine h_iload_n X dX0_nextToRun_39 rfl rfl ?_
          refine h_iconst (v := (-1 : Int32)) X dX0_nextToRun_40 (by decide) ?_
          refine h_icmp_ne (tgt := 47) X dX0_nextToRun_41 (by decide) ?_ ?_
          · exact h_pick [0, 1, 2, 3] rfl (w0_nextToRun_b47 hsf X n (f0_nextToRun_l5 n k) ih x1 x3 x4 S3)
          · refine h_iload X dX0_nextToRun_44 rfl ?_
            refine h_istore_n (lv' := [(3, .int x4), (0, .ref (q 53)), (1, .long x1), (4, .int x4)]) X dX0_nextToRun_46 rfl (by decide) rfl ?_
            exact h_pick [1, 2, 0, 3] rfl (w0_nextToRun_b47 hsf X n (f0_nextToRun_l5 n k) ih x1 x4 x4 S3)
        · refine h_iload X dX0_nextToRun_36 rfl ?_
          exact h_iret X dX0_nextToRun_38
def f0_nextToRun (n : Nat) (x1 : Int64) (S : CS) : Option (Int32 × CS) :=
    f0_nextToRun_l5 n n x1 (-1 : Int32) (nI 0) S
theorem w0_nextToRun (hsf : sfOk (SF tk)) (X : hX p s m args meth c cX0_nextToRun 5 RX0 (some .int) D (tyC cI) (SF tk) A) {S0 : CS} (n : Nat) (x1 : Int64) (S : CS) : hG p l e (fun r => rmC 3 71 (cS r.2 - cS S0) (sS r.2 - sS S0)) s m args below meth c 5 (ZW D (wC cI q) A s.heap S0 S) (cS S - cS S0) (sS S - sS S0) (fun r => MQ below (QWi D (tyC cI) (wC cI q) A r) args s (cS r.2 - cS S0) (sS r.2 - sS S0) A) (fun r => le S r.2) 0 [(0, .ref (q 53)), (1, .long x1)] [] (f0_nextToRun n x1 S) := by
    unfold f0_nextToRun
    refine h_iconst (v := (-1 : Int32)) X dX0_nextToRun_0 (by decide) ?_
    refine h_istore_n (lv' := [(3, .int (-1 : Int32)), (0, .ref (q 53)), (1, .long x1)]) X dX0_nextToRun_1 rfl (by decide) rfl ?_
    refine h_iconst (v := (nI 0)) X dX0_nextToRun_2 (by decide) ?_
    refine h_istore (lv' := [(4, .int (nI 0)), (3, .int (-1 : Int32)), (0, .ref (q 53)), (1, .long x1)]) X dX0_nextToRun_3 (by decide) rfl ?_
    exact h_pick [2, 3, 1, 0] rfl (w0_nextToRun_l5 hsf X n n x1 (-1 : Int32) (nI 0) S)
theorem mo0_nextToRun (n : Nat) (x1 : Int64) (S : CS) : mo S (f0_nextToRun n x1 S) := by
    unfold f0_nextToRun
    exact mw0_nextToRun_l5 n n x1 (-1 : Int32) (nI 0) S
theorem c0_nextToRun (hsf : sfOk (SF tk)) (l : Launch) (D : va_G) (cI : ClassId) (q : Nat → Nat) (n : Nat) (x1 : Int64) (S : CS) : MetW l D (tyC cI) (SF tk) (wC cI q) yX0_nextToRun cX0_nextToRun 5 (some .int) 3 71 QWi [.ref (q 53), .long x1] S (f0_nextToRun n x1 S) := by
  refine MetW.of (own := RX0) (by decide) rfl (Nat.le_of_ble_eq_true rfl) (mo0_nextToRun n x1 S) ?_
  intro x p e s m args below meth c X
  refine h_pick (lv' := [(0, .ref (q 53)), (1, .long x1)]) [0, 1] rfl ?_
  exact h_close (w0_nextToRun hsf X n x1 S)
theorem tc0_nextToRun : Cond.code yX0_nextToRun cX0_nextToRun 5 (some .int) ∈ tt := tt_in (List.mem_of_getElem? (i := 648) (by decide +kernel)) (by decide +kernel)
theorem ti0_nextToRun : Cond.instanceMethod yX0_nextToRun ∈ tt := tt_in (List.mem_of_getElem? (i := 646) (by decide +kernel)) (by decide +kernel)
theorem te0_nextToRun : Cond.selects RX0 yX0_nextToRun yX0_nextToRun ∈ tt := tt_in (List.mem_of_getElem? (i := 647) (by decide +kernel)) (by decide +kernel)
theorem k0_nextToRun (hsf : sfOk (SF tk)) (X : hX p s m args meth c cc nL own rt D (tyC cI) (SF tk) A) {n : Nat} {x1 : Int64} {ix : Nat} (hlk : Cond.methodLink own ix yX0_nextToRun ∈ tt) {rest : List Value} {K : Int32 → CS → Option (ρ × CS)} (hR : 3 + 1 ≤ fr ∧ 8 + (5 + 11) + 71 ≤ lo) (hcat : (rest.map fun v => v.category).sum ≤ 8) (d : decode cc pc = .ok (.invokevirtual ix, 3)) (kk : ∀ v S1, hG p l e (fun r => rmC fr lo (cS r.2 - cS S0) (sS r.2 - sS S0)) s m args below meth c nL (ZW D (wC cI q) A s.heap S0 S1) (cS S1 - cS S0) (sS S1 - sS S0) QQ (fun r => le S1 r.2) (pc + 3) lv (.int v :: rest) (K v S1)) : hG p l e (fun r => rmC fr lo (cS r.2 - cS S0) (sS r.2 - sS S0)) s m args below meth c nL (ZW D (wC cI q) A s.heap S0 S) (cS S - cS S0) (sS S - sS S0) QQ (fun r => le S r.2) pc lv (.long x1 :: .ref (q 53) :: rest) (bnd (f0_nextToRun n x1 S) K) := h_callVi (As := [.long x1]) (b := q 53) (C := RX0) hsf X (c0_nextToRun hsf l D cI q n x1 S) (cwVC (k := 1) X.1.2.2.2.2.1 hlk ti0_nextToRun te0_nextToRun tc0_nextToRun ini_0 (by decide +kernel) hR) (fun x H h1 h2 => va_recv h1 h2 (ci := 0) (q0 := 9) rfl rfl) rfl rfl hcat d kk
-- X1.open
theorem tlX1_65 : Cond.methodLink RX1 65 yX2_clear ∈ tt := tt_in (List.mem_of_getElem? (i := 320) (by decide +kernel)) (by decide +kernel)
theorem tlX1_52 : Cond.methodLink RX1 52 yX0_newestOf ∈ tt := tt_in (List.mem_of_getElem? (i := 311) (by decide +kernel)) (by decide +kernel)
theorem tlX1_61 : Cond.methodLink RX1 61 yX2_get ∈ tt := tt_in (List.mem_of_getElem? (i := 316) (by decide +kernel)) (by decide +kernel)
def f1_open_l2 (n : Nat) : Nat → Int32 → CS → Option (Int32 × CS)
  | 0, _, _ => none
  | k + 1, x2, S => if (nI 16) ≤ x2 then
      (bT 0 S (f2_clear n (tOf 0 S)) fun _ S1 =>
      bT 1 S1 (f2_clear n (tOf 1 S1)) fun _ S2 =>
      cp S2 6 (nI 0) fun S3 =>
      cp S3 7 (nI 0) fun S4 =>
      cp S4 8 (-1 : Int32) fun S5 =>
      cp S5 9 (nI 0) fun S6 =>
      cp S6 14 (nI 0) fun S7 =>
      some (0, S7))
    else
      (bnd (f0_newestOf n x2 S) fun v8 S8 =>
      cw S8 10 16 x2 v8 fun S9 =>
      cr S9 10 16 x2 fun v10 =>
      bT 6 S9 (f2_get n v10 (nI 2) (tOf 6 S9)) fun v11 S11 =>
      cw S11 11 16 x2 v11 fun S12 =>
      (f1_open_l2 n k) (x2 + (nI 1)) S12)
theorem mw1_open_l2 (n : Nat) : ∀ (k : Nat) (x2 : Int32) (S : CS), mo S (f1_open_l2 n k x2 S) := by
  intro k
  induction k with
  | zero =>
    intro x2 S
    exact m_none
  | succ k ih =>
    intro x2 S
    rw [f1_open_l2]
    refine m_ite ?_ ?_
    · refine m_bT (mo2_clear _ _) (fun v1 S1 => ?_)
      refine m_bT (mo2_clear _ _) (fun v2 S2 => ?_)
      refine m_cp (fun S3 => ?_)
      refine m_cp (fun S4 => ?_)
      refine m_cp (fun S5 => ?_)
      refine m_cp (fun S6 => ?_)
      refine m_cp (fun S7 => ?_)
      exact m_some
    · refine m_bnd (mo0_newestOf _ _ _) (fun v8 S8 => ?_)
      refine m_cw (fun S9 => ?_)
      refine m_cr (fun v10 => ?_)
      refine m_bT (mo2_get _ _ _ _) (fun v11 S11 => ?_)
      refine m_cw (fun S12 => ?_)
      exact ih (x2 + (nI 1)) S12
theorem w1_open_l2 (hsf : sfOk (SF tk)) (X : hX p s m args meth c cX1_open 3 RX1 none D (tyC cI) (SF tk) A) (n : Nat) : ∀ (k : Nat) (x2 : Int32) (S : CS), hG p l e (fun r => rmC 2 41 (cS r.2 - cS S0) (sS r.2 - sS S0)) s m args below meth c 3 (ZW D (wC cI q) A s.heap S0 S) (cS S - cS S0) (sS S - sS S0) (fun r => MQ below (QWv D (tyC cI) (wC cI q) A r) args s (cS r.2 - cS S0) (sS r.2 - sS S0) A) (fun r => le S r.2) 2 [(0, .ref (q 51)), (1, .ref (q 53)), (2, .int x2)] [] (f1_open_l2 n k x2 S) := by
  intro k
  induction k with
  | zero =>
    intro x2 S
    exact h_none
  | succ k ih =>
    intro x2 S
    rw [f1_open_l2]
    refine h_iload_n X dX1_open_2 rfl rfl ?_
    refine h_bipush (v := (nI 16)) X dX1_open_3 (by decide) ?_
    refine h_icmp_ge (tgt := 45) X dX1_open_5 (by decide) ?_ ?_
    · refine h_aload_n X dX1_open_45 rfl rfl ?_
      refine c_g_RD_fields X fl1_14 dX1_open_46 ?_
      refine kt2_clear_0 hsf X tlX1_65 ⟨Nat.le_of_ble_eq_true rfl, Nat.le_of_ble_eq_true rfl⟩ (Nat.le_of_ble_eq_true rfl) dX1_open_49 ?_
      intro v1 S1
      refine h_aload_n X dX1_open_52 rfl rfl ?_
      refine c_g_RD_methods X fl1_20 dX1_open_53 ?_
      refine kt2_clear_1 hsf X tlX1_65 ⟨Nat.le_of_ble_eq_true rfl, Nat.le_of_ble_eq_true rfl⟩ (Nat.le_of_ble_eq_true rfl) dX1_open_56 ?_
      intro v2 S2
      refine h_aload_n X dX1_open_59 rfl rfl ?_
      refine h_iconst (v := (nI 0)) X dX1_open_60 (by decide) ?_
      refine c_p_RD_length X fl1_23 dX1_open_61 ?_
      intro S3
      refine h_aload_n X dX1_open_64 rfl rfl ?_
      refine h_iconst (v := (nI 0)) X dX1_open_65 (by decide) ?_
      refine c_p_RD_used X fl1_27 dX1_open_66 ?_
      intro S4
      refine h_aload_n X dX1_open_69 rfl rfl ?_
      refine h_iconst (v := (-1 : Int32)) X dX1_open_70 (by decide) ?_
      refine c_p_RD_parent X fl1_30 dX1_open_71 ?_
      intro S5
      refine h_aload_n X dX1_open_74 rfl rfl ?_
      refine h_iconst (v := (nI 0)) X dX1_open_75 (by decide) ?_
      refine c_p_RD_startFrom X fl1_33 dX1_open_76 ?_
      intro S6
      refine h_aload_n X dX1_open_79 rfl rfl ?_
      refine h_iconst (v := (nI 0)) X dX1_open_80 (by decide) ?_
      refine c_p_RD_at X fl1_49 dX1_open_81 ?_
      intro S7
      exact h_vret X dX1_open_84
    · refine h_aload_n X dX1_open_8 rfl rfl ?_
      refine c_g_RD_newest X fl1_36 dX1_open_9 ?_
      refine h_iload_n X dX1_open_12 rfl rfl ?_
      refine h_aload_n X dX1_open_13 rfl rfl ?_
      refine h_iload_n X dX1_open_14 rfl rfl ?_
      refine k0_newestOf hsf X tlX1_52 ⟨Nat.le_of_ble_eq_true rfl, Nat.le_of_ble_eq_true rfl⟩ (Nat.le_of_ble_eq_true rfl) dX1_open_15 ?_
      intro v8 S8
      refine c_s_10 X dX1_open_18 ?_
      intro S9
      refine h_aload_n X dX1_open_19 rfl rfl ?_
      refine c_g_RD_sorts X fl1_40 dX1_open_20 ?_
      refine h_iload_n X dX1_open_23 rfl rfl ?_
      refine h_aload_n X dX1_open_24 rfl rfl ?_
      refine c_g_IM_editions X fl1_58 dX1_open_25 ?_
      refine h_aload_n X dX1_open_28 rfl rfl ?_
      refine c_g_RD_newest X fl1_36 dX1_open_29 ?_
      refine h_iload_n X dX1_open_32 rfl rfl ?_
      refine c_l_10 X dX1_open_33 ?_
      intro v10
      refine h_iconst (v := (nI 2)) X dX1_open_34 (by decide) ?_
      refine kt2_get_6 hsf X tlX1_61 ⟨Nat.le_of_ble_eq_true rfl, Nat.le_of_ble_eq_true rfl⟩ (Nat.le_of_ble_eq_true rfl) dX1_open_35 ?_
      intro v11 S11
      refine c_s_11 X dX1_open_38 ?_
      intro S12
      refine h_iinc (v := (nI 1)) (lv' := [(2, .int (x2 + (nI 1))), (0, .ref (q 51)), (1, .ref (q 53))]) X dX1_open_39 rfl (by decide) (by decide) rfl ?_
      refine h_goto (tgt := 2) X dX1_open_42 (by decide) ?_
      exact h_pick [1, 2, 0] rfl (ih (x2 + (nI 1)) S12)
def f1_open (n : Nat) (S : CS) : Option (Int32 × CS) :=
    f1_open_l2 n n (nI 0) S
theorem w1_open (hsf : sfOk (SF tk)) (X : hX p s m args meth c cX1_open 3 RX1 none D (tyC cI) (SF tk) A) {S0 : CS} (n : Nat) (S : CS) : hG p l e (fun r => rmC 2 41 (cS r.2 - cS S0) (sS r.2 - sS S0)) s m args below meth c 3 (ZW D (wC cI q) A s.heap S0 S) (cS S - cS S0) (sS S - sS S0) (fun r => MQ below (QWv D (tyC cI) (wC cI q) A r) args s (cS r.2 - cS S0) (sS r.2 - sS S0) A) (fun r => le S r.2) 0 [(0, .ref (q 51)), (1, .ref (q 53))] [] (f1_open n S) := by
    unfold f1_open
    refine h_iconst (v := (nI 0)) X dX1_open_0 (by decide) ?_
    refine h_istore_n (lv' := [(2, .int (nI 0)), (0, .ref (q 51)), (1, .ref (q 53))]) X dX1_open_1 rfl (by decide) rfl ?_
    exact h_pick [1, 2, 0] rfl (w1_open_l2 hsf X n n (nI 0) S)
theorem mo1_open (n : Nat) (S : CS) : mo S (f1_open n S) := by
    unfold f1_open
    exact mw1_open_l2 n n (nI 0) S
theorem c1_open (hsf : sfOk (SF tk)) (l : Launch) (D : va_G) (cI : ClassId) (q : Nat → Nat) (n : Nat) (S : CS) : MetW l D (tyC cI) (SF tk) (wC cI q) yX1_open cX1_open 3 none 2 41 QWv [.ref (q 51), .ref (q 53)] S (f1_open n S) := by
  refine MetW.of (own := RX1) (by decide) rfl (Nat.le_of_ble_eq_true rfl) (mo1_open n S) ?_
  intro x p e s m args below meth c X
  refine h_pick (lv' := [(0, .ref (q 51)), (1, .ref (q 53))]) [0, 1] rfl ?_
  exact h_close (w1_open hsf X n S)
theorem tc1_open : Cond.code yX1_open cX1_open 3 none ∈ tt := tt_in (List.mem_of_getElem? (i := 310) (by decide +kernel)) (by decide +kernel)
theorem ti1_open : Cond.instanceMethod yX1_open ∈ tt := tt_in (List.mem_of_getElem? (i := 308) (by decide +kernel)) (by decide +kernel)
theorem te1_open : Cond.selects RX1 yX1_open yX1_open ∈ tt := tt_in (List.mem_of_getElem? (i := 309) (by decide +kernel)) (by decide +kernel)
theorem k1_open (hsf : sfOk (SF tk)) (X : hX p s m args meth c cc nL own rt D (tyC cI) (SF tk) A) {n : Nat} {ix : Nat} (hlk : Cond.methodLink own ix yX1_open ∈ tt) {rest : List Value} {K : Int32 → CS → Option (ρ × CS)} (hR : 2 + 1 ≤ fr ∧ 8 + (3 + 11) + 41 ≤ lo) (hcat : (rest.map fun v => v.category).sum ≤ 8) (d : decode cc pc = .ok (.invokevirtual ix, 3)) (kk : ∀ v S1, hG p l e (fun r => rmC fr lo (cS r.2 - cS S0) (sS r.2 - sS S0)) s m args below meth c nL (ZW D (wC cI q) A s.heap S0 S1) (cS S1 - cS S0) (sS S1 - sS S0) QQ (fun r => le S1 r.2) (pc + 3) lv rest (K v S1)) : hG p l e (fun r => rmC fr lo (cS r.2 - cS S0) (sS r.2 - sS S0)) s m args below meth c nL (ZW D (wC cI q) A s.heap S0 S) (cS S - cS S0) (sS S - sS S0) QQ (fun r => le S r.2) pc lv (.ref (q 53) :: .ref (q 51) :: rest) (bnd (f1_open n S) K) := h_callVv (As := [.ref (q 53)]) (b := q 51) (C := RX1) hsf X (c1_open hsf l D cI q n S) (cwVC (k := 1) X.1.2.2.2.2.1 hlk ti1_open te1_open tc1_open ini_1 (by decide +kernel) hR) (fun x H h1 h2 => va_recv h1 h2 (ci := 1) (q0 := 2) rfl rfl) rfl rfl hcat d kk
-- X1.addInt
def f1_addInt (n : Nat) (x1 : Int32) (S : CS) : Option (Int32 × CS) :=
    cg S 6 fun v1 =>
    if v1 < 0 then
      (some (0, S))
    else
      (cg S 6 fun v2 =>
      if (nI 60) ≤ v2 then
        (some (0, S))
      else
        (cg S 6 fun v3 =>
        cw S 12 60 v3 x1 fun S4 =>
        cg S4 6 fun v5 =>
        cw S4 13 60 v5 x1 fun S6 =>
        cg S6 6 fun v7 =>
        cp S6 6 (v7 + (nI 1)) fun S8 =>
        some (0, S8)))
theorem w1_addInt (hsf : sfOk (SF tk)) (X : hX p s m args meth c cX1_addInt 2 RX1 none D (tyC cI) (SF tk) A) {S0 : CS} (n : Nat) (x1 : Int32) (S : CS) : hG p l e (fun r => rmC 0 0 (cS r.2 - cS S0) (sS r.2 - sS S0)) s m args below meth c 2 (ZW D (wC cI q) A s.heap S0 S) (cS S - cS S0) (sS S - sS S0) (fun r => MQ below (QWv D (tyC cI) (wC cI q) A r) args s (cS r.2 - cS S0) (sS r.2 - sS S0) A) (fun r => le S r.2) 0 [(0, .ref (q 51)), (1, .int x1)] [] (f1_addInt n x1 S) := by
    unfold f1_addInt
    refine h_aload_n X dX1_addInt_0 rfl rfl ?_
    refine c_g_RD_length X fl1_23 dX1_addInt_1 ?_
    intro v1
    refine h_if_lt (tgt := 46) X dX1_addInt_4 (by decide) ?_ ?_
    · exact h_vret X dX1_addInt_46
    · refine h_aload_n X dX1_addInt_7 rfl rfl ?_
      refine c_g_RD_length X fl1_23 dX1_addInt_8 ?_
      intro v2
      refine h_bipush (v := (nI 60)) X dX1_addInt_11 (by decide) ?_
      refine h_icmp_ge (tgt := 46) X dX1_addInt_13 (by decide) ?_ ?_
      · exact h_vret X dX1_addInt_46
      · refine h_aload_n X dX1_addInt_16 rfl rfl ?_
        refine c_g_RD_text X fl1_43 dX1_addInt_17 ?_
        refine h_aload_n X dX1_addInt_20 rfl rfl ?_
        refine c_g_RD_length X fl1_23 dX1_addInt_21 ?_
        intro v3
        refine h_iload_n X dX1_addInt_24 rfl rfl ?_
        refine c_s_12 X dX1_addInt_25 ?_
        intro S4
        refine h_aload_n X dX1_addInt_26 rfl rfl ?_
        refine c_g_RD_bound X fl1_46 dX1_addInt_27 ?_
        refine h_aload_n X dX1_addInt_30 rfl rfl ?_
        refine c_g_RD_length X fl1_23 dX1_addInt_31 ?_
        intro v5
        refine h_iload_n X dX1_addInt_34 rfl rfl ?_
        refine c_s_13 X dX1_addInt_35 ?_
        intro S6
        refine h_aload_n X dX1_addInt_36 rfl rfl ?_
        refine h_dup X dX1_addInt_37 rfl ?_
        refine c_g_RD_length X fl1_23 dX1_addInt_38 ?_
        intro v7
        refine h_iconst (v := (nI 1)) X dX1_addInt_41 (by decide) ?_
        refine h_iadd X dX1_addInt_42 ?_
        refine c_p_RD_length X fl1_23 dX1_addInt_43 ?_
        intro S8
        exact h_vret X dX1_addInt_46
theorem mo1_addInt (n : Nat) (x1 : Int32) (S : CS) : mo S (f1_addInt n x1 S) := by
    unfold f1_addInt
    refine m_cg (fun v1 => ?_)
    refine m_ite ?_ ?_
    · exact m_some
    · refine m_cg (fun v2 => ?_)
      refine m_ite ?_ ?_
      · exact m_some
      · refine m_cg (fun v3 => ?_)
        refine m_cw (fun S4 => ?_)
        refine m_cg (fun v5 => ?_)
        refine m_cw (fun S6 => ?_)
        refine m_cg (fun v7 => ?_)
        refine m_cp (fun S8 => ?_)
        exact m_some
theorem c1_addInt (hsf : sfOk (SF tk)) (l : Launch) (D : va_G) (cI : ClassId) (q : Nat → Nat) (n : Nat) (x1 : Int32) (S : CS) : MetW l D (tyC cI) (SF tk) (wC cI q) yX1_addInt cX1_addInt 2 none 0 0 QWv [.ref (q 51), .int x1] S (f1_addInt n x1 S) := by
  refine MetW.of (own := RX1) (by decide) rfl (Nat.le_of_ble_eq_true rfl) (mo1_addInt n x1 S) ?_
  intro x p e s m args below meth c X
  refine h_pick (lv' := [(0, .ref (q 51)), (1, .int x1)]) [0, 1] rfl ?_
  exact h_close (w1_addInt hsf X n x1 S)
theorem tc1_addInt : Cond.code yX1_addInt cX1_addInt 2 none ∈ tt := tt_in (List.mem_of_getElem? (i := 327) (by decide +kernel)) (by decide +kernel)
theorem ti1_addInt : Cond.instanceMethod yX1_addInt ∈ tt := tt_in (List.mem_of_getElem? (i := 325) (by decide +kernel)) (by decide +kernel)
theorem te1_addInt : Cond.selects RX1 yX1_addInt yX1_addInt ∈ tt := tt_in (List.mem_of_getElem? (i := 326) (by decide +kernel)) (by decide +kernel)
theorem k1_addInt (hsf : sfOk (SF tk)) (X : hX p s m args meth c cc nL own rt D (tyC cI) (SF tk) A) {n : Nat} {x1 : Int32} {ix : Nat} (hlk : Cond.methodLink own ix yX1_addInt ∈ tt) {rest : List Value} {K : Int32 → CS → Option (ρ × CS)} (hR : 0 + 1 ≤ fr ∧ 8 + (2 + 11) + 0 ≤ lo) (hcat : (rest.map fun v => v.category).sum ≤ 8) (d : decode cc pc = .ok (.invokevirtual ix, 3)) (kk : ∀ v S1, hG p l e (fun r => rmC fr lo (cS r.2 - cS S0) (sS r.2 - sS S0)) s m args below meth c nL (ZW D (wC cI q) A s.heap S0 S1) (cS S1 - cS S0) (sS S1 - sS S0) QQ (fun r => le S1 r.2) (pc + 3) lv rest (K v S1)) : hG p l e (fun r => rmC fr lo (cS r.2 - cS S0) (sS r.2 - sS S0)) s m args below meth c nL (ZW D (wC cI q) A s.heap S0 S) (cS S - cS S0) (sS S - sS S0) QQ (fun r => le S r.2) pc lv (.int x1 :: .ref (q 51) :: rest) (bnd (f1_addInt n x1 S) K) := h_callVv (As := [.int x1]) (b := q 51) (C := RX1) hsf X (c1_addInt hsf l D cI q n x1 S) (cwVC (k := 1) X.1.2.2.2.2.1 hlk ti1_addInt te1_addInt tc1_addInt ini_1 (by decide +kernel) hR) (fun x H h1 h2 => va_recv h1 h2 (ci := 1) (q0 := 2) rfl rfl) rfl rfl hcat d kk
-- X1.textAt
def f1_textAt (n : Nat) (x1 : Int32) (S : CS) : Option (Int32 × CS) :=
    if x1 < 0 then
      (some ((nI 0), S))
    else
      (cg S 6 fun v1 =>
      if v1 ≤ x1 then
        (some ((nI 0), S))
      else
        (if (nI 60) ≤ x1 then
          (some ((nI 0), S))
        else
          (cr S 12 60 x1 fun v2 =>
          some (v2, S))))
theorem w1_textAt (hsf : sfOk (SF tk)) (X : hX p s m args meth c cX1_textAt 2 RX1 (some .int) D (tyC cI) (SF tk) A) {S0 : CS} (n : Nat) (x1 : Int32) (S : CS) : hG p l e (fun r => rmC 0 0 (cS r.2 - cS S0) (sS r.2 - sS S0)) s m args below meth c 2 (ZW D (wC cI q) A s.heap S0 S) (cS S - cS S0) (sS S - sS S0) (fun r => MQ below (QWi D (tyC cI) (wC cI q) A r) args s (cS r.2 - cS S0) (sS r.2 - sS S0) A) (fun r => le S r.2) 0 [(0, .ref (q 51)), (1, .int x1)] [] (f1_textAt n x1 S) := by
    unfold f1_textAt
    refine h_iload_n X dX1_textAt_0 rfl rfl ?_
    refine h_if_lt (tgt := 27) X dX1_textAt_1 (by decide) ?_ ?_
    · refine h_iconst (v := (nI 0)) X dX1_textAt_27 (by decide) ?_
      exact h_iret X dX1_textAt_28
    · refine h_iload_n X dX1_textAt_4 rfl rfl ?_
      refine h_aload_n X dX1_textAt_5 rfl rfl ?_
      refine c_g_RD_length X fl1_23 dX1_textAt_6 ?_
      intro v1
      refine h_icmp_ge (tgt := 27) X dX1_textAt_9 (by decide) ?_ ?_
      · refine h_iconst (v := (nI 0)) X dX1_textAt_27 (by decide) ?_
        exact h_iret X dX1_textAt_28
      · refine h_iload_n X dX1_textAt_12 rfl rfl ?_
        refine h_bipush (v := (nI 60)) X dX1_textAt_13 (by decide) ?_
        refine h_icmp_ge (tgt := 27) X dX1_textAt_15 (by decide) ?_ ?_
        · refine h_iconst (v := (nI 0)) X dX1_textAt_27 (by decide) ?_
          exact h_iret X dX1_textAt_28
        · refine h_aload_n X dX1_textAt_18 rfl rfl ?_
          refine c_g_RD_text X fl1_43 dX1_textAt_19 ?_
          refine h_iload_n X dX1_textAt_22 rfl rfl ?_
          refine c_l_12 X dX1_textAt_23 ?_
          intro v2
          refine h_goto (tgt := 28) X dX1_textAt_24 (by decide) ?_
          exact h_iret X dX1_textAt_28
theorem mo1_textAt (n : Nat) (x1 : Int32) (S : CS) : mo S (f1_textAt n x1 S) := by
    unfold f1_textAt
    refine m_ite ?_ ?_
    · exact m_some
    · refine m_cg (fun v1 => ?_)
      refine m_ite ?_ ?_
      · exact m_some
      · refine m_ite ?_ ?_
        · exact m_some
        · refine m_cr (fun v2 => ?_)
          exact m_some
theorem c1_textAt (hsf : sfOk (SF tk)) (l : Launch) (D : va_G) (cI : ClassId) (q : Nat → Nat) (n : Nat) (x1 : Int32) (S : CS) : MetW l D (tyC cI) (SF tk) (wC cI q) yX1_textAt cX1_textAt 2 (some .int) 0 0 QWi [.ref (q 51), .int x1] S (f1_textAt n x1 S) := by
  refine MetW.of (own := RX1) (by decide) rfl (Nat.le_of_ble_eq_true rfl) (mo1_textAt n x1 S) ?_
  intro x p e s m args below meth c X
  refine h_pick (lv' := [(0, .ref (q 51)), (1, .int x1)]) [0, 1] rfl ?_
  exact h_close (w1_textAt hsf X n x1 S)
theorem tc1_textAt : Cond.code yX1_textAt cX1_textAt 2 (some .int) ∈ tt := tt_in (List.mem_of_getElem? (i := 339) (by decide +kernel)) (by decide +kernel)
theorem ti1_textAt : Cond.instanceMethod yX1_textAt ∈ tt := tt_in (List.mem_of_getElem? (i := 338) (by decide +kernel)) (by decide +kernel)
theorem te1_textAt : Cond.selects RX1 yX1_textAt yX1_textAt ∈ tt := tt_in (List.mem_of_getElem? (i := 3) (by decide +kernel)) (by decide +kernel)
theorem k1_textAt (hsf : sfOk (SF tk)) (X : hX p s m args meth c cc nL own rt D (tyC cI) (SF tk) A) {n : Nat} {x1 : Int32} {ix : Nat} (hlk : Cond.methodLink own ix yX1_textAt ∈ tt) {rest : List Value} {K : Int32 → CS → Option (ρ × CS)} (hR : 0 + 1 ≤ fr ∧ 8 + (2 + 11) + 0 ≤ lo) (hcat : (rest.map fun v => v.category).sum ≤ 8) (d : decode cc pc = .ok (.invokevirtual ix, 3)) (kk : ∀ v S1, hG p l e (fun r => rmC fr lo (cS r.2 - cS S0) (sS r.2 - sS S0)) s m args below meth c nL (ZW D (wC cI q) A s.heap S0 S1) (cS S1 - cS S0) (sS S1 - sS S0) QQ (fun r => le S1 r.2) (pc + 3) lv (.int v :: rest) (K v S1)) : hG p l e (fun r => rmC fr lo (cS r.2 - cS S0) (sS r.2 - sS S0)) s m args below meth c nL (ZW D (wC cI q) A s.heap S0 S) (cS S - cS S0) (sS S - sS S0) QQ (fun r => le S r.2) pc lv (.int x1 :: .ref (q 51) :: rest) (bnd (f1_textAt n x1 S) K) := h_callVi (As := [.int x1]) (b := q 51) (C := RX1) hsf X (c1_textAt hsf l D cI q n x1 S) (cwVC (k := 1) X.1.2.2.2.2.1 hlk ti1_textAt te1_textAt tc1_textAt ini_1 (by decide +kernel) hR) (fun x H h1 h2 => va_recv h1 h2 (ci := 1) (q0 := 2) rfl rfl) rfl rfl hcat d kk
-- X1.sizeOf
def f1_sizeOf (n : Nat) (x0 : Int32) (S : CS) : Option (Int32 × CS) :=
    if (nI 8) ≤ x0 then (some ((nI 1), S)) else (some ((nI 2), S))
theorem w1_sizeOf (hsf : sfOk (SF tk)) (X : hX p s m args meth c cX1_sizeOf 1 RX1 (some .int) D (tyC cI) (SF tk) A) {S0 : CS} (n : Nat) (x0 : Int32) (S : CS) : hG p l e (fun r => rmC 0 0 (cS r.2 - cS S0) (sS r.2 - sS S0)) s m args below meth c 1 (ZW D (wC cI q) A s.heap S0 S) (cS S - cS S0) (sS S - sS S0) (fun r => MQ below (QWi D (tyC cI) (wC cI q) A r) args s (cS r.2 - cS S0) (sS r.2 - sS S0) A) (fun r => le S r.2) 0 [(0, .int x0)] [] (f1_sizeOf n x0 S) := by
    unfold f1_sizeOf
    refine h_iload_n X dX1_sizeOf_0 rfl rfl ?_
    refine h_bipush (v := (nI 8)) X dX1_sizeOf_1 (by decide) ?_
    refine h_icmp_ge (tgt := 10) X dX1_sizeOf_3 (by decide) ?_ ?_
    · refine h_iconst (v := (nI 1)) X dX1_sizeOf_10 (by decide) ?_
      exact h_iret X dX1_sizeOf_11
    · refine h_iconst (v := (nI 2)) X dX1_sizeOf_6 (by decide) ?_
      refine h_goto (tgt := 11) X dX1_sizeOf_7 (by decide) ?_
      exact h_iret X dX1_sizeOf_11
theorem mo1_sizeOf (n : Nat) (x0 : Int32) (S : CS) : mo S (f1_sizeOf n x0 S) := by
    unfold f1_sizeOf
    refine m_ite ?_ ?_
    · exact m_some
    · exact m_some
theorem c1_sizeOf (hsf : sfOk (SF tk)) (l : Launch) (D : va_G) (cI : ClassId) (q : Nat → Nat) (n : Nat) (x0 : Int32) (S : CS) : MetW l D (tyC cI) (SF tk) (wC cI q) yX1_sizeOf cX1_sizeOf 1 (some .int) 0 0 QWi [.int x0] S (f1_sizeOf n x0 S) := by
  refine MetW.of (own := RX1) (by decide) rfl (Nat.le_of_ble_eq_true rfl) (mo1_sizeOf n x0 S) ?_
  intro x p e s m args below meth c X
  refine h_pick (lv' := [(0, .int x0)]) [0] rfl ?_
  exact h_close (w1_sizeOf hsf X n x0 S)
theorem tc1_sizeOf : Cond.code yX1_sizeOf cX1_sizeOf 1 (some .int) ∈ tt := tt_in (List.mem_of_getElem? (i := 344) (by decide +kernel)) (by decide +kernel)
theorem ts1_sizeOf : Cond.static yX1_sizeOf ∈ tt := tt_in (List.mem_of_getElem? (i := 343) (by decide +kernel)) (by decide +kernel)
theorem k1_sizeOf (hsf : sfOk (SF tk)) (X : hX p s m args meth c cc nL own rt D (tyC cI) (SF tk) A) {n : Nat} {x0 : Int32} {ix : Nat} (hlk : Cond.methodLink own ix yX1_sizeOf ∈ tt) {rest : List Value} {K : Int32 → CS → Option (ρ × CS)} (hR : 0 + 1 ≤ fr ∧ 8 + (1 + 11) + 0 ≤ lo) (hcat : (rest.map fun v => v.category).sum ≤ 8) (d : decode cc pc = .ok (.invokestatic ix, 3)) (kk : ∀ v S1, hG p l e (fun r => rmC fr lo (cS r.2 - cS S0) (sS r.2 - sS S0)) s m args below meth c nL (ZW D (wC cI q) A s.heap S0 S1) (cS S1 - cS S0) (sS S1 - sS S0) QQ (fun r => le S1 r.2) (pc + 3) lv (.int v :: rest) (K v S1)) : hG p l e (fun r => rmC fr lo (cS r.2 - cS S0) (sS r.2 - sS S0)) s m args below meth c nL (ZW D (wC cI q) A s.heap S0 S) (cS S - cS S0) (sS S - sS S0) QQ (fun r => le S r.2) pc lv (.int x0 :: rest) (bnd (f1_sizeOf n x0 S) K) := h_callSi (As := [.int x0]) (b := 0) (C := RX4) hsf X (c1_sizeOf hsf l D cI q n x0 S) (cwSC (k := 1) X.1.2.2.2.2.1 hlk ts1_sizeOf tc1_sizeOf ini_1 (by decide +kernel) hR) rfl rfl hcat d kk
-- X1.standsFor
def f1_standsFor (n : Nat) (x1 : Int32) (x2 : Int32) (S : CS) : Option (Int32 × CS) :=
    if x1 < 0 then
      (zt (nI 0) (some ((nI 0), S)))
    else
      (if (nI 16) ≤ x1 then
        (zt (nI 0) (some ((nI 0), S)))
      else
        (cr S 10 16 x1 fun v1 =>
        if v1 = (-1 : Int32) then
          (zt (nI 0) (some ((nI 0), S)))
        else
          (cr S 11 16 x1 fun v2 =>
          if v2 = x2 then (zt (nI 1) (some ((nI 1), S))) else (zt (nI 0) (some ((nI 0), S))))))
theorem w1_standsFor (hsf : sfOk (SF tk)) (X : hX p s m args meth c cX1_standsFor 3 RX1 (some .boolean) D (tyC cI) (SF tk) A) {S0 : CS} (n : Nat) (x1 : Int32) (x2 : Int32) (S : CS) : hG p l e (fun r => rmC 0 0 (cS r.2 - cS S0) (sS r.2 - sS S0)) s m args below meth c 3 (ZW D (wC cI q) A s.heap S0 S) (cS S - cS S0) (sS S - sS S0) (fun r => MQ below (QWi D (tyC cI) (wC cI q) A r) args s (cS r.2 - cS S0) (sS r.2 - sS S0) A) (fun r => le S r.2) 0 [(0, .ref (q 51)), (1, .int x1), (2, .int x2)] [] (f1_standsFor n x1 x2 S) := by
    unfold f1_standsFor
    refine h_iload_n X dX1_standsFor_0 rfl rfl ?_
    refine h_if_lt (tgt := 34) X dX1_standsFor_1 (by decide) ?_ ?_
    · refine h_iconst (v := (nI 0)) X dX1_standsFor_34 (by decide) ?_
      exact h_zret X dX1_standsFor_35
    · refine h_iload_n X dX1_standsFor_4 rfl rfl ?_
      refine h_bipush (v := (nI 16)) X dX1_standsFor_5 (by decide) ?_
      refine h_icmp_ge (tgt := 34) X dX1_standsFor_7 (by decide) ?_ ?_
      · refine h_iconst (v := (nI 0)) X dX1_standsFor_34 (by decide) ?_
        exact h_zret X dX1_standsFor_35
      · refine h_aload_n X dX1_standsFor_10 rfl rfl ?_
        refine c_g_RD_newest X fl1_36 dX1_standsFor_11 ?_
        refine h_iload_n X dX1_standsFor_14 rfl rfl ?_
        refine c_l_10 X dX1_standsFor_15 ?_
        intro v1
        refine h_iconst (v := (-1 : Int32)) X dX1_standsFor_16 (by decide) ?_
        refine h_icmp_eq (tgt := 34) X dX1_standsFor_17 (by decide) ?_ ?_
        · refine h_iconst (v := (nI 0)) X dX1_standsFor_34 (by decide) ?_
          exact h_zret X dX1_standsFor_35
        · refine h_aload_n X dX1_standsFor_20 rfl rfl ?_
          refine c_g_RD_sorts X fl1_40 dX1_standsFor_21 ?_
          refine h_iload_n X dX1_standsFor_24 rfl rfl ?_
          refine c_l_11 X dX1_standsFor_25 ?_
          intro v2
          refine h_iload_n X dX1_standsFor_26 rfl rfl ?_
          refine h_icmp_ne (tgt := 34) X dX1_standsFor_27 (by decide) ?_ ?_
          · refine h_iconst (v := (nI 0)) X dX1_standsFor_34 (by decide) ?_
            exact h_zret X dX1_standsFor_35
          · refine h_iconst (v := (nI 1)) X dX1_standsFor_30 (by decide) ?_
            refine h_goto (tgt := 35) X dX1_standsFor_31 (by decide) ?_
            exact h_zret X dX1_standsFor_35
theorem mo1_standsFor (n : Nat) (x1 : Int32) (x2 : Int32) (S : CS) : mo S (f1_standsFor n x1 x2 S) := by
    unfold f1_standsFor
    refine m_ite ?_ ?_
    · exact m_zt m_some
    · refine m_ite ?_ ?_
      · exact m_zt m_some
      · refine m_cr (fun v1 => ?_)
        refine m_ite ?_ ?_
        · exact m_zt m_some
        · refine m_cr (fun v2 => ?_)
          refine m_ite ?_ ?_
          · exact m_zt m_some
          · exact m_zt m_some
theorem c1_standsFor (hsf : sfOk (SF tk)) (l : Launch) (D : va_G) (cI : ClassId) (q : Nat → Nat) (n : Nat) (x1 : Int32) (x2 : Int32) (S : CS) : MetW l D (tyC cI) (SF tk) (wC cI q) yX1_standsFor cX1_standsFor 3 (some .boolean) 0 0 QWi [.ref (q 51), .int x1, .int x2] S (f1_standsFor n x1 x2 S) := by
  refine MetW.of (own := RX1) (by decide) rfl (Nat.le_of_ble_eq_true rfl) (mo1_standsFor n x1 x2 S) ?_
  intro x p e s m args below meth c X
  refine h_pick (lv' := [(0, .ref (q 51)), (1, .int x1), (2, .int x2)]) [0, 1, 2] rfl ?_
  exact h_close (w1_standsFor hsf X n x1 x2 S)
theorem tc1_standsFor : Cond.code yX1_standsFor cX1_standsFor 3 (some .boolean) ∈ tt := tt_in (List.mem_of_getElem? (i := 352) (by decide +kernel)) (by decide +kernel)
theorem ti1_standsFor : Cond.instanceMethod yX1_standsFor ∈ tt := tt_in (List.mem_of_getElem? (i := 351) (by decide +kernel)) (by decide +kernel)
theorem te1_standsFor : Cond.selects RX1 yX1_standsFor yX1_standsFor ∈ tt := tt_in (List.mem_of_getElem? (i := 5) (by decide +kernel)) (by decide +kernel)
theorem k1_standsFor (hsf : sfOk (SF tk)) (X : hX p s m args meth c cc nL own rt D (tyC cI) (SF tk) A) {n : Nat} {x1 : Int32} {x2 : Int32} {ix : Nat} (hlk : Cond.methodLink own ix yX1_standsFor ∈ tt) {rest : List Value} {K : Int32 → CS → Option (ρ × CS)} (hR : 0 + 1 ≤ fr ∧ 8 + (3 + 11) + 0 ≤ lo) (hcat : (rest.map fun v => v.category).sum ≤ 8) (d : decode cc pc = .ok (.invokevirtual ix, 3)) (kk : ∀ v S1, hG p l e (fun r => rmC fr lo (cS r.2 - cS S0) (sS r.2 - sS S0)) s m args below meth c nL (ZW D (wC cI q) A s.heap S0 S1) (cS S1 - cS S0) (sS S1 - sS S0) QQ (fun r => le S1 r.2) (pc + 3) lv (.int v :: rest) (K v S1)) : hG p l e (fun r => rmC fr lo (cS r.2 - cS S0) (sS r.2 - sS S0)) s m args below meth c nL (ZW D (wC cI q) A s.heap S0 S) (cS S - cS S0) (sS S - sS S0) QQ (fun r => le S r.2) pc lv (.int x2 :: .int x1 :: .ref (q 51) :: rest) (bnd (f1_standsFor n x1 x2 S) K) := h_callVi (As := [.int x1, .int x2]) (b := q 51) (C := RX1) hsf X (c1_standsFor hsf l D cI q n x1 x2 S) (cwVC (k := 2) X.1.2.2.2.2.1 hlk ti1_standsFor te1_standsFor tc1_standsFor ini_1 (by decide +kernel) hR) (fun x H h1 h2 => va_recv h1 h2 (ci := 1) (q0 := 2) rfl rfl) rfl rfl hcat d kk
-- X1.isIntRight
theorem tlX1_90 : Cond.methodLink RX1 90 yX1_standsFor ∈ tt := tt_in (List.mem_of_getElem? (i := 349) (by decide +kernel)) (by decide +kernel)
def f1_isIntRight (n : Nat) (x1 : Int32) (x2 : Int32) (S : CS) : Option (Int32 × CS) :=
    if x1 = (nI 0) then
      (zt (nI 1) (some ((nI 1), S)))
    else if x1 = (nI 1) then
      (bnd (f1_standsFor n x2 (nI 0) S) fun v3 S3 =>
      zt v3 (some (v3, S3)))
    else if x1 = (nI 2) then
      (bnd (f1_standsFor n x2 (nI 1) S) fun v5 S5 =>
      zt v5 (some (v5, S5)))
    else if x1 = (nI 3) then
      (bnd (f1_standsFor n x2 (nI 1) S) fun v7 S7 =>
      zt v7 (some (v7, S7)))
    else if x1 = (nI 4) then
      (bnd (f1_standsFor n x2 (nI 1) S) fun v9 S9 =>
      zt v9 (some (v9, S9)))
    else if x1 = (nI 5) then
      (if x2 < 0 then
        (zt (nI 0) (some ((nI 0), S)))
      else
        (if (nI 10) ≤ x2 then (zt (nI 0) (some ((nI 0), S))) else (zt (nI 1) (some ((nI 1), S)))))
    else if x1 = (nI 6) then
      (if x2 < 0 then
        (zt (nI 0) (some ((nI 0), S)))
      else
        (if (nI 10) ≤ x2 then (zt (nI 0) (some ((nI 0), S))) else (zt (nI 1) (some ((nI 1), S)))))
    else if x1 = (nI 7) then
      (if x2 < 0 then
        (zt (nI 0) (some ((nI 0), S)))
      else
        (if (nI 5) ≤ x2 then (zt (nI 0) (some ((nI 0), S))) else (zt (nI 1) (some ((nI 1), S)))))
    else (if x2 < 0 then
      (zt (nI 0) (some ((nI 0), S)))
    else
      (if (nI 10) ≤ x2 then (zt (nI 0) (some ((nI 0), S))) else (zt (nI 1) (some ((nI 1), S)))))
theorem w1_isIntRight (hsf : sfOk (SF tk)) (X : hX p s m args meth c cX1_isIntRight 3 RX1 (some .boolean) D (tyC cI) (SF tk) A) {S0 : CS} (n : Nat) (x1 : Int32) (x2 : Int32) (S : CS) : hG p l e (fun r => rmC 1 22 (cS r.2 - cS S0) (sS r.2 - sS S0)) s m args below meth c 3 (ZW D (wC cI q) A s.heap S0 S) (cS S - cS S0) (sS S - sS S0) (fun r => MQ below (QWi D (tyC cI) (wC cI q) A r) args s (cS r.2 - cS S0) (sS r.2 - sS S0) A) (fun r => le S r.2) 0 [(0, .ref (q 51)), (1, .int x1), (2, .int x2)] [] (f1_isIntRight n x1 x2 S) := by
    unfold f1_isIntRight
    refine h_iload_n X dX1_isIntRight_0 rfl rfl ?_
    refine h_ite (fun h1 => ?_) (fun h1 => ?_)
    · refine h_tIn (off := 47) (tgt := 48) X dX1_isIntRight_1 (by rw [h1]; decide) (by rw [h1]; decide) (by rw [h1]; rfl) (by decide) ?_
      refine h_iconst (v := (nI 1)) X dX1_isIntRight_48 (by decide) ?_
      exact h_zret X dX1_isIntRight_49
    have eh1 := tn_i (n := 0) h1 (by decide)
    refine h_ite (fun h2 => ?_) (fun h2 => ?_)
    · refine h_tIn (off := 49) (tgt := 50) X dX1_isIntRight_1 (by rw [h2]; decide) (by rw [h2]; decide) (by rw [h2]; rfl) (by decide) ?_
      refine h_aload_n X dX1_isIntRight_50 rfl rfl ?_
      refine h_iload_n X dX1_isIntRight_51 rfl rfl ?_
      refine h_iconst (v := (nI 0)) X dX1_isIntRight_52 (by decide) ?_
      refine k1_standsFor hsf X tlX1_90 ⟨Nat.le_of_ble_eq_true rfl, Nat.le_of_ble_eq_true rfl⟩ (Nat.le_of_ble_eq_true rfl) dX1_isIntRight_53 ?_
      intro v3 S3
      exact h_zret X dX1_isIntRight_56
    have eh2 := tn_i (n := 1) h2 (by decide)
    refine h_ite (fun h4 => ?_) (fun h4 => ?_)
    · refine h_tIn (off := 56) (tgt := 57) X dX1_isIntRight_1 (by rw [h4]; decide) (by rw [h4]; decide) (by rw [h4]; rfl) (by decide) ?_
      refine h_aload_n X dX1_isIntRight_57 rfl rfl ?_
      refine h_iload_n X dX1_isIntRight_58 rfl rfl ?_
      refine h_iconst (v := (nI 1)) X dX1_isIntRight_59 (by decide) ?_
      refine k1_standsFor hsf X tlX1_90 ⟨Nat.le_of_ble_eq_true rfl, Nat.le_of_ble_eq_true rfl⟩ (Nat.le_of_ble_eq_true rfl) dX1_isIntRight_60 ?_
      intro v5 S5
      exact h_zret X dX1_isIntRight_63
    have eh4 := tn_i (n := 2) h4 (by decide)
    refine h_ite (fun h6 => ?_) (fun h6 => ?_)
    · refine h_tIn (off := 56) (tgt := 57) X dX1_isIntRight_1 (by rw [h6]; decide) (by rw [h6]; decide) (by rw [h6]; rfl) (by decide) ?_
      refine h_aload_n X dX1_isIntRight_57 rfl rfl ?_
      refine h_iload_n X dX1_isIntRight_58 rfl rfl ?_
      refine h_iconst (v := (nI 1)) X dX1_isIntRight_59 (by decide) ?_
      refine k1_standsFor hsf X tlX1_90 ⟨Nat.le_of_ble_eq_true rfl, Nat.le_of_ble_eq_true rfl⟩ (Nat.le_of_ble_eq_true rfl) dX1_isIntRight_60 ?_
      intro v7 S7
      exact h_zret X dX1_isIntRight_63
    have eh6 := tn_i (n := 3) h6 (by decide)
    refine h_ite (fun h8 => ?_) (fun h8 => ?_)
    · refine h_tIn (off := 56) (tgt := 57) X dX1_isIntRight_1 (by rw [h8]; decide) (by rw [h8]; decide) (by rw [h8]; rfl) (by decide) ?_
      refine h_aload_n X dX1_isIntRight_57 rfl rfl ?_
      refine h_iload_n X dX1_isIntRight_58 rfl rfl ?_
      refine h_iconst (v := (nI 1)) X dX1_isIntRight_59 (by decide) ?_
      refine k1_standsFor hsf X tlX1_90 ⟨Nat.le_of_ble_eq_true rfl, Nat.le_of_ble_eq_true rfl⟩ (Nat.le_of_ble_eq_true rfl) dX1_isIntRight_60 ?_
      intro v9 S9
      exact h_zret X dX1_isIntRight_63
    have eh8 := tn_i (n := 4) h8 (by decide)
    refine h_ite (fun h10 => ?_) (fun h10 => ?_)
    · refine h_tIn (off := 78) (tgt := 79) X dX1_isIntRight_1 (by rw [h10]; decide) (by rw [h10]; decide) (by rw [h10]; rfl) (by decide) ?_
      refine h_iload_n X dX1_isIntRight_79 rfl rfl ?_
      refine h_if_lt (tgt := 93) X dX1_isIntRight_80 (by decide) ?_ ?_
      · refine h_iconst (v := (nI 0)) X dX1_isIntRight_93 (by decide) ?_
        exact h_zret X dX1_isIntRight_94
      · refine h_iload_n X dX1_isIntRight_83 rfl rfl ?_
        refine h_bipush (v := (nI 10)) X dX1_isIntRight_84 (by decide) ?_
        refine h_icmp_ge (tgt := 93) X dX1_isIntRight_86 (by decide) ?_ ?_
        · refine h_iconst (v := (nI 0)) X dX1_isIntRight_93 (by decide) ?_
          exact h_zret X dX1_isIntRight_94
        · refine h_iconst (v := (nI 1)) X dX1_isIntRight_89 (by decide) ?_
          refine h_goto (tgt := 94) X dX1_isIntRight_90 (by decide) ?_
          exact h_zret X dX1_isIntRight_94
    have eh10 := tn_i (n := 5) h10 (by decide)
    refine h_ite (fun h11 => ?_) (fun h11 => ?_)
    · refine h_tIn (off := 78) (tgt := 79) X dX1_isIntRight_1 (by rw [h11]; decide) (by rw [h11]; decide) (by rw [h11]; rfl) (by decide) ?_
      refine h_iload_n X dX1_isIntRight_79 rfl rfl ?_
      refine h_if_lt (tgt := 93) X dX1_isIntRight_80 (by decide) ?_ ?_
      · refine h_iconst (v := (nI 0)) X dX1_isIntRight_93 (by decide) ?_
        exact h_zret X dX1_isIntRight_94
      · refine h_iload_n X dX1_isIntRight_83 rfl rfl ?_
        refine h_bipush (v := (nI 10)) X dX1_isIntRight_84 (by decide) ?_
        refine h_icmp_ge (tgt := 93) X dX1_isIntRight_86 (by decide) ?_ ?_
        · refine h_iconst (v := (nI 0)) X dX1_isIntRight_93 (by decide) ?_
          exact h_zret X dX1_isIntRight_94
        · refine h_iconst (v := (nI 1)) X dX1_isIntRight_89 (by decide) ?_
          refine h_goto (tgt := 94) X dX1_isIntRight_90 (by decide) ?_
          exact h_zret X dX1_isIntRight_94
    have eh11 := tn_i (n := 6) h11 (by decide)
    refine h_ite (fun h12 => ?_) (fun h12 => ?_)
    · refine h_tIn (off := 63) (tgt := 64) X dX1_isIntRight_1 (by rw [h12]; decide) (by rw [h12]; decide) (by rw [h12]; rfl) (by decide) ?_
      refine h_iload_n X dX1_isIntRight_64 rfl rfl ?_
      refine h_if_lt (tgt := 77) X dX1_isIntRight_65 (by decide) ?_ ?_
      · refine h_iconst (v := (nI 0)) X dX1_isIntRight_77 (by decide) ?_
        exact h_zret X dX1_isIntRight_78
      · refine h_iload_n X dX1_isIntRight_68 rfl rfl ?_
        refine h_iconst (v := (nI 5)) X dX1_isIntRight_69 (by decide) ?_
        refine h_icmp_ge (tgt := 77) X dX1_isIntRight_70 (by decide) ?_ ?_
        · refine h_iconst (v := (nI 0)) X dX1_isIntRight_77 (by decide) ?_
          exact h_zret X dX1_isIntRight_78
        · refine h_iconst (v := (nI 1)) X dX1_isIntRight_73 (by decide) ?_
          refine h_goto (tgt := 78) X dX1_isIntRight_74 (by decide) ?_
          exact h_zret X dX1_isIntRight_78
    have eh12 := tn_i (n := 7) h12 (by decide)
    refine h_tOut (tgt := 79) X dX1_isIntRight_1 (by omega) (by decide) ?_
    refine h_iload_n X dX1_isIntRight_79 rfl rfl ?_
    refine h_if_lt (tgt := 93) X dX1_isIntRight_80 (by decide) ?_ ?_
    · refine h_iconst (v := (nI 0)) X dX1_isIntRight_93 (by decide) ?_
      exact h_zret X dX1_isIntRight_94
    · refine h_iload_n X dX1_isIntRight_83 rfl rfl ?_
      refine h_bipush (v := (nI 10)) X dX1_isIntRight_84 (by decide) ?_
      refine h_icmp_ge (tgt := 93) X dX1_isIntRight_86 (by decide) ?_ ?_
      · refine h_iconst (v := (nI 0)) X dX1_isIntRight_93 (by decide) ?_
        exact h_zret X dX1_isIntRight_94
      · refine h_iconst (v := (nI 1)) X dX1_isIntRight_89 (by decide) ?_
        refine h_goto (tgt := 94) X dX1_isIntRight_90 (by decide) ?_
        exact h_zret X dX1_isIntRight_94
theorem mo1_isIntRight (n : Nat) (x1 : Int32) (x2 : Int32) (S : CS) : mo S (f1_isIntRight n x1 x2 S) := by
    unfold f1_isIntRight
    refine m_ite ?_ ?_
    · exact m_zt m_some
    refine m_ite ?_ ?_
    · refine m_bnd (mo1_standsFor _ _ _ _) (fun v3 S3 => ?_)
      exact m_zt m_some
    refine m_ite ?_ ?_
    · refine m_bnd (mo1_standsFor _ _ _ _) (fun v5 S5 => ?_)
      exact m_zt m_some
    refine m_ite ?_ ?_
    · refine m_bnd (mo1_standsFor _ _ _ _) (fun v7 S7 => ?_)
      exact m_zt m_some
    refine m_ite ?_ ?_
    · refine m_bnd (mo1_standsFor _ _ _ _) (fun v9 S9 => ?_)
      exact m_zt m_some
    refine m_ite ?_ ?_
    · refine m_ite ?_ ?_
      · exact m_zt m_some
      · refine m_ite ?_ ?_
        · exact m_zt m_some
        · exact m_zt m_some
    refine m_ite ?_ ?_
    · refine m_ite ?_ ?_
      · exact m_zt m_some
      · refine m_ite ?_ ?_
        · exact m_zt m_some
        · exact m_zt m_some
    refine m_ite ?_ ?_
    · refine m_ite ?_ ?_
      · exact m_zt m_some
      · refine m_ite ?_ ?_
        · exact m_zt m_some
        · exact m_zt m_some
    refine m_ite ?_ ?_
    · exact m_zt m_some
    · refine m_ite ?_ ?_
      · exact m_zt m_some
      · exact m_zt m_some
theorem c1_isIntRight (hsf : sfOk (SF tk)) (l : Launch) (D : va_G) (cI : ClassId) (q : Nat → Nat) (n : Nat) (x1 : Int32) (x2 : Int32) (S : CS) : MetW l D (tyC cI) (SF tk) (wC cI q) yX1_isIntRight cX1_isIntRight 3 (some .boolean) 1 22 QWi [.ref (q 51), .int x1, .int x2] S (f1_isIntRight n x1 x2 S) := by
  refine MetW.of (own := RX1) (by decide) rfl (Nat.le_of_ble_eq_true rfl) (mo1_isIntRight n x1 x2 S) ?_
  intro x p e s m args below meth c X
  refine h_pick (lv' := [(0, .ref (q 51)), (1, .int x1), (2, .int x2)]) [0, 1, 2] rfl ?_
  exact h_close (w1_isIntRight hsf X n x1 x2 S)
theorem tc1_isIntRight : Cond.code yX1_isIntRight cX1_isIntRight 3 (some .boolean) ∈ tt := tt_in (List.mem_of_getElem? (i := 348) (by decide +kernel)) (by decide +kernel)
theorem ti1_isIntRight : Cond.instanceMethod yX1_isIntRight ∈ tt := tt_in (List.mem_of_getElem? (i := 347) (by decide +kernel)) (by decide +kernel)
theorem te1_isIntRight : Cond.selects RX1 yX1_isIntRight yX1_isIntRight ∈ tt := tt_in (List.mem_of_getElem? (i := 4) (by decide +kernel)) (by decide +kernel)
theorem k1_isIntRight (hsf : sfOk (SF tk)) (X : hX p s m args meth c cc nL own rt D (tyC cI) (SF tk) A) {n : Nat} {x1 : Int32} {x2 : Int32} {ix : Nat} (hlk : Cond.methodLink own ix yX1_isIntRight ∈ tt) {rest : List Value} {K : Int32 → CS → Option (ρ × CS)} (hR : 1 + 1 ≤ fr ∧ 8 + (3 + 11) + 22 ≤ lo) (hcat : (rest.map fun v => v.category).sum ≤ 8) (d : decode cc pc = .ok (.invokevirtual ix, 3)) (kk : ∀ v S1, hG p l e (fun r => rmC fr lo (cS r.2 - cS S0) (sS r.2 - sS S0)) s m args below meth c nL (ZW D (wC cI q) A s.heap S0 S1) (cS S1 - cS S0) (sS S1 - sS S0) QQ (fun r => le S1 r.2) (pc + 3) lv (.int v :: rest) (K v S1)) : hG p l e (fun r => rmC fr lo (cS r.2 - cS S0) (sS r.2 - sS S0)) s m args below meth c nL (ZW D (wC cI q) A s.heap S0 S) (cS S - cS S0) (sS S - sS S0) QQ (fun r => le S r.2) pc lv (.int x2 :: .int x1 :: .ref (q 51) :: rest) (bnd (f1_isIntRight n x1 x2 S) K) := h_callVi (As := [.int x1, .int x2]) (b := q 51) (C := RX1) hsf X (c1_isIntRight hsf l D cI q n x1 x2 S) (cwVC (k := 2) X.1.2.2.2.2.1 hlk ti1_isIntRight te1_isIntRight tc1_isIntRight ini_1 (by decide +kernel) hR) (fun x H h1 h2 => va_recv h1 h2 (ci := 1) (q0 := 2) rfl rfl) rfl rfl hcat d kk
-- X1.usesName
def f1_usesName (n : Nat) (x0 : Int32) (S : CS) : Option (Int32 × CS) :=
    if x0 < (nI 1) then
      (zt (nI 0) (some ((nI 0), S)))
    else
      (if (nI 4) < x0 then (zt (nI 0) (some ((nI 0), S))) else (zt (nI 1) (some ((nI 1), S))))
theorem w1_usesName (hsf : sfOk (SF tk)) (X : hX p s m args meth c cX1_usesName 1 RX1 (some .boolean) D (tyC cI) (SF tk) A) {S0 : CS} (n : Nat) (x0 : Int32) (S : CS) : hG p l e (fun r => rmC 0 0 (cS r.2 - cS S0) (sS r.2 - sS S0)) s m args below meth c 1 (ZW D (wC cI q) A s.heap S0 S) (cS S - cS S0) (sS S - sS S0) (fun r => MQ below (QWi D (tyC cI) (wC cI q) A r) args s (cS r.2 - cS S0) (sS r.2 - sS S0) A) (fun r => le S r.2) 0 [(0, .int x0)] [] (f1_usesName n x0 S) := by
    unfold f1_usesName
    refine h_iload_n X dX1_usesName_0 rfl rfl ?_
    refine h_iconst (v := (nI 1)) X dX1_usesName_1 (by decide) ?_
    refine h_icmp_lt (tgt := 14) X dX1_usesName_2 (by decide) ?_ ?_
    · refine h_iconst (v := (nI 0)) X dX1_usesName_14 (by decide) ?_
      exact h_zret X dX1_usesName_15
    · refine h_iload_n X dX1_usesName_5 rfl rfl ?_
      refine h_iconst (v := (nI 4)) X dX1_usesName_6 (by decide) ?_
      refine h_icmp_gt (tgt := 14) X dX1_usesName_7 (by decide) ?_ ?_
      · refine h_iconst (v := (nI 0)) X dX1_usesName_14 (by decide) ?_
        exact h_zret X dX1_usesName_15
      · refine h_iconst (v := (nI 1)) X dX1_usesName_10 (by decide) ?_
        refine h_goto (tgt := 15) X dX1_usesName_11 (by decide) ?_
        exact h_zret X dX1_usesName_15
theorem mo1_usesName (n : Nat) (x0 : Int32) (S : CS) : mo S (f1_usesName n x0 S) := by
    unfold f1_usesName
    refine m_ite ?_ ?_
    · exact m_zt m_some
    · refine m_ite ?_ ?_
      · exact m_zt m_some
      · exact m_zt m_some
theorem c1_usesName (hsf : sfOk (SF tk)) (l : Launch) (D : va_G) (cI : ClassId) (q : Nat → Nat) (n : Nat) (x0 : Int32) (S : CS) : MetW l D (tyC cI) (SF tk) (wC cI q) yX1_usesName cX1_usesName 1 (some .boolean) 0 0 QWi [.int x0] S (f1_usesName n x0 S) := by
  refine MetW.of (own := RX1) (by decide) rfl (Nat.le_of_ble_eq_true rfl) (mo1_usesName n x0 S) ?_
  intro x p e s m args below meth c X
  refine h_pick (lv' := [(0, .int x0)]) [0] rfl ?_
  exact h_close (w1_usesName hsf X n x0 S)
theorem tc1_usesName : Cond.code yX1_usesName cX1_usesName 1 (some .boolean) ∈ tt := tt_in (List.mem_of_getElem? (i := 355) (by decide +kernel)) (by decide +kernel)
theorem ts1_usesName : Cond.static yX1_usesName ∈ tt := tt_in (List.mem_of_getElem? (i := 354) (by decide +kernel)) (by decide +kernel)
theorem k1_usesName (hsf : sfOk (SF tk)) (X : hX p s m args meth c cc nL own rt D (tyC cI) (SF tk) A) {n : Nat} {x0 : Int32} {ix : Nat} (hlk : Cond.methodLink own ix yX1_usesName ∈ tt) {rest : List Value} {K : Int32 → CS → Option (ρ × CS)} (hR : 0 + 1 ≤ fr ∧ 8 + (1 + 11) + 0 ≤ lo) (hcat : (rest.map fun v => v.category).sum ≤ 8) (d : decode cc pc = .ok (.invokestatic ix, 3)) (kk : ∀ v S1, hG p l e (fun r => rmC fr lo (cS r.2 - cS S0) (sS r.2 - sS S0)) s m args below meth c nL (ZW D (wC cI q) A s.heap S0 S1) (cS S1 - cS S0) (sS S1 - sS S0) QQ (fun r => le S1 r.2) (pc + 3) lv (.int v :: rest) (K v S1)) : hG p l e (fun r => rmC fr lo (cS r.2 - cS S0) (sS r.2 - sS S0)) s m args below meth c nL (ZW D (wC cI q) A s.heap S0 S) (cS S - cS S0) (sS S - sS S0) QQ (fun r => le S r.2) pc lv (.int x0 :: rest) (bnd (f1_usesName n x0 S) K) := h_callSi (As := [.int x0]) (b := 0) (C := RX4) hsf X (c1_usesName hsf l D cI q n x0 S) (cwSC (k := 1) X.1.2.2.2.2.1 hlk ts1_usesName tc1_usesName ini_1 (by decide +kernel) hR) rfl rfl hcat d kk
-- X1.bind
theorem tlX1_83 : Cond.methodLink RX1 83 yX1_textAt ∈ tt := tt_in (List.mem_of_getElem? (i := 336) (by decide +kernel)) (by decide +kernel)
def f1_bind (n : Nat) (x1 : Int32) (S : CS) : Option (Int32 × CS) :=
    bnd (f1_textAt n x1 S) fun v1 S1 =>
    bnd (f4_isName n v1 S1) fun v2 S2 =>
    if v2 = 0 then
      (some (0, S2))
    else
      (if x1 < 0 then
        (some (0, S2))
      else
        (if (nI 60) ≤ x1 then
          (some (0, S2))
        else
          (cr S2 10 16 v1 fun v3 =>
          cw S2 13 60 x1 v3 fun S4 =>
          cg S4 7 fun v5 =>
          cp S4 7 (v5 ||| ((nI 1) <<< (v1 &&& 31))) fun S6 =>
          some (0, S6))))
theorem w1_bind (hsf : sfOk (SF tk)) (X : hX p s m args meth c cX1_bind 3 RX1 none D (tyC cI) (SF tk) A) {S0 : CS} (n : Nat) (x1 : Int32) (S : CS) : hG p l e (fun r => rmC 1 21 (cS r.2 - cS S0) (sS r.2 - sS S0)) s m args below meth c 3 (ZW D (wC cI q) A s.heap S0 S) (cS S - cS S0) (sS S - sS S0) (fun r => MQ below (QWv D (tyC cI) (wC cI q) A r) args s (cS r.2 - cS S0) (sS r.2 - sS S0) A) (fun r => le S r.2) 0 [(0, .ref (q 51)), (1, .int x1)] [] (f1_bind n x1 S) := by
    unfold f1_bind
    refine h_aload_n X dX1_bind_0 rfl rfl ?_
    refine h_iload_n X dX1_bind_1 rfl rfl ?_
    refine k1_textAt hsf X tlX1_83 ⟨Nat.le_of_ble_eq_true rfl, Nat.le_of_ble_eq_true rfl⟩ (Nat.le_of_ble_eq_true rfl) dX1_bind_2 ?_
    intro v1 S1
    refine h_istore_n (lv' := [(2, .int v1), (0, .ref (q 51)), (1, .int x1)]) X dX1_bind_5 rfl (by decide) rfl ?_
    refine h_iload_n X dX1_bind_6 rfl rfl ?_
    refine kn4_isName_X1 hsf X ⟨Nat.le_of_ble_eq_true rfl, Nat.le_of_ble_eq_true rfl⟩ (Nat.le_of_ble_eq_true rfl) dX1_bind_7 ?_
    intro v2 S2
    refine h_if_eq (tgt := 47) X dX1_bind_10 (by decide) ?_ ?_
    · exact h_vret X dX1_bind_47
    · refine h_iload_n X dX1_bind_13 rfl rfl ?_
      refine h_if_lt (tgt := 47) X dX1_bind_14 (by decide) ?_ ?_
      · exact h_vret X dX1_bind_47
      · refine h_iload_n X dX1_bind_17 rfl rfl ?_
        refine h_bipush (v := (nI 60)) X dX1_bind_18 (by decide) ?_
        refine h_icmp_ge (tgt := 47) X dX1_bind_20 (by decide) ?_ ?_
        · exact h_vret X dX1_bind_47
        · refine h_aload_n X dX1_bind_23 rfl rfl ?_
          refine c_g_RD_bound X fl1_46 dX1_bind_24 ?_
          refine h_iload_n X dX1_bind_27 rfl rfl ?_
          refine h_aload_n X dX1_bind_28 rfl rfl ?_
          refine c_g_RD_newest X fl1_36 dX1_bind_29 ?_
          refine h_iload_n X dX1_bind_32 rfl rfl ?_
          refine c_l_10 X dX1_bind_33 ?_
          intro v3
          refine c_s_13 X dX1_bind_34 ?_
          intro S4
          refine h_aload_n X dX1_bind_35 rfl rfl ?_
          refine h_dup X dX1_bind_36 rfl ?_
          refine c_g_RD_used X fl1_27 dX1_bind_37 ?_
          intro v5
          refine h_iconst (v := (nI 1)) X dX1_bind_40 (by decide) ?_
          refine h_iload_n X dX1_bind_41 rfl rfl ?_
          refine h_ishl X dX1_bind_42 ?_
          refine h_ior X dX1_bind_43 ?_
          refine c_p_RD_used X fl1_27 dX1_bind_44 ?_
          intro S6
          exact h_vret X dX1_bind_47
theorem mo1_bind (n : Nat) (x1 : Int32) (S : CS) : mo S (f1_bind n x1 S) := by
    unfold f1_bind
    refine m_bnd (mo1_textAt _ _ _) (fun v1 S1 => ?_)
    refine m_bnd (mo4_isName _ _ _) (fun v2 S2 => ?_)
    refine m_ite ?_ ?_
    · exact m_some
    · refine m_ite ?_ ?_
      · exact m_some
      · refine m_ite ?_ ?_
        · exact m_some
        · refine m_cr (fun v3 => ?_)
          refine m_cw (fun S4 => ?_)
          refine m_cg (fun v5 => ?_)
          refine m_cp (fun S6 => ?_)
          exact m_some
theorem c1_bind (hsf : sfOk (SF tk)) (l : Launch) (D : va_G) (cI : ClassId) (q : Nat → Nat) (n : Nat) (x1 : Int32) (S : CS) : MetW l D (tyC cI) (SF tk) (wC cI q) yX1_bind cX1_bind 3 none 1 21 QWv [.ref (q 51), .int x1] S (f1_bind n x1 S) := by
  refine MetW.of (own := RX1) (by decide) rfl (Nat.le_of_ble_eq_true rfl) (mo1_bind n x1 S) ?_
  intro x p e s m args below meth c X
  refine h_pick (lv' := [(0, .ref (q 51)), (1, .int x1)]) [0, 1] rfl ?_
  exact h_close (w1_bind hsf X n x1 S)
theorem tc1_bind : Cond.code yX1_bind cX1_bind 3 none ∈ tt := tt_in (List.mem_of_getElem? (i := 359) (by decide +kernel)) (by decide +kernel)
theorem ti1_bind : Cond.instanceMethod yX1_bind ∈ tt := tt_in (List.mem_of_getElem? (i := 358) (by decide +kernel)) (by decide +kernel)
theorem te1_bind : Cond.selects RX1 yX1_bind yX1_bind ∈ tt := tt_in (List.mem_of_getElem? (i := 6) (by decide +kernel)) (by decide +kernel)
theorem k1_bind (hsf : sfOk (SF tk)) (X : hX p s m args meth c cc nL own rt D (tyC cI) (SF tk) A) {n : Nat} {x1 : Int32} {ix : Nat} (hlk : Cond.methodLink own ix yX1_bind ∈ tt) {rest : List Value} {K : Int32 → CS → Option (ρ × CS)} (hR : 1 + 1 ≤ fr ∧ 8 + (3 + 11) + 21 ≤ lo) (hcat : (rest.map fun v => v.category).sum ≤ 8) (d : decode cc pc = .ok (.invokevirtual ix, 3)) (kk : ∀ v S1, hG p l e (fun r => rmC fr lo (cS r.2 - cS S0) (sS r.2 - sS S0)) s m args below meth c nL (ZW D (wC cI q) A s.heap S0 S1) (cS S1 - cS S0) (sS S1 - sS S0) QQ (fun r => le S1 r.2) (pc + 3) lv rest (K v S1)) : hG p l e (fun r => rmC fr lo (cS r.2 - cS S0) (sS r.2 - sS S0)) s m args below meth c nL (ZW D (wC cI q) A s.heap S0 S) (cS S - cS S0) (sS S - sS S0) QQ (fun r => le S r.2) pc lv (.int x1 :: .ref (q 51) :: rest) (bnd (f1_bind n x1 S) K) := h_callVv (As := [.int x1]) (b := q 51) (C := RX1) hsf X (c1_bind hsf l D cI q n x1 S) (cwVC (k := 1) X.1.2.2.2.2.1 hlk ti1_bind te1_bind tc1_bind ini_1 (by decide +kernel) hR) (fun x H h1 h2 => va_recv h1 h2 (ci := 1) (q0 := 2) rfl rfl) rfl rfl hcat d kk
-- X1.codeFault
def f1_codeFault_b138 (n : Nat) (k9 : Int32 → Int32 → Int32 → Int32 → Int32 → CS → Option (Int32 × CS)) (x2 : Int32) (x3 : Int32) (x5 : Int32) (x6 : Int32) (x7 : Int32) (x8 : Int32) (S : CS) : Option (Int32 × CS) :=
    tkr x7 fun v1 =>
    k9 x2 x3 x8 (x5 + ((nI 1) - v1)) (x6 + (nI 1)) S
theorem mw1_codeFault_b138 (n : Nat) (k9 : Int32 → Int32 → Int32 → Int32 → Int32 → CS → Option (Int32 × CS)) (mhk9 : ∀ (x2 : Int32) (x3 : Int32) (x4 : Int32) (x5 : Int32) (x6 : Int32) (S : CS), mo S (k9 x2 x3 x4 x5 x6 S)) (x2 : Int32) (x3 : Int32) (x5 : Int32) (x6 : Int32) (x7 : Int32) (x8 : Int32) (S : CS) : mo S (f1_codeFault_b138 n k9 x2 x3 x5 x6 x7 x8 S) := by
  unfold f1_codeFault_b138
  refine m_tkr (fun v1 => ?_)
  exact mhk9 x2 x3 x8 (x5 + ((nI 1) - v1)) (x6 + (nI 1)) S
theorem w1_codeFault_b138 (hsf : sfOk (SF tk)) (X : hX p s m args meth c cX1_codeFault 9 RX1 (some .int) D (tyC cI) (SF tk) A) (n : Nat) (k9 : Int32 → Int32 → Int32 → Int32 → Int32 → CS → Option (Int32 × CS)) (hk9 : ∀ (x2 : Int32) (x3 : Int32) (x4 : Int32) (x5 : Int32) (x6 : Int32) (S : CS), hG p l e (fun r => rmC 2 44 (cS r.2 - cS S0) (sS r.2 - sS S0)) s m args below meth c 9 (ZW D (wC cI q) A s.heap S0 S) (cS S - cS S0) (sS S - sS S0) (fun r => MQ below (QWi D (tyC cI) (wC cI q) A r) args s (cS r.2 - cS S0) (sS r.2 - sS S0) A) (fun r => le S r.2) 9 [(0, .ref (q 51)), (2, .int x2), (3, .int x3), (4, .int x4), (5, .int x5), (6, .int x6)] [] (k9 x2 x3 x4 x5 x6 S)) (x2 : Int32) (x3 : Int32) (x5 : Int32) (x6 : Int32) (x7 : Int32) (x8 : Int32) (S : CS) : hG p l e (fun r => rmC 2 44 (cS r.2 - cS S0) (sS r.2 - sS S0)) s m args below meth c 9 (ZW D (wC cI q) A s.heap S0 S) (cS S - cS S0) (sS S - sS S0) (fun r => MQ below (QWi D (tyC cI) (wC cI q) A r) args s (cS r.2 - cS S0) (sS r.2 - sS S0) A) (fun r => le S r.2) 138 [(0, .ref (q 51)), (2, .int x2), (3, .int x3), (5, .int x5), (6, .int x6), (7, .int x7), (8, .int x8)] [] (f1_codeFault_b138 n k9 x2 x3 x5 x6 x7 x8 S) := by
  unfold f1_codeFault_b138
  refine h_iload X dX1_codeFault_138 rfl ?_
  refine h_iconst (v := (nI 1)) X dX1_codeFault_140 (by decide) ?_
  refine c_takesS X dX1_codeFault_141 ?_
  refine h_iload X dX1_codeFault_144 rfl ?_
  refine c_tld X dX1_codeFault_146 ?_
  intro v1
  refine h_isub X dX1_codeFault_147 ?_
  refine h_iadd X dX1_codeFault_148 ?_
  refine h_istore (lv' := [(5, .int (x5 + ((nI 1) - v1))), (0, .ref (q 51)), (2, .int x2), (3, .int x3), (6, .int x6), (7, .int x7), (8, .int x8)]) X dX1_codeFault_149 (by decide) rfl ?_
  refine h_iload X dX1_codeFault_151 rfl ?_
  refine h_istore (lv' := [(4, .int x8), (5, .int (x5 + ((nI 1) - v1))), (0, .ref (q 51)), (2, .int x2), (3, .int x3), (6, .int x6), (7, .int x7), (8, .int x8)]) X dX1_codeFault_153 (by decide) rfl ?_
  refine h_iinc (v := (nI 1)) (lv' := [(6, .int (x6 + (nI 1))), (4, .int x8), (5, .int (x5 + ((nI 1) - v1))), (0, .ref (q 51)), (2, .int x2), (3, .int x3), (7, .int x7), (8, .int x8)]) X dX1_codeFault_155 rfl (by decide) (by decide) rfl ?_
  refine h_goto (tgt := 9) X dX1_codeFault_158 (by decide) ?_
  exact h_pick [3, 4, 5, 1, 2, 0] rfl (hk9 x2 x3 x8 (x5 + ((nI 1) - v1)) (x6 + (nI 1)) S)
theorem tlX1_121 : Cond.methodLink RX1 121 yX1_usesName ∈ tt := tt_in (List.mem_of_getElem? (i := 353) (by decide +kernel)) (by decide +kernel)
theorem tlX1_94 : Cond.methodLink RX1 94 yX1_bind ∈ tt := tt_in (List.mem_of_getElem? (i := 356) (by decide +kernel)) (by decide +kernel)
def f1_codeFault_b122 (n : Nat) (k9 : Int32 → Int32 → Int32 → Int32 → Int32 → CS → Option (Int32 × CS)) (x2 : Int32) (x3 : Int32) (x4 : Int32) (x5 : Int32) (x6 : Int32) (x7 : Int32) (x8 : Int32) (S : CS) : Option (Int32 × CS) :=
    bnd (f1_usesName n x7 S) fun v1 S1 =>
    if v1 = 0 then
      (f1_codeFault_b138 n k9 x2 x3 x5 x6 x7 x8 S1)
    else
      (bnd (f1_bind n (x4 + (nI 1)) S1) fun _ S2 =>
      f1_codeFault_b138 n k9 x2 x3 x5 x6 x7 x8 S2)
theorem mw1_codeFault_b122 (n : Nat) (k9 : Int32 → Int32 → Int32 → Int32 → Int32 → CS → Option (Int32 × CS)) (mhk9 : ∀ (x2 : Int32) (x3 : Int32) (x4 : Int32) (x5 : Int32) (x6 : Int32) (S : CS), mo S (k9 x2 x3 x4 x5 x6 S)) (x2 : Int32) (x3 : Int32) (x4 : Int32) (x5 : Int32) (x6 : Int32) (x7 : Int32) (x8 : Int32) (S : CS) : mo S (f1_codeFault_b122 n k9 x2 x3 x4 x5 x6 x7 x8 S) := by
  unfold f1_codeFault_b122
  refine m_bnd (mo1_usesName _ _ _) (fun v1 S1 => ?_)
  refine m_ite ?_ ?_
  · exact mw1_codeFault_b138 n k9 mhk9 x2 x3 x5 x6 x7 x8 S1
  · refine m_bnd (mo1_bind _ _ _) (fun v2 S2 => ?_)
    exact mw1_codeFault_b138 n k9 mhk9 x2 x3 x5 x6 x7 x8 S2
theorem w1_codeFault_b122 (hsf : sfOk (SF tk)) (X : hX p s m args meth c cX1_codeFault 9 RX1 (some .int) D (tyC cI) (SF tk) A) (n : Nat) (k9 : Int32 → Int32 → Int32 → Int32 → Int32 → CS → Option (Int32 × CS)) (hk9 : ∀ (x2 : Int32) (x3 : Int32) (x4 : Int32) (x5 : Int32) (x6 : Int32) (S : CS), hG p l e (fun r => rmC 2 44 (cS r.2 - cS S0) (sS r.2 - sS S0)) s m args below meth c 9 (ZW D (wC cI q) A s.heap S0 S) (cS S - cS S0) (sS S - sS S0) (fun r => MQ below (QWi D (tyC cI) (wC cI q) A r) args s (cS r.2 - cS S0) (sS r.2 - sS S0) A) (fun r => le S r.2) 9 [(0, .ref (q 51)), (2, .int x2), (3, .int x3), (4, .int x4), (5, .int x5), (6, .int x6)] [] (k9 x2 x3 x4 x5 x6 S)) (x2 : Int32) (x3 : Int32) (x4 : Int32) (x5 : Int32) (x6 : Int32) (x7 : Int32) (x8 : Int32) (S : CS) : hG p l e (fun r => rmC 2 44 (cS r.2 - cS S0) (sS r.2 - sS S0)) s m args below meth c 9 (ZW D (wC cI q) A s.heap S0 S) (cS S - cS S0) (sS S - sS S0) (fun r => MQ below (QWi D (tyC cI) (wC cI q) A r) args s (cS r.2 - cS S0) (sS r.2 - sS S0) A) (fun r => le S r.2) 122 [(0, .ref (q 51)), (2, .int x2), (3, .int x3), (4, .int x4), (5, .int x5), (6, .int x6), (7, .int x7), (8, .int x8)] [] (f1_codeFault_b122 n k9 x2 x3 x4 x5 x6 x7 x8 S) := by
  unfold f1_codeFault_b122
  refine h_iload X dX1_codeFault_122 rfl ?_
  refine k1_usesName hsf X tlX1_121 ⟨Nat.le_of_ble_eq_true rfl, Nat.le_of_ble_eq_true rfl⟩ (Nat.le_of_ble_eq_true rfl) dX1_codeFault_124 ?_
  intro v1 S1
  refine h_if_eq (tgt := 138) X dX1_codeFault_127 (by decide) ?_ ?_
  · exact h_pick [0, 1, 2, 4, 5, 6, 7] rfl (w1_codeFault_b138 hsf X n k9 hk9 x2 x3 x5 x6 x7 x8 S1)
  · refine h_aload_n X dX1_codeFault_130 rfl rfl ?_
    refine h_iload X dX1_codeFault_131 rfl ?_
    refine h_iconst (v := (nI 1)) X dX1_codeFault_133 (by decide) ?_
    refine h_iadd X dX1_codeFault_134 ?_
    refine k1_bind hsf X tlX1_94 ⟨Nat.le_of_ble_eq_true rfl, Nat.le_of_ble_eq_true rfl⟩ (Nat.le_of_ble_eq_true rfl) dX1_codeFault_135 ?_
    intro v2 S2
    exact h_pick [0, 1, 2, 4, 5, 6, 7] rfl (w1_codeFault_b138 hsf X n k9 hk9 x2 x3 x5 x6 x7 x8 S2)
theorem tlX1_115 : Cond.methodLink RX1 115 yX1_sizeOf ∈ tt := tt_in (List.mem_of_getElem? (i := 342) (by decide +kernel)) (by decide +kernel)
theorem tlX1_118 : Cond.methodLink RX1 118 yX1_isIntRight ∈ tt := tt_in (List.mem_of_getElem? (i := 345) (by decide +kernel)) (by decide +kernel)
def f1_codeFault_b79 (n : Nat) (k9 : Int32 → Int32 → Int32 → Int32 → Int32 → CS → Option (Int32 × CS)) (x2 : Int32) (x3 : Int32) (x4 : Int32) (x5 : Int32) (x6 : Int32) (x7 : Int32) (S : CS) : Option (Int32 × CS) :=
    bnd (f1_sizeOf n x7 S) fun v1 S1 =>
    if x2 < (x4 + v1) then
      (some (x4, S1))
    else
      (if (nI 8) ≤ x7 then
        (f1_codeFault_b122 n k9 x2 x3 x4 x5 x6 x7 (x4 + v1) S1)
      else
        (bnd (f1_textAt n (x4 + (nI 1)) S1) fun v2 S2 =>
        bnd (f1_isIntRight n x7 v2 S2) fun v3 S3 =>
        if v3 = 0 then (some (x4, S3)) else (f1_codeFault_b122 n k9 x2 x3 x4 x5 x6 x7 (x4 + v1) S3)))
theorem mw1_codeFault_b79 (n : Nat) (k9 : Int32 → Int32 → Int32 → Int32 → Int32 → CS → Option (Int32 × CS)) (mhk9 : ∀ (x2 : Int32) (x3 : Int32) (x4 : Int32) (x5 : Int32) (x6 : Int32) (S : CS), mo S (k9 x2 x3 x4 x5 x6 S)) (x2 : Int32) (x3 : Int32) (x4 : Int32) (x5 : Int32) (x6 : Int32) (x7 : Int32) (S : CS) : mo S (f1_codeFault_b79 n k9 x2 x3 x4 x5 x6 x7 S) := by
  unfold f1_codeFault_b79
  refine m_bnd (mo1_sizeOf _ _ _) (fun v1 S1 => ?_)
  refine m_ite ?_ ?_
  · exact m_some
  · refine m_ite ?_ ?_
    · exact mw1_codeFault_b122 n k9 mhk9 x2 x3 x4 x5 x6 x7 (x4 + v1) S1
    · refine m_bnd (mo1_textAt _ _ _) (fun v2 S2 => ?_)
      refine m_bnd (mo1_isIntRight _ _ _ _) (fun v3 S3 => ?_)
      refine m_ite ?_ ?_
      · exact m_some
      · exact mw1_codeFault_b122 n k9 mhk9 x2 x3 x4 x5 x6 x7 (x4 + v1) S3
theorem w1_codeFault_b79 (hsf : sfOk (SF tk)) (X : hX p s m args meth c cX1_codeFault 9 RX1 (some .int) D (tyC cI) (SF tk) A) (n : Nat) (k9 : Int32 → Int32 → Int32 → Int32 → Int32 → CS → Option (Int32 × CS)) (hk9 : ∀ (x2 : Int32) (x3 : Int32) (x4 : Int32) (x5 : Int32) (x6 : Int32) (S : CS), hG p l e (fun r => rmC 2 44 (cS r.2 - cS S0) (sS r.2 - sS S0)) s m args below meth c 9 (ZW D (wC cI q) A s.heap S0 S) (cS S - cS S0) (sS S - sS S0) (fun r => MQ below (QWi D (tyC cI) (wC cI q) A r) args s (cS r.2 - cS S0) (sS r.2 - sS S0) A) (fun r => le S r.2) 9 [(0, .ref (q 51)), (2, .int x2), (3, .int x3), (4, .int x4), (5, .int x5), (6, .int x6)] [] (k9 x2 x3 x4 x5 x6 S)) (x2 : Int32) (x3 : Int32) (x4 : Int32) (x5 : Int32) (x6 : Int32) (x7 : Int32) (S : CS) : hG p l e (fun r => rmC 2 44 (cS r.2 - cS S0) (sS r.2 - sS S0)) s m args below meth c 9 (ZW D (wC cI q) A s.heap S0 S) (cS S - cS S0) (sS S - sS S0) (fun r => MQ below (QWi D (tyC cI) (wC cI q) A r) args s (cS r.2 - cS S0) (sS r.2 - sS S0) A) (fun r => le S r.2) 79 [(0, .ref (q 51)), (2, .int x2), (3, .int x3), (4, .int x4), (5, .int x5), (6, .int x6), (7, .int x7)] [] (f1_codeFault_b79 n k9 x2 x3 x4 x5 x6 x7 S) := by
  unfold f1_codeFault_b79
  refine h_iload X dX1_codeFault_79 rfl ?_
  refine h_iload X dX1_codeFault_81 rfl ?_
  refine k1_sizeOf hsf X tlX1_115 ⟨Nat.le_of_ble_eq_true rfl, Nat.le_of_ble_eq_true rfl⟩ (Nat.le_of_ble_eq_true rfl) dX1_codeFault_83 ?_
  intro v1 S1
  refine h_iadd X dX1_codeFault_86 ?_
  refine h_istore (lv' := [(8, .int (x4 + v1)), (0, .ref (q 51)), (2, .int x2), (3, .int x3), (4, .int x4), (5, .int x5), (6, .int x6), (7, .int x7)]) X dX1_codeFault_87 (by decide) rfl ?_
  refine h_iload X dX1_codeFault_89 rfl ?_
  refine h_iload_n X dX1_codeFault_91 rfl rfl ?_
  refine h_icmp_gt (tgt := 119) X dX1_codeFault_92 (by decide) ?_ ?_
  · refine h_iload X dX1_codeFault_119 rfl ?_
    exact h_iret X dX1_codeFault_121
  · refine h_iload X dX1_codeFault_95 rfl ?_
    refine h_bipush (v := (nI 8)) X dX1_codeFault_97 (by decide) ?_
    refine h_icmp_ge (tgt := 122) X dX1_codeFault_99 (by decide) ?_ ?_
    · exact h_pick [1, 2, 3, 4, 5, 6, 7, 0] rfl (w1_codeFault_b122 hsf X n k9 hk9 x2 x3 x4 x5 x6 x7 (x4 + v1) S1)
    · refine h_aload_n X dX1_codeFault_102 rfl rfl ?_
      refine h_iload X dX1_codeFault_103 rfl ?_
      refine h_aload_n X dX1_codeFault_105 rfl rfl ?_
      refine h_iload X dX1_codeFault_106 rfl ?_
      refine h_iconst (v := (nI 1)) X dX1_codeFault_108 (by decide) ?_
      refine h_iadd X dX1_codeFault_109 ?_
      refine k1_textAt hsf X tlX1_83 ⟨Nat.le_of_ble_eq_true rfl, Nat.le_of_ble_eq_true rfl⟩ (Nat.le_of_ble_eq_true rfl) dX1_codeFault_110 ?_
      intro v2 S2
      refine k1_isIntRight hsf X tlX1_118 ⟨Nat.le_of_ble_eq_true rfl, Nat.le_of_ble_eq_true rfl⟩ (Nat.le_of_ble_eq_true rfl) dX1_codeFault_113 ?_
      intro v3 S3
      refine h_if_ne (tgt := 122) X dX1_codeFault_116 (by decide) ?_ ?_
      · exact h_pick [1, 2, 3, 4, 5, 6, 7, 0] rfl (w1_codeFault_b122 hsf X n k9 hk9 x2 x3 x4 x5 x6 x7 (x4 + v1) S3)
      · refine h_iload X dX1_codeFault_119 rfl ?_
        exact h_iret X dX1_codeFault_121
def f1_codeFault_b161 (n : Nat) (x2 : Int32) (x5 : Int32) (S : CS) : Option (Int32 × CS) :=
    if x5 = (nI 1) then (some ((-1 : Int32), S)) else (some (x2, S))
theorem mw1_codeFault_b161 (n : Nat) (x2 : Int32) (x5 : Int32) (S : CS) : mo S (f1_codeFault_b161 n x2 x5 S) := by
  unfold f1_codeFault_b161
  refine m_ite ?_ ?_
  · exact m_some
  · exact m_some
theorem w1_codeFault_b161 (hsf : sfOk (SF tk)) (X : hX p s m args meth c cX1_codeFault 9 RX1 (some .int) D (tyC cI) (SF tk) A) (n : Nat) (x2 : Int32) (x5 : Int32) (S : CS) : hG p l e (fun r => rmC 2 44 (cS r.2 - cS S0) (sS r.2 - sS S0)) s m args below meth c 9 (ZW D (wC cI q) A s.heap S0 S) (cS S - cS S0) (sS S - sS S0) (fun r => MQ below (QWi D (tyC cI) (wC cI q) A r) args s (cS r.2 - cS S0) (sS r.2 - sS S0) A) (fun r => le S r.2) 161 [(2, .int x2), (5, .int x5)] [] (f1_codeFault_b161 n x2 x5 S) := by
  unfold f1_codeFault_b161
  refine h_iload X dX1_codeFault_161 rfl ?_
  refine h_iconst (v := (nI 1)) X dX1_codeFault_163 (by decide) ?_
  refine h_icmp_ne (tgt := 171) X dX1_codeFault_164 (by decide) ?_ ?_
  · refine h_iload_n X dX1_codeFault_171 rfl rfl ?_
    exact h_iret X dX1_codeFault_172
  · refine h_iconst (v := (-1 : Int32)) X dX1_codeFault_167 (by decide) ?_
    refine h_goto (tgt := 172) X dX1_codeFault_168 (by decide) ?_
    exact h_iret X dX1_codeFault_172
def f1_codeFault_l9 (n : Nat) : Nat → Int32 → Int32 → Int32 → Int32 → Int32 → CS → Option (Int32 × CS)
  | 0, _, _, _, _, _, _ => none
  | k + 1, x2, x3, x4, x5, x6, S => if (nI 60) ≤ x6 then
      (f1_codeFault_b161 n x2 x5 S)
    else
      (if x2 ≤ x4 then
        (f1_codeFault_b161 n x2 x5 S)
      else
        (bnd (f1_textAt n x4 S) fun v1 S1 =>
        if v1 < 0 then
          (some (x4, S1))
        else
          (if (19 : Int32) ≤ v1 then
            (some (x4, S1))
          else
            (tkr v1 fun v2 =>
            if v2 ≤ x5 then
              (if x3 = 0 then
                (if v1 = (nI 16) then
                  (some (x4, S1))
                else
                  (if v1 = (nI 17) then (some (x4, S1)) else (f1_codeFault_b79 n (f1_codeFault_l9 n k) x2 x3 x4 x5 x6 v1 S1)))
              else
                (f1_codeFault_b79 n (f1_codeFault_l9 n k) x2 x3 x4 x5 x6 v1 S1))
            else
              (some (x4, S1))))))
theorem mw1_codeFault_l9 (n : Nat) : ∀ (k : Nat) (x2 : Int32) (x3 : Int32) (x4 : Int32) (x5 : Int32) (x6 : Int32) (S : CS), mo S (f1_codeFault_l9 n k x2 x3 x4 x5 x6 S) := by
  intro k
  induction k with
  | zero =>
    intro x2 x3 x4 x5 x6 S
    exact m_none
  | succ k ih =>
    intro x2 x3 x4 x5 x6 S
    rw [f1_codeFault_l9]
    refine m_ite ?_ ?_
    · exact mw1_codeFault_b161 n x2 x5 S
    · refine m_ite ?_ ?_
      · exact mw1_codeFault_b161 n x2 x5 S
      · refine m_bnd (mo1_textAt _ _ _) (fun v1 S1 => ?_)
        refine m_ite ?_ ?_
        · exact m_some
        · refine m_ite ?_ ?_
          · exact m_some
          · refine m_tkr (fun v2 => ?_)
            refine m_ite ?_ ?_
            · refine m_ite ?_ ?_
              · refine m_ite ?_ ?_
                · exact m_some
                · refine m_ite ?_ ?_
                  · exact m_some
                  · exact mw1_codeFault_b79 n (f1_codeFault_l9 n k) ih x2 x3 x4 x5 x6 v1 S1
              · exact mw1_codeFault_b79 n (f1_codeFault_l9 n k) ih x2 x3 x4 x5 x6 v1 S1
            · exact m_some
theorem w1_codeFault_l9 (hsf : sfOk (SF tk)) (X : hX p s m args meth c cX1_codeFault 9 RX1 (some .int) D (tyC cI) (SF tk) A) (n : Nat) : ∀ (k : Nat) (x2 : Int32) (x3 : Int32) (x4 : Int32) (x5 : Int32) (x6 : Int32) (S : CS), hG p l e (fun r => rmC 2 44 (cS r.2 - cS S0) (sS r.2 - sS S0)) s m args below meth c 9 (ZW D (wC cI q) A s.heap S0 S) (cS S - cS S0) (sS S - sS S0) (fun r => MQ below (QWi D (tyC cI) (wC cI q) A r) args s (cS r.2 - cS S0) (sS r.2 - sS S0) A) (fun r => le S r.2) 9 [(0, .ref (q 51)), (2, .int x2), (3, .int x3), (4, .int x4), (5, .int x5), (6, .int x6)] [] (f1_codeFault_l9 n k x2 x3 x4 x5 x6 S) := by
  intro k
  induction k with
  | zero =>
    intro x2 x3 x4 x5 x6 S
    exact h_none
  | succ k ih =>
    intro x2 x3 x4 x5 x6 S
    rw [f1_codeFault_l9]
    refine h_iload X dX1_codeFault_9 rfl ?_
    refine h_bipush (v := (nI 60)) X dX1_codeFault_11 (by decide) ?_
    refine h_icmp_ge (tgt := 161) X dX1_codeFault_13 (by decide) ?_ ?_
    · exact h_pick [1, 4] rfl (w1_codeFault_b161 hsf X n x2 x5 S)
    · refine h_iload X dX1_codeFault_16 rfl ?_
      refine h_iload_n X dX1_codeFault_18 rfl rfl ?_
      refine h_icmp_ge (tgt := 161) X dX1_codeFault_19 (by decide) ?_ ?_
      · exact h_pick [1, 4] rfl (w1_codeFault_b161 hsf X n x2 x5 S)
      · refine h_aload_n X dX1_codeFault_22 rfl rfl ?_
        refine h_iload X dX1_codeFault_23 rfl ?_
        refine k1_textAt hsf X tlX1_83 ⟨Nat.le_of_ble_eq_true rfl, Nat.le_of_ble_eq_true rfl⟩ (Nat.le_of_ble_eq_true rfl) dX1_codeFault_25 ?_
        intro v1 S1
        refine h_istore (lv' := [(7, .int v1), (0, .ref (q 51)), (2, .int x2), (3, .int x3), (4, .int x4), (5, .int x5), (6, .int x6)]) X dX1_codeFault_28 (by decide) rfl ?_
        refine h_iload X dX1_codeFault_30 rfl ?_
        refine h_if_lt (tgt := 55) X dX1_codeFault_32 (by decide) ?_ ?_
        · refine h_iload X dX1_codeFault_55 rfl ?_
          exact h_iret X dX1_codeFault_57
        · refine h_iload X dX1_codeFault_35 rfl ?_
          refine c_takesS X dX1_codeFault_37 ?_
          refine c_tlen X dX1_codeFault_40 ?_
          refine h_icmp_ge (tgt := 55) X dX1_codeFault_41 (by decide) ?_ ?_
          · refine h_iload X dX1_codeFault_55 rfl ?_
            exact h_iret X dX1_codeFault_57
          · refine h_iload X dX1_codeFault_44 rfl ?_
            refine c_takesS X dX1_codeFault_46 ?_
            refine h_iload X dX1_codeFault_49 rfl ?_
            refine c_tld X dX1_codeFault_51 ?_
            intro v2
            refine h_icmp_ge (tgt := 58) X dX1_codeFault_52 (by decide) ?_ ?_
            · refine h_iload_n X dX1_codeFault_58 rfl rfl ?_
              refine h_if_ne (tgt := 79) X dX1_codeFault_59 (by decide) ?_ ?_
              · exact h_pick [1, 2, 3, 4, 5, 6, 0] rfl (w1_codeFault_b79 hsf X n (f1_codeFault_l9 n k) ih x2 x3 x4 x5 x6 v1 S1)
              · refine h_iload X dX1_codeFault_62 rfl ?_
                refine h_bipush (v := (nI 16)) X dX1_codeFault_64 (by decide) ?_
                refine h_icmp_eq (tgt := 76) X dX1_codeFault_66 (by decide) ?_ ?_
                · refine h_iload X dX1_codeFault_76 rfl ?_
                  exact h_iret X dX1_codeFault_78
                · refine h_iload X dX1_codeFault_69 rfl ?_
                  refine h_bipush (v := (nI 17)) X dX1_codeFault_71 (by decide) ?_
                  refine h_icmp_ne (tgt := 79) X dX1_codeFault_73 (by decide) ?_ ?_
                  · exact h_pick [1, 2, 3, 4, 5, 6, 0] rfl (w1_codeFault_b79 hsf X n (f1_codeFault_l9 n k) ih x2 x3 x4 x5 x6 v1 S1)
                  · refine h_iload X dX1_codeFault_76 rfl ?_
                    exact h_iret X dX1_codeFault_78
            · refine h_iload X dX1_codeFault_55 rfl ?_
              exact h_iret X dX1_codeFault_57
def f1_codeFault (n : Nat) (x1 : Int32) (x2 : Int32) (x3 : Int32) (S : CS) : Option (Int32 × CS) :=
    f1_codeFault_l9 n n x2 x3 x1 (nI 0) (nI 0) S
theorem w1_codeFault (hsf : sfOk (SF tk)) (X : hX p s m args meth c cX1_codeFault 9 RX1 (some .int) D (tyC cI) (SF tk) A) {S0 : CS} (n : Nat) (x1 : Int32) (x2 : Int32) (x3 : Int32) (S : CS) : hG p l e (fun r => rmC 2 44 (cS r.2 - cS S0) (sS r.2 - sS S0)) s m args below meth c 9 (ZW D (wC cI q) A s.heap S0 S) (cS S - cS S0) (sS S - sS S0) (fun r => MQ below (QWi D (tyC cI) (wC cI q) A r) args s (cS r.2 - cS S0) (sS r.2 - sS S0) A) (fun r => le S r.2) 0 [(0, .ref (q 51)), (1, .int x1), (2, .int x2), (3, .int x3)] [] (f1_codeFault n x1 x2 x3 S) := by
    unfold f1_codeFault
    refine h_iload_n X dX1_codeFault_0 rfl rfl ?_
    refine h_istore (lv' := [(4, .int x1), (0, .ref (q 51)), (1, .int x1), (2, .int x2), (3, .int x3)]) X dX1_codeFault_1 (by decide) rfl ?_
    refine h_iconst (v := (nI 0)) X dX1_codeFault_3 (by decide) ?_
    refine h_istore (lv' := [(5, .int (nI 0)), (4, .int x1), (0, .ref (q 51)), (1, .int x1), (2, .int x2), (3, .int x3)]) X dX1_codeFault_4 (by decide) rfl ?_
    refine h_iconst (v := (nI 0)) X dX1_codeFault_6 (by decide) ?_
    refine h_istore (lv' := [(6, .int (nI 0)), (5, .int (nI 0)), (4, .int x1), (0, .ref (q 51)), (1, .int x1), (2, .int x2), (3, .int x3)]) X dX1_codeFault_7 (by decide) rfl ?_
    exact h_pick [3, 5, 6, 2, 1, 0] rfl (w1_codeFault_l9 hsf X n n x2 x3 x1 (nI 0) (nI 0) S)
theorem mo1_codeFault (n : Nat) (x1 : Int32) (x2 : Int32) (x3 : Int32) (S : CS) : mo S (f1_codeFault n x1 x2 x3 S) := by
    unfold f1_codeFault
    exact mw1_codeFault_l9 n n x2 x3 x1 (nI 0) (nI 0) S
theorem c1_codeFault (hsf : sfOk (SF tk)) (l : Launch) (D : va_G) (cI : ClassId) (q : Nat → Nat) (n : Nat) (x1 : Int32) (x2 : Int32) (x3 : Int32) (S : CS) : MetW l D (tyC cI) (SF tk) (wC cI q) yX1_codeFault cX1_codeFault 9 (some .int) 2 44 QWi [.ref (q 51), .int x1, .int x2, .int x3] S (f1_codeFault n x1 x2 x3 S) := by
  refine MetW.of (own := RX1) (by decide) rfl (Nat.le_of_ble_eq_true rfl) (mo1_codeFault n x1 x2 x3 S) ?_
  intro x p e s m args below meth c X
  refine h_pick (lv' := [(0, .ref (q 51)), (1, .int x1), (2, .int x2), (3, .int x3)]) [0, 1, 2, 3] rfl ?_
  exact h_close (w1_codeFault hsf X n x1 x2 x3 S)
theorem tc1_codeFault : Cond.code yX1_codeFault cX1_codeFault 9 (some .int) ∈ tt := tt_in (List.mem_of_getElem? (i := 335) (by decide +kernel)) (by decide +kernel)
theorem ti1_codeFault : Cond.instanceMethod yX1_codeFault ∈ tt := tt_in (List.mem_of_getElem? (i := 334) (by decide +kernel)) (by decide +kernel)
theorem te1_codeFault : Cond.selects RX1 yX1_codeFault yX1_codeFault ∈ tt := tt_in (List.mem_of_getElem? (i := 2) (by decide +kernel)) (by decide +kernel)
theorem k1_codeFault (hsf : sfOk (SF tk)) (X : hX p s m args meth c cc nL own rt D (tyC cI) (SF tk) A) {n : Nat} {x1 : Int32} {x2 : Int32} {x3 : Int32} {ix : Nat} (hlk : Cond.methodLink own ix yX1_codeFault ∈ tt) {rest : List Value} {K : Int32 → CS → Option (ρ × CS)} (hR : 2 + 1 ≤ fr ∧ 8 + (9 + 11) + 44 ≤ lo) (hcat : (rest.map fun v => v.category).sum ≤ 8) (d : decode cc pc = .ok (.invokevirtual ix, 3)) (kk : ∀ v S1, hG p l e (fun r => rmC fr lo (cS r.2 - cS S0) (sS r.2 - sS S0)) s m args below meth c nL (ZW D (wC cI q) A s.heap S0 S1) (cS S1 - cS S0) (sS S1 - sS S0) QQ (fun r => le S1 r.2) (pc + 3) lv (.int v :: rest) (K v S1)) : hG p l e (fun r => rmC fr lo (cS r.2 - cS S0) (sS r.2 - sS S0)) s m args below meth c nL (ZW D (wC cI q) A s.heap S0 S) (cS S - cS S0) (sS S - sS S0) QQ (fun r => le S r.2) pc lv (.int x3 :: .int x2 :: .int x1 :: .ref (q 51) :: rest) (bnd (f1_codeFault n x1 x2 x3 S) K) := h_callVi (As := [.int x1, .int x2, .int x3]) (b := q 51) (C := RX1) hsf X (c1_codeFault hsf l D cI q n x1 x2 x3 S) (cwVC (k := 3) X.1.2.2.2.2.1 hlk ti1_codeFault te1_codeFault tc1_codeFault ini_1 (by decide +kernel) hR) (fun x H h1 h2 => va_recv h1 h2 (ci := 1) (q0 := 2) rfl rfl) rfl rfl hcat d kk
-- X1.isThere
def f1_isThere (n : Nat) (x1 : Int32) (x2 : Int32) (x3 : Int32) (S : CS) : Option (Int32 × CS) :=
    cg S 6 fun v1 =>
    if v1 ≤ x1 then
      (zt (nI 0) (some ((nI 0), S)))
    else
      (bnd (f1_textAt n x1 S) fun v2 S2 =>
      if v2 < x2 then
        (zt (nI 0) (some ((nI 0), S2)))
      else
        (bnd (f1_textAt n x1 S2) fun v3 S3 =>
        if x3 < v3 then (zt (nI 0) (some ((nI 0), S3))) else (zt (nI 1) (some ((nI 1), S3)))))
theorem w1_isThere (hsf : sfOk (SF tk)) (X : hX p s m args meth c cX1_isThere 4 RX1 (some .boolean) D (tyC cI) (SF tk) A) {S0 : CS} (n : Nat) (x1 : Int32) (x2 : Int32) (x3 : Int32) (S : CS) : hG p l e (fun r => rmC 1 21 (cS r.2 - cS S0) (sS r.2 - sS S0)) s m args below meth c 4 (ZW D (wC cI q) A s.heap S0 S) (cS S - cS S0) (sS S - sS S0) (fun r => MQ below (QWi D (tyC cI) (wC cI q) A r) args s (cS r.2 - cS S0) (sS r.2 - sS S0) A) (fun r => le S r.2) 0 [(0, .ref (q 51)), (1, .int x1), (2, .int x2), (3, .int x3)] [] (f1_isThere n x1 x2 x3 S) := by
    unfold f1_isThere
    refine h_iload_n X dX1_isThere_0 rfl rfl ?_
    refine h_aload_n X dX1_isThere_1 rfl rfl ?_
    refine c_g_RD_length X fl1_23 dX1_isThere_2 ?_
    intro v1
    refine h_icmp_ge (tgt := 30) X dX1_isThere_5 (by decide) ?_ ?_
    · refine h_iconst (v := (nI 0)) X dX1_isThere_30 (by decide) ?_
      exact h_zret X dX1_isThere_31
    · refine h_aload_n X dX1_isThere_8 rfl rfl ?_
      refine h_iload_n X dX1_isThere_9 rfl rfl ?_
      refine k1_textAt hsf X tlX1_83 ⟨Nat.le_of_ble_eq_true rfl, Nat.le_of_ble_eq_true rfl⟩ (Nat.le_of_ble_eq_true rfl) dX1_isThere_10 ?_
      intro v2 S2
      refine h_iload_n X dX1_isThere_13 rfl rfl ?_
      refine h_icmp_lt (tgt := 30) X dX1_isThere_14 (by decide) ?_ ?_
      · refine h_iconst (v := (nI 0)) X dX1_isThere_30 (by decide) ?_
        exact h_zret X dX1_isThere_31
      · refine h_aload_n X dX1_isThere_17 rfl rfl ?_
        refine h_iload_n X dX1_isThere_18 rfl rfl ?_
        refine k1_textAt hsf X tlX1_83 ⟨Nat.le_of_ble_eq_true rfl, Nat.le_of_ble_eq_true rfl⟩ (Nat.le_of_ble_eq_true rfl) dX1_isThere_19 ?_
        intro v3 S3
        refine h_iload_n X dX1_isThere_22 rfl rfl ?_
        refine h_icmp_gt (tgt := 30) X dX1_isThere_23 (by decide) ?_ ?_
        · refine h_iconst (v := (nI 0)) X dX1_isThere_30 (by decide) ?_
          exact h_zret X dX1_isThere_31
        · refine h_iconst (v := (nI 1)) X dX1_isThere_26 (by decide) ?_
          refine h_goto (tgt := 31) X dX1_isThere_27 (by decide) ?_
          exact h_zret X dX1_isThere_31
theorem mo1_isThere (n : Nat) (x1 : Int32) (x2 : Int32) (x3 : Int32) (S : CS) : mo S (f1_isThere n x1 x2 x3 S) := by
    unfold f1_isThere
    refine m_cg (fun v1 => ?_)
    refine m_ite ?_ ?_
    · exact m_zt m_some
    · refine m_bnd (mo1_textAt _ _ _) (fun v2 S2 => ?_)
      refine m_ite ?_ ?_
      · exact m_zt m_some
      · refine m_bnd (mo1_textAt _ _ _) (fun v3 S3 => ?_)
        refine m_ite ?_ ?_
        · exact m_zt m_some
        · exact m_zt m_some
theorem c1_isThere (hsf : sfOk (SF tk)) (l : Launch) (D : va_G) (cI : ClassId) (q : Nat → Nat) (n : Nat) (x1 : Int32) (x2 : Int32) (x3 : Int32) (S : CS) : MetW l D (tyC cI) (SF tk) (wC cI q) yX1_isThere cX1_isThere 4 (some .boolean) 1 21 QWi [.ref (q 51), .int x1, .int x2, .int x3] S (f1_isThere n x1 x2 x3 S) := by
  refine MetW.of (own := RX1) (by decide) rfl (Nat.le_of_ble_eq_true rfl) (mo1_isThere n x1 x2 x3 S) ?_
  intro x p e s m args below meth c X
  refine h_pick (lv' := [(0, .ref (q 51)), (1, .int x1), (2, .int x2), (3, .int x3)]) [0, 1, 2, 3] rfl ?_
  exact h_close (w1_isThere hsf X n x1 x2 x3 S)
theorem tc1_isThere : Cond.code yX1_isThere cX1_isThere 4 (some .boolean) ∈ tt := tt_in (List.mem_of_getElem? (i := 368) (by decide +kernel)) (by decide +kernel)
theorem ti1_isThere : Cond.instanceMethod yX1_isThere ∈ tt := tt_in (List.mem_of_getElem? (i := 367) (by decide +kernel)) (by decide +kernel)
theorem te1_isThere : Cond.selects RX1 yX1_isThere yX1_isThere ∈ tt := tt_in (List.mem_of_getElem? (i := 8) (by decide +kernel)) (by decide +kernel)
theorem k1_isThere (hsf : sfOk (SF tk)) (X : hX p s m args meth c cc nL own rt D (tyC cI) (SF tk) A) {n : Nat} {x1 : Int32} {x2 : Int32} {x3 : Int32} {ix : Nat} (hlk : Cond.methodLink own ix yX1_isThere ∈ tt) {rest : List Value} {K : Int32 → CS → Option (ρ × CS)} (hR : 1 + 1 ≤ fr ∧ 8 + (4 + 11) + 21 ≤ lo) (hcat : (rest.map fun v => v.category).sum ≤ 8) (d : decode cc pc = .ok (.invokevirtual ix, 3)) (kk : ∀ v S1, hG p l e (fun r => rmC fr lo (cS r.2 - cS S0) (sS r.2 - sS S0)) s m args below meth c nL (ZW D (wC cI q) A s.heap S0 S1) (cS S1 - cS S0) (sS S1 - sS S0) QQ (fun r => le S1 r.2) (pc + 3) lv (.int v :: rest) (K v S1)) : hG p l e (fun r => rmC fr lo (cS r.2 - cS S0) (sS r.2 - sS S0)) s m args below meth c nL (ZW D (wC cI q) A s.heap S0 S) (cS S - cS S0) (sS S - sS S0) QQ (fun r => le S r.2) pc lv (.int x3 :: .int x2 :: .int x1 :: .ref (q 51) :: rest) (bnd (f1_isThere n x1 x2 x3 S) K) := h_callVi (As := [.int x1, .int x2, .int x3]) (b := q 51) (C := RX1) hsf X (c1_isThere hsf l D cI q n x1 x2 x3 S) (cwVC (k := 3) X.1.2.2.2.2.1 hlk ti1_isThere te1_isThere tc1_isThere ini_1 (by decide +kernel) hR) (fun x H h1 h2 => va_recv h1 h2 (ci := 1) (q0 := 2) rfl rfl) rfl rfl hcat d kk
-- X1.readParent
theorem tlX1_86 : Cond.methodLink RX1 86 yX1_isThere ∈ tt := tt_in (List.mem_of_getElem? (i := 365) (by decide +kernel)) (by decide +kernel)
theorem tlX1_98 : Cond.methodLink RX1 98 yX1_boundAt ∈ tt := tt_in (List.mem_of_getElem? (i := 369) (by decide +kernel)) (by decide +kernel)
def f1_readParent (n : Nat) (S : CS) : Option (Int32 × CS) :=
    bnd (f1_isThere n (nI 0) (-1 : Int32) (nI 15) S) fun v1 S1 =>
    if v1 = 0 then
      (zt (nI 0) (some ((nI 0), S1)))
    else
      (cp S1 14 (nI 1) fun S2 =>
      bnd (f1_textAt n (nI 0) S2) fun v3 S3 =>
      if v3 = (-1 : Int32) then
        (zt (nI 1) (some ((nI 1), S3)))
      else
        (bnd (f1_textAt n (nI 0) S3) fun v4 S4 =>
        bnd (f1_standsFor n v4 (nI 1) S4) fun v5 S5 =>
        if v5 = 0 then
          (zt (nI 0) (some ((nI 0), S5)))
        else
          (bnd (f1_bind n (nI 0) S5) fun _ S6 =>
          bnd (f1_boundAt n (nI 0) S6) fun v7 S7 =>
          cp S7 8 v7 fun S8 =>
          zt (nI 1) (some ((nI 1), S8)))))
theorem w1_readParent (hsf : sfOk (SF tk)) (X : hX p s m args meth c cX1_readParent 1 RX1 (some .boolean) D (tyC cI) (SF tk) A) {S0 : CS} (n : Nat) (S : CS) : hG p l e (fun r => rmC 2 44 (cS r.2 - cS S0) (sS r.2 - sS S0)) s m args below meth c 1 (ZW D (wC cI q) A s.heap S0 S) (cS S - cS S0) (sS S - sS S0) (fun r => MQ below (QWi D (tyC cI) (wC cI q) A r) args s (cS r.2 - cS S0) (sS r.2 - sS S0) A) (fun r => le S r.2) 0 [(0, .ref (q 51))] [] (f1_readParent n S) := by
    unfold f1_readParent
    refine h_aload_n X dX1_readParent_0 rfl rfl ?_
    refine h_iconst (v := (nI 0)) X dX1_readParent_1 (by decide) ?_
    refine h_iconst (v := (-1 : Int32)) X dX1_readParent_2 (by decide) ?_
    refine h_bipush (v := (nI 15)) X dX1_readParent_3 (by decide) ?_
    refine k1_isThere hsf X tlX1_86 ⟨Nat.le_of_ble_eq_true rfl, Nat.le_of_ble_eq_true rfl⟩ (Nat.le_of_ble_eq_true rfl) dX1_readParent_5 ?_
    intro v1 S1
    refine h_if_ne (tgt := 13) X dX1_readParent_8 (by decide) ?_ ?_
    · refine h_aload_n X dX1_readParent_13 rfl rfl ?_
      refine h_iconst (v := (nI 1)) X dX1_readParent_14 (by decide) ?_
      refine c_p_RD_at X fl1_49 dX1_readParent_15 ?_
      intro S2
      refine h_aload_n X dX1_readParent_18 rfl rfl ?_
      refine h_iconst (v := (nI 0)) X dX1_readParent_19 (by decide) ?_
      refine k1_textAt hsf X tlX1_83 ⟨Nat.le_of_ble_eq_true rfl, Nat.le_of_ble_eq_true rfl⟩ (Nat.le_of_ble_eq_true rfl) dX1_readParent_20 ?_
      intro v3 S3
      refine h_iconst (v := (-1 : Int32)) X dX1_readParent_23 (by decide) ?_
      refine h_icmp_ne (tgt := 29) X dX1_readParent_24 (by decide) ?_ ?_
      · refine h_aload_n X dX1_readParent_29 rfl rfl ?_
        refine h_aload_n X dX1_readParent_30 rfl rfl ?_
        refine h_iconst (v := (nI 0)) X dX1_readParent_31 (by decide) ?_
        refine k1_textAt hsf X tlX1_83 ⟨Nat.le_of_ble_eq_true rfl, Nat.le_of_ble_eq_true rfl⟩ (Nat.le_of_ble_eq_true rfl) dX1_readParent_32 ?_
        intro v4 S4
        refine h_iconst (v := (nI 1)) X dX1_readParent_35 (by decide) ?_
        refine k1_standsFor hsf X tlX1_90 ⟨Nat.le_of_ble_eq_true rfl, Nat.le_of_ble_eq_true rfl⟩ (Nat.le_of_ble_eq_true rfl) dX1_readParent_36 ?_
        intro v5 S5
        refine h_if_ne (tgt := 44) X dX1_readParent_39 (by decide) ?_ ?_
        · refine h_aload_n X dX1_readParent_44 rfl rfl ?_
          refine h_iconst (v := (nI 0)) X dX1_readParent_45 (by decide) ?_
          refine k1_bind hsf X tlX1_94 ⟨Nat.le_of_ble_eq_true rfl, Nat.le_of_ble_eq_true rfl⟩ (Nat.le_of_ble_eq_true rfl) dX1_readParent_46 ?_
          intro v6 S6
          refine h_aload_n X dX1_readParent_49 rfl rfl ?_
          refine h_aload_n X dX1_readParent_50 rfl rfl ?_
          refine h_iconst (v := (nI 0)) X dX1_readParent_51 (by decide) ?_
          refine k1_boundAt hsf X tlX1_98 ⟨Nat.le_of_ble_eq_true rfl, Nat.le_of_ble_eq_true rfl⟩ (Nat.le_of_ble_eq_true rfl) dX1_readParent_52 ?_
          intro v7 S7
          refine c_p_RD_parent X fl1_30 dX1_readParent_55 ?_
          intro S8
          refine h_iconst (v := (nI 1)) X dX1_readParent_58 (by decide) ?_
          exact h_zret X dX1_readParent_59
        · refine h_iconst (v := (nI 0)) X dX1_readParent_42 (by decide) ?_
          exact h_zret X dX1_readParent_43
      · refine h_iconst (v := (nI 1)) X dX1_readParent_27 (by decide) ?_
        exact h_zret X dX1_readParent_28
    · refine h_iconst (v := (nI 0)) X dX1_readParent_11 (by decide) ?_
      exact h_zret X dX1_readParent_12
theorem mo1_readParent (n : Nat) (S : CS) : mo S (f1_readParent n S) := by
    unfold f1_readParent
    refine m_bnd (mo1_isThere _ _ _ _ _) (fun v1 S1 => ?_)
    refine m_ite ?_ ?_
    · exact m_zt m_some
    · refine m_cp (fun S2 => ?_)
      refine m_bnd (mo1_textAt _ _ _) (fun v3 S3 => ?_)
      refine m_ite ?_ ?_
      · exact m_zt m_some
      · refine m_bnd (mo1_textAt _ _ _) (fun v4 S4 => ?_)
        refine m_bnd (mo1_standsFor _ _ _ _) (fun v5 S5 => ?_)
        refine m_ite ?_ ?_
        · exact m_zt m_some
        · refine m_bnd (mo1_bind _ _ _) (fun v6 S6 => ?_)
          refine m_bnd (mo1_boundAt _ _ _) (fun v7 S7 => ?_)
          refine m_cp (fun S8 => ?_)
          exact m_zt m_some
theorem c1_readParent (hsf : sfOk (SF tk)) (l : Launch) (D : va_G) (cI : ClassId) (q : Nat → Nat) (n : Nat) (S : CS) : MetW l D (tyC cI) (SF tk) (wC cI q) yX1_readParent cX1_readParent 1 (some .boolean) 2 44 QWi [.ref (q 51)] S (f1_readParent n S) := by
  refine MetW.of (own := RX1) (by decide) rfl (Nat.le_of_ble_eq_true rfl) (mo1_readParent n S) ?_
  intro x p e s m args below meth c X
  refine h_pick (lv' := [(0, .ref (q 51))]) [0] rfl ?_
  exact h_close (w1_readParent hsf X n S)
theorem tc1_readParent : Cond.code yX1_readParent cX1_readParent 1 (some .boolean) ∈ tt := tt_in (List.mem_of_getElem? (i := 364) (by decide +kernel)) (by decide +kernel)
theorem ti1_readParent : Cond.instanceMethod yX1_readParent ∈ tt := tt_in (List.mem_of_getElem? (i := 363) (by decide +kernel)) (by decide +kernel)
theorem te1_readParent : Cond.selects RX1 yX1_readParent yX1_readParent ∈ tt := tt_in (List.mem_of_getElem? (i := 7) (by decide +kernel)) (by decide +kernel)
theorem k1_readParent (hsf : sfOk (SF tk)) (X : hX p s m args meth c cc nL own rt D (tyC cI) (SF tk) A) {n : Nat} {ix : Nat} (hlk : Cond.methodLink own ix yX1_readParent ∈ tt) {rest : List Value} {K : Int32 → CS → Option (ρ × CS)} (hR : 2 + 1 ≤ fr ∧ 8 + (1 + 11) + 44 ≤ lo) (hcat : (rest.map fun v => v.category).sum ≤ 8) (d : decode cc pc = .ok (.invokevirtual ix, 3)) (kk : ∀ v S1, hG p l e (fun r => rmC fr lo (cS r.2 - cS S0) (sS r.2 - sS S0)) s m args below meth c nL (ZW D (wC cI q) A s.heap S0 S1) (cS S1 - cS S0) (sS S1 - sS S0) QQ (fun r => le S1 r.2) (pc + 3) lv (.int v :: rest) (K v S1)) : hG p l e (fun r => rmC fr lo (cS r.2 - cS S0) (sS r.2 - sS S0)) s m args below meth c nL (ZW D (wC cI q) A s.heap S0 S) (cS S - cS S0) (sS S - sS S0) QQ (fun r => le S r.2) pc lv (.ref (q 51) :: rest) (bnd (f1_readParent n S) K) := h_callVi (As := []) (b := q 51) (C := RX1) hsf X (c1_readParent hsf l D cI q n S) (cwVC (k := 0) X.1.2.2.2.2.1 hlk ti1_readParent te1_readParent tc1_readParent ini_1 (by decide +kernel) hR) (fun x H h1 h2 => va_recv h1 h2 (ci := 1) (q0 := 2) rfl rfl) rfl rfl hcat d kk
end CM
