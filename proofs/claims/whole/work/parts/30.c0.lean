theorem dX4_isName_0 : decode cX4_isName 0 = .ok (.iload_n 0, 1) := by decide +kernel
theorem dX4_isName_1 : decode cX4_isName 1 = .ok (.ifCond .lt 13, 3) := by decide +kernel
theorem dX4_isName_4 : decode cX4_isName 4 = .ok (.iload_n 0, 1) := by decide +kernel
theorem dX4_isName_5 : decode cX4_isName 5 = .ok (.bipush 16, 2) := by decide +kernel
theorem dX4_isName_7 : decode cX4_isName 7 = .ok (.if_icmp .ge 7, 3) := by decide +kernel
theorem dX4_isName_10 : decode cX4_isName 10 = .ok (.iconst 1, 1) := by decide +kernel
theorem dX4_isName_11 : decode cX4_isName 11 = .ok (.goto 4, 3) := by decide +kernel
theorem dX4_isName_14 : decode cX4_isName 14 = .ok (.iconst 0, 1) := by decide +kernel
theorem dX4_isName_15 : decode cX4_isName 15 = .ok (.ireturn, 1) := by decide +kernel
theorem dX0_newestOf_0 : decode cX0_newestOf 0 = .ok (.iload_n 1, 1) := by decide +kernel
theorem dX0_newestOf_1 : decode cX0_newestOf 1 = .ok (.invokestatic 46, 3) := by decide +kernel
theorem dX0_newestOf_4 : decode cX0_newestOf 4 = .ok (.ifCond .eq 12, 3) := by decide +kernel
theorem dX0_newestOf_7 : decode cX0_newestOf 7 = .ok (.aload_n 0, 1) := by decide +kernel
theorem dX0_newestOf_8 : decode cX0_newestOf 8 = .ok (.getfield 26, 3) := by decide +kernel
theorem dX0_newestOf_11 : decode cX0_newestOf 11 = .ok (.iload_n 1, 1) := by decide +kernel
theorem dX0_newestOf_12 : decode cX0_newestOf 12 = .ok (.iaload, 1) := by decide +kernel
theorem dX0_newestOf_13 : decode cX0_newestOf 13 = .ok (.goto 4, 3) := by decide +kernel
theorem dX0_newestOf_16 : decode cX0_newestOf 16 = .ok (.iconst (-1), 1) := by decide +kernel
theorem dX0_newestOf_17 : decode cX0_newestOf 17 = .ok (.ireturn, 1) := by decide +kernel
theorem dX0_dropNewest_0 : decode cX0_dropNewest 0 = .ok (.aload_n 0, 1) := by decide +kernel
theorem dX0_dropNewest_1 : decode cX0_dropNewest 1 = .ok (.iload_n 1, 1) := by decide +kernel
theorem dX0_dropNewest_2 : decode cX0_dropNewest 2 = .ok (.invokevirtual 50, 3) := by decide +kernel
theorem dX0_dropNewest_5 : decode cX0_dropNewest 5 = .ok (.iconst (-1), 1) := by decide +kernel
theorem dX0_dropNewest_6 : decode cX0_dropNewest 6 = .ok (.if_icmp .eq 10, 3) := by decide +kernel
theorem dX0_dropNewest_9 : decode cX0_dropNewest 9 = .ok (.iload_n 1, 1) := by decide +kernel
theorem dX0_dropNewest_10 : decode cX0_dropNewest 10 = .ok (.invokestatic 46, 3) := by decide +kernel
theorem dX0_dropNewest_13 : decode cX0_dropNewest 13 = .ok (.ifCond .ne 5, 3) := by decide +kernel
theorem dX0_dropNewest_16 : decode cX0_dropNewest 16 = .ok (.iconst 0, 1) := by decide +kernel
theorem dX0_dropNewest_17 : decode cX0_dropNewest 17 = .ok (.ireturn, 1) := by decide +kernel
theorem dX0_dropNewest_18 : decode cX0_dropNewest 18 = .ok (.aload_n 0, 1) := by decide +kernel
theorem dX0_dropNewest_19 : decode cX0_dropNewest 19 = .ok (.getfield 26, 3) := by decide +kernel
theorem dX0_dropNewest_22 : decode cX0_dropNewest 22 = .ok (.iload_n 1, 1) := by decide +kernel
theorem dX0_dropNewest_23 : decode cX0_dropNewest 23 = .ok (.iconst (-1), 1) := by decide +kernel
theorem dX0_dropNewest_24 : decode cX0_dropNewest 24 = .ok (.iastore, 1) := by decide +kernel
theorem dX0_dropNewest_25 : decode cX0_dropNewest 25 = .ok (.iconst 1, 1) := by decide +kernel
theorem dX0_dropNewest_26 : decode cX0_dropNewest 26 = .ok (.ireturn, 1) := by decide +kernel
theorem dX0_isNewest_0 : decode cX0_isNewest 0 = .ok (.aload_n 0, 1) := by decide +kernel
theorem dX0_isNewest_1 : decode cX0_isNewest 1 = .ok (.getfield 20, 3) := by decide +kernel
theorem dX0_isNewest_4 : decode cX0_isNewest 4 = .ok (.iload_n 1, 1) := by decide +kernel
theorem dX0_isNewest_5 : decode cX0_isNewest 5 = .ok (.invokevirtual 54, 3) := by decide +kernel
theorem dX0_isNewest_8 : decode cX0_isNewest 8 = .ok (.ifCond .eq 24, 3) := by decide +kernel
theorem dX0_isNewest_11 : decode cX0_isNewest 11 = .ok (.aload_n 0, 1) := by decide +kernel
theorem dX0_isNewest_12 : decode cX0_isNewest 12 = .ok (.aload_n 0, 1) := by decide +kernel
theorem dX0_isNewest_13 : decode cX0_isNewest 13 = .ok (.getfield 20, 3) := by decide +kernel
theorem dX0_isNewest_16 : decode cX0_isNewest 16 = .ok (.iload_n 1, 1) := by decide +kernel
theorem dX0_isNewest_17 : decode cX0_isNewest 17 = .ok (.iconst 0, 1) := by decide +kernel
theorem dX0_isNewest_18 : decode cX0_isNewest 18 = .ok (.invokevirtual 57, 3) := by decide +kernel
theorem dX0_isNewest_21 : decode cX0_isNewest 21 = .ok (.invokevirtual 50, 3) := by decide +kernel
theorem dX0_isNewest_24 : decode cX0_isNewest 24 = .ok (.iload_n 1, 1) := by decide +kernel
theorem dX0_isNewest_25 : decode cX0_isNewest 25 = .ok (.if_icmp .ne 7, 3) := by decide +kernel
theorem dX0_isNewest_28 : decode cX0_isNewest 28 = .ok (.iconst 1, 1) := by decide +kernel
theorem dX0_isNewest_29 : decode cX0_isNewest 29 = .ok (.goto 4, 3) := by decide +kernel
theorem dX0_isNewest_32 : decode cX0_isNewest 32 = .ok (.iconst 0, 1) := by decide +kernel
theorem dX0_isNewest_33 : decode cX0_isNewest 33 = .ok (.ireturn, 1) := by decide +kernel
theorem dX0_isFullOfEditions_0 : decode cX0_isFullOfEditions 0 = .ok (.aload_n 0, 1) := by decide +kernel
theorem dX0_isFullOfEditions_1 : decode cX0_isFullOfEditions 1 = .ok (.getfield 20, 3) := by decide +kernel
theorem dX0_isFullOfEditions_4 : decode cX0_isFullOfEditions 4 = .ok (.invokevirtual 61, 3) := by decide +kernel
theorem dX0_isFullOfEditions_7 : decode cX0_isFullOfEditions 7 = .ok (.sipush 150, 3) := by decide +kernel
theorem dX0_isFullOfEditions_10 : decode cX0_isFullOfEditions 10 = .ok (.if_icmp .lt 7, 3) := by decide +kernel
theorem dX0_isFullOfEditions_13 : decode cX0_isFullOfEditions 13 = .ok (.iconst 1, 1) := by decide +kernel
theorem dX0_isFullOfEditions_14 : decode cX0_isFullOfEditions 14 = .ok (.goto 4, 3) := by decide +kernel
theorem dX0_isFullOfEditions_17 : decode cX0_isFullOfEditions 17 = .ok (.iconst 0, 1) := by decide +kernel
theorem dX0_isFullOfEditions_18 : decode cX0_isFullOfEditions 18 = .ok (.ireturn, 1) := by decide +kernel
theorem dX0_isClass_0 : decode cX0_isClass 0 = .ok (.aload_n 0, 1) := by decide +kernel
theorem dX0_isClass_1 : decode cX0_isClass 1 = .ok (.getfield 20, 3) := by decide +kernel
theorem dX0_isClass_4 : decode cX0_isClass 4 = .ok (.iload_n 1, 1) := by decide +kernel
theorem dX0_isClass_5 : decode cX0_isClass 5 = .ok (.invokevirtual 54, 3) := by decide +kernel
theorem dX0_isClass_8 : decode cX0_isClass 8 = .ok (.ifCond .eq 20, 3) := by decide +kernel
theorem dX0_isClass_11 : decode cX0_isClass 11 = .ok (.aload_n 0, 1) := by decide +kernel
theorem dX0_isClass_12 : decode cX0_isClass 12 = .ok (.getfield 20, 3) := by decide +kernel
theorem dX0_isClass_15 : decode cX0_isClass 15 = .ok (.iload_n 1, 1) := by decide +kernel
theorem dX0_isClass_16 : decode cX0_isClass 16 = .ok (.iconst 2, 1) := by decide +kernel
theorem dX0_isClass_17 : decode cX0_isClass 17 = .ok (.invokevirtual 57, 3) := by decide +kernel
theorem dX0_isClass_20 : decode cX0_isClass 20 = .ok (.iconst 1, 1) := by decide +kernel
theorem dX0_isClass_21 : decode cX0_isClass 21 = .ok (.if_icmp .ne 7, 3) := by decide +kernel
theorem dX0_isClass_24 : decode cX0_isClass 24 = .ok (.iconst 1, 1) := by decide +kernel
theorem dX0_isClass_25 : decode cX0_isClass 25 = .ok (.goto 4, 3) := by decide +kernel
theorem dX0_isClass_28 : decode cX0_isClass 28 = .ok (.iconst 0, 1) := by decide +kernel
theorem dX0_isClass_29 : decode cX0_isClass 29 = .ok (.ireturn, 1) := by decide +kernel
theorem dX0_addEdition_0 : decode cX0_addEdition 0 = .ok (.aload_n 0, 1) := by decide +kernel
theorem dX0_addEdition_1 : decode cX0_addEdition 1 = .ok (.getfield 20, 3) := by decide +kernel
theorem dX0_addEdition_4 : decode cX0_addEdition 4 = .ok (.invokevirtual 65, 3) := by decide +kernel
theorem dX0_addEdition_7 : decode cX0_addEdition 7 = .ok (.istore_n 2, 1) := by decide +kernel
theorem dX0_addEdition_8 : decode cX0_addEdition 8 = .ok (.aload_n 0, 1) := by decide +kernel
theorem dX0_addEdition_9 : decode cX0_addEdition 9 = .ok (.getfield 16, 3) := by decide +kernel
theorem dX0_addEdition_12 : decode cX0_addEdition 12 = .ok (.iload_n 1, 1) := by decide +kernel
theorem dX0_addEdition_13 : decode cX0_addEdition 13 = .ok (.iconst 5, 1) := by decide +kernel
theorem dX0_addEdition_14 : decode cX0_addEdition 14 = .ok (.invokevirtual 57, 3) := by decide +kernel
theorem dX0_addEdition_17 : decode cX0_addEdition 17 = .ok (.istore_n 3, 1) := by decide +kernel
theorem dX0_addEdition_18 : decode cX0_addEdition 18 = .ok (.aload_n 0, 1) := by decide +kernel
theorem dX0_addEdition_19 : decode cX0_addEdition 19 = .ok (.getfield 20, 3) := by decide +kernel
theorem dX0_addEdition_22 : decode cX0_addEdition 22 = .ok (.iload_n 2, 1) := by decide +kernel
theorem dX0_addEdition_23 : decode cX0_addEdition 23 = .ok (.iconst 0, 1) := by decide +kernel
theorem dX0_addEdition_24 : decode cX0_addEdition 24 = .ok (.iload_n 3, 1) := by decide +kernel
theorem dX0_addEdition_25 : decode cX0_addEdition 25 = .ok (.invokevirtual 68, 3) := by decide +kernel
theorem dX0_addEdition_28 : decode cX0_addEdition 28 = .ok (.aload_n 0, 1) := by decide +kernel
theorem dX0_addEdition_29 : decode cX0_addEdition 29 = .ok (.getfield 20, 3) := by decide +kernel
theorem dX0_addEdition_32 : decode cX0_addEdition 32 = .ok (.iload_n 2, 1) := by decide +kernel
theorem dX0_addEdition_33 : decode cX0_addEdition 33 = .ok (.iconst 1, 1) := by decide +kernel
theorem dX0_addEdition_34 : decode cX0_addEdition 34 = .ok (.iload_n 1, 1) := by decide +kernel
theorem dX0_addEdition_35 : decode cX0_addEdition 35 = .ok (.invokevirtual 68, 3) := by decide +kernel
theorem dX0_addEdition_38 : decode cX0_addEdition 38 = .ok (.aload_n 0, 1) := by decide +kernel
theorem dX0_addEdition_39 : decode cX0_addEdition 39 = .ok (.getfield 20, 3) := by decide +kernel
theorem dX0_addEdition_42 : decode cX0_addEdition 42 = .ok (.iload_n 2, 1) := by decide +kernel
theorem dX0_addEdition_43 : decode cX0_addEdition 43 = .ok (.iconst 2, 1) := by decide +kernel
theorem dX0_addEdition_44 : decode cX0_addEdition 44 = .ok (.aload_n 0, 1) := by decide +kernel
theorem dX0_addEdition_45 : decode cX0_addEdition 45 = .ok (.getfield 16, 3) := by decide +kernel
theorem dX0_addEdition_48 : decode cX0_addEdition 48 = .ok (.iload_n 1, 1) := by decide +kernel
theorem dX0_addEdition_49 : decode cX0_addEdition 49 = .ok (.bipush 6, 2) := by decide +kernel
theorem dX0_addEdition_51 : decode cX0_addEdition 51 = .ok (.invokevirtual 57, 3) := by decide +kernel
theorem dX0_addEdition_54 : decode cX0_addEdition 54 = .ok (.invokevirtual 68, 3) := by decide +kernel
theorem dX0_addEdition_57 : decode cX0_addEdition 57 = .ok (.iload_n 3, 1) := by decide +kernel
theorem dX0_addEdition_58 : decode cX0_addEdition 58 = .ok (.invokestatic 46, 3) := by decide +kernel
theorem dX0_addEdition_61 : decode cX0_addEdition 61 = .ok (.ifCond .eq 10, 3) := by decide +kernel
theorem dX0_addEdition_64 : decode cX0_addEdition 64 = .ok (.aload_n 0, 1) := by decide +kernel
theorem dX0_addEdition_65 : decode cX0_addEdition 65 = .ok (.getfield 26, 3) := by decide +kernel
theorem dX0_addEdition_68 : decode cX0_addEdition 68 = .ok (.iload_n 3, 1) := by decide +kernel
theorem dX0_addEdition_69 : decode cX0_addEdition 69 = .ok (.iload_n 2, 1) := by decide +kernel
theorem dX0_addEdition_70 : decode cX0_addEdition 70 = .ok (.iastore, 1) := by decide +kernel
theorem dX0_addEdition_71 : decode cX0_addEdition 71 = .ok (.iload_n 2, 1) := by decide +kernel
theorem dX0_addEdition_72 : decode cX0_addEdition 72 = .ok (.ireturn, 1) := by decide +kernel
theorem dX0_addValue_0 : decode cX0_addValue 0 = .ok (.aload_n 0, 1) := by decide +kernel
theorem dX0_addValue_1 : decode cX0_addValue 1 = .ok (.iload_n 1, 1) := by decide +kernel
theorem dX0_addValue_2 : decode cX0_addValue 2 = .ok (.invokevirtual 72, 3) := by decide +kernel
theorem dX0_addValue_5 : decode cX0_addValue 5 = .ok (.istore 4, 2) := by decide +kernel
theorem dX0_addValue_7 : decode cX0_addValue 7 = .ok (.aload_n 0, 1) := by decide +kernel
theorem dX0_addValue_8 : decode cX0_addValue 8 = .ok (.getfield 20, 3) := by decide +kernel
theorem dX0_addValue_11 : decode cX0_addValue 11 = .ok (.iload 4, 2) := by decide +kernel
theorem dX0_addValue_13 : decode cX0_addValue 13 = .ok (.iconst 3, 1) := by decide +kernel
theorem dX0_addValue_14 : decode cX0_addValue 14 = .ok (.iload_n 2, 1) := by decide +kernel
theorem dX0_addValue_15 : decode cX0_addValue 15 = .ok (.invokevirtual 68, 3) := by decide +kernel
theorem dX0_addValue_18 : decode cX0_addValue 18 = .ok (.aload_n 0, 1) := by decide +kernel
theorem dX0_addValue_19 : decode cX0_addValue 19 = .ok (.getfield 20, 3) := by decide +kernel
theorem dX0_addValue_22 : decode cX0_addValue 22 = .ok (.iload 4, 2) := by decide +kernel
theorem dX0_addValue_24 : decode cX0_addValue 24 = .ok (.iconst 4, 1) := by decide +kernel
theorem dX0_addValue_25 : decode cX0_addValue 25 = .ok (.iload_n 3, 1) := by decide +kernel
theorem dX0_addValue_26 : decode cX0_addValue 26 = .ok (.invokevirtual 68, 3) := by decide +kernel
theorem dX0_addValue_29 : decode cX0_addValue 29 = .ok (.iload 4, 2) := by decide +kernel
theorem dX0_addValue_31 : decode cX0_addValue 31 = .ok (.ireturn, 1) := by decide +kernel
theorem dX0_inherit_0 : decode cX0_inherit 0 = .ok (.iload_n 2, 1) := by decide +kernel
theorem dX0_inherit_1 : decode cX0_inherit 1 = .ok (.iconst (-1), 1) := by decide +kernel
theorem dX0_inherit_2 : decode cX0_inherit 2 = .ok (.if_icmp .ne 30, 3) := by decide +kernel
theorem dX0_inherit_5 : decode cX0_inherit 5 = .ok (.iconst 0, 1) := by decide +kernel
theorem dX0_inherit_6 : decode cX0_inherit 6 = .ok (.istore_n 3, 1) := by decide +kernel
theorem dX0_inherit_7 : decode cX0_inherit 7 = .ok (.iload_n 3, 1) := by decide +kernel
theorem dX0_inherit_8 : decode cX0_inherit 8 = .ok (.iconst 5, 1) := by decide +kernel
theorem dX0_inherit_9 : decode cX0_inherit 9 = .ok (.if_icmp .ge 22, 3) := by decide +kernel
theorem dX0_inherit_12 : decode cX0_inherit 12 = .ok (.aload_n 0, 1) := by decide +kernel
theorem dX0_inherit_13 : decode cX0_inherit 13 = .ok (.getfield 20, 3) := by decide +kernel
theorem dX0_inherit_16 : decode cX0_inherit 16 = .ok (.iload_n 1, 1) := by decide +kernel
theorem dX0_inherit_17 : decode cX0_inherit 17 = .ok (.bipush 9, 2) := by decide +kernel
theorem dX0_inherit_19 : decode cX0_inherit 19 = .ok (.iload_n 3, 1) := by decide +kernel
theorem dX0_inherit_20 : decode cX0_inherit 20 = .ok (.iadd, 1) := by decide +kernel
theorem dX0_inherit_21 : decode cX0_inherit 21 = .ok (.iconst (-1), 1) := by decide +kernel
theorem dX0_inherit_22 : decode cX0_inherit 22 = .ok (.invokevirtual 68, 3) := by decide +kernel
theorem dX0_inherit_25 : decode cX0_inherit 25 = .ok (.iinc 3 1, 3) := by decide +kernel
theorem dX0_inherit_28 : decode cX0_inherit 28 = .ok (.goto (-21), 3) := by decide +kernel
theorem dX0_inherit_31 : decode cX0_inherit 31 = .ok (.return_, 1) := by decide +kernel
theorem dX0_inherit_32 : decode cX0_inherit 32 = .ok (.bipush 9, 2) := by decide +kernel
theorem dX0_inherit_34 : decode cX0_inherit 34 = .ok (.istore_n 3, 1) := by decide +kernel
theorem dX0_inherit_35 : decode cX0_inherit 35 = .ok (.iload_n 3, 1) := by decide +kernel
theorem dX0_inherit_36 : decode cX0_inherit 36 = .ok (.bipush 44, 2) := by decide +kernel
theorem dX0_inherit_38 : decode cX0_inherit 38 = .ok (.if_icmp .ge 27, 3) := by decide +kernel
theorem dX0_inherit_41 : decode cX0_inherit 41 = .ok (.aload_n 0, 1) := by decide +kernel
theorem dX0_inherit_42 : decode cX0_inherit 42 = .ok (.getfield 20, 3) := by decide +kernel
theorem dX0_inherit_45 : decode cX0_inherit 45 = .ok (.iload_n 1, 1) := by decide +kernel
theorem dX0_inherit_46 : decode cX0_inherit 46 = .ok (.iload_n 3, 1) := by decide +kernel
theorem dX0_inherit_47 : decode cX0_inherit 47 = .ok (.aload_n 0, 1) := by decide +kernel
theorem dX0_inherit_48 : decode cX0_inherit 48 = .ok (.getfield 20, 3) := by decide +kernel
theorem dX0_inherit_51 : decode cX0_inherit 51 = .ok (.iload_n 2, 1) := by decide +kernel
theorem dX0_inherit_52 : decode cX0_inherit 52 = .ok (.iload_n 3, 1) := by decide +kernel
theorem dX0_inherit_53 : decode cX0_inherit 53 = .ok (.invokevirtual 57, 3) := by decide +kernel
theorem dX0_inherit_56 : decode cX0_inherit 56 = .ok (.invokevirtual 68, 3) := by decide +kernel
theorem dX0_inherit_59 : decode cX0_inherit 59 = .ok (.iinc 3 1, 3) := by decide +kernel
theorem dX0_inherit_62 : decode cX0_inherit 62 = .ok (.goto (-27), 3) := by decide +kernel
theorem dX0_inherit_65 : decode cX0_inherit 65 = .ok (.return_, 1) := by decide +kernel
theorem dX1_boundAt_0 : decode cX1_boundAt 0 = .ok (.iload_n 1, 1) := by decide +kernel
theorem dX1_boundAt_1 : decode cX1_boundAt 1 = .ok (.ifCond .lt 18, 3) := by decide +kernel
theorem dX1_boundAt_4 : decode cX1_boundAt 4 = .ok (.iload_n 1, 1) := by decide +kernel
theorem dX1_boundAt_5 : decode cX1_boundAt 5 = .ok (.bipush 60, 2) := by decide +kernel
theorem dX1_boundAt_7 : decode cX1_boundAt 7 = .ok (.if_icmp .ge 12, 3) := by decide +kernel
theorem dX1_boundAt_10 : decode cX1_boundAt 10 = .ok (.aload_n 0, 1) := by decide +kernel
theorem dX1_boundAt_11 : decode cX1_boundAt 11 = .ok (.getfield 46, 3) := by decide +kernel
theorem dX1_boundAt_14 : decode cX1_boundAt 14 = .ok (.iload_n 1, 1) := by decide +kernel
theorem dX1_boundAt_15 : decode cX1_boundAt 15 = .ok (.iaload, 1) := by decide +kernel
theorem dX1_boundAt_16 : decode cX1_boundAt 16 = .ok (.goto 4, 3) := by decide +kernel
theorem dX1_boundAt_19 : decode cX1_boundAt 19 = .ok (.iconst 0, 1) := by decide +kernel
theorem dX1_boundAt_20 : decode cX1_boundAt 20 = .ok (.ireturn, 1) := by decide +kernel
theorem dX0_addClass_0 : decode cX0_addClass 0 = .ok (.aload_n 0, 1) := by decide +kernel
theorem dX0_addClass_1 : decode cX0_addClass 1 = .ok (.iload_n 1, 1) := by decide +kernel
theorem dX0_addClass_2 : decode cX0_addClass 2 = .ok (.invokevirtual 72, 3) := by decide +kernel
theorem dX0_addClass_5 : decode cX0_addClass 5 = .ok (.istore_n 3, 1) := by decide +kernel
theorem dX0_addClass_6 : decode cX0_addClass 6 = .ok (.aload_n 0, 1) := by decide +kernel
theorem dX0_addClass_7 : decode cX0_addClass 7 = .ok (.getfield 20, 3) := by decide +kernel
theorem dX0_addClass_10 : decode cX0_addClass 10 = .ok (.iload_n 3, 1) := by decide +kernel
theorem dX0_addClass_11 : decode cX0_addClass 11 = .ok (.iconst 5, 1) := by decide +kernel
theorem dX0_addClass_12 : decode cX0_addClass 12 = .ok (.aload_n 2, 1) := by decide +kernel
theorem dX0_addClass_13 : decode cX0_addClass 13 = .ok (.getfield 75, 3) := by decide +kernel
theorem dX0_addClass_16 : decode cX0_addClass 16 = .ok (.invokevirtual 68, 3) := by decide +kernel
theorem dX0_addClass_19 : decode cX0_addClass 19 = .ok (.aload_n 0, 1) := by decide +kernel
theorem dX0_addClass_20 : decode cX0_addClass 20 = .ok (.getfield 20, 3) := by decide +kernel
theorem dX0_addClass_23 : decode cX0_addClass 23 = .ok (.iload_n 3, 1) := by decide +kernel
theorem dX0_addClass_24 : decode cX0_addClass 24 = .ok (.bipush 7, 2) := by decide +kernel
theorem dX0_addClass_26 : decode cX0_addClass 26 = .ok (.aload_n 2, 1) := by decide +kernel
theorem dX0_addClass_27 : decode cX0_addClass 27 = .ok (.getfield 81, 3) := by decide +kernel
theorem dX0_addClass_30 : decode cX0_addClass 30 = .ok (.invokevirtual 68, 3) := by decide +kernel
theorem dX0_addClass_33 : decode cX0_addClass 33 = .ok (.aload_n 0, 1) := by decide +kernel
theorem dX0_addClass_34 : decode cX0_addClass 34 = .ok (.getfield 20, 3) := by decide +kernel
theorem dX0_addClass_37 : decode cX0_addClass 37 = .ok (.iload_n 3, 1) := by decide +kernel
theorem dX0_addClass_38 : decode cX0_addClass 38 = .ok (.bipush 8, 2) := by decide +kernel
theorem dX0_addClass_40 : decode cX0_addClass 40 = .ok (.aload_n 2, 1) := by decide +kernel
theorem dX0_addClass_41 : decode cX0_addClass 41 = .ok (.getfield 84, 3) := by decide +kernel
theorem dX0_addClass_44 : decode cX0_addClass 44 = .ok (.invokevirtual 68, 3) := by decide +kernel
theorem dX0_addClass_47 : decode cX0_addClass 47 = .ok (.aload_n 0, 1) := by decide +kernel
theorem dX0_addClass_48 : decode cX0_addClass 48 = .ok (.iload_n 3, 1) := by decide +kernel
theorem dX0_addClass_49 : decode cX0_addClass 49 = .ok (.aload_n 2, 1) := by decide +kernel
theorem dX0_addClass_50 : decode cX0_addClass 50 = .ok (.getfield 75, 3) := by decide +kernel
theorem dX0_addClass_53 : decode cX0_addClass 53 = .ok (.invokevirtual 87, 3) := by decide +kernel
theorem dX0_addClass_56 : decode cX0_addClass 56 = .ok (.iconst 0, 1) := by decide +kernel
theorem dX0_addClass_57 : decode cX0_addClass 57 = .ok (.istore 4, 2) := by decide +kernel
theorem dX0_addClass_59 : decode cX0_addClass 59 = .ok (.iload 4, 2) := by decide +kernel
theorem dX0_addClass_61 : decode cX0_addClass 61 = .ok (.aload_n 2, 1) := by decide +kernel
theorem dX0_addClass_62 : decode cX0_addClass 62 = .ok (.getfield 90, 3) := by decide +kernel
theorem dX0_addClass_65 : decode cX0_addClass 65 = .ok (.invokevirtual 61, 3) := by decide +kernel
theorem dX0_addClass_68 : decode cX0_addClass 68 = .ok (.if_icmp .ge 58, 3) := by decide +kernel
theorem dX0_addClass_71 : decode cX0_addClass 71 = .ok (.aload_n 2, 1) := by decide +kernel
theorem dX0_addClass_72 : decode cX0_addClass 72 = .ok (.getfield 90, 3) := by decide +kernel
theorem dX0_addClass_75 : decode cX0_addClass 75 = .ok (.iload 4, 2) := by decide +kernel
theorem dX0_addClass_77 : decode cX0_addClass 77 = .ok (.iconst 0, 1) := by decide +kernel
theorem dX0_addClass_78 : decode cX0_addClass 78 = .ok (.invokevirtual 57, 3) := by decide +kernel
theorem dX0_addClass_81 : decode cX0_addClass 81 = .ok (.istore 5, 2) := by decide +kernel
theorem dX0_addClass_83 : decode cX0_addClass 83 = .ok (.aload_n 0, 1) := by decide +kernel
theorem dX0_addClass_84 : decode cX0_addClass 84 = .ok (.getfield 20, 3) := by decide +kernel
theorem dX0_addClass_87 : decode cX0_addClass 87 = .ok (.iload_n 3, 1) := by decide +kernel
theorem dX0_addClass_88 : decode cX0_addClass 88 = .ok (.bipush 24, 2) := by decide +kernel
theorem dX0_addClass_90 : decode cX0_addClass 90 = .ok (.iload 5, 2) := by decide +kernel
theorem dX0_addClass_92 : decode cX0_addClass 92 = .ok (.iadd, 1) := by decide +kernel
theorem dX0_addClass_93 : decode cX0_addClass 93 = .ok (.iconst 1, 1) := by decide +kernel
theorem dX0_addClass_94 : decode cX0_addClass 94 = .ok (.invokevirtual 68, 3) := by decide +kernel
theorem dX0_addClass_97 : decode cX0_addClass 97 = .ok (.aload_n 0, 1) := by decide +kernel
theorem dX0_addClass_98 : decode cX0_addClass 98 = .ok (.getfield 20, 3) := by decide +kernel
theorem dX0_addClass_101 : decode cX0_addClass 101 = .ok (.iload_n 3, 1) := by decide +kernel
theorem dX0_addClass_102 : decode cX0_addClass 102 = .ok (.bipush 34, 2) := by decide +kernel
theorem dX0_addClass_104 : decode cX0_addClass 104 = .ok (.iload 5, 2) := by decide +kernel
theorem dX0_addClass_106 : decode cX0_addClass 106 = .ok (.iadd, 1) := by decide +kernel
theorem dX0_addClass_107 : decode cX0_addClass 107 = .ok (.aload_n 2, 1) := by decide +kernel
theorem dX0_addClass_108 : decode cX0_addClass 108 = .ok (.getfield 90, 3) := by decide +kernel
theorem dX0_addClass_111 : decode cX0_addClass 111 = .ok (.iload 4, 2) := by decide +kernel
theorem dX0_addClass_113 : decode cX0_addClass 113 = .ok (.iconst 1, 1) := by decide +kernel
theorem dX0_addClass_114 : decode cX0_addClass 114 = .ok (.invokevirtual 57, 3) := by decide +kernel
theorem dX0_addClass_117 : decode cX0_addClass 117 = .ok (.invokevirtual 68, 3) := by decide +kernel
theorem dX0_addClass_120 : decode cX0_addClass 120 = .ok (.iinc 4 1, 3) := by decide +kernel
theorem dX0_addClass_123 : decode cX0_addClass 123 = .ok (.goto (-64), 3) := by decide +kernel
theorem dX0_addClass_126 : decode cX0_addClass 126 = .ok (.iconst 0, 1) := by decide +kernel
theorem dX0_addClass_127 : decode cX0_addClass 127 = .ok (.istore 4, 2) := by decide +kernel
theorem dX0_addClass_129 : decode cX0_addClass 129 = .ok (.iload 4, 2) := by decide +kernel
theorem dX0_addClass_131 : decode cX0_addClass 131 = .ok (.aload_n 2, 1) := by decide +kernel
theorem dX0_addClass_132 : decode cX0_addClass 132 = .ok (.getfield 93, 3) := by decide +kernel
theorem dX0_addClass_135 : decode cX0_addClass 135 = .ok (.invokevirtual 61, 3) := by decide +kernel
theorem dX0_addClass_138 : decode cX0_addClass 138 = .ok (.if_icmp .ge 81, 3) := by decide +kernel
theorem dX0_addClass_141 : decode cX0_addClass 141 = .ok (.aload_n 2, 1) := by decide +kernel
theorem dX0_addClass_142 : decode cX0_addClass 142 = .ok (.getfield 93, 3) := by decide +kernel
theorem dX0_addClass_145 : decode cX0_addClass 145 = .ok (.iload 4, 2) := by decide +kernel
theorem dX0_addClass_147 : decode cX0_addClass 147 = .ok (.iconst 0, 1) := by decide +kernel
theorem dX0_addClass_148 : decode cX0_addClass 148 = .ok (.invokevirtual 57, 3) := by decide +kernel
theorem dX0_addClass_151 : decode cX0_addClass 151 = .ok (.istore 5, 2) := by decide +kernel
theorem dX0_addClass_153 : decode cX0_addClass 153 = .ok (.aload_n 0, 1) := by decide +kernel
theorem dX0_addClass_154 : decode cX0_addClass 154 = .ok (.getfield 20, 3) := by decide +kernel
theorem dX0_addClass_157 : decode cX0_addClass 157 = .ok (.iload_n 3, 1) := by decide +kernel
theorem dX0_addClass_158 : decode cX0_addClass 158 = .ok (.bipush 9, 2) := by decide +kernel
theorem dX0_addClass_160 : decode cX0_addClass 160 = .ok (.iload 5, 2) := by decide +kernel
theorem dX0_addClass_162 : decode cX0_addClass 162 = .ok (.iadd, 1) := by decide +kernel
theorem dX0_addClass_163 : decode cX0_addClass 163 = .ok (.iload_n 3, 1) := by decide +kernel
theorem dX0_addClass_164 : decode cX0_addClass 164 = .ok (.invokevirtual 68, 3) := by decide +kernel
theorem dX0_addClass_167 : decode cX0_addClass 167 = .ok (.aload_n 0, 1) := by decide +kernel
theorem dX0_addClass_168 : decode cX0_addClass 168 = .ok (.getfield 20, 3) := by decide +kernel
theorem dX0_addClass_171 : decode cX0_addClass 171 = .ok (.iload_n 3, 1) := by decide +kernel
theorem dX0_addClass_172 : decode cX0_addClass 172 = .ok (.bipush 14, 2) := by decide +kernel
theorem dX0_addClass_174 : decode cX0_addClass 174 = .ok (.iload 5, 2) := by decide +kernel
theorem dX0_addClass_176 : decode cX0_addClass 176 = .ok (.iadd, 1) := by decide +kernel
theorem dX0_addClass_177 : decode cX0_addClass 177 = .ok (.aload_n 2, 1) := by decide +kernel
theorem dX0_addClass_178 : decode cX0_addClass 178 = .ok (.getfield 93, 3) := by decide +kernel
theorem dX0_addClass_181 : decode cX0_addClass 181 = .ok (.iload 4, 2) := by decide +kernel
theorem dX0_addClass_183 : decode cX0_addClass 183 = .ok (.iconst 1, 1) := by decide +kernel
theorem dX0_addClass_184 : decode cX0_addClass 184 = .ok (.invokevirtual 57, 3) := by decide +kernel
theorem dX0_addClass_187 : decode cX0_addClass 187 = .ok (.invokevirtual 68, 3) := by decide +kernel
theorem dX0_addClass_190 : decode cX0_addClass 190 = .ok (.aload_n 0, 1) := by decide +kernel
theorem dX0_addClass_191 : decode cX0_addClass 191 = .ok (.getfield 20, 3) := by decide +kernel
theorem dX0_addClass_194 : decode cX0_addClass 194 = .ok (.iload_n 3, 1) := by decide +kernel
theorem dX0_addClass_195 : decode cX0_addClass 195 = .ok (.bipush 19, 2) := by decide +kernel
theorem dX0_addClass_197 : decode cX0_addClass 197 = .ok (.iload 5, 2) := by decide +kernel
theorem dX0_addClass_199 : decode cX0_addClass 199 = .ok (.iadd, 1) := by decide +kernel
theorem dX0_addClass_200 : decode cX0_addClass 200 = .ok (.aload_n 2, 1) := by decide +kernel
theorem dX0_addClass_201 : decode cX0_addClass 201 = .ok (.getfield 93, 3) := by decide +kernel
theorem dX0_addClass_204 : decode cX0_addClass 204 = .ok (.iload 4, 2) := by decide +kernel
theorem dX0_addClass_206 : decode cX0_addClass 206 = .ok (.iconst 2, 1) := by decide +kernel
theorem dX0_addClass_207 : decode cX0_addClass 207 = .ok (.invokevirtual 57, 3) := by decide +kernel
theorem dX0_addClass_210 : decode cX0_addClass 210 = .ok (.invokevirtual 68, 3) := by decide +kernel
theorem dX0_addClass_213 : decode cX0_addClass 213 = .ok (.iinc 4 1, 3) := by decide +kernel
theorem dX0_addClass_216 : decode cX0_addClass 216 = .ok (.goto (-87), 3) := by decide +kernel
theorem dX0_addClass_219 : decode cX0_addClass 219 = .ok (.iconst 0, 1) := by decide +kernel
theorem dX0_addClass_220 : decode cX0_addClass 220 = .ok (.istore 4, 2) := by decide +kernel
theorem dX0_addClass_222 : decode cX0_addClass 222 = .ok (.iload 4, 2) := by decide +kernel
theorem dX0_addClass_224 : decode cX0_addClass 224 = .ok (.aload_n 2, 1) := by decide +kernel
theorem dX0_addClass_225 : decode cX0_addClass 225 = .ok (.getfield 84, 3) := by decide +kernel
theorem dX0_addClass_228 : decode cX0_addClass 228 = .ok (.if_icmp .ge 28, 3) := by decide +kernel
theorem dX0_addClass_231 : decode cX0_addClass 231 = .ok (.aload_n 0, 1) := by decide +kernel
theorem dX0_addClass_232 : decode cX0_addClass 232 = .ok (.getfield 20, 3) := by decide +kernel
theorem dX0_addClass_235 : decode cX0_addClass 235 = .ok (.iload_n 3, 1) := by decide +kernel
theorem dX0_addClass_236 : decode cX0_addClass 236 = .ok (.bipush 44, 2) := by decide +kernel
theorem dX0_addClass_238 : decode cX0_addClass 238 = .ok (.iload 4, 2) := by decide +kernel
theorem dX0_addClass_240 : decode cX0_addClass 240 = .ok (.iadd, 1) := by decide +kernel
theorem dX0_addClass_241 : decode cX0_addClass 241 = .ok (.aload_n 2, 1) := by decide +kernel
theorem dX0_addClass_242 : decode cX0_addClass 242 = .ok (.iload 4, 2) := by decide +kernel
theorem dX0_addClass_244 : decode cX0_addClass 244 = .ok (.invokevirtual 96, 3) := by decide +kernel
theorem dX0_addClass_247 : decode cX0_addClass 247 = .ok (.invokevirtual 68, 3) := by decide +kernel
theorem dX0_addClass_250 : decode cX0_addClass 250 = .ok (.iinc 4 1, 3) := by decide +kernel
theorem dX0_addClass_253 : decode cX0_addClass 253 = .ok (.goto (-31), 3) := by decide +kernel
theorem dX0_addClass_256 : decode cX0_addClass 256 = .ok (.iload_n 3, 1) := by decide +kernel
theorem dX0_addClass_257 : decode cX0_addClass 257 = .ok (.ireturn, 1) := by decide +kernel
theorem dX0_countOlder_0 : decode cX0_countOlder 0 = .ok (.iconst 0, 1) := by decide +kernel
theorem dX0_countOlder_1 : decode cX0_countOlder 1 = .ok (.istore_n 2, 1) := by decide +kernel
theorem dX0_countOlder_2 : decode cX0_countOlder 2 = .ok (.iconst 0, 1) := by decide +kernel
theorem dX0_countOlder_3 : decode cX0_countOlder 3 = .ok (.istore_n 3, 1) := by decide +kernel
theorem dX0_countOlder_4 : decode cX0_countOlder 4 = .ok (.iload_n 3, 1) := by decide +kernel
theorem dX0_countOlder_5 : decode cX0_countOlder 5 = .ok (.iload_n 1, 1) := by decide +kernel
theorem dX0_countOlder_6 : decode cX0_countOlder 6 = .ok (.if_icmp .ge 44, 3) := by decide +kernel
theorem dX0_countOlder_9 : decode cX0_countOlder 9 = .ok (.iload_n 3, 1) := by decide +kernel
theorem dX0_countOlder_10 : decode cX0_countOlder 10 = .ok (.aload_n 0, 1) := by decide +kernel
theorem dX0_countOlder_11 : decode cX0_countOlder 11 = .ok (.getfield 20, 3) := by decide +kernel
theorem dX0_countOlder_14 : decode cX0_countOlder 14 = .ok (.invokevirtual 61, 3) := by decide +kernel
theorem dX0_countOlder_17 : decode cX0_countOlder 17 = .ok (.if_icmp .ge 33, 3) := by decide +kernel
theorem dX0_countOlder_20 : decode cX0_countOlder 20 = .ok (.aload_n 0, 1) := by decide +kernel
theorem dX0_countOlder_21 : decode cX0_countOlder 21 = .ok (.getfield 20, 3) := by decide +kernel
theorem dX0_countOlder_24 : decode cX0_countOlder 24 = .ok (.iload_n 3, 1) := by decide +kernel
theorem dX0_countOlder_25 : decode cX0_countOlder 25 = .ok (.iconst 0, 1) := by decide +kernel
theorem dX0_countOlder_26 : decode cX0_countOlder 26 = .ok (.invokevirtual 57, 3) := by decide +kernel
theorem dX0_countOlder_29 : decode cX0_countOlder 29 = .ok (.aload_n 0, 1) := by decide +kernel
theorem dX0_countOlder_30 : decode cX0_countOlder 30 = .ok (.getfield 20, 3) := by decide +kernel
theorem dX0_countOlder_33 : decode cX0_countOlder 33 = .ok (.iload_n 1, 1) := by decide +kernel
theorem dX0_countOlder_34 : decode cX0_countOlder 34 = .ok (.iconst 0, 1) := by decide +kernel
theorem dX0_countOlder_35 : decode cX0_countOlder 35 = .ok (.invokevirtual 57, 3) := by decide +kernel
theorem dX0_countOlder_38 : decode cX0_countOlder 38 = .ok (.if_icmp .ne 6, 3) := by decide +kernel
theorem dX0_countOlder_41 : decode cX0_countOlder 41 = .ok (.iinc 2 1, 3) := by decide +kernel
theorem dX0_countOlder_44 : decode cX0_countOlder 44 = .ok (.iinc 3 1, 3) := by decide +kernel
theorem dX0_countOlder_47 : decode cX0_countOlder 47 = .ok (.goto (-43), 3) := by decide +kernel
theorem dX0_countOlder_50 : decode cX0_countOlder 50 = .ok (.iload_n 2, 1) := by decide +kernel
theorem dX0_countOlder_51 : decode cX0_countOlder 51 = .ok (.ireturn, 1) := by decide +kernel
theorem dX0_countMadeOf_0 : decode cX0_countMadeOf 0 = .ok (.iconst 0, 1) := by decide +kernel
theorem dX0_countMadeOf_1 : decode cX0_countMadeOf 1 = .ok (.istore_n 2, 1) := by decide +kernel
theorem dX0_countMadeOf_2 : decode cX0_countMadeOf 2 = .ok (.iconst 0, 1) := by decide +kernel
theorem dX0_countMadeOf_3 : decode cX0_countMadeOf 3 = .ok (.istore_n 3, 1) := by decide +kernel
theorem dX0_countMadeOf_4 : decode cX0_countMadeOf 4 = .ok (.iload_n 3, 1) := by decide +kernel
theorem dX0_countMadeOf_5 : decode cX0_countMadeOf 5 = .ok (.aload_n 0, 1) := by decide +kernel
theorem dX0_countMadeOf_6 : decode cX0_countMadeOf 6 = .ok (.getfield 23, 3) := by decide +kernel
theorem dX0_countMadeOf_9 : decode cX0_countMadeOf 9 = .ok (.invokevirtual 61, 3) := by decide +kernel
theorem dX0_countMadeOf_12 : decode cX0_countMadeOf 12 = .ok (.if_icmp .ge 25, 3) := by decide +kernel
theorem dX0_countMadeOf_15 : decode cX0_countMadeOf 15 = .ok (.aload_n 0, 1) := by decide +kernel
theorem dX0_countMadeOf_16 : decode cX0_countMadeOf 16 = .ok (.getfield 23, 3) := by decide +kernel
theorem dX0_countMadeOf_19 : decode cX0_countMadeOf 19 = .ok (.iload_n 3, 1) := by decide +kernel
theorem dX0_countMadeOf_20 : decode cX0_countMadeOf 20 = .ok (.iconst 0, 1) := by decide +kernel
theorem dX0_countMadeOf_21 : decode cX0_countMadeOf 21 = .ok (.invokevirtual 57, 3) := by decide +kernel
theorem dX0_countMadeOf_24 : decode cX0_countMadeOf 24 = .ok (.iload_n 1, 1) := by decide +kernel
theorem dX0_countMadeOf_25 : decode cX0_countMadeOf 25 = .ok (.if_icmp .ne 6, 3) := by decide +kernel
theorem dX0_countMadeOf_28 : decode cX0_countMadeOf 28 = .ok (.iinc 2 1, 3) := by decide +kernel
theorem dX0_countMadeOf_31 : decode cX0_countMadeOf 31 = .ok (.iinc 3 1, 3) := by decide +kernel
theorem dX0_countMadeOf_34 : decode cX0_countMadeOf 34 = .ok (.goto (-30), 3) := by decide +kernel
theorem dX0_countMadeOf_37 : decode cX0_countMadeOf 37 = .ok (.iload_n 2, 1) := by decide +kernel
theorem dX0_countMadeOf_38 : decode cX0_countMadeOf 38 = .ok (.ireturn, 1) := by decide +kernel
theorem dX0_isBelow_0 : decode cX0_isBelow 0 = .ok (.iload_n 1, 1) := by decide +kernel
theorem dX0_isBelow_1 : decode cX0_isBelow 1 = .ok (.istore_n 3, 1) := by decide +kernel
theorem dX0_isBelow_2 : decode cX0_isBelow 2 = .ok (.iconst 0, 1) := by decide +kernel
theorem dX0_isBelow_3 : decode cX0_isBelow 3 = .ok (.istore 4, 2) := by decide +kernel
theorem dX0_isBelow_5 : decode cX0_isBelow 5 = .ok (.iload 4, 2) := by decide +kernel
theorem dX0_isBelow_7 : decode cX0_isBelow 7 = .ok (.sipush 150, 3) := by decide +kernel
theorem dX0_isBelow_10 : decode cX0_isBelow 10 = .ok (.if_icmp .ge 24, 3) := by decide +kernel
theorem dX0_isBelow_13 : decode cX0_isBelow 13 = .ok (.iload_n 3, 1) := by decide +kernel
theorem dX0_isBelow_14 : decode cX0_isBelow 14 = .ok (.iload_n 2, 1) := by decide +kernel
theorem dX0_isBelow_15 : decode cX0_isBelow 15 = .ok (.if_icmp .le 19, 3) := by decide +kernel
theorem dX0_isBelow_18 : decode cX0_isBelow 18 = .ok (.aload_n 0, 1) := by decide +kernel
theorem dX0_isBelow_19 : decode cX0_isBelow 19 = .ok (.getfield 20, 3) := by decide +kernel
theorem dX0_isBelow_22 : decode cX0_isBelow 22 = .ok (.iload_n 3, 1) := by decide +kernel
theorem dX0_isBelow_23 : decode cX0_isBelow 23 = .ok (.iconst 5, 1) := by decide +kernel
theorem dX0_isBelow_24 : decode cX0_isBelow 24 = .ok (.invokevirtual 57, 3) := by decide +kernel
theorem dX0_isBelow_27 : decode cX0_isBelow 27 = .ok (.istore_n 3, 1) := by decide +kernel
theorem dX0_isBelow_28 : decode cX0_isBelow 28 = .ok (.iinc 4 1, 3) := by decide +kernel
theorem dX0_isBelow_31 : decode cX0_isBelow 31 = .ok (.goto (-26), 3) := by decide +kernel
theorem dX0_isBelow_34 : decode cX0_isBelow 34 = .ok (.iload_n 3, 1) := by decide +kernel
theorem dX0_isBelow_35 : decode cX0_isBelow 35 = .ok (.iload_n 2, 1) := by decide +kernel
theorem dX0_isBelow_36 : decode cX0_isBelow 36 = .ok (.if_icmp .ne 7, 3) := by decide +kernel
theorem dX0_isBelow_39 : decode cX0_isBelow 39 = .ok (.iconst 1, 1) := by decide +kernel
theorem dX0_isBelow_40 : decode cX0_isBelow 40 = .ok (.goto 4, 3) := by decide +kernel
theorem dX0_isBelow_43 : decode cX0_isBelow 43 = .ok (.iconst 0, 1) := by decide +kernel
theorem dX0_isBelow_44 : decode cX0_isBelow 44 = .ok (.ireturn, 1) := by decide +kernel
theorem dX0_hasBrokenStart_0 : decode cX0_hasBrokenStart 0 = .ok (.iload_n 1, 1) := by decide +kernel
theorem dX0_hasBrokenStart_1 : decode cX0_hasBrokenStart 1 = .ok (.istore_n 2, 1) := by decide +kernel
theorem dX0_hasBrokenStart_2 : decode cX0_hasBrokenStart 2 = .ok (.iconst 0, 1) := by decide +kernel
theorem dX0_hasBrokenStart_3 : decode cX0_hasBrokenStart 3 = .ok (.istore_n 3, 1) := by decide +kernel
theorem dX0_hasBrokenStart_4 : decode cX0_hasBrokenStart 4 = .ok (.iload_n 3, 1) := by decide +kernel
theorem dX0_hasBrokenStart_5 : decode cX0_hasBrokenStart 5 = .ok (.sipush 150, 3) := by decide +kernel
theorem dX0_hasBrokenStart_8 : decode cX0_hasBrokenStart 8 = .ok (.if_icmp .ge 40, 3) := by decide +kernel
theorem dX0_hasBrokenStart_11 : decode cX0_hasBrokenStart 11 = .ok (.iload_n 2, 1) := by decide +kernel
theorem dX0_hasBrokenStart_12 : decode cX0_hasBrokenStart 12 = .ok (.iconst (-1), 1) := by decide +kernel
theorem dX0_hasBrokenStart_13 : decode cX0_hasBrokenStart 13 = .ok (.if_icmp .eq 35, 3) := by decide +kernel
theorem dX0_hasBrokenStart_16 : decode cX0_hasBrokenStart 16 = .ok (.aload_n 0, 1) := by decide +kernel
theorem dX0_hasBrokenStart_17 : decode cX0_hasBrokenStart 17 = .ok (.getfield 20, 3) := by decide +kernel
theorem dX0_hasBrokenStart_20 : decode cX0_hasBrokenStart 20 = .ok (.iload_n 2, 1) := by decide +kernel
theorem dX0_hasBrokenStart_21 : decode cX0_hasBrokenStart 21 = .ok (.bipush 6, 2) := by decide +kernel
theorem dX0_hasBrokenStart_23 : decode cX0_hasBrokenStart 23 = .ok (.invokevirtual 57, 3) := by decide +kernel
theorem dX0_hasBrokenStart_26 : decode cX0_hasBrokenStart 26 = .ok (.iconst 2, 1) := by decide +kernel
theorem dX0_hasBrokenStart_27 : decode cX0_hasBrokenStart 27 = .ok (.if_icmp .ne 5, 3) := by decide +kernel
theorem dX0_hasBrokenStart_30 : decode cX0_hasBrokenStart 30 = .ok (.iconst 1, 1) := by decide +kernel
theorem dX0_hasBrokenStart_31 : decode cX0_hasBrokenStart 31 = .ok (.ireturn, 1) := by decide +kernel
theorem dX0_hasBrokenStart_32 : decode cX0_hasBrokenStart 32 = .ok (.aload_n 0, 1) := by decide +kernel
theorem dX0_hasBrokenStart_33 : decode cX0_hasBrokenStart 33 = .ok (.getfield 20, 3) := by decide +kernel
theorem dX0_hasBrokenStart_36 : decode cX0_hasBrokenStart 36 = .ok (.iload_n 2, 1) := by decide +kernel
theorem dX0_hasBrokenStart_37 : decode cX0_hasBrokenStart 37 = .ok (.iconst 5, 1) := by decide +kernel
theorem dX0_hasBrokenStart_38 : decode cX0_hasBrokenStart 38 = .ok (.invokevirtual 57, 3) := by decide +kernel
theorem dX0_hasBrokenStart_41 : decode cX0_hasBrokenStart 41 = .ok (.istore_n 2, 1) := by decide +kernel
theorem dX0_hasBrokenStart_42 : decode cX0_hasBrokenStart 42 = .ok (.iinc 3 1, 3) := by decide +kernel
theorem dX0_hasBrokenStart_45 : decode cX0_hasBrokenStart 45 = .ok (.goto (-41), 3) := by decide +kernel
theorem dX0_hasBrokenStart_48 : decode cX0_hasBrokenStart 48 = .ok (.iconst 0, 1) := by decide +kernel
theorem dX0_hasBrokenStart_49 : decode cX0_hasBrokenStart 49 = .ok (.ireturn, 1) := by decide +kernel
section CM
variable {ρ : Type} {p : Program} {l : Launch} {e : Env} {s : State} {m : MethodId} {args : Array Value} {below : List Frame} {meth : Method} {c : Code}
variable {cc : ByteArray} {nL : Nat} {own : String} {rt : Option FieldType} {D : va_G} {cI : ClassId} {sf : sfT} {A : Nat → Prop} {q : Nat → Nat} {tk : Nat} {fr lo : Nat} {S0 S : CS} {QQ : ρ × CS → State → Prop} {pc : Nat} {lv : List (Nat × Value)}

-- X4.isName
def f4_isName (n : Nat) (x0 : Int32) (S : CS) : Option (Int32 × CS) :=
    if x0 < 0 then
      (zt (nI 0) (some ((nI 0), S)))
    else
      (if (nI 16) ≤ x0 then (zt (nI 0) (some ((nI 0), S))) else (zt (nI 1) (some ((nI 1), S))))
theorem w4_isName (hsf : sfOk (SF tk)) (X : hX p s m args meth c cX4_isName 1 RX4 (some .boolean) D (tyC cI) (SF tk) A) {S0 : CS} (n : Nat) (x0 : Int32) (S : CS) : hG p l e (fun r => rmC 0 0 (cS r.2 - cS S0) (sS r.2 - sS S0)) s m args below meth c 1 (ZW D (wC cI q) A s.heap S0 S) (cS S - cS S0) (sS S - sS S0) (fun r => MQ below (QWi D (tyC cI) (wC cI q) A r) args s (cS r.2 - cS S0) (sS r.2 - sS S0) A) (fun r => le S r.2) 0 [(0, .int x0)] [] (f4_isName n x0 S) := by
    unfold f4_isName
    refine h_iload_n X dX4_isName_0 rfl rfl ?_
    refine h_if_lt (tgt := 14) X dX4_isName_1 (by decide) ?_ ?_
    · refine h_iconst (v := (nI 0)) X dX4_isName_14 (by decide) ?_
      exact h_zret X dX4_isName_15
    · refine h_iload_n X dX4_isName_4 rfl rfl ?_
      refine h_bipush (v := (nI 16)) X dX4_isName_5 (by decide) ?_
      refine h_icmp_ge (tgt := 14) X dX4_isName_7 (by decide) ?_ ?_
      · refine h_iconst (v := (nI 0)) X dX4_isName_14 (by decide) ?_
        exact h_zret X dX4_isName_15
      · refine h_iconst (v := (nI 1)) X dX4_isName_10 (by decide) ?_
        refine h_goto (tgt := 15) X dX4_isName_11 (by decide) ?_
        exact h_zret X dX4_isName_15
theorem mo4_isName (n : Nat) (x0 : Int32) (S : CS) : mo S (f4_isName n x0 S) := by
    unfold f4_isName
    refine m_ite ?_ ?_
    · exact m_zt m_some
    · refine m_ite ?_ ?_
      · exact m_zt m_some
      · exact m_zt m_some
theorem c4_isName (hsf : sfOk (SF tk)) (l : Launch) (D : va_G) (cI : ClassId) (q : Nat → Nat) (n : Nat) (x0 : Int32) (S : CS) : MetW l D (tyC cI) (SF tk) (wC cI q) yX4_isName cX4_isName 1 (some .boolean) 0 0 QWi [.int x0] S (f4_isName n x0 S) := by
  refine MetW.of (own := RX4) (by decide) rfl (Nat.le_of_ble_eq_true rfl) (mo4_isName n x0 S) ?_
  intro x p e s m args below meth c X
  refine h_pick (lv' := [(0, .int x0)]) [0] rfl ?_
  exact h_close (w4_isName hsf X n x0 S)
theorem tc4_isName : Cond.code yX4_isName cX4_isName 1 (some .boolean) ∈ tt := tt_in (List.mem_of_getElem? (i := 293) (by decide +kernel)) (by decide +kernel)
theorem ts4_isName : Cond.static yX4_isName ∈ tt := tt_in (List.mem_of_getElem? (i := 292) (by decide +kernel)) (by decide +kernel)
theorem k4_isName (hsf : sfOk (SF tk)) (X : hX p s m args meth c cc nL own rt D (tyC cI) (SF tk) A) {n : Nat} {x0 : Int32} {ix : Nat} (hlk : Cond.methodLink own ix yX4_isName ∈ tt) {rest : List Value} {K : Int32 → CS → Option (ρ × CS)} (hR : 0 + 1 ≤ fr ∧ 8 + (1 + 11) + 0 ≤ lo) (hcat : (rest.map fun v => v.category).sum ≤ 8) (d : decode cc pc = .ok (.invokestatic ix, 3)) (kk : ∀ v S1, hG p l e (fun r => rmC fr lo (cS r.2 - cS S0) (sS r.2 - sS S0)) s m args below meth c nL (ZW D (wC cI q) A s.heap S0 S1) (cS S1 - cS S0) (sS S1 - sS S0) QQ (fun r => le S1 r.2) (pc + 3) lv (.int v :: rest) (K v S1)) : hG p l e (fun r => rmC fr lo (cS r.2 - cS S0) (sS r.2 - sS S0)) s m args below meth c nL (ZW D (wC cI q) A s.heap S0 S) (cS S - cS S0) (sS S - sS S0) QQ (fun r => le S r.2) pc lv (.int x0 :: rest) (bnd (f4_isName n x0 S) K) := h_callSi (As := [.int x0]) (b := 0) (C := RX4) hsf X (c4_isName hsf l D cI q n x0 S) (cwSC (k := 1) X.1.2.2.2.2.1 hlk ts4_isName tc4_isName ini_4 (by decide +kernel) hR) rfl rfl hcat d kk
theorem kn4_isName_X0 (hsf : sfOk (SF tk)) (X : hX p s m args meth c cc nL RX0 rt D (tyC cI) (SF tk) A) {n : Nat} {x0 : Int32} {rest : List Value} {K : Int32 → CS → Option (ρ × CS)} (hR : 0 + 1 ≤ fr ∧ 8 + (1 + 11) + 0 ≤ lo) (hcat : (rest.map fun v => v.category).sum ≤ 8) (d : decode cc pc = .ok (.invokestatic 46, 3)) (kk : ∀ v S1, hG p l e (fun r => rmC fr lo (cS r.2 - cS S0) (sS r.2 - sS S0)) s m args below meth c nL (ZW D (wC cI q) A s.heap S0 S1) (cS S1 - cS S0) (sS S1 - sS S0) QQ (fun r => le S1 r.2) (pc + 3) lv (.int v :: rest) (K v S1)) : hG p l e (fun r => rmC fr lo (cS r.2 - cS S0) (sS r.2 - sS S0)) s m args below meth c nL (ZW D (wC cI q) A s.heap S0 S) (cS S - cS S0) (sS S - sS S0) QQ (fun r => le S r.2) pc lv (.int x0 :: rest) (bnd (f4_isName n x0 S) K) := h_callSNi (As := [.int x0]) hsf X (c4_isName hsf l D cI q n x0 S) (fun a0 b0 mc ms => ⟨va_cnB 1 X.1.2.2.2.2.1 (good_ws (fun _ h => h) tc4_isName) rfl rfl rfl X.2.2.2.2.2.1 (X.1.2.2.2.2.1 _ ini_4) (by decide +kernel) hR, X.1.2.2.2.2.1 _ ts4_isName, trivial⟩) rfl rfl hcat d kk
theorem kn4_isName_X1 (hsf : sfOk (SF tk)) (X : hX p s m args meth c cc nL RX1 rt D (tyC cI) (SF tk) A) {n : Nat} {x0 : Int32} {rest : List Value} {K : Int32 → CS → Option (ρ × CS)} (hR : 0 + 1 ≤ fr ∧ 8 + (1 + 11) + 0 ≤ lo) (hcat : (rest.map fun v => v.category).sum ≤ 8) (d : decode cc pc = .ok (.invokestatic 124, 3)) (kk : ∀ v S1, hG p l e (fun r => rmC fr lo (cS r.2 - cS S0) (sS r.2 - sS S0)) s m args below meth c nL (ZW D (wC cI q) A s.heap S0 S1) (cS S1 - cS S0) (sS S1 - sS S0) QQ (fun r => le S1 r.2) (pc + 3) lv (.int v :: rest) (K v S1)) : hG p l e (fun r => rmC fr lo (cS r.2 - cS S0) (sS r.2 - sS S0)) s m args below meth c nL (ZW D (wC cI q) A s.heap S0 S) (cS S - cS S0) (sS S - sS S0) QQ (fun r => le S r.2) pc lv (.int x0 :: rest) (bnd (f4_isName n x0 S) K) := h_callSNi (As := [.int x0]) hsf X (c4_isName hsf l D cI q n x0 S) (fun a0 b0 mc ms => ⟨va_cnB 1 X.1.2.2.2.2.1 (good_ws (fun _ h => h) tc4_isName) rfl rfl rfl X.2.2.2.2.2.2 (X.1.2.2.2.2.1 _ ini_4) (by decide +kernel) hR, X.1.2.2.2.2.1 _ ts4_isName, trivial⟩) rfl rfl hcat d kk
-- X0.newestOf
def f0_newestOf (n : Nat) (x1 : Int32) (S : CS) : Option (Int32 × CS) :=
    bnd (f4_isName n x1 S) fun v1 S1 =>
    if v1 = 0 then
      (some ((-1 : Int32), S1))
    else
      (cr S1 20 16 x1 fun v2 =>
      some (v2, S1))
theorem w0_newestOf (hsf : sfOk (SF tk)) (X : hX p s m args meth c cX0_newestOf 2 RX0 (some .int) D (tyC cI) (SF tk) A) {S0 : CS} (n : Nat) (x1 : Int32) (S : CS) : hG p l e (fun r => rmC 1 20 (cS r.2 - cS S0) (sS r.2 - sS S0)) s m args below meth c 2 (ZW D (wC cI q) A s.heap S0 S) (cS S - cS S0) (sS S - sS S0) (fun r => MQ below (QWi D (tyC cI) (wC cI q) A r) args s (cS r.2 - cS S0) (sS r.2 - sS S0) A) (fun r => le S r.2) 0 [(0, .ref (q 53)), (1, .int x1)] [] (f0_newestOf n x1 S) := by
    unfold f0_newestOf
    refine h_iload_n X dX0_newestOf_0 rfl rfl ?_
    refine kn4_isName_X0 hsf X ⟨Nat.le_of_ble_eq_true rfl, Nat.le_of_ble_eq_true rfl⟩ (Nat.le_of_ble_eq_true rfl) dX0_newestOf_1 ?_
    intro v1 S1
    refine h_if_eq (tgt := 16) X dX0_newestOf_4 (by decide) ?_ ?_
    · refine h_iconst (v := (-1 : Int32)) X dX0_newestOf_16 (by decide) ?_
      exact h_iret X dX0_newestOf_17
    · refine h_aload_n X dX0_newestOf_7 rfl rfl ?_
      refine c_g_IM_newestOfName X fl0_26 dX0_newestOf_8 ?_
      refine h_iload_n X dX0_newestOf_11 rfl rfl ?_
      refine c_l_20 X dX0_newestOf_12 ?_
      intro v2
      refine h_goto (tgt := 17) X dX0_newestOf_13 (by decide) ?_
      exact h_iret X dX0_newestOf_17
theorem mo0_newestOf (n : Nat) (x1 : Int32) (S : CS) : mo S (f0_newestOf n x1 S) := by
    unfold f0_newestOf
    refine m_bnd (mo4_isName _ _ _) (fun v1 S1 => ?_)
    refine m_ite ?_ ?_
    · exact m_some
    · refine m_cr (fun v2 => ?_)
      exact m_some
theorem c0_newestOf (hsf : sfOk (SF tk)) (l : Launch) (D : va_G) (cI : ClassId) (q : Nat → Nat) (n : Nat) (x1 : Int32) (S : CS) : MetW l D (tyC cI) (SF tk) (wC cI q) yX0_newestOf cX0_newestOf 2 (some .int) 1 20 QWi [.ref (q 53), .int x1] S (f0_newestOf n x1 S) := by
  refine MetW.of (own := RX0) (by decide) rfl (Nat.le_of_ble_eq_true rfl) (mo0_newestOf n x1 S) ?_
  intro x p e s m args below meth c X
  refine h_pick (lv' := [(0, .ref (q 53)), (1, .int x1)]) [0, 1] rfl ?_
  exact h_close (w0_newestOf hsf X n x1 S)
theorem tc0_newestOf : Cond.code yX0_newestOf cX0_newestOf 2 (some .int) ∈ tt := tt_in (List.mem_of_getElem? (i := 314) (by decide +kernel)) (by decide +kernel)
theorem ti0_newestOf : Cond.instanceMethod yX0_newestOf ∈ tt := tt_in (List.mem_of_getElem? (i := 312) (by decide +kernel)) (by decide +kernel)
theorem te0_newestOf : Cond.selects RX0 yX0_newestOf yX0_newestOf ∈ tt := tt_in (List.mem_of_getElem? (i := 313) (by decide +kernel)) (by decide +kernel)
theorem k0_newestOf (hsf : sfOk (SF tk)) (X : hX p s m args meth c cc nL own rt D (tyC cI) (SF tk) A) {n : Nat} {x1 : Int32} {ix : Nat} (hlk : Cond.methodLink own ix yX0_newestOf ∈ tt) {rest : List Value} {K : Int32 → CS → Option (ρ × CS)} (hR : 1 + 1 ≤ fr ∧ 8 + (2 + 11) + 20 ≤ lo) (hcat : (rest.map fun v => v.category).sum ≤ 8) (d : decode cc pc = .ok (.invokevirtual ix, 3)) (kk : ∀ v S1, hG p l e (fun r => rmC fr lo (cS r.2 - cS S0) (sS r.2 - sS S0)) s m args below meth c nL (ZW D (wC cI q) A s.heap S0 S1) (cS S1 - cS S0) (sS S1 - sS S0) QQ (fun r => le S1 r.2) (pc + 3) lv (.int v :: rest) (K v S1)) : hG p l e (fun r => rmC fr lo (cS r.2 - cS S0) (sS r.2 - sS S0)) s m args below meth c nL (ZW D (wC cI q) A s.heap S0 S) (cS S - cS S0) (sS S - sS S0) QQ (fun r => le S r.2) pc lv (.int x1 :: .ref (q 53) :: rest) (bnd (f0_newestOf n x1 S) K) := h_callVi (As := [.int x1]) (b := q 53) (C := RX0) hsf X (c0_newestOf hsf l D cI q n x1 S) (cwVC (k := 1) X.1.2.2.2.2.1 hlk ti0_newestOf te0_newestOf tc0_newestOf ini_0 (by decide +kernel) hR) (fun x H h1 h2 => va_recv h1 h2 (ci := 0) (q0 := 9) rfl rfl) rfl rfl hcat d kk
-- X0.dropNewest
theorem tlX0_50 : Cond.methodLink RX0 50 yX0_newestOf ∈ tt := tt_in (List.mem_of_getElem? (i := 450) (by decide +kernel)) (by decide +kernel)
def f0_dropNewest (n : Nat) (x1 : Int32) (S : CS) : Option (Int32 × CS) :=
    bnd (f0_newestOf n x1 S) fun v1 S1 =>
    if v1 = (-1 : Int32) then
      (zt (nI 0) (some ((nI 0), S1)))
    else
      (bnd (f4_isName n x1 S1) fun v2 S2 =>
      if v2 = 0 then
        (zt (nI 0) (some ((nI 0), S2)))
      else
        (cw S2 20 16 x1 (-1 : Int32) fun S3 =>
        zt (nI 1) (some ((nI 1), S3))))
theorem w0_dropNewest (hsf : sfOk (SF tk)) (X : hX p s m args meth c cX0_dropNewest 2 RX0 (some .boolean) D (tyC cI) (SF tk) A) {S0 : CS} (n : Nat) (x1 : Int32) (S : CS) : hG p l e (fun r => rmC 2 41 (cS r.2 - cS S0) (sS r.2 - sS S0)) s m args below meth c 2 (ZW D (wC cI q) A s.heap S0 S) (cS S - cS S0) (sS S - sS S0) (fun r => MQ below (QWi D (tyC cI) (wC cI q) A r) args s (cS r.2 - cS S0) (sS r.2 - sS S0) A) (fun r => le S r.2) 0 [(0, .ref (q 53)), (1, .int x1)] [] (f0_dropNewest n x1 S) := by
    unfold f0_dropNewest
    refine h_aload_n X dX0_dropNewest_0 rfl rfl ?_
    refine h_iload_n X dX0_dropNewest_1 rfl rfl ?_
    refine k0_newestOf hsf X tlX0_50 ⟨Nat.le_of_ble_eq_true rfl, Nat.le_of_ble_eq_true rfl⟩ (Nat.le_of_ble_eq_true rfl) dX0_dropNewest_2 ?_
    intro v1 S1
    refine h_iconst (v := (-1 : Int32)) X dX0_dropNewest_5 (by decide) ?_
    refine h_icmp_eq (tgt := 16) X dX0_dropNewest_6 (by decide) ?_ ?_
    · refine h_iconst (v := (nI 0)) X dX0_dropNewest_16 (by decide) ?_
      exact h_zret X dX0_dropNewest_17
    · refine h_iload_n X dX0_dropNewest_9 rfl rfl ?_
      refine kn4_isName_X0 hsf X ⟨Nat.le_of_ble_eq_true rfl, Nat.le_of_ble_eq_true rfl⟩ (Nat.le_of_ble_eq_true rfl) dX0_dropNewest_10 ?_
      intro v2 S2
      refine h_if_ne (tgt := 18) X dX0_dropNewest_13 (by decide) ?_ ?_
      · refine h_aload_n X dX0_dropNewest_18 rfl rfl ?_
        refine c_g_IM_newestOfName X fl0_26 dX0_dropNewest_19 ?_
        refine h_iload_n X dX0_dropNewest_22 rfl rfl ?_
        refine h_iconst (v := (-1 : Int32)) X dX0_dropNewest_23 (by decide) ?_
        refine c_s_20 X dX0_dropNewest_24 ?_
        intro S3
        refine h_iconst (v := (nI 1)) X dX0_dropNewest_25 (by decide) ?_
        exact h_zret X dX0_dropNewest_26
      · refine h_iconst (v := (nI 0)) X dX0_dropNewest_16 (by decide) ?_
        exact h_zret X dX0_dropNewest_17
theorem mo0_dropNewest (n : Nat) (x1 : Int32) (S : CS) : mo S (f0_dropNewest n x1 S) := by
    unfold f0_dropNewest
    refine m_bnd (mo0_newestOf _ _ _) (fun v1 S1 => ?_)
    refine m_ite ?_ ?_
    · exact m_zt m_some
    · refine m_bnd (mo4_isName _ _ _) (fun v2 S2 => ?_)
      refine m_ite ?_ ?_
      · exact m_zt m_some
      · refine m_cw (fun S3 => ?_)
        exact m_zt m_some
theorem c0_dropNewest (hsf : sfOk (SF tk)) (l : Launch) (D : va_G) (cI : ClassId) (q : Nat → Nat) (n : Nat) (x1 : Int32) (S : CS) : MetW l D (tyC cI) (SF tk) (wC cI q) yX0_dropNewest cX0_dropNewest 2 (some .boolean) 2 41 QWi [.ref (q 53), .int x1] S (f0_dropNewest n x1 S) := by
  refine MetW.of (own := RX0) (by decide) rfl (Nat.le_of_ble_eq_true rfl) (mo0_dropNewest n x1 S) ?_
  intro x p e s m args below meth c X
  refine h_pick (lv' := [(0, .ref (q 53)), (1, .int x1)]) [0, 1] rfl ?_
  exact h_close (w0_dropNewest hsf X n x1 S)
theorem tc0_dropNewest : Cond.code yX0_dropNewest cX0_dropNewest 2 (some .boolean) ∈ tt := tt_in (List.mem_of_getElem? (i := 661) (by decide +kernel)) (by decide +kernel)
theorem ti0_dropNewest : Cond.instanceMethod yX0_dropNewest ∈ tt := tt_in (List.mem_of_getElem? (i := 659) (by decide +kernel)) (by decide +kernel)
theorem te0_dropNewest : Cond.selects RX0 yX0_dropNewest yX0_dropNewest ∈ tt := tt_in (List.mem_of_getElem? (i := 660) (by decide +kernel)) (by decide +kernel)
theorem k0_dropNewest (hsf : sfOk (SF tk)) (X : hX p s m args meth c cc nL own rt D (tyC cI) (SF tk) A) {n : Nat} {x1 : Int32} {ix : Nat} (hlk : Cond.methodLink own ix yX0_dropNewest ∈ tt) {rest : List Value} {K : Int32 → CS → Option (ρ × CS)} (hR : 2 + 1 ≤ fr ∧ 8 + (2 + 11) + 41 ≤ lo) (hcat : (rest.map fun v => v.category).sum ≤ 8) (d : decode cc pc = .ok (.invokevirtual ix, 3)) (kk : ∀ v S1, hG p l e (fun r => rmC fr lo (cS r.2 - cS S0) (sS r.2 - sS S0)) s m args below meth c nL (ZW D (wC cI q) A s.heap S0 S1) (cS S1 - cS S0) (sS S1 - sS S0) QQ (fun r => le S1 r.2) (pc + 3) lv (.int v :: rest) (K v S1)) : hG p l e (fun r => rmC fr lo (cS r.2 - cS S0) (sS r.2 - sS S0)) s m args below meth c nL (ZW D (wC cI q) A s.heap S0 S) (cS S - cS S0) (sS S - sS S0) QQ (fun r => le S r.2) pc lv (.int x1 :: .ref (q 53) :: rest) (bnd (f0_dropNewest n x1 S) K) := h_callVi (As := [.int x1]) (b := q 53) (C := RX0) hsf X (c0_dropNewest hsf l D cI q n x1 S) (cwVC (k := 1) X.1.2.2.2.2.1 hlk ti0_dropNewest te0_dropNewest tc0_dropNewest ini_0 (by decide +kernel) hR) (fun x H h1 h2 => va_recv h1 h2 (ci := 0) (q0 := 9) rfl rfl) rfl rfl hcat d kk
-- X0.isNewest
theorem tlX0_54 : Cond.methodLink RX0 54 yX2_has ∈ tt := tt_in (List.mem_of_getElem? (i := 445) (by decide +kernel)) (by decide +kernel)
theorem tlX0_57 : Cond.methodLink RX0 57 yX2_get ∈ tt := tt_in (List.mem_of_getElem? (i := 449) (by decide +kernel)) (by decide +kernel)
def f0_isNewest (n : Nat) (x1 : Int32) (S : CS) : Option (Int32 × CS) :=
    bT 6 S (f2_has n x1 (tOf 6 S)) fun v1 S1 =>
    if v1 = 0 then
      (zt (nI 0) (some ((nI 0), S1)))
    else
      (bT 6 S1 (f2_get n x1 (nI 0) (tOf 6 S1)) fun v2 S2 =>
      bnd (f0_newestOf n v2 S2) fun v3 S3 =>
      if v3 = x1 then (zt (nI 1) (some ((nI 1), S3))) else (zt (nI 0) (some ((nI 0), S3))))
theorem w0_isNewest (hsf : sfOk (SF tk)) (X : hX p s m args meth c cX0_isNewest 2 RX0 (some .boolean) D (tyC cI) (SF tk) A) {S0 : CS} (n : Nat) (x1 : Int32) (S : CS) : hG p l e (fun r => rmC 2 41 (cS r.2 - cS S0) (sS r.2 - sS S0)) s m args below meth c 2 (ZW D (wC cI q) A s.heap S0 S) (cS S - cS S0) (sS S - sS S0) (fun r => MQ below (QWi D (tyC cI) (wC cI q) A r) args s (cS r.2 - cS S0) (sS r.2 - sS S0) A) (fun r => le S r.2) 0 [(0, .ref (q 53)), (1, .int x1)] [] (f0_isNewest n x1 S) := by
    unfold f0_isNewest
    refine h_aload_n X dX0_isNewest_0 rfl rfl ?_
    refine c_g_IM_editions X fl0_20 dX0_isNewest_1 ?_
    refine h_iload_n X dX0_isNewest_4 rfl rfl ?_
    refine kt2_has_6 hsf X tlX0_54 ⟨Nat.le_of_ble_eq_true rfl, Nat.le_of_ble_eq_true rfl⟩ (Nat.le_of_ble_eq_true rfl) dX0_isNewest_5 ?_
    intro v1 S1
    refine h_if_eq (tgt := 32) X dX0_isNewest_8 (by decide) ?_ ?_
    · refine h_iconst (v := (nI 0)) X dX0_isNewest_32 (by decide) ?_
      exact h_zret X dX0_isNewest_33
    · refine h_aload_n X dX0_isNewest_11 rfl rfl ?_
      refine h_aload_n X dX0_isNewest_12 rfl rfl ?_
      refine c_g_IM_editions X fl0_20 dX0_isNewest_13 ?_
      refine h_iload_n X dX0_isNewest_16 rfl rfl ?_
      refine h_iconst (v := (nI 0)) X dX0_isNewest_17 (by decide) ?_
      refine kt2_get_6 hsf X tlX0_57 ⟨Nat.le_of_ble_eq_true rfl, Nat.le_of_ble_eq_true rfl⟩ (Nat.le_of_ble_eq_true rfl) dX0_isNewest_18 ?_
      intro v2 S2
      refine k0_newestOf hsf X tlX0_50 ⟨Nat.le_of_ble_eq_true rfl, Nat.le_of_ble_eq_true rfl⟩ (Nat.le_of_ble_eq_true rfl) dX0_isNewest_21 ?_
      intro v3 S3
      refine h_iload_n X dX0_isNewest_24 rfl rfl ?_
      refine h_icmp_ne (tgt := 32) X dX0_isNewest_25 (by decide) ?_ ?_
      · refine h_iconst (v := (nI 0)) X dX0_isNewest_32 (by decide) ?_
        exact h_zret X dX0_isNewest_33
      · refine h_iconst (v := (nI 1)) X dX0_isNewest_28 (by decide) ?_
        refine h_goto (tgt := 33) X dX0_isNewest_29 (by decide) ?_
        exact h_zret X dX0_isNewest_33
theorem mo0_isNewest (n : Nat) (x1 : Int32) (S : CS) : mo S (f0_isNewest n x1 S) := by
    unfold f0_isNewest
    refine m_bT (mo2_has _ _ _) (fun v1 S1 => ?_)
    refine m_ite ?_ ?_
    · exact m_zt m_some
    · refine m_bT (mo2_get _ _ _ _) (fun v2 S2 => ?_)
      refine m_bnd (mo0_newestOf _ _ _) (fun v3 S3 => ?_)
      refine m_ite ?_ ?_
      · exact m_zt m_some
      · exact m_zt m_some
theorem c0_isNewest (hsf : sfOk (SF tk)) (l : Launch) (D : va_G) (cI : ClassId) (q : Nat → Nat) (n : Nat) (x1 : Int32) (S : CS) : MetW l D (tyC cI) (SF tk) (wC cI q) yX0_isNewest cX0_isNewest 2 (some .boolean) 2 41 QWi [.ref (q 53), .int x1] S (f0_isNewest n x1 S) := by
  refine MetW.of (own := RX0) (by decide) rfl (Nat.le_of_ble_eq_true rfl) (mo0_isNewest n x1 S) ?_
  intro x p e s m args below meth c X
  refine h_pick (lv' := [(0, .ref (q 53)), (1, .int x1)]) [0, 1] rfl ?_
  exact h_close (w0_isNewest hsf X n x1 S)
theorem tc0_isNewest : Cond.code yX0_isNewest cX0_isNewest 2 (some .boolean) ∈ tt := tt_in (List.mem_of_getElem? (i := 444) (by decide +kernel)) (by decide +kernel)
theorem ti0_isNewest : Cond.instanceMethod yX0_isNewest ∈ tt := tt_in (List.mem_of_getElem? (i := 442) (by decide +kernel)) (by decide +kernel)
theorem te0_isNewest : Cond.selects RX0 yX0_isNewest yX0_isNewest ∈ tt := tt_in (List.mem_of_getElem? (i := 443) (by decide +kernel)) (by decide +kernel)
theorem k0_isNewest (hsf : sfOk (SF tk)) (X : hX p s m args meth c cc nL own rt D (tyC cI) (SF tk) A) {n : Nat} {x1 : Int32} {ix : Nat} (hlk : Cond.methodLink own ix yX0_isNewest ∈ tt) {rest : List Value} {K : Int32 → CS → Option (ρ × CS)} (hR : 2 + 1 ≤ fr ∧ 8 + (2 + 11) + 41 ≤ lo) (hcat : (rest.map fun v => v.category).sum ≤ 8) (d : decode cc pc = .ok (.invokevirtual ix, 3)) (kk : ∀ v S1, hG p l e (fun r => rmC fr lo (cS r.2 - cS S0) (sS r.2 - sS S0)) s m args below meth c nL (ZW D (wC cI q) A s.heap S0 S1) (cS S1 - cS S0) (sS S1 - sS S0) QQ (fun r => le S1 r.2) (pc + 3) lv (.int v :: rest) (K v S1)) : hG p l e (fun r => rmC fr lo (cS r.2 - cS S0) (sS r.2 - sS S0)) s m args below meth c nL (ZW D (wC cI q) A s.heap S0 S) (cS S - cS S0) (sS S - sS S0) QQ (fun r => le S r.2) pc lv (.int x1 :: .ref (q 53) :: rest) (bnd (f0_isNewest n x1 S) K) := h_callVi (As := [.int x1]) (b := q 53) (C := RX0) hsf X (c0_isNewest hsf l D cI q n x1 S) (cwVC (k := 1) X.1.2.2.2.2.1 hlk ti0_isNewest te0_isNewest tc0_isNewest ini_0 (by decide +kernel) hR) (fun x H h1 h2 => va_recv h1 h2 (ci := 0) (q0 := 9) rfl rfl) rfl rfl hcat d kk
-- X0.isFullOfEditions
theorem tlX0_61 : Cond.methodLink RX0 61 yX2_size ∈ tt := tt_in (List.mem_of_getElem? (i := 302) (by decide +kernel)) (by decide +kernel)
def f0_isFullOfEditions (n : Nat) (S : CS) : Option (Int32 × CS) :=
    bT 6 S (f2_size n (tOf 6 S)) fun v1 S1 =>
    if v1 < (nI 150) then (zt (nI 0) (some ((nI 0), S1))) else (zt (nI 1) (some ((nI 1), S1)))
theorem w0_isFullOfEditions (hsf : sfOk (SF tk)) (X : hX p s m args meth c cX0_isFullOfEditions 1 RX0 (some .boolean) D (tyC cI) (SF tk) A) {S0 : CS} (n : Nat) (S : CS) : hG p l e (fun r => rmC 1 20 (cS r.2 - cS S0) (sS r.2 - sS S0)) s m args below meth c 1 (ZW D (wC cI q) A s.heap S0 S) (cS S - cS S0) (sS S - sS S0) (fun r => MQ below (QWi D (tyC cI) (wC cI q) A r) args s (cS r.2 - cS S0) (sS r.2 - sS S0) A) (fun r => le S r.2) 0 [(0, .ref (q 53))] [] (f0_isFullOfEditions n S) := by
    unfold f0_isFullOfEditions
    refine h_aload_n X dX0_isFullOfEditions_0 rfl rfl ?_
    refine c_g_IM_editions X fl0_20 dX0_isFullOfEditions_1 ?_
    refine kt2_size_6 hsf X tlX0_61 ⟨Nat.le_of_ble_eq_true rfl, Nat.le_of_ble_eq_true rfl⟩ (Nat.le_of_ble_eq_true rfl) dX0_isFullOfEditions_4 ?_
    intro v1 S1
    refine h_sipush (v := (nI 150)) X dX0_isFullOfEditions_7 (by decide) ?_
    refine h_icmp_lt (tgt := 17) X dX0_isFullOfEditions_10 (by decide) ?_ ?_
    · refine h_iconst (v := (nI 0)) X dX0_isFullOfEditions_17 (by decide) ?_
      exact h_zret X dX0_isFullOfEditions_18
    · refine h_iconst (v := (nI 1)) X dX0_isFullOfEditions_13 (by decide) ?_
      refine h_goto (tgt := 18) X dX0_isFullOfEditions_14 (by decide) ?_
      exact h_zret X dX0_isFullOfEditions_18
theorem mo0_isFullOfEditions (n : Nat) (S : CS) : mo S (f0_isFullOfEditions n S) := by
    unfold f0_isFullOfEditions
    refine m_bT (mo2_size _ _) (fun v1 S1 => ?_)
    refine m_ite ?_ ?_
    · exact m_zt m_some
    · exact m_zt m_some
theorem c0_isFullOfEditions (hsf : sfOk (SF tk)) (l : Launch) (D : va_G) (cI : ClassId) (q : Nat → Nat) (n : Nat) (S : CS) : MetW l D (tyC cI) (SF tk) (wC cI q) yX0_isFullOfEditions cX0_isFullOfEditions 1 (some .boolean) 1 20 QWi [.ref (q 53)] S (f0_isFullOfEditions n S) := by
  refine MetW.of (own := RX0) (by decide) rfl (Nat.le_of_ble_eq_true rfl) (mo0_isFullOfEditions n S) ?_
  intro x p e s m args below meth c X
  refine h_pick (lv' := [(0, .ref (q 53))]) [0] rfl ?_
  exact h_close (w0_isFullOfEditions hsf X n S)
theorem tc0_isFullOfEditions : Cond.code yX0_isFullOfEditions cX0_isFullOfEditions 1 (some .boolean) ∈ tt := tt_in (List.mem_of_getElem? (i := 301) (by decide +kernel)) (by decide +kernel)
theorem ti0_isFullOfEditions : Cond.instanceMethod yX0_isFullOfEditions ∈ tt := tt_in (List.mem_of_getElem? (i := 299) (by decide +kernel)) (by decide +kernel)
theorem te0_isFullOfEditions : Cond.selects RX0 yX0_isFullOfEditions yX0_isFullOfEditions ∈ tt := tt_in (List.mem_of_getElem? (i := 300) (by decide +kernel)) (by decide +kernel)
theorem k0_isFullOfEditions (hsf : sfOk (SF tk)) (X : hX p s m args meth c cc nL own rt D (tyC cI) (SF tk) A) {n : Nat} {ix : Nat} (hlk : Cond.methodLink own ix yX0_isFullOfEditions ∈ tt) {rest : List Value} {K : Int32 → CS → Option (ρ × CS)} (hR : 1 + 1 ≤ fr ∧ 8 + (1 + 11) + 20 ≤ lo) (hcat : (rest.map fun v => v.category).sum ≤ 8) (d : decode cc pc = .ok (.invokevirtual ix, 3)) (kk : ∀ v S1, hG p l e (fun r => rmC fr lo (cS r.2 - cS S0) (sS r.2 - sS S0)) s m args below meth c nL (ZW D (wC cI q) A s.heap S0 S1) (cS S1 - cS S0) (sS S1 - sS S0) QQ (fun r => le S1 r.2) (pc + 3) lv (.int v :: rest) (K v S1)) : hG p l e (fun r => rmC fr lo (cS r.2 - cS S0) (sS r.2 - sS S0)) s m args below meth c nL (ZW D (wC cI q) A s.heap S0 S) (cS S - cS S0) (sS S - sS S0) QQ (fun r => le S r.2) pc lv (.ref (q 53) :: rest) (bnd (f0_isFullOfEditions n S) K) := h_callVi (As := []) (b := q 53) (C := RX0) hsf X (c0_isFullOfEditions hsf l D cI q n S) (cwVC (k := 0) X.1.2.2.2.2.1 hlk ti0_isFullOfEditions te0_isFullOfEditions tc0_isFullOfEditions ini_0 (by decide +kernel) hR) (fun x H h1 h2 => va_recv h1 h2 (ci := 0) (q0 := 9) rfl rfl) rfl rfl hcat d kk
-- X0.isClass
def f0_isClass (n : Nat) (x1 : Int32) (S : CS) : Option (Int32 × CS) :=
    bT 6 S (f2_has n x1 (tOf 6 S)) fun v1 S1 =>
    if v1 = 0 then
      (zt (nI 0) (some ((nI 0), S1)))
    else
      (bT 6 S1 (f2_get n x1 (nI 2) (tOf 6 S1)) fun v2 S2 =>
      if v2 = (nI 1) then (zt (nI 1) (some ((nI 1), S2))) else (zt (nI 0) (some ((nI 0), S2))))
theorem w0_isClass (hsf : sfOk (SF tk)) (X : hX p s m args meth c cX0_isClass 2 RX0 (some .boolean) D (tyC cI) (SF tk) A) {S0 : CS} (n : Nat) (x1 : Int32) (S : CS) : hG p l e (fun r => rmC 1 23 (cS r.2 - cS S0) (sS r.2 - sS S0)) s m args below meth c 2 (ZW D (wC cI q) A s.heap S0 S) (cS S - cS S0) (sS S - sS S0) (fun r => MQ below (QWi D (tyC cI) (wC cI q) A r) args s (cS r.2 - cS S0) (sS r.2 - sS S0) A) (fun r => le S r.2) 0 [(0, .ref (q 53)), (1, .int x1)] [] (f0_isClass n x1 S) := by
    unfold f0_isClass
    refine h_aload_n X dX0_isClass_0 rfl rfl ?_
    refine c_g_IM_editions X fl0_20 dX0_isClass_1 ?_
    refine h_iload_n X dX0_isClass_4 rfl rfl ?_
    refine kt2_has_6 hsf X tlX0_54 ⟨Nat.le_of_ble_eq_true rfl, Nat.le_of_ble_eq_true rfl⟩ (Nat.le_of_ble_eq_true rfl) dX0_isClass_5 ?_
    intro v1 S1
    refine h_if_eq (tgt := 28) X dX0_isClass_8 (by decide) ?_ ?_
    · refine h_iconst (v := (nI 0)) X dX0_isClass_28 (by decide) ?_
      exact h_zret X dX0_isClass_29
    · refine h_aload_n X dX0_isClass_11 rfl rfl ?_
      refine c_g_IM_editions X fl0_20 dX0_isClass_12 ?_
      refine h_iload_n X dX0_isClass_15 rfl rfl ?_
      refine h_iconst (v := (nI 2)) X dX0_isClass_16 (by decide) ?_
      refine kt2_get_6 hsf X tlX0_57 ⟨Nat.le_of_ble_eq_true rfl, Nat.le_of_ble_eq_true rfl⟩ (Nat.le_of_ble_eq_true rfl) dX0_isClass_17 ?_
      intro v2 S2
      refine h_iconst (v := (nI 1)) X dX0_isClass_20 (by decide) ?_
      refine h_icmp_ne (tgt := 28) X dX0_isClass_21 (by decide) ?_ ?_
      · refine h_iconst (v := (nI 0)) X dX0_isClass_28 (by decide) ?_
        exact h_zret X dX0_isClass_29
      · refine h_iconst (v := (nI 1)) X dX0_isClass_24 (by decide) ?_
        refine h_goto (tgt := 29) X dX0_isClass_25 (by decide) ?_
        exact h_zret X dX0_isClass_29
theorem mo0_isClass (n : Nat) (x1 : Int32) (S : CS) : mo S (f0_isClass n x1 S) := by
    unfold f0_isClass
    refine m_bT (mo2_has _ _ _) (fun v1 S1 => ?_)
    refine m_ite ?_ ?_
    · exact m_zt m_some
    · refine m_bT (mo2_get _ _ _ _) (fun v2 S2 => ?_)
      refine m_ite ?_ ?_
      · exact m_zt m_some
      · exact m_zt m_some
theorem c0_isClass (hsf : sfOk (SF tk)) (l : Launch) (D : va_G) (cI : ClassId) (q : Nat → Nat) (n : Nat) (x1 : Int32) (S : CS) : MetW l D (tyC cI) (SF tk) (wC cI q) yX0_isClass cX0_isClass 2 (some .boolean) 1 23 QWi [.ref (q 53), .int x1] S (f0_isClass n x1 S) := by
  refine MetW.of (own := RX0) (by decide) rfl (Nat.le_of_ble_eq_true rfl) (mo0_isClass n x1 S) ?_
  intro x p e s m args below meth c X
  refine h_pick (lv' := [(0, .ref (q 53)), (1, .int x1)]) [0, 1] rfl ?_
  exact h_close (w0_isClass hsf X n x1 S)
theorem tc0_isClass : Cond.code yX0_isClass cX0_isClass 2 (some .boolean) ∈ tt := tt_in (List.mem_of_getElem? (i := 696) (by decide +kernel)) (by decide +kernel)
theorem ti0_isClass : Cond.instanceMethod yX0_isClass ∈ tt := tt_in (List.mem_of_getElem? (i := 694) (by decide +kernel)) (by decide +kernel)
theorem te0_isClass : Cond.selects RX0 yX0_isClass yX0_isClass ∈ tt := tt_in (List.mem_of_getElem? (i := 695) (by decide +kernel)) (by decide +kernel)
theorem k0_isClass (hsf : sfOk (SF tk)) (X : hX p s m args meth c cc nL own rt D (tyC cI) (SF tk) A) {n : Nat} {x1 : Int32} {ix : Nat} (hlk : Cond.methodLink own ix yX0_isClass ∈ tt) {rest : List Value} {K : Int32 → CS → Option (ρ × CS)} (hR : 1 + 1 ≤ fr ∧ 8 + (2 + 11) + 23 ≤ lo) (hcat : (rest.map fun v => v.category).sum ≤ 8) (d : decode cc pc = .ok (.invokevirtual ix, 3)) (kk : ∀ v S1, hG p l e (fun r => rmC fr lo (cS r.2 - cS S0) (sS r.2 - sS S0)) s m args below meth c nL (ZW D (wC cI q) A s.heap S0 S1) (cS S1 - cS S0) (sS S1 - sS S0) QQ (fun r => le S1 r.2) (pc + 3) lv (.int v :: rest) (K v S1)) : hG p l e (fun r => rmC fr lo (cS r.2 - cS S0) (sS r.2 - sS S0)) s m args below meth c nL (ZW D (wC cI q) A s.heap S0 S) (cS S - cS S0) (sS S - sS S0) QQ (fun r => le S r.2) pc lv (.int x1 :: .ref (q 53) :: rest) (bnd (f0_isClass n x1 S) K) := h_callVi (As := [.int x1]) (b := q 53) (C := RX0) hsf X (c0_isClass hsf l D cI q n x1 S) (cwVC (k := 1) X.1.2.2.2.2.1 hlk ti0_isClass te0_isClass tc0_isClass ini_0 (by decide +kernel) hR) (fun x H h1 h2 => va_recv h1 h2 (ci := 0) (q0 := 9) rfl rfl) rfl rfl hcat d kk
-- X0.addEdition
theorem tlX0_65 : Cond.methodLink RX0 65 yX2_add ∈ tt := tt_in (List.mem_of_getElem? (i := 426) (by decide +kernel)) (by decide +kernel)
theorem tlX0_68 : Cond.methodLink RX0 68 yX2_set ∈ tt := tt_in (List.mem_of_getElem? (i := 427) (by decide +kernel)) (by decide +kernel)
def f0_addEdition (n : Nat) (x1 : Int32) (S : CS) : Option (Int32 × CS) :=
    bT 6 S (f2_add n (tOf 6 S)) fun v1 S1 =>
    bT 5 S1 (f2_get n x1 (nI 5) (tOf 5 S1)) fun v2 S2 =>
    bT 6 S2 (f2_set n v1 (nI 0) v2 (tOf 6 S2)) fun _ S3 =>
    bT 6 S3 (f2_set n v1 (nI 1) x1 (tOf 6 S3)) fun _ S4 =>
    bT 5 S4 (f2_get n x1 (nI 6) (tOf 5 S4)) fun v5 S5 =>
    bT 6 S5 (f2_set n v1 (nI 2) v5 (tOf 6 S5)) fun _ S6 =>
    bnd (f4_isName n v2 S6) fun v7 S7 =>
    if v7 = 0 then
      (some (v1, S7))
    else
      (cw S7 20 16 v2 v1 fun S8 =>
      some (v1, S8))
theorem w0_addEdition (hsf : sfOk (SF tk)) (X : hX p s m args meth c cX0_addEdition 4 RX0 (some .int) D (tyC cI) (SF tk) A) {S0 : CS} (n : Nat) (x1 : Int32) (S : CS) : hG p l e (fun r => rmC 3 68 (cS r.2 - cS S0) (sS r.2 - sS S0)) s m args below meth c 4 (ZW D (wC cI q) A s.heap S0 S) (cS S - cS S0) (sS S - sS S0) (fun r => MQ below (QWi D (tyC cI) (wC cI q) A r) args s (cS r.2 - cS S0) (sS r.2 - sS S0) A) (fun r => le S r.2) 0 [(0, .ref (q 53)), (1, .int x1)] [] (f0_addEdition n x1 S) := by
    unfold f0_addEdition
    refine h_aload_n X dX0_addEdition_0 rfl rfl ?_
    refine c_g_IM_editions X fl0_20 dX0_addEdition_1 ?_
    refine kt2_add_6 hsf X tlX0_65 ⟨Nat.le_of_ble_eq_true rfl, Nat.le_of_ble_eq_true rfl⟩ (Nat.le_of_ble_eq_true rfl) dX0_addEdition_4 ?_
    intro v1 S1
    refine h_istore_n (lv' := [(2, .int v1), (0, .ref (q 53)), (1, .int x1)]) X dX0_addEdition_7 rfl (by decide) rfl ?_
    refine h_aload_n X dX0_addEdition_8 rfl rfl ?_
    refine c_g_IM_cells X fl0_16 dX0_addEdition_9 ?_
    refine h_iload_n X dX0_addEdition_12 rfl rfl ?_
    refine h_iconst (v := (nI 5)) X dX0_addEdition_13 (by decide) ?_
    refine kt2_get_5 hsf X tlX0_57 ⟨Nat.le_of_ble_eq_true rfl, Nat.le_of_ble_eq_true rfl⟩ (Nat.le_of_ble_eq_true rfl) dX0_addEdition_14 ?_
    intro v2 S2
    refine h_istore_n (lv' := [(3, .int v2), (2, .int v1), (0, .ref (q 53)), (1, .int x1)]) X dX0_addEdition_17 rfl (by decide) rfl ?_
    refine h_aload_n X dX0_addEdition_18 rfl rfl ?_
    refine c_g_IM_editions X fl0_20 dX0_addEdition_19 ?_
    refine h_iload_n X dX0_addEdition_22 rfl rfl ?_
    refine h_iconst (v := (nI 0)) X dX0_addEdition_23 (by decide) ?_
    refine h_iload_n X dX0_addEdition_24 rfl rfl ?_
    refine kt2_set_6 hsf X tlX0_68 ⟨Nat.le_of_ble_eq_true rfl, Nat.le_of_ble_eq_true rfl⟩ (Nat.le_of_ble_eq_true rfl) dX0_addEdition_25 ?_
    intro v3 S3
    refine h_aload_n X dX0_addEdition_28 rfl rfl ?_
    refine c_g_IM_editions X fl0_20 dX0_addEdition_29 ?_
    refine h_iload_n X dX0_addEdition_32 rfl rfl ?_
    refine h_iconst (v := (nI 1)) X dX0_addEdition_33 (by decide) ?_
    refine h_iload_n X dX0_addEdition_34 rfl rfl ?_
    refine kt2_set_6 hsf X tlX0_68 ⟨Nat.le_of_ble_eq_true rfl, Nat.le_of_ble_eq_true rfl⟩ (Nat.le_of_ble_eq_true rfl) dX0_addEdition_35 ?_
    intro v4 S4
    refine h_aload_n X dX0_addEdition_38 rfl rfl ?_
    refine c_g_IM_editions X fl0_20 dX0_addEdition_39 ?_
    refine h_iload_n X dX0_addEdition_42 rfl rfl ?_
    refine h_iconst (v := (nI 2)) X dX0_addEdition_43 (by decide) ?_
    refine h_aload_n X dX0_addEdition_44 rfl rfl ?_
    refine c_g_IM_cells X fl0_16 dX0_addEdition_45 ?_
    refine h_iload_n X dX0_addEdition_48 rfl rfl ?_
    refine h_bipush (v := (nI 6)) X dX0_addEdition_49 (by decide) ?_
    refine kt2_get_5 hsf X tlX0_57 ⟨Nat.le_of_ble_eq_true rfl, Nat.le_of_ble_eq_true rfl⟩ (Nat.le_of_ble_eq_true rfl) dX0_addEdition_51 ?_
    intro v5 S5
    refine kt2_set_6 hsf X tlX0_68 ⟨Nat.le_of_ble_eq_true rfl, Nat.le_of_ble_eq_true rfl⟩ (Nat.le_of_ble_eq_true rfl) dX0_addEdition_54 ?_
    intro v6 S6
    refine h_iload_n X dX0_addEdition_57 rfl rfl ?_
    refine kn4_isName_X0 hsf X ⟨Nat.le_of_ble_eq_true rfl, Nat.le_of_ble_eq_true rfl⟩ (Nat.le_of_ble_eq_true rfl) dX0_addEdition_58 ?_
    intro v7 S7
    refine h_if_eq (tgt := 71) X dX0_addEdition_61 (by decide) ?_ ?_
    · refine h_iload_n X dX0_addEdition_71 rfl rfl ?_
      exact h_iret X dX0_addEdition_72
    · refine h_aload_n X dX0_addEdition_64 rfl rfl ?_
      refine c_g_IM_newestOfName X fl0_26 dX0_addEdition_65 ?_
      refine h_iload_n X dX0_addEdition_68 rfl rfl ?_
      refine h_iload_n X dX0_addEdition_69 rfl rfl ?_
      refine c_s_20 X dX0_addEdition_70 ?_
      intro S8
      refine h_iload_n X dX0_addEdition_71 rfl rfl ?_
      exact h_iret X dX0_addEdition_72
theorem mo0_addEdition (n : Nat) (x1 : Int32) (S : CS) : mo S (f0_addEdition n x1 S) := by
    unfold f0_addEdition
    refine m_bT (mo2_add _ _) (fun v1 S1 => ?_)
    refine m_bT (mo2_get _ _ _ _) (fun v2 S2 => ?_)
    refine m_bT (mo2_set _ _ _ _ _) (fun v3 S3 => ?_)
    refine m_bT (mo2_set _ _ _ _ _) (fun v4 S4 => ?_)
    refine m_bT (mo2_get _ _ _ _) (fun v5 S5 => ?_)
    refine m_bT (mo2_set _ _ _ _ _) (fun v6 S6 => ?_)
    refine m_bnd (mo4_isName _ _ _) (fun v7 S7 => ?_)
    refine m_ite ?_ ?_
    · exact m_some
    · refine m_cw (fun S8 => ?_)
      exact m_some
theorem c0_addEdition (hsf : sfOk (SF tk)) (l : Launch) (D : va_G) (cI : ClassId) (q : Nat → Nat) (n : Nat) (x1 : Int32) (S : CS) : MetW l D (tyC cI) (SF tk) (wC cI q) yX0_addEdition cX0_addEdition 4 (some .int) 3 68 QWi [.ref (q 53), .int x1] S (f0_addEdition n x1 S) := by
  refine MetW.of (own := RX0) (by decide) rfl (Nat.le_of_ble_eq_true rfl) (mo0_addEdition n x1 S) ?_
  intro x p e s m args below meth c X
  refine h_pick (lv' := [(0, .ref (q 53)), (1, .int x1)]) [0, 1] rfl ?_
  exact h_close (w0_addEdition hsf X n x1 S)
theorem tc0_addEdition : Cond.code yX0_addEdition cX0_addEdition 4 (some .int) ∈ tt := tt_in (List.mem_of_getElem? (i := 464) (by decide +kernel)) (by decide +kernel)
theorem ti0_addEdition : Cond.instanceMethod yX0_addEdition ∈ tt := tt_in (List.mem_of_getElem? (i := 463) (by decide +kernel)) (by decide +kernel)
theorem te0_addEdition : Cond.selects RX0 yX0_addEdition yX0_addEdition ∈ tt := tt_in (List.mem_of_getElem? (i := 13) (by decide +kernel)) (by decide +kernel)
theorem k0_addEdition (hsf : sfOk (SF tk)) (X : hX p s m args meth c cc nL own rt D (tyC cI) (SF tk) A) {n : Nat} {x1 : Int32} {ix : Nat} (hlk : Cond.methodLink own ix yX0_addEdition ∈ tt) {rest : List Value} {K : Int32 → CS → Option (ρ × CS)} (hR : 3 + 1 ≤ fr ∧ 8 + (4 + 11) + 68 ≤ lo) (hcat : (rest.map fun v => v.category).sum ≤ 8) (d : decode cc pc = .ok (.invokevirtual ix, 3)) (kk : ∀ v S1, hG p l e (fun r => rmC fr lo (cS r.2 - cS S0) (sS r.2 - sS S0)) s m args below meth c nL (ZW D (wC cI q) A s.heap S0 S1) (cS S1 - cS S0) (sS S1 - sS S0) QQ (fun r => le S1 r.2) (pc + 3) lv (.int v :: rest) (K v S1)) : hG p l e (fun r => rmC fr lo (cS r.2 - cS S0) (sS r.2 - sS S0)) s m args below meth c nL (ZW D (wC cI q) A s.heap S0 S) (cS S - cS S0) (sS S - sS S0) QQ (fun r => le S r.2) pc lv (.int x1 :: .ref (q 53) :: rest) (bnd (f0_addEdition n x1 S) K) := h_callVi (As := [.int x1]) (b := q 53) (C := RX0) hsf X (c0_addEdition hsf l D cI q n x1 S) (cwVC (k := 1) X.1.2.2.2.2.1 hlk ti0_addEdition te0_addEdition tc0_addEdition ini_0 (by decide +kernel) hR) (fun x H h1 h2 => va_recv h1 h2 (ci := 0) (q0 := 9) rfl rfl) rfl rfl hcat d kk
-- X0.addValue
theorem tlX0_72 : Cond.methodLink RX0 72 yX0_addEdition ∈ tt := tt_in (List.mem_of_getElem? (i := 461) (by decide +kernel)) (by decide +kernel)
def f0_addValue (n : Nat) (x1 : Int32) (x2 : Int32) (x3 : Int32) (S : CS) : Option (Int32 × CS) :=
    bnd (f0_addEdition n x1 S) fun v1 S1 =>
    bT 6 S1 (f2_set n v1 (nI 3) x2 (tOf 6 S1)) fun _ S2 =>
    bT 6 S2 (f2_set n v1 (nI 4) x3 (tOf 6 S2)) fun _ S3 =>
    some (v1, S3)
theorem w0_addValue (hsf : sfOk (SF tk)) (X : hX p s m args meth c cX0_addValue 5 RX0 (some .int) D (tyC cI) (SF tk) A) {S0 : CS} (n : Nat) (x1 : Int32) (x2 : Int32) (x3 : Int32) (S : CS) : hG p l e (fun r => rmC 4 91 (cS r.2 - cS S0) (sS r.2 - sS S0)) s m args below meth c 5 (ZW D (wC cI q) A s.heap S0 S) (cS S - cS S0) (sS S - sS S0) (fun r => MQ below (QWi D (tyC cI) (wC cI q) A r) args s (cS r.2 - cS S0) (sS r.2 - sS S0) A) (fun r => le S r.2) 0 [(0, .ref (q 53)), (1, .int x1), (2, .int x2), (3, .int x3)] [] (f0_addValue n x1 x2 x3 S) := by
    unfold f0_addValue
    refine h_aload_n X dX0_addValue_0 rfl rfl ?_
    refine h_iload_n X dX0_addValue_1 rfl rfl ?_
    refine k0_addEdition hsf X tlX0_72 ⟨Nat.le_of_ble_eq_true rfl, Nat.le_of_ble_eq_true rfl⟩ (Nat.le_of_ble_eq_true rfl) dX0_addValue_2 ?_
    intro v1 S1
    refine h_istore (lv' := [(4, .int v1), (0, .ref (q 53)), (1, .int x1), (2, .int x2), (3, .int x3)]) X dX0_addValue_5 (by decide) rfl ?_
    refine h_aload_n X dX0_addValue_7 rfl rfl ?_
    refine c_g_IM_editions X fl0_20 dX0_addValue_8 ?_
    refine h_iload X dX0_addValue_11 rfl ?_
    refine h_iconst (v := (nI 3)) X dX0_addValue_13 (by decide) ?_
    refine h_iload_n X dX0_addValue_14 rfl rfl ?_
    refine kt2_set_6 hsf X tlX0_68 ⟨Nat.le_of_ble_eq_true rfl, Nat.le_of_ble_eq_true rfl⟩ (Nat.le_of_ble_eq_true rfl) dX0_addValue_15 ?_
    intro v2 S2
    refine h_aload_n X dX0_addValue_18 rfl rfl ?_
    refine c_g_IM_editions X fl0_20 dX0_addValue_19 ?_
    refine h_iload X dX0_addValue_22 rfl ?_
    refine h_iconst (v := (nI 4)) X dX0_addValue_24 (by decide) ?_
    refine h_iload_n X dX0_addValue_25 rfl rfl ?_
    refine kt2_set_6 hsf X tlX0_68 ⟨Nat.le_of_ble_eq_true rfl, Nat.le_of_ble_eq_true rfl⟩ (Nat.le_of_ble_eq_true rfl) dX0_addValue_26 ?_
    intro v3 S3
    refine h_iload X dX0_addValue_29 rfl ?_
    exact h_iret X dX0_addValue_31
theorem mo0_addValue (n : Nat) (x1 : Int32) (x2 : Int32) (x3 : Int32) (S : CS) : mo S (f0_addValue n x1 x2 x3 S) := by
    unfold f0_addValue
    refine m_bnd (mo0_addEdition _ _ _) (fun v1 S1 => ?_)
    refine m_bT (mo2_set _ _ _ _ _) (fun v2 S2 => ?_)
    refine m_bT (mo2_set _ _ _ _ _) (fun v3 S3 => ?_)
    exact m_some
theorem c0_addValue (hsf : sfOk (SF tk)) (l : Launch) (D : va_G) (cI : ClassId) (q : Nat → Nat) (n : Nat) (x1 : Int32) (x2 : Int32) (x3 : Int32) (S : CS) : MetW l D (tyC cI) (SF tk) (wC cI q) yX0_addValue cX0_addValue 5 (some .int) 4 91 QWi [.ref (q 53), .int x1, .int x2, .int x3] S (f0_addValue n x1 x2 x3 S) := by
  refine MetW.of (own := RX0) (by decide) rfl (Nat.le_of_ble_eq_true rfl) (mo0_addValue n x1 x2 x3 S) ?_
  intro x p e s m args below meth c X
  refine h_pick (lv' := [(0, .ref (q 53)), (1, .int x1), (2, .int x2), (3, .int x3)]) [0, 1, 2, 3] rfl ?_
  exact h_close (w0_addValue hsf X n x1 x2 x3 S)
theorem tc0_addValue : Cond.code yX0_addValue cX0_addValue 5 (some .int) ∈ tt := tt_in (List.mem_of_getElem? (i := 602) (by decide +kernel)) (by decide +kernel)
theorem ti0_addValue : Cond.instanceMethod yX0_addValue ∈ tt := tt_in (List.mem_of_getElem? (i := 600) (by decide +kernel)) (by decide +kernel)
theorem te0_addValue : Cond.selects RX0 yX0_addValue yX0_addValue ∈ tt := tt_in (List.mem_of_getElem? (i := 601) (by decide +kernel)) (by decide +kernel)
theorem k0_addValue (hsf : sfOk (SF tk)) (X : hX p s m args meth c cc nL own rt D (tyC cI) (SF tk) A) {n : Nat} {x1 : Int32} {x2 : Int32} {x3 : Int32} {ix : Nat} (hlk : Cond.methodLink own ix yX0_addValue ∈ tt) {rest : List Value} {K : Int32 → CS → Option (ρ × CS)} (hR : 4 + 1 ≤ fr ∧ 8 + (5 + 11) + 91 ≤ lo) (hcat : (rest.map fun v => v.category).sum ≤ 8) (d : decode cc pc = .ok (.invokevirtual ix, 3)) (kk : ∀ v S1, hG p l e (fun r => rmC fr lo (cS r.2 - cS S0) (sS r.2 - sS S0)) s m args below meth c nL (ZW D (wC cI q) A s.heap S0 S1) (cS S1 - cS S0) (sS S1 - sS S0) QQ (fun r => le S1 r.2) (pc + 3) lv (.int v :: rest) (K v S1)) : hG p l e (fun r => rmC fr lo (cS r.2 - cS S0) (sS r.2 - sS S0)) s m args below meth c nL (ZW D (wC cI q) A s.heap S0 S) (cS S - cS S0) (sS S - sS S0) QQ (fun r => le S r.2) pc lv (.int x3 :: .int x2 :: .int x1 :: .ref (q 53) :: rest) (bnd (f0_addValue n x1 x2 x3 S) K) := h_callVi (As := [.int x1, .int x2, .int x3]) (b := q 53) (C := RX0) hsf X (c0_addValue hsf l D cI q n x1 x2 x3 S) (cwVC (k := 3) X.1.2.2.2.2.1 hlk ti0_addValue te0_addValue tc0_addValue ini_0 (by decide +kernel) hR) (fun x H h1 h2 => va_recv h1 h2 (ci := 0) (q0 := 9) rfl rfl) rfl rfl hcat d kk
-- X0.inherit
def f0_inherit_l7 (n : Nat) : Nat → Int32 → Int32 → CS → Option (Int32 × CS)
  | 0, _, _, _ => none
  | k + 1, x1, x3, S => if (nI 5) ≤ x3 then
      (some (0, S))
    else
      (bT 6 S (f2_set n x1 ((nI 9) + x3) (-1 : Int32) (tOf 6 S)) fun _ S1 =>
      (f0_inherit_l7 n k) x1 (x3 + (nI 1)) S1)
theorem mw0_inherit_l7 (n : Nat) : ∀ (k : Nat) (x1 : Int32) (x3 : Int32) (S : CS), mo S (f0_inherit_l7 n k x1 x3 S) := by
  intro k
  induction k with
  | zero =>
    intro x1 x3 S
    exact m_none
  | succ k ih =>
    intro x1 x3 S
    rw [f0_inherit_l7]
    refine m_ite ?_ ?_
    · exact m_some
    · refine m_bT (mo2_set _ _ _ _ _) (fun v1 S1 => ?_)
      exact ih x1 (x3 + (nI 1)) S1
theorem w0_inherit_l7 (hsf : sfOk (SF tk)) (X : hX p s m args meth c cX0_inherit 4 RX0 none D (tyC cI) (SF tk) A) (n : Nat) : ∀ (k : Nat) (x1 : Int32) (x3 : Int32) (S : CS), hG p l e (fun r => rmC 1 24 (cS r.2 - cS S0) (sS r.2 - sS S0)) s m args below meth c 4 (ZW D (wC cI q) A s.heap S0 S) (cS S - cS S0) (sS S - sS S0) (fun r => MQ below (QWv D (tyC cI) (wC cI q) A r) args s (cS r.2 - cS S0) (sS r.2 - sS S0) A) (fun r => le S r.2) 7 [(0, .ref (q 53)), (1, .int x1), (3, .int x3)] [] (f0_inherit_l7 n k x1 x3 S) := by
  intro k
  induction k with
  | zero =>
    intro x1 x3 S
    exact h_none
  | succ k ih =>
    intro x1 x3 S
    rw [f0_inherit_l7]
    refine h_iload_n X dX0_inherit_7 rfl rfl ?_
    refine h_iconst (v := (nI 5)) X dX0_inherit_8 (by decide) ?_
    refine h_icmp_ge (tgt := 31) X dX0_inherit_9 (by decide) ?_ ?_
    · exact h_vret X dX0_inherit_31
    · refine h_aload_n X dX0_inherit_12 rfl rfl ?_
      refine c_g_IM_editions X fl0_20 dX0_inherit_13 ?_
      refine h_iload_n X dX0_inherit_16 rfl rfl ?_
      refine h_bipush (v := (nI 9)) X dX0_inherit_17 (by decide) ?_
      refine h_iload_n X dX0_inherit_19 rfl rfl ?_
      refine h_iadd X dX0_inherit_20 ?_
      refine h_iconst (v := (-1 : Int32)) X dX0_inherit_21 (by decide) ?_
      refine kt2_set_6 hsf X tlX0_68 ⟨Nat.le_of_ble_eq_true rfl, Nat.le_of_ble_eq_true rfl⟩ (Nat.le_of_ble_eq_true rfl) dX0_inherit_22 ?_
      intro v1 S1
      refine h_iinc (v := (nI 1)) (lv' := [(3, .int (x3 + (nI 1))), (0, .ref (q 53)), (1, .int x1)]) X dX0_inherit_25 rfl (by decide) (by decide) rfl ?_
      refine h_goto (tgt := 7) X dX0_inherit_28 (by decide) ?_
      exact h_pick [1, 2, 0] rfl (ih x1 (x3 + (nI 1)) S1)
def f0_inherit_l35 (n : Nat) : Nat → Int32 → Int32 → Int32 → CS → Option (Int32 × CS)
  | 0, _, _, _, _ => none
  | k + 1, x1, x2, x3, S => if (nI 44) ≤ x3 then
      (some (0, S))
    else
      (bT 6 S (f2_get n x2 x3 (tOf 6 S)) fun v1 S1 =>
      bT 6 S1 (f2_set n x1 x3 v1 (tOf 6 S1)) fun _ S2 =>
      (f0_inherit_l35 n k) x1 x2 (x3 + (nI 1)) S2)
theorem mw0_inherit_l35 (n : Nat) : ∀ (k : Nat) (x1 : Int32) (x2 : Int32) (x3 : Int32) (S : CS), mo S (f0_inherit_l35 n k x1 x2 x3 S) := by
  intro k
  induction k with
  | zero =>
    intro x1 x2 x3 S
    exact m_none
  | succ k ih =>
    intro x1 x2 x3 S
    rw [f0_inherit_l35]
    refine m_ite ?_ ?_
    · exact m_some
    · refine m_bT (mo2_get _ _ _ _) (fun v1 S1 => ?_)
      refine m_bT (mo2_set _ _ _ _ _) (fun v2 S2 => ?_)
      exact ih x1 x2 (x3 + (nI 1)) S2
theorem w0_inherit_l35 (hsf : sfOk (SF tk)) (X : hX p s m args meth c cX0_inherit 4 RX0 none D (tyC cI) (SF tk) A) (n : Nat) : ∀ (k : Nat) (x1 : Int32) (x2 : Int32) (x3 : Int32) (S : CS), hG p l e (fun r => rmC 1 24 (cS r.2 - cS S0) (sS r.2 - sS S0)) s m args below meth c 4 (ZW D (wC cI q) A s.heap S0 S) (cS S - cS S0) (sS S - sS S0) (fun r => MQ below (QWv D (tyC cI) (wC cI q) A r) args s (cS r.2 - cS S0) (sS r.2 - sS S0) A) (fun r => le S r.2) 35 [(0, .ref (q 53)), (1, .int x1), (2, .int x2), (3, .int x3)] [] (f0_inherit_l35 n k x1 x2 x3 S) := by
  intro k
  induction k with
  | zero =>
    intro x1 x2 x3 S
    exact h_none
  | succ k ih =>
    intro x1 x2 x3 S
    rw [f0_inherit_l35]
    refine h_iload_n X dX0_inherit_35 rfl rfl ?_
    refine h_bipush (v := (nI 44)) X dX0_inherit_36 (by decide) ?_
    refine h_icmp_ge (tgt := 65) X dX0_inherit_38 (by decide) ?_ ?_
    · exact h_vret X dX0_inherit_65
    · refine h_aload_n X dX0_inherit_41 rfl rfl ?_
      refine c_g_IM_editions X fl0_20 dX0_inherit_42 ?_
      refine h_iload_n X dX0_inherit_45 rfl rfl ?_
      refine h_iload_n X dX0_inherit_46 rfl rfl ?_
      refine h_aload_n X dX0_inherit_47 rfl rfl ?_
      refine c_g_IM_editions X fl0_20 dX0_inherit_48 ?_
      refine h_iload_n X dX0_inherit_51 rfl rfl ?_
      refine h_iload_n X dX0_inherit_52 rfl rfl ?_
      refine kt2_get_6 hsf X tlX0_57 ⟨Nat.le_of_ble_eq_true rfl, Nat.le_of_ble_eq_true rfl⟩ (Nat.le_of_ble_eq_true rfl) dX0_inherit_53 ?_
      intro v1 S1
      refine kt2_set_6 hsf X tlX0_68 ⟨Nat.le_of_ble_eq_true rfl, Nat.le_of_ble_eq_true rfl⟩ (Nat.le_of_ble_eq_true rfl) dX0_inherit_56 ?_
      intro v2 S2
      refine h_iinc (v := (nI 1)) (lv' := [(3, .int (x3 + (nI 1))), (0, .ref (q 53)), (1, .int x1), (2, .int x2)]) X dX0_inherit_59 rfl (by decide) (by decide) rfl ?_
      refine h_goto (tgt := 35) X dX0_inherit_62 (by decide) ?_
      exact h_pick [1, 2, 3, 0] rfl (ih x1 x2 (x3 + (nI 1)) S2)
def f0_inherit (n : Nat) (x1 : Int32) (x2 : Int32) (S : CS) : Option (Int32 × CS) :=
    if x2 = (-1 : Int32) then (f0_inherit_l7 n n x1 (nI 0) S) else (f0_inherit_l35 n n x1 x2 (nI 9) S)
theorem w0_inherit (hsf : sfOk (SF tk)) (X : hX p s m args meth c cX0_inherit 4 RX0 none D (tyC cI) (SF tk) A) {S0 : CS} (n : Nat) (x1 : Int32) (x2 : Int32) (S : CS) : hG p l e (fun r => rmC 1 24 (cS r.2 - cS S0) (sS r.2 - sS S0)) s m args below meth c 4 (ZW D (wC cI q) A s.heap S0 S) (cS S - cS S0) (sS S - sS S0) (fun r => MQ below (QWv D (tyC cI) (wC cI q) A r) args s (cS r.2 - cS S0) (sS r.2 - sS S0) A) (fun r => le S r.2) 0 [(0, .ref (q 53)), (1, .int x1), (2, .int x2)] [] (f0_inherit n x1 x2 S) := by
    unfold f0_inherit
    refine h_iload_n X dX0_inherit_0 rfl rfl ?_
    refine h_iconst (v := (-1 : Int32)) X dX0_inherit_1 (by decide) ?_
    refine h_icmp_ne (tgt := 32) X dX0_inherit_2 (by decide) ?_ ?_
    · refine h_bipush (v := (nI 9)) X dX0_inherit_32 (by decide) ?_
      refine h_istore_n (lv' := [(3, .int (nI 9)), (0, .ref (q 53)), (1, .int x1), (2, .int x2)]) X dX0_inherit_34 rfl (by decide) rfl ?_
      exact h_pick [1, 2, 3, 0] rfl (w0_inherit_l35 hsf X n n x1 x2 (nI 9) S)
    · refine h_iconst (v := (nI 0)) X dX0_inherit_5 (by decide) ?_
      refine h_istore_n (lv' := [(3, .int (nI 0)), (0, .ref (q 53)), (1, .int x1), (2, .int x2)]) X dX0_inherit_6 rfl (by decide) rfl ?_
      exact h_pick [1, 2, 0] rfl (w0_inherit_l7 hsf X n n x1 (nI 0) S)
theorem mo0_inherit (n : Nat) (x1 : Int32) (x2 : Int32) (S : CS) : mo S (f0_inherit n x1 x2 S) := by
    unfold f0_inherit
    refine m_ite ?_ ?_
    · exact mw0_inherit_l7 n n x1 (nI 0) S
    · exact mw0_inherit_l35 n n x1 x2 (nI 9) S
theorem c0_inherit (hsf : sfOk (SF tk)) (l : Launch) (D : va_G) (cI : ClassId) (q : Nat → Nat) (n : Nat) (x1 : Int32) (x2 : Int32) (S : CS) : MetW l D (tyC cI) (SF tk) (wC cI q) yX0_inherit cX0_inherit 4 none 1 24 QWv [.ref (q 53), .int x1, .int x2] S (f0_inherit n x1 x2 S) := by
  refine MetW.of (own := RX0) (by decide) rfl (Nat.le_of_ble_eq_true rfl) (mo0_inherit n x1 x2 S) ?_
  intro x p e s m args below meth c X
  refine h_pick (lv' := [(0, .ref (q 53)), (1, .int x1), (2, .int x2)]) [0, 1, 2] rfl ?_
  exact h_close (w0_inherit hsf X n x1 x2 S)
theorem tc0_inherit : Cond.code yX0_inherit cX0_inherit 4 none ∈ tt := tt_in (List.mem_of_getElem? (i := 468) (by decide +kernel)) (by decide +kernel)
theorem ti0_inherit : Cond.instanceMethod yX0_inherit ∈ tt := tt_in (List.mem_of_getElem? (i := 467) (by decide +kernel)) (by decide +kernel)
theorem te0_inherit : Cond.selects RX0 yX0_inherit yX0_inherit ∈ tt := tt_in (List.mem_of_getElem? (i := 14) (by decide +kernel)) (by decide +kernel)
theorem k0_inherit (hsf : sfOk (SF tk)) (X : hX p s m args meth c cc nL own rt D (tyC cI) (SF tk) A) {n : Nat} {x1 : Int32} {x2 : Int32} {ix : Nat} (hlk : Cond.methodLink own ix yX0_inherit ∈ tt) {rest : List Value} {K : Int32 → CS → Option (ρ × CS)} (hR : 1 + 1 ≤ fr ∧ 8 + (4 + 11) + 24 ≤ lo) (hcat : (rest.map fun v => v.category).sum ≤ 8) (d : decode cc pc = .ok (.invokevirtual ix, 3)) (kk : ∀ v S1, hG p l e (fun r => rmC fr lo (cS r.2 - cS S0) (sS r.2 - sS S0)) s m args below meth c nL (ZW D (wC cI q) A s.heap S0 S1) (cS S1 - cS S0) (sS S1 - sS S0) QQ (fun r => le S1 r.2) (pc + 3) lv rest (K v S1)) : hG p l e (fun r => rmC fr lo (cS r.2 - cS S0) (sS r.2 - sS S0)) s m args below meth c nL (ZW D (wC cI q) A s.heap S0 S) (cS S - cS S0) (sS S - sS S0) QQ (fun r => le S r.2) pc lv (.int x2 :: .int x1 :: .ref (q 53) :: rest) (bnd (f0_inherit n x1 x2 S) K) := h_callVv (As := [.int x1, .int x2]) (b := q 53) (C := RX0) hsf X (c0_inherit hsf l D cI q n x1 x2 S) (cwVC (k := 2) X.1.2.2.2.2.1 hlk ti0_inherit te0_inherit tc0_inherit ini_0 (by decide +kernel) hR) (fun x H h1 h2 => va_recv h1 h2 (ci := 0) (q0 := 9) rfl rfl) rfl rfl hcat d kk
-- X1.boundAt
def f1_boundAt (n : Nat) (x1 : Int32) (S : CS) : Option (Int32 × CS) :=
    if x1 < 0 then
      (some ((nI 0), S))
    else
      (if (nI 60) ≤ x1 then
        (some ((nI 0), S))
      else
        (cr S 13 60 x1 fun v1 =>
        some (v1, S)))
theorem w1_boundAt (hsf : sfOk (SF tk)) (X : hX p s m args meth c cX1_boundAt 2 RX1 (some .int) D (tyC cI) (SF tk) A) {S0 : CS} (n : Nat) (x1 : Int32) (S : CS) : hG p l e (fun r => rmC 0 0 (cS r.2 - cS S0) (sS r.2 - sS S0)) s m args below meth c 2 (ZW D (wC cI q) A s.heap S0 S) (cS S - cS S0) (sS S - sS S0) (fun r => MQ below (QWi D (tyC cI) (wC cI q) A r) args s (cS r.2 - cS S0) (sS r.2 - sS S0) A) (fun r => le S r.2) 0 [(0, .ref (q 51)), (1, .int x1)] [] (f1_boundAt n x1 S) := by
    unfold f1_boundAt
    refine h_iload_n X dX1_boundAt_0 rfl rfl ?_
    refine h_if_lt (tgt := 19) X dX1_boundAt_1 (by decide) ?_ ?_
    · refine h_iconst (v := (nI 0)) X dX1_boundAt_19 (by decide) ?_
      exact h_iret X dX1_boundAt_20
    · refine h_iload_n X dX1_boundAt_4 rfl rfl ?_
      refine h_bipush (v := (nI 60)) X dX1_boundAt_5 (by decide) ?_
      refine h_icmp_ge (tgt := 19) X dX1_boundAt_7 (by decide) ?_ ?_
      · refine h_iconst (v := (nI 0)) X dX1_boundAt_19 (by decide) ?_
        exact h_iret X dX1_boundAt_20
      · refine h_aload_n X dX1_boundAt_10 rfl rfl ?_
        refine c_g_RD_bound X fl1_46 dX1_boundAt_11 ?_
        refine h_iload_n X dX1_boundAt_14 rfl rfl ?_
        refine c_l_13 X dX1_boundAt_15 ?_
        intro v1
        refine h_goto (tgt := 20) X dX1_boundAt_16 (by decide) ?_
        exact h_iret X dX1_boundAt_20
theorem mo1_boundAt (n : Nat) (x1 : Int32) (S : CS) : mo S (f1_boundAt n x1 S) := by
    unfold f1_boundAt
    refine m_ite ?_ ?_
    · exact m_some
    · refine m_ite ?_ ?_
      · exact m_some
      · refine m_cr (fun v1 => ?_)
        exact m_some
theorem c1_boundAt (hsf : sfOk (SF tk)) (l : Launch) (D : va_G) (cI : ClassId) (q : Nat → Nat) (n : Nat) (x1 : Int32) (S : CS) : MetW l D (tyC cI) (SF tk) (wC cI q) yX1_boundAt cX1_boundAt 2 (some .int) 0 0 QWi [.ref (q 51), .int x1] S (f1_boundAt n x1 S) := by
  refine MetW.of (own := RX1) (by decide) rfl (Nat.le_of_ble_eq_true rfl) (mo1_boundAt n x1 S) ?_
  intro x p e s m args below meth c X
  refine h_pick (lv' := [(0, .ref (q 51)), (1, .int x1)]) [0, 1] rfl ?_
  exact h_close (w1_boundAt hsf X n x1 S)
theorem tc1_boundAt : Cond.code yX1_boundAt cX1_boundAt 2 (some .int) ∈ tt := tt_in (List.mem_of_getElem? (i := 372) (by decide +kernel)) (by decide +kernel)
theorem ti1_boundAt : Cond.instanceMethod yX1_boundAt ∈ tt := tt_in (List.mem_of_getElem? (i := 370) (by decide +kernel)) (by decide +kernel)
theorem te1_boundAt : Cond.selects RX1 yX1_boundAt yX1_boundAt ∈ tt := tt_in (List.mem_of_getElem? (i := 371) (by decide +kernel)) (by decide +kernel)
theorem k1_boundAt (hsf : sfOk (SF tk)) (X : hX p s m args meth c cc nL own rt D (tyC cI) (SF tk) A) {n : Nat} {x1 : Int32} {ix : Nat} (hlk : Cond.methodLink own ix yX1_boundAt ∈ tt) {rest : List Value} {K : Int32 → CS → Option (ρ × CS)} (hR : 0 + 1 ≤ fr ∧ 8 + (2 + 11) + 0 ≤ lo) (hcat : (rest.map fun v => v.category).sum ≤ 8) (d : decode cc pc = .ok (.invokevirtual ix, 3)) (kk : ∀ v S1, hG p l e (fun r => rmC fr lo (cS r.2 - cS S0) (sS r.2 - sS S0)) s m args below meth c nL (ZW D (wC cI q) A s.heap S0 S1) (cS S1 - cS S0) (sS S1 - sS S0) QQ (fun r => le S1 r.2) (pc + 3) lv (.int v :: rest) (K v S1)) : hG p l e (fun r => rmC fr lo (cS r.2 - cS S0) (sS r.2 - sS S0)) s m args below meth c nL (ZW D (wC cI q) A s.heap S0 S) (cS S - cS S0) (sS S - sS S0) QQ (fun r => le S r.2) pc lv (.int x1 :: .ref (q 51) :: rest) (bnd (f1_boundAt n x1 S) K) := h_callVi (As := [.int x1]) (b := q 51) (C := RX1) hsf X (c1_boundAt hsf l D cI q n x1 S) (cwVC (k := 1) X.1.2.2.2.2.1 hlk ti1_boundAt te1_boundAt tc1_boundAt ini_1 (by decide +kernel) hR) (fun x H h1 h2 => va_recv h1 h2 (ci := 1) (q0 := 2) rfl rfl) rfl rfl hcat d kk
-- X0.addClass
theorem tlX0_96 : Cond.methodLink RX0 96 yX1_boundAt ∈ tt := tt_in (List.mem_of_getElem? (i := 469) (by decide +kernel)) (by decide +kernel)
def f0_addClass_l222 (n : Nat) : Nat → Int32 → Int32 → CS → Option (Int32 × CS)
  | 0, _, _, _ => none
  | k + 1, x3, x4, S => cg S 6 fun v1 =>
    if v1 ≤ x4 then
      (some (x3, S))
    else
      (bnd (f1_boundAt n x4 S) fun v2 S2 =>
      bT 6 S2 (f2_set n x3 ((nI 44) + x4) v2 (tOf 6 S2)) fun _ S3 =>
      (f0_addClass_l222 n k) x3 (x4 + (nI 1)) S3)
theorem mw0_addClass_l222 (n : Nat) : ∀ (k : Nat) (x3 : Int32) (x4 : Int32) (S : CS), mo S (f0_addClass_l222 n k x3 x4 S) := by
  intro k
  induction k with
  | zero =>
    intro x3 x4 S
    exact m_none
  | succ k ih =>
    intro x3 x4 S
    rw [f0_addClass_l222]
    refine m_cg (fun v1 => ?_)
    refine m_ite ?_ ?_
    · exact m_some
    · refine m_bnd (mo1_boundAt _ _ _) (fun v2 S2 => ?_)
      refine m_bT (mo2_set _ _ _ _ _) (fun v3 S3 => ?_)
      exact ih x3 (x4 + (nI 1)) S3
theorem w0_addClass_l222 (hsf : sfOk (SF tk)) (X : hX p s m args meth c cX0_addClass 6 RX0 (some .int) D (tyC cI) (SF tk) A) (n : Nat) : ∀ (k : Nat) (x3 : Int32) (x4 : Int32) (S : CS), hG p l e (fun r => rmC 4 91 (cS r.2 - cS S0) (sS r.2 - sS S0)) s m args below meth c 6 (ZW D (wC cI q) A s.heap S0 S) (cS S - cS S0) (sS S - sS S0) (fun r => MQ below (QWi D (tyC cI) (wC cI q) A r) args s (cS r.2 - cS S0) (sS r.2 - sS S0) A) (fun r => le S r.2) 222 [(0, .ref (q 53)), (2, .ref (q 51)), (3, .int x3), (4, .int x4)] [] (f0_addClass_l222 n k x3 x4 S) := by
  intro k
  induction k with
  | zero =>
    intro x3 x4 S
    exact h_none
  | succ k ih =>
    intro x3 x4 S
    rw [f0_addClass_l222]
    refine h_iload X dX0_addClass_222 rfl ?_
    refine h_aload_n X dX0_addClass_224 rfl rfl ?_
    refine c_g_RD_length X fl0_84 dX0_addClass_225 ?_
    intro v1
    refine h_icmp_ge (tgt := 256) X dX0_addClass_228 (by decide) ?_ ?_
    · refine h_iload_n X dX0_addClass_256 rfl rfl ?_
      exact h_iret X dX0_addClass_257
    · refine h_aload_n X dX0_addClass_231 rfl rfl ?_
      refine c_g_IM_editions X fl0_20 dX0_addClass_232 ?_
      refine h_iload_n X dX0_addClass_235 rfl rfl ?_
      refine h_bipush (v := (nI 44)) X dX0_addClass_236 (by decide) ?_
      refine h_iload X dX0_addClass_238 rfl ?_
      refine h_iadd X dX0_addClass_240 ?_
      refine h_aload_n X dX0_addClass_241 rfl rfl ?_
      refine h_iload X dX0_addClass_242 rfl ?_
      refine k1_boundAt hsf X tlX0_96 ⟨Nat.le_of_ble_eq_true rfl, Nat.le_of_ble_eq_true rfl⟩ (Nat.le_of_ble_eq_true rfl) dX0_addClass_244 ?_
      intro v2 S2
      refine kt2_set_6 hsf X tlX0_68 ⟨Nat.le_of_ble_eq_true rfl, Nat.le_of_ble_eq_true rfl⟩ (Nat.le_of_ble_eq_true rfl) dX0_addClass_247 ?_
      intro v3 S3
      refine h_iinc (v := (nI 1)) (lv' := [(4, .int (x4 + (nI 1))), (0, .ref (q 53)), (2, .ref (q 51)), (3, .int x3)]) X dX0_addClass_250 rfl (by decide) (by decide) rfl ?_
      refine h_goto (tgt := 222) X dX0_addClass_253 (by decide) ?_
      exact h_pick [1, 2, 3, 0] rfl (ih x3 (x4 + (nI 1)) S3)
def f0_addClass_l129 (n : Nat) : Nat → Int32 → Int32 → CS → Option (Int32 × CS)
  | 0, _, _, _ => none
  | k + 1, x3, x4, S => bT 1 S (f2_size n (tOf 1 S)) fun v1 S1 =>
    if v1 ≤ x4 then
      (f0_addClass_l222 n n x3 (nI 0) S1)
    else
      (bT 1 S1 (f2_get n x4 (nI 0) (tOf 1 S1)) fun v2 S2 =>
      bT 6 S2 (f2_set n x3 ((nI 9) + v2) x3 (tOf 6 S2)) fun _ S3 =>
      bT 1 S3 (f2_get n x4 (nI 1) (tOf 1 S3)) fun v4 S4 =>
      bT 6 S4 (f2_set n x3 ((nI 14) + v2) v4 (tOf 6 S4)) fun _ S5 =>
      bT 1 S5 (f2_get n x4 (nI 2) (tOf 1 S5)) fun v6 S6 =>
      bT 6 S6 (f2_set n x3 ((nI 19) + v2) v6 (tOf 6 S6)) fun _ S7 =>
      (f0_addClass_l129 n k) x3 (x4 + (nI 1)) S7)
theorem mw0_addClass_l129 (n : Nat) : ∀ (k : Nat) (x3 : Int32) (x4 : Int32) (S : CS), mo S (f0_addClass_l129 n k x3 x4 S) := by
  intro k
  induction k with
  | zero =>
    intro x3 x4 S
    exact m_none
  | succ k ih =>
    intro x3 x4 S
    rw [f0_addClass_l129]
    refine m_bT (mo2_size _ _) (fun v1 S1 => ?_)
    refine m_ite ?_ ?_
    · exact mw0_addClass_l222 n n x3 (nI 0) S1
    · refine m_bT (mo2_get _ _ _ _) (fun v2 S2 => ?_)
      refine m_bT (mo2_set _ _ _ _ _) (fun v3 S3 => ?_)
      refine m_bT (mo2_get _ _ _ _) (fun v4 S4 => ?_)
      refine m_bT (mo2_set _ _ _ _ _) (fun v5 S5 => ?_)
      refine m_bT (mo2_get _ _ _ _) (fun v6 S6 => ?_)
      refine m_bT (mo2_set _ _ _ _ _) (fun v7 S7 => ?_)
      exact ih x3 (x4 + (nI 1)) S7
theorem w0_addClass_l129 (hsf : sfOk (SF tk)) (X : hX p s m args meth c cX0_addClass 6 RX0 (some .int) D (tyC cI) (SF tk) A) (n : Nat) : ∀ (k : Nat) (x3 : Int32) (x4 : Int32) (S : CS), hG p l e (fun r => rmC 4 91 (cS r.2 - cS S0) (sS r.2 - sS S0)) s m args below meth c 6 (ZW D (wC cI q) A s.heap S0 S) (cS S - cS S0) (sS S - sS S0) (fun r => MQ below (QWi D (tyC cI) (wC cI q) A r) args s (cS r.2 - cS S0) (sS r.2 - sS S0) A) (fun r => le S r.2) 129 [(0, .ref (q 53)), (2, .ref (q 51)), (3, .int x3), (4, .int x4)] [] (f0_addClass_l129 n k x3 x4 S) := by
  intro k
  induction k with
  | zero =>
    intro x3 x4 S
    exact h_none
  | succ k ih =>
    intro x3 x4 S
    rw [f0_addClass_l129]
    refine h_iload X dX0_addClass_129 rfl ?_
    refine h_aload_n X dX0_addClass_131 rfl rfl ?_
    refine c_g_RD_methods X fl0_93 dX0_addClass_132 ?_
    refine kt2_size_1 hsf X tlX0_61 ⟨Nat.le_of_ble_eq_true rfl, Nat.le_of_ble_eq_true rfl⟩ (Nat.le_of_ble_eq_true rfl) dX0_addClass_135 ?_
    intro v1 S1
    refine h_icmp_ge (tgt := 219) X dX0_addClass_138 (by decide) ?_ ?_
    · refine h_iconst (v := (nI 0)) X dX0_addClass_219 (by decide) ?_
      refine h_istore (lv' := [(4, .int (nI 0)), (0, .ref (q 53)), (2, .ref (q 51)), (3, .int x3)]) X dX0_addClass_220 (by decide) rfl ?_
      exact h_pick [1, 2, 3, 0] rfl (w0_addClass_l222 hsf X n n x3 (nI 0) S1)
    · refine h_aload_n X dX0_addClass_141 rfl rfl ?_
      refine c_g_RD_methods X fl0_93 dX0_addClass_142 ?_
      refine h_iload X dX0_addClass_145 rfl ?_
      refine h_iconst (v := (nI 0)) X dX0_addClass_147 (by decide) ?_
      refine kt2_get_1 hsf X tlX0_57 ⟨Nat.le_of_ble_eq_true rfl, Nat.le_of_ble_eq_true rfl⟩ (Nat.le_of_ble_eq_true rfl) dX0_addClass_148 ?_
      intro v2 S2
      refine h_istore (lv' := [(5, .int v2), (0, .ref (q 53)), (2, .ref (q 51)), (3, .int x3), (4, .int x4)]) X dX0_addClass_151 (by decide) rfl ?_
      refine h_aload_n X dX0_addClass_153 rfl rfl ?_
      refine c_g_IM_editions X fl0_20 dX0_addClass_154 ?_
      refine h_iload_n X dX0_addClass_157 rfl rfl ?_
      refine h_bipush (v := (nI 9)) X dX0_addClass_158 (by decide) ?_
      refine h_iload X dX0_addClass_160 rfl ?_
      refine h_iadd X dX0_addClass_162 ?_
      refine h_iload_n X dX0_addClass_163 rfl rfl ?_
      refine kt2_set_6 hsf X tlX0_68 ⟨Nat.le_of_ble_eq_true rfl, Nat.le_of_ble_eq_true rfl⟩ (Nat.le_of_ble_eq_true rfl) dX0_addClass_164 ?_
      intro v3 S3
      refine h_aload_n X dX0_addClass_167 rfl rfl ?_
      refine c_g_IM_editions X fl0_20 dX0_addClass_168 ?_
      refine h_iload_n X dX0_addClass_171 rfl rfl ?_
      refine h_bipush (v := (nI 14)) X dX0_addClass_172 (by decide) ?_
      refine h_iload X dX0_addClass_174 rfl ?_
      refine h_iadd X dX0_addClass_176 ?_
      refine h_aload_n X dX0_addClass_177 rfl rfl ?_
      refine c_g_RD_methods X fl0_93 dX0_addClass_178 ?_
      refine h_iload X dX0_addClass_181 rfl ?_
      refine h_iconst (v := (nI 1)) X dX0_addClass_183 (by decide) ?_
      refine kt2_get_1 hsf X tlX0_57 ⟨Nat.le_of_ble_eq_true rfl, Nat.le_of_ble_eq_true rfl⟩ (Nat.le_of_ble_eq_true rfl) dX0_addClass_184 ?_
      intro v4 S4
      refine kt2_set_6 hsf X tlX0_68 ⟨Nat.le_of_ble_eq_true rfl, Nat.le_of_ble_eq_true rfl⟩ (Nat.le_of_ble_eq_true rfl) dX0_addClass_187 ?_
      intro v5 S5
      refine h_aload_n X dX0_addClass_190 rfl rfl ?_
      refine c_g_IM_editions X fl0_20 dX0_addClass_191 ?_
      refine h_iload_n X dX0_addClass_194 rfl rfl ?_
      refine h_bipush (v := (nI 19)) X dX0_addClass_195 (by decide) ?_
      refine h_iload X dX0_addClass_197 rfl ?_
      refine h_iadd X dX0_addClass_199 ?_
      refine h_aload_n X dX0_addClass_200 rfl rfl ?_
      refine c_g_RD_methods X fl0_93 dX0_addClass_201 ?_
      refine h_iload X dX0_addClass_204 rfl ?_
      refine h_iconst (v := (nI 2)) X dX0_addClass_206 (by decide) ?_
      refine kt2_get_1 hsf X tlX0_57 ⟨Nat.le_of_ble_eq_true rfl, Nat.le_of_ble_eq_true rfl⟩ (Nat.le_of_ble_eq_true rfl) dX0_addClass_207 ?_
      intro v6 S6
      refine kt2_set_6 hsf X tlX0_68 ⟨Nat.le_of_ble_eq_true rfl, Nat.le_of_ble_eq_true rfl⟩ (Nat.le_of_ble_eq_true rfl) dX0_addClass_210 ?_
      intro v7 S7
      refine h_iinc (v := (nI 1)) (lv' := [(4, .int (x4 + (nI 1))), (5, .int v2), (0, .ref (q 53)), (2, .ref (q 51)), (3, .int x3)]) X dX0_addClass_213 rfl (by decide) (by decide) rfl ?_
      refine h_goto (tgt := 129) X dX0_addClass_216 (by decide) ?_
      exact h_pick [2, 3, 4, 0] rfl (ih x3 (x4 + (nI 1)) S7)
def f0_addClass_l59 (n : Nat) : Nat → Int32 → Int32 → CS → Option (Int32 × CS)
  | 0, _, _, _ => none
  | k + 1, x3, x4, S => bT 0 S (f2_size n (tOf 0 S)) fun v1 S1 =>
    if v1 ≤ x4 then
      (f0_addClass_l129 n n x3 (nI 0) S1)
    else
      (bT 0 S1 (f2_get n x4 (nI 0) (tOf 0 S1)) fun v2 S2 =>
      bT 6 S2 (f2_set n x3 ((nI 24) + v2) (nI 1) (tOf 6 S2)) fun _ S3 =>
      bT 0 S3 (f2_get n x4 (nI 1) (tOf 0 S3)) fun v4 S4 =>
      bT 6 S4 (f2_set n x3 ((nI 34) + v2) v4 (tOf 6 S4)) fun _ S5 =>
      (f0_addClass_l59 n k) x3 (x4 + (nI 1)) S5)
theorem mw0_addClass_l59 (n : Nat) : ∀ (k : Nat) (x3 : Int32) (x4 : Int32) (S : CS), mo S (f0_addClass_l59 n k x3 x4 S) := by
  intro k
  induction k with
  | zero =>
    intro x3 x4 S
    exact m_none
  | succ k ih =>
    intro x3 x4 S
    rw [f0_addClass_l59]
    refine m_bT (mo2_size _ _) (fun v1 S1 => ?_)
    refine m_ite ?_ ?_
    · exact mw0_addClass_l129 n n x3 (nI 0) S1
    · refine m_bT (mo2_get _ _ _ _) (fun v2 S2 => ?_)
      refine m_bT (mo2_set _ _ _ _ _) (fun v3 S3 => ?_)
      refine m_bT (mo2_get _ _ _ _) (fun v4 S4 => ?_)
      refine m_bT (mo2_set _ _ _ _ _) (fun v5 S5 => ?_)
      exact ih x3 (x4 + (nI 1)) S5
theorem w0_addClass_l59 (hsf : sfOk (SF tk)) (X : hX p s m args meth c cX0_addClass 6 RX0 (some .int) D (tyC cI) (SF tk) A) (n : Nat) : ∀ (k : Nat) (x3 : Int32) (x4 : Int32) (S : CS), hG p l e (fun r => rmC 4 91 (cS r.2 - cS S0) (sS r.2 - sS S0)) s m args below meth c 6 (ZW D (wC cI q) A s.heap S0 S) (cS S - cS S0) (sS S - sS S0) (fun r => MQ below (QWi D (tyC cI) (wC cI q) A r) args s (cS r.2 - cS S0) (sS r.2 - sS S0) A) (fun r => le S r.2) 59 [(0, .ref (q 53)), (2, .ref (q 51)), (3, .int x3), (4, .int x4)] [] (f0_addClass_l59 n k x3 x4 S) := by
  intro k
  induction k with
  | zero =>
    intro x3 x4 S
    exact h_none
  | succ k ih =>
    intro x3 x4 S
    rw [f0_addClass_l59]
    refine h_iload X dX0_addClass_59 rfl ?_
    refine h_aload_n X dX0_addClass_61 rfl rfl ?_
    refine c_g_RD_fields X fl0_90 dX0_addClass_62 ?_
    refine kt2_size_0 hsf X tlX0_61 ⟨Nat.le_of_ble_eq_true rfl, Nat.le_of_ble_eq_true rfl⟩ (Nat.le_of_ble_eq_true rfl) dX0_addClass_65 ?_
    intro v1 S1
    refine h_icmp_ge (tgt := 126) X dX0_addClass_68 (by decide) ?_ ?_
    · refine h_iconst (v := (nI 0)) X dX0_addClass_126 (by decide) ?_
      refine h_istore (lv' := [(4, .int (nI 0)), (0, .ref (q 53)), (2, .ref (q 51)), (3, .int x3)]) X dX0_addClass_127 (by decide) rfl ?_
      exact h_pick [1, 2, 3, 0] rfl (w0_addClass_l129 hsf X n n x3 (nI 0) S1)
    · refine h_aload_n X dX0_addClass_71 rfl rfl ?_
      refine c_g_RD_fields X fl0_90 dX0_addClass_72 ?_
      refine h_iload X dX0_addClass_75 rfl ?_
      refine h_iconst (v := (nI 0)) X dX0_addClass_77 (by decide) ?_
      refine kt2_get_0 hsf X tlX0_57 ⟨Nat.le_of_ble_eq_true rfl, Nat.le_of_ble_eq_true rfl⟩ (Nat.le_of_ble_eq_true rfl) dX0_addClass_78 ?_
      intro v2 S2
      refine h_istore (lv' := [(5, .int v2), (0, .ref (q 53)), (2, .ref (q 51)), (3, .int x3), (4, .int x4)]) X dX0_addClass_81 (by decide) rfl ?_
      refine h_aload_n X dX0_addClass_83 rfl rfl ?_
      refine c_g_IM_editions X fl0_20 dX0_addClass_84 ?_
      refine h_iload_n X dX0_addClass_87 rfl rfl ?_
      refine h_bipush (v := (nI 24)) X dX0_addClass_88 (by decide) ?_
      refine h_iload X dX0_addClass_90 rfl ?_
      refine h_iadd X dX0_addClass_92 ?_
      refine h_iconst (v := (nI 1)) X dX0_addClass_93 (by decide) ?_
      refine kt2_set_6 hsf X tlX0_68 ⟨Nat.le_of_ble_eq_true rfl, Nat.le_of_ble_eq_true rfl⟩ (Nat.le_of_ble_eq_true rfl) dX0_addClass_94 ?_
      intro v3 S3
      refine h_aload_n X dX0_addClass_97 rfl rfl ?_
      refine c_g_IM_editions X fl0_20 dX0_addClass_98 ?_
      refine h_iload_n X dX0_addClass_101 rfl rfl ?_
      refine h_bipush (v := (nI 34)) X dX0_addClass_102 (by decide) ?_
      refine h_iload X dX0_addClass_104 rfl ?_
      refine h_iadd X dX0_addClass_106 ?_
      refine h_aload_n X dX0_addClass_107 rfl rfl ?_
      refine c_g_RD_fields X fl0_90 dX0_addClass_108 ?_
      refine h_iload X dX0_addClass_111 rfl ?_
      refine h_iconst (v := (nI 1)) X dX0_addClass_113 (by decide) ?_
      refine kt2_get_0 hsf X tlX0_57 ⟨Nat.le_of_ble_eq_true rfl, Nat.le_of_ble_eq_true rfl⟩ (Nat.le_of_ble_eq_true rfl) dX0_addClass_114 ?_
      intro v4 S4
      refine kt2_set_6 hsf X tlX0_68 ⟨Nat.le_of_ble_eq_true rfl, Nat.le_of_ble_eq_true rfl⟩ (Nat.le_of_ble_eq_true rfl) dX0_addClass_117 ?_
      intro v5 S5
      refine h_iinc (v := (nI 1)) (lv' := [(4, .int (x4 + (nI 1))), (5, .int v2), (0, .ref (q 53)), (2, .ref (q 51)), (3, .int x3)]) X dX0_addClass_120 rfl (by decide) (by decide) rfl ?_
      refine h_goto (tgt := 59) X dX0_addClass_123 (by decide) ?_
      exact h_pick [2, 3, 4, 0] rfl (ih x3 (x4 + (nI 1)) S5)
theorem tlX0_87 : Cond.methodLink RX0 87 yX0_inherit ∈ tt := tt_in (List.mem_of_getElem? (i := 465) (by decide +kernel)) (by decide +kernel)
def f0_addClass (n : Nat) (x1 : Int32) (S : CS) : Option (Int32 × CS) :=
    bnd (f0_addEdition n x1 S) fun v1 S1 =>
    cg S1 8 fun v2 =>
    bT 6 S1 (f2_set n v1 (nI 5) v2 (tOf 6 S1)) fun _ S3 =>
    cg S3 9 fun v4 =>
    bT 6 S3 (f2_set n v1 (nI 7) v4 (tOf 6 S3)) fun _ S5 =>
    cg S5 6 fun v6 =>
    bT 6 S5 (f2_set n v1 (nI 8) v6 (tOf 6 S5)) fun _ S7 =>
    cg S7 8 fun v8 =>
    bnd (f0_inherit n v1 v8 S7) fun _ S9 =>
    f0_addClass_l59 n n v1 (nI 0) S9
theorem w0_addClass (hsf : sfOk (SF tk)) (X : hX p s m args meth c cX0_addClass 6 RX0 (some .int) D (tyC cI) (SF tk) A) {S0 : CS} (n : Nat) (x1 : Int32) (S : CS) : hG p l e (fun r => rmC 4 91 (cS r.2 - cS S0) (sS r.2 - sS S0)) s m args below meth c 6 (ZW D (wC cI q) A s.heap S0 S) (cS S - cS S0) (sS S - sS S0) (fun r => MQ below (QWi D (tyC cI) (wC cI q) A r) args s (cS r.2 - cS S0) (sS r.2 - sS S0) A) (fun r => le S r.2) 0 [(0, .ref (q 53)), (1, .int x1), (2, .ref (q 51))] [] (f0_addClass n x1 S) := by
    unfold f0_addClass
    refine h_aload_n X dX0_addClass_0 rfl rfl ?_
    refine h_iload_n X dX0_addClass_1 rfl rfl ?_
    refine k0_addEdition hsf X tlX0_72 ⟨Nat.le_of_ble_eq_true rfl, Nat.le_of_ble_eq_true rfl⟩ (Nat.le_of_ble_eq_true rfl) dX0_addClass_2 ?_
    intro v1 S1
    refine h_istore_n (lv' := [(3, .int v1), (0, .ref (q 53)), (1, .int x1), (2, .ref (q 51))]) X dX0_addClass_5 rfl (by decide) rfl ?_
    refine h_aload_n X dX0_addClass_6 rfl rfl ?_
    refine c_g_IM_editions X fl0_20 dX0_addClass_7 ?_
    refine h_iload_n X dX0_addClass_10 rfl rfl ?_
    refine h_iconst (v := (nI 5)) X dX0_addClass_11 (by decide) ?_
    refine h_aload_n X dX0_addClass_12 rfl rfl ?_
    refine c_g_RD_parent X fl0_75 dX0_addClass_13 ?_
    intro v2
    refine kt2_set_6 hsf X tlX0_68 ⟨Nat.le_of_ble_eq_true rfl, Nat.le_of_ble_eq_true rfl⟩ (Nat.le_of_ble_eq_true rfl) dX0_addClass_16 ?_
    intro v3 S3
    refine h_aload_n X dX0_addClass_19 rfl rfl ?_
    refine c_g_IM_editions X fl0_20 dX0_addClass_20 ?_
    refine h_iload_n X dX0_addClass_23 rfl rfl ?_
    refine h_bipush (v := (nI 7)) X dX0_addClass_24 (by decide) ?_
    refine h_aload_n X dX0_addClass_26 rfl rfl ?_
    refine c_g_RD_startFrom X fl0_81 dX0_addClass_27 ?_
    intro v4
    refine kt2_set_6 hsf X tlX0_68 ⟨Nat.le_of_ble_eq_true rfl, Nat.le_of_ble_eq_true rfl⟩ (Nat.le_of_ble_eq_true rfl) dX0_addClass_30 ?_
    intro v5 S5
    refine h_aload_n X dX0_addClass_33 rfl rfl ?_
    refine c_g_IM_editions X fl0_20 dX0_addClass_34 ?_
    refine h_iload_n X dX0_addClass_37 rfl rfl ?_
    refine h_bipush (v := (nI 8)) X dX0_addClass_38 (by decide) ?_
    refine h_aload_n X dX0_addClass_40 rfl rfl ?_
    refine c_g_RD_length X fl0_84 dX0_addClass_41 ?_
    intro v6
    refine kt2_set_6 hsf X tlX0_68 ⟨Nat.le_of_ble_eq_true rfl, Nat.le_of_ble_eq_true rfl⟩ (Nat.le_of_ble_eq_true rfl) dX0_addClass_44 ?_
    intro v7 S7
    refine h_aload_n X dX0_addClass_47 rfl rfl ?_
    refine h_iload_n X dX0_addClass_48 rfl rfl ?_
    refine h_aload_n X dX0_addClass_49 rfl rfl ?_
    refine c_g_RD_parent X fl0_75 dX0_addClass_50 ?_
    intro v8
    refine k0_inherit hsf X tlX0_87 ⟨Nat.le_of_ble_eq_true rfl, Nat.le_of_ble_eq_true rfl⟩ (Nat.le_of_ble_eq_true rfl) dX0_addClass_53 ?_
    intro v9 S9
    refine h_iconst (v := (nI 0)) X dX0_addClass_56 (by decide) ?_
    refine h_istore (lv' := [(4, .int (nI 0)), (3, .int v1), (0, .ref (q 53)), (1, .int x1), (2, .ref (q 51))]) X dX0_addClass_57 (by decide) rfl ?_
    exact h_pick [2, 4, 1, 0] rfl (w0_addClass_l59 hsf X n n v1 (nI 0) S9)
theorem mo0_addClass (n : Nat) (x1 : Int32) (S : CS) : mo S (f0_addClass n x1 S) := by
    unfold f0_addClass
    refine m_bnd (mo0_addEdition _ _ _) (fun v1 S1 => ?_)
    refine m_cg (fun v2 => ?_)
    refine m_bT (mo2_set _ _ _ _ _) (fun v3 S3 => ?_)
    refine m_cg (fun v4 => ?_)
    refine m_bT (mo2_set _ _ _ _ _) (fun v5 S5 => ?_)
    refine m_cg (fun v6 => ?_)
    refine m_bT (mo2_set _ _ _ _ _) (fun v7 S7 => ?_)
    refine m_cg (fun v8 => ?_)
    refine m_bnd (mo0_inherit _ _ _ _) (fun v9 S9 => ?_)
    exact mw0_addClass_l59 n n v1 (nI 0) S9
theorem c0_addClass (hsf : sfOk (SF tk)) (l : Launch) (D : va_G) (cI : ClassId) (q : Nat → Nat) (n : Nat) (x1 : Int32) (S : CS) : MetW l D (tyC cI) (SF tk) (wC cI q) yX0_addClass cX0_addClass 6 (some .int) 4 91 QWi [.ref (q 53), .int x1, .ref (q 51)] S (f0_addClass n x1 S) := by
  refine MetW.of (own := RX0) (by decide) rfl (Nat.le_of_ble_eq_true rfl) (mo0_addClass n x1 S) ?_
  intro x p e s m args below meth c X
  refine h_pick (lv' := [(0, .ref (q 53)), (1, .int x1), (2, .ref (q 51))]) [0, 1, 2] rfl ?_
  exact h_close (w0_addClass hsf X n x1 S)
theorem tc0_addClass : Cond.code yX0_addClass cX0_addClass 6 (some .int) ∈ tt := tt_in (List.mem_of_getElem? (i := 460) (by decide +kernel)) (by decide +kernel)
theorem ti0_addClass : Cond.instanceMethod yX0_addClass ∈ tt := tt_in (List.mem_of_getElem? (i := 458) (by decide +kernel)) (by decide +kernel)
theorem te0_addClass : Cond.selects RX0 yX0_addClass yX0_addClass ∈ tt := tt_in (List.mem_of_getElem? (i := 459) (by decide +kernel)) (by decide +kernel)
theorem k0_addClass (hsf : sfOk (SF tk)) (X : hX p s m args meth c cc nL own rt D (tyC cI) (SF tk) A) {n : Nat} {x1 : Int32} {ix : Nat} (hlk : Cond.methodLink own ix yX0_addClass ∈ tt) {rest : List Value} {K : Int32 → CS → Option (ρ × CS)} (hR : 4 + 1 ≤ fr ∧ 8 + (6 + 11) + 91 ≤ lo) (hcat : (rest.map fun v => v.category).sum ≤ 8) (d : decode cc pc = .ok (.invokevirtual ix, 3)) (kk : ∀ v S1, hG p l e (fun r => rmC fr lo (cS r.2 - cS S0) (sS r.2 - sS S0)) s m args below meth c nL (ZW D (wC cI q) A s.heap S0 S1) (cS S1 - cS S0) (sS S1 - sS S0) QQ (fun r => le S1 r.2) (pc + 3) lv (.int v :: rest) (K v S1)) : hG p l e (fun r => rmC fr lo (cS r.2 - cS S0) (sS r.2 - sS S0)) s m args below meth c nL (ZW D (wC cI q) A s.heap S0 S) (cS S - cS S0) (sS S - sS S0) QQ (fun r => le S r.2) pc lv (.ref (q 51) :: .int x1 :: .ref (q 53) :: rest) (bnd (f0_addClass n x1 S) K) := h_callVi (As := [.int x1, .ref (q 51)]) (b := q 53) (C := RX0) hsf X (c0_addClass hsf l D cI q n x1 S) (cwVC (k := 2) X.1.2.2.2.2.1 hlk ti0_addClass te0_addClass tc0_addClass ini_0 (by decide +kernel) hR) (fun x H h1 h2 => va_recv h1 h2 (ci := 0) (q0 := 9) rfl rfl) rfl rfl hcat d kk
-- X0.countOlder
def f0_countOlder_b44 (n : Nat) (k4 : Int32 → Int32 → Int32 → CS → Option (Int32 × CS)) (x1 : Int32) (x2 : Int32) (x3 : Int32) (S : CS) : Option (Int32 × CS) :=
    k4 x1 x2 (x3 + (nI 1)) S
theorem mw0_countOlder_b44 (n : Nat) (k4 : Int32 → Int32 → Int32 → CS → Option (Int32 × CS)) (mhk4 : ∀ (x1 : Int32) (x2 : Int32) (x3 : Int32) (S : CS), mo S (k4 x1 x2 x3 S)) (x1 : Int32) (x2 : Int32) (x3 : Int32) (S : CS) : mo S (f0_countOlder_b44 n k4 x1 x2 x3 S) := by
  unfold f0_countOlder_b44
  exact mhk4 x1 x2 (x3 + (nI 1)) S
theorem w0_countOlder_b44 (hsf : sfOk (SF tk)) (X : hX p s m args meth c cX0_countOlder 4 RX0 (some .int) D (tyC cI) (SF tk) A) (n : Nat) (k4 : Int32 → Int32 → Int32 → CS → Option (Int32 × CS)) (hk4 : ∀ (x1 : Int32) (x2 : Int32) (x3 : Int32) (S : CS), hG p l e (fun r => rmC 1 23 (cS r.2 - cS S0) (sS r.2 - sS S0)) s m args below meth c 4 (ZW D (wC cI q) A s.heap S0 S) (cS S - cS S0) (sS S - sS S0) (fun r => MQ below (QWi D (tyC cI) (wC cI q) A r) args s (cS r.2 - cS S0) (sS r.2 - sS S0) A) (fun r => le S r.2) 4 [(0, .ref (q 53)), (1, .int x1), (2, .int x2), (3, .int x3)] [] (k4 x1 x2 x3 S)) (x1 : Int32) (x2 : Int32) (x3 : Int32) (S : CS) : hG p l e (fun r => rmC 1 23 (cS r.2 - cS S0) (sS r.2 - sS S0)) s m args below meth c 4 (ZW D (wC cI q) A s.heap S0 S) (cS S - cS S0) (sS S - sS S0) (fun r => MQ below (QWi D (tyC cI) (wC cI q) A r) args s (cS r.2 - cS S0) (sS r.2 - sS S0) A) (fun r => le S r.2) 44 [(0, .ref (q 53)), (1, .int x1), (2, .int x2), (3, .int x3)] [] (f0_countOlder_b44 n k4 x1 x2 x3 S) := by
  unfold f0_countOlder_b44
  refine h_iinc (v := (nI 1)) (lv' := [(3, .int (x3 + (nI 1))), (0, .ref (q 53)), (1, .int x1), (2, .int x2)]) X dX0_countOlder_44 rfl (by decide) (by decide) rfl ?_
  refine h_goto (tgt := 4) X dX0_countOlder_47 (by decide) ?_
  exact h_pick [1, 2, 3, 0] rfl (hk4 x1 x2 (x3 + (nI 1)) S)
def f0_countOlder_l4 (n : Nat) : Nat → Int32 → Int32 → Int32 → CS → Option (Int32 × CS)
  | 0, _, _, _, _ => none
  | k + 1, x1, x2, x3, S => if x1 ≤ x3 then
      (some (x2, S))
    else
      (bT 6 S (f2_size n (tOf 6 S)) fun v1 S1 =>
      if v1 ≤ x3 then
        (some (x2, S1))
      else
        (bT 6 S1 (f2_get n x3 (nI 0) (tOf 6 S1)) fun v2 S2 =>
        bT 6 S2 (f2_get n x1 (nI 0) (tOf 6 S2)) fun v3 S3 =>
        if v2 = v3 then
          (f0_countOlder_b44 n (f0_countOlder_l4 n k) x1 (x2 + (nI 1)) x3 S3)
        else
          (f0_countOlder_b44 n (f0_countOlder_l4 n k) x1 x2 x3 S3)))
theorem mw0_countOlder_l4 (n : Nat) : ∀ (k : Nat) (x1 : Int32) (x2 : Int32) (x3 : Int32) (S : CS), mo S (f0_countOlder_l4 n k x1 x2 x3 S) := by
  intro k
  induction k with
  | zero =>
    intro x1 x2 x3 S
    exact m_none
  | succ k ih =>
    intro x1 x2 x3 S
    rw [f0_countOlder_l4]
    refine m_ite ?_ ?_
    · exact m_some
    · refine m_bT (mo2_size _ _) (fun v1 S1 => ?_)
      refine m_ite ?_ ?_
      · exact m_some
      · refine m_bT (mo2_get _ _ _ _) (fun v2 S2 => ?_)
        refine m_bT (mo2_get _ _ _ _) (fun v3 S3 => ?_)
        refine m_ite ?_ ?_
        · exact mw0_countOlder_b44 n (f0_countOlder_l4 n k) ih x1 (x2 + (nI 1)) x3 S3
        · exact mw0_countOlder_b44 n (f0_countOlder_l4 n k) ih x1 x2 x3 S3
theorem w0_countOlder_l4 (hsf : sfOk (SF tk)) (X : hX p s m args meth c cX0_countOlder 4 RX0 (some .int) D (tyC cI) (SF tk) A) (n : Nat) : ∀ (k : Nat) (x1 : Int32) (x2 : Int32) (x3 : Int32) (S : CS), hG p l e (fun r => rmC 1 23 (cS r.2 - cS S0) (sS r.2 - sS S0)) s m args below meth c 4 (ZW D (wC cI q) A s.heap S0 S) (cS S - cS S0) (sS S - sS S0) (fun r => MQ below (QWi D (tyC cI) (wC cI q) A r) args s (cS r.2 - cS S0) (sS r.2 - sS S0) A) (fun r => le S r.2) 4 [(0, .ref (q 53)), (1, .int x1), (2, .int x2), (3, .int x3)] [] (f0_countOlder_l4 n k x1 x2 x3 S) := by
  intro k
  induction k with
  | zero =>
    intro x1 x2 x3 S
    exact h_none
  | succ k ih =>
    intro x1 x2 x3 S
    rw [f0_countOlder_l4]
    refine h_iload_n X dX0_countOlder_4 rfl rfl ?_
    refine h_iload_n X dX0_countOlder_5 rfl rfl ?_
    refine h_icmp_ge (tgt := 50) X dX0_countOlder_6 (by decide) ?_ ?_
    · refine h_iload_n X dX0_countOlder_50 rfl rfl ?_
      exact h_iret X dX0_countOlder_51
    · refine h_iload_n X dX0_countOlder_9 rfl rfl ?_
      refine h_aload_n X dX0_countOlder_10 rfl rfl ?_
      refine c_g_IM_editions X fl0_20 dX0_countOlder_11 ?_
      refine kt2_size_6 hsf X tlX0_61 ⟨Nat.le_of_ble_eq_true rfl, Nat.le_of_ble_eq_true rfl⟩ (Nat.le_of_ble_eq_true rfl) dX0_countOlder_14 ?_
      intro v1 S1
      refine h_icmp_ge (tgt := 50) X dX0_countOlder_17 (by decide) ?_ ?_
      · refine h_iload_n X dX0_countOlder_50 rfl rfl ?_
        exact h_iret X dX0_countOlder_51
      · refine h_aload_n X dX0_countOlder_20 rfl rfl ?_
        refine c_g_IM_editions X fl0_20 dX0_countOlder_21 ?_
        refine h_iload_n X dX0_countOlder_24 rfl rfl ?_
        refine h_iconst (v := (nI 0)) X dX0_countOlder_25 (by decide) ?_
        refine kt2_get_6 hsf X tlX0_57 ⟨Nat.le_of_ble_eq_true rfl, Nat.le_of_ble_eq_true rfl⟩ (Nat.le_of_ble_eq_true rfl) dX0_countOlder_26 ?_
        intro v2 S2
        refine h_aload_n X dX0_countOlder_29 rfl rfl ?_
        refine c_g_IM_editions X fl0_20 dX0_countOlder_30 ?_
        refine h_iload_n X dX0_countOlder_33 rfl rfl ?_
        refine h_iconst (v := (nI 0)) X dX0_countOlder_34 (by decide) ?_
        refine kt2_get_6 hsf X tlX0_57 ⟨Nat.le_of_ble_eq_true rfl, Nat.le_of_ble_eq_true rfl⟩ (Nat.le_of_ble_eq_true rfl) dX0_countOlder_35 ?_
        intro v3 S3
        refine h_icmp_ne (tgt := 44) X dX0_countOlder_38 (by decide) ?_ ?_
        · exact h_pick [0, 1, 2, 3] rfl (w0_countOlder_b44 hsf X n (f0_countOlder_l4 n k) ih x1 x2 x3 S3)
        · refine h_iinc (v := (nI 1)) (lv' := [(2, .int (x2 + (nI 1))), (0, .ref (q 53)), (1, .int x1), (3, .int x3)]) X dX0_countOlder_41 rfl (by decide) (by decide) rfl ?_
          exact h_pick [1, 2, 0, 3] rfl (w0_countOlder_b44 hsf X n (f0_countOlder_l4 n k) ih x1 (x2 + (nI 1)) x3 S3)
def f0_countOlder (n : Nat) (x1 : Int32) (S : CS) : Option (Int32 × CS) :=
    f0_countOlder_l4 n n x1 (nI 0) (nI 0) S
theorem w0_countOlder (hsf : sfOk (SF tk)) (X : hX p s m args meth c cX0_countOlder 4 RX0 (some .int) D (tyC cI) (SF tk) A) {S0 : CS} (n : Nat) (x1 : Int32) (S : CS) : hG p l e (fun r => rmC 1 23 (cS r.2 - cS S0) (sS r.2 - sS S0)) s m args below meth c 4 (ZW D (wC cI q) A s.heap S0 S) (cS S - cS S0) (sS S - sS S0) (fun r => MQ below (QWi D (tyC cI) (wC cI q) A r) args s (cS r.2 - cS S0) (sS r.2 - sS S0) A) (fun r => le S r.2) 0 [(0, .ref (q 53)), (1, .int x1)] [] (f0_countOlder n x1 S) := by
    unfold f0_countOlder
    refine h_iconst (v := (nI 0)) X dX0_countOlder_0 (by decide) ?_
    refine h_istore_n (lv' := [(2, .int (nI 0)), (0, .ref (q 53)), (1, .int x1)]) X dX0_countOlder_1 rfl (by decide) rfl ?_
    refine h_iconst (v := (nI 0)) X dX0_countOlder_2 (by decide) ?_
    refine h_istore_n (lv' := [(3, .int (nI 0)), (2, .int (nI 0)), (0, .ref (q 53)), (1, .int x1)]) X dX0_countOlder_3 rfl (by decide) rfl ?_
    exact h_pick [2, 3, 1, 0] rfl (w0_countOlder_l4 hsf X n n x1 (nI 0) (nI 0) S)
theorem mo0_countOlder (n : Nat) (x1 : Int32) (S : CS) : mo S (f0_countOlder n x1 S) := by
    unfold f0_countOlder
    exact mw0_countOlder_l4 n n x1 (nI 0) (nI 0) S
theorem c0_countOlder (hsf : sfOk (SF tk)) (l : Launch) (D : va_G) (cI : ClassId) (q : Nat → Nat) (n : Nat) (x1 : Int32) (S : CS) : MetW l D (tyC cI) (SF tk) (wC cI q) yX0_countOlder cX0_countOlder 4 (some .int) 1 23 QWi [.ref (q 53), .int x1] S (f0_countOlder n x1 S) := by
  refine MetW.of (own := RX0) (by decide) rfl (Nat.le_of_ble_eq_true rfl) (mo0_countOlder n x1 S) ?_
  intro x p e s m args below meth c X
  refine h_pick (lv' := [(0, .ref (q 53)), (1, .int x1)]) [0, 1] rfl ?_
  exact h_close (w0_countOlder hsf X n x1 S)
theorem tc0_countOlder : Cond.code yX0_countOlder cX0_countOlder 4 (some .int) ∈ tt := tt_in (List.mem_of_getElem? (i := 700) (by decide +kernel)) (by decide +kernel)
theorem ti0_countOlder : Cond.instanceMethod yX0_countOlder ∈ tt := tt_in (List.mem_of_getElem? (i := 698) (by decide +kernel)) (by decide +kernel)
theorem te0_countOlder : Cond.selects RX0 yX0_countOlder yX0_countOlder ∈ tt := tt_in (List.mem_of_getElem? (i := 699) (by decide +kernel)) (by decide +kernel)
theorem k0_countOlder (hsf : sfOk (SF tk)) (X : hX p s m args meth c cc nL own rt D (tyC cI) (SF tk) A) {n : Nat} {x1 : Int32} {ix : Nat} (hlk : Cond.methodLink own ix yX0_countOlder ∈ tt) {rest : List Value} {K : Int32 → CS → Option (ρ × CS)} (hR : 1 + 1 ≤ fr ∧ 8 + (4 + 11) + 23 ≤ lo) (hcat : (rest.map fun v => v.category).sum ≤ 8) (d : decode cc pc = .ok (.invokevirtual ix, 3)) (kk : ∀ v S1, hG p l e (fun r => rmC fr lo (cS r.2 - cS S0) (sS r.2 - sS S0)) s m args below meth c nL (ZW D (wC cI q) A s.heap S0 S1) (cS S1 - cS S0) (sS S1 - sS S0) QQ (fun r => le S1 r.2) (pc + 3) lv (.int v :: rest) (K v S1)) : hG p l e (fun r => rmC fr lo (cS r.2 - cS S0) (sS r.2 - sS S0)) s m args below meth c nL (ZW D (wC cI q) A s.heap S0 S) (cS S - cS S0) (sS S - sS S0) QQ (fun r => le S r.2) pc lv (.int x1 :: .ref (q 53) :: rest) (bnd (f0_countOlder n x1 S) K) := h_callVi (As := [.int x1]) (b := q 53) (C := RX0) hsf X (c0_countOlder hsf l D cI q n x1 S) (cwVC (k := 1) X.1.2.2.2.2.1 hlk ti0_countOlder te0_countOlder tc0_countOlder ini_0 (by decide +kernel) hR) (fun x H h1 h2 => va_recv h1 h2 (ci := 0) (q0 := 9) rfl rfl) rfl rfl hcat d kk
-- X0.countMadeOf
def f0_countMadeOf_b31 (n : Nat) (k4 : Int32 → Int32 → Int32 → CS → Option (Int32 × CS)) (x1 : Int32) (x2 : Int32) (x3 : Int32) (S : CS) : Option (Int32 × CS) :=
    k4 x1 x2 (x3 + (nI 1)) S
theorem mw0_countMadeOf_b31 (n : Nat) (k4 : Int32 → Int32 → Int32 → CS → Option (Int32 × CS)) (mhk4 : ∀ (x1 : Int32) (x2 : Int32) (x3 : Int32) (S : CS), mo S (k4 x1 x2 x3 S)) (x1 : Int32) (x2 : Int32) (x3 : Int32) (S : CS) : mo S (f0_countMadeOf_b31 n k4 x1 x2 x3 S) := by
  unfold f0_countMadeOf_b31
  exact mhk4 x1 x2 (x3 + (nI 1)) S
theorem w0_countMadeOf_b31 (hsf : sfOk (SF tk)) (X : hX p s m args meth c cX0_countMadeOf 4 RX0 (some .int) D (tyC cI) (SF tk) A) (n : Nat) (k4 : Int32 → Int32 → Int32 → CS → Option (Int32 × CS)) (hk4 : ∀ (x1 : Int32) (x2 : Int32) (x3 : Int32) (S : CS), hG p l e (fun r => rmC 1 23 (cS r.2 - cS S0) (sS r.2 - sS S0)) s m args below meth c 4 (ZW D (wC cI q) A s.heap S0 S) (cS S - cS S0) (sS S - sS S0) (fun r => MQ below (QWi D (tyC cI) (wC cI q) A r) args s (cS r.2 - cS S0) (sS r.2 - sS S0) A) (fun r => le S r.2) 4 [(0, .ref (q 53)), (1, .int x1), (2, .int x2), (3, .int x3)] [] (k4 x1 x2 x3 S)) (x1 : Int32) (x2 : Int32) (x3 : Int32) (S : CS) : hG p l e (fun r => rmC 1 23 (cS r.2 - cS S0) (sS r.2 - sS S0)) s m args below meth c 4 (ZW D (wC cI q) A s.heap S0 S) (cS S - cS S0) (sS S - sS S0) (fun r => MQ below (QWi D (tyC cI) (wC cI q) A r) args s (cS r.2 - cS S0) (sS r.2 - sS S0) A) (fun r => le S r.2) 31 [(0, .ref (q 53)), (1, .int x1), (2, .int x2), (3, .int x3)] [] (f0_countMadeOf_b31 n k4 x1 x2 x3 S) := by
  unfold f0_countMadeOf_b31
  refine h_iinc (v := (nI 1)) (lv' := [(3, .int (x3 + (nI 1))), (0, .ref (q 53)), (1, .int x1), (2, .int x2)]) X dX0_countMadeOf_31 rfl (by decide) (by decide) rfl ?_
  refine h_goto (tgt := 4) X dX0_countMadeOf_34 (by decide) ?_
  exact h_pick [1, 2, 3, 0] rfl (hk4 x1 x2 (x3 + (nI 1)) S)
def f0_countMadeOf_l4 (n : Nat) : Nat → Int32 → Int32 → Int32 → CS → Option (Int32 × CS)
  | 0, _, _, _, _ => none
  | k + 1, x1, x2, x3, S => bT 7 S (f2_size n (tOf 7 S)) fun v1 S1 =>
    if v1 ≤ x3 then
      (some (x2, S1))
    else
      (bT 7 S1 (f2_get n x3 (nI 0) (tOf 7 S1)) fun v2 S2 =>
      if v2 = x1 then
        (f0_countMadeOf_b31 n (f0_countMadeOf_l4 n k) x1 (x2 + (nI 1)) x3 S2)
      else
        (f0_countMadeOf_b31 n (f0_countMadeOf_l4 n k) x1 x2 x3 S2))
theorem mw0_countMadeOf_l4 (n : Nat) : ∀ (k : Nat) (x1 : Int32) (x2 : Int32) (x3 : Int32) (S : CS), mo S (f0_countMadeOf_l4 n k x1 x2 x3 S) := by
  intro k
  induction k with
  | zero =>
    intro x1 x2 x3 S
    exact m_none
  | succ k ih =>
    intro x1 x2 x3 S
    rw [f0_countMadeOf_l4]
    refine m_bT (mo2_size _ _) (fun v1 S1 => ?_)
    refine m_ite ?_ ?_
    · exact m_some
    · refine m_bT (mo2_get _ _ _ _) (fun v2 S2 => ?_)
      refine m_ite ?_ ?_
      · exact mw0_countMadeOf_b31 n (f0_countMadeOf_l4 n k) ih x1 (x2 + (nI 1)) x3 S2
      · exact mw0_countMadeOf_b31 n (f0_countMadeOf_l4 n k) ih x1 x2 x3 S2
theorem w0_countMadeOf_l4 (hsf : sfOk (SF tk)) (X : hX p s m args meth c cX0_countMadeOf 4 RX0 (some .int) D (tyC cI) (SF tk) A) (n : Nat) : ∀ (k : Nat) (x1 : Int32) (x2 : Int32) (x3 : Int32) (S : CS), hG p l e (fun r => rmC 1 23 (cS r.2 - cS S0) (sS r.2 - sS S0)) s m args below meth c 4 (ZW D (wC cI q) A s.heap S0 S) (cS S - cS S0) (sS S - sS S0) (fun r => MQ below (QWi D (tyC cI) (wC cI q) A r) args s (cS r.2 - cS S0) (sS r.2 - sS S0) A) (fun r => le S r.2) 4 [(0, .ref (q 53)), (1, .int x1), (2, .int x2), (3, .int x3)] [] (f0_countMadeOf_l4 n k x1 x2 x3 S) := by
  intro k
  induction k with
  | zero =>
    intro x1 x2 x3 S
    exact h_none
  | succ k ih =>
    intro x1 x2 x3 S
    rw [f0_countMadeOf_l4]
    refine h_iload_n X dX0_countMadeOf_4 rfl rfl ?_
    refine h_aload_n X dX0_countMadeOf_5 rfl rfl ?_
    refine c_g_IM_objects X fl0_23 dX0_countMadeOf_6 ?_
    refine kt2_size_7 hsf X tlX0_61 ⟨Nat.le_of_ble_eq_true rfl, Nat.le_of_ble_eq_true rfl⟩ (Nat.le_of_ble_eq_true rfl) dX0_countMadeOf_9 ?_
    intro v1 S1
    refine h_icmp_ge (tgt := 37) X dX0_countMadeOf_12 (by decide) ?_ ?_
    · refine h_iload_n X dX0_countMadeOf_37 rfl rfl ?_
      exact h_iret X dX0_countMadeOf_38
    · refine h_aload_n X dX0_countMadeOf_15 rfl rfl ?_
      refine c_g_IM_objects X fl0_23 dX0_countMadeOf_16 ?_
      refine h_iload_n X dX0_countMadeOf_19 rfl rfl ?_
      refine h_iconst (v := (nI 0)) X dX0_countMadeOf_20 (by decide) ?_
      refine kt2_get_7 hsf X tlX0_57 ⟨Nat.le_of_ble_eq_true rfl, Nat.le_of_ble_eq_true rfl⟩ (Nat.le_of_ble_eq_true rfl) dX0_countMadeOf_21 ?_
      intro v2 S2
      refine h_iload_n X dX0_countMadeOf_24 rfl rfl ?_
      refine h_icmp_ne (tgt := 31) X dX0_countMadeOf_25 (by decide) ?_ ?_
      · exact h_pick [0, 1, 2, 3] rfl (w0_countMadeOf_b31 hsf X n (f0_countMadeOf_l4 n k) ih x1 x2 x3 S2)
      · refine h_iinc (v := (nI 1)) (lv' := [(2, .int (x2 + (nI 1))), (0, .ref (q 53)), (1, .int x1), (3, .int x3)]) X dX0_countMadeOf_28 rfl (by decide) (by decide) rfl ?_
        exact h_pick [1, 2, 0, 3] rfl (w0_countMadeOf_b31 hsf X n (f0_countMadeOf_l4 n k) ih x1 (x2 + (nI 1)) x3 S2)
def f0_countMadeOf (n : Nat) (x1 : Int32) (S : CS) : Option (Int32 × CS) :=
    f0_countMadeOf_l4 n n x1 (nI 0) (nI 0) S
theorem w0_countMadeOf (hsf : sfOk (SF tk)) (X : hX p s m args meth c cX0_countMadeOf 4 RX0 (some .int) D (tyC cI) (SF tk) A) {S0 : CS} (n : Nat) (x1 : Int32) (S : CS) : hG p l e (fun r => rmC 1 23 (cS r.2 - cS S0) (sS r.2 - sS S0)) s m args below meth c 4 (ZW D (wC cI q) A s.heap S0 S) (cS S - cS S0) (sS S - sS S0) (fun r => MQ below (QWi D (tyC cI) (wC cI q) A r) args s (cS r.2 - cS S0) (sS r.2 - sS S0) A) (fun r => le S r.2) 0 [(0, .ref (q 53)), (1, .int x1)] [] (f0_countMadeOf n x1 S) := by
    unfold f0_countMadeOf
    refine h_iconst (v := (nI 0)) X dX0_countMadeOf_0 (by decide) ?_
    refine h_istore_n (lv' := [(2, .int (nI 0)), (0, .ref (q 53)), (1, .int x1)]) X dX0_countMadeOf_1 rfl (by decide) rfl ?_
    refine h_iconst (v := (nI 0)) X dX0_countMadeOf_2 (by decide) ?_
    refine h_istore_n (lv' := [(3, .int (nI 0)), (2, .int (nI 0)), (0, .ref (q 53)), (1, .int x1)]) X dX0_countMadeOf_3 rfl (by decide) rfl ?_
    exact h_pick [2, 3, 1, 0] rfl (w0_countMadeOf_l4 hsf X n n x1 (nI 0) (nI 0) S)
theorem mo0_countMadeOf (n : Nat) (x1 : Int32) (S : CS) : mo S (f0_countMadeOf n x1 S) := by
    unfold f0_countMadeOf
    exact mw0_countMadeOf_l4 n n x1 (nI 0) (nI 0) S
theorem c0_countMadeOf (hsf : sfOk (SF tk)) (l : Launch) (D : va_G) (cI : ClassId) (q : Nat → Nat) (n : Nat) (x1 : Int32) (S : CS) : MetW l D (tyC cI) (SF tk) (wC cI q) yX0_countMadeOf cX0_countMadeOf 4 (some .int) 1 23 QWi [.ref (q 53), .int x1] S (f0_countMadeOf n x1 S) := by
  refine MetW.of (own := RX0) (by decide) rfl (Nat.le_of_ble_eq_true rfl) (mo0_countMadeOf n x1 S) ?_
  intro x p e s m args below meth c X
  refine h_pick (lv' := [(0, .ref (q 53)), (1, .int x1)]) [0, 1] rfl ?_
  exact h_close (w0_countMadeOf hsf X n x1 S)
theorem tc0_countMadeOf : Cond.code yX0_countMadeOf cX0_countMadeOf 4 (some .int) ∈ tt := tt_in (List.mem_of_getElem? (i := 705) (by decide +kernel)) (by decide +kernel)
theorem ti0_countMadeOf : Cond.instanceMethod yX0_countMadeOf ∈ tt := tt_in (List.mem_of_getElem? (i := 703) (by decide +kernel)) (by decide +kernel)
theorem te0_countMadeOf : Cond.selects RX0 yX0_countMadeOf yX0_countMadeOf ∈ tt := tt_in (List.mem_of_getElem? (i := 704) (by decide +kernel)) (by decide +kernel)
theorem k0_countMadeOf (hsf : sfOk (SF tk)) (X : hX p s m args meth c cc nL own rt D (tyC cI) (SF tk) A) {n : Nat} {x1 : Int32} {ix : Nat} (hlk : Cond.methodLink own ix yX0_countMadeOf ∈ tt) {rest : List Value} {K : Int32 → CS → Option (ρ × CS)} (hR : 1 + 1 ≤ fr ∧ 8 + (4 + 11) + 23 ≤ lo) (hcat : (rest.map fun v => v.category).sum ≤ 8) (d : decode cc pc = .ok (.invokevirtual ix, 3)) (kk : ∀ v S1, hG p l e (fun r => rmC fr lo (cS r.2 - cS S0) (sS r.2 - sS S0)) s m args below meth c nL (ZW D (wC cI q) A s.heap S0 S1) (cS S1 - cS S0) (sS S1 - sS S0) QQ (fun r => le S1 r.2) (pc + 3) lv (.int v :: rest) (K v S1)) : hG p l e (fun r => rmC fr lo (cS r.2 - cS S0) (sS r.2 - sS S0)) s m args below meth c nL (ZW D (wC cI q) A s.heap S0 S) (cS S - cS S0) (sS S - sS S0) QQ (fun r => le S r.2) pc lv (.int x1 :: .ref (q 53) :: rest) (bnd (f0_countMadeOf n x1 S) K) := h_callVi (As := [.int x1]) (b := q 53) (C := RX0) hsf X (c0_countMadeOf hsf l D cI q n x1 S) (cwVC (k := 1) X.1.2.2.2.2.1 hlk ti0_countMadeOf te0_countMadeOf tc0_countMadeOf ini_0 (by decide +kernel) hR) (fun x H h1 h2 => va_recv h1 h2 (ci := 0) (q0 := 9) rfl rfl) rfl rfl hcat d kk
-- X0.isBelow
def f0_isBelow_b34 (n : Nat) (x2 : Int32) (x3 : Int32) (S : CS) : Option (Int32 × CS) :=
    if x3 = x2 then (zt (nI 1) (some ((nI 1), S))) else (zt (nI 0) (some ((nI 0), S)))
theorem mw0_isBelow_b34 (n : Nat) (x2 : Int32) (x3 : Int32) (S : CS) : mo S (f0_isBelow_b34 n x2 x3 S) := by
  unfold f0_isBelow_b34
  refine m_ite ?_ ?_
  · exact m_zt m_some
  · exact m_zt m_some
theorem w0_isBelow_b34 (hsf : sfOk (SF tk)) (X : hX p s m args meth c cX0_isBelow 5 RX0 (some .boolean) D (tyC cI) (SF tk) A) (n : Nat) (x2 : Int32) (x3 : Int32) (S : CS) : hG p l e (fun r => rmC 1 23 (cS r.2 - cS S0) (sS r.2 - sS S0)) s m args below meth c 5 (ZW D (wC cI q) A s.heap S0 S) (cS S - cS S0) (sS S - sS S0) (fun r => MQ below (QWi D (tyC cI) (wC cI q) A r) args s (cS r.2 - cS S0) (sS r.2 - sS S0) A) (fun r => le S r.2) 34 [(2, .int x2), (3, .int x3)] [] (f0_isBelow_b34 n x2 x3 S) := by
  unfold f0_isBelow_b34
  refine h_iload_n X dX0_isBelow_34 rfl rfl ?_
  refine h_iload_n X dX0_isBelow_35 rfl rfl ?_
  refine h_icmp_ne (tgt := 43) X dX0_isBelow_36 (by decide) ?_ ?_
  · refine h_iconst (v := (nI 0)) X dX0_isBelow_43 (by decide) ?_
    exact h_zret X dX0_isBelow_44
  · refine h_iconst (v := (nI 1)) X dX0_isBelow_39 (by decide) ?_
    refine h_goto (tgt := 44) X dX0_isBelow_40 (by decide) ?_
    exact h_zret X dX0_isBelow_44
def f0_isBelow_l5 (n : Nat) : Nat → Int32 → Int32 → Int32 → CS → Option (Int32 × CS)
  | 0, _, _, _, _ => none
  | k + 1, x2, x3, x4, S => if (nI 150) ≤ x4 then
      (f0_isBelow_b34 n x2 x3 S)
    else
      (if x3 ≤ x2 then
        (f0_isBelow_b34 n x2 x3 S)
      else
        (bT 6 S (f2_get n x3 (nI 5) (tOf 6 S)) fun v1 S1 =>
        (f0_isBelow_l5 n k) x2 v1 (x4 + (nI 1)) S1))
theorem mw0_isBelow_l5 (n : Nat) : ∀ (k : Nat) (x2 : Int32) (x3 : Int32) (x4 : Int32) (S : CS), mo S (f0_isBelow_l5 n k x2 x3 x4 S) := by
  intro k
  induction k with
  | zero =>
    intro x2 x3 x4 S
    exact m_none
  | succ k ih =>
    intro x2 x3 x4 S
    rw [f0_isBelow_l5]
    refine m_ite ?_ ?_
    · exact mw0_isBelow_b34 n x2 x3 S
    · refine m_ite ?_ ?_
      · exact mw0_isBelow_b34 n x2 x3 S
      · refine m_bT (mo2_get _ _ _ _) (fun v1 S1 => ?_)
        exact ih x2 v1 (x4 + (nI 1)) S1
theorem w0_isBelow_l5 (hsf : sfOk (SF tk)) (X : hX p s m args meth c cX0_isBelow 5 RX0 (some .boolean) D (tyC cI) (SF tk) A) (n : Nat) : ∀ (k : Nat) (x2 : Int32) (x3 : Int32) (x4 : Int32) (S : CS), hG p l e (fun r => rmC 1 23 (cS r.2 - cS S0) (sS r.2 - sS S0)) s m args below meth c 5 (ZW D (wC cI q) A s.heap S0 S) (cS S - cS S0) (sS S - sS S0) (fun r => MQ below (QWi D (tyC cI) (wC cI q) A r) args s (cS r.2 - cS S0) (sS r.2 - sS S0) A) (fun r => le S r.2) 5 [(0, .ref (q 53)), (2, .int x2), (3, .int x3), (4, .int x4)] [] (f0_isBelow_l5 n k x2 x3 x4 S) := by
  intro k
  induction k with
  | zero =>
    intro x2 x3 x4 S
    exact h_none
  | succ k ih =>
    intro x2 x3 x4 S
    rw [f0_isBelow_l5]
    refine h_iload X dX0_isBelow_5 rfl ?_
    refine h_sipush (v := (nI 150)) X dX0_isBelow_7 (by decide) ?_
    refine h_icmp_ge (tgt := 34) X dX0_isBelow_10 (by decide) ?_ ?_
    · exact h_pick [1, 2] rfl (w0_isBelow_b34 hsf X n x2 x3 S)
    · refine h_iload_n X dX0_isBelow_13 rfl rfl ?_
      refine h_iload_n X dX0_isBelow_14 rfl rfl ?_
      refine h_icmp_le (tgt := 34) X dX0_isBelow_15 (by decide) ?_ ?_
      · exact h_pick [1, 2] rfl (w0_isBelow_b34 hsf X n x2 x3 S)
      · refine h_aload_n X dX0_isBelow_18 rfl rfl ?_
        refine c_g_IM_editions X fl0_20 dX0_isBelow_19 ?_
        refine h_iload_n X dX0_isBelow_22 rfl rfl ?_
        refine h_iconst (v := (nI 5)) X dX0_isBelow_23 (by decide) ?_
        refine kt2_get_6 hsf X tlX0_57 ⟨Nat.le_of_ble_eq_true rfl, Nat.le_of_ble_eq_true rfl⟩ (Nat.le_of_ble_eq_true rfl) dX0_isBelow_24 ?_
        intro v1 S1
        refine h_istore_n (lv' := [(3, .int v1), (0, .ref (q 53)), (2, .int x2), (4, .int x4)]) X dX0_isBelow_27 rfl (by decide) rfl ?_
        refine h_iinc (v := (nI 1)) (lv' := [(4, .int (x4 + (nI 1))), (3, .int v1), (0, .ref (q 53)), (2, .int x2)]) X dX0_isBelow_28 rfl (by decide) (by decide) rfl ?_
        refine h_goto (tgt := 5) X dX0_isBelow_31 (by decide) ?_
        exact h_pick [2, 3, 1, 0] rfl (ih x2 v1 (x4 + (nI 1)) S1)
def f0_isBelow (n : Nat) (x1 : Int32) (x2 : Int32) (S : CS) : Option (Int32 × CS) :=
    f0_isBelow_l5 n n x2 x1 (nI 0) S
theorem w0_isBelow (hsf : sfOk (SF tk)) (X : hX p s m args meth c cX0_isBelow 5 RX0 (some .boolean) D (tyC cI) (SF tk) A) {S0 : CS} (n : Nat) (x1 : Int32) (x2 : Int32) (S : CS) : hG p l e (fun r => rmC 1 23 (cS r.2 - cS S0) (sS r.2 - sS S0)) s m args below meth c 5 (ZW D (wC cI q) A s.heap S0 S) (cS S - cS S0) (sS S - sS S0) (fun r => MQ below (QWi D (tyC cI) (wC cI q) A r) args s (cS r.2 - cS S0) (sS r.2 - sS S0) A) (fun r => le S r.2) 0 [(0, .ref (q 53)), (1, .int x1), (2, .int x2)] [] (f0_isBelow n x1 x2 S) := by
    unfold f0_isBelow
    refine h_iload_n X dX0_isBelow_0 rfl rfl ?_
    refine h_istore_n (lv' := [(3, .int x1), (0, .ref (q 53)), (1, .int x1), (2, .int x2)]) X dX0_isBelow_1 rfl (by decide) rfl ?_
    refine h_iconst (v := (nI 0)) X dX0_isBelow_2 (by decide) ?_
    refine h_istore (lv' := [(4, .int (nI 0)), (3, .int x1), (0, .ref (q 53)), (1, .int x1), (2, .int x2)]) X dX0_isBelow_3 (by decide) rfl ?_
    exact h_pick [2, 4, 1, 0] rfl (w0_isBelow_l5 hsf X n n x2 x1 (nI 0) S)
theorem mo0_isBelow (n : Nat) (x1 : Int32) (x2 : Int32) (S : CS) : mo S (f0_isBelow n x1 x2 S) := by
    unfold f0_isBelow
    exact mw0_isBelow_l5 n n x2 x1 (nI 0) S
theorem c0_isBelow (hsf : sfOk (SF tk)) (l : Launch) (D : va_G) (cI : ClassId) (q : Nat → Nat) (n : Nat) (x1 : Int32) (x2 : Int32) (S : CS) : MetW l D (tyC cI) (SF tk) (wC cI q) yX0_isBelow cX0_isBelow 5 (some .boolean) 1 23 QWi [.ref (q 53), .int x1, .int x2] S (f0_isBelow n x1 x2 S) := by
  refine MetW.of (own := RX0) (by decide) rfl (Nat.le_of_ble_eq_true rfl) (mo0_isBelow n x1 x2 S) ?_
  intro x p e s m args below meth c X
  refine h_pick (lv' := [(0, .ref (q 53)), (1, .int x1), (2, .int x2)]) [0, 1, 2] rfl ?_
  exact h_close (w0_isBelow hsf X n x1 x2 S)
theorem tc0_isBelow : Cond.code yX0_isBelow cX0_isBelow 5 (some .boolean) ∈ tt := tt_in (List.mem_of_getElem? (i := 553) (by decide +kernel)) (by decide +kernel)
theorem ti0_isBelow : Cond.instanceMethod yX0_isBelow ∈ tt := tt_in (List.mem_of_getElem? (i := 551) (by decide +kernel)) (by decide +kernel)
theorem te0_isBelow : Cond.selects RX0 yX0_isBelow yX0_isBelow ∈ tt := tt_in (List.mem_of_getElem? (i := 552) (by decide +kernel)) (by decide +kernel)
theorem k0_isBelow (hsf : sfOk (SF tk)) (X : hX p s m args meth c cc nL own rt D (tyC cI) (SF tk) A) {n : Nat} {x1 : Int32} {x2 : Int32} {ix : Nat} (hlk : Cond.methodLink own ix yX0_isBelow ∈ tt) {rest : List Value} {K : Int32 → CS → Option (ρ × CS)} (hR : 1 + 1 ≤ fr ∧ 8 + (5 + 11) + 23 ≤ lo) (hcat : (rest.map fun v => v.category).sum ≤ 8) (d : decode cc pc = .ok (.invokevirtual ix, 3)) (kk : ∀ v S1, hG p l e (fun r => rmC fr lo (cS r.2 - cS S0) (sS r.2 - sS S0)) s m args below meth c nL (ZW D (wC cI q) A s.heap S0 S1) (cS S1 - cS S0) (sS S1 - sS S0) QQ (fun r => le S1 r.2) (pc + 3) lv (.int v :: rest) (K v S1)) : hG p l e (fun r => rmC fr lo (cS r.2 - cS S0) (sS r.2 - sS S0)) s m args below meth c nL (ZW D (wC cI q) A s.heap S0 S) (cS S - cS S0) (sS S - sS S0) QQ (fun r => le S r.2) pc lv (.int x2 :: .int x1 :: .ref (q 53) :: rest) (bnd (f0_isBelow n x1 x2 S) K) := h_callVi (As := [.int x1, .int x2]) (b := q 53) (C := RX0) hsf X (c0_isBelow hsf l D cI q n x1 x2 S) (cwVC (k := 2) X.1.2.2.2.2.1 hlk ti0_isBelow te0_isBelow tc0_isBelow ini_0 (by decide +kernel) hR) (fun x H h1 h2 => va_recv h1 h2 (ci := 0) (q0 := 9) rfl rfl) rfl rfl hcat d kk
-- X0.hasBrokenStart
def f0_hasBrokenStart_l4 (n : Nat) : Nat → Int32 → Int32 → CS → Option (Int32 × CS)
  | 0, _, _, _ => none
  | k + 1, x2, x3, S => if (nI 150) ≤ x3 then
      (zt (nI 0) (some ((nI 0), S)))
    else
      (if x2 = (-1 : Int32) then
        (zt (nI 0) (some ((nI 0), S)))
      else
        (bT 6 S (f2_get n x2 (nI 6) (tOf 6 S)) fun v1 S1 =>
        if v1 = (nI 2) then
          (zt (nI 1) (some ((nI 1), S1)))
        else
          (bT 6 S1 (f2_get n x2 (nI 5) (tOf 6 S1)) fun v2 S2 =>
          (f0_hasBrokenStart_l4 n k) v2 (x3 + (nI 1)) S2)))
theorem mw0_hasBrokenStart_l4 (n : Nat) : ∀ (k : Nat) (x2 : Int32) (x3 : Int32) (S : CS), mo S (f0_hasBrokenStart_l4 n k x2 x3 S) := by
  intro k
  induction k with
  | zero =>
    intro x2 x3 S
    exact m_none
  | succ k ih =>
    intro x2 x3 S
    rw [f0_hasBrokenStart_l4]
    refine m_ite ?_ ?_
    · exact m_zt m_some
    · refine m_ite ?_ ?_
      · exact m_zt m_some
      · refine m_bT (mo2_get _ _ _ _) (fun v1 S1 => ?_)
        refine m_ite ?_ ?_
        · exact m_zt m_some
        · refine m_bT (mo2_get _ _ _ _) (fun v2 S2 => ?_)
          exact ih v2 (x3 + (nI 1)) S2
theorem w0_hasBrokenStart_l4 (hsf : sfOk (SF tk)) (X : hX p s m args meth c cX0_hasBrokenStart 4 RX0 (some .boolean) D (tyC cI) (SF tk) A) (n : Nat) : ∀ (k : Nat) (x2 : Int32) (x3 : Int32) (S : CS), hG p l e (fun r => rmC 1 23 (cS r.2 - cS S0) (sS r.2 - sS S0)) s m args below meth c 4 (ZW D (wC cI q) A s.heap S0 S) (cS S - cS S0) (sS S - sS S0) (fun r => MQ below (QWi D (tyC cI) (wC cI q) A r) args s (cS r.2 - cS S0) (sS r.2 - sS S0) A) (fun r => le S r.2) 4 [(0, .ref (q 53)), (2, .int x2), (3, .int x3)] [] (f0_hasBrokenStart_l4 n k x2 x3 S) := by
  intro k
  induction k with
  | zero =>
    intro x2 x3 S
    exact h_none
  | succ k ih =>
    intro x2 x3 S
    rw [f0_hasBrokenStart_l4]
    refine h_iload_n X dX0_hasBrokenStart_4 rfl rfl ?_
    refine h_sipush (v := (nI 150)) X dX0_hasBrokenStart_5 (by decide) ?_
    refine h_icmp_ge (tgt := 48) X dX0_hasBrokenStart_8 (by decide) ?_ ?_
    · refine h_iconst (v := (nI 0)) X dX0_hasBrokenStart_48 (by decide) ?_
      exact h_zret X dX0_hasBrokenStart_49
    · refine h_iload_n X dX0_hasBrokenStart_11 rfl rfl ?_
      refine h_iconst (v := (-1 : Int32)) X dX0_hasBrokenStart_12 (by decide) ?_
      refine h_icmp_eq (tgt := 48) X dX0_hasBrokenStart_13 (by decide) ?_ ?_
      · refine h_iconst (v := (nI 0)) X dX0_hasBrokenStart_48 (by decide) ?_
        exact h_zret X dX0_hasBrokenStart_49
      · refine h_aload_n X dX0_hasBrokenStart_16 rfl rfl ?_
        refine c_g_IM_editions X fl0_20 dX0_hasBrokenStart_17 ?_
        refine h_iload_n X dX0_hasBrokenStart_20 rfl rfl ?_
        refine h_bipush (v := (nI 6)) X dX0_hasBrokenStart_21 (by decide) ?_
        refine kt2_get_6 hsf X tlX0_57 ⟨Nat.le_of_ble_eq_true rfl, Nat.le_of_ble_eq_true rfl⟩ (Nat.le_of_ble_eq_true rfl) dX0_hasBrokenStart_23 ?_
        intro v1 S1
        refine h_iconst (v := (nI 2)) X dX0_hasBrokenStart_26 (by decide) ?_
        refine h_icmp_ne (tgt := 32) X dX0_hasBrokenStart_27 (by decide) ?_ ?_
        · refine h_aload_n X dX0_hasBrokenStart_32 rfl rfl ?_
          refine c_g_IM_editions X fl0_20 dX0_hasBrokenStart_33 ?_
          refine h_iload_n X dX0_hasBrokenStart_36 rfl rfl ?_
          refine h_iconst (v := (nI 5)) X dX0_hasBrokenStart_37 (by decide) ?_
          refine kt2_get_6 hsf X tlX0_57 ⟨Nat.le_of_ble_eq_true rfl, Nat.le_of_ble_eq_true rfl⟩ (Nat.le_of_ble_eq_true rfl) dX0_hasBrokenStart_38 ?_
          intro v2 S2
          refine h_istore_n (lv' := [(2, .int v2), (0, .ref (q 53)), (3, .int x3)]) X dX0_hasBrokenStart_41 rfl (by decide) rfl ?_
          refine h_iinc (v := (nI 1)) (lv' := [(3, .int (x3 + (nI 1))), (2, .int v2), (0, .ref (q 53))]) X dX0_hasBrokenStart_42 rfl (by decide) (by decide) rfl ?_
          refine h_goto (tgt := 4) X dX0_hasBrokenStart_45 (by decide) ?_
          exact h_pick [2, 1, 0] rfl (ih v2 (x3 + (nI 1)) S2)
        · refine h_iconst (v := (nI 1)) X dX0_hasBrokenStart_30 (by decide) ?_
          exact h_zret X dX0_hasBrokenStart_31
def f0_hasBrokenStart (n : Nat) (x1 : Int32) (S : CS) : Option (Int32 × CS) :=
    f0_hasBrokenStart_l4 n n x1 (nI 0) S
theorem w0_hasBrokenStart (hsf : sfOk (SF tk)) (X : hX p s m args meth c cX0_hasBrokenStart 4 RX0 (some .boolean) D (tyC cI) (SF tk) A) {S0 : CS} (n : Nat) (x1 : Int32) (S : CS) : hG p l e (fun r => rmC 1 23 (cS r.2 - cS S0) (sS r.2 - sS S0)) s m args below meth c 4 (ZW D (wC cI q) A s.heap S0 S) (cS S - cS S0) (sS S - sS S0) (fun r => MQ below (QWi D (tyC cI) (wC cI q) A r) args s (cS r.2 - cS S0) (sS r.2 - sS S0) A) (fun r => le S r.2) 0 [(0, .ref (q 53)), (1, .int x1)] [] (f0_hasBrokenStart n x1 S) := by
    unfold f0_hasBrokenStart
    refine h_iload_n X dX0_hasBrokenStart_0 rfl rfl ?_
    refine h_istore_n (lv' := [(2, .int x1), (0, .ref (q 53)), (1, .int x1)]) X dX0_hasBrokenStart_1 rfl (by decide) rfl ?_
    refine h_iconst (v := (nI 0)) X dX0_hasBrokenStart_2 (by decide) ?_
    refine h_istore_n (lv' := [(3, .int (nI 0)), (2, .int x1), (0, .ref (q 53)), (1, .int x1)]) X dX0_hasBrokenStart_3 rfl (by decide) rfl ?_
    exact h_pick [2, 1, 0] rfl (w0_hasBrokenStart_l4 hsf X n n x1 (nI 0) S)
theorem mo0_hasBrokenStart (n : Nat) (x1 : Int32) (S : CS) : mo S (f0_hasBrokenStart n x1 S) := by
    unfold f0_hasBrokenStart
    exact mw0_hasBrokenStart_l4 n n x1 (nI 0) S
theorem c0_hasBrokenStart (hsf : sfOk (SF tk)) (l : Launch) (D : va_G) (cI : ClassId) (q : Nat → Nat) (n : Nat) (x1 : Int32) (S : CS) : MetW l D (tyC cI) (SF tk) (wC cI q) yX0_hasBrokenStart cX0_hasBrokenStart 4 (some .boolean) 1 23 QWi [.ref (q 53), .int x1] S (f0_hasBrokenStart n x1 S) := by
  refine MetW.of (own := RX0) (by decide) rfl (Nat.le_of_ble_eq_true rfl) (mo0_hasBrokenStart n x1 S) ?_
  intro x p e s m args below meth c X
  refine h_pick (lv' := [(0, .ref (q 53)), (1, .int x1)]) [0, 1] rfl ?_
  exact h_close (w0_hasBrokenStart hsf X n x1 S)
theorem tc0_hasBrokenStart : Cond.code yX0_hasBrokenStart cX0_hasBrokenStart 4 (some .boolean) ∈ tt := tt_in (List.mem_of_getElem? (i := 504) (by decide +kernel)) (by decide +kernel)
theorem ti0_hasBrokenStart : Cond.instanceMethod yX0_hasBrokenStart ∈ tt := tt_in (List.mem_of_getElem? (i := 502) (by decide +kernel)) (by decide +kernel)
theorem te0_hasBrokenStart : Cond.selects RX0 yX0_hasBrokenStart yX0_hasBrokenStart ∈ tt := tt_in (List.mem_of_getElem? (i := 503) (by decide +kernel)) (by decide +kernel)
theorem k0_hasBrokenStart (hsf : sfOk (SF tk)) (X : hX p s m args meth c cc nL own rt D (tyC cI) (SF tk) A) {n : Nat} {x1 : Int32} {ix : Nat} (hlk : Cond.methodLink own ix yX0_hasBrokenStart ∈ tt) {rest : List Value} {K : Int32 → CS → Option (ρ × CS)} (hR : 1 + 1 ≤ fr ∧ 8 + (4 + 11) + 23 ≤ lo) (hcat : (rest.map fun v => v.category).sum ≤ 8) (d : decode cc pc = .ok (.invokevirtual ix, 3)) (kk : ∀ v S1, hG p l e (fun r => rmC fr lo (cS r.2 - cS S0) (sS r.2 - sS S0)) s m args below meth c nL (ZW D (wC cI q) A s.heap S0 S1) (cS S1 - cS S0) (sS S1 - sS S0) QQ (fun r => le S1 r.2) (pc + 3) lv (.int v :: rest) (K v S1)) : hG p l e (fun r => rmC fr lo (cS r.2 - cS S0) (sS r.2 - sS S0)) s m args below meth c nL (ZW D (wC cI q) A s.heap S0 S) (cS S - cS S0) (sS S - sS S0) QQ (fun r => le S r.2) pc lv (.int x1 :: .ref (q 53) :: rest) (bnd (f0_hasBrokenStart n x1 S) K) := h_callVi (As := [.int x1]) (b := q 53) (C := RX0) hsf X (c0_hasBrokenStart hsf l D cI q n x1 S) (cwVC (k := 1) X.1.2.2.2.2.1 hlk ti0_hasBrokenStart te0_hasBrokenStart tc0_hasBrokenStart ini_0 (by decide +kernel) hR) (fun x H h1 h2 => va_recv h1 h2 (ci := 0) (q0 := 9) rfl rfl) rfl rfl hcat d kk
end CM
