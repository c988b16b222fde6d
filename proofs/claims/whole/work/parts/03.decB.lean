theorem dX6_init_0 : decode cX6_init 0 = .ok (.aload_n 0, 1) := by decide +kernel
theorem dX6_init_1 : decode cX6_init 1 = .ok (.invokespecial 1, 3) := by decide +kernel
theorem dX6_init_4 : decode cX6_init 4 = .ok (.aload_n 0, 1) := by decide +kernel
theorem dX6_init_5 : decode cX6_init 5 = .ok (.new 7, 3) := by decide +kernel
theorem dX6_init_8 : decode cX6_init 8 = .ok (.dup, 1) := by decide +kernel
theorem dX6_init_9 : decode cX6_init 9 = .ok (.invokespecial 9, 3) := by decide +kernel
theorem dX6_init_12 : decode cX6_init 12 = .ok (.putfield 10, 3) := by decide +kernel
theorem dX6_init_15 : decode cX6_init 15 = .ok (.aload_n 0, 1) := by decide +kernel
theorem dX6_init_16 : decode cX6_init 16 = .ok (.new 16, 3) := by decide +kernel
theorem dX6_init_19 : decode cX6_init 19 = .ok (.dup, 1) := by decide +kernel
theorem dX6_init_20 : decode cX6_init 20 = .ok (.invokespecial 18, 3) := by decide +kernel
theorem dX6_init_23 : decode cX6_init 23 = .ok (.putfield 19, 3) := by decide +kernel
theorem dX6_init_26 : decode cX6_init 26 = .ok (.aload_n 0, 1) := by decide +kernel
theorem dX6_init_27 : decode cX6_init 27 = .ok (.new 23, 3) := by decide +kernel
theorem dX6_init_30 : decode cX6_init 30 = .ok (.dup, 1) := by decide +kernel
theorem dX6_init_31 : decode cX6_init 31 = .ok (.invokespecial 25, 3) := by decide +kernel
theorem dX6_init_34 : decode cX6_init 34 = .ok (.putfield 26, 3) := by decide +kernel
theorem dX6_init_37 : decode cX6_init 37 = .ok (.aload_n 0, 1) := by decide +kernel
theorem dX6_init_38 : decode cX6_init 38 = .ok (.new 30, 3) := by decide +kernel
theorem dX6_init_41 : decode cX6_init 41 = .ok (.dup, 1) := by decide +kernel
theorem dX6_init_42 : decode cX6_init 42 = .ok (.invokespecial 32, 3) := by decide +kernel
theorem dX6_init_45 : decode cX6_init 45 = .ok (.putfield 33, 3) := by decide +kernel
theorem dX6_init_48 : decode cX6_init 48 = .ok (.aload_n 0, 1) := by decide +kernel
theorem dX6_init_49 : decode cX6_init 49 = .ok (.new 37, 3) := by decide +kernel
theorem dX6_init_52 : decode cX6_init 52 = .ok (.dup, 1) := by decide +kernel
theorem dX6_init_53 : decode cX6_init 53 = .ok (.invokespecial 39, 3) := by decide +kernel
theorem dX6_init_56 : decode cX6_init 56 = .ok (.putfield 40, 3) := by decide +kernel
theorem dX6_init_59 : decode cX6_init 59 = .ok (.aload_n 0, 1) := by decide +kernel
theorem dX6_init_60 : decode cX6_init 60 = .ok (.new 44, 3) := by decide +kernel
theorem dX6_init_63 : decode cX6_init 63 = .ok (.dup, 1) := by decide +kernel
theorem dX6_init_64 : decode cX6_init 64 = .ok (.invokespecial 46, 3) := by decide +kernel
theorem dX6_init_67 : decode cX6_init 67 = .ok (.putfield 47, 3) := by decide +kernel
theorem dX6_init_70 : decode cX6_init 70 = .ok (.return_, 1) := by decide +kernel
theorem dX6_within_0 : decode cX6_within 0 = .ok (.iload_n 0, 1) := by decide +kernel
theorem dX6_within_1 : decode cX6_within 1 = .ok (.iload_n 1, 1) := by decide +kernel
theorem dX6_within_2 : decode cX6_within 2 = .ok (.if_icmp .lt 12, 3) := by decide +kernel
theorem dX6_within_5 : decode cX6_within 5 = .ok (.iload_n 0, 1) := by decide +kernel
theorem dX6_within_6 : decode cX6_within 6 = .ok (.iload_n 2, 1) := by decide +kernel
theorem dX6_within_7 : decode cX6_within 7 = .ok (.if_icmp .gt 7, 3) := by decide +kernel
theorem dX6_within_10 : decode cX6_within 10 = .ok (.iconst 1, 1) := by decide +kernel
theorem dX6_within_11 : decode cX6_within 11 = .ok (.goto 4, 3) := by decide +kernel
theorem dX6_within_14 : decode cX6_within 14 = .ok (.iconst 0, 1) := by decide +kernel
theorem dX6_within_15 : decode cX6_within 15 = .ok (.ireturn, 1) := by decide +kernel
theorem dX6_countBy_0 : decode cX6_countBy 0 = .ok (.aload_n 0, 1) := by decide +kernel
theorem dX6_countBy_1 : decode cX6_countBy 1 = .ok (.getfield 10, 3) := by decide +kernel
theorem dX6_countBy_4 : decode cX6_countBy 4 = .ok (.iload_n 1, 1) := by decide +kernel
theorem dX6_countBy_5 : decode cX6_countBy 5 = .ok (.invokevirtual 51, 3) := by decide +kernel
theorem dX6_countBy_8 : decode cX6_countBy 8 = .ok (.ifCond .eq 13, 3) := by decide +kernel
theorem dX6_countBy_11 : decode cX6_countBy 11 = .ok (.iload_n 2, 1) := by decide +kernel
theorem dX6_countBy_12 : decode cX6_countBy 12 = .ok (.iconst 1, 1) := by decide +kernel
theorem dX6_countBy_13 : decode cX6_countBy 13 = .ok (.bipush 20, 2) := by decide +kernel
theorem dX6_countBy_15 : decode cX6_countBy 15 = .ok (.invokestatic 55, 3) := by decide +kernel
theorem dX6_countBy_18 : decode cX6_countBy 18 = .ok (.ifCond .ne 6, 3) := by decide +kernel
theorem dX6_countBy_21 : decode cX6_countBy 21 = .ok (.bipush (-2), 2) := by decide +kernel
theorem dX6_countBy_23 : decode cX6_countBy 23 = .ok (.ireturn, 1) := by decide +kernel
theorem dX6_countBy_24 : decode cX6_countBy 24 = .ok (.aload_n 0, 1) := by decide +kernel
theorem dX6_countBy_25 : decode cX6_countBy 25 = .ok (.getfield 10, 3) := by decide +kernel
theorem dX6_countBy_28 : decode cX6_countBy 28 = .ok (.iload_n 1, 1) := by decide +kernel
theorem dX6_countBy_29 : decode cX6_countBy 29 = .ok (.invokevirtual 59, 3) := by decide +kernel
theorem dX6_countBy_32 : decode cX6_countBy 32 = .ok (.ifCond .eq 12, 3) := by decide +kernel
theorem dX6_countBy_35 : decode cX6_countBy 35 = .ok (.aload_n 0, 1) := by decide +kernel
theorem dX6_countBy_36 : decode cX6_countBy 36 = .ok (.getfield 10, 3) := by decide +kernel
theorem dX6_countBy_39 : decode cX6_countBy 39 = .ok (.iconst 1, 1) := by decide +kernel
theorem dX6_countBy_40 : decode cX6_countBy 40 = .ok (.invokevirtual 62, 3) := by decide +kernel
theorem dX6_countBy_43 : decode cX6_countBy 43 = .ok (.ireturn, 1) := by decide +kernel
theorem dX6_countBy_44 : decode cX6_countBy 44 = .ok (.iload_n 3, 1) := by decide +kernel
theorem dX6_countBy_45 : decode cX6_countBy 45 = .ok (.ifCond .eq 9, 3) := by decide +kernel
theorem dX6_countBy_48 : decode cX6_countBy 48 = .ok (.iload_n 2, 1) := by decide +kernel
theorem dX6_countBy_49 : decode cX6_countBy 49 = .ok (.iconst 1, 1) := by decide +kernel
theorem dX6_countBy_50 : decode cX6_countBy 50 = .ok (.iadd, 1) := by decide +kernel
theorem dX6_countBy_51 : decode cX6_countBy 51 = .ok (.goto 4, 3) := by decide +kernel
theorem dX6_countBy_54 : decode cX6_countBy 54 = .ok (.iload_n 2, 1) := by decide +kernel
theorem dX6_countBy_55 : decode cX6_countBy 55 = .ok (.istore 4, 2) := by decide +kernel
theorem dX6_countBy_57 : decode cX6_countBy 57 = .ok (.iload 4, 2) := by decide +kernel
theorem dX6_countBy_59 : decode cX6_countBy 59 = .ok (.aload_n 0, 1) := by decide +kernel
theorem dX6_countBy_60 : decode cX6_countBy 60 = .ok (.getfield 10, 3) := by decide +kernel
theorem dX6_countBy_63 : decode cX6_countBy 63 = .ok (.iload_n 1, 1) := by decide +kernel
theorem dX6_countBy_64 : decode cX6_countBy 64 = .ok (.invokevirtual 66, 3) := by decide +kernel
theorem dX6_countBy_67 : decode cX6_countBy 67 = .ok (.if_icmp .le 12, 3) := by decide +kernel
theorem dX6_countBy_70 : decode cX6_countBy 70 = .ok (.aload_n 0, 1) := by decide +kernel
theorem dX6_countBy_71 : decode cX6_countBy 71 = .ok (.getfield 10, 3) := by decide +kernel
theorem dX6_countBy_74 : decode cX6_countBy 74 = .ok (.iconst 2, 1) := by decide +kernel
theorem dX6_countBy_75 : decode cX6_countBy 75 = .ok (.invokevirtual 62, 3) := by decide +kernel
theorem dX6_countBy_78 : decode cX6_countBy 78 = .ok (.ireturn, 1) := by decide +kernel
theorem dX6_countBy_79 : decode cX6_countBy 79 = .ok (.aload_n 0, 1) := by decide +kernel
theorem dX6_countBy_80 : decode cX6_countBy 80 = .ok (.getfield 10, 3) := by decide +kernel
theorem dX6_countBy_83 : decode cX6_countBy 83 = .ok (.iload_n 1, 1) := by decide +kernel
theorem dX6_countBy_84 : decode cX6_countBy 84 = .ok (.iload 4, 2) := by decide +kernel
theorem dX6_countBy_86 : decode cX6_countBy 86 = .ok (.invokevirtual 69, 3) := by decide +kernel
theorem dX6_countBy_89 : decode cX6_countBy 89 = .ok (.ifCond .ne 6, 3) := by decide +kernel
theorem dX6_countBy_92 : decode cX6_countBy 92 = .ok (.bipush (-3), 2) := by decide +kernel
theorem dX6_countBy_94 : decode cX6_countBy 94 = .ok (.ireturn, 1) := by decide +kernel
theorem dX6_countBy_95 : decode cX6_countBy 95 = .ok (.aload_n 0, 1) := by decide +kernel
theorem dX6_countBy_96 : decode cX6_countBy 96 = .ok (.getfield 19, 3) := by decide +kernel
theorem dX6_countBy_99 : decode cX6_countBy 99 = .ok (.invokevirtual 73, 3) := by decide +kernel
theorem dX6_countBy_102 : decode cX6_countBy 102 = .ok (.ifCond .eq 8, 3) := by decide +kernel
theorem dX6_countBy_105 : decode cX6_countBy 105 = .ok (.bipush (-4), 2) := by decide +kernel
theorem dX6_countBy_107 : decode cX6_countBy 107 = .ok (.goto 17, 3) := by decide +kernel
theorem dX6_countBy_110 : decode cX6_countBy 110 = .ok (.aload_n 0, 1) := by decide +kernel
theorem dX6_countBy_111 : decode cX6_countBy 111 = .ok (.getfield 19, 3) := by decide +kernel
theorem dX6_countBy_114 : decode cX6_countBy 114 = .ok (.aload_n 0, 1) := by decide +kernel
theorem dX6_countBy_115 : decode cX6_countBy 115 = .ok (.getfield 10, 3) := by decide +kernel
theorem dX6_countBy_118 : decode cX6_countBy 118 = .ok (.iload_n 1, 1) := by decide +kernel
theorem dX6_countBy_119 : decode cX6_countBy 119 = .ok (.iload_n 2, 1) := by decide +kernel
theorem dX6_countBy_120 : decode cX6_countBy 120 = .ok (.iload_n 3, 1) := by decide +kernel
theorem dX6_countBy_121 : decode cX6_countBy 121 = .ok (.invokevirtual 77, 3) := by decide +kernel
theorem dX6_countBy_124 : decode cX6_countBy 124 = .ok (.ireturn, 1) := by decide +kernel
theorem dX6_begins_0 : decode cX6_begins 0 = .ok (.aload_n 0, 1) := by decide +kernel
theorem dX6_begins_1 : decode cX6_begins 1 = .ok (.getfield 19, 3) := by decide +kernel
theorem dX6_begins_4 : decode cX6_begins 4 = .ok (.iload_n 1, 1) := by decide +kernel
theorem dX6_begins_5 : decode cX6_begins 5 = .ok (.invokevirtual 81, 3) := by decide +kernel
theorem dX6_begins_8 : decode cX6_begins 8 = .ok (.ifCond .eq 12, 3) := by decide +kernel
theorem dX6_begins_11 : decode cX6_begins 11 = .ok (.iload_n 2, 1) := by decide +kernel
theorem dX6_begins_12 : decode cX6_begins 12 = .ok (.iconst 0, 1) := by decide +kernel
theorem dX6_begins_13 : decode cX6_begins 13 = .ok (.iconst 1, 1) := by decide +kernel
theorem dX6_begins_14 : decode cX6_begins 14 = .ok (.invokestatic 55, 3) := by decide +kernel
theorem dX6_begins_17 : decode cX6_begins 17 = .ok (.ifCond .ne 6, 3) := by decide +kernel
theorem dX6_begins_20 : decode cX6_begins 20 = .ok (.bipush (-2), 2) := by decide +kernel
theorem dX6_begins_22 : decode cX6_begins 22 = .ok (.ireturn, 1) := by decide +kernel
theorem dX6_begins_23 : decode cX6_begins 23 = .ok (.aload_n 0, 1) := by decide +kernel
theorem dX6_begins_24 : decode cX6_begins 24 = .ok (.getfield 19, 3) := by decide +kernel
theorem dX6_begins_27 : decode cX6_begins 27 = .ok (.iload_n 1, 1) := by decide +kernel
theorem dX6_begins_28 : decode cX6_begins 28 = .ok (.iload_n 2, 1) := by decide +kernel
theorem dX6_begins_29 : decode cX6_begins 29 = .ok (.invokevirtual 84, 3) := by decide +kernel
theorem dX6_begins_32 : decode cX6_begins 32 = .ok (.ireturn, 1) := by decide +kernel
theorem dX6_about_0 : decode cX6_about 0 = .ok (.aload_n 0, 1) := by decide +kernel
theorem dX6_about_1 : decode cX6_about 1 = .ok (.getfield 19, 3) := by decide +kernel
theorem dX6_about_4 : decode cX6_about 4 = .ok (.iload_n 1, 1) := by decide +kernel
theorem dX6_about_5 : decode cX6_about 5 = .ok (.invokevirtual 81, 3) := by decide +kernel
theorem dX6_about_8 : decode cX6_about 8 = .ok (.ifCond .ne 6, 3) := by decide +kernel
theorem dX6_about_11 : decode cX6_about 11 = .ok (.bipush (-2), 2) := by decide +kernel
theorem dX6_about_13 : decode cX6_about 13 = .ok (.ireturn, 1) := by decide +kernel
theorem dX6_about_14 : decode cX6_about 14 = .ok (.iload_n 2, 1) := by decide +kernel
theorem dX6_about_15 : decode cX6_about 15 = .ok (.tableswitch 65 0 3 #[29, 38, 47, 56], 29) := by decide +kernel
theorem dX6_about_44 : decode cX6_about 44 = .ok (.aload_n 0, 1) := by decide +kernel
theorem dX6_about_45 : decode cX6_about 45 = .ok (.getfield 19, 3) := by decide +kernel
theorem dX6_about_48 : decode cX6_about 48 = .ok (.iload_n 1, 1) := by decide +kernel
theorem dX6_about_49 : decode cX6_about 49 = .ok (.invokevirtual 88, 3) := by decide +kernel
theorem dX6_about_52 : decode cX6_about 52 = .ok (.ireturn, 1) := by decide +kernel
theorem dX6_about_53 : decode cX6_about 53 = .ok (.aload_n 0, 1) := by decide +kernel
theorem dX6_about_54 : decode cX6_about 54 = .ok (.getfield 19, 3) := by decide +kernel
theorem dX6_about_57 : decode cX6_about 57 = .ok (.iload_n 1, 1) := by decide +kernel
theorem dX6_about_58 : decode cX6_about 58 = .ok (.invokevirtual 91, 3) := by decide +kernel
theorem dX6_about_61 : decode cX6_about 61 = .ok (.ireturn, 1) := by decide +kernel
theorem dX6_about_62 : decode cX6_about 62 = .ok (.aload_n 0, 1) := by decide +kernel
theorem dX6_about_63 : decode cX6_about 63 = .ok (.getfield 19, 3) := by decide +kernel
theorem dX6_about_66 : decode cX6_about 66 = .ok (.iload_n 1, 1) := by decide +kernel
theorem dX6_about_67 : decode cX6_about 67 = .ok (.invokevirtual 94, 3) := by decide +kernel
theorem dX6_about_70 : decode cX6_about 70 = .ok (.ireturn, 1) := by decide +kernel
theorem dX6_about_71 : decode cX6_about 71 = .ok (.aload_n 0, 1) := by decide +kernel
theorem dX6_about_72 : decode cX6_about 72 = .ok (.getfield 19, 3) := by decide +kernel
theorem dX6_about_75 : decode cX6_about 75 = .ok (.iload_n 1, 1) := by decide +kernel
theorem dX6_about_76 : decode cX6_about 76 = .ok (.invokevirtual 97, 3) := by decide +kernel
theorem dX6_about_79 : decode cX6_about 79 = .ok (.ireturn, 1) := by decide +kernel
theorem dX6_about_80 : decode cX6_about 80 = .ok (.bipush (-2), 2) := by decide +kernel
theorem dX6_about_82 : decode cX6_about 82 = .ok (.ireturn, 1) := by decide +kernel
theorem dX6_place_0 : decode cX6_place 0 = .ok (.aload_n 0, 1) := by decide +kernel
theorem dX6_place_1 : decode cX6_place 1 = .ok (.getfield 19, 3) := by decide +kernel
theorem dX6_place_4 : decode cX6_place 4 = .ok (.iload_n 1, 1) := by decide +kernel
theorem dX6_place_5 : decode cX6_place 5 = .ok (.invokevirtual 81, 3) := by decide +kernel
theorem dX6_place_8 : decode cX6_place 8 = .ok (.ifCond .eq 19, 3) := by decide +kernel
theorem dX6_place_11 : decode cX6_place 11 = .ok (.iload_n 2, 1) := by decide +kernel
theorem dX6_place_12 : decode cX6_place 12 = .ok (.iconst 1, 1) := by decide +kernel
theorem dX6_place_13 : decode cX6_place 13 = .ok (.aload_n 0, 1) := by decide +kernel
theorem dX6_place_14 : decode cX6_place 14 = .ok (.getfield 19, 3) := by decide +kernel
theorem dX6_place_17 : decode cX6_place 17 = .ok (.iload_n 1, 1) := by decide +kernel
theorem dX6_place_18 : decode cX6_place 18 = .ok (.invokevirtual 88, 3) := by decide +kernel
theorem dX6_place_21 : decode cX6_place 21 = .ok (.invokestatic 55, 3) := by decide +kernel
theorem dX6_place_24 : decode cX6_place 24 = .ok (.ifCond .ne 6, 3) := by decide +kernel
theorem dX6_place_27 : decode cX6_place 27 = .ok (.bipush (-2), 2) := by decide +kernel
theorem dX6_place_29 : decode cX6_place 29 = .ok (.ireturn, 1) := by decide +kernel
theorem dX6_place_30 : decode cX6_place 30 = .ok (.iload_n 3, 1) := by decide +kernel
theorem dX6_place_31 : decode cX6_place 31 = .ok (.tableswitch 55 0 2 #[25, 35, 45], 25) := by decide +kernel
theorem dX6_place_56 : decode cX6_place 56 = .ok (.aload_n 0, 1) := by decide +kernel
theorem dX6_place_57 : decode cX6_place 57 = .ok (.getfield 19, 3) := by decide +kernel
theorem dX6_place_60 : decode cX6_place 60 = .ok (.iload_n 1, 1) := by decide +kernel
theorem dX6_place_61 : decode cX6_place 61 = .ok (.iload_n 2, 1) := by decide +kernel
theorem dX6_place_62 : decode cX6_place 62 = .ok (.invokevirtual 100, 3) := by decide +kernel
theorem dX6_place_65 : decode cX6_place 65 = .ok (.ireturn, 1) := by decide +kernel
theorem dX6_place_66 : decode cX6_place 66 = .ok (.aload_n 0, 1) := by decide +kernel
theorem dX6_place_67 : decode cX6_place 67 = .ok (.getfield 19, 3) := by decide +kernel
theorem dX6_place_70 : decode cX6_place 70 = .ok (.iload_n 1, 1) := by decide +kernel
theorem dX6_place_71 : decode cX6_place 71 = .ok (.iload_n 2, 1) := by decide +kernel
theorem dX6_place_72 : decode cX6_place 72 = .ok (.invokevirtual 103, 3) := by decide +kernel
theorem dX6_place_75 : decode cX6_place 75 = .ok (.ireturn, 1) := by decide +kernel
theorem dX6_place_76 : decode cX6_place 76 = .ok (.aload_n 0, 1) := by decide +kernel
theorem dX6_place_77 : decode cX6_place 77 = .ok (.getfield 19, 3) := by decide +kernel
theorem dX6_place_80 : decode cX6_place 80 = .ok (.iload_n 1, 1) := by decide +kernel
theorem dX6_place_81 : decode cX6_place 81 = .ok (.iload_n 2, 1) := by decide +kernel
theorem dX6_place_82 : decode cX6_place 82 = .ok (.invokevirtual 106, 3) := by decide +kernel
theorem dX6_place_85 : decode cX6_place 85 = .ok (.ireturn, 1) := by decide +kernel
theorem dX6_place_86 : decode cX6_place 86 = .ok (.bipush (-2), 2) := by decide +kernel
theorem dX6_place_88 : decode cX6_place 88 = .ok (.ireturn, 1) := by decide +kernel
theorem dX6_number_0 : decode cX6_number 0 = .ok (.aload_n 0, 1) := by decide +kernel
theorem dX6_number_1 : decode cX6_number 1 = .ok (.getfield 19, 3) := by decide +kernel
theorem dX6_number_4 : decode cX6_number 4 = .ok (.iload_n 1, 1) := by decide +kernel
theorem dX6_number_5 : decode cX6_number 5 = .ok (.invokevirtual 81, 3) := by decide +kernel
theorem dX6_number_8 : decode cX6_number 8 = .ok (.ifCond .eq 14, 3) := by decide +kernel
theorem dX6_number_11 : decode cX6_number 11 = .ok (.iload_n 2, 1) := by decide +kernel
theorem dX6_number_12 : decode cX6_number 12 = .ok (.iconst 1, 1) := by decide +kernel
theorem dX6_number_13 : decode cX6_number 13 = .ok (.sipush 400, 3) := by decide +kernel
theorem dX6_number_16 : decode cX6_number 16 = .ok (.invokestatic 55, 3) := by decide +kernel
theorem dX6_number_19 : decode cX6_number 19 = .ok (.ifCond .ne 6, 3) := by decide +kernel
theorem dX6_number_22 : decode cX6_number 22 = .ok (.bipush (-2), 2) := by decide +kernel
theorem dX6_number_24 : decode cX6_number 24 = .ok (.ireturn, 1) := by decide +kernel
theorem dX6_number_25 : decode cX6_number 25 = .ok (.aload_n 0, 1) := by decide +kernel
theorem dX6_number_26 : decode cX6_number 26 = .ok (.getfield 19, 3) := by decide +kernel
theorem dX6_number_29 : decode cX6_number 29 = .ok (.iload_n 1, 1) := by decide +kernel
theorem dX6_number_30 : decode cX6_number 30 = .ok (.iload_n 2, 1) := by decide +kernel
theorem dX6_number_31 : decode cX6_number 31 = .ok (.invokevirtual 109, 3) := by decide +kernel
theorem dX6_number_34 : decode cX6_number 34 = .ok (.istore 4, 2) := by decide +kernel
theorem dX6_number_36 : decode cX6_number 36 = .ok (.iload_n 3, 1) := by decide +kernel
theorem dX6_number_37 : decode cX6_number 37 = .ok (.tableswitch 66 0 3 #[31, 41, 44, 55], 31) := by decide +kernel
theorem dX6_number_68 : decode cX6_number 68 = .ok (.aload_n 0, 1) := by decide +kernel
theorem dX6_number_69 : decode cX6_number 69 = .ok (.getfield 19, 3) := by decide +kernel
theorem dX6_number_72 : decode cX6_number 72 = .ok (.iload_n 1, 1) := by decide +kernel
theorem dX6_number_73 : decode cX6_number 73 = .ok (.iload_n 2, 1) := by decide +kernel
theorem dX6_number_74 : decode cX6_number 74 = .ok (.invokevirtual 112, 3) := by decide +kernel
theorem dX6_number_77 : decode cX6_number 77 = .ok (.ireturn, 1) := by decide +kernel
theorem dX6_number_78 : decode cX6_number 78 = .ok (.iload 4, 2) := by decide +kernel
theorem dX6_number_80 : decode cX6_number 80 = .ok (.ireturn, 1) := by decide +kernel
theorem dX6_number_81 : decode cX6_number 81 = .ok (.aload_n 0, 1) := by decide +kernel
theorem dX6_number_82 : decode cX6_number 82 = .ok (.getfield 19, 3) := by decide +kernel
theorem dX6_number_85 : decode cX6_number 85 = .ok (.iload_n 1, 1) := by decide +kernel
theorem dX6_number_86 : decode cX6_number 86 = .ok (.iload 4, 2) := by decide +kernel
theorem dX6_number_88 : decode cX6_number 88 = .ok (.invokevirtual 100, 3) := by decide +kernel
theorem dX6_number_91 : decode cX6_number 91 = .ok (.ireturn, 1) := by decide +kernel
theorem dX6_number_92 : decode cX6_number 92 = .ok (.aload_n 0, 1) := by decide +kernel
theorem dX6_number_93 : decode cX6_number 93 = .ok (.getfield 19, 3) := by decide +kernel
theorem dX6_number_96 : decode cX6_number 96 = .ok (.iload_n 1, 1) := by decide +kernel
theorem dX6_number_97 : decode cX6_number 97 = .ok (.iload 4, 2) := by decide +kernel
theorem dX6_number_99 : decode cX6_number 99 = .ok (.invokevirtual 106, 3) := by decide +kernel
theorem dX6_number_102 : decode cX6_number 102 = .ok (.ireturn, 1) := by decide +kernel
theorem dX6_number_103 : decode cX6_number 103 = .ok (.bipush (-2), 2) := by decide +kernel
theorem dX6_number_105 : decode cX6_number 105 = .ok (.ireturn, 1) := by decide +kernel
theorem dX6_value_0 : decode cX6_value 0 = .ok (.aload_n 0, 1) := by decide +kernel
theorem dX6_value_1 : decode cX6_value 1 = .ok (.getfield 19, 3) := by decide +kernel
theorem dX6_value_4 : decode cX6_value 4 = .ok (.iload_n 1, 1) := by decide +kernel
theorem dX6_value_5 : decode cX6_value 5 = .ok (.invokevirtual 81, 3) := by decide +kernel
theorem dX6_value_8 : decode cX6_value 8 = .ok (.ifCond .eq 29, 3) := by decide +kernel
theorem dX6_value_11 : decode cX6_value 11 = .ok (.iload_n 2, 1) := by decide +kernel
theorem dX6_value_12 : decode cX6_value 12 = .ok (.iconst 0, 1) := by decide +kernel
theorem dX6_value_13 : decode cX6_value 13 = .ok (.bipush 20, 2) := by decide +kernel
theorem dX6_value_15 : decode cX6_value 15 = .ok (.invokestatic 55, 3) := by decide +kernel
theorem dX6_value_18 : decode cX6_value 18 = .ok (.ifCond .eq 19, 3) := by decide +kernel
theorem dX6_value_21 : decode cX6_value 21 = .ok (.iload_n 3, 1) := by decide +kernel
theorem dX6_value_22 : decode cX6_value 22 = .ok (.iconst 1, 1) := by decide +kernel
theorem dX6_value_23 : decode cX6_value 23 = .ok (.aload_n 0, 1) := by decide +kernel
theorem dX6_value_24 : decode cX6_value 24 = .ok (.getfield 19, 3) := by decide +kernel
theorem dX6_value_27 : decode cX6_value 27 = .ok (.iload_n 1, 1) := by decide +kernel
theorem dX6_value_28 : decode cX6_value 28 = .ok (.invokevirtual 88, 3) := by decide +kernel
theorem dX6_value_31 : decode cX6_value 31 = .ok (.invokestatic 55, 3) := by decide +kernel
theorem dX6_value_34 : decode cX6_value 34 = .ok (.ifCond .ne 6, 3) := by decide +kernel
theorem dX6_value_37 : decode cX6_value 37 = .ok (.bipush (-2), 2) := by decide +kernel
theorem dX6_value_39 : decode cX6_value 39 = .ok (.ireturn, 1) := by decide +kernel
theorem dX6_value_40 : decode cX6_value 40 = .ok (.iload_n 2, 1) := by decide +kernel
theorem dX6_value_41 : decode cX6_value 41 = .ok (.aload_n 0, 1) := by decide +kernel
theorem dX6_value_42 : decode cX6_value 42 = .ok (.getfield 19, 3) := by decide +kernel
theorem dX6_value_45 : decode cX6_value 45 = .ok (.iload_n 1, 1) := by decide +kernel
theorem dX6_value_46 : decode cX6_value 46 = .ok (.invokevirtual 88, 3) := by decide +kernel
theorem dX6_value_49 : decode cX6_value 49 = .ok (.imul, 1) := by decide +kernel
theorem dX6_value_50 : decode cX6_value 50 = .ok (.iload_n 3, 1) := by decide +kernel
theorem dX6_value_51 : decode cX6_value 51 = .ok (.iadd, 1) := by decide +kernel
theorem dX6_value_52 : decode cX6_value 52 = .ok (.ireturn, 1) := by decide +kernel
theorem dX6_isPoint_0 : decode cX6_isPoint 0 = .ok (.aload_n 0, 1) := by decide +kernel
theorem dX6_isPoint_1 : decode cX6_isPoint 1 = .ok (.getfield 19, 3) := by decide +kernel
theorem dX6_isPoint_4 : decode cX6_isPoint 4 = .ok (.iload_n 1, 1) := by decide +kernel
theorem dX6_isPoint_5 : decode cX6_isPoint 5 = .ok (.invokevirtual 81, 3) := by decide +kernel
theorem dX6_isPoint_8 : decode cX6_isPoint 8 = .ok (.ifCond .eq 37, 3) := by decide +kernel
theorem dX6_isPoint_11 : decode cX6_isPoint 11 = .ok (.iload_n 2, 1) := by decide +kernel
theorem dX6_isPoint_12 : decode cX6_isPoint 12 = .ok (.iconst 0, 1) := by decide +kernel
theorem dX6_isPoint_13 : decode cX6_isPoint 13 = .ok (.bipush 99, 2) := by decide +kernel
theorem dX6_isPoint_15 : decode cX6_isPoint 15 = .ok (.invokestatic 55, 3) := by decide +kernel
theorem dX6_isPoint_18 : decode cX6_isPoint 18 = .ok (.ifCond .eq 27, 3) := by decide +kernel
theorem dX6_isPoint_21 : decode cX6_isPoint 21 = .ok (.iload_n 3, 1) := by decide +kernel
theorem dX6_isPoint_22 : decode cX6_isPoint 22 = .ok (.iconst (-1), 1) := by decide +kernel
theorem dX6_isPoint_23 : decode cX6_isPoint 23 = .ok (.iconst 2, 1) := by decide +kernel
theorem dX6_isPoint_24 : decode cX6_isPoint 24 = .ok (.invokestatic 55, 3) := by decide +kernel
theorem dX6_isPoint_27 : decode cX6_isPoint 27 = .ok (.ifCond .eq 18, 3) := by decide +kernel
theorem dX6_isPoint_30 : decode cX6_isPoint 30 = .ok (.iload 4, 2) := by decide +kernel
theorem dX6_isPoint_32 : decode cX6_isPoint 32 = .ok (.iconst (-1), 1) := by decide +kernel
theorem dX6_isPoint_33 : decode cX6_isPoint 33 = .ok (.bipush 20, 2) := by decide +kernel
theorem dX6_isPoint_35 : decode cX6_isPoint 35 = .ok (.invokestatic 55, 3) := by decide +kernel
theorem dX6_isPoint_38 : decode cX6_isPoint 38 = .ok (.ifCond .eq 7, 3) := by decide +kernel
theorem dX6_isPoint_41 : decode cX6_isPoint 41 = .ok (.iconst 1, 1) := by decide +kernel
theorem dX6_isPoint_42 : decode cX6_isPoint 42 = .ok (.goto 4, 3) := by decide +kernel
theorem dX6_isPoint_45 : decode cX6_isPoint 45 = .ok (.iconst 0, 1) := by decide +kernel
theorem dX6_isPoint_46 : decode cX6_isPoint 46 = .ok (.ireturn, 1) := by decide +kernel
theorem dX6_meanings_0 : decode cX6_meanings 0 = .ok (.aload_n 0, 1) := by decide +kernel
theorem dX6_meanings_1 : decode cX6_meanings 1 = .ok (.iload_n 1, 1) := by decide +kernel
theorem dX6_meanings_2 : decode cX6_meanings 2 = .ok (.iload_n 2, 1) := by decide +kernel
theorem dX6_meanings_3 : decode cX6_meanings 3 = .ok (.iload_n 3, 1) := by decide +kernel
theorem dX6_meanings_4 : decode cX6_meanings 4 = .ok (.iload 4, 2) := by decide +kernel
theorem dX6_meanings_6 : decode cX6_meanings 6 = .ok (.invokevirtual 115, 3) := by decide +kernel
theorem dX6_meanings_9 : decode cX6_meanings 9 = .ok (.ifCond .eq 15, 3) := by decide +kernel
theorem dX6_meanings_12 : decode cX6_meanings 12 = .ok (.iload 5, 2) := by decide +kernel
theorem dX6_meanings_14 : decode cX6_meanings 14 = .ok (.iconst 1, 1) := by decide +kernel
theorem dX6_meanings_15 : decode cX6_meanings 15 = .ok (.sipush 400, 3) := by decide +kernel
theorem dX6_meanings_18 : decode cX6_meanings 18 = .ok (.invokestatic 55, 3) := by decide +kernel
theorem dX6_meanings_21 : decode cX6_meanings 21 = .ok (.ifCond .ne 6, 3) := by decide +kernel
theorem dX6_meanings_24 : decode cX6_meanings 24 = .ok (.bipush (-2), 2) := by decide +kernel
theorem dX6_meanings_26 : decode cX6_meanings 26 = .ok (.ireturn, 1) := by decide +kernel
theorem dX6_meanings_27 : decode cX6_meanings 27 = .ok (.iconst 0, 1) := by decide +kernel
theorem dX6_meanings_28 : decode cX6_meanings 28 = .ok (.istore 6, 2) := by decide +kernel
theorem dX6_meanings_30 : decode cX6_meanings 30 = .ok (.iconst 1, 1) := by decide +kernel
theorem dX6_meanings_31 : decode cX6_meanings 31 = .ok (.istore 7, 2) := by decide +kernel
theorem dX6_meanings_33 : decode cX6_meanings 33 = .ok (.iload 7, 2) := by decide +kernel
theorem dX6_meanings_35 : decode cX6_meanings 35 = .ok (.iload 5, 2) := by decide +kernel
theorem dX6_meanings_37 : decode cX6_meanings 37 = .ok (.if_icmp .gt 29, 3) := by decide +kernel
theorem dX6_meanings_40 : decode cX6_meanings 40 = .ok (.aload_n 0, 1) := by decide +kernel
theorem dX6_meanings_41 : decode cX6_meanings 41 = .ok (.getfield 19, 3) := by decide +kernel
theorem dX6_meanings_44 : decode cX6_meanings 44 = .ok (.iload_n 1, 1) := by decide +kernel
theorem dX6_meanings_45 : decode cX6_meanings 45 = .ok (.iload_n 2, 1) := by decide +kernel
theorem dX6_meanings_46 : decode cX6_meanings 46 = .ok (.iload_n 3, 1) := by decide +kernel
theorem dX6_meanings_47 : decode cX6_meanings 47 = .ok (.iload 4, 2) := by decide +kernel
theorem dX6_meanings_49 : decode cX6_meanings 49 = .ok (.iload 7, 2) := by decide +kernel
theorem dX6_meanings_51 : decode cX6_meanings 51 = .ok (.invokevirtual 119, 3) := by decide +kernel
theorem dX6_meanings_54 : decode cX6_meanings 54 = .ok (.ifCond .eq 6, 3) := by decide +kernel
theorem dX6_meanings_57 : decode cX6_meanings 57 = .ok (.iinc 6 1, 3) := by decide +kernel
theorem dX6_meanings_60 : decode cX6_meanings 60 = .ok (.iinc 7 1, 3) := by decide +kernel
theorem dX6_meanings_63 : decode cX6_meanings 63 = .ok (.goto (-30), 3) := by decide +kernel
theorem dX6_meanings_66 : decode cX6_meanings 66 = .ok (.iload 6, 2) := by decide +kernel
theorem dX6_meanings_68 : decode cX6_meanings 68 = .ok (.ireturn, 1) := by decide +kernel
theorem dX6_meaning_0 : decode cX6_meaning 0 = .ok (.aload_n 0, 1) := by decide +kernel
theorem dX6_meaning_1 : decode cX6_meaning 1 = .ok (.iload_n 1, 1) := by decide +kernel
theorem dX6_meaning_2 : decode cX6_meaning 2 = .ok (.iload_n 2, 1) := by decide +kernel
theorem dX6_meaning_3 : decode cX6_meaning 3 = .ok (.iload_n 3, 1) := by decide +kernel
theorem dX6_meaning_4 : decode cX6_meaning 4 = .ok (.iload 4, 2) := by decide +kernel
theorem dX6_meaning_6 : decode cX6_meaning 6 = .ok (.invokevirtual 115, 3) := by decide +kernel
theorem dX6_meaning_9 : decode cX6_meaning 9 = .ok (.ifCond .eq 8, 3) := by decide +kernel
theorem dX6_meaning_12 : decode cX6_meaning 12 = .ok (.iload 5, 2) := by decide +kernel
theorem dX6_meaning_14 : decode cX6_meaning 14 = .ok (.ifCond .ge 6, 3) := by decide +kernel
theorem dX6_meaning_17 : decode cX6_meaning 17 = .ok (.bipush (-2), 2) := by decide +kernel
theorem dX6_meaning_19 : decode cX6_meaning 19 = .ok (.ireturn, 1) := by decide +kernel
theorem dX6_meaning_20 : decode cX6_meaning 20 = .ok (.iconst 0, 1) := by decide +kernel
theorem dX6_meaning_21 : decode cX6_meaning 21 = .ok (.istore 6, 2) := by decide +kernel
theorem dX6_meaning_23 : decode cX6_meaning 23 = .ok (.iconst 1, 1) := by decide +kernel
theorem dX6_meaning_24 : decode cX6_meaning 24 = .ok (.istore 7, 2) := by decide +kernel
theorem dX6_meaning_26 : decode cX6_meaning 26 = .ok (.iload 7, 2) := by decide +kernel
theorem dX6_meaning_28 : decode cX6_meaning 28 = .ok (.sipush 400, 3) := by decide +kernel
theorem dX6_meaning_31 : decode cX6_meaning 31 = .ok (.if_icmp .gt 39, 3) := by decide +kernel
theorem dX6_meaning_34 : decode cX6_meaning 34 = .ok (.aload_n 0, 1) := by decide +kernel
theorem dX6_meaning_35 : decode cX6_meaning 35 = .ok (.getfield 19, 3) := by decide +kernel
theorem dX6_meaning_38 : decode cX6_meaning 38 = .ok (.iload_n 1, 1) := by decide +kernel
theorem dX6_meaning_39 : decode cX6_meaning 39 = .ok (.iload_n 2, 1) := by decide +kernel
theorem dX6_meaning_40 : decode cX6_meaning 40 = .ok (.iload_n 3, 1) := by decide +kernel
theorem dX6_meaning_41 : decode cX6_meaning 41 = .ok (.iload 4, 2) := by decide +kernel
theorem dX6_meaning_43 : decode cX6_meaning 43 = .ok (.iload 7, 2) := by decide +kernel
theorem dX6_meaning_45 : decode cX6_meaning 45 = .ok (.invokevirtual 119, 3) := by decide +kernel
theorem dX6_meaning_48 : decode cX6_meaning 48 = .ok (.ifCond .eq 16, 3) := by decide +kernel
theorem dX6_meaning_51 : decode cX6_meaning 51 = .ok (.iload 6, 2) := by decide +kernel
theorem dX6_meaning_53 : decode cX6_meaning 53 = .ok (.iload 5, 2) := by decide +kernel
theorem dX6_meaning_55 : decode cX6_meaning 55 = .ok (.if_icmp .ne 6, 3) := by decide +kernel
theorem dX6_meaning_58 : decode cX6_meaning 58 = .ok (.iload 7, 2) := by decide +kernel
theorem dX6_meaning_60 : decode cX6_meaning 60 = .ok (.ireturn, 1) := by decide +kernel
theorem dX6_meaning_61 : decode cX6_meaning 61 = .ok (.iinc 6 1, 3) := by decide +kernel
theorem dX6_meaning_64 : decode cX6_meaning 64 = .ok (.iinc 7 1, 3) := by decide +kernel
theorem dX6_meaning_67 : decode cX6_meaning 67 = .ok (.goto (-41), 3) := by decide +kernel
theorem dX6_meaning_70 : decode cX6_meaning 70 = .ok (.iconst (-1), 1) := by decide +kernel
theorem dX6_meaning_71 : decode cX6_meaning 71 = .ok (.ireturn, 1) := by decide +kernel
theorem dX6_mat_0 : decode cX6_mat 0 = .ok (.iload_n 1, 1) := by decide +kernel
theorem dX6_mat_1 : decode cX6_mat 1 = .ok (.iconst 1, 1) := by decide +kernel
theorem dX6_mat_2 : decode cX6_mat 2 = .ok (.bipush 40, 2) := by decide +kernel
theorem dX6_mat_4 : decode cX6_mat 4 = .ok (.invokestatic 55, 3) := by decide +kernel
theorem dX6_mat_7 : decode cX6_mat 7 = .ok (.ifCond .eq 14, 3) := by decide +kernel
theorem dX6_mat_10 : decode cX6_mat 10 = .ok (.aload_n 0, 1) := by decide +kernel
theorem dX6_mat_11 : decode cX6_mat 11 = .ok (.getfield 26, 3) := by decide +kernel
theorem dX6_mat_14 : decode cX6_mat 14 = .ok (.iload_n 1, 1) := by decide +kernel
theorem dX6_mat_15 : decode cX6_mat 15 = .ok (.invokevirtual 123, 3) := by decide +kernel
theorem dX6_mat_18 : decode cX6_mat 18 = .ok (.goto 5, 3) := by decide +kernel
theorem dX6_mat_21 : decode cX6_mat 21 = .ok (.bipush (-2), 2) := by decide +kernel
theorem dX6_mat_23 : decode cX6_mat 23 = .ok (.ireturn, 1) := by decide +kernel
theorem dX6_clue_0 : decode cX6_clue 0 = .ok (.iload_n 1, 1) := by decide +kernel
theorem dX6_clue_1 : decode cX6_clue 1 = .ok (.invokestatic 126, 3) := by decide +kernel
theorem dX6_clue_4 : decode cX6_clue 4 = .ok (.ifCond .eq 16, 3) := by decide +kernel
theorem dX6_clue_7 : decode cX6_clue 7 = .ok (.aload_n 0, 1) := by decide +kernel
theorem dX6_clue_8 : decode cX6_clue 8 = .ok (.iload_n 2, 1) := by decide +kernel
theorem dX6_clue_9 : decode cX6_clue 9 = .ok (.iload_n 3, 1) := by decide +kernel
theorem dX6_clue_10 : decode cX6_clue 10 = .ok (.iload 4, 2) := by decide +kernel
theorem dX6_clue_12 : decode cX6_clue 12 = .ok (.iload 5, 2) := by decide +kernel
theorem dX6_clue_14 : decode cX6_clue 14 = .ok (.invokevirtual 115, 3) := by decide +kernel
theorem dX6_clue_17 : decode cX6_clue 17 = .ok (.ifCond .ne 6, 3) := by decide +kernel
theorem dX6_clue_20 : decode cX6_clue 20 = .ok (.bipush (-2), 2) := by decide +kernel
theorem dX6_clue_22 : decode cX6_clue 22 = .ok (.ireturn, 1) := by decide +kernel
theorem dX6_clue_23 : decode cX6_clue 23 = .ok (.aload_n 0, 1) := by decide +kernel
theorem dX6_clue_24 : decode cX6_clue 24 = .ok (.getfield 26, 3) := by decide +kernel
theorem dX6_clue_27 : decode cX6_clue 27 = .ok (.iload_n 1, 1) := by decide +kernel
theorem dX6_clue_28 : decode cX6_clue 28 = .ok (.iload_n 2, 1) := by decide +kernel
theorem dX6_clue_29 : decode cX6_clue 29 = .ok (.iload_n 3, 1) := by decide +kernel
theorem dX6_clue_30 : decode cX6_clue 30 = .ok (.iload 4, 2) := by decide +kernel
theorem dX6_clue_32 : decode cX6_clue 32 = .ok (.iload 5, 2) := by decide +kernel
theorem dX6_clue_34 : decode cX6_clue 34 = .ok (.invokevirtual 129, 3) := by decide +kernel
theorem dX6_clue_37 : decode cX6_clue 37 = .ok (.ireturn, 1) := by decide +kernel
theorem dX6_sum_0 : decode cX6_sum 0 = .ok (.iload_n 1, 1) := by decide +kernel
theorem dX6_sum_1 : decode cX6_sum 1 = .ok (.invokestatic 126, 3) := by decide +kernel
theorem dX6_sum_4 : decode cX6_sum 4 = .ok (.ifCond .eq 17, 3) := by decide +kernel
theorem dX6_sum_7 : decode cX6_sum 7 = .ok (.iload_n 2, 1) := by decide +kernel
theorem dX6_sum_8 : decode cX6_sum 8 = .ok (.invokestatic 126, 3) := by decide +kernel
theorem dX6_sum_11 : decode cX6_sum 11 = .ok (.ifCond .eq 10, 3) := by decide +kernel
theorem dX6_sum_14 : decode cX6_sum 14 = .ok (.iload_n 3, 1) := by decide +kernel
theorem dX6_sum_15 : decode cX6_sum 15 = .ok (.invokestatic 126, 3) := by decide +kernel
theorem dX6_sum_18 : decode cX6_sum 18 = .ok (.ifCond .ne 6, 3) := by decide +kernel
theorem dX6_sum_21 : decode cX6_sum 21 = .ok (.bipush (-2), 2) := by decide +kernel
theorem dX6_sum_23 : decode cX6_sum 23 = .ok (.ireturn, 1) := by decide +kernel
theorem dX6_sum_24 : decode cX6_sum 24 = .ok (.aload_n 0, 1) := by decide +kernel
theorem dX6_sum_25 : decode cX6_sum 25 = .ok (.getfield 26, 3) := by decide +kernel
theorem dX6_sum_28 : decode cX6_sum 28 = .ok (.iconst 1, 1) := by decide +kernel
theorem dX6_sum_29 : decode cX6_sum 29 = .ok (.iload_n 1, 1) := by decide +kernel
theorem dX6_sum_30 : decode cX6_sum 30 = .ok (.iload_n 2, 1) := by decide +kernel
theorem dX6_sum_31 : decode cX6_sum 31 = .ok (.iload_n 3, 1) := by decide +kernel
theorem dX6_sum_32 : decode cX6_sum 32 = .ok (.invokevirtual 133, 3) := by decide +kernel
theorem dX6_sum_35 : decode cX6_sum 35 = .ok (.ireturn, 1) := by decide +kernel
theorem dX6_less_0 : decode cX6_less 0 = .ok (.iload_n 1, 1) := by decide +kernel
theorem dX6_less_1 : decode cX6_less 1 = .ok (.invokestatic 126, 3) := by decide +kernel
theorem dX6_less_4 : decode cX6_less 4 = .ok (.ifCond .eq 15, 3) := by decide +kernel
theorem dX6_less_7 : decode cX6_less 7 = .ok (.iload_n 2, 1) := by decide +kernel
theorem dX6_less_8 : decode cX6_less 8 = .ok (.invokestatic 126, 3) := by decide +kernel
theorem dX6_less_11 : decode cX6_less 11 = .ok (.ifCond .eq 8, 3) := by decide +kernel
theorem dX6_less_14 : decode cX6_less 14 = .ok (.iload_n 1, 1) := by decide +kernel
theorem dX6_less_15 : decode cX6_less 15 = .ok (.iload_n 2, 1) := by decide +kernel
theorem dX6_less_16 : decode cX6_less 16 = .ok (.if_icmp .ne 6, 3) := by decide +kernel
theorem dX6_less_19 : decode cX6_less 19 = .ok (.bipush (-2), 2) := by decide +kernel
theorem dX6_less_21 : decode cX6_less 21 = .ok (.ireturn, 1) := by decide +kernel
theorem dX6_less_22 : decode cX6_less 22 = .ok (.aload_n 0, 1) := by decide +kernel
theorem dX6_less_23 : decode cX6_less 23 = .ok (.getfield 26, 3) := by decide +kernel
theorem dX6_less_26 : decode cX6_less 26 = .ok (.iconst 2, 1) := by decide +kernel
theorem dX6_less_27 : decode cX6_less 27 = .ok (.iload_n 1, 1) := by decide +kernel
theorem dX6_less_28 : decode cX6_less 28 = .ok (.iload_n 2, 1) := by decide +kernel
theorem dX6_less_29 : decode cX6_less 29 = .ok (.iconst 0, 1) := by decide +kernel
theorem dX6_less_30 : decode cX6_less 30 = .ok (.invokevirtual 133, 3) := by decide +kernel
theorem dX6_less_33 : decode cX6_less 33 = .ok (.ireturn, 1) := by decide +kernel
theorem dX6_mats_0 : decode cX6_mats 0 = .ok (.iload_n 1, 1) := by decide +kernel
theorem dX6_mats_1 : decode cX6_mats 1 = .ok (.invokestatic 126, 3) := by decide +kernel
theorem dX6_mats_4 : decode cX6_mats 4 = .ok (.ifCond .eq 22, 3) := by decide +kernel
theorem dX6_mats_7 : decode cX6_mats 7 = .ok (.iload_n 3, 1) := by decide +kernel
theorem dX6_mats_8 : decode cX6_mats 8 = .ok (.iconst 1, 1) := by decide +kernel
theorem dX6_mats_9 : decode cX6_mats 9 = .ok (.bipush 40, 2) := by decide +kernel
theorem dX6_mats_11 : decode cX6_mats 11 = .ok (.invokestatic 55, 3) := by decide +kernel
theorem dX6_mats_14 : decode cX6_mats 14 = .ok (.ifCond .eq 12, 3) := by decide +kernel
theorem dX6_mats_17 : decode cX6_mats 17 = .ok (.iload_n 2, 1) := by decide +kernel
theorem dX6_mats_18 : decode cX6_mats 18 = .ok (.iconst 1, 1) := by decide +kernel
theorem dX6_mats_19 : decode cX6_mats 19 = .ok (.iload_n 3, 1) := by decide +kernel
theorem dX6_mats_20 : decode cX6_mats 20 = .ok (.invokestatic 55, 3) := by decide +kernel
theorem dX6_mats_23 : decode cX6_mats 23 = .ok (.ifCond .ne 6, 3) := by decide +kernel
theorem dX6_mats_26 : decode cX6_mats 26 = .ok (.bipush (-2), 2) := by decide +kernel
theorem dX6_mats_28 : decode cX6_mats 28 = .ok (.ireturn, 1) := by decide +kernel
theorem dX6_mats_29 : decode cX6_mats 29 = .ok (.aload_n 0, 1) := by decide +kernel
theorem dX6_mats_30 : decode cX6_mats 30 = .ok (.getfield 26, 3) := by decide +kernel
theorem dX6_mats_33 : decode cX6_mats 33 = .ok (.iconst 3, 1) := by decide +kernel
theorem dX6_mats_34 : decode cX6_mats 34 = .ok (.iload_n 1, 1) := by decide +kernel
theorem dX6_mats_35 : decode cX6_mats 35 = .ok (.iload_n 2, 1) := by decide +kernel
theorem dX6_mats_36 : decode cX6_mats 36 = .ok (.iload_n 3, 1) := by decide +kernel
theorem dX6_mats_37 : decode cX6_mats 37 = .ok (.invokevirtual 133, 3) := by decide +kernel
theorem dX6_mats_40 : decode cX6_mats 40 = .ok (.ireturn, 1) := by decide +kernel
theorem dX6_forget_0 : decode cX6_forget 0 = .ok (.aload_n 0, 1) := by decide +kernel
theorem dX6_forget_1 : decode cX6_forget 1 = .ok (.getfield 26, 3) := by decide +kernel
theorem dX6_forget_4 : decode cX6_forget 4 = .ok (.invokevirtual 137, 3) := by decide +kernel
theorem dX6_forget_7 : decode cX6_forget 7 = .ok (.ireturn, 1) := by decide +kernel
theorem dX6_solutions_0 : decode cX6_solutions 0 = .ok (.aload_n 0, 1) := by decide +kernel
theorem dX6_solutions_1 : decode cX6_solutions 1 = .ok (.getfield 26, 3) := by decide +kernel
theorem dX6_solutions_4 : decode cX6_solutions 4 = .ok (.aload_n 0, 1) := by decide +kernel
theorem dX6_solutions_5 : decode cX6_solutions 5 = .ok (.getfield 19, 3) := by decide +kernel
theorem dX6_solutions_8 : decode cX6_solutions 8 = .ok (.invokevirtual 141, 3) := by decide +kernel
theorem dX6_solutions_11 : decode cX6_solutions 11 = .ok (.ireturn, 1) := by decide +kernel
theorem dX6_solution_0 : decode cX6_solution 0 = .ok (.iload_n 1, 1) := by decide +kernel
theorem dX6_solution_1 : decode cX6_solution 1 = .ok (.ifCond .lt 10, 3) := by decide +kernel
theorem dX6_solution_4 : decode cX6_solution 4 = .ok (.iload_n 2, 1) := by decide +kernel
theorem dX6_solution_5 : decode cX6_solution 5 = .ok (.invokestatic 126, 3) := by decide +kernel
theorem dX6_solution_8 : decode cX6_solution 8 = .ok (.ifCond .ne 8, 3) := by decide +kernel
theorem dX6_solution_11 : decode cX6_solution 11 = .ok (.bipush (-2), 2) := by decide +kernel
theorem dX6_solution_13 : decode cX6_solution 13 = .ok (.goto 16, 3) := by decide +kernel
theorem dX6_solution_16 : decode cX6_solution 16 = .ok (.aload_n 0, 1) := by decide +kernel
theorem dX6_solution_17 : decode cX6_solution 17 = .ok (.getfield 26, 3) := by decide +kernel
theorem dX6_solution_20 : decode cX6_solution 20 = .ok (.aload_n 0, 1) := by decide +kernel
theorem dX6_solution_21 : decode cX6_solution 21 = .ok (.getfield 19, 3) := by decide +kernel
theorem dX6_solution_24 : decode cX6_solution 24 = .ok (.iload_n 1, 1) := by decide +kernel
theorem dX6_solution_25 : decode cX6_solution 25 = .ok (.iload_n 2, 1) := by decide +kernel
theorem dX6_solution_26 : decode cX6_solution 26 = .ok (.invokevirtual 145, 3) := by decide +kernel
theorem dX6_solution_29 : decode cX6_solution 29 = .ok (.ireturn, 1) := by decide +kernel
theorem dX6_sure_0 : decode cX6_sure 0 = .ok (.iload_n 1, 1) := by decide +kernel
theorem dX6_sure_1 : decode cX6_sure 1 = .ok (.invokestatic 126, 3) := by decide +kernel
theorem dX6_sure_4 : decode cX6_sure 4 = .ok (.ifCond .eq 18, 3) := by decide +kernel
theorem dX6_sure_7 : decode cX6_sure 7 = .ok (.aload_n 0, 1) := by decide +kernel
theorem dX6_sure_8 : decode cX6_sure 8 = .ok (.getfield 26, 3) := by decide +kernel
theorem dX6_sure_11 : decode cX6_sure 11 = .ok (.aload_n 0, 1) := by decide +kernel
theorem dX6_sure_12 : decode cX6_sure 12 = .ok (.getfield 19, 3) := by decide +kernel
theorem dX6_sure_15 : decode cX6_sure 15 = .ok (.iload_n 1, 1) := by decide +kernel
theorem dX6_sure_16 : decode cX6_sure 16 = .ok (.invokevirtual 149, 3) := by decide +kernel
theorem dX6_sure_19 : decode cX6_sure 19 = .ok (.goto 5, 3) := by decide +kernel
theorem dX6_sure_22 : decode cX6_sure 22 = .ok (.bipush (-2), 2) := by decide +kernel
theorem dX6_sure_24 : decode cX6_sure 24 = .ok (.ireturn, 1) := by decide +kernel
theorem dX6_quarrel_0 : decode cX6_quarrel 0 = .ok (.aload_n 0, 1) := by decide +kernel
theorem dX6_quarrel_1 : decode cX6_quarrel 1 = .ok (.getfield 26, 3) := by decide +kernel
theorem dX6_quarrel_4 : decode cX6_quarrel 4 = .ok (.aload_n 0, 1) := by decide +kernel
theorem dX6_quarrel_5 : decode cX6_quarrel 5 = .ok (.getfield 19, 3) := by decide +kernel
theorem dX6_quarrel_8 : decode cX6_quarrel 8 = .ok (.invokevirtual 153, 3) := by decide +kernel
theorem dX6_quarrel_11 : decode cX6_quarrel 11 = .ok (.ireturn, 1) := by decide +kernel
theorem dX6_heard_0 : decode cX6_heard 0 = .ok (.aload_n 0, 1) := by decide +kernel
theorem dX6_heard_1 : decode cX6_heard 1 = .ok (.getfield 19, 3) := by decide +kernel
theorem dX6_heard_4 : decode cX6_heard 4 = .ok (.iload_n 1, 1) := by decide +kernel
theorem dX6_heard_5 : decode cX6_heard 5 = .ok (.invokevirtual 81, 3) := by decide +kernel
theorem dX6_heard_8 : decode cX6_heard 8 = .ok (.ifCond .eq 25, 3) := by decide +kernel
theorem dX6_heard_11 : decode cX6_heard 11 = .ok (.aload_n 0, 1) := by decide +kernel
theorem dX6_heard_12 : decode cX6_heard 12 = .ok (.getfield 19, 3) := by decide +kernel
theorem dX6_heard_15 : decode cX6_heard 15 = .ok (.iload_n 2, 1) := by decide +kernel
theorem dX6_heard_16 : decode cX6_heard 16 = .ok (.invokevirtual 81, 3) := by decide +kernel
theorem dX6_heard_19 : decode cX6_heard 19 = .ok (.ifCond .eq 14, 3) := by decide +kernel
theorem dX6_heard_22 : decode cX6_heard 22 = .ok (.iload_n 3, 1) := by decide +kernel
theorem dX6_heard_23 : decode cX6_heard 23 = .ok (.iconst 1, 1) := by decide +kernel
theorem dX6_heard_24 : decode cX6_heard 24 = .ok (.sipush 400, 3) := by decide +kernel
theorem dX6_heard_27 : decode cX6_heard 27 = .ok (.invokestatic 55, 3) := by decide +kernel
theorem dX6_heard_30 : decode cX6_heard 30 = .ok (.ifCond .ne 6, 3) := by decide +kernel
theorem dX6_heard_33 : decode cX6_heard 33 = .ok (.bipush (-2), 2) := by decide +kernel
theorem dX6_heard_35 : decode cX6_heard 35 = .ok (.ireturn, 1) := by decide +kernel
theorem dX6_heard_36 : decode cX6_heard 36 = .ok (.aload_n 0, 1) := by decide +kernel
theorem dX6_heard_37 : decode cX6_heard 37 = .ok (.getfield 19, 3) := by decide +kernel
theorem dX6_heard_40 : decode cX6_heard 40 = .ok (.iload_n 1, 1) := by decide +kernel
theorem dX6_heard_41 : decode cX6_heard 41 = .ok (.iload_n 2, 1) := by decide +kernel
theorem dX6_heard_42 : decode cX6_heard 42 = .ok (.iload_n 3, 1) := by decide +kernel
theorem dX6_heard_43 : decode cX6_heard 43 = .ok (.invokevirtual 156, 3) := by decide +kernel
theorem dX6_heard_46 : decode cX6_heard 46 = .ok (.ireturn, 1) := by decide +kernel
theorem dX6_clear_0 : decode cX6_clear 0 = .ok (.aload_n 0, 1) := by decide +kernel
theorem dX6_clear_1 : decode cX6_clear 1 = .ok (.getfield 19, 3) := by decide +kernel
theorem dX6_clear_4 : decode cX6_clear 4 = .ok (.iload_n 1, 1) := by decide +kernel
theorem dX6_clear_5 : decode cX6_clear 5 = .ok (.invokevirtual 81, 3) := by decide +kernel
theorem dX6_clear_8 : decode cX6_clear 8 = .ok (.ifCond .eq 25, 3) := by decide +kernel
theorem dX6_clear_11 : decode cX6_clear 11 = .ok (.aload_n 0, 1) := by decide +kernel
theorem dX6_clear_12 : decode cX6_clear 12 = .ok (.getfield 19, 3) := by decide +kernel
theorem dX6_clear_15 : decode cX6_clear 15 = .ok (.iload_n 2, 1) := by decide +kernel
theorem dX6_clear_16 : decode cX6_clear 16 = .ok (.invokevirtual 81, 3) := by decide +kernel
theorem dX6_clear_19 : decode cX6_clear 19 = .ok (.ifCond .eq 14, 3) := by decide +kernel
theorem dX6_clear_22 : decode cX6_clear 22 = .ok (.iload_n 3, 1) := by decide +kernel
theorem dX6_clear_23 : decode cX6_clear 23 = .ok (.iconst 1, 1) := by decide +kernel
theorem dX6_clear_24 : decode cX6_clear 24 = .ok (.sipush 400, 3) := by decide +kernel
theorem dX6_clear_27 : decode cX6_clear 27 = .ok (.invokestatic 55, 3) := by decide +kernel
theorem dX6_clear_30 : decode cX6_clear 30 = .ok (.ifCond .ne 6, 3) := by decide +kernel
theorem dX6_clear_33 : decode cX6_clear 33 = .ok (.bipush (-2), 2) := by decide +kernel
theorem dX6_clear_35 : decode cX6_clear 35 = .ok (.ireturn, 1) := by decide +kernel
theorem dX6_clear_36 : decode cX6_clear 36 = .ok (.iconst 0, 1) := by decide +kernel
theorem dX6_clear_37 : decode cX6_clear 37 = .ok (.istore 4, 2) := by decide +kernel
theorem dX6_clear_39 : decode cX6_clear 39 = .ok (.iconst 1, 1) := by decide +kernel
theorem dX6_clear_40 : decode cX6_clear 40 = .ok (.istore 5, 2) := by decide +kernel
theorem dX6_clear_42 : decode cX6_clear 42 = .ok (.iload 5, 2) := by decide +kernel
theorem dX6_clear_44 : decode cX6_clear 44 = .ok (.iload_n 3, 1) := by decide +kernel
theorem dX6_clear_45 : decode cX6_clear 45 = .ok (.if_icmp .gt 28, 3) := by decide +kernel
theorem dX6_clear_48 : decode cX6_clear 48 = .ok (.aload_n 0, 1) := by decide +kernel
theorem dX6_clear_49 : decode cX6_clear 49 = .ok (.getfield 19, 3) := by decide +kernel
theorem dX6_clear_52 : decode cX6_clear 52 = .ok (.iload_n 1, 1) := by decide +kernel
theorem dX6_clear_53 : decode cX6_clear 53 = .ok (.iload_n 2, 1) := by decide +kernel
theorem dX6_clear_54 : decode cX6_clear 54 = .ok (.iload 5, 2) := by decide +kernel
theorem dX6_clear_56 : decode cX6_clear 56 = .ok (.invokevirtual 156, 3) := by decide +kernel
theorem dX6_clear_59 : decode cX6_clear 59 = .ok (.iload 5, 2) := by decide +kernel
theorem dX6_clear_61 : decode cX6_clear 61 = .ok (.if_icmp .ne 6, 3) := by decide +kernel
theorem dX6_clear_64 : decode cX6_clear 64 = .ok (.iinc 4 1, 3) := by decide +kernel
theorem dX6_clear_67 : decode cX6_clear 67 = .ok (.iinc 5 1, 3) := by decide +kernel
theorem dX6_clear_70 : decode cX6_clear 70 = .ok (.goto (-28), 3) := by decide +kernel
theorem dX6_clear_73 : decode cX6_clear 73 = .ok (.iload 4, 2) := by decide +kernel
theorem dX6_clear_75 : decode cX6_clear 75 = .ok (.ireturn, 1) := by decide +kernel
theorem dX6_trap_0 : decode cX6_trap 0 = .ok (.aload_n 0, 1) := by decide +kernel
theorem dX6_trap_1 : decode cX6_trap 1 = .ok (.getfield 19, 3) := by decide +kernel
theorem dX6_trap_4 : decode cX6_trap 4 = .ok (.iload_n 1, 1) := by decide +kernel
theorem dX6_trap_5 : decode cX6_trap 5 = .ok (.invokevirtual 81, 3) := by decide +kernel
theorem dX6_trap_8 : decode cX6_trap 8 = .ok (.ifCond .eq 14, 3) := by decide +kernel
theorem dX6_trap_11 : decode cX6_trap 11 = .ok (.aload_n 0, 1) := by decide +kernel
theorem dX6_trap_12 : decode cX6_trap 12 = .ok (.getfield 19, 3) := by decide +kernel
theorem dX6_trap_15 : decode cX6_trap 15 = .ok (.iload_n 2, 1) := by decide +kernel
theorem dX6_trap_16 : decode cX6_trap 16 = .ok (.invokevirtual 81, 3) := by decide +kernel
theorem dX6_trap_19 : decode cX6_trap 19 = .ok (.ifCond .ne 6, 3) := by decide +kernel
theorem dX6_trap_22 : decode cX6_trap 22 = .ok (.bipush (-2), 2) := by decide +kernel
theorem dX6_trap_24 : decode cX6_trap 24 = .ok (.ireturn, 1) := by decide +kernel
theorem dX6_trap_25 : decode cX6_trap 25 = .ok (.iconst 1, 1) := by decide +kernel
theorem dX6_trap_26 : decode cX6_trap 26 = .ok (.istore_n 3, 1) := by decide +kernel
theorem dX6_trap_27 : decode cX6_trap 27 = .ok (.iload_n 3, 1) := by decide +kernel
theorem dX6_trap_28 : decode cX6_trap 28 = .ok (.sipush 400, 3) := by decide +kernel
theorem dX6_trap_31 : decode cX6_trap 31 = .ok (.if_icmp .gt 35, 3) := by decide +kernel
theorem dX6_trap_34 : decode cX6_trap 34 = .ok (.aload_n 0, 1) := by decide +kernel
theorem dX6_trap_35 : decode cX6_trap 35 = .ok (.getfield 19, 3) := by decide +kernel
theorem dX6_trap_38 : decode cX6_trap 38 = .ok (.iload_n 1, 1) := by decide +kernel
theorem dX6_trap_39 : decode cX6_trap 39 = .ok (.iload_n 2, 1) := by decide +kernel
theorem dX6_trap_40 : decode cX6_trap 40 = .ok (.iload_n 3, 1) := by decide +kernel
theorem dX6_trap_41 : decode cX6_trap 41 = .ok (.invokevirtual 156, 3) := by decide +kernel
theorem dX6_trap_44 : decode cX6_trap 44 = .ok (.istore 4, 2) := by decide +kernel
theorem dX6_trap_46 : decode cX6_trap 46 = .ok (.iload 4, 2) := by decide +kernel
theorem dX6_trap_48 : decode cX6_trap 48 = .ok (.iconst (-1), 1) := by decide +kernel
theorem dX6_trap_49 : decode cX6_trap 49 = .ok (.if_icmp .eq 11, 3) := by decide +kernel
theorem dX6_trap_52 : decode cX6_trap 52 = .ok (.iload 4, 2) := by decide +kernel
theorem dX6_trap_54 : decode cX6_trap 54 = .ok (.iload_n 3, 1) := by decide +kernel
theorem dX6_trap_55 : decode cX6_trap 55 = .ok (.if_icmp .eq 5, 3) := by decide +kernel
theorem dX6_trap_58 : decode cX6_trap 58 = .ok (.iload_n 3, 1) := by decide +kernel
theorem dX6_trap_59 : decode cX6_trap 59 = .ok (.ireturn, 1) := by decide +kernel
theorem dX6_trap_60 : decode cX6_trap 60 = .ok (.iinc 3 1, 3) := by decide +kernel
theorem dX6_trap_63 : decode cX6_trap 63 = .ok (.goto (-36), 3) := by decide +kernel
theorem dX6_trap_66 : decode cX6_trap 66 = .ok (.iconst (-1), 1) := by decide +kernel
theorem dX6_trap_67 : decode cX6_trap 67 = .ok (.ireturn, 1) := by decide +kernel
theorem dX6_person_0 : decode cX6_person 0 = .ok (.aload_n 0, 1) := by decide +kernel
theorem dX6_person_1 : decode cX6_person 1 = .ok (.getfield 19, 3) := by decide +kernel
theorem dX6_person_4 : decode cX6_person 4 = .ok (.iload_n 1, 1) := by decide +kernel
theorem dX6_person_5 : decode cX6_person 5 = .ok (.invokevirtual 81, 3) := by decide +kernel
theorem dX6_person_8 : decode cX6_person 8 = .ok (.ifCond .eq 14, 3) := by decide +kernel
theorem dX6_person_11 : decode cX6_person 11 = .ok (.aload_n 0, 1) := by decide +kernel
theorem dX6_person_12 : decode cX6_person 12 = .ok (.getfield 33, 3) := by decide +kernel
theorem dX6_person_15 : decode cX6_person 15 = .ok (.iload_n 1, 1) := by decide +kernel
theorem dX6_person_16 : decode cX6_person 16 = .ok (.invokevirtual 160, 3) := by decide +kernel
theorem dX6_person_19 : decode cX6_person 19 = .ok (.goto 5, 3) := by decide +kernel
theorem dX6_person_22 : decode cX6_person 22 = .ok (.bipush (-2), 2) := by decide +kernel
theorem dX6_person_24 : decode cX6_person 24 = .ok (.ireturn, 1) := by decide +kernel
theorem dX6_gift_0 : decode cX6_gift 0 = .ok (.aload_n 0, 1) := by decide +kernel
theorem dX6_gift_1 : decode cX6_gift 1 = .ok (.getfield 33, 3) := by decide +kernel
theorem dX6_gift_4 : decode cX6_gift 4 = .ok (.iload_n 1, 1) := by decide +kernel
theorem dX6_gift_5 : decode cX6_gift 5 = .ok (.iload_n 2, 1) := by decide +kernel
theorem dX6_gift_6 : decode cX6_gift 6 = .ok (.invokevirtual 163, 3) := by decide +kernel
theorem dX6_gift_9 : decode cX6_gift 9 = .ok (.ifCond .eq 14, 3) := by decide +kernel
theorem dX6_gift_12 : decode cX6_gift 12 = .ok (.iload_n 3, 1) := by decide +kernel
theorem dX6_gift_13 : decode cX6_gift 13 = .ok (.iconst 1, 1) := by decide +kernel
theorem dX6_gift_14 : decode cX6_gift 14 = .ok (.sipush 400, 3) := by decide +kernel
theorem dX6_gift_17 : decode cX6_gift 17 = .ok (.invokestatic 55, 3) := by decide +kernel
theorem dX6_gift_20 : decode cX6_gift 20 = .ok (.ifCond .ne 6, 3) := by decide +kernel
theorem dX6_gift_23 : decode cX6_gift 23 = .ok (.bipush (-2), 2) := by decide +kernel
theorem dX6_gift_25 : decode cX6_gift 25 = .ok (.ireturn, 1) := by decide +kernel
theorem dX6_gift_26 : decode cX6_gift 26 = .ok (.aload_n 0, 1) := by decide +kernel
theorem dX6_gift_27 : decode cX6_gift 27 = .ok (.getfield 33, 3) := by decide +kernel
theorem dX6_gift_30 : decode cX6_gift 30 = .ok (.iload_n 1, 1) := by decide +kernel
theorem dX6_gift_31 : decode cX6_gift 31 = .ok (.iload_n 2, 1) := by decide +kernel
theorem dX6_gift_32 : decode cX6_gift 32 = .ok (.iload_n 3, 1) := by decide +kernel
theorem dX6_gift_33 : decode cX6_gift 33 = .ok (.invokevirtual 166, 3) := by decide +kernel
theorem dX6_gift_36 : decode cX6_gift 36 = .ok (.ireturn, 1) := by decide +kernel
theorem dX6_owed_0 : decode cX6_owed 0 = .ok (.aload_n 0, 1) := by decide +kernel
theorem dX6_owed_1 : decode cX6_owed 1 = .ok (.getfield 33, 3) := by decide +kernel
theorem dX6_owed_4 : decode cX6_owed 4 = .ok (.iload_n 1, 1) := by decide +kernel
theorem dX6_owed_5 : decode cX6_owed 5 = .ok (.iload_n 2, 1) := by decide +kernel
theorem dX6_owed_6 : decode cX6_owed 6 = .ok (.invokevirtual 163, 3) := by decide +kernel
theorem dX6_owed_9 : decode cX6_owed 9 = .ok (.ifCond .eq 15, 3) := by decide +kernel
theorem dX6_owed_12 : decode cX6_owed 12 = .ok (.aload_n 0, 1) := by decide +kernel
theorem dX6_owed_13 : decode cX6_owed 13 = .ok (.getfield 33, 3) := by decide +kernel
theorem dX6_owed_16 : decode cX6_owed 16 = .ok (.iload_n 1, 1) := by decide +kernel
theorem dX6_owed_17 : decode cX6_owed 17 = .ok (.iload_n 2, 1) := by decide +kernel
theorem dX6_owed_18 : decode cX6_owed 18 = .ok (.invokevirtual 169, 3) := by decide +kernel
theorem dX6_owed_21 : decode cX6_owed 21 = .ok (.goto 5, 3) := by decide +kernel
theorem dX6_owed_24 : decode cX6_owed 24 = .ok (.bipush (-2), 2) := by decide +kernel
theorem dX6_owed_26 : decode cX6_owed 26 = .ok (.ireturn, 1) := by decide +kernel
theorem dX6_told_0 : decode cX6_told 0 = .ok (.aload_n 0, 1) := by decide +kernel
theorem dX6_told_1 : decode cX6_told 1 = .ok (.getfield 33, 3) := by decide +kernel
theorem dX6_told_4 : decode cX6_told 4 = .ok (.iload_n 1, 1) := by decide +kernel
theorem dX6_told_5 : decode cX6_told 5 = .ok (.iload_n 2, 1) := by decide +kernel
theorem dX6_told_6 : decode cX6_told 6 = .ok (.invokevirtual 163, 3) := by decide +kernel
theorem dX6_told_9 : decode cX6_told 9 = .ok (.ifCond .ne 6, 3) := by decide +kernel
theorem dX6_told_12 : decode cX6_told 12 = .ok (.bipush (-2), 2) := by decide +kernel
theorem dX6_told_14 : decode cX6_told 14 = .ok (.ireturn, 1) := by decide +kernel
theorem dX6_told_15 : decode cX6_told 15 = .ok (.aload_n 0, 1) := by decide +kernel
theorem dX6_told_16 : decode cX6_told 16 = .ok (.getfield 33, 3) := by decide +kernel
theorem dX6_told_19 : decode cX6_told 19 = .ok (.iload_n 1, 1) := by decide +kernel
theorem dX6_told_20 : decode cX6_told 20 = .ok (.iload_n 2, 1) := by decide +kernel
theorem dX6_told_21 : decode cX6_told 21 = .ok (.invokevirtual 169, 3) := by decide +kernel
theorem dX6_told_24 : decode cX6_told 24 = .ok (.istore_n 3, 1) := by decide +kernel
theorem dX6_told_25 : decode cX6_told 25 = .ok (.aload_n 0, 1) := by decide +kernel
theorem dX6_told_26 : decode cX6_told 26 = .ok (.getfield 33, 3) := by decide +kernel
theorem dX6_told_29 : decode cX6_told 29 = .ok (.iload_n 2, 1) := by decide +kernel
theorem dX6_told_30 : decode cX6_told 30 = .ok (.invokevirtual 172, 3) := by decide +kernel
theorem dX6_told_33 : decode cX6_told 33 = .ok (.istore 4, 2) := by decide +kernel
theorem dX6_told_35 : decode cX6_told 35 = .ok (.iload_n 3, 1) := by decide +kernel
theorem dX6_told_36 : decode cX6_told 36 = .ok (.ifCond .ne 7, 3) := by decide +kernel
theorem dX6_told_39 : decode cX6_told 39 = .ok (.iconst 0, 1) := by decide +kernel
theorem dX6_told_40 : decode cX6_told 40 = .ok (.goto 27, 3) := by decide +kernel
theorem dX6_told_43 : decode cX6_told 43 = .ok (.bipush 100, 2) := by decide +kernel
theorem dX6_told_45 : decode cX6_told 45 = .ok (.aload_n 0, 1) := by decide +kernel
theorem dX6_told_46 : decode cX6_told 46 = .ok (.getfield 19, 3) := by decide +kernel
theorem dX6_told_49 : decode cX6_told 49 = .ok (.iload 4, 2) := by decide +kernel
theorem dX6_told_51 : decode cX6_told 51 = .ok (.iload_n 3, 1) := by decide +kernel
theorem dX6_told_52 : decode cX6_told 52 = .ok (.invokevirtual 112, 3) := by decide +kernel
theorem dX6_told_55 : decode cX6_told 55 = .ok (.imul, 1) := by decide +kernel
theorem dX6_told_56 : decode cX6_told 56 = .ok (.aload_n 0, 1) := by decide +kernel
theorem dX6_told_57 : decode cX6_told 57 = .ok (.getfield 19, 3) := by decide +kernel
theorem dX6_told_60 : decode cX6_told 60 = .ok (.iload 4, 2) := by decide +kernel
theorem dX6_told_62 : decode cX6_told 62 = .ok (.iload_n 3, 1) := by decide +kernel
theorem dX6_told_63 : decode cX6_told 63 = .ok (.invokevirtual 109, 3) := by decide +kernel
theorem dX6_told_66 : decode cX6_told 66 = .ok (.iadd, 1) := by decide +kernel
theorem dX6_told_67 : decode cX6_told 67 = .ok (.ireturn, 1) := by decide +kernel
theorem dX6_close_0 : decode cX6_close 0 = .ok (.aload_n 0, 1) := by decide +kernel
theorem dX6_close_1 : decode cX6_close 1 = .ok (.getfield 33, 3) := by decide +kernel
theorem dX6_close_4 : decode cX6_close 4 = .ok (.invokevirtual 175, 3) := by decide +kernel
theorem dX6_close_7 : decode cX6_close 7 = .ok (.ireturn, 1) := by decide +kernel
theorem dX6_worth_0 : decode cX6_worth 0 = .ok (.aload_n 0, 1) := by decide +kernel
theorem dX6_worth_1 : decode cX6_worth 1 = .ok (.getfield 33, 3) := by decide +kernel
theorem dX6_worth_4 : decode cX6_worth 4 = .ok (.iload_n 1, 1) := by decide +kernel
theorem dX6_worth_5 : decode cX6_worth 5 = .ok (.invokevirtual 178, 3) := by decide +kernel
theorem dX6_worth_8 : decode cX6_worth 8 = .ok (.ifCond .eq 14, 3) := by decide +kernel
theorem dX6_worth_11 : decode cX6_worth 11 = .ok (.aload_n 0, 1) := by decide +kernel
theorem dX6_worth_12 : decode cX6_worth 12 = .ok (.getfield 33, 3) := by decide +kernel
theorem dX6_worth_15 : decode cX6_worth 15 = .ok (.iload_n 1, 1) := by decide +kernel
theorem dX6_worth_16 : decode cX6_worth 16 = .ok (.invokevirtual 179, 3) := by decide +kernel
theorem dX6_worth_19 : decode cX6_worth 19 = .ok (.goto 5, 3) := by decide +kernel
theorem dX6_worth_22 : decode cX6_worth 22 = .ok (.ldc 182, 2) := by decide +kernel
theorem dX6_worth_24 : decode cX6_worth 24 = .ok (.ireturn, 1) := by decide +kernel
theorem dX6_list_0 : decode cX6_list 0 = .ok (.aload_n 0, 1) := by decide +kernel
theorem dX6_list_1 : decode cX6_list 1 = .ok (.getfield 10, 3) := by decide +kernel
theorem dX6_list_4 : decode cX6_list 4 = .ok (.iload_n 1, 1) := by decide +kernel
theorem dX6_list_5 : decode cX6_list 5 = .ok (.invokevirtual 51, 3) := by decide +kernel
theorem dX6_list_8 : decode cX6_list 8 = .ok (.ifCond .eq 24, 3) := by decide +kernel
theorem dX6_list_11 : decode cX6_list 11 = .ok (.iload_n 2, 1) := by decide +kernel
theorem dX6_list_12 : decode cX6_list 12 = .ok (.iconst 0, 1) := by decide +kernel
theorem dX6_list_13 : decode cX6_list 13 = .ok (.bipush 30, 2) := by decide +kernel
theorem dX6_list_15 : decode cX6_list 15 = .ok (.invokestatic 55, 3) := by decide +kernel
theorem dX6_list_18 : decode cX6_list 18 = .ok (.ifCond .eq 14, 3) := by decide +kernel
theorem dX6_list_21 : decode cX6_list 21 = .ok (.iload_n 3, 1) := by decide +kernel
theorem dX6_list_22 : decode cX6_list 22 = .ok (.iconst 0, 1) := by decide +kernel
theorem dX6_list_23 : decode cX6_list 23 = .ok (.sipush 3000, 3) := by decide +kernel
theorem dX6_list_26 : decode cX6_list 26 = .ok (.invokestatic 55, 3) := by decide +kernel
theorem dX6_list_29 : decode cX6_list 29 = .ok (.ifCond .ne 6, 3) := by decide +kernel
theorem dX6_list_32 : decode cX6_list 32 = .ok (.bipush (-2), 2) := by decide +kernel
theorem dX6_list_34 : decode cX6_list 34 = .ok (.ireturn, 1) := by decide +kernel
theorem dX6_list_35 : decode cX6_list 35 = .ok (.aload_n 0, 1) := by decide +kernel
theorem dX6_list_36 : decode cX6_list 36 = .ok (.getfield 10, 3) := by decide +kernel
theorem dX6_list_39 : decode cX6_list 39 = .ok (.iload_n 1, 1) := by decide +kernel
theorem dX6_list_40 : decode cX6_list 40 = .ok (.invokevirtual 59, 3) := by decide +kernel
theorem dX6_list_43 : decode cX6_list 43 = .ok (.ifCond .eq 12, 3) := by decide +kernel
theorem dX6_list_46 : decode cX6_list 46 = .ok (.aload_n 0, 1) := by decide +kernel
theorem dX6_list_47 : decode cX6_list 47 = .ok (.getfield 10, 3) := by decide +kernel
theorem dX6_list_50 : decode cX6_list 50 = .ok (.iconst 1, 1) := by decide +kernel
theorem dX6_list_51 : decode cX6_list 51 = .ok (.invokevirtual 62, 3) := by decide +kernel
theorem dX6_list_54 : decode cX6_list 54 = .ok (.ireturn, 1) := by decide +kernel
theorem dX6_list_55 : decode cX6_list 55 = .ok (.iload_n 2, 1) := by decide +kernel
theorem dX6_list_56 : decode cX6_list 56 = .ok (.aload_n 0, 1) := by decide +kernel
theorem dX6_list_57 : decode cX6_list 57 = .ok (.getfield 10, 3) := by decide +kernel
theorem dX6_list_60 : decode cX6_list 60 = .ok (.iload_n 1, 1) := by decide +kernel
theorem dX6_list_61 : decode cX6_list 61 = .ok (.invokevirtual 66, 3) := by decide +kernel
theorem dX6_list_64 : decode cX6_list 64 = .ok (.if_icmp .le 12, 3) := by decide +kernel
theorem dX6_list_67 : decode cX6_list 67 = .ok (.aload_n 0, 1) := by decide +kernel
theorem dX6_list_68 : decode cX6_list 68 = .ok (.getfield 10, 3) := by decide +kernel
theorem dX6_list_71 : decode cX6_list 71 = .ok (.iconst 2, 1) := by decide +kernel
theorem dX6_list_72 : decode cX6_list 72 = .ok (.invokevirtual 62, 3) := by decide +kernel
theorem dX6_list_75 : decode cX6_list 75 = .ok (.ireturn, 1) := by decide +kernel
theorem dX6_list_76 : decode cX6_list 76 = .ok (.aload_n 0, 1) := by decide +kernel
theorem dX6_list_77 : decode cX6_list 77 = .ok (.getfield 40, 3) := by decide +kernel
theorem dX6_list_80 : decode cX6_list 80 = .ok (.invokevirtual 183, 3) := by decide +kernel
theorem dX6_list_83 : decode cX6_list 83 = .ok (.ifCond .eq 8, 3) := by decide +kernel
theorem dX6_list_86 : decode cX6_list 86 = .ok (.bipush (-4), 2) := by decide +kernel
theorem dX6_list_88 : decode cX6_list 88 = .ok (.goto 17, 3) := by decide +kernel
theorem dX6_list_91 : decode cX6_list 91 = .ok (.aload_n 0, 1) := by decide +kernel
theorem dX6_list_92 : decode cX6_list 92 = .ok (.getfield 40, 3) := by decide +kernel
theorem dX6_list_95 : decode cX6_list 95 = .ok (.aload_n 0, 1) := by decide +kernel
theorem dX6_list_96 : decode cX6_list 96 = .ok (.getfield 10, 3) := by decide +kernel
theorem dX6_list_99 : decode cX6_list 99 = .ok (.iload_n 1, 1) := by decide +kernel
theorem dX6_list_100 : decode cX6_list 100 = .ok (.iload_n 2, 1) := by decide +kernel
theorem dX6_list_101 : decode cX6_list 101 = .ok (.iload_n 3, 1) := by decide +kernel
theorem dX6_list_102 : decode cX6_list 102 = .ok (.invokevirtual 184, 3) := by decide +kernel
theorem dX6_list_105 : decode cX6_list 105 = .ok (.ireturn, 1) := by decide +kernel
theorem dX6_word_0 : decode cX6_word 0 = .ok (.aload_n 0, 1) := by decide +kernel
theorem dX6_word_1 : decode cX6_word 1 = .ok (.getfield 40, 3) := by decide +kernel
theorem dX6_word_4 : decode cX6_word 4 = .ok (.iload_n 1, 1) := by decide +kernel
theorem dX6_word_5 : decode cX6_word 5 = .ok (.invokevirtual 188, 3) := by decide +kernel
theorem dX6_word_8 : decode cX6_word 8 = .ok (.ifCond .eq 21, 3) := by decide +kernel
theorem dX6_word_11 : decode cX6_word 11 = .ok (.iload_n 2, 1) := by decide +kernel
theorem dX6_word_12 : decode cX6_word 12 = .ok (.iconst 0, 1) := by decide +kernel
theorem dX6_word_13 : decode cX6_word 13 = .ok (.aload_n 0, 1) := by decide +kernel
theorem dX6_word_14 : decode cX6_word 14 = .ok (.getfield 40, 3) := by decide +kernel
theorem dX6_word_17 : decode cX6_word 17 = .ok (.iload_n 1, 1) := by decide +kernel
theorem dX6_word_18 : decode cX6_word 18 = .ok (.invokevirtual 189, 3) := by decide +kernel
theorem dX6_word_21 : decode cX6_word 21 = .ok (.iconst 1, 1) := by decide +kernel
theorem dX6_word_22 : decode cX6_word 22 = .ok (.isub, 1) := by decide +kernel
theorem dX6_word_23 : decode cX6_word 23 = .ok (.invokestatic 55, 3) := by decide +kernel
theorem dX6_word_26 : decode cX6_word 26 = .ok (.ifCond .ne 6, 3) := by decide +kernel
theorem dX6_word_29 : decode cX6_word 29 = .ok (.bipush (-2), 2) := by decide +kernel
theorem dX6_word_31 : decode cX6_word 31 = .ok (.ireturn, 1) := by decide +kernel
theorem dX6_word_32 : decode cX6_word 32 = .ok (.aload_n 0, 1) := by decide +kernel
theorem dX6_word_33 : decode cX6_word 33 = .ok (.getfield 40, 3) := by decide +kernel
theorem dX6_word_36 : decode cX6_word 36 = .ok (.iload_n 1, 1) := by decide +kernel
theorem dX6_word_37 : decode cX6_word 37 = .ok (.iload_n 2, 1) := by decide +kernel
theorem dX6_word_38 : decode cX6_word 38 = .ok (.invokevirtual 192, 3) := by decide +kernel
theorem dX6_word_41 : decode cX6_word 41 = .ok (.ireturn, 1) := by decide +kernel
theorem dX6_listIs_0 : decode cX6_listIs 0 = .ok (.aload_n 0, 1) := by decide +kernel
theorem dX6_listIs_1 : decode cX6_listIs 1 = .ok (.getfield 40, 3) := by decide +kernel
theorem dX6_listIs_4 : decode cX6_listIs 4 = .ok (.iload_n 1, 1) := by decide +kernel
theorem dX6_listIs_5 : decode cX6_listIs 5 = .ok (.invokevirtual 188, 3) := by decide +kernel
theorem dX6_listIs_8 : decode cX6_listIs 8 = .ok (.ifCond .ne 6, 3) := by decide +kernel
theorem dX6_listIs_11 : decode cX6_listIs 11 = .ok (.bipush (-2), 2) := by decide +kernel
theorem dX6_listIs_13 : decode cX6_listIs 13 = .ok (.ireturn, 1) := by decide +kernel
theorem dX6_listIs_14 : decode cX6_listIs 14 = .ok (.iload_n 2, 1) := by decide +kernel
theorem dX6_listIs_15 : decode cX6_listIs 15 = .ok (.tableswitch 86 0 4 #[33, 42, 51, 60, 69], 33) := by decide +kernel
theorem dX6_listIs_48 : decode cX6_listIs 48 = .ok (.aload_n 0, 1) := by decide +kernel
theorem dX6_listIs_49 : decode cX6_listIs 49 = .ok (.getfield 40, 3) := by decide +kernel
theorem dX6_listIs_52 : decode cX6_listIs 52 = .ok (.iload_n 1, 1) := by decide +kernel
theorem dX6_listIs_53 : decode cX6_listIs 53 = .ok (.invokevirtual 189, 3) := by decide +kernel
theorem dX6_listIs_56 : decode cX6_listIs 56 = .ok (.ireturn, 1) := by decide +kernel
theorem dX6_listIs_57 : decode cX6_listIs 57 = .ok (.aload_n 0, 1) := by decide +kernel
theorem dX6_listIs_58 : decode cX6_listIs 58 = .ok (.getfield 40, 3) := by decide +kernel
theorem dX6_listIs_61 : decode cX6_listIs 61 = .ok (.iload_n 1, 1) := by decide +kernel
theorem dX6_listIs_62 : decode cX6_listIs 62 = .ok (.invokevirtual 195, 3) := by decide +kernel
theorem dX6_listIs_65 : decode cX6_listIs 65 = .ok (.ireturn, 1) := by decide +kernel
theorem dX6_listIs_66 : decode cX6_listIs 66 = .ok (.aload_n 0, 1) := by decide +kernel
theorem dX6_listIs_67 : decode cX6_listIs 67 = .ok (.getfield 40, 3) := by decide +kernel
theorem dX6_listIs_70 : decode cX6_listIs 70 = .ok (.iload_n 1, 1) := by decide +kernel
theorem dX6_listIs_71 : decode cX6_listIs 71 = .ok (.invokevirtual 198, 3) := by decide +kernel
theorem dX6_listIs_74 : decode cX6_listIs 74 = .ok (.ireturn, 1) := by decide +kernel
theorem dX6_listIs_75 : decode cX6_listIs 75 = .ok (.aload_n 0, 1) := by decide +kernel
theorem dX6_listIs_76 : decode cX6_listIs 76 = .ok (.getfield 40, 3) := by decide +kernel
theorem dX6_listIs_79 : decode cX6_listIs 79 = .ok (.iload_n 1, 1) := by decide +kernel
theorem dX6_listIs_80 : decode cX6_listIs 80 = .ok (.invokevirtual 201, 3) := by decide +kernel
theorem dX6_listIs_83 : decode cX6_listIs 83 = .ok (.ireturn, 1) := by decide +kernel
theorem dX6_listIs_84 : decode cX6_listIs 84 = .ok (.aload_n 0, 1) := by decide +kernel
theorem dX6_listIs_85 : decode cX6_listIs 85 = .ok (.getfield 40, 3) := by decide +kernel
theorem dX6_listIs_88 : decode cX6_listIs 88 = .ok (.iload_n 1, 1) := by decide +kernel
theorem dX6_listIs_89 : decode cX6_listIs 89 = .ok (.invokevirtual 204, 3) := by decide +kernel
theorem dX6_listIs_92 : decode cX6_listIs 92 = .ok (.ifCond .eq 7, 3) := by decide +kernel
theorem dX6_listIs_95 : decode cX6_listIs 95 = .ok (.iconst 1, 1) := by decide +kernel
theorem dX6_listIs_96 : decode cX6_listIs 96 = .ok (.goto 4, 3) := by decide +kernel
theorem dX6_listIs_99 : decode cX6_listIs 99 = .ok (.iconst 0, 1) := by decide +kernel
theorem dX6_listIs_100 : decode cX6_listIs 100 = .ok (.ireturn, 1) := by decide +kernel
theorem dX6_listIs_101 : decode cX6_listIs 101 = .ok (.bipush (-2), 2) := by decide +kernel
theorem dX6_listIs_103 : decode cX6_listIs 103 = .ok (.ireturn, 1) := by decide +kernel
theorem dX6_changes_0 : decode cX6_changes 0 = .ok (.aload_n 0, 1) := by decide +kernel
theorem dX6_changes_1 : decode cX6_changes 1 = .ok (.getfield 40, 3) := by decide +kernel
theorem dX6_changes_4 : decode cX6_changes 4 = .ok (.iload_n 1, 1) := by decide +kernel
theorem dX6_changes_5 : decode cX6_changes 5 = .ok (.invokevirtual 188, 3) := by decide +kernel
theorem dX6_changes_8 : decode cX6_changes 8 = .ok (.ifCond .eq 26, 3) := by decide +kernel
theorem dX6_changes_11 : decode cX6_changes 11 = .ok (.aload_n 0, 1) := by decide +kernel
theorem dX6_changes_12 : decode cX6_changes 12 = .ok (.getfield 40, 3) := by decide +kernel
theorem dX6_changes_15 : decode cX6_changes 15 = .ok (.iload_n 2, 1) := by decide +kernel
theorem dX6_changes_16 : decode cX6_changes 16 = .ok (.invokevirtual 188, 3) := by decide +kernel
theorem dX6_changes_19 : decode cX6_changes 19 = .ok (.ifCond .eq 15, 3) := by decide +kernel
theorem dX6_changes_22 : decode cX6_changes 22 = .ok (.aload_n 0, 1) := by decide +kernel
theorem dX6_changes_23 : decode cX6_changes 23 = .ok (.getfield 40, 3) := by decide +kernel
theorem dX6_changes_26 : decode cX6_changes 26 = .ok (.iload_n 1, 1) := by decide +kernel
theorem dX6_changes_27 : decode cX6_changes 27 = .ok (.iload_n 2, 1) := by decide +kernel
theorem dX6_changes_28 : decode cX6_changes 28 = .ok (.invokevirtual 207, 3) := by decide +kernel
theorem dX6_changes_31 : decode cX6_changes 31 = .ok (.goto 5, 3) := by decide +kernel
theorem dX6_changes_34 : decode cX6_changes 34 = .ok (.bipush (-2), 2) := by decide +kernel
theorem dX6_changes_36 : decode cX6_changes 36 = .ok (.ireturn, 1) := by decide +kernel
theorem dX6_mother_0 : decode cX6_mother 0 = .ok (.aload_n 0, 1) := by decide +kernel
theorem dX6_mother_1 : decode cX6_mother 1 = .ok (.getfield 40, 3) := by decide +kernel
theorem dX6_mother_4 : decode cX6_mother 4 = .ok (.iload_n 1, 1) := by decide +kernel
theorem dX6_mother_5 : decode cX6_mother 5 = .ok (.invokevirtual 188, 3) := by decide +kernel
theorem dX6_mother_8 : decode cX6_mother 8 = .ok (.ifCond .eq 14, 3) := by decide +kernel
theorem dX6_mother_11 : decode cX6_mother 11 = .ok (.aload_n 0, 1) := by decide +kernel
theorem dX6_mother_12 : decode cX6_mother 12 = .ok (.getfield 40, 3) := by decide +kernel
theorem dX6_mother_15 : decode cX6_mother 15 = .ok (.iload_n 1, 1) := by decide +kernel
theorem dX6_mother_16 : decode cX6_mother 16 = .ok (.invokevirtual 210, 3) := by decide +kernel
theorem dX6_mother_19 : decode cX6_mother 19 = .ok (.goto 5, 3) := by decide +kernel
theorem dX6_mother_22 : decode cX6_mother 22 = .ok (.bipush (-2), 2) := by decide +kernel
theorem dX6_mother_24 : decode cX6_mother 24 = .ok (.ireturn, 1) := by decide +kernel
theorem dX6_mothers_0 : decode cX6_mothers 0 = .ok (.aload_n 0, 1) := by decide +kernel
theorem dX6_mothers_1 : decode cX6_mothers 1 = .ok (.getfield 40, 3) := by decide +kernel
theorem dX6_mothers_4 : decode cX6_mothers 4 = .ok (.iload_n 1, 1) := by decide +kernel
theorem dX6_mothers_5 : decode cX6_mothers 5 = .ok (.invokevirtual 188, 3) := by decide +kernel
theorem dX6_mothers_8 : decode cX6_mothers 8 = .ok (.ifCond .eq 14, 3) := by decide +kernel
theorem dX6_mothers_11 : decode cX6_mothers 11 = .ok (.aload_n 0, 1) := by decide +kernel
theorem dX6_mothers_12 : decode cX6_mothers 12 = .ok (.getfield 40, 3) := by decide +kernel
theorem dX6_mothers_15 : decode cX6_mothers 15 = .ok (.iload_n 1, 1) := by decide +kernel
theorem dX6_mothers_16 : decode cX6_mothers 16 = .ok (.invokevirtual 213, 3) := by decide +kernel
theorem dX6_mothers_19 : decode cX6_mothers 19 = .ok (.goto 5, 3) := by decide +kernel
theorem dX6_mothers_22 : decode cX6_mothers 22 = .ok (.bipush (-2), 2) := by decide +kernel
theorem dX6_mothers_24 : decode cX6_mothers 24 = .ok (.ireturn, 1) := by decide +kernel
theorem dX6_strange_0 : decode cX6_strange 0 = .ok (.aload_n 0, 1) := by decide +kernel
theorem dX6_strange_1 : decode cX6_strange 1 = .ok (.getfield 40, 3) := by decide +kernel
theorem dX6_strange_4 : decode cX6_strange 4 = .ok (.iload_n 1, 1) := by decide +kernel
theorem dX6_strange_5 : decode cX6_strange 5 = .ok (.invokevirtual 188, 3) := by decide +kernel
theorem dX6_strange_8 : decode cX6_strange 8 = .ok (.ifCond .ne 6, 3) := by decide +kernel
theorem dX6_strange_11 : decode cX6_strange 11 = .ok (.bipush (-2), 2) := by decide +kernel
theorem dX6_strange_13 : decode cX6_strange 13 = .ok (.ireturn, 1) := by decide +kernel
theorem dX6_strange_14 : decode cX6_strange 14 = .ok (.aload_n 0, 1) := by decide +kernel
theorem dX6_strange_15 : decode cX6_strange 15 = .ok (.getfield 40, 3) := by decide +kernel
theorem dX6_strange_18 : decode cX6_strange 18 = .ok (.iload_n 1, 1) := by decide +kernel
theorem dX6_strange_19 : decode cX6_strange 19 = .ok (.invokevirtual 213, 3) := by decide +kernel
theorem dX6_strange_22 : decode cX6_strange 22 = .ok (.istore_n 2, 1) := by decide +kernel
theorem dX6_strange_23 : decode cX6_strange 23 = .ok (.iload_n 2, 1) := by decide +kernel
theorem dX6_strange_24 : decode cX6_strange 24 = .ok (.iconst (-1), 1) := by decide +kernel
theorem dX6_strange_25 : decode cX6_strange 25 = .ok (.if_icmp .ne 7, 3) := by decide +kernel
theorem dX6_strange_28 : decode cX6_strange 28 = .ok (.iconst (-1), 1) := by decide +kernel
theorem dX6_strange_29 : decode cX6_strange 29 = .ok (.goto 19, 3) := by decide +kernel
theorem dX6_strange_32 : decode cX6_strange 32 = .ok (.aload_n 0, 1) := by decide +kernel
theorem dX6_strange_33 : decode cX6_strange 33 = .ok (.getfield 40, 3) := by decide +kernel
theorem dX6_strange_36 : decode cX6_strange 36 = .ok (.iload_n 1, 1) := by decide +kernel
theorem dX6_strange_37 : decode cX6_strange 37 = .ok (.iload_n 2, 1) := by decide +kernel
theorem dX6_strange_38 : decode cX6_strange 38 = .ok (.bipush 10, 2) := by decide +kernel
theorem dX6_strange_40 : decode cX6_strange 40 = .ok (.idiv, 1) := by decide +kernel
theorem dX6_strange_41 : decode cX6_strange 41 = .ok (.iload_n 2, 1) := by decide +kernel
theorem dX6_strange_42 : decode cX6_strange 42 = .ok (.bipush 10, 2) := by decide +kernel
theorem dX6_strange_44 : decode cX6_strange 44 = .ok (.irem, 1) := by decide +kernel
theorem dX6_strange_45 : decode cX6_strange 45 = .ok (.invokevirtual 216, 3) := by decide +kernel
theorem dX6_strange_48 : decode cX6_strange 48 = .ok (.ireturn, 1) := by decide +kernel
theorem dX6_age_0 : decode cX6_age 0 = .ok (.aload_n 0, 1) := by decide +kernel
theorem dX6_age_1 : decode cX6_age 1 = .ok (.getfield 40, 3) := by decide +kernel
theorem dX6_age_4 : decode cX6_age 4 = .ok (.iload_n 1, 1) := by decide +kernel
theorem dX6_age_5 : decode cX6_age 5 = .ok (.invokevirtual 188, 3) := by decide +kernel
theorem dX6_age_8 : decode cX6_age 8 = .ok (.ifCond .eq 14, 3) := by decide +kernel
theorem dX6_age_11 : decode cX6_age 11 = .ok (.aload_n 0, 1) := by decide +kernel
theorem dX6_age_12 : decode cX6_age 12 = .ok (.getfield 40, 3) := by decide +kernel
theorem dX6_age_15 : decode cX6_age 15 = .ok (.iload_n 1, 1) := by decide +kernel
theorem dX6_age_16 : decode cX6_age 16 = .ok (.invokevirtual 219, 3) := by decide +kernel
theorem dX6_age_19 : decode cX6_age 19 = .ok (.goto 5, 3) := by decide +kernel
theorem dX6_age_22 : decode cX6_age 22 = .ok (.bipush (-2), 2) := by decide +kernel
theorem dX6_age_24 : decode cX6_age 24 = .ok (.ireturn, 1) := by decide +kernel
theorem dX6_slips_0 : decode cX6_slips 0 = .ok (.aload_n 0, 1) := by decide +kernel
theorem dX6_slips_1 : decode cX6_slips 1 = .ok (.getfield 40, 3) := by decide +kernel
theorem dX6_slips_4 : decode cX6_slips 4 = .ok (.iload_n 1, 1) := by decide +kernel
theorem dX6_slips_5 : decode cX6_slips 5 = .ok (.invokevirtual 188, 3) := by decide +kernel
theorem dX6_slips_8 : decode cX6_slips 8 = .ok (.ifCond .eq 19, 3) := by decide +kernel
theorem dX6_slips_11 : decode cX6_slips 11 = .ok (.aload_n 0, 1) := by decide +kernel
theorem dX6_slips_12 : decode cX6_slips 12 = .ok (.getfield 40, 3) := by decide +kernel
theorem dX6_slips_15 : decode cX6_slips 15 = .ok (.iload_n 2, 1) := by decide +kernel
theorem dX6_slips_16 : decode cX6_slips 16 = .ok (.invokevirtual 188, 3) := by decide +kernel
theorem dX6_slips_19 : decode cX6_slips 19 = .ok (.ifCond .eq 8, 3) := by decide +kernel
theorem dX6_slips_22 : decode cX6_slips 22 = .ok (.iload_n 1, 1) := by decide +kernel
theorem dX6_slips_23 : decode cX6_slips 23 = .ok (.iload_n 2, 1) := by decide +kernel
theorem dX6_slips_24 : decode cX6_slips 24 = .ok (.if_icmp .ne 6, 3) := by decide +kernel
theorem dX6_slips_27 : decode cX6_slips 27 = .ok (.bipush (-2), 2) := by decide +kernel
theorem dX6_slips_29 : decode cX6_slips 29 = .ok (.ireturn, 1) := by decide +kernel
theorem dX6_slips_30 : decode cX6_slips 30 = .ok (.aload_n 0, 1) := by decide +kernel
theorem dX6_slips_31 : decode cX6_slips 31 = .ok (.getfield 40, 3) := by decide +kernel
theorem dX6_slips_34 : decode cX6_slips 34 = .ok (.iload_n 1, 1) := by decide +kernel
theorem dX6_slips_35 : decode cX6_slips 35 = .ok (.iload_n 2, 1) := by decide +kernel
theorem dX6_slips_36 : decode cX6_slips 36 = .ok (.invokevirtual 222, 3) := by decide +kernel
theorem dX6_slips_39 : decode cX6_slips 39 = .ok (.ireturn, 1) := by decide +kernel
theorem dX6_isTale_0 : decode cX6_isTale 0 = .ok (.aload_n 0, 1) := by decide +kernel
theorem dX6_isTale_1 : decode cX6_isTale 1 = .ok (.getfield 10, 3) := by decide +kernel
theorem dX6_isTale_4 : decode cX6_isTale 4 = .ok (.iload_n 1, 1) := by decide +kernel
theorem dX6_isTale_5 : decode cX6_isTale 5 = .ok (.invokevirtual 51, 3) := by decide +kernel
theorem dX6_isTale_8 : decode cX6_isTale 8 = .ok (.ifCond .eq 17, 3) := by decide +kernel
theorem dX6_isTale_11 : decode cX6_isTale 11 = .ok (.iload_n 2, 1) := by decide +kernel
theorem dX6_isTale_12 : decode cX6_isTale 12 = .ok (.iconst 1, 1) := by decide +kernel
theorem dX6_isTale_13 : decode cX6_isTale 13 = .ok (.bipush 30, 2) := by decide +kernel
theorem dX6_isTale_15 : decode cX6_isTale 15 = .ok (.invokestatic 55, 3) := by decide +kernel
theorem dX6_isTale_18 : decode cX6_isTale 18 = .ok (.ifCond .eq 7, 3) := by decide +kernel
theorem dX6_isTale_21 : decode cX6_isTale 21 = .ok (.iconst 1, 1) := by decide +kernel
theorem dX6_isTale_22 : decode cX6_isTale 22 = .ok (.goto 4, 3) := by decide +kernel
theorem dX6_isTale_25 : decode cX6_isTale 25 = .ok (.iconst 0, 1) := by decide +kernel
theorem dX6_isTale_26 : decode cX6_isTale 26 = .ok (.ireturn, 1) := by decide +kernel
theorem dX6_missing_0 : decode cX6_missing 0 = .ok (.aload_n 0, 1) := by decide +kernel
theorem dX6_missing_1 : decode cX6_missing 1 = .ok (.getfield 10, 3) := by decide +kernel
theorem dX6_missing_4 : decode cX6_missing 4 = .ok (.iload_n 1, 1) := by decide +kernel
theorem dX6_missing_5 : decode cX6_missing 5 = .ok (.invokevirtual 59, 3) := by decide +kernel
theorem dX6_missing_8 : decode cX6_missing 8 = .ok (.ifCond .eq 12, 3) := by decide +kernel
theorem dX6_missing_11 : decode cX6_missing 11 = .ok (.aload_n 0, 1) := by decide +kernel
theorem dX6_missing_12 : decode cX6_missing 12 = .ok (.getfield 10, 3) := by decide +kernel
theorem dX6_missing_15 : decode cX6_missing 15 = .ok (.iconst 1, 1) := by decide +kernel
theorem dX6_missing_16 : decode cX6_missing 16 = .ok (.invokevirtual 62, 3) := by decide +kernel
theorem dX6_missing_19 : decode cX6_missing 19 = .ok (.ireturn, 1) := by decide +kernel
theorem dX6_missing_20 : decode cX6_missing 20 = .ok (.iload_n 2, 1) := by decide +kernel
theorem dX6_missing_21 : decode cX6_missing 21 = .ok (.aload_n 0, 1) := by decide +kernel
theorem dX6_missing_22 : decode cX6_missing 22 = .ok (.getfield 10, 3) := by decide +kernel
theorem dX6_missing_25 : decode cX6_missing 25 = .ok (.iload_n 1, 1) := by decide +kernel
theorem dX6_missing_26 : decode cX6_missing 26 = .ok (.invokevirtual 66, 3) := by decide +kernel
theorem dX6_missing_29 : decode cX6_missing 29 = .ok (.if_icmp .le 14, 3) := by decide +kernel
theorem dX6_missing_32 : decode cX6_missing 32 = .ok (.aload_n 0, 1) := by decide +kernel
theorem dX6_missing_33 : decode cX6_missing 33 = .ok (.getfield 10, 3) := by decide +kernel
theorem dX6_missing_36 : decode cX6_missing 36 = .ok (.iconst 2, 1) := by decide +kernel
theorem dX6_missing_37 : decode cX6_missing 37 = .ok (.invokevirtual 62, 3) := by decide +kernel
theorem dX6_missing_40 : decode cX6_missing 40 = .ok (.goto 4, 3) := by decide +kernel
theorem dX6_missing_43 : decode cX6_missing 43 = .ok (.iconst 0, 1) := by decide +kernel
theorem dX6_missing_44 : decode cX6_missing 44 = .ok (.ireturn, 1) := by decide +kernel
theorem dX6_tells_0 : decode cX6_tells 0 = .ok (.iload 4, 2) := by decide +kernel
theorem dX6_tells_2 : decode cX6_tells 2 = .ok (.iload_n 2, 1) := by decide +kernel
theorem dX6_tells_3 : decode cX6_tells 3 = .ok (.iconst 1, 1) := by decide +kernel
theorem dX6_tells_4 : decode cX6_tells 4 = .ok (.isub, 1) := by decide +kernel
theorem dX6_tells_5 : decode cX6_tells 5 = .ok (.iload 5, 2) := by decide +kernel
theorem dX6_tells_7 : decode cX6_tells 7 = .ok (.imul, 1) := by decide +kernel
theorem dX6_tells_8 : decode cX6_tells 8 = .ok (.iadd, 1) := by decide +kernel
theorem dX6_tells_9 : decode cX6_tells 9 = .ok (.sipush 400, 3) := by decide +kernel
theorem dX6_tells_12 : decode cX6_tells 12 = .ok (.if_icmp .le 5, 3) := by decide +kernel
theorem dX6_tells_15 : decode cX6_tells 15 = .ok (.iconst 0, 1) := by decide +kernel
theorem dX6_tells_16 : decode cX6_tells 16 = .ok (.ireturn, 1) := by decide +kernel
theorem dX6_tells_17 : decode cX6_tells 17 = .ok (.iconst 0, 1) := by decide +kernel
theorem dX6_tells_18 : decode cX6_tells 18 = .ok (.istore 6, 2) := by decide +kernel
theorem dX6_tells_20 : decode cX6_tells 20 = .ok (.iload 6, 2) := by decide +kernel
theorem dX6_tells_22 : decode cX6_tells 22 = .ok (.iload_n 2, 1) := by decide +kernel
theorem dX6_tells_23 : decode cX6_tells 23 = .ok (.if_icmp .ge 50, 3) := by decide +kernel
theorem dX6_tells_26 : decode cX6_tells 26 = .ok (.aload_n 0, 1) := by decide +kernel
theorem dX6_tells_27 : decode cX6_tells 27 = .ok (.getfield 10, 3) := by decide +kernel
theorem dX6_tells_30 : decode cX6_tells 30 = .ok (.iload_n 1, 1) := by decide +kernel
theorem dX6_tells_31 : decode cX6_tells 31 = .ok (.iload 6, 2) := by decide +kernel
theorem dX6_tells_33 : decode cX6_tells 33 = .ok (.invokevirtual 225, 3) := by decide +kernel
theorem dX6_tells_36 : decode cX6_tells 36 = .ok (.istore 7, 2) := by decide +kernel
theorem dX6_tells_38 : decode cX6_tells 38 = .ok (.iload 7, 2) := by decide +kernel
theorem dX6_tells_40 : decode cX6_tells 40 = .ok (.iconst (-1), 1) := by decide +kernel
theorem dX6_tells_41 : decode cX6_tells 41 = .ok (.if_icmp .eq 26, 3) := by decide +kernel
theorem dX6_tells_44 : decode cX6_tells 44 = .ok (.iload 7, 2) := by decide +kernel
theorem dX6_tells_46 : decode cX6_tells 46 = .ok (.aload_n 0, 1) := by decide +kernel
theorem dX6_tells_47 : decode cX6_tells 47 = .ok (.getfield 19, 3) := by decide +kernel
theorem dX6_tells_50 : decode cX6_tells 50 = .ok (.iload_n 3, 1) := by decide +kernel
theorem dX6_tells_51 : decode cX6_tells 51 = .ok (.iload 4, 2) := by decide +kernel
theorem dX6_tells_53 : decode cX6_tells 53 = .ok (.iload 6, 2) := by decide +kernel
theorem dX6_tells_55 : decode cX6_tells 55 = .ok (.iload 5, 2) := by decide +kernel
theorem dX6_tells_57 : decode cX6_tells 57 = .ok (.imul, 1) := by decide +kernel
theorem dX6_tells_58 : decode cX6_tells 58 = .ok (.iadd, 1) := by decide +kernel
theorem dX6_tells_59 : decode cX6_tells 59 = .ok (.invokevirtual 226, 3) := by decide +kernel
theorem dX6_tells_62 : decode cX6_tells 62 = .ok (.if_icmp .eq 5, 3) := by decide +kernel
theorem dX6_tells_65 : decode cX6_tells 65 = .ok (.iconst 0, 1) := by decide +kernel
theorem dX6_tells_66 : decode cX6_tells 66 = .ok (.ireturn, 1) := by decide +kernel
theorem dX6_tells_67 : decode cX6_tells 67 = .ok (.iinc 6 1, 3) := by decide +kernel
theorem dX6_tells_70 : decode cX6_tells 70 = .ok (.goto (-50), 3) := by decide +kernel
theorem dX6_tells_73 : decode cX6_tells 73 = .ok (.iconst 1, 1) := by decide +kernel
theorem dX6_tells_74 : decode cX6_tells 74 = .ok (.ireturn, 1) := by decide +kernel
theorem dX6_countOfWalk_0 : decode cX6_countOfWalk 0 = .ok (.iload_n 0, 1) := by decide +kernel
theorem dX6_countOfWalk_1 : decode cX6_countOfWalk 1 = .ok (.sipush 1980, 3) := by decide +kernel
theorem dX6_countOfWalk_4 : decode cX6_countOfWalk 4 = .ok (.idiv, 1) := by decide +kernel
theorem dX6_countOfWalk_5 : decode cX6_countOfWalk 5 = .ok (.ireturn, 1) := by decide +kernel
theorem dX6_startOfWalk_0 : decode cX6_startOfWalk 0 = .ok (.iload_n 0, 1) := by decide +kernel
theorem dX6_startOfWalk_1 : decode cX6_startOfWalk 1 = .ok (.bipush 20, 2) := by decide +kernel
theorem dX6_startOfWalk_3 : decode cX6_startOfWalk 3 = .ok (.idiv, 1) := by decide +kernel
theorem dX6_startOfWalk_4 : decode cX6_startOfWalk 4 = .ok (.bipush 99, 2) := by decide +kernel
theorem dX6_startOfWalk_6 : decode cX6_startOfWalk 6 = .ok (.irem, 1) := by decide +kernel
theorem dX6_startOfWalk_7 : decode cX6_startOfWalk 7 = .ok (.iconst 1, 1) := by decide +kernel
theorem dX6_startOfWalk_8 : decode cX6_startOfWalk 8 = .ok (.iadd, 1) := by decide +kernel
theorem dX6_startOfWalk_9 : decode cX6_startOfWalk 9 = .ok (.ireturn, 1) := by decide +kernel
theorem dX6_stepOfWalk_0 : decode cX6_stepOfWalk 0 = .ok (.iload_n 0, 1) := by decide +kernel
theorem dX6_stepOfWalk_1 : decode cX6_stepOfWalk 1 = .ok (.bipush 20, 2) := by decide +kernel
theorem dX6_stepOfWalk_3 : decode cX6_stepOfWalk 3 = .ok (.irem, 1) := by decide +kernel
theorem dX6_stepOfWalk_4 : decode cX6_stepOfWalk 4 = .ok (.iconst 1, 1) := by decide +kernel
theorem dX6_stepOfWalk_5 : decode cX6_stepOfWalk 5 = .ok (.iadd, 1) := by decide +kernel
theorem dX6_stepOfWalk_6 : decode cX6_stepOfWalk 6 = .ok (.ireturn, 1) := by decide +kernel
theorem dX6_allWalks_0 : decode cX6_allWalks 0 = .ok (.aload_n 0, 1) := by decide +kernel
theorem dX6_allWalks_1 : decode cX6_allWalks 1 = .ok (.getfield 19, 3) := by decide +kernel
theorem dX6_allWalks_4 : decode cX6_allWalks 4 = .ok (.invokevirtual 229, 3) := by decide +kernel
theorem dX6_allWalks_7 : decode cX6_allWalks 7 = .ok (.bipush 99, 2) := by decide +kernel
theorem dX6_allWalks_9 : decode cX6_allWalks 9 = .ok (.imul, 1) := by decide +kernel
theorem dX6_allWalks_10 : decode cX6_allWalks 10 = .ok (.bipush 20, 2) := by decide +kernel
theorem dX6_allWalks_12 : decode cX6_allWalks 12 = .ok (.imul, 1) := by decide +kernel
theorem dX6_allWalks_13 : decode cX6_allWalks 13 = .ok (.ireturn, 1) := by decide +kernel
theorem dX6_isReading_0 : decode cX6_isReading 0 = .ok (.aload_n 0, 1) := by decide +kernel
theorem dX6_isReading_1 : decode cX6_isReading 1 = .ok (.iload_n 1, 1) := by decide +kernel
theorem dX6_isReading_2 : decode cX6_isReading 2 = .ok (.iload_n 2, 1) := by decide +kernel
theorem dX6_isReading_3 : decode cX6_isReading 3 = .ok (.iload_n 3, 1) := by decide +kernel
theorem dX6_isReading_4 : decode cX6_isReading 4 = .ok (.invokestatic 232, 3) := by decide +kernel
theorem dX6_isReading_7 : decode cX6_isReading 7 = .ok (.iload_n 3, 1) := by decide +kernel
theorem dX6_isReading_8 : decode cX6_isReading 8 = .ok (.invokestatic 235, 3) := by decide +kernel
theorem dX6_isReading_11 : decode cX6_isReading 11 = .ok (.iload_n 3, 1) := by decide +kernel
theorem dX6_isReading_12 : decode cX6_isReading 12 = .ok (.invokestatic 238, 3) := by decide +kernel
theorem dX6_isReading_15 : decode cX6_isReading 15 = .ok (.invokevirtual 241, 3) := by decide +kernel
theorem dX6_isReading_18 : decode cX6_isReading 18 = .ok (.ireturn, 1) := by decide +kernel
theorem dX6_readings_0 : decode cX6_readings 0 = .ok (.aload_n 0, 1) := by decide +kernel
theorem dX6_readings_1 : decode cX6_readings 1 = .ok (.iload_n 1, 1) := by decide +kernel
theorem dX6_readings_2 : decode cX6_readings 2 = .ok (.iload_n 2, 1) := by decide +kernel
theorem dX6_readings_3 : decode cX6_readings 3 = .ok (.invokevirtual 244, 3) := by decide +kernel
theorem dX6_readings_6 : decode cX6_readings 6 = .ok (.ifCond .ne 6, 3) := by decide +kernel
theorem dX6_readings_9 : decode cX6_readings 9 = .ok (.bipush (-2), 2) := by decide +kernel
theorem dX6_readings_11 : decode cX6_readings 11 = .ok (.ireturn, 1) := by decide +kernel
theorem dX6_readings_12 : decode cX6_readings 12 = .ok (.aload_n 0, 1) := by decide +kernel
theorem dX6_readings_13 : decode cX6_readings 13 = .ok (.iload_n 1, 1) := by decide +kernel
theorem dX6_readings_14 : decode cX6_readings 14 = .ok (.iload_n 2, 1) := by decide +kernel
theorem dX6_readings_15 : decode cX6_readings 15 = .ok (.invokevirtual 247, 3) := by decide +kernel
theorem dX6_readings_18 : decode cX6_readings 18 = .ok (.istore_n 3, 1) := by decide +kernel
theorem dX6_readings_19 : decode cX6_readings 19 = .ok (.iload_n 3, 1) := by decide +kernel
theorem dX6_readings_20 : decode cX6_readings 20 = .ok (.ifCond .eq 5, 3) := by decide +kernel
theorem dX6_readings_23 : decode cX6_readings 23 = .ok (.iload_n 3, 1) := by decide +kernel
theorem dX6_readings_24 : decode cX6_readings 24 = .ok (.ireturn, 1) := by decide +kernel
theorem dX6_readings_25 : decode cX6_readings 25 = .ok (.iconst 0, 1) := by decide +kernel
theorem dX6_readings_26 : decode cX6_readings 26 = .ok (.istore 4, 2) := by decide +kernel
theorem dX6_readings_28 : decode cX6_readings 28 = .ok (.aload_n 0, 1) := by decide +kernel
theorem dX6_readings_29 : decode cX6_readings 29 = .ok (.invokevirtual 250, 3) := by decide +kernel
theorem dX6_readings_32 : decode cX6_readings 32 = .ok (.istore 5, 2) := by decide +kernel
theorem dX6_readings_34 : decode cX6_readings 34 = .ok (.iconst 0, 1) := by decide +kernel
theorem dX6_readings_35 : decode cX6_readings 35 = .ok (.istore 6, 2) := by decide +kernel
theorem dX6_readings_37 : decode cX6_readings 37 = .ok (.iload 6, 2) := by decide +kernel
theorem dX6_readings_39 : decode cX6_readings 39 = .ok (.iload 5, 2) := by decide +kernel
theorem dX6_readings_41 : decode cX6_readings 41 = .ok (.if_icmp .ge 23, 3) := by decide +kernel
theorem dX6_readings_44 : decode cX6_readings 44 = .ok (.aload_n 0, 1) := by decide +kernel
theorem dX6_readings_45 : decode cX6_readings 45 = .ok (.iload_n 1, 1) := by decide +kernel
theorem dX6_readings_46 : decode cX6_readings 46 = .ok (.iload_n 2, 1) := by decide +kernel
theorem dX6_readings_47 : decode cX6_readings 47 = .ok (.iload 6, 2) := by decide +kernel
theorem dX6_readings_49 : decode cX6_readings 49 = .ok (.invokevirtual 253, 3) := by decide +kernel
theorem dX6_readings_52 : decode cX6_readings 52 = .ok (.ifCond .eq 6, 3) := by decide +kernel
theorem dX6_readings_55 : decode cX6_readings 55 = .ok (.iinc 4 1, 3) := by decide +kernel
theorem dX6_readings_58 : decode cX6_readings 58 = .ok (.iinc 6 1, 3) := by decide +kernel
theorem dX6_readings_61 : decode cX6_readings 61 = .ok (.goto (-24), 3) := by decide +kernel
theorem dX6_readings_64 : decode cX6_readings 64 = .ok (.iload 4, 2) := by decide +kernel
theorem dX6_readings_66 : decode cX6_readings 66 = .ok (.ireturn, 1) := by decide +kernel
theorem dX6_reading_0 : decode cX6_reading 0 = .ok (.aload_n 0, 1) := by decide +kernel
theorem dX6_reading_1 : decode cX6_reading 1 = .ok (.iload_n 1, 1) := by decide +kernel
theorem dX6_reading_2 : decode cX6_reading 2 = .ok (.iload_n 2, 1) := by decide +kernel
theorem dX6_reading_3 : decode cX6_reading 3 = .ok (.invokevirtual 244, 3) := by decide +kernel
theorem dX6_reading_6 : decode cX6_reading 6 = .ok (.ifCond .eq 7, 3) := by decide +kernel
theorem dX6_reading_9 : decode cX6_reading 9 = .ok (.iload_n 3, 1) := by decide +kernel
theorem dX6_reading_10 : decode cX6_reading 10 = .ok (.ifCond .ge 6, 3) := by decide +kernel
theorem dX6_reading_13 : decode cX6_reading 13 = .ok (.bipush (-2), 2) := by decide +kernel
theorem dX6_reading_15 : decode cX6_reading 15 = .ok (.ireturn, 1) := by decide +kernel
theorem dX6_reading_16 : decode cX6_reading 16 = .ok (.aload_n 0, 1) := by decide +kernel
theorem dX6_reading_17 : decode cX6_reading 17 = .ok (.iload_n 1, 1) := by decide +kernel
theorem dX6_reading_18 : decode cX6_reading 18 = .ok (.iload_n 2, 1) := by decide +kernel
theorem dX6_reading_19 : decode cX6_reading 19 = .ok (.invokevirtual 247, 3) := by decide +kernel
theorem dX6_reading_22 : decode cX6_reading 22 = .ok (.istore 4, 2) := by decide +kernel
theorem dX6_reading_24 : decode cX6_reading 24 = .ok (.iload 4, 2) := by decide +kernel
theorem dX6_reading_26 : decode cX6_reading 26 = .ok (.ifCond .eq 6, 3) := by decide +kernel
theorem dX6_reading_29 : decode cX6_reading 29 = .ok (.iload 4, 2) := by decide +kernel
theorem dX6_reading_31 : decode cX6_reading 31 = .ok (.ireturn, 1) := by decide +kernel
theorem dX6_reading_32 : decode cX6_reading 32 = .ok (.iconst 0, 1) := by decide +kernel
theorem dX6_reading_33 : decode cX6_reading 33 = .ok (.istore 5, 2) := by decide +kernel
theorem dX6_reading_35 : decode cX6_reading 35 = .ok (.aload_n 0, 1) := by decide +kernel
theorem dX6_reading_36 : decode cX6_reading 36 = .ok (.invokevirtual 250, 3) := by decide +kernel
theorem dX6_reading_39 : decode cX6_reading 39 = .ok (.istore 6, 2) := by decide +kernel
theorem dX6_reading_41 : decode cX6_reading 41 = .ok (.iconst 0, 1) := by decide +kernel
theorem dX6_reading_42 : decode cX6_reading 42 = .ok (.istore 7, 2) := by decide +kernel
theorem dX6_reading_44 : decode cX6_reading 44 = .ok (.iload 7, 2) := by decide +kernel
theorem dX6_reading_46 : decode cX6_reading 46 = .ok (.iload 6, 2) := by decide +kernel
theorem dX6_reading_48 : decode cX6_reading 48 = .ok (.if_icmp .ge 55, 3) := by decide +kernel
theorem dX6_reading_51 : decode cX6_reading 51 = .ok (.aload_n 0, 1) := by decide +kernel
theorem dX6_reading_52 : decode cX6_reading 52 = .ok (.iload_n 1, 1) := by decide +kernel
theorem dX6_reading_53 : decode cX6_reading 53 = .ok (.iload_n 2, 1) := by decide +kernel
theorem dX6_reading_54 : decode cX6_reading 54 = .ok (.iload 7, 2) := by decide +kernel
theorem dX6_reading_56 : decode cX6_reading 56 = .ok (.invokevirtual 253, 3) := by decide +kernel
theorem dX6_reading_59 : decode cX6_reading 59 = .ok (.ifCond .eq 38, 3) := by decide +kernel
theorem dX6_reading_62 : decode cX6_reading 62 = .ok (.iload 5, 2) := by decide +kernel
theorem dX6_reading_64 : decode cX6_reading 64 = .ok (.iload_n 3, 1) := by decide +kernel
theorem dX6_reading_65 : decode cX6_reading 65 = .ok (.if_icmp .ne 29, 3) := by decide +kernel
theorem dX6_reading_68 : decode cX6_reading 68 = .ok (.ldc_w 256, 3) := by decide +kernel
theorem dX6_reading_71 : decode cX6_reading 71 = .ok (.iload 7, 2) := by decide +kernel
theorem dX6_reading_73 : decode cX6_reading 73 = .ok (.invokestatic 232, 3) := by decide +kernel
theorem dX6_reading_76 : decode cX6_reading 76 = .ok (.imul, 1) := by decide +kernel
theorem dX6_reading_77 : decode cX6_reading 77 = .ok (.sipush 1000, 3) := by decide +kernel
theorem dX6_reading_80 : decode cX6_reading 80 = .ok (.iload 7, 2) := by decide +kernel
theorem dX6_reading_82 : decode cX6_reading 82 = .ok (.invokestatic 238, 3) := by decide +kernel
theorem dX6_reading_85 : decode cX6_reading 85 = .ok (.imul, 1) := by decide +kernel
theorem dX6_reading_86 : decode cX6_reading 86 = .ok (.iadd, 1) := by decide +kernel
theorem dX6_reading_87 : decode cX6_reading 87 = .ok (.iload 7, 2) := by decide +kernel
theorem dX6_reading_89 : decode cX6_reading 89 = .ok (.invokestatic 235, 3) := by decide +kernel
theorem dX6_reading_92 : decode cX6_reading 92 = .ok (.iadd, 1) := by decide +kernel
theorem dX6_reading_93 : decode cX6_reading 93 = .ok (.ireturn, 1) := by decide +kernel
theorem dX6_reading_94 : decode cX6_reading 94 = .ok (.iinc 5 1, 3) := by decide +kernel
theorem dX6_reading_97 : decode cX6_reading 97 = .ok (.iinc 7 1, 3) := by decide +kernel
theorem dX6_reading_100 : decode cX6_reading 100 = .ok (.goto (-56), 3) := by decide +kernel
theorem dX6_reading_103 : decode cX6_reading 103 = .ok (.iconst (-1), 1) := by decide +kernel
theorem dX6_reading_104 : decode cX6_reading 104 = .ok (.ireturn, 1) := by decide +kernel
theorem dX6_fits_0 : decode cX6_fits 0 = .ok (.aload_n 0, 1) := by decide +kernel
theorem dX6_fits_1 : decode cX6_fits 1 = .ok (.iload_n 1, 1) := by decide +kernel
theorem dX6_fits_2 : decode cX6_fits 2 = .ok (.iload_n 2, 1) := by decide +kernel
theorem dX6_fits_3 : decode cX6_fits 3 = .ok (.invokevirtual 244, 3) := by decide +kernel
theorem dX6_fits_6 : decode cX6_fits 6 = .ok (.ifCond .eq 15, 3) := by decide +kernel
theorem dX6_fits_9 : decode cX6_fits 9 = .ok (.aload_n 0, 1) := by decide +kernel
theorem dX6_fits_10 : decode cX6_fits 10 = .ok (.iload_n 3, 1) := by decide +kernel
theorem dX6_fits_11 : decode cX6_fits 11 = .ok (.iload 4, 2) := by decide +kernel
theorem dX6_fits_13 : decode cX6_fits 13 = .ok (.iload 5, 2) := by decide +kernel
theorem dX6_fits_15 : decode cX6_fits 15 = .ok (.invokevirtual 257, 3) := by decide +kernel
theorem dX6_fits_18 : decode cX6_fits 18 = .ok (.ifCond .ne 6, 3) := by decide +kernel
theorem dX6_fits_21 : decode cX6_fits 21 = .ok (.bipush (-2), 2) := by decide +kernel
theorem dX6_fits_23 : decode cX6_fits 23 = .ok (.ireturn, 1) := by decide +kernel
theorem dX6_fits_24 : decode cX6_fits 24 = .ok (.aload_n 0, 1) := by decide +kernel
theorem dX6_fits_25 : decode cX6_fits 25 = .ok (.iload_n 1, 1) := by decide +kernel
theorem dX6_fits_26 : decode cX6_fits 26 = .ok (.iload_n 2, 1) := by decide +kernel
theorem dX6_fits_27 : decode cX6_fits 27 = .ok (.invokevirtual 247, 3) := by decide +kernel
theorem dX6_fits_30 : decode cX6_fits 30 = .ok (.istore 6, 2) := by decide +kernel
theorem dX6_fits_32 : decode cX6_fits 32 = .ok (.iload 6, 2) := by decide +kernel
theorem dX6_fits_34 : decode cX6_fits 34 = .ok (.ifCond .eq 6, 3) := by decide +kernel
theorem dX6_fits_37 : decode cX6_fits 37 = .ok (.iload 6, 2) := by decide +kernel
theorem dX6_fits_39 : decode cX6_fits 39 = .ok (.ireturn, 1) := by decide +kernel
theorem dX6_fits_40 : decode cX6_fits 40 = .ok (.aload_n 0, 1) := by decide +kernel
theorem dX6_fits_41 : decode cX6_fits 41 = .ok (.iload_n 1, 1) := by decide +kernel
theorem dX6_fits_42 : decode cX6_fits 42 = .ok (.iload_n 2, 1) := by decide +kernel
theorem dX6_fits_43 : decode cX6_fits 43 = .ok (.iload_n 3, 1) := by decide +kernel
theorem dX6_fits_44 : decode cX6_fits 44 = .ok (.iload 4, 2) := by decide +kernel
theorem dX6_fits_46 : decode cX6_fits 46 = .ok (.iload 5, 2) := by decide +kernel
theorem dX6_fits_48 : decode cX6_fits 48 = .ok (.invokevirtual 241, 3) := by decide +kernel
theorem dX6_fits_51 : decode cX6_fits 51 = .ok (.ifCond .eq 7, 3) := by decide +kernel
theorem dX6_fits_54 : decode cX6_fits 54 = .ok (.iconst 1, 1) := by decide +kernel
theorem dX6_fits_55 : decode cX6_fits 55 = .ok (.goto 4, 3) := by decide +kernel
theorem dX6_fits_58 : decode cX6_fits 58 = .ok (.iconst 0, 1) := by decide +kernel
theorem dX6_fits_59 : decode cX6_fits 59 = .ok (.ireturn, 1) := by decide +kernel
theorem dX6_isWalk_0 : decode cX6_isWalk 0 = .ok (.aload_n 0, 1) := by decide +kernel
theorem dX6_isWalk_1 : decode cX6_isWalk 1 = .ok (.getfield 19, 3) := by decide +kernel
theorem dX6_isWalk_4 : decode cX6_isWalk 4 = .ok (.iload_n 1, 1) := by decide +kernel
theorem dX6_isWalk_5 : decode cX6_isWalk 5 = .ok (.invokevirtual 81, 3) := by decide +kernel
theorem dX6_isWalk_8 : decode cX6_isWalk 8 = .ok (.ifCond .eq 27, 3) := by decide +kernel
theorem dX6_isWalk_11 : decode cX6_isWalk 11 = .ok (.iload_n 2, 1) := by decide +kernel
theorem dX6_isWalk_12 : decode cX6_isWalk 12 = .ok (.iconst 1, 1) := by decide +kernel
theorem dX6_isWalk_13 : decode cX6_isWalk 13 = .ok (.bipush 99, 2) := by decide +kernel
theorem dX6_isWalk_15 : decode cX6_isWalk 15 = .ok (.invokestatic 55, 3) := by decide +kernel
theorem dX6_isWalk_18 : decode cX6_isWalk 18 = .ok (.ifCond .eq 17, 3) := by decide +kernel
theorem dX6_isWalk_21 : decode cX6_isWalk 21 = .ok (.iload_n 3, 1) := by decide +kernel
theorem dX6_isWalk_22 : decode cX6_isWalk 22 = .ok (.iconst 1, 1) := by decide +kernel
theorem dX6_isWalk_23 : decode cX6_isWalk 23 = .ok (.bipush 20, 2) := by decide +kernel
theorem dX6_isWalk_25 : decode cX6_isWalk 25 = .ok (.invokestatic 55, 3) := by decide +kernel
theorem dX6_isWalk_28 : decode cX6_isWalk 28 = .ok (.ifCond .eq 7, 3) := by decide +kernel
theorem dX6_isWalk_31 : decode cX6_isWalk 31 = .ok (.iconst 1, 1) := by decide +kernel
theorem dX6_isWalk_32 : decode cX6_isWalk 32 = .ok (.goto 4, 3) := by decide +kernel
theorem dX6_isWalk_35 : decode cX6_isWalk 35 = .ok (.iconst 0, 1) := by decide +kernel
theorem dX6_isWalk_36 : decode cX6_isWalk 36 = .ok (.ireturn, 1) := by decide +kernel
theorem dX6_type_0 : decode cX6_type 0 = .ok (.iload_n 1, 1) := by decide +kernel
theorem dX6_type_1 : decode cX6_type 1 = .ok (.iconst 0, 1) := by decide +kernel
theorem dX6_type_2 : decode cX6_type 2 = .ok (.sipush 255, 3) := by decide +kernel
theorem dX6_type_5 : decode cX6_type 5 = .ok (.invokestatic 55, 3) := by decide +kernel
theorem dX6_type_8 : decode cX6_type 8 = .ok (.ifCond .eq 14, 3) := by decide +kernel
theorem dX6_type_11 : decode cX6_type 11 = .ok (.aload_n 0, 1) := by decide +kernel
theorem dX6_type_12 : decode cX6_type 12 = .ok (.getfield 47, 3) := by decide +kernel
theorem dX6_type_15 : decode cX6_type 15 = .ok (.iload_n 1, 1) := by decide +kernel
theorem dX6_type_16 : decode cX6_type 16 = .ok (.invokevirtual 260, 3) := by decide +kernel
theorem dX6_type_19 : decode cX6_type 19 = .ok (.goto 5, 3) := by decide +kernel
theorem dX6_type_22 : decode cX6_type 22 = .ok (.bipush (-2), 2) := by decide +kernel
theorem dX6_type_24 : decode cX6_type 24 = .ok (.ireturn, 1) := by decide +kernel
theorem dX6_hush_0 : decode cX6_hush 0 = .ok (.aload_n 0, 1) := by decide +kernel
theorem dX6_hush_1 : decode cX6_hush 1 = .ok (.getfield 47, 3) := by decide +kernel
theorem dX6_hush_4 : decode cX6_hush 4 = .ok (.invokevirtual 263, 3) := by decide +kernel
theorem dX6_hush_7 : decode cX6_hush 7 = .ok (.ireturn, 1) := by decide +kernel
theorem dX6_fault_0 : decode cX6_fault 0 = .ok (.aload_n 0, 1) := by decide +kernel
theorem dX6_fault_1 : decode cX6_fault 1 = .ok (.getfield 47, 3) := by decide +kernel
theorem dX6_fault_4 : decode cX6_fault 4 = .ok (.iconst 1, 1) := by decide +kernel
theorem dX6_fault_5 : decode cX6_fault 5 = .ok (.invokevirtual 264, 3) := by decide +kernel
theorem dX6_fault_8 : decode cX6_fault 8 = .ok (.aload_n 0, 1) := by decide +kernel
theorem dX6_fault_9 : decode cX6_fault 9 = .ok (.getfield 47, 3) := by decide +kernel
theorem dX6_fault_12 : decode cX6_fault 12 = .ok (.invokevirtual 268, 3) := by decide +kernel
theorem dX6_fault_15 : decode cX6_fault 15 = .ok (.ireturn, 1) := by decide +kernel
theorem dX6_speech_0 : decode cX6_speech 0 = .ok (.aload_n 0, 1) := by decide +kernel
theorem dX6_speech_1 : decode cX6_speech 1 = .ok (.getfield 19, 3) := by decide +kernel
theorem dX6_speech_4 : decode cX6_speech 4 = .ok (.iload_n 1, 1) := by decide +kernel
theorem dX6_speech_5 : decode cX6_speech 5 = .ok (.invokevirtual 81, 3) := by decide +kernel
theorem dX6_speech_8 : decode cX6_speech 8 = .ok (.ifCond .ne 6, 3) := by decide +kernel
theorem dX6_speech_11 : decode cX6_speech 11 = .ok (.ldc 182, 2) := by decide +kernel
theorem dX6_speech_13 : decode cX6_speech 13 = .ok (.ireturn, 1) := by decide +kernel
theorem dX6_speech_14 : decode cX6_speech 14 = .ok (.aload_n 0, 1) := by decide +kernel
theorem dX6_speech_15 : decode cX6_speech 15 = .ok (.getfield 47, 3) := by decide +kernel
theorem dX6_speech_18 : decode cX6_speech 18 = .ok (.aload_n 0, 1) := by decide +kernel
theorem dX6_speech_19 : decode cX6_speech 19 = .ok (.getfield 19, 3) := by decide +kernel
theorem dX6_speech_22 : decode cX6_speech 22 = .ok (.iload_n 1, 1) := by decide +kernel
theorem dX6_speech_23 : decode cX6_speech 23 = .ok (.invokevirtual 88, 3) := by decide +kernel
theorem dX6_speech_26 : decode cX6_speech 26 = .ok (.invokevirtual 264, 3) := by decide +kernel
theorem dX6_speech_29 : decode cX6_speech 29 = .ok (.aload_n 0, 1) := by decide +kernel
theorem dX6_speech_30 : decode cX6_speech 30 = .ok (.getfield 47, 3) := by decide +kernel
theorem dX6_speech_33 : decode cX6_speech 33 = .ok (.invokevirtual 268, 3) := by decide +kernel
theorem dX6_speech_36 : decode cX6_speech 36 = .ok (.iconst (-1), 1) := by decide +kernel
theorem dX6_speech_37 : decode cX6_speech 37 = .ok (.if_icmp .ne 13, 3) := by decide +kernel
theorem dX6_speech_40 : decode cX6_speech 40 = .ok (.aload_n 0, 1) := by decide +kernel
theorem dX6_speech_41 : decode cX6_speech 41 = .ok (.getfield 47, 3) := by decide +kernel
theorem dX6_speech_44 : decode cX6_speech 44 = .ok (.invokevirtual 271, 3) := by decide +kernel
theorem dX6_speech_47 : decode cX6_speech 47 = .ok (.ifCond .eq 9, 3) := by decide +kernel
theorem dX6_speech_50 : decode cX6_speech 50 = .ok (.ldc_w 274, 3) := by decide +kernel
theorem dX6_speech_53 : decode cX6_speech 53 = .ok (.goto 10, 3) := by decide +kernel
theorem dX6_speech_56 : decode cX6_speech 56 = .ok (.aload_n 0, 1) := by decide +kernel
theorem dX6_speech_57 : decode cX6_speech 57 = .ok (.getfield 47, 3) := by decide +kernel
theorem dX6_speech_60 : decode cX6_speech 60 = .ok (.invokevirtual 275, 3) := by decide +kernel
theorem dX6_speech_63 : decode cX6_speech 63 = .ok (.ireturn, 1) := by decide +kernel
theorem dX6_sheet_0 : decode cX6_sheet 0 = .ok (.aload_n 0, 1) := by decide +kernel
theorem dX6_sheet_1 : decode cX6_sheet 1 = .ok (.getfield 10, 3) := by decide +kernel
theorem dX6_sheet_4 : decode cX6_sheet 4 = .ok (.iload_n 1, 1) := by decide +kernel
theorem dX6_sheet_5 : decode cX6_sheet 5 = .ok (.invokevirtual 51, 3) := by decide +kernel
theorem dX6_sheet_8 : decode cX6_sheet 8 = .ok (.ifCond .eq 16, 3) := by decide +kernel
theorem dX6_sheet_11 : decode cX6_sheet 11 = .ok (.iload_n 2, 1) := by decide +kernel
theorem dX6_sheet_12 : decode cX6_sheet 12 = .ok (.invokestatic 278, 3) := by decide +kernel
theorem dX6_sheet_15 : decode cX6_sheet 15 = .ok (.ifCond .eq 9, 3) := by decide +kernel
theorem dX6_sheet_18 : decode cX6_sheet 18 = .ok (.iload_n 3, 1) := by decide +kernel
theorem dX6_sheet_19 : decode cX6_sheet 19 = .ok (.bipush 60, 2) := by decide +kernel
theorem dX6_sheet_21 : decode cX6_sheet 21 = .ok (.if_icmp .le 6, 3) := by decide +kernel
theorem dX6_sheet_24 : decode cX6_sheet 24 = .ok (.bipush (-2), 2) := by decide +kernel
theorem dX6_sheet_26 : decode cX6_sheet 26 = .ok (.ireturn, 1) := by decide +kernel
theorem dX6_sheet_27 : decode cX6_sheet 27 = .ok (.iload_n 3, 1) := by decide +kernel
theorem dX6_sheet_28 : decode cX6_sheet 28 = .ok (.ifCond .ge 14, 3) := by decide +kernel
theorem dX6_sheet_31 : decode cX6_sheet 31 = .ok (.aload_n 0, 1) := by decide +kernel
theorem dX6_sheet_32 : decode cX6_sheet 32 = .ok (.getfield 10, 3) := by decide +kernel
theorem dX6_sheet_35 : decode cX6_sheet 35 = .ok (.iconst 5, 1) := by decide +kernel
theorem dX6_sheet_36 : decode cX6_sheet 36 = .ok (.invokevirtual 62, 3) := by decide +kernel
theorem dX6_sheet_39 : decode cX6_sheet 39 = .ok (.goto 13, 3) := by decide +kernel
theorem dX6_sheet_42 : decode cX6_sheet 42 = .ok (.aload_n 0, 1) := by decide +kernel
theorem dX6_sheet_43 : decode cX6_sheet 43 = .ok (.getfield 10, 3) := by decide +kernel
theorem dX6_sheet_46 : decode cX6_sheet 46 = .ok (.iload_n 1, 1) := by decide +kernel
theorem dX6_sheet_47 : decode cX6_sheet 47 = .ok (.iload_n 2, 1) := by decide +kernel
theorem dX6_sheet_48 : decode cX6_sheet 48 = .ok (.iload_n 3, 1) := by decide +kernel
theorem dX6_sheet_49 : decode cX6_sheet 49 = .ok (.invokevirtual 281, 3) := by decide +kernel
theorem dX6_sheet_52 : decode cX6_sheet 52 = .ok (.ireturn, 1) := by decide +kernel
theorem dX6_lose_0 : decode cX6_lose 0 = .ok (.aload_n 0, 1) := by decide +kernel
theorem dX6_lose_1 : decode cX6_lose 1 = .ok (.getfield 10, 3) := by decide +kernel
theorem dX6_lose_4 : decode cX6_lose 4 = .ok (.iload_n 1, 1) := by decide +kernel
theorem dX6_lose_5 : decode cX6_lose 5 = .ok (.invokevirtual 51, 3) := by decide +kernel
theorem dX6_lose_8 : decode cX6_lose 8 = .ok (.ifCond .ne 6, 3) := by decide +kernel
theorem dX6_lose_11 : decode cX6_lose 11 = .ok (.bipush (-2), 2) := by decide +kernel
theorem dX6_lose_13 : decode cX6_lose 13 = .ok (.ireturn, 1) := by decide +kernel
theorem dX6_lose_14 : decode cX6_lose 14 = .ok (.aload_n 0, 1) := by decide +kernel
theorem dX6_lose_15 : decode cX6_lose 15 = .ok (.getfield 10, 3) := by decide +kernel
theorem dX6_lose_18 : decode cX6_lose 18 = .ok (.iload_n 1, 1) := by decide +kernel
theorem dX6_lose_19 : decode cX6_lose 19 = .ok (.invokevirtual 59, 3) := by decide +kernel
theorem dX6_lose_22 : decode cX6_lose 22 = .ok (.ifCond .eq 14, 3) := by decide +kernel
theorem dX6_lose_25 : decode cX6_lose 25 = .ok (.aload_n 0, 1) := by decide +kernel
theorem dX6_lose_26 : decode cX6_lose 26 = .ok (.getfield 10, 3) := by decide +kernel
theorem dX6_lose_29 : decode cX6_lose 29 = .ok (.iconst 1, 1) := by decide +kernel
theorem dX6_lose_30 : decode cX6_lose 30 = .ok (.invokevirtual 62, 3) := by decide +kernel
theorem dX6_lose_33 : decode cX6_lose 33 = .ok (.goto 11, 3) := by decide +kernel
theorem dX6_lose_36 : decode cX6_lose 36 = .ok (.aload_n 0, 1) := by decide +kernel
theorem dX6_lose_37 : decode cX6_lose 37 = .ok (.getfield 10, 3) := by decide +kernel
theorem dX6_lose_40 : decode cX6_lose 40 = .ok (.iload_n 1, 1) := by decide +kernel
theorem dX6_lose_41 : decode cX6_lose 41 = .ok (.invokevirtual 284, 3) := by decide +kernel
theorem dX6_lose_44 : decode cX6_lose 44 = .ok (.ireturn, 1) := by decide +kernel
theorem dX6_touch_0 : decode cX6_touch 0 = .ok (.aload_n 0, 1) := by decide +kernel
theorem dX6_touch_1 : decode cX6_touch 1 = .ok (.getfield 10, 3) := by decide +kernel
theorem dX6_touch_4 : decode cX6_touch 4 = .ok (.iload_n 1, 1) := by decide +kernel
theorem dX6_touch_5 : decode cX6_touch 5 = .ok (.invokevirtual 59, 3) := by decide +kernel
theorem dX6_touch_8 : decode cX6_touch 8 = .ok (.ifCond .eq 12, 3) := by decide +kernel
theorem dX6_touch_11 : decode cX6_touch 11 = .ok (.aload_n 0, 1) := by decide +kernel
theorem dX6_touch_12 : decode cX6_touch 12 = .ok (.getfield 10, 3) := by decide +kernel
theorem dX6_touch_15 : decode cX6_touch 15 = .ok (.iconst 1, 1) := by decide +kernel
theorem dX6_touch_16 : decode cX6_touch 16 = .ok (.invokevirtual 62, 3) := by decide +kernel
theorem dX6_touch_19 : decode cX6_touch 19 = .ok (.ireturn, 1) := by decide +kernel
theorem dX6_touch_20 : decode cX6_touch 20 = .ok (.aload_n 0, 1) := by decide +kernel
theorem dX6_touch_21 : decode cX6_touch 21 = .ok (.getfield 10, 3) := by decide +kernel
theorem dX6_touch_24 : decode cX6_touch 24 = .ok (.iload_n 1, 1) := by decide +kernel
theorem dX6_touch_25 : decode cX6_touch 25 = .ok (.invokevirtual 287, 3) := by decide +kernel
theorem dX6_touch_28 : decode cX6_touch 28 = .ok (.iload_n 2, 1) := by decide +kernel
theorem dX6_touch_29 : decode cX6_touch 29 = .ok (.if_icmp .eq 12, 3) := by decide +kernel
theorem dX6_touch_32 : decode cX6_touch 32 = .ok (.aload_n 0, 1) := by decide +kernel
theorem dX6_touch_33 : decode cX6_touch 33 = .ok (.getfield 10, 3) := by decide +kernel
theorem dX6_touch_36 : decode cX6_touch 36 = .ok (.iconst 3, 1) := by decide +kernel
theorem dX6_touch_37 : decode cX6_touch 37 = .ok (.invokevirtual 62, 3) := by decide +kernel
theorem dX6_touch_40 : decode cX6_touch 40 = .ok (.ireturn, 1) := by decide +kernel
theorem dX6_touch_41 : decode cX6_touch 41 = .ok (.iload_n 3, 1) := by decide +kernel
theorem dX6_touch_42 : decode cX6_touch 42 = .ok (.iconst 0, 1) := by decide +kernel
theorem dX6_touch_43 : decode cX6_touch 43 = .ok (.aload_n 0, 1) := by decide +kernel
theorem dX6_touch_44 : decode cX6_touch 44 = .ok (.getfield 10, 3) := by decide +kernel
theorem dX6_touch_47 : decode cX6_touch 47 = .ok (.iload_n 1, 1) := by decide +kernel
theorem dX6_touch_48 : decode cX6_touch 48 = .ok (.invokevirtual 66, 3) := by decide +kernel
theorem dX6_touch_51 : decode cX6_touch 51 = .ok (.iconst 1, 1) := by decide +kernel
theorem dX6_touch_52 : decode cX6_touch 52 = .ok (.isub, 1) := by decide +kernel
theorem dX6_touch_53 : decode cX6_touch 53 = .ok (.invokestatic 55, 3) := by decide +kernel
theorem dX6_touch_56 : decode cX6_touch 56 = .ok (.ifCond .eq 7, 3) := by decide +kernel
theorem dX6_touch_59 : decode cX6_touch 59 = .ok (.iconst 0, 1) := by decide +kernel
theorem dX6_touch_60 : decode cX6_touch 60 = .ok (.goto 11, 3) := by decide +kernel
theorem dX6_touch_63 : decode cX6_touch 63 = .ok (.aload_n 0, 1) := by decide +kernel
theorem dX6_touch_64 : decode cX6_touch 64 = .ok (.getfield 10, 3) := by decide +kernel
theorem dX6_touch_67 : decode cX6_touch 67 = .ok (.iconst 2, 1) := by decide +kernel
theorem dX6_touch_68 : decode cX6_touch 68 = .ok (.invokevirtual 62, 3) := by decide +kernel
theorem dX6_touch_71 : decode cX6_touch 71 = .ok (.ireturn, 1) := by decide +kernel
theorem dX6_put_0 : decode cX6_put 0 = .ok (.aload_n 0, 1) := by decide +kernel
theorem dX6_put_1 : decode cX6_put 1 = .ok (.getfield 10, 3) := by decide +kernel
theorem dX6_put_4 : decode cX6_put 4 = .ok (.iload_n 1, 1) := by decide +kernel
theorem dX6_put_5 : decode cX6_put 5 = .ok (.invokevirtual 51, 3) := by decide +kernel
theorem dX6_put_8 : decode cX6_put 8 = .ok (.ifCond .eq 10, 3) := by decide +kernel
theorem dX6_put_11 : decode cX6_put 11 = .ok (.iload_n 2, 1) := by decide +kernel
theorem dX6_put_12 : decode cX6_put 12 = .ok (.invokestatic 278, 3) := by decide +kernel
theorem dX6_put_15 : decode cX6_put 15 = .ok (.ifCond .ne 6, 3) := by decide +kernel
theorem dX6_put_18 : decode cX6_put 18 = .ok (.bipush (-2), 2) := by decide +kernel
theorem dX6_put_20 : decode cX6_put 20 = .ok (.ireturn, 1) := by decide +kernel
theorem dX6_put_21 : decode cX6_put 21 = .ok (.aload_n 0, 1) := by decide +kernel
theorem dX6_put_22 : decode cX6_put 22 = .ok (.iload_n 1, 1) := by decide +kernel
theorem dX6_put_23 : decode cX6_put 23 = .ok (.iload_n 2, 1) := by decide +kernel
theorem dX6_put_24 : decode cX6_put 24 = .ok (.iload_n 3, 1) := by decide +kernel
theorem dX6_put_25 : decode cX6_put 25 = .ok (.invokevirtual 290, 3) := by decide +kernel
theorem dX6_put_28 : decode cX6_put 28 = .ok (.istore 5, 2) := by decide +kernel
theorem dX6_put_30 : decode cX6_put 30 = .ok (.iload 5, 2) := by decide +kernel
theorem dX6_put_32 : decode cX6_put 32 = .ok (.ifCond .ne 14, 3) := by decide +kernel
theorem dX6_put_35 : decode cX6_put 35 = .ok (.aload_n 0, 1) := by decide +kernel
theorem dX6_put_36 : decode cX6_put 36 = .ok (.getfield 10, 3) := by decide +kernel
theorem dX6_put_39 : decode cX6_put 39 = .ok (.iload_n 1, 1) := by decide +kernel
theorem dX6_put_40 : decode cX6_put 40 = .ok (.iload_n 3, 1) := by decide +kernel
theorem dX6_put_41 : decode cX6_put 41 = .ok (.iload 4, 2) := by decide +kernel
theorem dX6_put_43 : decode cX6_put 43 = .ok (.invokevirtual 293, 3) := by decide +kernel
theorem dX6_put_46 : decode cX6_put 46 = .ok (.iload 5, 2) := by decide +kernel
theorem dX6_put_48 : decode cX6_put 48 = .ok (.ifCond .ne 7, 3) := by decide +kernel
theorem dX6_put_51 : decode cX6_put 51 = .ok (.iconst 1, 1) := by decide +kernel
theorem dX6_put_52 : decode cX6_put 52 = .ok (.goto 5, 3) := by decide +kernel
theorem dX6_put_55 : decode cX6_put 55 = .ok (.iload 5, 2) := by decide +kernel
theorem dX6_put_57 : decode cX6_put 57 = .ok (.ireturn, 1) := by decide +kernel
theorem dX6_get_0 : decode cX6_get 0 = .ok (.aload_n 0, 1) := by decide +kernel
theorem dX6_get_1 : decode cX6_get 1 = .ok (.getfield 10, 3) := by decide +kernel
theorem dX6_get_4 : decode cX6_get 4 = .ok (.iload_n 1, 1) := by decide +kernel
theorem dX6_get_5 : decode cX6_get 5 = .ok (.invokevirtual 51, 3) := by decide +kernel
theorem dX6_get_8 : decode cX6_get 8 = .ok (.ifCond .eq 20, 3) := by decide +kernel
theorem dX6_get_11 : decode cX6_get 11 = .ok (.iload_n 2, 1) := by decide +kernel
theorem dX6_get_12 : decode cX6_get 12 = .ok (.invokestatic 278, 3) := by decide +kernel
theorem dX6_get_15 : decode cX6_get 15 = .ok (.ifCond .eq 13, 3) := by decide +kernel
theorem dX6_get_18 : decode cX6_get 18 = .ok (.aload_n 0, 1) := by decide +kernel
theorem dX6_get_19 : decode cX6_get 19 = .ok (.iload_n 1, 1) := by decide +kernel
theorem dX6_get_20 : decode cX6_get 20 = .ok (.iload_n 2, 1) := by decide +kernel
theorem dX6_get_21 : decode cX6_get 21 = .ok (.iload_n 3, 1) := by decide +kernel
theorem dX6_get_22 : decode cX6_get 22 = .ok (.invokevirtual 290, 3) := by decide +kernel
theorem dX6_get_25 : decode cX6_get 25 = .ok (.ifCond .eq 7, 3) := by decide +kernel
theorem dX6_get_28 : decode cX6_get 28 = .ok (.ldc_w 297, 3) := by decide +kernel
theorem dX6_get_31 : decode cX6_get 31 = .ok (.ireturn, 1) := by decide +kernel
theorem dX6_get_32 : decode cX6_get 32 = .ok (.aload_n 0, 1) := by decide +kernel
theorem dX6_get_33 : decode cX6_get 33 = .ok (.getfield 10, 3) := by decide +kernel
theorem dX6_get_36 : decode cX6_get 36 = .ok (.iload_n 1, 1) := by decide +kernel
theorem dX6_get_37 : decode cX6_get 37 = .ok (.iload_n 3, 1) := by decide +kernel
theorem dX6_get_38 : decode cX6_get 38 = .ok (.invokevirtual 298, 3) := by decide +kernel
theorem dX6_get_41 : decode cX6_get 41 = .ok (.ireturn, 1) := by decide +kernel
theorem dX6_copy_0 : decode cX6_copy 0 = .ok (.aload_n 0, 1) := by decide +kernel
theorem dX6_copy_1 : decode cX6_copy 1 = .ok (.getfield 10, 3) := by decide +kernel
theorem dX6_copy_4 : decode cX6_copy 4 = .ok (.iload_n 1, 1) := by decide +kernel
theorem dX6_copy_5 : decode cX6_copy 5 = .ok (.invokevirtual 51, 3) := by decide +kernel
theorem dX6_copy_8 : decode cX6_copy 8 = .ok (.ifCond .eq 14, 3) := by decide +kernel
theorem dX6_copy_11 : decode cX6_copy 11 = .ok (.aload_n 0, 1) := by decide +kernel
theorem dX6_copy_12 : decode cX6_copy 12 = .ok (.getfield 10, 3) := by decide +kernel
theorem dX6_copy_15 : decode cX6_copy 15 = .ok (.iload_n 3, 1) := by decide +kernel
theorem dX6_copy_16 : decode cX6_copy 16 = .ok (.invokevirtual 51, 3) := by decide +kernel
theorem dX6_copy_19 : decode cX6_copy 19 = .ok (.ifCond .ne 6, 3) := by decide +kernel
theorem dX6_copy_22 : decode cX6_copy 22 = .ok (.bipush (-2), 2) := by decide +kernel
theorem dX6_copy_24 : decode cX6_copy 24 = .ok (.ireturn, 1) := by decide +kernel
theorem dX6_copy_25 : decode cX6_copy 25 = .ok (.aload_n 0, 1) := by decide +kernel
theorem dX6_copy_26 : decode cX6_copy 26 = .ok (.getfield 10, 3) := by decide +kernel
theorem dX6_copy_29 : decode cX6_copy 29 = .ok (.iload_n 1, 1) := by decide +kernel
theorem dX6_copy_30 : decode cX6_copy 30 = .ok (.invokevirtual 59, 3) := by decide +kernel
theorem dX6_copy_33 : decode cX6_copy 33 = .ok (.ifCond .ne 14, 3) := by decide +kernel
theorem dX6_copy_36 : decode cX6_copy 36 = .ok (.aload_n 0, 1) := by decide +kernel
theorem dX6_copy_37 : decode cX6_copy 37 = .ok (.getfield 10, 3) := by decide +kernel
theorem dX6_copy_40 : decode cX6_copy 40 = .ok (.iload_n 3, 1) := by decide +kernel
theorem dX6_copy_41 : decode cX6_copy 41 = .ok (.invokevirtual 59, 3) := by decide +kernel
theorem dX6_copy_44 : decode cX6_copy 44 = .ok (.ifCond .eq 12, 3) := by decide +kernel
theorem dX6_copy_47 : decode cX6_copy 47 = .ok (.aload_n 0, 1) := by decide +kernel
theorem dX6_copy_48 : decode cX6_copy 48 = .ok (.getfield 10, 3) := by decide +kernel
theorem dX6_copy_51 : decode cX6_copy 51 = .ok (.iconst 1, 1) := by decide +kernel
theorem dX6_copy_52 : decode cX6_copy 52 = .ok (.invokevirtual 62, 3) := by decide +kernel
theorem dX6_copy_55 : decode cX6_copy 55 = .ok (.ireturn, 1) := by decide +kernel
theorem dX6_copy_56 : decode cX6_copy 56 = .ok (.aload_n 0, 1) := by decide +kernel
theorem dX6_copy_57 : decode cX6_copy 57 = .ok (.getfield 10, 3) := by decide +kernel
theorem dX6_copy_60 : decode cX6_copy 60 = .ok (.iload_n 1, 1) := by decide +kernel
theorem dX6_copy_61 : decode cX6_copy 61 = .ok (.invokevirtual 287, 3) := by decide +kernel
theorem dX6_copy_64 : decode cX6_copy 64 = .ok (.aload_n 0, 1) := by decide +kernel
theorem dX6_copy_65 : decode cX6_copy 65 = .ok (.getfield 10, 3) := by decide +kernel
theorem dX6_copy_68 : decode cX6_copy 68 = .ok (.iload_n 3, 1) := by decide +kernel
theorem dX6_copy_69 : decode cX6_copy 69 = .ok (.invokevirtual 287, 3) := by decide +kernel
theorem dX6_copy_72 : decode cX6_copy 72 = .ok (.if_icmp .eq 12, 3) := by decide +kernel
theorem dX6_copy_75 : decode cX6_copy 75 = .ok (.aload_n 0, 1) := by decide +kernel
theorem dX6_copy_76 : decode cX6_copy 76 = .ok (.getfield 10, 3) := by decide +kernel
theorem dX6_copy_79 : decode cX6_copy 79 = .ok (.iconst 4, 1) := by decide +kernel
theorem dX6_copy_80 : decode cX6_copy 80 = .ok (.invokevirtual 62, 3) := by decide +kernel
theorem dX6_copy_83 : decode cX6_copy 83 = .ok (.ireturn, 1) := by decide +kernel
theorem dX6_copy_84 : decode cX6_copy 84 = .ok (.aload_n 0, 1) := by decide +kernel
theorem dX6_copy_85 : decode cX6_copy 85 = .ok (.getfield 10, 3) := by decide +kernel
theorem dX6_copy_88 : decode cX6_copy 88 = .ok (.iload_n 1, 1) := by decide +kernel
theorem dX6_copy_89 : decode cX6_copy 89 = .ok (.iload_n 2, 1) := by decide +kernel
theorem dX6_copy_90 : decode cX6_copy 90 = .ok (.iload_n 3, 1) := by decide +kernel
theorem dX6_copy_91 : decode cX6_copy 91 = .ok (.iload 4, 2) := by decide +kernel
theorem dX6_copy_93 : decode cX6_copy 93 = .ok (.iload 5, 2) := by decide +kernel
theorem dX6_copy_95 : decode cX6_copy 95 = .ok (.invokevirtual 299, 3) := by decide +kernel
theorem dX6_copy_98 : decode cX6_copy 98 = .ok (.ifCond .eq 7, 3) := by decide +kernel
theorem dX6_copy_101 : decode cX6_copy 101 = .ok (.iconst 1, 1) := by decide +kernel
theorem dX6_copy_102 : decode cX6_copy 102 = .ok (.goto 11, 3) := by decide +kernel
theorem dX6_copy_105 : decode cX6_copy 105 = .ok (.aload_n 0, 1) := by decide +kernel
theorem dX6_copy_106 : decode cX6_copy 106 = .ok (.getfield 10, 3) := by decide +kernel
theorem dX6_copy_109 : decode cX6_copy 109 = .ok (.iconst 2, 1) := by decide +kernel
theorem dX6_copy_110 : decode cX6_copy 110 = .ok (.invokevirtual 62, 3) := by decide +kernel
theorem dX6_copy_113 : decode cX6_copy 113 = .ok (.ireturn, 1) := by decide +kernel
theorem dX6_write_0 : decode cX6_write 0 = .ok (.aload_n 0, 1) := by decide +kernel
theorem dX6_write_1 : decode cX6_write 1 = .ok (.getfield 10, 3) := by decide +kernel
theorem dX6_write_4 : decode cX6_write 4 = .ok (.iload_n 1, 1) := by decide +kernel
theorem dX6_write_5 : decode cX6_write 5 = .ok (.invokevirtual 51, 3) := by decide +kernel
theorem dX6_write_8 : decode cX6_write 8 = .ok (.ifCond .eq 14, 3) := by decide +kernel
theorem dX6_write_11 : decode cX6_write 11 = .ok (.aload_n 0, 1) := by decide +kernel
theorem dX6_write_12 : decode cX6_write 12 = .ok (.iload_n 2, 1) := by decide +kernel
theorem dX6_write_13 : decode cX6_write 13 = .ok (.iload_n 3, 1) := by decide +kernel
theorem dX6_write_14 : decode cX6_write 14 = .ok (.iload 4, 2) := by decide +kernel
theorem dX6_write_16 : decode cX6_write 16 = .ok (.invokevirtual 257, 3) := by decide +kernel
theorem dX6_write_19 : decode cX6_write 19 = .ok (.ifCond .ne 6, 3) := by decide +kernel
theorem dX6_write_22 : decode cX6_write 22 = .ok (.bipush (-2), 2) := by decide +kernel
theorem dX6_write_24 : decode cX6_write 24 = .ok (.ireturn, 1) := by decide +kernel
theorem dX6_write_25 : decode cX6_write 25 = .ok (.aload_n 0, 1) := by decide +kernel
theorem dX6_write_26 : decode cX6_write 26 = .ok (.getfield 10, 3) := by decide +kernel
theorem dX6_write_29 : decode cX6_write 29 = .ok (.iload_n 1, 1) := by decide +kernel
theorem dX6_write_30 : decode cX6_write 30 = .ok (.invokevirtual 59, 3) := by decide +kernel
theorem dX6_write_33 : decode cX6_write 33 = .ok (.ifCond .eq 12, 3) := by decide +kernel
theorem dX6_write_36 : decode cX6_write 36 = .ok (.aload_n 0, 1) := by decide +kernel
theorem dX6_write_37 : decode cX6_write 37 = .ok (.getfield 10, 3) := by decide +kernel
theorem dX6_write_40 : decode cX6_write 40 = .ok (.iconst 1, 1) := by decide +kernel
theorem dX6_write_41 : decode cX6_write 41 = .ok (.invokevirtual 62, 3) := by decide +kernel
theorem dX6_write_44 : decode cX6_write 44 = .ok (.ireturn, 1) := by decide +kernel
theorem dX6_write_45 : decode cX6_write 45 = .ok (.aload_n 0, 1) := by decide +kernel
theorem dX6_write_46 : decode cX6_write 46 = .ok (.getfield 10, 3) := by decide +kernel
theorem dX6_write_49 : decode cX6_write 49 = .ok (.iload_n 1, 1) := by decide +kernel
theorem dX6_write_50 : decode cX6_write 50 = .ok (.invokevirtual 66, 3) := by decide +kernel
theorem dX6_write_53 : decode cX6_write 53 = .ok (.sipush 400, 3) := by decide +kernel
theorem dX6_write_56 : decode cX6_write 56 = .ok (.iload_n 3, 1) := by decide +kernel
theorem dX6_write_57 : decode cX6_write 57 = .ok (.isub, 1) := by decide +kernel
theorem dX6_write_58 : decode cX6_write 58 = .ok (.iload 4, 2) := by decide +kernel
theorem dX6_write_60 : decode cX6_write 60 = .ok (.idiv, 1) := by decide +kernel
theorem dX6_write_61 : decode cX6_write 61 = .ok (.iconst 1, 1) := by decide +kernel
theorem dX6_write_62 : decode cX6_write 62 = .ok (.iadd, 1) := by decide +kernel
theorem dX6_write_63 : decode cX6_write 63 = .ok (.invokestatic 302, 3) := by decide +kernel
theorem dX6_write_66 : decode cX6_write 66 = .ok (.istore 5, 2) := by decide +kernel
theorem dX6_write_68 : decode cX6_write 68 = .ok (.iconst 0, 1) := by decide +kernel
theorem dX6_write_69 : decode cX6_write 69 = .ok (.istore 6, 2) := by decide +kernel
theorem dX6_write_71 : decode cX6_write 71 = .ok (.iload 6, 2) := by decide +kernel
theorem dX6_write_73 : decode cX6_write 73 = .ok (.iload 5, 2) := by decide +kernel
theorem dX6_write_75 : decode cX6_write 75 = .ok (.if_icmp .ge 34, 3) := by decide +kernel
theorem dX6_write_78 : decode cX6_write 78 = .ok (.aload_n 0, 1) := by decide +kernel
theorem dX6_write_79 : decode cX6_write 79 = .ok (.getfield 10, 3) := by decide +kernel
theorem dX6_write_82 : decode cX6_write 82 = .ok (.iload_n 1, 1) := by decide +kernel
theorem dX6_write_83 : decode cX6_write 83 = .ok (.iload 6, 2) := by decide +kernel
theorem dX6_write_85 : decode cX6_write 85 = .ok (.aload_n 0, 1) := by decide +kernel
theorem dX6_write_86 : decode cX6_write 86 = .ok (.getfield 19, 3) := by decide +kernel
theorem dX6_write_89 : decode cX6_write 89 = .ok (.iload_n 2, 1) := by decide +kernel
theorem dX6_write_90 : decode cX6_write 90 = .ok (.iload_n 3, 1) := by decide +kernel
theorem dX6_write_91 : decode cX6_write 91 = .ok (.iload 6, 2) := by decide +kernel
theorem dX6_write_93 : decode cX6_write 93 = .ok (.iload 4, 2) := by decide +kernel
theorem dX6_write_95 : decode cX6_write 95 = .ok (.imul, 1) := by decide +kernel
theorem dX6_write_96 : decode cX6_write 96 = .ok (.iadd, 1) := by decide +kernel
theorem dX6_write_97 : decode cX6_write 97 = .ok (.invokevirtual 226, 3) := by decide +kernel
theorem dX6_write_100 : decode cX6_write 100 = .ok (.invokevirtual 293, 3) := by decide +kernel
theorem dX6_write_103 : decode cX6_write 103 = .ok (.iinc 6 1, 3) := by decide +kernel
theorem dX6_write_106 : decode cX6_write 106 = .ok (.goto (-35), 3) := by decide +kernel
theorem dX6_write_109 : decode cX6_write 109 = .ok (.iload 5, 2) := by decide +kernel
theorem dX6_write_111 : decode cX6_write 111 = .ok (.ireturn, 1) := by decide +kernel
theorem dX6_count_0 : decode cX6_count 0 = .ok (.iload_n 1, 1) := by decide +kernel
theorem dX6_count_1 : decode cX6_count 1 = .ok (.tableswitch 123 0 8 #[51, 59, 67, 75, 83, 91, 99, 107, 115], 51) := by decide +kernel
theorem dX6_count_52 : decode cX6_count 52 = .ok (.aload_n 0, 1) := by decide +kernel
theorem dX6_count_53 : decode cX6_count 53 = .ok (.getfield 19, 3) := by decide +kernel
theorem dX6_count_56 : decode cX6_count 56 = .ok (.invokevirtual 229, 3) := by decide +kernel
theorem dX6_count_59 : decode cX6_count 59 = .ok (.ireturn, 1) := by decide +kernel
theorem dX6_count_60 : decode cX6_count 60 = .ok (.aload_n 0, 1) := by decide +kernel
theorem dX6_count_61 : decode cX6_count 61 = .ok (.getfield 26, 3) := by decide +kernel
theorem dX6_count_64 : decode cX6_count 64 = .ok (.invokevirtual 307, 3) := by decide +kernel
theorem dX6_count_67 : decode cX6_count 67 = .ok (.ireturn, 1) := by decide +kernel
theorem dX6_count_68 : decode cX6_count 68 = .ok (.aload_n 0, 1) := by decide +kernel
theorem dX6_count_69 : decode cX6_count 69 = .ok (.getfield 26, 3) := by decide +kernel
theorem dX6_count_72 : decode cX6_count 72 = .ok (.invokevirtual 308, 3) := by decide +kernel
theorem dX6_count_75 : decode cX6_count 75 = .ok (.ireturn, 1) := by decide +kernel
theorem dX6_count_76 : decode cX6_count 76 = .ok (.aload_n 0, 1) := by decide +kernel
theorem dX6_count_77 : decode cX6_count 77 = .ok (.getfield 33, 3) := by decide +kernel
theorem dX6_count_80 : decode cX6_count 80 = .ok (.invokevirtual 311, 3) := by decide +kernel
theorem dX6_count_83 : decode cX6_count 83 = .ok (.ireturn, 1) := by decide +kernel
theorem dX6_count_84 : decode cX6_count 84 = .ok (.aload_n 0, 1) := by decide +kernel
theorem dX6_count_85 : decode cX6_count 85 = .ok (.getfield 40, 3) := by decide +kernel
theorem dX6_count_88 : decode cX6_count 88 = .ok (.invokevirtual 312, 3) := by decide +kernel
theorem dX6_count_91 : decode cX6_count 91 = .ok (.ireturn, 1) := by decide +kernel
theorem dX6_count_92 : decode cX6_count 92 = .ok (.aload_n 0, 1) := by decide +kernel
theorem dX6_count_93 : decode cX6_count 93 = .ok (.getfield 47, 3) := by decide +kernel
theorem dX6_count_96 : decode cX6_count 96 = .ok (.invokevirtual 313, 3) := by decide +kernel
theorem dX6_count_99 : decode cX6_count 99 = .ok (.ireturn, 1) := by decide +kernel
theorem dX6_count_100 : decode cX6_count 100 = .ok (.aload_n 0, 1) := by decide +kernel
theorem dX6_count_101 : decode cX6_count 101 = .ok (.getfield 33, 3) := by decide +kernel
theorem dX6_count_104 : decode cX6_count 104 = .ok (.invokevirtual 314, 3) := by decide +kernel
theorem dX6_count_107 : decode cX6_count 107 = .ok (.ireturn, 1) := by decide +kernel
theorem dX6_count_108 : decode cX6_count 108 = .ok (.aload_n 0, 1) := by decide +kernel
theorem dX6_count_109 : decode cX6_count 109 = .ok (.getfield 10, 3) := by decide +kernel
theorem dX6_count_112 : decode cX6_count 112 = .ok (.invokevirtual 317, 3) := by decide +kernel
theorem dX6_count_115 : decode cX6_count 115 = .ok (.ireturn, 1) := by decide +kernel
theorem dX6_count_116 : decode cX6_count 116 = .ok (.aload_n 0, 1) := by decide +kernel
theorem dX6_count_117 : decode cX6_count 117 = .ok (.getfield 10, 3) := by decide +kernel
theorem dX6_count_120 : decode cX6_count 120 = .ok (.invokevirtual 320, 3) := by decide +kernel
theorem dX6_count_123 : decode cX6_count 123 = .ok (.ireturn, 1) := by decide +kernel
theorem dX6_count_124 : decode cX6_count 124 = .ok (.bipush (-2), 2) := by decide +kernel
theorem dX6_count_126 : decode cX6_count 126 = .ok (.ireturn, 1) := by decide +kernel
theorem dX6_digest_0 : decode cX6_digest 0 = .ok (.ldc2_w 323, 3) := by decide +kernel
theorem dX6_digest_3 : decode cX6_digest 3 = .ok (.lstore_n 1, 1) := by decide +kernel
theorem dX6_digest_4 : decode cX6_digest 4 = .ok (.iconst 0, 1) := by decide +kernel
theorem dX6_digest_5 : decode cX6_digest 5 = .ok (.istore_n 3, 1) := by decide +kernel
theorem dX6_digest_6 : decode cX6_digest 6 = .ok (.iload_n 3, 1) := by decide +kernel
theorem dX6_digest_7 : decode cX6_digest 7 = .ok (.bipush 7, 2) := by decide +kernel
theorem dX6_digest_9 : decode cX6_digest 9 = .ok (.if_icmp .gt 22, 3) := by decide +kernel
theorem dX6_digest_12 : decode cX6_digest 12 = .ok (.ldc2_w 325, 3) := by decide +kernel
theorem dX6_digest_15 : decode cX6_digest 15 = .ok (.lload_n 1, 1) := by decide +kernel
theorem dX6_digest_16 : decode cX6_digest 16 = .ok (.lmul, 1) := by decide +kernel
theorem dX6_digest_17 : decode cX6_digest 17 = .ok (.aload_n 0, 1) := by decide +kernel
theorem dX6_digest_18 : decode cX6_digest 18 = .ok (.iload_n 3, 1) := by decide +kernel
theorem dX6_digest_19 : decode cX6_digest 19 = .ok (.invokevirtual 327, 3) := by decide +kernel
theorem dX6_digest_22 : decode cX6_digest 22 = .ok (.i2l, 1) := by decide +kernel
theorem dX6_digest_23 : decode cX6_digest 23 = .ok (.ladd, 1) := by decide +kernel
theorem dX6_digest_24 : decode cX6_digest 24 = .ok (.lstore_n 1, 1) := by decide +kernel
theorem dX6_digest_25 : decode cX6_digest 25 = .ok (.iinc 3 1, 3) := by decide +kernel
theorem dX6_digest_28 : decode cX6_digest 28 = .ok (.goto (-22), 3) := by decide +kernel
theorem dX6_digest_31 : decode cX6_digest 31 = .ok (.ldc2_w 325, 3) := by decide +kernel
theorem dX6_digest_34 : decode cX6_digest 34 = .ok (.aload_n 0, 1) := by decide +kernel
theorem dX6_digest_35 : decode cX6_digest 35 = .ok (.lload_n 1, 1) := by decide +kernel
theorem dX6_digest_36 : decode cX6_digest 36 = .ok (.invokevirtual 330, 3) := by decide +kernel
theorem dX6_digest_39 : decode cX6_digest 39 = .ok (.lmul, 1) := by decide +kernel
theorem dX6_digest_40 : decode cX6_digest 40 = .ok (.aload_n 0, 1) := by decide +kernel
theorem dX6_digest_41 : decode cX6_digest 41 = .ok (.getfield 26, 3) := by decide +kernel
theorem dX6_digest_44 : decode cX6_digest 44 = .ok (.aload_n 0, 1) := by decide +kernel
theorem dX6_digest_45 : decode cX6_digest 45 = .ok (.getfield 19, 3) := by decide +kernel
theorem dX6_digest_48 : decode cX6_digest 48 = .ok (.invokevirtual 141, 3) := by decide +kernel
theorem dX6_digest_51 : decode cX6_digest 51 = .ok (.i2l, 1) := by decide +kernel
theorem dX6_digest_52 : decode cX6_digest 52 = .ok (.ladd, 1) := by decide +kernel
theorem dX6_digest_53 : decode cX6_digest 53 = .ok (.lstore_n 1, 1) := by decide +kernel
theorem dX6_digest_54 : decode cX6_digest 54 = .ok (.aload_n 0, 1) := by decide +kernel
theorem dX6_digest_55 : decode cX6_digest 55 = .ok (.aload_n 0, 1) := by decide +kernel
theorem dX6_digest_56 : decode cX6_digest 56 = .ok (.lload_n 1, 1) := by decide +kernel
theorem dX6_digest_57 : decode cX6_digest 57 = .ok (.invokevirtual 334, 3) := by decide +kernel
theorem dX6_digest_60 : decode cX6_digest 60 = .ok (.invokevirtual 337, 3) := by decide +kernel
theorem dX6_digest_63 : decode cX6_digest 63 = .ok (.lreturn, 1) := by decide +kernel
theorem dX6_digestCounts_0 : decode cX6_digestCounts 0 = .ok (.lload_n 1, 1) := by decide +kernel
theorem dX6_digestCounts_1 : decode cX6_digestCounts 1 = .ok (.lstore_n 3, 1) := by decide +kernel
theorem dX6_digestCounts_2 : decode cX6_digestCounts 2 = .ok (.iconst 0, 1) := by decide +kernel
theorem dX6_digestCounts_3 : decode cX6_digestCounts 3 = .ok (.istore 5, 2) := by decide +kernel
theorem dX6_digestCounts_5 : decode cX6_digestCounts 5 = .ok (.iload 5, 2) := by decide +kernel
theorem dX6_digestCounts_7 : decode cX6_digestCounts 7 = .ok (.aload_n 0, 1) := by decide +kernel
theorem dX6_digestCounts_8 : decode cX6_digestCounts 8 = .ok (.getfield 19, 3) := by decide +kernel
theorem dX6_digestCounts_11 : decode cX6_digestCounts 11 = .ok (.invokevirtual 229, 3) := by decide +kernel
theorem dX6_digestCounts_14 : decode cX6_digestCounts 14 = .ok (.if_icmp .ge 82, 3) := by decide +kernel
theorem dX6_digestCounts_17 : decode cX6_digestCounts 17 = .ok (.iconst 0, 1) := by decide +kernel
theorem dX6_digestCounts_18 : decode cX6_digestCounts 18 = .ok (.istore 6, 2) := by decide +kernel
theorem dX6_digestCounts_20 : decode cX6_digestCounts 20 = .ok (.iload 6, 2) := by decide +kernel
theorem dX6_digestCounts_22 : decode cX6_digestCounts 22 = .ok (.iconst 3, 1) := by decide +kernel
theorem dX6_digestCounts_23 : decode cX6_digestCounts 23 = .ok (.if_icmp .gt 25, 3) := by decide +kernel
theorem dX6_digestCounts_26 : decode cX6_digestCounts 26 = .ok (.ldc2_w 325, 3) := by decide +kernel
theorem dX6_digestCounts_29 : decode cX6_digestCounts 29 = .ok (.lload_n 3, 1) := by decide +kernel
theorem dX6_digestCounts_30 : decode cX6_digestCounts 30 = .ok (.lmul, 1) := by decide +kernel
theorem dX6_digestCounts_31 : decode cX6_digestCounts 31 = .ok (.aload_n 0, 1) := by decide +kernel
theorem dX6_digestCounts_32 : decode cX6_digestCounts 32 = .ok (.iload 5, 2) := by decide +kernel
theorem dX6_digestCounts_34 : decode cX6_digestCounts 34 = .ok (.iload 6, 2) := by decide +kernel
theorem dX6_digestCounts_36 : decode cX6_digestCounts 36 = .ok (.invokevirtual 340, 3) := by decide +kernel
theorem dX6_digestCounts_39 : decode cX6_digestCounts 39 = .ok (.i2l, 1) := by decide +kernel
theorem dX6_digestCounts_40 : decode cX6_digestCounts 40 = .ok (.ladd, 1) := by decide +kernel
theorem dX6_digestCounts_41 : decode cX6_digestCounts 41 = .ok (.lstore_n 3, 1) := by decide +kernel
theorem dX6_digestCounts_42 : decode cX6_digestCounts 42 = .ok (.iinc 6 1, 3) := by decide +kernel
theorem dX6_digestCounts_45 : decode cX6_digestCounts 45 = .ok (.goto (-25), 3) := by decide +kernel
theorem dX6_digestCounts_48 : decode cX6_digestCounts 48 = .ok (.iconst 1, 1) := by decide +kernel
theorem dX6_digestCounts_49 : decode cX6_digestCounts 49 = .ok (.istore 6, 2) := by decide +kernel
theorem dX6_digestCounts_51 : decode cX6_digestCounts 51 = .ok (.iload 6, 2) := by decide +kernel
theorem dX6_digestCounts_53 : decode cX6_digestCounts 53 = .ok (.aload_n 0, 1) := by decide +kernel
theorem dX6_digestCounts_54 : decode cX6_digestCounts 54 = .ok (.getfield 19, 3) := by decide +kernel
theorem dX6_digestCounts_57 : decode cX6_digestCounts 57 = .ok (.iload 5, 2) := by decide +kernel
theorem dX6_digestCounts_59 : decode cX6_digestCounts 59 = .ok (.invokevirtual 88, 3) := by decide +kernel
theorem dX6_digestCounts_62 : decode cX6_digestCounts 62 = .ok (.if_icmp .gt 28, 3) := by decide +kernel
theorem dX6_digestCounts_65 : decode cX6_digestCounts 65 = .ok (.ldc2_w 325, 3) := by decide +kernel
theorem dX6_digestCounts_68 : decode cX6_digestCounts 68 = .ok (.lload_n 3, 1) := by decide +kernel
theorem dX6_digestCounts_69 : decode cX6_digestCounts 69 = .ok (.lmul, 1) := by decide +kernel
theorem dX6_digestCounts_70 : decode cX6_digestCounts 70 = .ok (.aload_n 0, 1) := by decide +kernel
theorem dX6_digestCounts_71 : decode cX6_digestCounts 71 = .ok (.getfield 19, 3) := by decide +kernel
theorem dX6_digestCounts_74 : decode cX6_digestCounts 74 = .ok (.iload 5, 2) := by decide +kernel
theorem dX6_digestCounts_76 : decode cX6_digestCounts 76 = .ok (.iload 6, 2) := by decide +kernel
theorem dX6_digestCounts_78 : decode cX6_digestCounts 78 = .ok (.invokevirtual 100, 3) := by decide +kernel
theorem dX6_digestCounts_81 : decode cX6_digestCounts 81 = .ok (.i2l, 1) := by decide +kernel
theorem dX6_digestCounts_82 : decode cX6_digestCounts 82 = .ok (.ladd, 1) := by decide +kernel
theorem dX6_digestCounts_83 : decode cX6_digestCounts 83 = .ok (.lstore_n 3, 1) := by decide +kernel
theorem dX6_digestCounts_84 : decode cX6_digestCounts 84 = .ok (.iinc 6 1, 3) := by decide +kernel
theorem dX6_digestCounts_87 : decode cX6_digestCounts 87 = .ok (.goto (-36), 3) := by decide +kernel
theorem dX6_digestCounts_90 : decode cX6_digestCounts 90 = .ok (.iinc 5 1, 3) := by decide +kernel
theorem dX6_digestCounts_93 : decode cX6_digestCounts 93 = .ok (.goto (-88), 3) := by decide +kernel
theorem dX6_digestCounts_96 : decode cX6_digestCounts 96 = .ok (.lload_n 3, 1) := by decide +kernel
theorem dX6_digestCounts_97 : decode cX6_digestCounts 97 = .ok (.lreturn, 1) := by decide +kernel
theorem dX6_digestDebts_0 : decode cX6_digestDebts 0 = .ok (.lload_n 1, 1) := by decide +kernel
theorem dX6_digestDebts_1 : decode cX6_digestDebts 1 = .ok (.lstore_n 3, 1) := by decide +kernel
theorem dX6_digestDebts_2 : decode cX6_digestDebts 2 = .ok (.iconst 0, 1) := by decide +kernel
theorem dX6_digestDebts_3 : decode cX6_digestDebts 3 = .ok (.istore 5, 2) := by decide +kernel
theorem dX6_digestDebts_5 : decode cX6_digestDebts 5 = .ok (.iload 5, 2) := by decide +kernel
theorem dX6_digestDebts_7 : decode cX6_digestDebts 7 = .ok (.aload_n 0, 1) := by decide +kernel
theorem dX6_digestDebts_8 : decode cX6_digestDebts 8 = .ok (.getfield 33, 3) := by decide +kernel
theorem dX6_digestDebts_11 : decode cX6_digestDebts 11 = .ok (.invokevirtual 311, 3) := by decide +kernel
theorem dX6_digestDebts_14 : decode cX6_digestDebts 14 = .ok (.if_icmp .ge 49, 3) := by decide +kernel
theorem dX6_digestDebts_17 : decode cX6_digestDebts 17 = .ok (.iconst 0, 1) := by decide +kernel
theorem dX6_digestDebts_18 : decode cX6_digestDebts 18 = .ok (.istore 6, 2) := by decide +kernel
theorem dX6_digestDebts_20 : decode cX6_digestDebts 20 = .ok (.iload 6, 2) := by decide +kernel
theorem dX6_digestDebts_22 : decode cX6_digestDebts 22 = .ok (.aload_n 0, 1) := by decide +kernel
theorem dX6_digestDebts_23 : decode cX6_digestDebts 23 = .ok (.getfield 33, 3) := by decide +kernel
theorem dX6_digestDebts_26 : decode cX6_digestDebts 26 = .ok (.invokevirtual 311, 3) := by decide +kernel
theorem dX6_digestDebts_29 : decode cX6_digestDebts 29 = .ok (.if_icmp .ge 28, 3) := by decide +kernel
theorem dX6_digestDebts_32 : decode cX6_digestDebts 32 = .ok (.ldc2_w 325, 3) := by decide +kernel
theorem dX6_digestDebts_35 : decode cX6_digestDebts 35 = .ok (.lload_n 3, 1) := by decide +kernel
theorem dX6_digestDebts_36 : decode cX6_digestDebts 36 = .ok (.lmul, 1) := by decide +kernel
theorem dX6_digestDebts_37 : decode cX6_digestDebts 37 = .ok (.aload_n 0, 1) := by decide +kernel
theorem dX6_digestDebts_38 : decode cX6_digestDebts 38 = .ok (.getfield 33, 3) := by decide +kernel
theorem dX6_digestDebts_41 : decode cX6_digestDebts 41 = .ok (.iload 5, 2) := by decide +kernel
theorem dX6_digestDebts_43 : decode cX6_digestDebts 43 = .ok (.iload 6, 2) := by decide +kernel
theorem dX6_digestDebts_45 : decode cX6_digestDebts 45 = .ok (.invokevirtual 169, 3) := by decide +kernel
theorem dX6_digestDebts_48 : decode cX6_digestDebts 48 = .ok (.i2l, 1) := by decide +kernel
theorem dX6_digestDebts_49 : decode cX6_digestDebts 49 = .ok (.ladd, 1) := by decide +kernel
theorem dX6_digestDebts_50 : decode cX6_digestDebts 50 = .ok (.lstore_n 3, 1) := by decide +kernel
theorem dX6_digestDebts_51 : decode cX6_digestDebts 51 = .ok (.iinc 6 1, 3) := by decide +kernel
theorem dX6_digestDebts_54 : decode cX6_digestDebts 54 = .ok (.goto (-34), 3) := by decide +kernel
theorem dX6_digestDebts_57 : decode cX6_digestDebts 57 = .ok (.iinc 5 1, 3) := by decide +kernel
theorem dX6_digestDebts_60 : decode cX6_digestDebts 60 = .ok (.goto (-55), 3) := by decide +kernel
theorem dX6_digestDebts_63 : decode cX6_digestDebts 63 = .ok (.lload_n 3, 1) := by decide +kernel
theorem dX6_digestDebts_64 : decode cX6_digestDebts 64 = .ok (.lreturn, 1) := by decide +kernel
theorem dX6_digestLists_0 : decode cX6_digestLists 0 = .ok (.lload_n 1, 1) := by decide +kernel
theorem dX6_digestLists_1 : decode cX6_digestLists 1 = .ok (.lstore_n 3, 1) := by decide +kernel
theorem dX6_digestLists_2 : decode cX6_digestLists 2 = .ok (.iconst 0, 1) := by decide +kernel
theorem dX6_digestLists_3 : decode cX6_digestLists 3 = .ok (.istore 5, 2) := by decide +kernel
theorem dX6_digestLists_5 : decode cX6_digestLists 5 = .ok (.iload 5, 2) := by decide +kernel
theorem dX6_digestLists_7 : decode cX6_digestLists 7 = .ok (.aload_n 0, 1) := by decide +kernel
theorem dX6_digestLists_8 : decode cX6_digestLists 8 = .ok (.getfield 40, 3) := by decide +kernel
theorem dX6_digestLists_11 : decode cX6_digestLists 11 = .ok (.invokevirtual 312, 3) := by decide +kernel
theorem dX6_digestLists_14 : decode cX6_digestLists 14 = .ok (.if_icmp .ge 57, 3) := by decide +kernel
theorem dX6_digestLists_17 : decode cX6_digestLists 17 = .ok (.iconst 0, 1) := by decide +kernel
theorem dX6_digestLists_18 : decode cX6_digestLists 18 = .ok (.istore 6, 2) := by decide +kernel
theorem dX6_digestLists_20 : decode cX6_digestLists 20 = .ok (.iload 6, 2) := by decide +kernel
theorem dX6_digestLists_22 : decode cX6_digestLists 22 = .ok (.iconst 4, 1) := by decide +kernel
theorem dX6_digestLists_23 : decode cX6_digestLists 23 = .ok (.if_icmp .gt 25, 3) := by decide +kernel
theorem dX6_digestLists_26 : decode cX6_digestLists 26 = .ok (.ldc2_w 325, 3) := by decide +kernel
theorem dX6_digestLists_29 : decode cX6_digestLists 29 = .ok (.lload_n 3, 1) := by decide +kernel
theorem dX6_digestLists_30 : decode cX6_digestLists 30 = .ok (.lmul, 1) := by decide +kernel
theorem dX6_digestLists_31 : decode cX6_digestLists 31 = .ok (.aload_n 0, 1) := by decide +kernel
theorem dX6_digestLists_32 : decode cX6_digestLists 32 = .ok (.iload 5, 2) := by decide +kernel
theorem dX6_digestLists_34 : decode cX6_digestLists 34 = .ok (.iload 6, 2) := by decide +kernel
theorem dX6_digestLists_36 : decode cX6_digestLists 36 = .ok (.invokevirtual 343, 3) := by decide +kernel
theorem dX6_digestLists_39 : decode cX6_digestLists 39 = .ok (.i2l, 1) := by decide +kernel
theorem dX6_digestLists_40 : decode cX6_digestLists 40 = .ok (.ladd, 1) := by decide +kernel
theorem dX6_digestLists_41 : decode cX6_digestLists 41 = .ok (.lstore_n 3, 1) := by decide +kernel
theorem dX6_digestLists_42 : decode cX6_digestLists 42 = .ok (.iinc 6 1, 3) := by decide +kernel
theorem dX6_digestLists_45 : decode cX6_digestLists 45 = .ok (.goto (-25), 3) := by decide +kernel
theorem dX6_digestLists_48 : decode cX6_digestLists 48 = .ok (.ldc2_w 325, 3) := by decide +kernel
theorem dX6_digestLists_51 : decode cX6_digestLists 51 = .ok (.lload_n 3, 1) := by decide +kernel
theorem dX6_digestLists_52 : decode cX6_digestLists 52 = .ok (.lmul, 1) := by decide +kernel
theorem dX6_digestLists_53 : decode cX6_digestLists 53 = .ok (.aload_n 0, 1) := by decide +kernel
theorem dX6_digestLists_54 : decode cX6_digestLists 54 = .ok (.getfield 40, 3) := by decide +kernel
theorem dX6_digestLists_57 : decode cX6_digestLists 57 = .ok (.iload 5, 2) := by decide +kernel
theorem dX6_digestLists_59 : decode cX6_digestLists 59 = .ok (.invokevirtual 210, 3) := by decide +kernel
theorem dX6_digestLists_62 : decode cX6_digestLists 62 = .ok (.i2l, 1) := by decide +kernel
theorem dX6_digestLists_63 : decode cX6_digestLists 63 = .ok (.ladd, 1) := by decide +kernel
theorem dX6_digestLists_64 : decode cX6_digestLists 64 = .ok (.lstore_n 3, 1) := by decide +kernel
theorem dX6_digestLists_65 : decode cX6_digestLists 65 = .ok (.iinc 5 1, 3) := by decide +kernel
theorem dX6_digestLists_68 : decode cX6_digestLists 68 = .ok (.goto (-63), 3) := by decide +kernel
theorem dX6_digestLists_71 : decode cX6_digestLists 71 = .ok (.lload_n 3, 1) := by decide +kernel
theorem dX6_digestLists_72 : decode cX6_digestLists 72 = .ok (.lreturn, 1) := by decide +kernel
