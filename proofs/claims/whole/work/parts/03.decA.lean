theorem dX0_init_0 : decode cX0_init 0 = .ok (.aload_n 0, 1) := by decide +kernel
theorem dX0_init_1 : decode cX0_init 1 = .ok (.invokespecial 3, 3) := by decide +kernel
theorem dX0_init_4 : decode cX0_init 4 = .ok (.aload_n 0, 1) := by decide +kernel
theorem dX0_init_5 : decode cX0_init 5 = .ok (.bipush 6, 2) := by decide +kernel
theorem dX0_init_7 : decode cX0_init 7 = .ok (.bipush 41, 2) := by decide +kernel
theorem dX0_init_9 : decode cX0_init 9 = .ok (.multianewarray 11 2, 4) := by decide +kernel
theorem dX0_init_13 : decode cX0_init 13 = .ok (.putfield 13, 3) := by decide +kernel
theorem dX0_init_16 : decode cX0_init 16 = .ok (.aload_n 0, 1) := by decide +kernel
theorem dX0_init_17 : decode cX0_init 17 = .ok (.bipush 6, 2) := by decide +kernel
theorem dX0_init_19 : decode cX0_init 19 = .ok (.newarray .int, 2) := by decide +kernel
theorem dX0_init_21 : decode cX0_init 21 = .ok (.putfield 16, 3) := by decide +kernel
theorem dX0_init_24 : decode cX0_init 24 = .ok (.aload_n 0, 1) := by decide +kernel
theorem dX0_init_25 : decode cX0_init 25 = .ok (.bipush 6, 2) := by decide +kernel
theorem dX0_init_27 : decode cX0_init 27 = .ok (.newarray .int, 2) := by decide +kernel
theorem dX0_init_29 : decode cX0_init 29 = .ok (.putfield 20, 3) := by decide +kernel
theorem dX0_init_32 : decode cX0_init 32 = .ok (.aload_n 0, 1) := by decide +kernel
theorem dX0_init_33 : decode cX0_init 33 = .ok (.bipush 6, 2) := by decide +kernel
theorem dX0_init_35 : decode cX0_init 35 = .ok (.newarray .int, 2) := by decide +kernel
theorem dX0_init_37 : decode cX0_init 37 = .ok (.putfield 23, 3) := by decide +kernel
theorem dX0_init_40 : decode cX0_init 40 = .ok (.aload_n 0, 1) := by decide +kernel
theorem dX0_init_41 : decode cX0_init 41 = .ok (.iconst 0, 1) := by decide +kernel
theorem dX0_init_42 : decode cX0_init 42 = .ok (.putfield 26, 3) := by decide +kernel
theorem dX0_init_45 : decode cX0_init 45 = .ok (.return_, 1) := by decide +kernel
theorem dX0_size_0 : decode cX0_size 0 = .ok (.aload_n 0, 1) := by decide +kernel
theorem dX0_size_1 : decode cX0_size 1 = .ok (.getfield 26, 3) := by decide +kernel
theorem dX0_size_4 : decode cX0_size 4 = .ok (.ireturn, 1) := by decide +kernel
theorem dX0_isFull_0 : decode cX0_isFull 0 = .ok (.aload_n 0, 1) := by decide +kernel
theorem dX0_isFull_1 : decode cX0_isFull 1 = .ok (.getfield 26, 3) := by decide +kernel
theorem dX0_isFull_4 : decode cX0_isFull 4 = .ok (.bipush 6, 2) := by decide +kernel
theorem dX0_isFull_6 : decode cX0_isFull 6 = .ok (.if_icmp .lt 7, 3) := by decide +kernel
theorem dX0_isFull_9 : decode cX0_isFull 9 = .ok (.iconst 1, 1) := by decide +kernel
theorem dX0_isFull_10 : decode cX0_isFull 10 = .ok (.goto 4, 3) := by decide +kernel
theorem dX0_isFull_13 : decode cX0_isFull 13 = .ok (.iconst 0, 1) := by decide +kernel
theorem dX0_isFull_14 : decode cX0_isFull 14 = .ok (.ireturn, 1) := by decide +kernel
theorem dX0_has_0 : decode cX0_has 0 = .ok (.iload_n 1, 1) := by decide +kernel
theorem dX0_has_1 : decode cX0_has 1 = .ok (.ifCond .lt 21, 3) := by decide +kernel
theorem dX0_has_4 : decode cX0_has 4 = .ok (.iload_n 1, 1) := by decide +kernel
theorem dX0_has_5 : decode cX0_has 5 = .ok (.aload_n 0, 1) := by decide +kernel
theorem dX0_has_6 : decode cX0_has 6 = .ok (.getfield 26, 3) := by decide +kernel
theorem dX0_has_9 : decode cX0_has 9 = .ok (.if_icmp .ge 13, 3) := by decide +kernel
theorem dX0_has_12 : decode cX0_has 12 = .ok (.iload_n 1, 1) := by decide +kernel
theorem dX0_has_13 : decode cX0_has 13 = .ok (.bipush 6, 2) := by decide +kernel
theorem dX0_has_15 : decode cX0_has 15 = .ok (.if_icmp .ge 7, 3) := by decide +kernel
theorem dX0_has_18 : decode cX0_has 18 = .ok (.iconst 1, 1) := by decide +kernel
theorem dX0_has_19 : decode cX0_has 19 = .ok (.goto 4, 3) := by decide +kernel
theorem dX0_has_22 : decode cX0_has 22 = .ok (.iconst 0, 1) := by decide +kernel
theorem dX0_has_23 : decode cX0_has 23 = .ok (.ireturn, 1) := by decide +kernel
theorem dX0_learn_0 : decode cX0_learn 0 = .ok (.aload_n 0, 1) := by decide +kernel
theorem dX0_learn_1 : decode cX0_learn 1 = .ok (.invokevirtual 30, 3) := by decide +kernel
theorem dX0_learn_4 : decode cX0_learn 4 = .ok (.ifCond .ne 13, 3) := by decide +kernel
theorem dX0_learn_7 : decode cX0_learn 7 = .ok (.iload_n 3, 1) := by decide +kernel
theorem dX0_learn_8 : decode cX0_learn 8 = .ok (.iconst 1, 1) := by decide +kernel
theorem dX0_learn_9 : decode cX0_learn 9 = .ok (.bipush 20, 2) := by decide +kernel
theorem dX0_learn_11 : decode cX0_learn 11 = .ok (.invokestatic 34, 3) := by decide +kernel
theorem dX0_learn_14 : decode cX0_learn 14 = .ok (.ifCond .ne 6, 3) := by decide +kernel
theorem dX0_learn_17 : decode cX0_learn 17 = .ok (.bipush (-4), 2) := by decide +kernel
theorem dX0_learn_19 : decode cX0_learn 19 = .ok (.ireturn, 1) := by decide +kernel
theorem dX0_learn_20 : decode cX0_learn 20 = .ok (.aload_n 0, 1) := by decide +kernel
theorem dX0_learn_21 : decode cX0_learn 21 = .ok (.getfield 26, 3) := by decide +kernel
theorem dX0_learn_24 : decode cX0_learn 24 = .ok (.istore 5, 2) := by decide +kernel
theorem dX0_learn_26 : decode cX0_learn 26 = .ok (.iload 4, 2) := by decide +kernel
theorem dX0_learn_28 : decode cX0_learn 28 = .ok (.ifCond .eq 9, 3) := by decide +kernel
theorem dX0_learn_31 : decode cX0_learn 31 = .ok (.iconst 2, 1) := by decide +kernel
theorem dX0_learn_32 : decode cX0_learn 32 = .ok (.iload_n 3, 1) := by decide +kernel
theorem dX0_learn_33 : decode cX0_learn 33 = .ok (.imul, 1) := by decide +kernel
theorem dX0_learn_34 : decode cX0_learn 34 = .ok (.goto 8, 3) := by decide +kernel
theorem dX0_learn_37 : decode cX0_learn 37 = .ok (.iconst 2, 1) := by decide +kernel
theorem dX0_learn_38 : decode cX0_learn 38 = .ok (.iload_n 3, 1) := by decide +kernel
theorem dX0_learn_39 : decode cX0_learn 39 = .ok (.imul, 1) := by decide +kernel
theorem dX0_learn_40 : decode cX0_learn 40 = .ok (.iconst 1, 1) := by decide +kernel
theorem dX0_learn_41 : decode cX0_learn 41 = .ok (.isub, 1) := by decide +kernel
theorem dX0_learn_42 : decode cX0_learn 42 = .ok (.istore 6, 2) := by decide +kernel
theorem dX0_learn_44 : decode cX0_learn 44 = .ok (.iconst 0, 1) := by decide +kernel
theorem dX0_learn_45 : decode cX0_learn 45 = .ok (.istore 7, 2) := by decide +kernel
theorem dX0_learn_47 : decode cX0_learn 47 = .ok (.iload 7, 2) := by decide +kernel
theorem dX0_learn_49 : decode cX0_learn 49 = .ok (.iload_n 3, 1) := by decide +kernel
theorem dX0_learn_50 : decode cX0_learn 50 = .ok (.if_icmp .ge 45, 3) := by decide +kernel
theorem dX0_learn_53 : decode cX0_learn 53 = .ok (.aload_n 1, 1) := by decide +kernel
theorem dX0_learn_54 : decode cX0_learn 54 = .ok (.iload_n 2, 1) := by decide +kernel
theorem dX0_learn_55 : decode cX0_learn 55 = .ok (.iload 7, 2) := by decide +kernel
theorem dX0_learn_57 : decode cX0_learn 57 = .ok (.invokevirtual 38, 3) := by decide +kernel
theorem dX0_learn_60 : decode cX0_learn 60 = .ok (.istore 8, 2) := by decide +kernel
theorem dX0_learn_62 : decode cX0_learn 62 = .ok (.aload_n 0, 1) := by decide +kernel
theorem dX0_learn_63 : decode cX0_learn 63 = .ok (.getfield 13, 3) := by decide +kernel
theorem dX0_learn_66 : decode cX0_learn 66 = .ok (.iload 5, 2) := by decide +kernel
theorem dX0_learn_68 : decode cX0_learn 68 = .ok (.aaload, 1) := by decide +kernel
theorem dX0_learn_69 : decode cX0_learn 69 = .ok (.iload 7, 2) := by decide +kernel
theorem dX0_learn_71 : decode cX0_learn 71 = .ok (.iload 8, 2) := by decide +kernel
theorem dX0_learn_73 : decode cX0_learn 73 = .ok (.iastore, 1) := by decide +kernel
theorem dX0_learn_74 : decode cX0_learn 74 = .ok (.aload_n 0, 1) := by decide +kernel
theorem dX0_learn_75 : decode cX0_learn 75 = .ok (.getfield 13, 3) := by decide +kernel
theorem dX0_learn_78 : decode cX0_learn 78 = .ok (.iload 5, 2) := by decide +kernel
theorem dX0_learn_80 : decode cX0_learn 80 = .ok (.aaload, 1) := by decide +kernel
theorem dX0_learn_81 : decode cX0_learn 81 = .ok (.iload 6, 2) := by decide +kernel
theorem dX0_learn_83 : decode cX0_learn 83 = .ok (.iload 7, 2) := by decide +kernel
theorem dX0_learn_85 : decode cX0_learn 85 = .ok (.isub, 1) := by decide +kernel
theorem dX0_learn_86 : decode cX0_learn 86 = .ok (.iload 8, 2) := by decide +kernel
theorem dX0_learn_88 : decode cX0_learn 88 = .ok (.iastore, 1) := by decide +kernel
theorem dX0_learn_89 : decode cX0_learn 89 = .ok (.iinc 7 1, 3) := by decide +kernel
theorem dX0_learn_92 : decode cX0_learn 92 = .ok (.goto (-45), 3) := by decide +kernel
theorem dX0_learn_95 : decode cX0_learn 95 = .ok (.iload 4, 2) := by decide +kernel
theorem dX0_learn_97 : decode cX0_learn 97 = .ok (.ifCond .eq 18, 3) := by decide +kernel
theorem dX0_learn_100 : decode cX0_learn 100 = .ok (.aload_n 0, 1) := by decide +kernel
theorem dX0_learn_101 : decode cX0_learn 101 = .ok (.getfield 13, 3) := by decide +kernel
theorem dX0_learn_104 : decode cX0_learn 104 = .ok (.iload 5, 2) := by decide +kernel
theorem dX0_learn_106 : decode cX0_learn 106 = .ok (.aaload, 1) := by decide +kernel
theorem dX0_learn_107 : decode cX0_learn 107 = .ok (.iload_n 3, 1) := by decide +kernel
theorem dX0_learn_108 : decode cX0_learn 108 = .ok (.aload_n 1, 1) := by decide +kernel
theorem dX0_learn_109 : decode cX0_learn 109 = .ok (.iload_n 2, 1) := by decide +kernel
theorem dX0_learn_110 : decode cX0_learn 110 = .ok (.iload_n 3, 1) := by decide +kernel
theorem dX0_learn_111 : decode cX0_learn 111 = .ok (.invokevirtual 38, 3) := by decide +kernel
theorem dX0_learn_114 : decode cX0_learn 114 = .ok (.iastore, 1) := by decide +kernel
theorem dX0_learn_115 : decode cX0_learn 115 = .ok (.aload_n 0, 1) := by decide +kernel
theorem dX0_learn_116 : decode cX0_learn 116 = .ok (.getfield 16, 3) := by decide +kernel
theorem dX0_learn_119 : decode cX0_learn 119 = .ok (.iload 5, 2) := by decide +kernel
theorem dX0_learn_121 : decode cX0_learn 121 = .ok (.iload_n 3, 1) := by decide +kernel
theorem dX0_learn_122 : decode cX0_learn 122 = .ok (.iastore, 1) := by decide +kernel
theorem dX0_learn_123 : decode cX0_learn 123 = .ok (.aload_n 0, 1) := by decide +kernel
theorem dX0_learn_124 : decode cX0_learn 124 = .ok (.getfield 20, 3) := by decide +kernel
theorem dX0_learn_127 : decode cX0_learn 127 = .ok (.iload 5, 2) := by decide +kernel
theorem dX0_learn_129 : decode cX0_learn 129 = .ok (.iload 4, 2) := by decide +kernel
theorem dX0_learn_131 : decode cX0_learn 131 = .ok (.ifCond .eq 7, 3) := by decide +kernel
theorem dX0_learn_134 : decode cX0_learn 134 = .ok (.iconst 1, 1) := by decide +kernel
theorem dX0_learn_135 : decode cX0_learn 135 = .ok (.goto 4, 3) := by decide +kernel
theorem dX0_learn_138 : decode cX0_learn 138 = .ok (.iconst 0, 1) := by decide +kernel
theorem dX0_learn_139 : decode cX0_learn 139 = .ok (.iastore, 1) := by decide +kernel
theorem dX0_learn_140 : decode cX0_learn 140 = .ok (.aload_n 0, 1) := by decide +kernel
theorem dX0_learn_141 : decode cX0_learn 141 = .ok (.dup, 1) := by decide +kernel
theorem dX0_learn_142 : decode cX0_learn 142 = .ok (.getfield 26, 3) := by decide +kernel
theorem dX0_learn_145 : decode cX0_learn 145 = .ok (.iconst 1, 1) := by decide +kernel
theorem dX0_learn_146 : decode cX0_learn 146 = .ok (.iadd, 1) := by decide +kernel
theorem dX0_learn_147 : decode cX0_learn 147 = .ok (.putfield 26, 3) := by decide +kernel
theorem dX0_learn_150 : decode cX0_learn 150 = .ok (.iload 5, 2) := by decide +kernel
theorem dX0_learn_152 : decode cX0_learn 152 = .ok (.ireturn, 1) := by decide +kernel
theorem dX0_beginOn_0 : decode cX0_beginOn 0 = .ok (.aload_n 0, 1) := by decide +kernel
theorem dX0_beginOn_1 : decode cX0_beginOn 1 = .ok (.iload_n 1, 1) := by decide +kernel
theorem dX0_beginOn_2 : decode cX0_beginOn 2 = .ok (.invokevirtual 44, 3) := by decide +kernel
theorem dX0_beginOn_5 : decode cX0_beginOn 5 = .ok (.ifCond .ne 6, 3) := by decide +kernel
theorem dX0_beginOn_8 : decode cX0_beginOn 8 = .ok (.bipush (-2), 2) := by decide +kernel
theorem dX0_beginOn_10 : decode cX0_beginOn 10 = .ok (.ireturn, 1) := by decide +kernel
theorem dX0_beginOn_11 : decode cX0_beginOn 11 = .ok (.aload_n 0, 1) := by decide +kernel
theorem dX0_beginOn_12 : decode cX0_beginOn 12 = .ok (.getfield 23, 3) := by decide +kernel
theorem dX0_beginOn_15 : decode cX0_beginOn 15 = .ok (.iload_n 1, 1) := by decide +kernel
theorem dX0_beginOn_16 : decode cX0_beginOn 16 = .ok (.iaload, 1) := by decide +kernel
theorem dX0_beginOn_17 : decode cX0_beginOn 17 = .ok (.istore_n 3, 1) := by decide +kernel
theorem dX0_beginOn_18 : decode cX0_beginOn 18 = .ok (.aload_n 0, 1) := by decide +kernel
theorem dX0_beginOn_19 : decode cX0_beginOn 19 = .ok (.getfield 23, 3) := by decide +kernel
theorem dX0_beginOn_22 : decode cX0_beginOn 22 = .ok (.iload_n 1, 1) := by decide +kernel
theorem dX0_beginOn_23 : decode cX0_beginOn 23 = .ok (.iload_n 2, 1) := by decide +kernel
theorem dX0_beginOn_24 : decode cX0_beginOn 24 = .ok (.iastore, 1) := by decide +kernel
theorem dX0_beginOn_25 : decode cX0_beginOn 25 = .ok (.iload_n 3, 1) := by decide +kernel
theorem dX0_beginOn_26 : decode cX0_beginOn 26 = .ok (.ireturn, 1) := by decide +kernel
theorem dX0_halfOf_0 : decode cX0_halfOf 0 = .ok (.aload_n 0, 1) := by decide +kernel
theorem dX0_halfOf_1 : decode cX0_halfOf 1 = .ok (.iload_n 1, 1) := by decide +kernel
theorem dX0_halfOf_2 : decode cX0_halfOf 2 = .ok (.invokevirtual 44, 3) := by decide +kernel
theorem dX0_halfOf_5 : decode cX0_halfOf 5 = .ok (.ifCond .eq 12, 3) := by decide +kernel
theorem dX0_halfOf_8 : decode cX0_halfOf 8 = .ok (.aload_n 0, 1) := by decide +kernel
theorem dX0_halfOf_9 : decode cX0_halfOf 9 = .ok (.getfield 16, 3) := by decide +kernel
theorem dX0_halfOf_12 : decode cX0_halfOf 12 = .ok (.iload_n 1, 1) := by decide +kernel
theorem dX0_halfOf_13 : decode cX0_halfOf 13 = .ok (.iaload, 1) := by decide +kernel
theorem dX0_halfOf_14 : decode cX0_halfOf 14 = .ok (.goto 4, 3) := by decide +kernel
theorem dX0_halfOf_17 : decode cX0_halfOf 17 = .ok (.iconst 0, 1) := by decide +kernel
theorem dX0_halfOf_18 : decode cX0_halfOf 18 = .ok (.ireturn, 1) := by decide +kernel
theorem dX0_noseOf_0 : decode cX0_noseOf 0 = .ok (.aload_n 0, 1) := by decide +kernel
theorem dX0_noseOf_1 : decode cX0_noseOf 1 = .ok (.iload_n 1, 1) := by decide +kernel
theorem dX0_noseOf_2 : decode cX0_noseOf 2 = .ok (.invokevirtual 44, 3) := by decide +kernel
theorem dX0_noseOf_5 : decode cX0_noseOf 5 = .ok (.ifCond .eq 12, 3) := by decide +kernel
theorem dX0_noseOf_8 : decode cX0_noseOf 8 = .ok (.aload_n 0, 1) := by decide +kernel
theorem dX0_noseOf_9 : decode cX0_noseOf 9 = .ok (.getfield 20, 3) := by decide +kernel
theorem dX0_noseOf_12 : decode cX0_noseOf 12 = .ok (.iload_n 1, 1) := by decide +kernel
theorem dX0_noseOf_13 : decode cX0_noseOf 13 = .ok (.iaload, 1) := by decide +kernel
theorem dX0_noseOf_14 : decode cX0_noseOf 14 = .ok (.goto 4, 3) := by decide +kernel
theorem dX0_noseOf_17 : decode cX0_noseOf 17 = .ok (.iconst 0, 1) := by decide +kernel
theorem dX0_noseOf_18 : decode cX0_noseOf 18 = .ok (.ireturn, 1) := by decide +kernel
theorem dX0_firstHand_0 : decode cX0_firstHand 0 = .ok (.aload_n 0, 1) := by decide +kernel
theorem dX0_firstHand_1 : decode cX0_firstHand 1 = .ok (.iload_n 1, 1) := by decide +kernel
theorem dX0_firstHand_2 : decode cX0_firstHand 2 = .ok (.invokevirtual 44, 3) := by decide +kernel
theorem dX0_firstHand_5 : decode cX0_firstHand 5 = .ok (.ifCond .eq 12, 3) := by decide +kernel
theorem dX0_firstHand_8 : decode cX0_firstHand 8 = .ok (.aload_n 0, 1) := by decide +kernel
theorem dX0_firstHand_9 : decode cX0_firstHand 9 = .ok (.getfield 23, 3) := by decide +kernel
theorem dX0_firstHand_12 : decode cX0_firstHand 12 = .ok (.iload_n 1, 1) := by decide +kernel
theorem dX0_firstHand_13 : decode cX0_firstHand 13 = .ok (.iaload, 1) := by decide +kernel
theorem dX0_firstHand_14 : decode cX0_firstHand 14 = .ok (.goto 4, 3) := by decide +kernel
theorem dX0_firstHand_17 : decode cX0_firstHand 17 = .ok (.iconst (-1), 1) := by decide +kernel
theorem dX0_firstHand_18 : decode cX0_firstHand 18 = .ok (.ireturn, 1) := by decide +kernel
theorem dX0_places_0 : decode cX0_places 0 = .ok (.aload_n 0, 1) := by decide +kernel
theorem dX0_places_1 : decode cX0_places 1 = .ok (.iload_n 1, 1) := by decide +kernel
theorem dX0_places_2 : decode cX0_places 2 = .ok (.invokevirtual 44, 3) := by decide +kernel
theorem dX0_places_5 : decode cX0_places 5 = .ok (.ifCond .eq 21, 3) := by decide +kernel
theorem dX0_places_8 : decode cX0_places 8 = .ok (.iconst 2, 1) := by decide +kernel
theorem dX0_places_9 : decode cX0_places 9 = .ok (.aload_n 0, 1) := by decide +kernel
theorem dX0_places_10 : decode cX0_places 10 = .ok (.getfield 16, 3) := by decide +kernel
theorem dX0_places_13 : decode cX0_places 13 = .ok (.iload_n 1, 1) := by decide +kernel
theorem dX0_places_14 : decode cX0_places 14 = .ok (.iaload, 1) := by decide +kernel
theorem dX0_places_15 : decode cX0_places 15 = .ok (.imul, 1) := by decide +kernel
theorem dX0_places_16 : decode cX0_places 16 = .ok (.aload_n 0, 1) := by decide +kernel
theorem dX0_places_17 : decode cX0_places 17 = .ok (.getfield 20, 3) := by decide +kernel
theorem dX0_places_20 : decode cX0_places 20 = .ok (.iload_n 1, 1) := by decide +kernel
theorem dX0_places_21 : decode cX0_places 21 = .ok (.iaload, 1) := by decide +kernel
theorem dX0_places_22 : decode cX0_places 22 = .ok (.iadd, 1) := by decide +kernel
theorem dX0_places_23 : decode cX0_places 23 = .ok (.goto 4, 3) := by decide +kernel
theorem dX0_places_26 : decode cX0_places 26 = .ok (.iconst 0, 1) := by decide +kernel
theorem dX0_places_27 : decode cX0_places 27 = .ok (.ireturn, 1) := by decide +kernel
theorem dX0_sideAt_0 : decode cX0_sideAt 0 = .ok (.aload_n 0, 1) := by decide +kernel
theorem dX0_sideAt_1 : decode cX0_sideAt 1 = .ok (.iload_n 1, 1) := by decide +kernel
theorem dX0_sideAt_2 : decode cX0_sideAt 2 = .ok (.invokevirtual 44, 3) := by decide +kernel
theorem dX0_sideAt_5 : decode cX0_sideAt 5 = .ok (.ifCond .ne 5, 3) := by decide +kernel
theorem dX0_sideAt_8 : decode cX0_sideAt 8 = .ok (.iconst (-1), 1) := by decide +kernel
theorem dX0_sideAt_9 : decode cX0_sideAt 9 = .ok (.ireturn, 1) := by decide +kernel
theorem dX0_sideAt_10 : decode cX0_sideAt 10 = .ok (.iload_n 2, 1) := by decide +kernel
theorem dX0_sideAt_11 : decode cX0_sideAt 11 = .ok (.aload_n 0, 1) := by decide +kernel
theorem dX0_sideAt_12 : decode cX0_sideAt 12 = .ok (.getfield 16, 3) := by decide +kernel
theorem dX0_sideAt_15 : decode cX0_sideAt 15 = .ok (.iload_n 1, 1) := by decide +kernel
theorem dX0_sideAt_16 : decode cX0_sideAt 16 = .ok (.iaload, 1) := by decide +kernel
theorem dX0_sideAt_17 : decode cX0_sideAt 17 = .ok (.if_icmp .gt 5, 3) := by decide +kernel
theorem dX0_sideAt_20 : decode cX0_sideAt 20 = .ok (.iconst 0, 1) := by decide +kernel
theorem dX0_sideAt_21 : decode cX0_sideAt 21 = .ok (.ireturn, 1) := by decide +kernel
theorem dX0_sideAt_22 : decode cX0_sideAt 22 = .ok (.aload_n 0, 1) := by decide +kernel
theorem dX0_sideAt_23 : decode cX0_sideAt 23 = .ok (.getfield 20, 3) := by decide +kernel
theorem dX0_sideAt_26 : decode cX0_sideAt 26 = .ok (.iload_n 1, 1) := by decide +kernel
theorem dX0_sideAt_27 : decode cX0_sideAt 27 = .ok (.iaload, 1) := by decide +kernel
theorem dX0_sideAt_28 : decode cX0_sideAt 28 = .ok (.iconst 1, 1) := by decide +kernel
theorem dX0_sideAt_29 : decode cX0_sideAt 29 = .ok (.if_icmp .ne 19, 3) := by decide +kernel
theorem dX0_sideAt_32 : decode cX0_sideAt 32 = .ok (.iload_n 2, 1) := by decide +kernel
theorem dX0_sideAt_33 : decode cX0_sideAt 33 = .ok (.aload_n 0, 1) := by decide +kernel
theorem dX0_sideAt_34 : decode cX0_sideAt 34 = .ok (.getfield 16, 3) := by decide +kernel
theorem dX0_sideAt_37 : decode cX0_sideAt 37 = .ok (.iload_n 1, 1) := by decide +kernel
theorem dX0_sideAt_38 : decode cX0_sideAt 38 = .ok (.iaload, 1) := by decide +kernel
theorem dX0_sideAt_39 : decode cX0_sideAt 39 = .ok (.iconst 1, 1) := by decide +kernel
theorem dX0_sideAt_40 : decode cX0_sideAt 40 = .ok (.iadd, 1) := by decide +kernel
theorem dX0_sideAt_41 : decode cX0_sideAt 41 = .ok (.if_icmp .ne 7, 3) := by decide +kernel
theorem dX0_sideAt_44 : decode cX0_sideAt 44 = .ok (.iconst 2, 1) := by decide +kernel
theorem dX0_sideAt_45 : decode cX0_sideAt 45 = .ok (.goto 4, 3) := by decide +kernel
theorem dX0_sideAt_48 : decode cX0_sideAt 48 = .ok (.iconst 1, 1) := by decide +kernel
theorem dX0_sideAt_49 : decode cX0_sideAt 49 = .ok (.ireturn, 1) := by decide +kernel
theorem dX0_handAt_0 : decode cX0_handAt 0 = .ok (.aload_n 0, 1) := by decide +kernel
theorem dX0_handAt_1 : decode cX0_handAt 1 = .ok (.iload_n 1, 1) := by decide +kernel
theorem dX0_handAt_2 : decode cX0_handAt 2 = .ok (.iload_n 2, 1) := by decide +kernel
theorem dX0_handAt_3 : decode cX0_handAt 3 = .ok (.invokevirtual 48, 3) := by decide +kernel
theorem dX0_handAt_6 : decode cX0_handAt 6 = .ok (.lookupswitch 40 #[(0, 26), (1, 32)], 26) := by decide +kernel
theorem dX0_handAt_32 : decode cX0_handAt 32 = .ok (.aload_n 0, 1) := by decide +kernel
theorem dX0_handAt_33 : decode cX0_handAt 33 = .ok (.iload_n 1, 1) := by decide +kernel
theorem dX0_handAt_34 : decode cX0_handAt 34 = .ok (.invokevirtual 51, 3) := by decide +kernel
theorem dX0_handAt_37 : decode cX0_handAt 37 = .ok (.ireturn, 1) := by decide +kernel
theorem dX0_handAt_38 : decode cX0_handAt 38 = .ok (.iconst 1, 1) := by decide +kernel
theorem dX0_handAt_39 : decode cX0_handAt 39 = .ok (.aload_n 0, 1) := by decide +kernel
theorem dX0_handAt_40 : decode cX0_handAt 40 = .ok (.iload_n 1, 1) := by decide +kernel
theorem dX0_handAt_41 : decode cX0_handAt 41 = .ok (.invokevirtual 51, 3) := by decide +kernel
theorem dX0_handAt_44 : decode cX0_handAt 44 = .ok (.isub, 1) := by decide +kernel
theorem dX0_handAt_45 : decode cX0_handAt 45 = .ok (.ireturn, 1) := by decide +kernel
theorem dX0_handAt_46 : decode cX0_handAt 46 = .ok (.iconst 2, 1) := by decide +kernel
theorem dX0_handAt_47 : decode cX0_handAt 47 = .ok (.ireturn, 1) := by decide +kernel
theorem dX0_wordAt_0 : decode cX0_wordAt 0 = .ok (.aload_n 0, 1) := by decide +kernel
theorem dX0_wordAt_1 : decode cX0_wordAt 1 = .ok (.iload_n 1, 1) := by decide +kernel
theorem dX0_wordAt_2 : decode cX0_wordAt 2 = .ok (.invokevirtual 44, 3) := by decide +kernel
theorem dX0_wordAt_5 : decode cX0_wordAt 5 = .ok (.ifCond .eq 36, 3) := by decide +kernel
theorem dX0_wordAt_8 : decode cX0_wordAt 8 = .ok (.iload_n 2, 1) := by decide +kernel
theorem dX0_wordAt_9 : decode cX0_wordAt 9 = .ok (.iconst 1, 1) := by decide +kernel
theorem dX0_wordAt_10 : decode cX0_wordAt 10 = .ok (.if_icmp .lt 31, 3) := by decide +kernel
theorem dX0_wordAt_13 : decode cX0_wordAt 13 = .ok (.iload_n 2, 1) := by decide +kernel
theorem dX0_wordAt_14 : decode cX0_wordAt 14 = .ok (.aload_n 0, 1) := by decide +kernel
theorem dX0_wordAt_15 : decode cX0_wordAt 15 = .ok (.iload_n 1, 1) := by decide +kernel
theorem dX0_wordAt_16 : decode cX0_wordAt 16 = .ok (.invokevirtual 55, 3) := by decide +kernel
theorem dX0_wordAt_19 : decode cX0_wordAt 19 = .ok (.if_icmp .gt 22, 3) := by decide +kernel
theorem dX0_wordAt_22 : decode cX0_wordAt 22 = .ok (.iload_n 2, 1) := by decide +kernel
theorem dX0_wordAt_23 : decode cX0_wordAt 23 = .ok (.bipush 41, 2) := by decide +kernel
theorem dX0_wordAt_25 : decode cX0_wordAt 25 = .ok (.if_icmp .gt 16, 3) := by decide +kernel
theorem dX0_wordAt_28 : decode cX0_wordAt 28 = .ok (.aload_n 0, 1) := by decide +kernel
theorem dX0_wordAt_29 : decode cX0_wordAt 29 = .ok (.getfield 13, 3) := by decide +kernel
theorem dX0_wordAt_32 : decode cX0_wordAt 32 = .ok (.iload_n 1, 1) := by decide +kernel
theorem dX0_wordAt_33 : decode cX0_wordAt 33 = .ok (.aaload, 1) := by decide +kernel
theorem dX0_wordAt_34 : decode cX0_wordAt 34 = .ok (.iload_n 2, 1) := by decide +kernel
theorem dX0_wordAt_35 : decode cX0_wordAt 35 = .ok (.iconst 1, 1) := by decide +kernel
theorem dX0_wordAt_36 : decode cX0_wordAt 36 = .ok (.isub, 1) := by decide +kernel
theorem dX0_wordAt_37 : decode cX0_wordAt 37 = .ok (.iaload, 1) := by decide +kernel
theorem dX0_wordAt_38 : decode cX0_wordAt 38 = .ok (.goto 4, 3) := by decide +kernel
theorem dX0_wordAt_41 : decode cX0_wordAt 41 = .ok (.iconst (-1), 1) := by decide +kernel
theorem dX0_wordAt_42 : decode cX0_wordAt 42 = .ok (.ireturn, 1) := by decide +kernel
theorem dX0_menOf_0 : decode cX0_menOf 0 = .ok (.aload_n 0, 1) := by decide +kernel
theorem dX0_menOf_1 : decode cX0_menOf 1 = .ok (.iload_n 1, 1) := by decide +kernel
theorem dX0_menOf_2 : decode cX0_menOf 2 = .ok (.invokevirtual 55, 3) := by decide +kernel
theorem dX0_menOf_5 : decode cX0_menOf 5 = .ok (.istore_n 3, 1) := by decide +kernel
theorem dX0_menOf_6 : decode cX0_menOf 6 = .ok (.iload_n 3, 1) := by decide +kernel
theorem dX0_menOf_7 : decode cX0_menOf 7 = .ok (.ifCond .le 11, 3) := by decide +kernel
theorem dX0_menOf_10 : decode cX0_menOf 10 = .ok (.iload_n 2, 1) := by decide +kernel
theorem dX0_menOf_11 : decode cX0_menOf 11 = .ok (.iconst 1, 1) := by decide +kernel
theorem dX0_menOf_12 : decode cX0_menOf 12 = .ok (.isub, 1) := by decide +kernel
theorem dX0_menOf_13 : decode cX0_menOf 13 = .ok (.iload_n 3, 1) := by decide +kernel
theorem dX0_menOf_14 : decode cX0_menOf 14 = .ok (.idiv, 1) := by decide +kernel
theorem dX0_menOf_15 : decode cX0_menOf 15 = .ok (.goto 4, 3) := by decide +kernel
theorem dX0_menOf_18 : decode cX0_menOf 18 = .ok (.iconst 0, 1) := by decide +kernel
theorem dX0_menOf_19 : decode cX0_menOf 19 = .ok (.ireturn, 1) := by decide +kernel
theorem dX0_placeOf_0 : decode cX0_placeOf 0 = .ok (.aload_n 0, 1) := by decide +kernel
theorem dX0_placeOf_1 : decode cX0_placeOf 1 = .ok (.iload_n 1, 1) := by decide +kernel
theorem dX0_placeOf_2 : decode cX0_placeOf 2 = .ok (.invokevirtual 55, 3) := by decide +kernel
theorem dX0_placeOf_5 : decode cX0_placeOf 5 = .ok (.istore_n 3, 1) := by decide +kernel
theorem dX0_placeOf_6 : decode cX0_placeOf 6 = .ok (.iload_n 3, 1) := by decide +kernel
theorem dX0_placeOf_7 : decode cX0_placeOf 7 = .ok (.ifCond .le 13, 3) := by decide +kernel
theorem dX0_placeOf_10 : decode cX0_placeOf 10 = .ok (.iload_n 2, 1) := by decide +kernel
theorem dX0_placeOf_11 : decode cX0_placeOf 11 = .ok (.iconst 1, 1) := by decide +kernel
theorem dX0_placeOf_12 : decode cX0_placeOf 12 = .ok (.isub, 1) := by decide +kernel
theorem dX0_placeOf_13 : decode cX0_placeOf 13 = .ok (.iload_n 3, 1) := by decide +kernel
theorem dX0_placeOf_14 : decode cX0_placeOf 14 = .ok (.irem, 1) := by decide +kernel
theorem dX0_placeOf_15 : decode cX0_placeOf 15 = .ok (.iconst 1, 1) := by decide +kernel
theorem dX0_placeOf_16 : decode cX0_placeOf 16 = .ok (.iadd, 1) := by decide +kernel
theorem dX0_placeOf_17 : decode cX0_placeOf 17 = .ok (.goto 4, 3) := by decide +kernel
theorem dX0_placeOf_20 : decode cX0_placeOf 20 = .ok (.iconst 0, 1) := by decide +kernel
theorem dX0_placeOf_21 : decode cX0_placeOf 21 = .ok (.ireturn, 1) := by decide +kernel
theorem dX0_wordOf_0 : decode cX0_wordOf 0 = .ok (.aload_n 0, 1) := by decide +kernel
theorem dX0_wordOf_1 : decode cX0_wordOf 1 = .ok (.iload_n 1, 1) := by decide +kernel
theorem dX0_wordOf_2 : decode cX0_wordOf 2 = .ok (.aload_n 0, 1) := by decide +kernel
theorem dX0_wordOf_3 : decode cX0_wordOf 3 = .ok (.iload_n 1, 1) := by decide +kernel
theorem dX0_wordOf_4 : decode cX0_wordOf 4 = .ok (.iload_n 2, 1) := by decide +kernel
theorem dX0_wordOf_5 : decode cX0_wordOf 5 = .ok (.invokevirtual 58, 3) := by decide +kernel
theorem dX0_wordOf_8 : decode cX0_wordOf 8 = .ok (.invokevirtual 61, 3) := by decide +kernel
theorem dX0_wordOf_11 : decode cX0_wordOf 11 = .ok (.ireturn, 1) := by decide +kernel
theorem dX0_means_0 : decode cX0_means 0 = .ok (.aload_n 0, 1) := by decide +kernel
theorem dX0_means_1 : decode cX0_means 1 = .ok (.iload_n 1, 1) := by decide +kernel
theorem dX0_means_2 : decode cX0_means 2 = .ok (.iload 5, 2) := by decide +kernel
theorem dX0_means_4 : decode cX0_means 4 = .ok (.invokevirtual 58, 3) := by decide +kernel
theorem dX0_means_7 : decode cX0_means 7 = .ok (.istore 6, 2) := by decide +kernel
theorem dX0_means_9 : decode cX0_means 9 = .ok (.aload_n 0, 1) := by decide +kernel
theorem dX0_means_10 : decode cX0_means 10 = .ok (.iload_n 1, 1) := by decide +kernel
theorem dX0_means_11 : decode cX0_means 11 = .ok (.iload 6, 2) := by decide +kernel
theorem dX0_means_13 : decode cX0_means 13 = .ok (.invokevirtual 61, 3) := by decide +kernel
theorem dX0_means_16 : decode cX0_means 16 = .ok (.iload_n 2, 1) := by decide +kernel
theorem dX0_means_17 : decode cX0_means 17 = .ok (.if_icmp .ne 41, 3) := by decide +kernel
theorem dX0_means_20 : decode cX0_means 20 = .ok (.iload_n 3, 1) := by decide +kernel
theorem dX0_means_21 : decode cX0_means 21 = .ok (.iconst (-1), 1) := by decide +kernel
theorem dX0_means_22 : decode cX0_means 22 = .ok (.if_icmp .eq 14, 3) := by decide +kernel
theorem dX0_means_25 : decode cX0_means 25 = .ok (.aload_n 0, 1) := by decide +kernel
theorem dX0_means_26 : decode cX0_means 26 = .ok (.iload_n 1, 1) := by decide +kernel
theorem dX0_means_27 : decode cX0_means 27 = .ok (.iload 6, 2) := by decide +kernel
theorem dX0_means_29 : decode cX0_means 29 = .ok (.invokevirtual 62, 3) := by decide +kernel
theorem dX0_means_32 : decode cX0_means 32 = .ok (.iload_n 3, 1) := by decide +kernel
theorem dX0_means_33 : decode cX0_means 33 = .ok (.if_icmp .ne 25, 3) := by decide +kernel
theorem dX0_means_36 : decode cX0_means 36 = .ok (.iload 4, 2) := by decide +kernel
theorem dX0_means_38 : decode cX0_means 38 = .ok (.iconst (-1), 1) := by decide +kernel
theorem dX0_means_39 : decode cX0_means 39 = .ok (.if_icmp .eq 15, 3) := by decide +kernel
theorem dX0_means_42 : decode cX0_means 42 = .ok (.aload_n 0, 1) := by decide +kernel
theorem dX0_means_43 : decode cX0_means 43 = .ok (.iload_n 1, 1) := by decide +kernel
theorem dX0_means_44 : decode cX0_means 44 = .ok (.iload 5, 2) := by decide +kernel
theorem dX0_means_46 : decode cX0_means 46 = .ok (.invokevirtual 65, 3) := by decide +kernel
theorem dX0_means_49 : decode cX0_means 49 = .ok (.iload 4, 2) := by decide +kernel
theorem dX0_means_51 : decode cX0_means 51 = .ok (.if_icmp .ne 7, 3) := by decide +kernel
theorem dX0_means_54 : decode cX0_means 54 = .ok (.iconst 1, 1) := by decide +kernel
theorem dX0_means_55 : decode cX0_means 55 = .ok (.goto 4, 3) := by decide +kernel
theorem dX0_means_58 : decode cX0_means 58 = .ok (.iconst 0, 1) := by decide +kernel
theorem dX0_means_59 : decode cX0_means 59 = .ok (.ireturn, 1) := by decide +kernel
theorem dX0_heardAs_0 : decode cX0_heardAs 0 = .ok (.aload_n 0, 1) := by decide +kernel
theorem dX0_heardAs_1 : decode cX0_heardAs 1 = .ok (.iload_n 1, 1) := by decide +kernel
theorem dX0_heardAs_2 : decode cX0_heardAs 2 = .ok (.iload_n 3, 1) := by decide +kernel
theorem dX0_heardAs_3 : decode cX0_heardAs 3 = .ok (.invokevirtual 58, 3) := by decide +kernel
theorem dX0_heardAs_6 : decode cX0_heardAs 6 = .ok (.istore 4, 2) := by decide +kernel
theorem dX0_heardAs_8 : decode cX0_heardAs 8 = .ok (.aload_n 0, 1) := by decide +kernel
theorem dX0_heardAs_9 : decode cX0_heardAs 9 = .ok (.iload_n 1, 1) := by decide +kernel
theorem dX0_heardAs_10 : decode cX0_heardAs 10 = .ok (.iload 4, 2) := by decide +kernel
theorem dX0_heardAs_12 : decode cX0_heardAs 12 = .ok (.invokevirtual 61, 3) := by decide +kernel
theorem dX0_heardAs_15 : decode cX0_heardAs 15 = .ok (.istore 5, 2) := by decide +kernel
theorem dX0_heardAs_17 : decode cX0_heardAs 17 = .ok (.aload_n 0, 1) := by decide +kernel
theorem dX0_heardAs_18 : decode cX0_heardAs 18 = .ok (.iload_n 1, 1) := by decide +kernel
theorem dX0_heardAs_19 : decode cX0_heardAs 19 = .ok (.iload 4, 2) := by decide +kernel
theorem dX0_heardAs_21 : decode cX0_heardAs 21 = .ok (.invokevirtual 62, 3) := by decide +kernel
theorem dX0_heardAs_24 : decode cX0_heardAs 24 = .ok (.istore 6, 2) := by decide +kernel
theorem dX0_heardAs_26 : decode cX0_heardAs 26 = .ok (.aload_n 0, 1) := by decide +kernel
theorem dX0_heardAs_27 : decode cX0_heardAs 27 = .ok (.iload_n 2, 1) := by decide +kernel
theorem dX0_heardAs_28 : decode cX0_heardAs 28 = .ok (.invokevirtual 55, 3) := by decide +kernel
theorem dX0_heardAs_31 : decode cX0_heardAs 31 = .ok (.istore 7, 2) := by decide +kernel
theorem dX0_heardAs_33 : decode cX0_heardAs 33 = .ok (.iconst 1, 1) := by decide +kernel
theorem dX0_heardAs_34 : decode cX0_heardAs 34 = .ok (.istore 8, 2) := by decide +kernel
theorem dX0_heardAs_36 : decode cX0_heardAs 36 = .ok (.iload 8, 2) := by decide +kernel
theorem dX0_heardAs_38 : decode cX0_heardAs 38 = .ok (.iload 7, 2) := by decide +kernel
theorem dX0_heardAs_40 : decode cX0_heardAs 40 = .ok (.if_icmp .gt 62, 3) := by decide +kernel
theorem dX0_heardAs_43 : decode cX0_heardAs 43 = .ok (.aload_n 0, 1) := by decide +kernel
theorem dX0_heardAs_44 : decode cX0_heardAs 44 = .ok (.iload_n 2, 1) := by decide +kernel
theorem dX0_heardAs_45 : decode cX0_heardAs 45 = .ok (.iload 8, 2) := by decide +kernel
theorem dX0_heardAs_47 : decode cX0_heardAs 47 = .ok (.invokevirtual 61, 3) := by decide +kernel
theorem dX0_heardAs_50 : decode cX0_heardAs 50 = .ok (.iload 5, 2) := by decide +kernel
theorem dX0_heardAs_52 : decode cX0_heardAs 52 = .ok (.if_icmp .ne 44, 3) := by decide +kernel
theorem dX0_heardAs_55 : decode cX0_heardAs 55 = .ok (.aload_n 0, 1) := by decide +kernel
theorem dX0_heardAs_56 : decode cX0_heardAs 56 = .ok (.iload_n 2, 1) := by decide +kernel
theorem dX0_heardAs_57 : decode cX0_heardAs 57 = .ok (.iload 8, 2) := by decide +kernel
theorem dX0_heardAs_59 : decode cX0_heardAs 59 = .ok (.invokevirtual 62, 3) := by decide +kernel
theorem dX0_heardAs_62 : decode cX0_heardAs 62 = .ok (.iload 6, 2) := by decide +kernel
theorem dX0_heardAs_64 : decode cX0_heardAs 64 = .ok (.if_icmp .ne 32, 3) := by decide +kernel
theorem dX0_heardAs_67 : decode cX0_heardAs 67 = .ok (.aload_n 0, 1) := by decide +kernel
theorem dX0_heardAs_68 : decode cX0_heardAs 68 = .ok (.iload_n 1, 1) := by decide +kernel
theorem dX0_heardAs_69 : decode cX0_heardAs 69 = .ok (.iload_n 3, 1) := by decide +kernel
theorem dX0_heardAs_70 : decode cX0_heardAs 70 = .ok (.invokevirtual 65, 3) := by decide +kernel
theorem dX0_heardAs_73 : decode cX0_heardAs 73 = .ok (.iload 7, 2) := by decide +kernel
theorem dX0_heardAs_75 : decode cX0_heardAs 75 = .ok (.imul, 1) := by decide +kernel
theorem dX0_heardAs_76 : decode cX0_heardAs 76 = .ok (.iload 8, 2) := by decide +kernel
theorem dX0_heardAs_78 : decode cX0_heardAs 78 = .ok (.iadd, 1) := by decide +kernel
theorem dX0_heardAs_79 : decode cX0_heardAs 79 = .ok (.istore 9, 2) := by decide +kernel
theorem dX0_heardAs_81 : decode cX0_heardAs 81 = .ok (.iload 9, 2) := by decide +kernel
theorem dX0_heardAs_83 : decode cX0_heardAs 83 = .ok (.sipush 400, 3) := by decide +kernel
theorem dX0_heardAs_86 : decode cX0_heardAs 86 = .ok (.if_icmp .gt 8, 3) := by decide +kernel
theorem dX0_heardAs_89 : decode cX0_heardAs 89 = .ok (.iload 9, 2) := by decide +kernel
theorem dX0_heardAs_91 : decode cX0_heardAs 91 = .ok (.goto 4, 3) := by decide +kernel
theorem dX0_heardAs_94 : decode cX0_heardAs 94 = .ok (.iconst (-1), 1) := by decide +kernel
theorem dX0_heardAs_95 : decode cX0_heardAs 95 = .ok (.ireturn, 1) := by decide +kernel
theorem dX0_heardAs_96 : decode cX0_heardAs 96 = .ok (.iinc 8 1, 3) := by decide +kernel
theorem dX0_heardAs_99 : decode cX0_heardAs 99 = .ok (.goto (-63), 3) := by decide +kernel
theorem dX0_heardAs_102 : decode cX0_heardAs 102 = .ok (.iconst (-1), 1) := by decide +kernel
theorem dX0_heardAs_103 : decode cX0_heardAs 103 = .ok (.ireturn, 1) := by decide +kernel
theorem dX1_init_0 : decode cX1_init 0 = .ok (.aload_n 0, 1) := by decide +kernel
theorem dX1_init_1 : decode cX1_init 1 = .ok (.invokespecial 3, 3) := by decide +kernel
theorem dX1_init_4 : decode cX1_init 4 = .ok (.aload_n 0, 1) := by decide +kernel
theorem dX1_init_5 : decode cX1_init 5 = .ok (.bipush 8, 2) := by decide +kernel
theorem dX1_init_7 : decode cX1_init 7 = .ok (.bipush 8, 2) := by decide +kernel
theorem dX1_init_9 : decode cX1_init 9 = .ok (.multianewarray 11 2, 4) := by decide +kernel
theorem dX1_init_13 : decode cX1_init 13 = .ok (.putfield 13, 3) := by decide +kernel
theorem dX1_init_16 : decode cX1_init 16 = .ok (.aload_n 0, 1) := by decide +kernel
theorem dX1_init_17 : decode cX1_init 17 = .ok (.bipush 8, 2) := by decide +kernel
theorem dX1_init_19 : decode cX1_init 19 = .ok (.newarray .int, 2) := by decide +kernel
theorem dX1_init_21 : decode cX1_init 21 = .ok (.putfield 16, 3) := by decide +kernel
theorem dX1_init_24 : decode cX1_init 24 = .ok (.aload_n 0, 1) := by decide +kernel
theorem dX1_init_25 : decode cX1_init 25 = .ok (.bipush 8, 2) := by decide +kernel
theorem dX1_init_27 : decode cX1_init 27 = .ok (.newarray .int, 2) := by decide +kernel
theorem dX1_init_29 : decode cX1_init 29 = .ok (.putfield 20, 3) := by decide +kernel
theorem dX1_init_32 : decode cX1_init 32 = .ok (.aload_n 0, 1) := by decide +kernel
theorem dX1_init_33 : decode cX1_init 33 = .ok (.iconst 0, 1) := by decide +kernel
theorem dX1_init_34 : decode cX1_init 34 = .ok (.putfield 23, 3) := by decide +kernel
theorem dX1_init_37 : decode cX1_init 37 = .ok (.return_, 1) := by decide +kernel
theorem dX1_size_0 : decode cX1_size 0 = .ok (.aload_n 0, 1) := by decide +kernel
theorem dX1_size_1 : decode cX1_size 1 = .ok (.getfield 23, 3) := by decide +kernel
theorem dX1_size_4 : decode cX1_size 4 = .ok (.ireturn, 1) := by decide +kernel
theorem dX1_has_0 : decode cX1_has 0 = .ok (.iload_n 1, 1) := by decide +kernel
theorem dX1_has_1 : decode cX1_has 1 = .ok (.ifCond .lt 21, 3) := by decide +kernel
theorem dX1_has_4 : decode cX1_has 4 = .ok (.iload_n 1, 1) := by decide +kernel
theorem dX1_has_5 : decode cX1_has 5 = .ok (.aload_n 0, 1) := by decide +kernel
theorem dX1_has_6 : decode cX1_has 6 = .ok (.getfield 23, 3) := by decide +kernel
theorem dX1_has_9 : decode cX1_has 9 = .ok (.if_icmp .ge 13, 3) := by decide +kernel
theorem dX1_has_12 : decode cX1_has 12 = .ok (.iload_n 1, 1) := by decide +kernel
theorem dX1_has_13 : decode cX1_has 13 = .ok (.bipush 8, 2) := by decide +kernel
theorem dX1_has_15 : decode cX1_has 15 = .ok (.if_icmp .ge 7, 3) := by decide +kernel
theorem dX1_has_18 : decode cX1_has 18 = .ok (.iconst 1, 1) := by decide +kernel
theorem dX1_has_19 : decode cX1_has 19 = .ok (.goto 4, 3) := by decide +kernel
theorem dX1_has_22 : decode cX1_has 22 = .ok (.iconst 0, 1) := by decide +kernel
theorem dX1_has_23 : decode cX1_has 23 = .ok (.ireturn, 1) := by decide +kernel
theorem dX1_areTwo_0 : decode cX1_areTwo 0 = .ok (.aload_n 0, 1) := by decide +kernel
theorem dX1_areTwo_1 : decode cX1_areTwo 1 = .ok (.iload_n 1, 1) := by decide +kernel
theorem dX1_areTwo_2 : decode cX1_areTwo 2 = .ok (.invokevirtual 27, 3) := by decide +kernel
theorem dX1_areTwo_5 : decode cX1_areTwo 5 = .ok (.ifCond .eq 20, 3) := by decide +kernel
theorem dX1_areTwo_8 : decode cX1_areTwo 8 = .ok (.aload_n 0, 1) := by decide +kernel
theorem dX1_areTwo_9 : decode cX1_areTwo 9 = .ok (.iload_n 2, 1) := by decide +kernel
theorem dX1_areTwo_10 : decode cX1_areTwo 10 = .ok (.invokevirtual 27, 3) := by decide +kernel
theorem dX1_areTwo_13 : decode cX1_areTwo 13 = .ok (.ifCond .eq 12, 3) := by decide +kernel
theorem dX1_areTwo_16 : decode cX1_areTwo 16 = .ok (.iload_n 1, 1) := by decide +kernel
theorem dX1_areTwo_17 : decode cX1_areTwo 17 = .ok (.iload_n 2, 1) := by decide +kernel
theorem dX1_areTwo_18 : decode cX1_areTwo 18 = .ok (.if_icmp .eq 7, 3) := by decide +kernel
theorem dX1_areTwo_21 : decode cX1_areTwo 21 = .ok (.iconst 1, 1) := by decide +kernel
theorem dX1_areTwo_22 : decode cX1_areTwo 22 = .ok (.goto 4, 3) := by decide +kernel
theorem dX1_areTwo_25 : decode cX1_areTwo 25 = .ok (.iconst 0, 1) := by decide +kernel
theorem dX1_areTwo_26 : decode cX1_areTwo 26 = .ok (.ireturn, 1) := by decide +kernel
theorem dX1_welcome_0 : decode cX1_welcome 0 = .ok (.aload_n 0, 1) := by decide +kernel
theorem dX1_welcome_1 : decode cX1_welcome 1 = .ok (.getfield 23, 3) := by decide +kernel
theorem dX1_welcome_4 : decode cX1_welcome 4 = .ok (.bipush 8, 2) := by decide +kernel
theorem dX1_welcome_6 : decode cX1_welcome 6 = .ok (.if_icmp .lt 6, 3) := by decide +kernel
theorem dX1_welcome_9 : decode cX1_welcome 9 = .ok (.bipush (-4), 2) := by decide +kernel
theorem dX1_welcome_11 : decode cX1_welcome 11 = .ok (.ireturn, 1) := by decide +kernel
theorem dX1_welcome_12 : decode cX1_welcome 12 = .ok (.aload_n 0, 1) := by decide +kernel
theorem dX1_welcome_13 : decode cX1_welcome 13 = .ok (.getfield 16, 3) := by decide +kernel
theorem dX1_welcome_16 : decode cX1_welcome 16 = .ok (.aload_n 0, 1) := by decide +kernel
theorem dX1_welcome_17 : decode cX1_welcome 17 = .ok (.getfield 23, 3) := by decide +kernel
theorem dX1_welcome_20 : decode cX1_welcome 20 = .ok (.iload_n 1, 1) := by decide +kernel
theorem dX1_welcome_21 : decode cX1_welcome 21 = .ok (.iastore, 1) := by decide +kernel
theorem dX1_welcome_22 : decode cX1_welcome 22 = .ok (.aload_n 0, 1) := by decide +kernel
theorem dX1_welcome_23 : decode cX1_welcome 23 = .ok (.dup, 1) := by decide +kernel
theorem dX1_welcome_24 : decode cX1_welcome 24 = .ok (.getfield 23, 3) := by decide +kernel
theorem dX1_welcome_27 : decode cX1_welcome 27 = .ok (.iconst 1, 1) := by decide +kernel
theorem dX1_welcome_28 : decode cX1_welcome 28 = .ok (.iadd, 1) := by decide +kernel
theorem dX1_welcome_29 : decode cX1_welcome 29 = .ok (.putfield 23, 3) := by decide +kernel
theorem dX1_welcome_32 : decode cX1_welcome 32 = .ok (.aload_n 0, 1) := by decide +kernel
theorem dX1_welcome_33 : decode cX1_welcome 33 = .ok (.getfield 23, 3) := by decide +kernel
theorem dX1_welcome_36 : decode cX1_welcome 36 = .ok (.iconst 1, 1) := by decide +kernel
theorem dX1_welcome_37 : decode cX1_welcome 37 = .ok (.isub, 1) := by decide +kernel
theorem dX1_welcome_38 : decode cX1_welcome 38 = .ok (.ireturn, 1) := by decide +kernel
theorem dX1_countOf_0 : decode cX1_countOf 0 = .ok (.aload_n 0, 1) := by decide +kernel
theorem dX1_countOf_1 : decode cX1_countOf 1 = .ok (.iload_n 1, 1) := by decide +kernel
theorem dX1_countOf_2 : decode cX1_countOf 2 = .ok (.invokevirtual 27, 3) := by decide +kernel
theorem dX1_countOf_5 : decode cX1_countOf 5 = .ok (.ifCond .eq 12, 3) := by decide +kernel
theorem dX1_countOf_8 : decode cX1_countOf 8 = .ok (.aload_n 0, 1) := by decide +kernel
theorem dX1_countOf_9 : decode cX1_countOf 9 = .ok (.getfield 16, 3) := by decide +kernel
theorem dX1_countOf_12 : decode cX1_countOf 12 = .ok (.iload_n 1, 1) := by decide +kernel
theorem dX1_countOf_13 : decode cX1_countOf 13 = .ok (.iaload, 1) := by decide +kernel
theorem dX1_countOf_14 : decode cX1_countOf 14 = .ok (.goto 4, 3) := by decide +kernel
theorem dX1_countOf_17 : decode cX1_countOf 17 = .ok (.iconst (-1), 1) := by decide +kernel
theorem dX1_countOf_18 : decode cX1_countOf 18 = .ok (.ireturn, 1) := by decide +kernel
theorem dX1_left_0 : decode cX1_left 0 = .ok (.aload_n 0, 1) := by decide +kernel
theorem dX1_left_1 : decode cX1_left 1 = .ok (.iload_n 1, 1) := by decide +kernel
theorem dX1_left_2 : decode cX1_left 2 = .ok (.invokevirtual 27, 3) := by decide +kernel
theorem dX1_left_5 : decode cX1_left 5 = .ok (.ifCond .eq 22, 3) := by decide +kernel
theorem dX1_left_8 : decode cX1_left 8 = .ok (.aload_n 0, 1) := by decide +kernel
theorem dX1_left_9 : decode cX1_left 9 = .ok (.iload_n 2, 1) := by decide +kernel
theorem dX1_left_10 : decode cX1_left 10 = .ok (.invokevirtual 27, 3) := by decide +kernel
theorem dX1_left_13 : decode cX1_left 13 = .ok (.ifCond .eq 14, 3) := by decide +kernel
theorem dX1_left_16 : decode cX1_left 16 = .ok (.aload_n 0, 1) := by decide +kernel
theorem dX1_left_17 : decode cX1_left 17 = .ok (.getfield 13, 3) := by decide +kernel
theorem dX1_left_20 : decode cX1_left 20 = .ok (.iload_n 1, 1) := by decide +kernel
theorem dX1_left_21 : decode cX1_left 21 = .ok (.aaload, 1) := by decide +kernel
theorem dX1_left_22 : decode cX1_left 22 = .ok (.iload_n 2, 1) := by decide +kernel
theorem dX1_left_23 : decode cX1_left 23 = .ok (.iaload, 1) := by decide +kernel
theorem dX1_left_24 : decode cX1_left 24 = .ok (.goto 4, 3) := by decide +kernel
theorem dX1_left_27 : decode cX1_left 27 = .ok (.iconst 0, 1) := by decide +kernel
theorem dX1_left_28 : decode cX1_left 28 = .ok (.ireturn, 1) := by decide +kernel
theorem dX1_give_0 : decode cX1_give 0 = .ok (.aload_n 0, 1) := by decide +kernel
theorem dX1_give_1 : decode cX1_give 1 = .ok (.iload_n 1, 1) := by decide +kernel
theorem dX1_give_2 : decode cX1_give 2 = .ok (.iload_n 2, 1) := by decide +kernel
theorem dX1_give_3 : decode cX1_give 3 = .ok (.invokevirtual 31, 3) := by decide +kernel
theorem dX1_give_6 : decode cX1_give 6 = .ok (.ifCond .ne 6, 3) := by decide +kernel
theorem dX1_give_9 : decode cX1_give 9 = .ok (.bipush (-2), 2) := by decide +kernel
theorem dX1_give_11 : decode cX1_give 11 = .ok (.ireturn, 1) := by decide +kernel
theorem dX1_give_12 : decode cX1_give 12 = .ok (.aload_n 0, 1) := by decide +kernel
theorem dX1_give_13 : decode cX1_give 13 = .ok (.getfield 13, 3) := by decide +kernel
theorem dX1_give_16 : decode cX1_give 16 = .ok (.iload_n 2, 1) := by decide +kernel
theorem dX1_give_17 : decode cX1_give 17 = .ok (.aaload, 1) := by decide +kernel
theorem dX1_give_18 : decode cX1_give 18 = .ok (.iload_n 1, 1) := by decide +kernel
theorem dX1_give_19 : decode cX1_give 19 = .ok (.iaload, 1) := by decide +kernel
theorem dX1_give_20 : decode cX1_give 20 = .ok (.aload_n 0, 1) := by decide +kernel
theorem dX1_give_21 : decode cX1_give 21 = .ok (.getfield 13, 3) := by decide +kernel
theorem dX1_give_24 : decode cX1_give 24 = .ok (.iload_n 1, 1) := by decide +kernel
theorem dX1_give_25 : decode cX1_give 25 = .ok (.aaload, 1) := by decide +kernel
theorem dX1_give_26 : decode cX1_give 26 = .ok (.iload_n 2, 1) := by decide +kernel
theorem dX1_give_27 : decode cX1_give 27 = .ok (.iaload, 1) := by decide +kernel
theorem dX1_give_28 : decode cX1_give 28 = .ok (.isub, 1) := by decide +kernel
theorem dX1_give_29 : decode cX1_give 29 = .ok (.iload_n 3, 1) := by decide +kernel
theorem dX1_give_30 : decode cX1_give 30 = .ok (.iadd, 1) := by decide +kernel
theorem dX1_give_31 : decode cX1_give 31 = .ok (.istore 4, 2) := by decide +kernel
theorem dX1_give_33 : decode cX1_give 33 = .ok (.iload 4, 2) := by decide +kernel
theorem dX1_give_35 : decode cX1_give 35 = .ok (.sipush 400, 3) := by decide +kernel
theorem dX1_give_38 : decode cX1_give 38 = .ok (.if_icmp .le 6, 3) := by decide +kernel
theorem dX1_give_41 : decode cX1_give 41 = .ok (.bipush (-3), 2) := by decide +kernel
theorem dX1_give_43 : decode cX1_give 43 = .ok (.ireturn, 1) := by decide +kernel
theorem dX1_give_44 : decode cX1_give 44 = .ok (.aload_n 0, 1) := by decide +kernel
theorem dX1_give_45 : decode cX1_give 45 = .ok (.getfield 13, 3) := by decide +kernel
theorem dX1_give_48 : decode cX1_give 48 = .ok (.iload_n 2, 1) := by decide +kernel
theorem dX1_give_49 : decode cX1_give 49 = .ok (.aaload, 1) := by decide +kernel
theorem dX1_give_50 : decode cX1_give 50 = .ok (.iload_n 1, 1) := by decide +kernel
theorem dX1_give_51 : decode cX1_give 51 = .ok (.iload 4, 2) := by decide +kernel
theorem dX1_give_53 : decode cX1_give 53 = .ok (.iconst 0, 1) := by decide +kernel
theorem dX1_give_54 : decode cX1_give 54 = .ok (.invokestatic 35, 3) := by decide +kernel
theorem dX1_give_57 : decode cX1_give 57 = .ok (.iastore, 1) := by decide +kernel
theorem dX1_give_58 : decode cX1_give 58 = .ok (.aload_n 0, 1) := by decide +kernel
theorem dX1_give_59 : decode cX1_give 59 = .ok (.getfield 13, 3) := by decide +kernel
theorem dX1_give_62 : decode cX1_give 62 = .ok (.iload_n 1, 1) := by decide +kernel
theorem dX1_give_63 : decode cX1_give 63 = .ok (.aaload, 1) := by decide +kernel
theorem dX1_give_64 : decode cX1_give 64 = .ok (.iload_n 2, 1) := by decide +kernel
theorem dX1_give_65 : decode cX1_give 65 = .ok (.iload 4, 2) := by decide +kernel
theorem dX1_give_67 : decode cX1_give 67 = .ok (.ineg, 1) := by decide +kernel
theorem dX1_give_68 : decode cX1_give 68 = .ok (.iconst 0, 1) := by decide +kernel
theorem dX1_give_69 : decode cX1_give 69 = .ok (.invokestatic 35, 3) := by decide +kernel
theorem dX1_give_72 : decode cX1_give 72 = .ok (.iastore, 1) := by decide +kernel
theorem dX1_give_73 : decode cX1_give 73 = .ok (.aload_n 0, 1) := by decide +kernel
theorem dX1_give_74 : decode cX1_give 74 = .ok (.getfield 13, 3) := by decide +kernel
theorem dX1_give_77 : decode cX1_give 77 = .ok (.iload_n 2, 1) := by decide +kernel
theorem dX1_give_78 : decode cX1_give 78 = .ok (.aaload, 1) := by decide +kernel
theorem dX1_give_79 : decode cX1_give 79 = .ok (.iload_n 1, 1) := by decide +kernel
theorem dX1_give_80 : decode cX1_give 80 = .ok (.iaload, 1) := by decide +kernel
theorem dX1_give_81 : decode cX1_give 81 = .ok (.ireturn, 1) := by decide +kernel
theorem dX1_balance_0 : decode cX1_balance 0 = .ok (.iconst 0, 1) := by decide +kernel
theorem dX1_balance_1 : decode cX1_balance 1 = .ok (.istore_n 2, 1) := by decide +kernel
theorem dX1_balance_2 : decode cX1_balance 2 = .ok (.iconst 0, 1) := by decide +kernel
theorem dX1_balance_3 : decode cX1_balance 3 = .ok (.istore_n 3, 1) := by decide +kernel
theorem dX1_balance_4 : decode cX1_balance 4 = .ok (.iload_n 3, 1) := by decide +kernel
theorem dX1_balance_5 : decode cX1_balance 5 = .ok (.aload_n 0, 1) := by decide +kernel
theorem dX1_balance_6 : decode cX1_balance 6 = .ok (.getfield 23, 3) := by decide +kernel
theorem dX1_balance_9 : decode cX1_balance 9 = .ok (.if_icmp .ge 25, 3) := by decide +kernel
theorem dX1_balance_12 : decode cX1_balance 12 = .ok (.iload_n 2, 1) := by decide +kernel
theorem dX1_balance_13 : decode cX1_balance 13 = .ok (.aload_n 0, 1) := by decide +kernel
theorem dX1_balance_14 : decode cX1_balance 14 = .ok (.iload_n 3, 1) := by decide +kernel
theorem dX1_balance_15 : decode cX1_balance 15 = .ok (.iload_n 1, 1) := by decide +kernel
theorem dX1_balance_16 : decode cX1_balance 16 = .ok (.invokevirtual 41, 3) := by decide +kernel
theorem dX1_balance_19 : decode cX1_balance 19 = .ok (.aload_n 0, 1) := by decide +kernel
theorem dX1_balance_20 : decode cX1_balance 20 = .ok (.iload_n 1, 1) := by decide +kernel
theorem dX1_balance_21 : decode cX1_balance 21 = .ok (.iload_n 3, 1) := by decide +kernel
theorem dX1_balance_22 : decode cX1_balance 22 = .ok (.invokevirtual 41, 3) := by decide +kernel
theorem dX1_balance_25 : decode cX1_balance 25 = .ok (.isub, 1) := by decide +kernel
theorem dX1_balance_26 : decode cX1_balance 26 = .ok (.iadd, 1) := by decide +kernel
theorem dX1_balance_27 : decode cX1_balance 27 = .ok (.istore_n 2, 1) := by decide +kernel
theorem dX1_balance_28 : decode cX1_balance 28 = .ok (.iinc 3 1, 3) := by decide +kernel
theorem dX1_balance_31 : decode cX1_balance 31 = .ok (.goto (-27), 3) := by decide +kernel
theorem dX1_balance_34 : decode cX1_balance 34 = .ok (.iload_n 2, 1) := by decide +kernel
theorem dX1_balance_35 : decode cX1_balance 35 = .ok (.ireturn, 1) := by decide +kernel
theorem dX1_whole_0 : decode cX1_whole 0 = .ok (.iconst 0, 1) := by decide +kernel
theorem dX1_whole_1 : decode cX1_whole 1 = .ok (.istore_n 1, 1) := by decide +kernel
theorem dX1_whole_2 : decode cX1_whole 2 = .ok (.iconst 0, 1) := by decide +kernel
theorem dX1_whole_3 : decode cX1_whole 3 = .ok (.istore_n 2, 1) := by decide +kernel
theorem dX1_whole_4 : decode cX1_whole 4 = .ok (.iload_n 2, 1) := by decide +kernel
theorem dX1_whole_5 : decode cX1_whole 5 = .ok (.aload_n 0, 1) := by decide +kernel
theorem dX1_whole_6 : decode cX1_whole 6 = .ok (.getfield 23, 3) := by decide +kernel
theorem dX1_whole_9 : decode cX1_whole 9 = .ok (.if_icmp .ge 34, 3) := by decide +kernel
theorem dX1_whole_12 : decode cX1_whole 12 = .ok (.iconst 0, 1) := by decide +kernel
theorem dX1_whole_13 : decode cX1_whole 13 = .ok (.istore_n 3, 1) := by decide +kernel
theorem dX1_whole_14 : decode cX1_whole 14 = .ok (.iload_n 3, 1) := by decide +kernel
theorem dX1_whole_15 : decode cX1_whole 15 = .ok (.aload_n 0, 1) := by decide +kernel
theorem dX1_whole_16 : decode cX1_whole 16 = .ok (.getfield 23, 3) := by decide +kernel
theorem dX1_whole_19 : decode cX1_whole 19 = .ok (.if_icmp .ge 18, 3) := by decide +kernel
theorem dX1_whole_22 : decode cX1_whole 22 = .ok (.iload_n 1, 1) := by decide +kernel
theorem dX1_whole_23 : decode cX1_whole 23 = .ok (.aload_n 0, 1) := by decide +kernel
theorem dX1_whole_24 : decode cX1_whole 24 = .ok (.iload_n 2, 1) := by decide +kernel
theorem dX1_whole_25 : decode cX1_whole 25 = .ok (.iload_n 3, 1) := by decide +kernel
theorem dX1_whole_26 : decode cX1_whole 26 = .ok (.invokevirtual 41, 3) := by decide +kernel
theorem dX1_whole_29 : decode cX1_whole 29 = .ok (.iadd, 1) := by decide +kernel
theorem dX1_whole_30 : decode cX1_whole 30 = .ok (.istore_n 1, 1) := by decide +kernel
theorem dX1_whole_31 : decode cX1_whole 31 = .ok (.iinc 3 1, 3) := by decide +kernel
theorem dX1_whole_34 : decode cX1_whole 34 = .ok (.goto (-20), 3) := by decide +kernel
theorem dX1_whole_37 : decode cX1_whole 37 = .ok (.iinc 2 1, 3) := by decide +kernel
theorem dX1_whole_40 : decode cX1_whole 40 = .ok (.goto (-36), 3) := by decide +kernel
theorem dX1_whole_43 : decode cX1_whole 43 = .ok (.iload_n 1, 1) := by decide +kernel
theorem dX1_whole_44 : decode cX1_whole 44 = .ok (.ireturn, 1) := by decide +kernel
theorem dX1_closeAll_0 : decode cX1_closeAll 0 = .ok (.iconst 0, 1) := by decide +kernel
theorem dX1_closeAll_1 : decode cX1_closeAll 1 = .ok (.istore_n 1, 1) := by decide +kernel
theorem dX1_closeAll_2 : decode cX1_closeAll 2 = .ok (.iload_n 1, 1) := by decide +kernel
theorem dX1_closeAll_3 : decode cX1_closeAll 3 = .ok (.bipush 28, 2) := by decide +kernel
theorem dX1_closeAll_5 : decode cX1_closeAll 5 = .ok (.if_icmp .gt 25, 3) := by decide +kernel
theorem dX1_closeAll_8 : decode cX1_closeAll 8 = .ok (.aload_n 0, 1) := by decide +kernel
theorem dX1_closeAll_9 : decode cX1_closeAll 9 = .ok (.invokevirtual 44, 3) := by decide +kernel
theorem dX1_closeAll_12 : decode cX1_closeAll 12 = .ok (.istore_n 2, 1) := by decide +kernel
theorem dX1_closeAll_13 : decode cX1_closeAll 13 = .ok (.iload_n 2, 1) := by decide +kernel
theorem dX1_closeAll_14 : decode cX1_closeAll 14 = .ok (.ifCond .ne 5, 3) := by decide +kernel
theorem dX1_closeAll_17 : decode cX1_closeAll 17 = .ok (.iload_n 1, 1) := by decide +kernel
theorem dX1_closeAll_18 : decode cX1_closeAll 18 = .ok (.ireturn, 1) := by decide +kernel
theorem dX1_closeAll_19 : decode cX1_closeAll 19 = .ok (.aload_n 0, 1) := by decide +kernel
theorem dX1_closeAll_20 : decode cX1_closeAll 20 = .ok (.iload_n 2, 1) := by decide +kernel
theorem dX1_closeAll_21 : decode cX1_closeAll 21 = .ok (.invokevirtual 48, 3) := by decide +kernel
theorem dX1_closeAll_24 : decode cX1_closeAll 24 = .ok (.iinc 1 1, 3) := by decide +kernel
theorem dX1_closeAll_27 : decode cX1_closeAll 27 = .ok (.goto (-25), 3) := by decide +kernel
theorem dX1_closeAll_30 : decode cX1_closeAll 30 = .ok (.bipush 28, 2) := by decide +kernel
theorem dX1_closeAll_32 : decode cX1_closeAll 32 = .ok (.ireturn, 1) := by decide +kernel
theorem dX1_findRow_0 : decode cX1_findRow 0 = .ok (.iconst 3, 1) := by decide +kernel
theorem dX1_findRow_1 : decode cX1_findRow 1 = .ok (.istore_n 1, 1) := by decide +kernel
theorem dX1_findRow_2 : decode cX1_findRow 2 = .ok (.iload_n 1, 1) := by decide +kernel
theorem dX1_findRow_3 : decode cX1_findRow 3 = .ok (.aload_n 0, 1) := by decide +kernel
theorem dX1_findRow_4 : decode cX1_findRow 4 = .ok (.getfield 23, 3) := by decide +kernel
theorem dX1_findRow_7 : decode cX1_findRow 7 = .ok (.if_icmp .gt 43, 3) := by decide +kernel
theorem dX1_findRow_10 : decode cX1_findRow 10 = .ok (.iconst 0, 1) := by decide +kernel
theorem dX1_findRow_11 : decode cX1_findRow 11 = .ok (.istore_n 2, 1) := by decide +kernel
theorem dX1_findRow_12 : decode cX1_findRow 12 = .ok (.iload_n 2, 1) := by decide +kernel
theorem dX1_findRow_13 : decode cX1_findRow 13 = .ok (.aload_n 0, 1) := by decide +kernel
theorem dX1_findRow_14 : decode cX1_findRow 14 = .ok (.getfield 23, 3) := by decide +kernel
theorem dX1_findRow_17 : decode cX1_findRow 17 = .ok (.if_icmp .ge 27, 3) := by decide +kernel
theorem dX1_findRow_20 : decode cX1_findRow 20 = .ok (.aload_n 0, 1) := by decide +kernel
theorem dX1_findRow_21 : decode cX1_findRow 21 = .ok (.getfield 20, 3) := by decide +kernel
theorem dX1_findRow_24 : decode cX1_findRow 24 = .ok (.iconst 0, 1) := by decide +kernel
theorem dX1_findRow_25 : decode cX1_findRow 25 = .ok (.iload_n 2, 1) := by decide +kernel
theorem dX1_findRow_26 : decode cX1_findRow 26 = .ok (.iastore, 1) := by decide +kernel
theorem dX1_findRow_27 : decode cX1_findRow 27 = .ok (.aload_n 0, 1) := by decide +kernel
theorem dX1_findRow_28 : decode cX1_findRow 28 = .ok (.iconst 1, 1) := by decide +kernel
theorem dX1_findRow_29 : decode cX1_findRow 29 = .ok (.iload_n 1, 1) := by decide +kernel
theorem dX1_findRow_30 : decode cX1_findRow 30 = .ok (.invokevirtual 52, 3) := by decide +kernel
theorem dX1_findRow_33 : decode cX1_findRow 33 = .ok (.ifCond .eq 5, 3) := by decide +kernel
theorem dX1_findRow_36 : decode cX1_findRow 36 = .ok (.iload_n 1, 1) := by decide +kernel
theorem dX1_findRow_37 : decode cX1_findRow 37 = .ok (.ireturn, 1) := by decide +kernel
theorem dX1_findRow_38 : decode cX1_findRow 38 = .ok (.iinc 2 1, 3) := by decide +kernel
theorem dX1_findRow_41 : decode cX1_findRow 41 = .ok (.goto (-29), 3) := by decide +kernel
theorem dX1_findRow_44 : decode cX1_findRow 44 = .ok (.iinc 1 1, 3) := by decide +kernel
theorem dX1_findRow_47 : decode cX1_findRow 47 = .ok (.goto (-45), 3) := by decide +kernel
theorem dX1_findRow_50 : decode cX1_findRow 50 = .ok (.iconst 0, 1) := by decide +kernel
theorem dX1_findRow_51 : decode cX1_findRow 51 = .ok (.ireturn, 1) := by decide +kernel
theorem dX1_goOn_0 : decode cX1_goOn 0 = .ok (.iload_n 1, 1) := by decide +kernel
theorem dX1_goOn_1 : decode cX1_goOn 1 = .ok (.iconst 1, 1) := by decide +kernel
theorem dX1_goOn_2 : decode cX1_goOn 2 = .ok (.if_icmp .lt 9, 3) := by decide +kernel
theorem dX1_goOn_5 : decode cX1_goOn 5 = .ok (.iload_n 1, 1) := by decide +kernel
theorem dX1_goOn_6 : decode cX1_goOn 6 = .ok (.bipush 8, 2) := by decide +kernel
theorem dX1_goOn_8 : decode cX1_goOn 8 = .ok (.if_icmp .le 5, 3) := by decide +kernel
theorem dX1_goOn_11 : decode cX1_goOn 11 = .ok (.iconst 0, 1) := by decide +kernel
theorem dX1_goOn_12 : decode cX1_goOn 12 = .ok (.ireturn, 1) := by decide +kernel
theorem dX1_goOn_13 : decode cX1_goOn 13 = .ok (.aload_n 0, 1) := by decide +kernel
theorem dX1_goOn_14 : decode cX1_goOn 14 = .ok (.getfield 20, 3) := by decide +kernel
theorem dX1_goOn_17 : decode cX1_goOn 17 = .ok (.iload_n 1, 1) := by decide +kernel
theorem dX1_goOn_18 : decode cX1_goOn 18 = .ok (.iconst 1, 1) := by decide +kernel
theorem dX1_goOn_19 : decode cX1_goOn 19 = .ok (.isub, 1) := by decide +kernel
theorem dX1_goOn_20 : decode cX1_goOn 20 = .ok (.iaload, 1) := by decide +kernel
theorem dX1_goOn_21 : decode cX1_goOn 21 = .ok (.istore_n 3, 1) := by decide +kernel
theorem dX1_goOn_22 : decode cX1_goOn 22 = .ok (.iload_n 1, 1) := by decide +kernel
theorem dX1_goOn_23 : decode cX1_goOn 23 = .ok (.iload_n 2, 1) := by decide +kernel
theorem dX1_goOn_24 : decode cX1_goOn 24 = .ok (.if_icmp .lt 23, 3) := by decide +kernel
theorem dX1_goOn_27 : decode cX1_goOn 27 = .ok (.aload_n 0, 1) := by decide +kernel
theorem dX1_goOn_28 : decode cX1_goOn 28 = .ok (.iload_n 3, 1) := by decide +kernel
theorem dX1_goOn_29 : decode cX1_goOn 29 = .ok (.aload_n 0, 1) := by decide +kernel
theorem dX1_goOn_30 : decode cX1_goOn 30 = .ok (.getfield 20, 3) := by decide +kernel
theorem dX1_goOn_33 : decode cX1_goOn 33 = .ok (.iconst 0, 1) := by decide +kernel
theorem dX1_goOn_34 : decode cX1_goOn 34 = .ok (.iaload, 1) := by decide +kernel
theorem dX1_goOn_35 : decode cX1_goOn 35 = .ok (.invokevirtual 41, 3) := by decide +kernel
theorem dX1_goOn_38 : decode cX1_goOn 38 = .ok (.ifCond .le 7, 3) := by decide +kernel
theorem dX1_goOn_41 : decode cX1_goOn 41 = .ok (.iconst 1, 1) := by decide +kernel
theorem dX1_goOn_42 : decode cX1_goOn 42 = .ok (.goto 4, 3) := by decide +kernel
theorem dX1_goOn_45 : decode cX1_goOn 45 = .ok (.iconst 0, 1) := by decide +kernel
theorem dX1_goOn_46 : decode cX1_goOn 46 = .ok (.ireturn, 1) := by decide +kernel
theorem dX1_goOn_47 : decode cX1_goOn 47 = .ok (.aload_n 0, 1) := by decide +kernel
theorem dX1_goOn_48 : decode cX1_goOn 48 = .ok (.getfield 20, 3) := by decide +kernel
theorem dX1_goOn_51 : decode cX1_goOn 51 = .ok (.iconst 0, 1) := by decide +kernel
theorem dX1_goOn_52 : decode cX1_goOn 52 = .ok (.iaload, 1) := by decide +kernel
theorem dX1_goOn_53 : decode cX1_goOn 53 = .ok (.iconst 1, 1) := by decide +kernel
theorem dX1_goOn_54 : decode cX1_goOn 54 = .ok (.iadd, 1) := by decide +kernel
theorem dX1_goOn_55 : decode cX1_goOn 55 = .ok (.istore 4, 2) := by decide +kernel
theorem dX1_goOn_57 : decode cX1_goOn 57 = .ok (.iload 4, 2) := by decide +kernel
theorem dX1_goOn_59 : decode cX1_goOn 59 = .ok (.aload_n 0, 1) := by decide +kernel
theorem dX1_goOn_60 : decode cX1_goOn 60 = .ok (.getfield 23, 3) := by decide +kernel
theorem dX1_goOn_63 : decode cX1_goOn 63 = .ok (.if_icmp .ge 42, 3) := by decide +kernel
theorem dX1_goOn_66 : decode cX1_goOn 66 = .ok (.aload_n 0, 1) := by decide +kernel
theorem dX1_goOn_67 : decode cX1_goOn 67 = .ok (.iload_n 3, 1) := by decide +kernel
theorem dX1_goOn_68 : decode cX1_goOn 68 = .ok (.iload 4, 2) := by decide +kernel
theorem dX1_goOn_70 : decode cX1_goOn 70 = .ok (.invokevirtual 41, 3) := by decide +kernel
theorem dX1_goOn_73 : decode cX1_goOn 73 = .ok (.ifCond .le 26, 3) := by decide +kernel
theorem dX1_goOn_76 : decode cX1_goOn 76 = .ok (.aload_n 0, 1) := by decide +kernel
theorem dX1_goOn_77 : decode cX1_goOn 77 = .ok (.iload 4, 2) := by decide +kernel
theorem dX1_goOn_79 : decode cX1_goOn 79 = .ok (.iload_n 1, 1) := by decide +kernel
theorem dX1_goOn_80 : decode cX1_goOn 80 = .ok (.invokevirtual 55, 3) := by decide +kernel
theorem dX1_goOn_83 : decode cX1_goOn 83 = .ok (.ifCond .ne 16, 3) := by decide +kernel
theorem dX1_goOn_86 : decode cX1_goOn 86 = .ok (.aload_n 0, 1) := by decide +kernel
theorem dX1_goOn_87 : decode cX1_goOn 87 = .ok (.iload 4, 2) := by decide +kernel
theorem dX1_goOn_89 : decode cX1_goOn 89 = .ok (.iload_n 1, 1) := by decide +kernel
theorem dX1_goOn_90 : decode cX1_goOn 90 = .ok (.iload_n 2, 1) := by decide +kernel
theorem dX1_goOn_91 : decode cX1_goOn 91 = .ok (.invokevirtual 58, 3) := by decide +kernel
theorem dX1_goOn_94 : decode cX1_goOn 94 = .ok (.ifCond .eq 5, 3) := by decide +kernel
theorem dX1_goOn_97 : decode cX1_goOn 97 = .ok (.iconst 1, 1) := by decide +kernel
theorem dX1_goOn_98 : decode cX1_goOn 98 = .ok (.ireturn, 1) := by decide +kernel
theorem dX1_goOn_99 : decode cX1_goOn 99 = .ok (.iinc 4 1, 3) := by decide +kernel
theorem dX1_goOn_102 : decode cX1_goOn 102 = .ok (.goto (-45), 3) := by decide +kernel
theorem dX1_goOn_105 : decode cX1_goOn 105 = .ok (.iconst 0, 1) := by decide +kernel
theorem dX1_goOn_106 : decode cX1_goOn 106 = .ok (.ireturn, 1) := by decide +kernel
theorem dX1_goOnWith_0 : decode cX1_goOnWith 0 = .ok (.iload_n 2, 1) := by decide +kernel
theorem dX1_goOnWith_1 : decode cX1_goOnWith 1 = .ok (.ifCond .lt 9, 3) := by decide +kernel
theorem dX1_goOnWith_4 : decode cX1_goOnWith 4 = .ok (.iload_n 2, 1) := by decide +kernel
theorem dX1_goOnWith_5 : decode cX1_goOnWith 5 = .ok (.bipush 8, 2) := by decide +kernel
theorem dX1_goOnWith_7 : decode cX1_goOnWith 7 = .ok (.if_icmp .lt 5, 3) := by decide +kernel
theorem dX1_goOnWith_10 : decode cX1_goOnWith 10 = .ok (.iconst 0, 1) := by decide +kernel
theorem dX1_goOnWith_11 : decode cX1_goOnWith 11 = .ok (.ireturn, 1) := by decide +kernel
theorem dX1_goOnWith_12 : decode cX1_goOnWith 12 = .ok (.aload_n 0, 1) := by decide +kernel
theorem dX1_goOnWith_13 : decode cX1_goOnWith 13 = .ok (.getfield 20, 3) := by decide +kernel
theorem dX1_goOnWith_16 : decode cX1_goOnWith 16 = .ok (.iload_n 2, 1) := by decide +kernel
theorem dX1_goOnWith_17 : decode cX1_goOnWith 17 = .ok (.iload_n 1, 1) := by decide +kernel
theorem dX1_goOnWith_18 : decode cX1_goOnWith 18 = .ok (.iastore, 1) := by decide +kernel
theorem dX1_goOnWith_19 : decode cX1_goOnWith 19 = .ok (.aload_n 0, 1) := by decide +kernel
theorem dX1_goOnWith_20 : decode cX1_goOnWith 20 = .ok (.iload_n 2, 1) := by decide +kernel
theorem dX1_goOnWith_21 : decode cX1_goOnWith 21 = .ok (.iconst 1, 1) := by decide +kernel
theorem dX1_goOnWith_22 : decode cX1_goOnWith 22 = .ok (.iadd, 1) := by decide +kernel
theorem dX1_goOnWith_23 : decode cX1_goOnWith 23 = .ok (.iload_n 3, 1) := by decide +kernel
theorem dX1_goOnWith_24 : decode cX1_goOnWith 24 = .ok (.invokevirtual 52, 3) := by decide +kernel
theorem dX1_goOnWith_27 : decode cX1_goOnWith 27 = .ok (.ireturn, 1) := by decide +kernel
theorem dX1_inRow_0 : decode cX1_inRow 0 = .ok (.iconst 0, 1) := by decide +kernel
theorem dX1_inRow_1 : decode cX1_inRow 1 = .ok (.istore_n 3, 1) := by decide +kernel
theorem dX1_inRow_2 : decode cX1_inRow 2 = .ok (.iload_n 3, 1) := by decide +kernel
theorem dX1_inRow_3 : decode cX1_inRow 3 = .ok (.iload_n 2, 1) := by decide +kernel
theorem dX1_inRow_4 : decode cX1_inRow 4 = .ok (.if_icmp .ge 27, 3) := by decide +kernel
theorem dX1_inRow_7 : decode cX1_inRow 7 = .ok (.iload_n 3, 1) := by decide +kernel
theorem dX1_inRow_8 : decode cX1_inRow 8 = .ok (.bipush 8, 2) := by decide +kernel
theorem dX1_inRow_10 : decode cX1_inRow 10 = .ok (.if_icmp .ge 21, 3) := by decide +kernel
theorem dX1_inRow_13 : decode cX1_inRow 13 = .ok (.aload_n 0, 1) := by decide +kernel
theorem dX1_inRow_14 : decode cX1_inRow 14 = .ok (.getfield 20, 3) := by decide +kernel
theorem dX1_inRow_17 : decode cX1_inRow 17 = .ok (.iload_n 3, 1) := by decide +kernel
theorem dX1_inRow_18 : decode cX1_inRow 18 = .ok (.iaload, 1) := by decide +kernel
theorem dX1_inRow_19 : decode cX1_inRow 19 = .ok (.iload_n 1, 1) := by decide +kernel
theorem dX1_inRow_20 : decode cX1_inRow 20 = .ok (.if_icmp .ne 5, 3) := by decide +kernel
theorem dX1_inRow_23 : decode cX1_inRow 23 = .ok (.iconst 1, 1) := by decide +kernel
theorem dX1_inRow_24 : decode cX1_inRow 24 = .ok (.ireturn, 1) := by decide +kernel
theorem dX1_inRow_25 : decode cX1_inRow 25 = .ok (.iinc 3 1, 3) := by decide +kernel
theorem dX1_inRow_28 : decode cX1_inRow 28 = .ok (.goto (-26), 3) := by decide +kernel
theorem dX1_inRow_31 : decode cX1_inRow 31 = .ok (.iconst 0, 1) := by decide +kernel
theorem dX1_inRow_32 : decode cX1_inRow 32 = .ok (.ireturn, 1) := by decide +kernel
theorem dX1_takeOff_0 : decode cX1_takeOff 0 = .ok (.sipush 400, 3) := by decide +kernel
theorem dX1_takeOff_3 : decode cX1_takeOff 3 = .ok (.istore_n 2, 1) := by decide +kernel
theorem dX1_takeOff_4 : decode cX1_takeOff 4 = .ok (.iconst 0, 1) := by decide +kernel
theorem dX1_takeOff_5 : decode cX1_takeOff 5 = .ok (.istore_n 3, 1) := by decide +kernel
theorem dX1_takeOff_6 : decode cX1_takeOff 6 = .ok (.iload_n 3, 1) := by decide +kernel
theorem dX1_takeOff_7 : decode cX1_takeOff 7 = .ok (.iload_n 1, 1) := by decide +kernel
theorem dX1_takeOff_8 : decode cX1_takeOff 8 = .ok (.if_icmp .ge 36, 3) := by decide +kernel
theorem dX1_takeOff_11 : decode cX1_takeOff 11 = .ok (.iload_n 3, 1) := by decide +kernel
theorem dX1_takeOff_12 : decode cX1_takeOff 12 = .ok (.bipush 8, 2) := by decide +kernel
theorem dX1_takeOff_14 : decode cX1_takeOff 14 = .ok (.if_icmp .ge 30, 3) := by decide +kernel
theorem dX1_takeOff_17 : decode cX1_takeOff 17 = .ok (.iload_n 2, 1) := by decide +kernel
theorem dX1_takeOff_18 : decode cX1_takeOff 18 = .ok (.aload_n 0, 1) := by decide +kernel
theorem dX1_takeOff_19 : decode cX1_takeOff 19 = .ok (.aload_n 0, 1) := by decide +kernel
theorem dX1_takeOff_20 : decode cX1_takeOff 20 = .ok (.getfield 20, 3) := by decide +kernel
theorem dX1_takeOff_23 : decode cX1_takeOff 23 = .ok (.iload_n 3, 1) := by decide +kernel
theorem dX1_takeOff_24 : decode cX1_takeOff 24 = .ok (.iaload, 1) := by decide +kernel
theorem dX1_takeOff_25 : decode cX1_takeOff 25 = .ok (.aload_n 0, 1) := by decide +kernel
theorem dX1_takeOff_26 : decode cX1_takeOff 26 = .ok (.iload_n 3, 1) := by decide +kernel
theorem dX1_takeOff_27 : decode cX1_takeOff 27 = .ok (.iload_n 1, 1) := by decide +kernel
theorem dX1_takeOff_28 : decode cX1_takeOff 28 = .ok (.invokevirtual 62, 3) := by decide +kernel
theorem dX1_takeOff_31 : decode cX1_takeOff 31 = .ok (.invokevirtual 41, 3) := by decide +kernel
theorem dX1_takeOff_34 : decode cX1_takeOff 34 = .ok (.invokestatic 65, 3) := by decide +kernel
theorem dX1_takeOff_37 : decode cX1_takeOff 37 = .ok (.istore_n 2, 1) := by decide +kernel
theorem dX1_takeOff_38 : decode cX1_takeOff 38 = .ok (.iinc 3 1, 3) := by decide +kernel
theorem dX1_takeOff_41 : decode cX1_takeOff 41 = .ok (.goto (-35), 3) := by decide +kernel
theorem dX1_takeOff_44 : decode cX1_takeOff 44 = .ok (.iconst 0, 1) := by decide +kernel
theorem dX1_takeOff_45 : decode cX1_takeOff 45 = .ok (.istore_n 3, 1) := by decide +kernel
theorem dX1_takeOff_46 : decode cX1_takeOff 46 = .ok (.iload_n 3, 1) := by decide +kernel
theorem dX1_takeOff_47 : decode cX1_takeOff 47 = .ok (.iload_n 1, 1) := by decide +kernel
theorem dX1_takeOff_48 : decode cX1_takeOff 48 = .ok (.if_icmp .ge 32, 3) := by decide +kernel
theorem dX1_takeOff_51 : decode cX1_takeOff 51 = .ok (.iload_n 3, 1) := by decide +kernel
theorem dX1_takeOff_52 : decode cX1_takeOff 52 = .ok (.bipush 8, 2) := by decide +kernel
theorem dX1_takeOff_54 : decode cX1_takeOff 54 = .ok (.if_icmp .ge 26, 3) := by decide +kernel
theorem dX1_takeOff_57 : decode cX1_takeOff 57 = .ok (.aload_n 0, 1) := by decide +kernel
theorem dX1_takeOff_58 : decode cX1_takeOff 58 = .ok (.aload_n 0, 1) := by decide +kernel
theorem dX1_takeOff_59 : decode cX1_takeOff 59 = .ok (.getfield 20, 3) := by decide +kernel
theorem dX1_takeOff_62 : decode cX1_takeOff 62 = .ok (.iload_n 3, 1) := by decide +kernel
theorem dX1_takeOff_63 : decode cX1_takeOff 63 = .ok (.iaload, 1) := by decide +kernel
theorem dX1_takeOff_64 : decode cX1_takeOff 64 = .ok (.aload_n 0, 1) := by decide +kernel
theorem dX1_takeOff_65 : decode cX1_takeOff 65 = .ok (.iload_n 3, 1) := by decide +kernel
theorem dX1_takeOff_66 : decode cX1_takeOff 66 = .ok (.iload_n 1, 1) := by decide +kernel
theorem dX1_takeOff_67 : decode cX1_takeOff 67 = .ok (.invokevirtual 62, 3) := by decide +kernel
theorem dX1_takeOff_70 : decode cX1_takeOff 70 = .ok (.iload_n 2, 1) := by decide +kernel
theorem dX1_takeOff_71 : decode cX1_takeOff 71 = .ok (.invokevirtual 68, 3) := by decide +kernel
theorem dX1_takeOff_74 : decode cX1_takeOff 74 = .ok (.iinc 3 1, 3) := by decide +kernel
theorem dX1_takeOff_77 : decode cX1_takeOff 77 = .ok (.goto (-31), 3) := by decide +kernel
theorem dX1_takeOff_80 : decode cX1_takeOff 80 = .ok (.return_, 1) := by decide +kernel
theorem dX1_nextOf_0 : decode cX1_nextOf 0 = .ok (.iload_n 1, 1) := by decide +kernel
theorem dX1_nextOf_1 : decode cX1_nextOf 1 = .ok (.iconst 1, 1) := by decide +kernel
theorem dX1_nextOf_2 : decode cX1_nextOf 2 = .ok (.iadd, 1) := by decide +kernel
theorem dX1_nextOf_3 : decode cX1_nextOf 3 = .ok (.iload_n 2, 1) := by decide +kernel
theorem dX1_nextOf_4 : decode cX1_nextOf 4 = .ok (.if_icmp .ge 22, 3) := by decide +kernel
theorem dX1_nextOf_7 : decode cX1_nextOf 7 = .ok (.iload_n 1, 1) := by decide +kernel
theorem dX1_nextOf_8 : decode cX1_nextOf 8 = .ok (.iconst 1, 1) := by decide +kernel
theorem dX1_nextOf_9 : decode cX1_nextOf 9 = .ok (.iadd, 1) := by decide +kernel
theorem dX1_nextOf_10 : decode cX1_nextOf 10 = .ok (.bipush 8, 2) := by decide +kernel
theorem dX1_nextOf_12 : decode cX1_nextOf 12 = .ok (.if_icmp .ge 14, 3) := by decide +kernel
theorem dX1_nextOf_15 : decode cX1_nextOf 15 = .ok (.aload_n 0, 1) := by decide +kernel
theorem dX1_nextOf_16 : decode cX1_nextOf 16 = .ok (.getfield 20, 3) := by decide +kernel
theorem dX1_nextOf_19 : decode cX1_nextOf 19 = .ok (.iload_n 1, 1) := by decide +kernel
theorem dX1_nextOf_20 : decode cX1_nextOf 20 = .ok (.iconst 1, 1) := by decide +kernel
theorem dX1_nextOf_21 : decode cX1_nextOf 21 = .ok (.iadd, 1) := by decide +kernel
theorem dX1_nextOf_22 : decode cX1_nextOf 22 = .ok (.iaload, 1) := by decide +kernel
theorem dX1_nextOf_23 : decode cX1_nextOf 23 = .ok (.goto 9, 3) := by decide +kernel
theorem dX1_nextOf_26 : decode cX1_nextOf 26 = .ok (.aload_n 0, 1) := by decide +kernel
theorem dX1_nextOf_27 : decode cX1_nextOf 27 = .ok (.getfield 20, 3) := by decide +kernel
theorem dX1_nextOf_30 : decode cX1_nextOf 30 = .ok (.iconst 0, 1) := by decide +kernel
theorem dX1_nextOf_31 : decode cX1_nextOf 31 = .ok (.iaload, 1) := by decide +kernel
theorem dX1_nextOf_32 : decode cX1_nextOf 32 = .ok (.ireturn, 1) := by decide +kernel
theorem dX1_lessen_0 : decode cX1_lessen 0 = .ok (.aload_n 0, 1) := by decide +kernel
theorem dX1_lessen_1 : decode cX1_lessen 1 = .ok (.iload_n 1, 1) := by decide +kernel
theorem dX1_lessen_2 : decode cX1_lessen 2 = .ok (.invokevirtual 27, 3) := by decide +kernel
theorem dX1_lessen_5 : decode cX1_lessen 5 = .ok (.ifCond .eq 23, 3) := by decide +kernel
theorem dX1_lessen_8 : decode cX1_lessen 8 = .ok (.aload_n 0, 1) := by decide +kernel
theorem dX1_lessen_9 : decode cX1_lessen 9 = .ok (.iload_n 2, 1) := by decide +kernel
theorem dX1_lessen_10 : decode cX1_lessen 10 = .ok (.invokevirtual 27, 3) := by decide +kernel
theorem dX1_lessen_13 : decode cX1_lessen 13 = .ok (.ifCond .eq 15, 3) := by decide +kernel
theorem dX1_lessen_16 : decode cX1_lessen 16 = .ok (.aload_n 0, 1) := by decide +kernel
theorem dX1_lessen_17 : decode cX1_lessen 17 = .ok (.getfield 13, 3) := by decide +kernel
theorem dX1_lessen_20 : decode cX1_lessen 20 = .ok (.iload_n 1, 1) := by decide +kernel
theorem dX1_lessen_21 : decode cX1_lessen 21 = .ok (.aaload, 1) := by decide +kernel
theorem dX1_lessen_22 : decode cX1_lessen 22 = .ok (.iload_n 2, 1) := by decide +kernel
theorem dX1_lessen_23 : decode cX1_lessen 23 = .ok (.dup2, 1) := by decide +kernel
theorem dX1_lessen_24 : decode cX1_lessen 24 = .ok (.iaload, 1) := by decide +kernel
theorem dX1_lessen_25 : decode cX1_lessen 25 = .ok (.iload_n 3, 1) := by decide +kernel
theorem dX1_lessen_26 : decode cX1_lessen 26 = .ok (.isub, 1) := by decide +kernel
theorem dX1_lessen_27 : decode cX1_lessen 27 = .ok (.iastore, 1) := by decide +kernel
theorem dX1_lessen_28 : decode cX1_lessen 28 = .ok (.return_, 1) := by decide +kernel
theorem dX2_init_0 : decode cX2_init 0 = .ok (.aload_n 0, 1) := by decide +kernel
theorem dX2_init_1 : decode cX2_init 1 = .ok (.invokespecial 3, 3) := by decide +kernel
theorem dX2_init_4 : decode cX2_init 4 = .ok (.aload_n 0, 1) := by decide +kernel
theorem dX2_init_5 : decode cX2_init 5 = .ok (.bipush 8, 2) := by decide +kernel
theorem dX2_init_7 : decode cX2_init 7 = .ok (.bipush 30, 2) := by decide +kernel
theorem dX2_init_9 : decode cX2_init 9 = .ok (.multianewarray 11 2, 4) := by decide +kernel
theorem dX2_init_13 : decode cX2_init 13 = .ok (.putfield 13, 3) := by decide +kernel
theorem dX2_init_16 : decode cX2_init 16 = .ok (.aload_n 0, 1) := by decide +kernel
theorem dX2_init_17 : decode cX2_init 17 = .ok (.bipush 8, 2) := by decide +kernel
theorem dX2_init_19 : decode cX2_init 19 = .ok (.newarray .int, 2) := by decide +kernel
theorem dX2_init_21 : decode cX2_init 21 = .ok (.putfield 16, 3) := by decide +kernel
theorem dX2_init_24 : decode cX2_init 24 = .ok (.aload_n 0, 1) := by decide +kernel
theorem dX2_init_25 : decode cX2_init 25 = .ok (.bipush 8, 2) := by decide +kernel
theorem dX2_init_27 : decode cX2_init 27 = .ok (.newarray .int, 2) := by decide +kernel
theorem dX2_init_29 : decode cX2_init 29 = .ok (.putfield 20, 3) := by decide +kernel
theorem dX2_init_32 : decode cX2_init 32 = .ok (.aload_n 0, 1) := by decide +kernel
theorem dX2_init_33 : decode cX2_init 33 = .ok (.bipush 31, 2) := by decide +kernel
theorem dX2_init_35 : decode cX2_init 35 = .ok (.newarray .int, 2) := by decide +kernel
theorem dX2_init_37 : decode cX2_init 37 = .ok (.putfield 23, 3) := by decide +kernel
theorem dX2_init_40 : decode cX2_init 40 = .ok (.aload_n 0, 1) := by decide +kernel
theorem dX2_init_41 : decode cX2_init 41 = .ok (.bipush 31, 2) := by decide +kernel
theorem dX2_init_43 : decode cX2_init 43 = .ok (.newarray .int, 2) := by decide +kernel
theorem dX2_init_45 : decode cX2_init 45 = .ok (.putfield 26, 3) := by decide +kernel
theorem dX2_init_48 : decode cX2_init 48 = .ok (.aload_n 0, 1) := by decide +kernel
theorem dX2_init_49 : decode cX2_init 49 = .ok (.iconst 0, 1) := by decide +kernel
theorem dX2_init_50 : decode cX2_init 50 = .ok (.putfield 29, 3) := by decide +kernel
theorem dX2_init_53 : decode cX2_init 53 = .ok (.return_, 1) := by decide +kernel
theorem dX2_size_0 : decode cX2_size 0 = .ok (.aload_n 0, 1) := by decide +kernel
theorem dX2_size_1 : decode cX2_size 1 = .ok (.getfield 29, 3) := by decide +kernel
theorem dX2_size_4 : decode cX2_size 4 = .ok (.ireturn, 1) := by decide +kernel
theorem dX2_isFull_0 : decode cX2_isFull 0 = .ok (.aload_n 0, 1) := by decide +kernel
theorem dX2_isFull_1 : decode cX2_isFull 1 = .ok (.getfield 29, 3) := by decide +kernel
theorem dX2_isFull_4 : decode cX2_isFull 4 = .ok (.bipush 8, 2) := by decide +kernel
theorem dX2_isFull_6 : decode cX2_isFull 6 = .ok (.if_icmp .lt 7, 3) := by decide +kernel
theorem dX2_isFull_9 : decode cX2_isFull 9 = .ok (.iconst 1, 1) := by decide +kernel
theorem dX2_isFull_10 : decode cX2_isFull 10 = .ok (.goto 4, 3) := by decide +kernel
theorem dX2_isFull_13 : decode cX2_isFull 13 = .ok (.iconst 0, 1) := by decide +kernel
theorem dX2_isFull_14 : decode cX2_isFull 14 = .ok (.ireturn, 1) := by decide +kernel
theorem dX2_has_0 : decode cX2_has 0 = .ok (.iload_n 1, 1) := by decide +kernel
theorem dX2_has_1 : decode cX2_has 1 = .ok (.ifCond .lt 21, 3) := by decide +kernel
theorem dX2_has_4 : decode cX2_has 4 = .ok (.iload_n 1, 1) := by decide +kernel
theorem dX2_has_5 : decode cX2_has 5 = .ok (.aload_n 0, 1) := by decide +kernel
theorem dX2_has_6 : decode cX2_has 6 = .ok (.getfield 29, 3) := by decide +kernel
theorem dX2_has_9 : decode cX2_has 9 = .ok (.if_icmp .ge 13, 3) := by decide +kernel
theorem dX2_has_12 : decode cX2_has 12 = .ok (.iload_n 1, 1) := by decide +kernel
theorem dX2_has_13 : decode cX2_has 13 = .ok (.bipush 8, 2) := by decide +kernel
theorem dX2_has_15 : decode cX2_has 15 = .ok (.if_icmp .ge 7, 3) := by decide +kernel
theorem dX2_has_18 : decode cX2_has 18 = .ok (.iconst 1, 1) := by decide +kernel
theorem dX2_has_19 : decode cX2_has 19 = .ok (.goto 4, 3) := by decide +kernel
theorem dX2_has_22 : decode cX2_has 22 = .ok (.iconst 0, 1) := by decide +kernel
theorem dX2_has_23 : decode cX2_has 23 = .ok (.ireturn, 1) := by decide +kernel
theorem dX2_lengthOf_0 : decode cX2_lengthOf 0 = .ok (.aload_n 0, 1) := by decide +kernel
theorem dX2_lengthOf_1 : decode cX2_lengthOf 1 = .ok (.iload_n 1, 1) := by decide +kernel
theorem dX2_lengthOf_2 : decode cX2_lengthOf 2 = .ok (.invokevirtual 33, 3) := by decide +kernel
theorem dX2_lengthOf_5 : decode cX2_lengthOf 5 = .ok (.ifCond .eq 12, 3) := by decide +kernel
theorem dX2_lengthOf_8 : decode cX2_lengthOf 8 = .ok (.aload_n 0, 1) := by decide +kernel
theorem dX2_lengthOf_9 : decode cX2_lengthOf 9 = .ok (.getfield 16, 3) := by decide +kernel
theorem dX2_lengthOf_12 : decode cX2_lengthOf 12 = .ok (.iload_n 1, 1) := by decide +kernel
theorem dX2_lengthOf_13 : decode cX2_lengthOf 13 = .ok (.iaload, 1) := by decide +kernel
theorem dX2_lengthOf_14 : decode cX2_lengthOf 14 = .ok (.goto 4, 3) := by decide +kernel
theorem dX2_lengthOf_17 : decode cX2_lengthOf 17 = .ok (.iconst 0, 1) := by decide +kernel
theorem dX2_lengthOf_18 : decode cX2_lengthOf 18 = .ok (.ireturn, 1) := by decide +kernel
theorem dX2_yearOf_0 : decode cX2_yearOf 0 = .ok (.aload_n 0, 1) := by decide +kernel
theorem dX2_yearOf_1 : decode cX2_yearOf 1 = .ok (.iload_n 1, 1) := by decide +kernel
theorem dX2_yearOf_2 : decode cX2_yearOf 2 = .ok (.invokevirtual 33, 3) := by decide +kernel
theorem dX2_yearOf_5 : decode cX2_yearOf 5 = .ok (.ifCond .eq 12, 3) := by decide +kernel
theorem dX2_yearOf_8 : decode cX2_yearOf 8 = .ok (.aload_n 0, 1) := by decide +kernel
theorem dX2_yearOf_9 : decode cX2_yearOf 9 = .ok (.getfield 20, 3) := by decide +kernel
theorem dX2_yearOf_12 : decode cX2_yearOf 12 = .ok (.iload_n 1, 1) := by decide +kernel
theorem dX2_yearOf_13 : decode cX2_yearOf 13 = .ok (.iaload, 1) := by decide +kernel
theorem dX2_yearOf_14 : decode cX2_yearOf 14 = .ok (.goto 4, 3) := by decide +kernel
theorem dX2_yearOf_17 : decode cX2_yearOf 17 = .ok (.iconst (-1), 1) := by decide +kernel
theorem dX2_yearOf_18 : decode cX2_yearOf 18 = .ok (.ireturn, 1) := by decide +kernel
theorem dX2_item_0 : decode cX2_item 0 = .ok (.aload_n 0, 1) := by decide +kernel
theorem dX2_item_1 : decode cX2_item 1 = .ok (.iload_n 1, 1) := by decide +kernel
theorem dX2_item_2 : decode cX2_item 2 = .ok (.invokevirtual 33, 3) := by decide +kernel
theorem dX2_item_5 : decode cX2_item 5 = .ok (.ifCond .eq 34, 3) := by decide +kernel
theorem dX2_item_8 : decode cX2_item 8 = .ok (.iload_n 2, 1) := by decide +kernel
theorem dX2_item_9 : decode cX2_item 9 = .ok (.ifCond .lt 30, 3) := by decide +kernel
theorem dX2_item_12 : decode cX2_item 12 = .ok (.iload_n 2, 1) := by decide +kernel
theorem dX2_item_13 : decode cX2_item 13 = .ok (.aload_n 0, 1) := by decide +kernel
theorem dX2_item_14 : decode cX2_item 14 = .ok (.getfield 16, 3) := by decide +kernel
theorem dX2_item_17 : decode cX2_item 17 = .ok (.iload_n 1, 1) := by decide +kernel
theorem dX2_item_18 : decode cX2_item 18 = .ok (.iaload, 1) := by decide +kernel
theorem dX2_item_19 : decode cX2_item 19 = .ok (.if_icmp .ge 20, 3) := by decide +kernel
theorem dX2_item_22 : decode cX2_item 22 = .ok (.iload_n 2, 1) := by decide +kernel
theorem dX2_item_23 : decode cX2_item 23 = .ok (.bipush 30, 2) := by decide +kernel
theorem dX2_item_25 : decode cX2_item 25 = .ok (.if_icmp .ge 14, 3) := by decide +kernel
theorem dX2_item_28 : decode cX2_item 28 = .ok (.aload_n 0, 1) := by decide +kernel
theorem dX2_item_29 : decode cX2_item 29 = .ok (.getfield 13, 3) := by decide +kernel
theorem dX2_item_32 : decode cX2_item 32 = .ok (.iload_n 1, 1) := by decide +kernel
theorem dX2_item_33 : decode cX2_item 33 = .ok (.aaload, 1) := by decide +kernel
theorem dX2_item_34 : decode cX2_item 34 = .ok (.iload_n 2, 1) := by decide +kernel
theorem dX2_item_35 : decode cX2_item 35 = .ok (.iaload, 1) := by decide +kernel
theorem dX2_item_36 : decode cX2_item 36 = .ok (.goto 4, 3) := by decide +kernel
theorem dX2_item_39 : decode cX2_item 39 = .ok (.iconst (-1), 1) := by decide +kernel
theorem dX2_item_40 : decode cX2_item 40 = .ok (.ireturn, 1) := by decide +kernel
theorem dX2_keep_0 : decode cX2_keep 0 = .ok (.aload_n 0, 1) := by decide +kernel
theorem dX2_keep_1 : decode cX2_keep 1 = .ok (.invokevirtual 37, 3) := by decide +kernel
theorem dX2_keep_4 : decode cX2_keep 4 = .ok (.ifCond .ne 13, 3) := by decide +kernel
theorem dX2_keep_7 : decode cX2_keep 7 = .ok (.iload_n 3, 1) := by decide +kernel
theorem dX2_keep_8 : decode cX2_keep 8 = .ok (.iconst 0, 1) := by decide +kernel
theorem dX2_keep_9 : decode cX2_keep 9 = .ok (.bipush 30, 2) := by decide +kernel
theorem dX2_keep_11 : decode cX2_keep 11 = .ok (.invokestatic 41, 3) := by decide +kernel
theorem dX2_keep_14 : decode cX2_keep 14 = .ok (.ifCond .ne 6, 3) := by decide +kernel
theorem dX2_keep_17 : decode cX2_keep 17 = .ok (.bipush (-4), 2) := by decide +kernel
theorem dX2_keep_19 : decode cX2_keep 19 = .ok (.ireturn, 1) := by decide +kernel
theorem dX2_keep_20 : decode cX2_keep 20 = .ok (.iconst 0, 1) := by decide +kernel
theorem dX2_keep_21 : decode cX2_keep 21 = .ok (.istore 5, 2) := by decide +kernel
theorem dX2_keep_23 : decode cX2_keep 23 = .ok (.iload 5, 2) := by decide +kernel
theorem dX2_keep_25 : decode cX2_keep 25 = .ok (.iload_n 3, 1) := by decide +kernel
theorem dX2_keep_26 : decode cX2_keep 26 = .ok (.if_icmp .ge 28, 3) := by decide +kernel
theorem dX2_keep_29 : decode cX2_keep 29 = .ok (.aload_n 0, 1) := by decide +kernel
theorem dX2_keep_30 : decode cX2_keep 30 = .ok (.getfield 13, 3) := by decide +kernel
theorem dX2_keep_33 : decode cX2_keep 33 = .ok (.aload_n 0, 1) := by decide +kernel
theorem dX2_keep_34 : decode cX2_keep 34 = .ok (.getfield 29, 3) := by decide +kernel
theorem dX2_keep_37 : decode cX2_keep 37 = .ok (.aaload, 1) := by decide +kernel
theorem dX2_keep_38 : decode cX2_keep 38 = .ok (.iload 5, 2) := by decide +kernel
theorem dX2_keep_40 : decode cX2_keep 40 = .ok (.aload_n 1, 1) := by decide +kernel
theorem dX2_keep_41 : decode cX2_keep 41 = .ok (.iload_n 2, 1) := by decide +kernel
theorem dX2_keep_42 : decode cX2_keep 42 = .ok (.iload 5, 2) := by decide +kernel
theorem dX2_keep_44 : decode cX2_keep 44 = .ok (.invokevirtual 45, 3) := by decide +kernel
theorem dX2_keep_47 : decode cX2_keep 47 = .ok (.iastore, 1) := by decide +kernel
theorem dX2_keep_48 : decode cX2_keep 48 = .ok (.iinc 5 1, 3) := by decide +kernel
theorem dX2_keep_51 : decode cX2_keep 51 = .ok (.goto (-28), 3) := by decide +kernel
theorem dX2_keep_54 : decode cX2_keep 54 = .ok (.aload_n 0, 1) := by decide +kernel
theorem dX2_keep_55 : decode cX2_keep 55 = .ok (.getfield 16, 3) := by decide +kernel
theorem dX2_keep_58 : decode cX2_keep 58 = .ok (.aload_n 0, 1) := by decide +kernel
theorem dX2_keep_59 : decode cX2_keep 59 = .ok (.getfield 29, 3) := by decide +kernel
theorem dX2_keep_62 : decode cX2_keep 62 = .ok (.iload_n 3, 1) := by decide +kernel
theorem dX2_keep_63 : decode cX2_keep 63 = .ok (.iastore, 1) := by decide +kernel
theorem dX2_keep_64 : decode cX2_keep 64 = .ok (.aload_n 0, 1) := by decide +kernel
theorem dX2_keep_65 : decode cX2_keep 65 = .ok (.getfield 20, 3) := by decide +kernel
theorem dX2_keep_68 : decode cX2_keep 68 = .ok (.aload_n 0, 1) := by decide +kernel
theorem dX2_keep_69 : decode cX2_keep 69 = .ok (.getfield 29, 3) := by decide +kernel
theorem dX2_keep_72 : decode cX2_keep 72 = .ok (.iload 4, 2) := by decide +kernel
theorem dX2_keep_74 : decode cX2_keep 74 = .ok (.iastore, 1) := by decide +kernel
theorem dX2_keep_75 : decode cX2_keep 75 = .ok (.aload_n 0, 1) := by decide +kernel
theorem dX2_keep_76 : decode cX2_keep 76 = .ok (.dup, 1) := by decide +kernel
theorem dX2_keep_77 : decode cX2_keep 77 = .ok (.getfield 29, 3) := by decide +kernel
theorem dX2_keep_80 : decode cX2_keep 80 = .ok (.iconst 1, 1) := by decide +kernel
theorem dX2_keep_81 : decode cX2_keep 81 = .ok (.iadd, 1) := by decide +kernel
theorem dX2_keep_82 : decode cX2_keep 82 = .ok (.putfield 29, 3) := by decide +kernel
theorem dX2_keep_85 : decode cX2_keep 85 = .ok (.aload_n 0, 1) := by decide +kernel
theorem dX2_keep_86 : decode cX2_keep 86 = .ok (.getfield 29, 3) := by decide +kernel
theorem dX2_keep_89 : decode cX2_keep 89 = .ok (.iconst 1, 1) := by decide +kernel
theorem dX2_keep_90 : decode cX2_keep 90 = .ok (.isub, 1) := by decide +kernel
theorem dX2_keep_91 : decode cX2_keep 91 = .ok (.ireturn, 1) := by decide +kernel
theorem dX2_gaps_0 : decode cX2_gaps 0 = .ok (.iconst 0, 1) := by decide +kernel
theorem dX2_gaps_1 : decode cX2_gaps 1 = .ok (.istore_n 2, 1) := by decide +kernel
theorem dX2_gaps_2 : decode cX2_gaps 2 = .ok (.iconst 0, 1) := by decide +kernel
theorem dX2_gaps_3 : decode cX2_gaps 3 = .ok (.istore_n 3, 1) := by decide +kernel
theorem dX2_gaps_4 : decode cX2_gaps 4 = .ok (.iload_n 3, 1) := by decide +kernel
theorem dX2_gaps_5 : decode cX2_gaps 5 = .ok (.aload_n 0, 1) := by decide +kernel
theorem dX2_gaps_6 : decode cX2_gaps 6 = .ok (.iload_n 1, 1) := by decide +kernel
theorem dX2_gaps_7 : decode cX2_gaps 7 = .ok (.invokevirtual 51, 3) := by decide +kernel
theorem dX2_gaps_10 : decode cX2_gaps 10 = .ok (.if_icmp .ge 22, 3) := by decide +kernel
theorem dX2_gaps_13 : decode cX2_gaps 13 = .ok (.aload_n 0, 1) := by decide +kernel
theorem dX2_gaps_14 : decode cX2_gaps 14 = .ok (.iload_n 1, 1) := by decide +kernel
theorem dX2_gaps_15 : decode cX2_gaps 15 = .ok (.iload_n 3, 1) := by decide +kernel
theorem dX2_gaps_16 : decode cX2_gaps 16 = .ok (.invokevirtual 55, 3) := by decide +kernel
theorem dX2_gaps_19 : decode cX2_gaps 19 = .ok (.iconst (-1), 1) := by decide +kernel
theorem dX2_gaps_20 : decode cX2_gaps 20 = .ok (.if_icmp .ne 6, 3) := by decide +kernel
theorem dX2_gaps_23 : decode cX2_gaps 23 = .ok (.iinc 2 1, 3) := by decide +kernel
theorem dX2_gaps_26 : decode cX2_gaps 26 = .ok (.iinc 3 1, 3) := by decide +kernel
theorem dX2_gaps_29 : decode cX2_gaps 29 = .ok (.goto (-25), 3) := by decide +kernel
theorem dX2_gaps_32 : decode cX2_gaps 32 = .ok (.iload_n 2, 1) := by decide +kernel
theorem dX2_gaps_33 : decode cX2_gaps 33 = .ok (.ireturn, 1) := by decide +kernel
theorem dX2_couldBeOfTens_0 : decode cX2_couldBeOfTens 0 = .ok (.iload_n 2, 1) := by decide +kernel
theorem dX2_couldBeOfTens_1 : decode cX2_couldBeOfTens 1 = .ok (.bipush 10, 2) := by decide +kernel
theorem dX2_couldBeOfTens_3 : decode cX2_couldBeOfTens 3 = .ok (.if_icmp .lt 30, 3) := by decide +kernel
theorem dX2_couldBeOfTens_6 : decode cX2_couldBeOfTens 6 = .ok (.aload_n 0, 1) := by decide +kernel
theorem dX2_couldBeOfTens_7 : decode cX2_couldBeOfTens 7 = .ok (.iload_n 1, 1) := by decide +kernel
theorem dX2_couldBeOfTens_8 : decode cX2_couldBeOfTens 8 = .ok (.iload_n 2, 1) := by decide +kernel
theorem dX2_couldBeOfTens_9 : decode cX2_couldBeOfTens 9 = .ok (.invokevirtual 55, 3) := by decide +kernel
theorem dX2_couldBeOfTens_12 : decode cX2_couldBeOfTens 12 = .ok (.iconst (-1), 1) := by decide +kernel
theorem dX2_couldBeOfTens_13 : decode cX2_couldBeOfTens 13 = .ok (.if_icmp .eq 20, 3) := by decide +kernel
theorem dX2_couldBeOfTens_16 : decode cX2_couldBeOfTens 16 = .ok (.aload_n 0, 1) := by decide +kernel
theorem dX2_couldBeOfTens_17 : decode cX2_couldBeOfTens 17 = .ok (.iload_n 1, 1) := by decide +kernel
theorem dX2_couldBeOfTens_18 : decode cX2_couldBeOfTens 18 = .ok (.iload_n 2, 1) := by decide +kernel
theorem dX2_couldBeOfTens_19 : decode cX2_couldBeOfTens 19 = .ok (.bipush 10, 2) := by decide +kernel
theorem dX2_couldBeOfTens_21 : decode cX2_couldBeOfTens 21 = .ok (.irem, 1) := by decide +kernel
theorem dX2_couldBeOfTens_22 : decode cX2_couldBeOfTens 22 = .ok (.invokevirtual 55, 3) := by decide +kernel
theorem dX2_couldBeOfTens_25 : decode cX2_couldBeOfTens 25 = .ok (.iconst (-1), 1) := by decide +kernel
theorem dX2_couldBeOfTens_26 : decode cX2_couldBeOfTens 26 = .ok (.if_icmp .eq 7, 3) := by decide +kernel
theorem dX2_couldBeOfTens_29 : decode cX2_couldBeOfTens 29 = .ok (.iconst 1, 1) := by decide +kernel
theorem dX2_couldBeOfTens_30 : decode cX2_couldBeOfTens 30 = .ok (.goto 4, 3) := by decide +kernel
theorem dX2_couldBeOfTens_33 : decode cX2_couldBeOfTens 33 = .ok (.iconst 0, 1) := by decide +kernel
theorem dX2_couldBeOfTens_34 : decode cX2_couldBeOfTens 34 = .ok (.ireturn, 1) := by decide +kernel
theorem dX2_ofTens_0 : decode cX2_ofTens 0 = .ok (.iconst 0, 1) := by decide +kernel
theorem dX2_ofTens_1 : decode cX2_ofTens 1 = .ok (.istore_n 2, 1) := by decide +kernel
theorem dX2_ofTens_2 : decode cX2_ofTens 2 = .ok (.bipush 10, 2) := by decide +kernel
theorem dX2_ofTens_4 : decode cX2_ofTens 4 = .ok (.istore_n 3, 1) := by decide +kernel
theorem dX2_ofTens_5 : decode cX2_ofTens 5 = .ok (.iload_n 3, 1) := by decide +kernel
theorem dX2_ofTens_6 : decode cX2_ofTens 6 = .ok (.aload_n 0, 1) := by decide +kernel
theorem dX2_ofTens_7 : decode cX2_ofTens 7 = .ok (.iload_n 1, 1) := by decide +kernel
theorem dX2_ofTens_8 : decode cX2_ofTens 8 = .ok (.invokevirtual 51, 3) := by decide +kernel
theorem dX2_ofTens_11 : decode cX2_ofTens 11 = .ok (.if_icmp .ge 39, 3) := by decide +kernel
theorem dX2_ofTens_14 : decode cX2_ofTens 14 = .ok (.aload_n 0, 1) := by decide +kernel
theorem dX2_ofTens_15 : decode cX2_ofTens 15 = .ok (.iload_n 1, 1) := by decide +kernel
theorem dX2_ofTens_16 : decode cX2_ofTens 16 = .ok (.iload_n 3, 1) := by decide +kernel
theorem dX2_ofTens_17 : decode cX2_ofTens 17 = .ok (.invokevirtual 58, 3) := by decide +kernel
theorem dX2_ofTens_20 : decode cX2_ofTens 20 = .ok (.ifCond .eq 24, 3) := by decide +kernel
theorem dX2_ofTens_23 : decode cX2_ofTens 23 = .ok (.aload_n 0, 1) := by decide +kernel
theorem dX2_ofTens_24 : decode cX2_ofTens 24 = .ok (.iload_n 1, 1) := by decide +kernel
theorem dX2_ofTens_25 : decode cX2_ofTens 25 = .ok (.iload_n 3, 1) := by decide +kernel
theorem dX2_ofTens_26 : decode cX2_ofTens 26 = .ok (.invokevirtual 55, 3) := by decide +kernel
theorem dX2_ofTens_29 : decode cX2_ofTens 29 = .ok (.aload_n 0, 1) := by decide +kernel
theorem dX2_ofTens_30 : decode cX2_ofTens 30 = .ok (.iload_n 1, 1) := by decide +kernel
theorem dX2_ofTens_31 : decode cX2_ofTens 31 = .ok (.iload_n 3, 1) := by decide +kernel
theorem dX2_ofTens_32 : decode cX2_ofTens 32 = .ok (.bipush 10, 2) := by decide +kernel
theorem dX2_ofTens_34 : decode cX2_ofTens 34 = .ok (.irem, 1) := by decide +kernel
theorem dX2_ofTens_35 : decode cX2_ofTens 35 = .ok (.invokevirtual 55, 3) := by decide +kernel
theorem dX2_ofTens_38 : decode cX2_ofTens 38 = .ok (.if_icmp .ne 6, 3) := by decide +kernel
theorem dX2_ofTens_41 : decode cX2_ofTens 41 = .ok (.iinc 2 1, 3) := by decide +kernel
theorem dX2_ofTens_44 : decode cX2_ofTens 44 = .ok (.iinc 3 1, 3) := by decide +kernel
theorem dX2_ofTens_47 : decode cX2_ofTens 47 = .ok (.goto (-42), 3) := by decide +kernel
theorem dX2_ofTens_50 : decode cX2_ofTens 50 = .ok (.iload_n 2, 1) := by decide +kernel
theorem dX2_ofTens_51 : decode cX2_ofTens 51 = .ok (.ireturn, 1) := by decide +kernel
theorem dX2_isShopped_0 : decode cX2_isShopped 0 = .ok (.iconst 0, 1) := by decide +kernel
theorem dX2_isShopped_1 : decode cX2_isShopped 1 = .ok (.istore_n 2, 1) := by decide +kernel
theorem dX2_isShopped_2 : decode cX2_isShopped 2 = .ok (.bipush 10, 2) := by decide +kernel
theorem dX2_isShopped_4 : decode cX2_isShopped 4 = .ok (.istore_n 3, 1) := by decide +kernel
theorem dX2_isShopped_5 : decode cX2_isShopped 5 = .ok (.iload_n 3, 1) := by decide +kernel
theorem dX2_isShopped_6 : decode cX2_isShopped 6 = .ok (.aload_n 0, 1) := by decide +kernel
theorem dX2_isShopped_7 : decode cX2_isShopped 7 = .ok (.iload_n 1, 1) := by decide +kernel
theorem dX2_isShopped_8 : decode cX2_isShopped 8 = .ok (.invokevirtual 51, 3) := by decide +kernel
theorem dX2_isShopped_11 : decode cX2_isShopped 11 = .ok (.if_icmp .ge 21, 3) := by decide +kernel
theorem dX2_isShopped_14 : decode cX2_isShopped 14 = .ok (.aload_n 0, 1) := by decide +kernel
theorem dX2_isShopped_15 : decode cX2_isShopped 15 = .ok (.iload_n 1, 1) := by decide +kernel
theorem dX2_isShopped_16 : decode cX2_isShopped 16 = .ok (.iload_n 3, 1) := by decide +kernel
theorem dX2_isShopped_17 : decode cX2_isShopped 17 = .ok (.invokevirtual 58, 3) := by decide +kernel
theorem dX2_isShopped_20 : decode cX2_isShopped 20 = .ok (.ifCond .eq 6, 3) := by decide +kernel
theorem dX2_isShopped_23 : decode cX2_isShopped 23 = .ok (.iinc 2 1, 3) := by decide +kernel
theorem dX2_isShopped_26 : decode cX2_isShopped 26 = .ok (.iinc 3 1, 3) := by decide +kernel
theorem dX2_isShopped_29 : decode cX2_isShopped 29 = .ok (.goto (-24), 3) := by decide +kernel
theorem dX2_isShopped_32 : decode cX2_isShopped 32 = .ok (.iload_n 2, 1) := by decide +kernel
theorem dX2_isShopped_33 : decode cX2_isShopped 33 = .ok (.ifCond .le 18, 3) := by decide +kernel
theorem dX2_isShopped_36 : decode cX2_isShopped 36 = .ok (.iconst 2, 1) := by decide +kernel
theorem dX2_isShopped_37 : decode cX2_isShopped 37 = .ok (.aload_n 0, 1) := by decide +kernel
theorem dX2_isShopped_38 : decode cX2_isShopped 38 = .ok (.iload_n 1, 1) := by decide +kernel
theorem dX2_isShopped_39 : decode cX2_isShopped 39 = .ok (.invokevirtual 62, 3) := by decide +kernel
theorem dX2_isShopped_42 : decode cX2_isShopped 42 = .ok (.imul, 1) := by decide +kernel
theorem dX2_isShopped_43 : decode cX2_isShopped 43 = .ok (.iload_n 2, 1) := by decide +kernel
theorem dX2_isShopped_44 : decode cX2_isShopped 44 = .ok (.if_icmp .lt 7, 3) := by decide +kernel
theorem dX2_isShopped_47 : decode cX2_isShopped 47 = .ok (.iconst 1, 1) := by decide +kernel
theorem dX2_isShopped_48 : decode cX2_isShopped 48 = .ok (.goto 4, 3) := by decide +kernel
theorem dX2_isShopped_51 : decode cX2_isShopped 51 = .ok (.iconst 0, 1) := by decide +kernel
theorem dX2_isShopped_52 : decode cX2_isShopped 52 = .ok (.ireturn, 1) := by decide +kernel
theorem dX2_distance_0 : decode cX2_distance 0 = .ok (.aload_n 0, 1) := by decide +kernel
theorem dX2_distance_1 : decode cX2_distance 1 = .ok (.iload_n 2, 1) := by decide +kernel
theorem dX2_distance_2 : decode cX2_distance 2 = .ok (.invokevirtual 51, 3) := by decide +kernel
theorem dX2_distance_5 : decode cX2_distance 5 = .ok (.bipush 30, 2) := by decide +kernel
theorem dX2_distance_7 : decode cX2_distance 7 = .ok (.invokestatic 65, 3) := by decide +kernel
theorem dX2_distance_10 : decode cX2_distance 10 = .ok (.istore_n 3, 1) := by decide +kernel
theorem dX2_distance_11 : decode cX2_distance 11 = .ok (.iconst 0, 1) := by decide +kernel
theorem dX2_distance_12 : decode cX2_distance 12 = .ok (.istore 4, 2) := by decide +kernel
theorem dX2_distance_14 : decode cX2_distance 14 = .ok (.iload 4, 2) := by decide +kernel
theorem dX2_distance_16 : decode cX2_distance 16 = .ok (.iload_n 3, 1) := by decide +kernel
theorem dX2_distance_17 : decode cX2_distance 17 = .ok (.if_icmp .gt 20, 3) := by decide +kernel
theorem dX2_distance_20 : decode cX2_distance 20 = .ok (.aload_n 0, 1) := by decide +kernel
theorem dX2_distance_21 : decode cX2_distance 21 = .ok (.getfield 23, 3) := by decide +kernel
theorem dX2_distance_24 : decode cX2_distance 24 = .ok (.iload 4, 2) := by decide +kernel
theorem dX2_distance_26 : decode cX2_distance 26 = .ok (.iconst 2, 1) := by decide +kernel
theorem dX2_distance_27 : decode cX2_distance 27 = .ok (.iload 4, 2) := by decide +kernel
theorem dX2_distance_29 : decode cX2_distance 29 = .ok (.imul, 1) := by decide +kernel
theorem dX2_distance_30 : decode cX2_distance 30 = .ok (.iastore, 1) := by decide +kernel
theorem dX2_distance_31 : decode cX2_distance 31 = .ok (.iinc 4 1, 3) := by decide +kernel
theorem dX2_distance_34 : decode cX2_distance 34 = .ok (.goto (-20), 3) := by decide +kernel
theorem dX2_distance_37 : decode cX2_distance 37 = .ok (.iconst 1, 1) := by decide +kernel
theorem dX2_distance_38 : decode cX2_distance 38 = .ok (.istore 4, 2) := by decide +kernel
theorem dX2_distance_40 : decode cX2_distance 40 = .ok (.iload 4, 2) := by decide +kernel
theorem dX2_distance_42 : decode cX2_distance 42 = .ok (.aload_n 0, 1) := by decide +kernel
theorem dX2_distance_43 : decode cX2_distance 43 = .ok (.iload_n 1, 1) := by decide +kernel
theorem dX2_distance_44 : decode cX2_distance 44 = .ok (.invokevirtual 51, 3) := by decide +kernel
theorem dX2_distance_47 : decode cX2_distance 47 = .ok (.if_icmp .gt 116, 3) := by decide +kernel
theorem dX2_distance_50 : decode cX2_distance 50 = .ok (.aload_n 0, 1) := by decide +kernel
theorem dX2_distance_51 : decode cX2_distance 51 = .ok (.getfield 26, 3) := by decide +kernel
theorem dX2_distance_54 : decode cX2_distance 54 = .ok (.iconst 0, 1) := by decide +kernel
theorem dX2_distance_55 : decode cX2_distance 55 = .ok (.iconst 2, 1) := by decide +kernel
theorem dX2_distance_56 : decode cX2_distance 56 = .ok (.iload 4, 2) := by decide +kernel
theorem dX2_distance_58 : decode cX2_distance 58 = .ok (.imul, 1) := by decide +kernel
theorem dX2_distance_59 : decode cX2_distance 59 = .ok (.iastore, 1) := by decide +kernel
theorem dX2_distance_60 : decode cX2_distance 60 = .ok (.iconst 1, 1) := by decide +kernel
theorem dX2_distance_61 : decode cX2_distance 61 = .ok (.istore 5, 2) := by decide +kernel
theorem dX2_distance_63 : decode cX2_distance 63 = .ok (.iload 5, 2) := by decide +kernel
theorem dX2_distance_65 : decode cX2_distance 65 = .ok (.iload_n 3, 1) := by decide +kernel
theorem dX2_distance_66 : decode cX2_distance 66 = .ok (.if_icmp .gt 75, 3) := by decide +kernel
theorem dX2_distance_69 : decode cX2_distance 69 = .ok (.aload_n 0, 1) := by decide +kernel
theorem dX2_distance_70 : decode cX2_distance 70 = .ok (.getfield 23, 3) := by decide +kernel
theorem dX2_distance_73 : decode cX2_distance 73 = .ok (.iload 5, 2) := by decide +kernel
theorem dX2_distance_75 : decode cX2_distance 75 = .ok (.iconst 1, 1) := by decide +kernel
theorem dX2_distance_76 : decode cX2_distance 76 = .ok (.isub, 1) := by decide +kernel
theorem dX2_distance_77 : decode cX2_distance 77 = .ok (.iaload, 1) := by decide +kernel
theorem dX2_distance_78 : decode cX2_distance 78 = .ok (.aload_n 0, 1) := by decide +kernel
theorem dX2_distance_79 : decode cX2_distance 79 = .ok (.iload_n 1, 1) := by decide +kernel
theorem dX2_distance_80 : decode cX2_distance 80 = .ok (.iload 4, 2) := by decide +kernel
theorem dX2_distance_82 : decode cX2_distance 82 = .ok (.iconst 1, 1) := by decide +kernel
theorem dX2_distance_83 : decode cX2_distance 83 = .ok (.isub, 1) := by decide +kernel
theorem dX2_distance_84 : decode cX2_distance 84 = .ok (.invokevirtual 55, 3) := by decide +kernel
theorem dX2_distance_87 : decode cX2_distance 87 = .ok (.aload_n 0, 1) := by decide +kernel
theorem dX2_distance_88 : decode cX2_distance 88 = .ok (.iload_n 2, 1) := by decide +kernel
theorem dX2_distance_89 : decode cX2_distance 89 = .ok (.iload 5, 2) := by decide +kernel
theorem dX2_distance_91 : decode cX2_distance 91 = .ok (.iconst 1, 1) := by decide +kernel
theorem dX2_distance_92 : decode cX2_distance 92 = .ok (.isub, 1) := by decide +kernel
theorem dX2_distance_93 : decode cX2_distance 93 = .ok (.invokevirtual 55, 3) := by decide +kernel
theorem dX2_distance_96 : decode cX2_distance 96 = .ok (.invokestatic 70, 3) := by decide +kernel
theorem dX2_distance_99 : decode cX2_distance 99 = .ok (.iadd, 1) := by decide +kernel
theorem dX2_distance_100 : decode cX2_distance 100 = .ok (.istore 6, 2) := by decide +kernel
theorem dX2_distance_102 : decode cX2_distance 102 = .ok (.aload_n 0, 1) := by decide +kernel
theorem dX2_distance_103 : decode cX2_distance 103 = .ok (.getfield 26, 3) := by decide +kernel
theorem dX2_distance_106 : decode cX2_distance 106 = .ok (.iload 5, 2) := by decide +kernel
theorem dX2_distance_108 : decode cX2_distance 108 = .ok (.iload 6, 2) := by decide +kernel
theorem dX2_distance_110 : decode cX2_distance 110 = .ok (.iconst 2, 1) := by decide +kernel
theorem dX2_distance_111 : decode cX2_distance 111 = .ok (.aload_n 0, 1) := by decide +kernel
theorem dX2_distance_112 : decode cX2_distance 112 = .ok (.getfield 23, 3) := by decide +kernel
theorem dX2_distance_115 : decode cX2_distance 115 = .ok (.iload 5, 2) := by decide +kernel
theorem dX2_distance_117 : decode cX2_distance 117 = .ok (.iaload, 1) := by decide +kernel
theorem dX2_distance_118 : decode cX2_distance 118 = .ok (.aload_n 0, 1) := by decide +kernel
theorem dX2_distance_119 : decode cX2_distance 119 = .ok (.getfield 26, 3) := by decide +kernel
theorem dX2_distance_122 : decode cX2_distance 122 = .ok (.iload 5, 2) := by decide +kernel
theorem dX2_distance_124 : decode cX2_distance 124 = .ok (.iconst 1, 1) := by decide +kernel
theorem dX2_distance_125 : decode cX2_distance 125 = .ok (.isub, 1) := by decide +kernel
theorem dX2_distance_126 : decode cX2_distance 126 = .ok (.iaload, 1) := by decide +kernel
theorem dX2_distance_127 : decode cX2_distance 127 = .ok (.invokestatic 65, 3) := by decide +kernel
theorem dX2_distance_130 : decode cX2_distance 130 = .ok (.iadd, 1) := by decide +kernel
theorem dX2_distance_131 : decode cX2_distance 131 = .ok (.invokestatic 65, 3) := by decide +kernel
theorem dX2_distance_134 : decode cX2_distance 134 = .ok (.iastore, 1) := by decide +kernel
theorem dX2_distance_135 : decode cX2_distance 135 = .ok (.iinc 5 1, 3) := by decide +kernel
theorem dX2_distance_138 : decode cX2_distance 138 = .ok (.goto (-75), 3) := by decide +kernel
theorem dX2_distance_141 : decode cX2_distance 141 = .ok (.aload_n 0, 1) := by decide +kernel
theorem dX2_distance_142 : decode cX2_distance 142 = .ok (.getfield 26, 3) := by decide +kernel
theorem dX2_distance_145 : decode cX2_distance 145 = .ok (.iconst 0, 1) := by decide +kernel
theorem dX2_distance_146 : decode cX2_distance 146 = .ok (.aload_n 0, 1) := by decide +kernel
theorem dX2_distance_147 : decode cX2_distance 147 = .ok (.getfield 23, 3) := by decide +kernel
theorem dX2_distance_150 : decode cX2_distance 150 = .ok (.iconst 0, 1) := by decide +kernel
theorem dX2_distance_151 : decode cX2_distance 151 = .ok (.iload_n 3, 1) := by decide +kernel
theorem dX2_distance_152 : decode cX2_distance 152 = .ok (.iconst 1, 1) := by decide +kernel
theorem dX2_distance_153 : decode cX2_distance 153 = .ok (.iadd, 1) := by decide +kernel
theorem dX2_distance_154 : decode cX2_distance 154 = .ok (.invokestatic 73, 3) := by decide +kernel
theorem dX2_distance_157 : decode cX2_distance 157 = .ok (.iinc 4 1, 3) := by decide +kernel
theorem dX2_distance_160 : decode cX2_distance 160 = .ok (.goto (-120), 3) := by decide +kernel
theorem dX2_distance_163 : decode cX2_distance 163 = .ok (.aload_n 0, 1) := by decide +kernel
theorem dX2_distance_164 : decode cX2_distance 164 = .ok (.getfield 23, 3) := by decide +kernel
theorem dX2_distance_167 : decode cX2_distance 167 = .ok (.iload_n 3, 1) := by decide +kernel
theorem dX2_distance_168 : decode cX2_distance 168 = .ok (.iaload, 1) := by decide +kernel
theorem dX2_distance_169 : decode cX2_distance 169 = .ok (.ireturn, 1) := by decide +kernel
theorem dX2_unlike_0 : decode cX2_unlike 0 = .ok (.iload_n 0, 1) := by decide +kernel
theorem dX2_unlike_1 : decode cX2_unlike 1 = .ok (.iconst (-1), 1) := by decide +kernel
theorem dX2_unlike_2 : decode cX2_unlike 2 = .ok (.if_icmp .eq 13, 3) := by decide +kernel
theorem dX2_unlike_5 : decode cX2_unlike 5 = .ok (.iload_n 1, 1) := by decide +kernel
theorem dX2_unlike_6 : decode cX2_unlike 6 = .ok (.iconst (-1), 1) := by decide +kernel
theorem dX2_unlike_7 : decode cX2_unlike 7 = .ok (.if_icmp .eq 8, 3) := by decide +kernel
theorem dX2_unlike_10 : decode cX2_unlike 10 = .ok (.iload_n 0, 1) := by decide +kernel
theorem dX2_unlike_11 : decode cX2_unlike 11 = .ok (.iload_n 1, 1) := by decide +kernel
theorem dX2_unlike_12 : decode cX2_unlike 12 = .ok (.if_icmp .ne 7, 3) := by decide +kernel
theorem dX2_unlike_15 : decode cX2_unlike 15 = .ok (.iconst 0, 1) := by decide +kernel
theorem dX2_unlike_16 : decode cX2_unlike 16 = .ok (.goto 4, 3) := by decide +kernel
theorem dX2_unlike_19 : decode cX2_unlike 19 = .ok (.iconst 3, 1) := by decide +kernel
theorem dX2_unlike_20 : decode cX2_unlike 20 = .ok (.ireturn, 1) := by decide +kernel
theorem dX2_motherOf_0 : decode cX2_motherOf 0 = .ok (.iconst (-1), 1) := by decide +kernel
theorem dX2_motherOf_1 : decode cX2_motherOf 1 = .ok (.istore_n 2, 1) := by decide +kernel
theorem dX2_motherOf_2 : decode cX2_motherOf 2 = .ok (.iconst 0, 1) := by decide +kernel
theorem dX2_motherOf_3 : decode cX2_motherOf 3 = .ok (.istore_n 3, 1) := by decide +kernel
theorem dX2_motherOf_4 : decode cX2_motherOf 4 = .ok (.iconst 0, 1) := by decide +kernel
theorem dX2_motherOf_5 : decode cX2_motherOf 5 = .ok (.istore 4, 2) := by decide +kernel
theorem dX2_motherOf_7 : decode cX2_motherOf 7 = .ok (.iload 4, 2) := by decide +kernel
theorem dX2_motherOf_9 : decode cX2_motherOf 9 = .ok (.aload_n 0, 1) := by decide +kernel
theorem dX2_motherOf_10 : decode cX2_motherOf 10 = .ok (.getfield 29, 3) := by decide +kernel
theorem dX2_motherOf_13 : decode cX2_motherOf 13 = .ok (.if_icmp .ge 69, 3) := by decide +kernel
theorem dX2_motherOf_16 : decode cX2_motherOf 16 = .ok (.aload_n 0, 1) := by decide +kernel
theorem dX2_motherOf_17 : decode cX2_motherOf 17 = .ok (.iload 4, 2) := by decide +kernel
theorem dX2_motherOf_19 : decode cX2_motherOf 19 = .ok (.invokevirtual 79, 3) := by decide +kernel
theorem dX2_motherOf_22 : decode cX2_motherOf 22 = .ok (.aload_n 0, 1) := by decide +kernel
theorem dX2_motherOf_23 : decode cX2_motherOf 23 = .ok (.iload_n 1, 1) := by decide +kernel
theorem dX2_motherOf_24 : decode cX2_motherOf 24 = .ok (.invokevirtual 79, 3) := by decide +kernel
theorem dX2_motherOf_27 : decode cX2_motherOf 27 = .ok (.if_icmp .ge 49, 3) := by decide +kernel
theorem dX2_motherOf_30 : decode cX2_motherOf 30 = .ok (.aload_n 0, 1) := by decide +kernel
theorem dX2_motherOf_31 : decode cX2_motherOf 31 = .ok (.iload 4, 2) := by decide +kernel
theorem dX2_motherOf_33 : decode cX2_motherOf 33 = .ok (.iload_n 1, 1) := by decide +kernel
theorem dX2_motherOf_34 : decode cX2_motherOf 34 = .ok (.invokevirtual 82, 3) := by decide +kernel
theorem dX2_motherOf_37 : decode cX2_motherOf 37 = .ok (.istore 5, 2) := by decide +kernel
theorem dX2_motherOf_39 : decode cX2_motherOf 39 = .ok (.iload_n 2, 1) := by decide +kernel
theorem dX2_motherOf_40 : decode cX2_motherOf 40 = .ok (.iconst (-1), 1) := by decide +kernel
theorem dX2_motherOf_41 : decode cX2_motherOf 41 = .ok (.if_icmp .eq 29, 3) := by decide +kernel
theorem dX2_motherOf_44 : decode cX2_motherOf 44 = .ok (.iload 5, 2) := by decide +kernel
theorem dX2_motherOf_46 : decode cX2_motherOf 46 = .ok (.iload_n 3, 1) := by decide +kernel
theorem dX2_motherOf_47 : decode cX2_motherOf 47 = .ok (.if_icmp .lt 23, 3) := by decide +kernel
theorem dX2_motherOf_50 : decode cX2_motherOf 50 = .ok (.iload 5, 2) := by decide +kernel
theorem dX2_motherOf_52 : decode cX2_motherOf 52 = .ok (.iload_n 3, 1) := by decide +kernel
theorem dX2_motherOf_53 : decode cX2_motherOf 53 = .ok (.if_icmp .ne 23, 3) := by decide +kernel
theorem dX2_motherOf_56 : decode cX2_motherOf 56 = .ok (.aload_n 0, 1) := by decide +kernel
theorem dX2_motherOf_57 : decode cX2_motherOf 57 = .ok (.iload 4, 2) := by decide +kernel
theorem dX2_motherOf_59 : decode cX2_motherOf 59 = .ok (.invokevirtual 79, 3) := by decide +kernel
theorem dX2_motherOf_62 : decode cX2_motherOf 62 = .ok (.aload_n 0, 1) := by decide +kernel
theorem dX2_motherOf_63 : decode cX2_motherOf 63 = .ok (.iload_n 2, 1) := by decide +kernel
theorem dX2_motherOf_64 : decode cX2_motherOf 64 = .ok (.invokevirtual 79, 3) := by decide +kernel
theorem dX2_motherOf_67 : decode cX2_motherOf 67 = .ok (.if_icmp .le 9, 3) := by decide +kernel
theorem dX2_motherOf_70 : decode cX2_motherOf 70 = .ok (.iload 4, 2) := by decide +kernel
theorem dX2_motherOf_72 : decode cX2_motherOf 72 = .ok (.istore_n 2, 1) := by decide +kernel
theorem dX2_motherOf_73 : decode cX2_motherOf 73 = .ok (.iload 5, 2) := by decide +kernel
theorem dX2_motherOf_75 : decode cX2_motherOf 75 = .ok (.istore_n 3, 1) := by decide +kernel
theorem dX2_motherOf_76 : decode cX2_motherOf 76 = .ok (.iinc 4 1, 3) := by decide +kernel
theorem dX2_motherOf_79 : decode cX2_motherOf 79 = .ok (.goto (-72), 3) := by decide +kernel
theorem dX2_motherOf_82 : decode cX2_motherOf 82 = .ok (.iload_n 2, 1) := by decide +kernel
theorem dX2_motherOf_83 : decode cX2_motherOf 83 = .ok (.ireturn, 1) := by decide +kernel
theorem dX2_generations_0 : decode cX2_generations 0 = .ok (.iload_n 1, 1) := by decide +kernel
theorem dX2_generations_1 : decode cX2_generations 1 = .ok (.istore_n 2, 1) := by decide +kernel
theorem dX2_generations_2 : decode cX2_generations 2 = .ok (.iconst 0, 1) := by decide +kernel
theorem dX2_generations_3 : decode cX2_generations 3 = .ok (.istore_n 3, 1) := by decide +kernel
theorem dX2_generations_4 : decode cX2_generations 4 = .ok (.iload_n 3, 1) := by decide +kernel
theorem dX2_generations_5 : decode cX2_generations 5 = .ok (.bipush 8, 2) := by decide +kernel
theorem dX2_generations_7 : decode cX2_generations 7 = .ok (.if_icmp .ge 22, 3) := by decide +kernel
theorem dX2_generations_10 : decode cX2_generations 10 = .ok (.aload_n 0, 1) := by decide +kernel
theorem dX2_generations_11 : decode cX2_generations 11 = .ok (.iload_n 2, 1) := by decide +kernel
theorem dX2_generations_12 : decode cX2_generations 12 = .ok (.invokevirtual 85, 3) := by decide +kernel
theorem dX2_generations_15 : decode cX2_generations 15 = .ok (.istore_n 2, 1) := by decide +kernel
theorem dX2_generations_16 : decode cX2_generations 16 = .ok (.iload_n 2, 1) := by decide +kernel
theorem dX2_generations_17 : decode cX2_generations 17 = .ok (.iconst (-1), 1) := by decide +kernel
theorem dX2_generations_18 : decode cX2_generations 18 = .ok (.if_icmp .ne 5, 3) := by decide +kernel
theorem dX2_generations_21 : decode cX2_generations 21 = .ok (.iload_n 3, 1) := by decide +kernel
theorem dX2_generations_22 : decode cX2_generations 22 = .ok (.ireturn, 1) := by decide +kernel
theorem dX2_generations_23 : decode cX2_generations 23 = .ok (.iinc 3 1, 3) := by decide +kernel
theorem dX2_generations_26 : decode cX2_generations 26 = .ok (.goto (-22), 3) := by decide +kernel
theorem dX2_generations_29 : decode cX2_generations 29 = .ok (.bipush 8, 2) := by decide +kernel
theorem dX2_generations_31 : decode cX2_generations 31 = .ok (.ireturn, 1) := by decide +kernel
theorem dX2_couldBeOfTwo_0 : decode cX2_couldBeOfTwo 0 = .ok (.aload_n 0, 1) := by decide +kernel
theorem dX2_couldBeOfTwo_1 : decode cX2_couldBeOfTwo 1 = .ok (.iload_n 1, 1) := by decide +kernel
theorem dX2_couldBeOfTwo_2 : decode cX2_couldBeOfTwo 2 = .ok (.invokevirtual 79, 3) := by decide +kernel
theorem dX2_couldBeOfTwo_5 : decode cX2_couldBeOfTwo 5 = .ok (.aload_n 0, 1) := by decide +kernel
theorem dX2_couldBeOfTwo_6 : decode cX2_couldBeOfTwo 6 = .ok (.iload_n 2, 1) := by decide +kernel
theorem dX2_couldBeOfTwo_7 : decode cX2_couldBeOfTwo 7 = .ok (.invokevirtual 79, 3) := by decide +kernel
theorem dX2_couldBeOfTwo_10 : decode cX2_couldBeOfTwo 10 = .ok (.if_icmp .ge 20, 3) := by decide +kernel
theorem dX2_couldBeOfTwo_13 : decode cX2_couldBeOfTwo 13 = .ok (.aload_n 0, 1) := by decide +kernel
theorem dX2_couldBeOfTwo_14 : decode cX2_couldBeOfTwo 14 = .ok (.iload_n 1, 1) := by decide +kernel
theorem dX2_couldBeOfTwo_15 : decode cX2_couldBeOfTwo 15 = .ok (.invokevirtual 51, 3) := by decide +kernel
theorem dX2_couldBeOfTwo_18 : decode cX2_couldBeOfTwo 18 = .ok (.aload_n 0, 1) := by decide +kernel
theorem dX2_couldBeOfTwo_19 : decode cX2_couldBeOfTwo 19 = .ok (.iload_n 2, 1) := by decide +kernel
theorem dX2_couldBeOfTwo_20 : decode cX2_couldBeOfTwo 20 = .ok (.invokevirtual 51, 3) := by decide +kernel
theorem dX2_couldBeOfTwo_23 : decode cX2_couldBeOfTwo 23 = .ok (.if_icmp .ne 7, 3) := by decide +kernel
theorem dX2_couldBeOfTwo_26 : decode cX2_couldBeOfTwo 26 = .ok (.iconst 1, 1) := by decide +kernel
theorem dX2_couldBeOfTwo_27 : decode cX2_couldBeOfTwo 27 = .ok (.goto 4, 3) := by decide +kernel
theorem dX2_couldBeOfTwo_30 : decode cX2_couldBeOfTwo 30 = .ok (.iconst 0, 1) := by decide +kernel
theorem dX2_couldBeOfTwo_31 : decode cX2_couldBeOfTwo 31 = .ok (.ireturn, 1) := by decide +kernel
theorem dX2_twoMothers_0 : decode cX2_twoMothers 0 = .ok (.iconst (-1), 1) := by decide +kernel
theorem dX2_twoMothers_1 : decode cX2_twoMothers 1 = .ok (.istore_n 2, 1) := by decide +kernel
theorem dX2_twoMothers_2 : decode cX2_twoMothers 2 = .ok (.iconst 0, 1) := by decide +kernel
theorem dX2_twoMothers_3 : decode cX2_twoMothers 3 = .ok (.istore_n 3, 1) := by decide +kernel
theorem dX2_twoMothers_4 : decode cX2_twoMothers 4 = .ok (.iconst 0, 1) := by decide +kernel
theorem dX2_twoMothers_5 : decode cX2_twoMothers 5 = .ok (.istore 4, 2) := by decide +kernel
theorem dX2_twoMothers_7 : decode cX2_twoMothers 7 = .ok (.iload 4, 2) := by decide +kernel
theorem dX2_twoMothers_9 : decode cX2_twoMothers 9 = .ok (.aload_n 0, 1) := by decide +kernel
theorem dX2_twoMothers_10 : decode cX2_twoMothers 10 = .ok (.getfield 29, 3) := by decide +kernel
theorem dX2_twoMothers_13 : decode cX2_twoMothers 13 = .ok (.if_icmp .ge 84, 3) := by decide +kernel
theorem dX2_twoMothers_16 : decode cX2_twoMothers 16 = .ok (.iload 4, 2) := by decide +kernel
theorem dX2_twoMothers_18 : decode cX2_twoMothers 18 = .ok (.iconst 1, 1) := by decide +kernel
theorem dX2_twoMothers_19 : decode cX2_twoMothers 19 = .ok (.iadd, 1) := by decide +kernel
theorem dX2_twoMothers_20 : decode cX2_twoMothers 20 = .ok (.istore 5, 2) := by decide +kernel
theorem dX2_twoMothers_22 : decode cX2_twoMothers 22 = .ok (.iload 5, 2) := by decide +kernel
theorem dX2_twoMothers_24 : decode cX2_twoMothers 24 = .ok (.aload_n 0, 1) := by decide +kernel
theorem dX2_twoMothers_25 : decode cX2_twoMothers 25 = .ok (.getfield 29, 3) := by decide +kernel
theorem dX2_twoMothers_28 : decode cX2_twoMothers 28 = .ok (.if_icmp .ge 63, 3) := by decide +kernel
theorem dX2_twoMothers_31 : decode cX2_twoMothers 31 = .ok (.aload_n 0, 1) := by decide +kernel
theorem dX2_twoMothers_32 : decode cX2_twoMothers 32 = .ok (.iload 4, 2) := by decide +kernel
theorem dX2_twoMothers_34 : decode cX2_twoMothers 34 = .ok (.iload_n 1, 1) := by decide +kernel
theorem dX2_twoMothers_35 : decode cX2_twoMothers 35 = .ok (.invokevirtual 88, 3) := by decide +kernel
theorem dX2_twoMothers_38 : decode cX2_twoMothers 38 = .ok (.ifCond .eq 53, 3) := by decide +kernel
theorem dX2_twoMothers_41 : decode cX2_twoMothers 41 = .ok (.aload_n 0, 1) := by decide +kernel
theorem dX2_twoMothers_42 : decode cX2_twoMothers 42 = .ok (.iload 5, 2) := by decide +kernel
theorem dX2_twoMothers_44 : decode cX2_twoMothers 44 = .ok (.iload_n 1, 1) := by decide +kernel
theorem dX2_twoMothers_45 : decode cX2_twoMothers 45 = .ok (.invokevirtual 88, 3) := by decide +kernel
theorem dX2_twoMothers_48 : decode cX2_twoMothers 48 = .ok (.ifCond .eq 37, 3) := by decide +kernel
theorem dX2_twoMothers_51 : decode cX2_twoMothers 51 = .ok (.aload_n 0, 1) := by decide +kernel
theorem dX2_twoMothers_52 : decode cX2_twoMothers 52 = .ok (.iload_n 1, 1) := by decide +kernel
theorem dX2_twoMothers_53 : decode cX2_twoMothers 53 = .ok (.iload 4, 2) := by decide +kernel
theorem dX2_twoMothers_55 : decode cX2_twoMothers 55 = .ok (.iload 5, 2) := by decide +kernel
theorem dX2_twoMothers_57 : decode cX2_twoMothers 57 = .ok (.invokevirtual 91, 3) := by decide +kernel
theorem dX2_twoMothers_60 : decode cX2_twoMothers 60 = .ok (.istore 6, 2) := by decide +kernel
theorem dX2_twoMothers_62 : decode cX2_twoMothers 62 = .ok (.iload_n 2, 1) := by decide +kernel
theorem dX2_twoMothers_63 : decode cX2_twoMothers 63 = .ok (.iconst (-1), 1) := by decide +kernel
theorem dX2_twoMothers_64 : decode cX2_twoMothers 64 = .ok (.if_icmp .eq 9, 3) := by decide +kernel
theorem dX2_twoMothers_67 : decode cX2_twoMothers 67 = .ok (.iload 6, 2) := by decide +kernel
theorem dX2_twoMothers_69 : decode cX2_twoMothers 69 = .ok (.iload_n 3, 1) := by decide +kernel
theorem dX2_twoMothers_70 : decode cX2_twoMothers 70 = .ok (.if_icmp .ge 15, 3) := by decide +kernel
theorem dX2_twoMothers_73 : decode cX2_twoMothers 73 = .ok (.bipush 10, 2) := by decide +kernel
theorem dX2_twoMothers_75 : decode cX2_twoMothers 75 = .ok (.iload 4, 2) := by decide +kernel
theorem dX2_twoMothers_77 : decode cX2_twoMothers 77 = .ok (.imul, 1) := by decide +kernel
theorem dX2_twoMothers_78 : decode cX2_twoMothers 78 = .ok (.iload 5, 2) := by decide +kernel
theorem dX2_twoMothers_80 : decode cX2_twoMothers 80 = .ok (.iadd, 1) := by decide +kernel
theorem dX2_twoMothers_81 : decode cX2_twoMothers 81 = .ok (.istore_n 2, 1) := by decide +kernel
theorem dX2_twoMothers_82 : decode cX2_twoMothers 82 = .ok (.iload 6, 2) := by decide +kernel
theorem dX2_twoMothers_84 : decode cX2_twoMothers 84 = .ok (.istore_n 3, 1) := by decide +kernel
theorem dX2_twoMothers_85 : decode cX2_twoMothers 85 = .ok (.iinc 5 1, 3) := by decide +kernel
theorem dX2_twoMothers_88 : decode cX2_twoMothers 88 = .ok (.goto (-66), 3) := by decide +kernel
theorem dX2_twoMothers_91 : decode cX2_twoMothers 91 = .ok (.iinc 4 1, 3) := by decide +kernel
theorem dX2_twoMothers_94 : decode cX2_twoMothers 94 = .ok (.goto (-87), 3) := by decide +kernel
theorem dX2_twoMothers_97 : decode cX2_twoMothers 97 = .ok (.iload_n 2, 1) := by decide +kernel
theorem dX2_twoMothers_98 : decode cX2_twoMothers 98 = .ok (.ireturn, 1) := by decide +kernel
theorem dX2_unlikeBoth_0 : decode cX2_unlikeBoth 0 = .ok (.iconst 0, 1) := by decide +kernel
theorem dX2_unlikeBoth_1 : decode cX2_unlikeBoth 1 = .ok (.istore 4, 2) := by decide +kernel
theorem dX2_unlikeBoth_3 : decode cX2_unlikeBoth 3 = .ok (.iconst 0, 1) := by decide +kernel
theorem dX2_unlikeBoth_4 : decode cX2_unlikeBoth 4 = .ok (.istore 5, 2) := by decide +kernel
theorem dX2_unlikeBoth_6 : decode cX2_unlikeBoth 6 = .ok (.iload 5, 2) := by decide +kernel
theorem dX2_unlikeBoth_8 : decode cX2_unlikeBoth 8 = .ok (.aload_n 0, 1) := by decide +kernel
theorem dX2_unlikeBoth_9 : decode cX2_unlikeBoth 9 = .ok (.iload_n 1, 1) := by decide +kernel
theorem dX2_unlikeBoth_10 : decode cX2_unlikeBoth 10 = .ok (.invokevirtual 51, 3) := by decide +kernel
theorem dX2_unlikeBoth_13 : decode cX2_unlikeBoth 13 = .ok (.if_icmp .ge 51, 3) := by decide +kernel
theorem dX2_unlikeBoth_16 : decode cX2_unlikeBoth 16 = .ok (.aload_n 0, 1) := by decide +kernel
theorem dX2_unlikeBoth_17 : decode cX2_unlikeBoth 17 = .ok (.iload_n 1, 1) := by decide +kernel
theorem dX2_unlikeBoth_18 : decode cX2_unlikeBoth 18 = .ok (.iload 5, 2) := by decide +kernel
theorem dX2_unlikeBoth_20 : decode cX2_unlikeBoth 20 = .ok (.invokevirtual 55, 3) := by decide +kernel
theorem dX2_unlikeBoth_23 : decode cX2_unlikeBoth 23 = .ok (.istore 6, 2) := by decide +kernel
theorem dX2_unlikeBoth_25 : decode cX2_unlikeBoth 25 = .ok (.iload 6, 2) := by decide +kernel
theorem dX2_unlikeBoth_27 : decode cX2_unlikeBoth 27 = .ok (.aload_n 0, 1) := by decide +kernel
theorem dX2_unlikeBoth_28 : decode cX2_unlikeBoth 28 = .ok (.iload_n 2, 1) := by decide +kernel
theorem dX2_unlikeBoth_29 : decode cX2_unlikeBoth 29 = .ok (.iload 5, 2) := by decide +kernel
theorem dX2_unlikeBoth_31 : decode cX2_unlikeBoth 31 = .ok (.invokevirtual 55, 3) := by decide +kernel
theorem dX2_unlikeBoth_34 : decode cX2_unlikeBoth 34 = .ok (.invokestatic 70, 3) := by decide +kernel
theorem dX2_unlikeBoth_37 : decode cX2_unlikeBoth 37 = .ok (.ifCond .eq 21, 3) := by decide +kernel
theorem dX2_unlikeBoth_40 : decode cX2_unlikeBoth 40 = .ok (.iload 6, 2) := by decide +kernel
theorem dX2_unlikeBoth_42 : decode cX2_unlikeBoth 42 = .ok (.aload_n 0, 1) := by decide +kernel
theorem dX2_unlikeBoth_43 : decode cX2_unlikeBoth 43 = .ok (.iload_n 3, 1) := by decide +kernel
theorem dX2_unlikeBoth_44 : decode cX2_unlikeBoth 44 = .ok (.iload 5, 2) := by decide +kernel
theorem dX2_unlikeBoth_46 : decode cX2_unlikeBoth 46 = .ok (.invokevirtual 55, 3) := by decide +kernel
theorem dX2_unlikeBoth_49 : decode cX2_unlikeBoth 49 = .ok (.invokestatic 70, 3) := by decide +kernel
theorem dX2_unlikeBoth_52 : decode cX2_unlikeBoth 52 = .ok (.ifCond .eq 6, 3) := by decide +kernel
theorem dX2_unlikeBoth_55 : decode cX2_unlikeBoth 55 = .ok (.iinc 4 1, 3) := by decide +kernel
theorem dX2_unlikeBoth_58 : decode cX2_unlikeBoth 58 = .ok (.iinc 5 1, 3) := by decide +kernel
theorem dX2_unlikeBoth_61 : decode cX2_unlikeBoth 61 = .ok (.goto (-55), 3) := by decide +kernel
theorem dX2_unlikeBoth_64 : decode cX2_unlikeBoth 64 = .ok (.iload 4, 2) := by decide +kernel
theorem dX2_unlikeBoth_66 : decode cX2_unlikeBoth 66 = .ok (.ireturn, 1) := by decide +kernel
theorem dX2_sharedSlips_0 : decode cX2_sharedSlips 0 = .ok (.iconst 0, 1) := by decide +kernel
theorem dX2_sharedSlips_1 : decode cX2_sharedSlips 1 = .ok (.istore_n 3, 1) := by decide +kernel
theorem dX2_sharedSlips_2 : decode cX2_sharedSlips 2 = .ok (.aload_n 0, 1) := by decide +kernel
theorem dX2_sharedSlips_3 : decode cX2_sharedSlips 3 = .ok (.iload_n 1, 1) := by decide +kernel
theorem dX2_sharedSlips_4 : decode cX2_sharedSlips 4 = .ok (.invokevirtual 79, 3) := by decide +kernel
theorem dX2_sharedSlips_7 : decode cX2_sharedSlips 7 = .ok (.aload_n 0, 1) := by decide +kernel
theorem dX2_sharedSlips_8 : decode cX2_sharedSlips 8 = .ok (.iload_n 2, 1) := by decide +kernel
theorem dX2_sharedSlips_9 : decode cX2_sharedSlips 9 = .ok (.invokevirtual 79, 3) := by decide +kernel
theorem dX2_sharedSlips_12 : decode cX2_sharedSlips 12 = .ok (.invokestatic 65, 3) := by decide +kernel
theorem dX2_sharedSlips_15 : decode cX2_sharedSlips 15 = .ok (.istore 4, 2) := by decide +kernel
theorem dX2_sharedSlips_17 : decode cX2_sharedSlips 17 = .ok (.iconst 0, 1) := by decide +kernel
theorem dX2_sharedSlips_18 : decode cX2_sharedSlips 18 = .ok (.istore 5, 2) := by decide +kernel
theorem dX2_sharedSlips_20 : decode cX2_sharedSlips 20 = .ok (.iload 5, 2) := by decide +kernel
theorem dX2_sharedSlips_22 : decode cX2_sharedSlips 22 = .ok (.aload_n 0, 1) := by decide +kernel
theorem dX2_sharedSlips_23 : decode cX2_sharedSlips 23 = .ok (.iload_n 1, 1) := by decide +kernel
theorem dX2_sharedSlips_24 : decode cX2_sharedSlips 24 = .ok (.invokevirtual 51, 3) := by decide +kernel
theorem dX2_sharedSlips_27 : decode cX2_sharedSlips 27 = .ok (.if_icmp .ge 52, 3) := by decide +kernel
theorem dX2_sharedSlips_30 : decode cX2_sharedSlips 30 = .ok (.aload_n 0, 1) := by decide +kernel
theorem dX2_sharedSlips_31 : decode cX2_sharedSlips 31 = .ok (.iload_n 1, 1) := by decide +kernel
theorem dX2_sharedSlips_32 : decode cX2_sharedSlips 32 = .ok (.iload 5, 2) := by decide +kernel
theorem dX2_sharedSlips_34 : decode cX2_sharedSlips 34 = .ok (.invokevirtual 55, 3) := by decide +kernel
theorem dX2_sharedSlips_37 : decode cX2_sharedSlips 37 = .ok (.istore 6, 2) := by decide +kernel
theorem dX2_sharedSlips_39 : decode cX2_sharedSlips 39 = .ok (.iload 6, 2) := by decide +kernel
theorem dX2_sharedSlips_41 : decode cX2_sharedSlips 41 = .ok (.iconst (-1), 1) := by decide +kernel
theorem dX2_sharedSlips_42 : decode cX2_sharedSlips 42 = .ok (.if_icmp .eq 31, 3) := by decide +kernel
theorem dX2_sharedSlips_45 : decode cX2_sharedSlips 45 = .ok (.iload 6, 2) := by decide +kernel
theorem dX2_sharedSlips_47 : decode cX2_sharedSlips 47 = .ok (.aload_n 0, 1) := by decide +kernel
theorem dX2_sharedSlips_48 : decode cX2_sharedSlips 48 = .ok (.iload_n 2, 1) := by decide +kernel
theorem dX2_sharedSlips_49 : decode cX2_sharedSlips 49 = .ok (.iload 5, 2) := by decide +kernel
theorem dX2_sharedSlips_51 : decode cX2_sharedSlips 51 = .ok (.invokevirtual 55, 3) := by decide +kernel
theorem dX2_sharedSlips_54 : decode cX2_sharedSlips 54 = .ok (.if_icmp .ne 19, 3) := by decide +kernel
theorem dX2_sharedSlips_57 : decode cX2_sharedSlips 57 = .ok (.aload_n 0, 1) := by decide +kernel
theorem dX2_sharedSlips_58 : decode cX2_sharedSlips 58 = .ok (.iload 6, 2) := by decide +kernel
theorem dX2_sharedSlips_60 : decode cX2_sharedSlips 60 = .ok (.iload 5, 2) := by decide +kernel
theorem dX2_sharedSlips_62 : decode cX2_sharedSlips 62 = .ok (.iload 4, 2) := by decide +kernel
theorem dX2_sharedSlips_64 : decode cX2_sharedSlips 64 = .ok (.invokevirtual 95, 3) := by decide +kernel
theorem dX2_sharedSlips_67 : decode cX2_sharedSlips 67 = .ok (.ifCond .ne 6, 3) := by decide +kernel
theorem dX2_sharedSlips_70 : decode cX2_sharedSlips 70 = .ok (.iinc 3 1, 3) := by decide +kernel
theorem dX2_sharedSlips_73 : decode cX2_sharedSlips 73 = .ok (.iinc 5 1, 3) := by decide +kernel
theorem dX2_sharedSlips_76 : decode cX2_sharedSlips 76 = .ok (.goto (-56), 3) := by decide +kernel
theorem dX2_sharedSlips_79 : decode cX2_sharedSlips 79 = .ok (.iload_n 3, 1) := by decide +kernel
theorem dX2_sharedSlips_80 : decode cX2_sharedSlips 80 = .ok (.ireturn, 1) := by decide +kernel
theorem dX2_wasSaid_0 : decode cX2_wasSaid 0 = .ok (.iconst 0, 1) := by decide +kernel
theorem dX2_wasSaid_1 : decode cX2_wasSaid 1 = .ok (.istore 4, 2) := by decide +kernel
theorem dX2_wasSaid_3 : decode cX2_wasSaid 3 = .ok (.iload 4, 2) := by decide +kernel
theorem dX2_wasSaid_5 : decode cX2_wasSaid 5 = .ok (.aload_n 0, 1) := by decide +kernel
theorem dX2_wasSaid_6 : decode cX2_wasSaid 6 = .ok (.getfield 29, 3) := by decide +kernel
theorem dX2_wasSaid_9 : decode cX2_wasSaid 9 = .ok (.if_icmp .ge 32, 3) := by decide +kernel
theorem dX2_wasSaid_12 : decode cX2_wasSaid 12 = .ok (.aload_n 0, 1) := by decide +kernel
theorem dX2_wasSaid_13 : decode cX2_wasSaid 13 = .ok (.iload 4, 2) := by decide +kernel
theorem dX2_wasSaid_15 : decode cX2_wasSaid 15 = .ok (.invokevirtual 79, 3) := by decide +kernel
theorem dX2_wasSaid_18 : decode cX2_wasSaid 18 = .ok (.iload_n 3, 1) := by decide +kernel
theorem dX2_wasSaid_19 : decode cX2_wasSaid 19 = .ok (.if_icmp .ge 16, 3) := by decide +kernel
theorem dX2_wasSaid_22 : decode cX2_wasSaid 22 = .ok (.aload_n 0, 1) := by decide +kernel
theorem dX2_wasSaid_23 : decode cX2_wasSaid 23 = .ok (.iload 4, 2) := by decide +kernel
theorem dX2_wasSaid_25 : decode cX2_wasSaid 25 = .ok (.iload_n 2, 1) := by decide +kernel
theorem dX2_wasSaid_26 : decode cX2_wasSaid 26 = .ok (.invokevirtual 55, 3) := by decide +kernel
theorem dX2_wasSaid_29 : decode cX2_wasSaid 29 = .ok (.iload_n 1, 1) := by decide +kernel
theorem dX2_wasSaid_30 : decode cX2_wasSaid 30 = .ok (.if_icmp .ne 5, 3) := by decide +kernel
theorem dX2_wasSaid_33 : decode cX2_wasSaid 33 = .ok (.iconst 1, 1) := by decide +kernel
theorem dX2_wasSaid_34 : decode cX2_wasSaid 34 = .ok (.ireturn, 1) := by decide +kernel
theorem dX2_wasSaid_35 : decode cX2_wasSaid 35 = .ok (.iinc 4 1, 3) := by decide +kernel
theorem dX2_wasSaid_38 : decode cX2_wasSaid 38 = .ok (.goto (-35), 3) := by decide +kernel
theorem dX2_wasSaid_41 : decode cX2_wasSaid 41 = .ok (.iconst 0, 1) := by decide +kernel
theorem dX2_wasSaid_42 : decode cX2_wasSaid 42 = .ok (.ireturn, 1) := by decide +kernel
theorem dX3_init_0 : decode cX3_init 0 = .ok (.aload_n 0, 1) := by decide +kernel
theorem dX3_init_1 : decode cX3_init 1 = .ok (.invokespecial 3, 3) := by decide +kernel
theorem dX3_init_4 : decode cX3_init 4 = .ok (.aload_n 0, 1) := by decide +kernel
theorem dX3_init_5 : decode cX3_init 5 = .ok (.bipush 8, 2) := by decide +kernel
theorem dX3_init_7 : decode cX3_init 7 = .ok (.bipush 6, 2) := by decide +kernel
theorem dX3_init_9 : decode cX3_init 9 = .ok (.multianewarray 11 2, 4) := by decide +kernel
theorem dX3_init_13 : decode cX3_init 13 = .ok (.putfield 13, 3) := by decide +kernel
theorem dX3_init_16 : decode cX3_init 16 = .ok (.aload_n 0, 1) := by decide +kernel
theorem dX3_init_17 : decode cX3_init 17 = .ok (.bipush 8, 2) := by decide +kernel
theorem dX3_init_19 : decode cX3_init 19 = .ok (.newarray .long, 2) := by decide +kernel
theorem dX3_init_21 : decode cX3_init 21 = .ok (.putfield 16, 3) := by decide +kernel
theorem dX3_init_24 : decode cX3_init 24 = .ok (.aload_n 0, 1) := by decide +kernel
theorem dX3_init_25 : decode cX3_init 25 = .ok (.iconst 3, 1) := by decide +kernel
theorem dX3_init_26 : decode cX3_init 26 = .ok (.newarray .long, 2) := by decide +kernel
theorem dX3_init_28 : decode cX3_init 28 = .ok (.putfield 20, 3) := by decide +kernel
theorem dX3_init_31 : decode cX3_init 31 = .ok (.aload_n 0, 1) := by decide +kernel
theorem dX3_init_32 : decode cX3_init 32 = .ok (.iconst 3, 1) := by decide +kernel
theorem dX3_init_33 : decode cX3_init 33 = .ok (.newarray .int, 2) := by decide +kernel
theorem dX3_init_35 : decode cX3_init 35 = .ok (.putfield 23, 3) := by decide +kernel
theorem dX3_init_38 : decode cX3_init 38 = .ok (.aload_n 0, 1) := by decide +kernel
theorem dX3_init_39 : decode cX3_init 39 = .ok (.bipush 30, 2) := by decide +kernel
theorem dX3_init_41 : decode cX3_init 41 = .ok (.putfield 27, 3) := by decide +kernel
theorem dX3_init_44 : decode cX3_init 44 = .ok (.return_, 1) := by decide +kernel
theorem dX3_asks_0 : decode cX3_asks 0 = .ok (.iload_n 0, 1) := by decide +kernel
theorem dX3_asks_1 : decode cX3_asks 1 = .ok (.ifCond .lt 12, 3) := by decide +kernel
theorem dX3_asks_4 : decode cX3_asks 4 = .ok (.iload_n 0, 1) := by decide +kernel
theorem dX3_asks_5 : decode cX3_asks 5 = .ok (.iconst 3, 1) := by decide +kernel
theorem dX3_asks_6 : decode cX3_asks 6 = .ok (.if_icmp .ge 7, 3) := by decide +kernel
theorem dX3_asks_9 : decode cX3_asks 9 = .ok (.iconst 1, 1) := by decide +kernel
theorem dX3_asks_10 : decode cX3_asks 10 = .ok (.goto 4, 3) := by decide +kernel
theorem dX3_asks_13 : decode cX3_asks 13 = .ok (.iconst 0, 1) := by decide +kernel
theorem dX3_asks_14 : decode cX3_asks 14 = .ok (.ireturn, 1) := by decide +kernel
theorem dX3_size_0 : decode cX3_size 0 = .ok (.aload_n 0, 1) := by decide +kernel
theorem dX3_size_1 : decode cX3_size 1 = .ok (.getfield 31, 3) := by decide +kernel
theorem dX3_size_4 : decode cX3_size 4 = .ok (.ireturn, 1) := by decide +kernel
theorem dX3_matSize_0 : decode cX3_matSize 0 = .ok (.aload_n 0, 1) := by decide +kernel
theorem dX3_matSize_1 : decode cX3_matSize 1 = .ok (.getfield 27, 3) := by decide +kernel
theorem dX3_matSize_4 : decode cX3_matSize 4 = .ok (.ireturn, 1) := by decide +kernel
theorem dX3_spread_0 : decode cX3_spread 0 = .ok (.aload_n 0, 1) := by decide +kernel
theorem dX3_spread_1 : decode cX3_spread 1 = .ok (.getfield 27, 3) := by decide +kernel
theorem dX3_spread_4 : decode cX3_spread 4 = .ok (.istore_n 2, 1) := by decide +kernel
theorem dX3_spread_5 : decode cX3_spread 5 = .ok (.aload_n 0, 1) := by decide +kernel
theorem dX3_spread_6 : decode cX3_spread 6 = .ok (.iload_n 1, 1) := by decide +kernel
theorem dX3_spread_7 : decode cX3_spread 7 = .ok (.putfield 27, 3) := by decide +kernel
theorem dX3_spread_10 : decode cX3_spread 10 = .ok (.iload_n 2, 1) := by decide +kernel
theorem dX3_spread_11 : decode cX3_spread 11 = .ok (.ireturn, 1) := by decide +kernel
theorem dX3_empty_0 : decode cX3_empty 0 = .ok (.aload_n 0, 1) := by decide +kernel
theorem dX3_empty_1 : decode cX3_empty 1 = .ok (.getfield 31, 3) := by decide +kernel
theorem dX3_empty_4 : decode cX3_empty 4 = .ok (.istore_n 1, 1) := by decide +kernel
theorem dX3_empty_5 : decode cX3_empty 5 = .ok (.aload_n 0, 1) := by decide +kernel
theorem dX3_empty_6 : decode cX3_empty 6 = .ok (.iconst 0, 1) := by decide +kernel
theorem dX3_empty_7 : decode cX3_empty 7 = .ok (.putfield 31, 3) := by decide +kernel
theorem dX3_empty_10 : decode cX3_empty 10 = .ok (.iload_n 1, 1) := by decide +kernel
theorem dX3_empty_11 : decode cX3_empty 11 = .ok (.ireturn, 1) := by decide +kernel
theorem dX3_add_0 : decode cX3_add 0 = .ok (.aload_n 0, 1) := by decide +kernel
theorem dX3_add_1 : decode cX3_add 1 = .ok (.getfield 31, 3) := by decide +kernel
theorem dX3_add_4 : decode cX3_add 4 = .ok (.bipush 8, 2) := by decide +kernel
theorem dX3_add_6 : decode cX3_add 6 = .ok (.if_icmp .lt 6, 3) := by decide +kernel
theorem dX3_add_9 : decode cX3_add 9 = .ok (.bipush (-4), 2) := by decide +kernel
theorem dX3_add_11 : decode cX3_add 11 = .ok (.ireturn, 1) := by decide +kernel
theorem dX3_add_12 : decode cX3_add 12 = .ok (.aload_n 0, 1) := by decide +kernel
theorem dX3_add_13 : decode cX3_add 13 = .ok (.getfield 13, 3) := by decide +kernel
theorem dX3_add_16 : decode cX3_add 16 = .ok (.aload_n 0, 1) := by decide +kernel
theorem dX3_add_17 : decode cX3_add 17 = .ok (.getfield 31, 3) := by decide +kernel
theorem dX3_add_20 : decode cX3_add 20 = .ok (.aaload, 1) := by decide +kernel
theorem dX3_add_21 : decode cX3_add 21 = .ok (.iconst 0, 1) := by decide +kernel
theorem dX3_add_22 : decode cX3_add 22 = .ok (.iload_n 1, 1) := by decide +kernel
theorem dX3_add_23 : decode cX3_add 23 = .ok (.iastore, 1) := by decide +kernel
theorem dX3_add_24 : decode cX3_add 24 = .ok (.aload_n 0, 1) := by decide +kernel
theorem dX3_add_25 : decode cX3_add 25 = .ok (.getfield 13, 3) := by decide +kernel
theorem dX3_add_28 : decode cX3_add 28 = .ok (.aload_n 0, 1) := by decide +kernel
theorem dX3_add_29 : decode cX3_add 29 = .ok (.getfield 31, 3) := by decide +kernel
theorem dX3_add_32 : decode cX3_add 32 = .ok (.aaload, 1) := by decide +kernel
theorem dX3_add_33 : decode cX3_add 33 = .ok (.iconst 1, 1) := by decide +kernel
theorem dX3_add_34 : decode cX3_add 34 = .ok (.iload_n 2, 1) := by decide +kernel
theorem dX3_add_35 : decode cX3_add 35 = .ok (.iastore, 1) := by decide +kernel
theorem dX3_add_36 : decode cX3_add 36 = .ok (.aload_n 0, 1) := by decide +kernel
theorem dX3_add_37 : decode cX3_add 37 = .ok (.getfield 13, 3) := by decide +kernel
theorem dX3_add_40 : decode cX3_add 40 = .ok (.aload_n 0, 1) := by decide +kernel
theorem dX3_add_41 : decode cX3_add 41 = .ok (.getfield 31, 3) := by decide +kernel
theorem dX3_add_44 : decode cX3_add 44 = .ok (.aaload, 1) := by decide +kernel
theorem dX3_add_45 : decode cX3_add 45 = .ok (.iconst 2, 1) := by decide +kernel
theorem dX3_add_46 : decode cX3_add 46 = .ok (.iload_n 3, 1) := by decide +kernel
theorem dX3_add_47 : decode cX3_add 47 = .ok (.iastore, 1) := by decide +kernel
theorem dX3_add_48 : decode cX3_add 48 = .ok (.aload_n 0, 1) := by decide +kernel
theorem dX3_add_49 : decode cX3_add 49 = .ok (.getfield 13, 3) := by decide +kernel
theorem dX3_add_52 : decode cX3_add 52 = .ok (.aload_n 0, 1) := by decide +kernel
theorem dX3_add_53 : decode cX3_add 53 = .ok (.getfield 31, 3) := by decide +kernel
theorem dX3_add_56 : decode cX3_add 56 = .ok (.aaload, 1) := by decide +kernel
theorem dX3_add_57 : decode cX3_add 57 = .ok (.iconst 3, 1) := by decide +kernel
theorem dX3_add_58 : decode cX3_add 58 = .ok (.iload 4, 2) := by decide +kernel
theorem dX3_add_60 : decode cX3_add 60 = .ok (.iastore, 1) := by decide +kernel
theorem dX3_add_61 : decode cX3_add 61 = .ok (.aload_n 0, 1) := by decide +kernel
theorem dX3_add_62 : decode cX3_add 62 = .ok (.dup, 1) := by decide +kernel
theorem dX3_add_63 : decode cX3_add 63 = .ok (.getfield 31, 3) := by decide +kernel
theorem dX3_add_66 : decode cX3_add 66 = .ok (.iconst 1, 1) := by decide +kernel
theorem dX3_add_67 : decode cX3_add 67 = .ok (.iadd, 1) := by decide +kernel
theorem dX3_add_68 : decode cX3_add 68 = .ok (.putfield 31, 3) := by decide +kernel
theorem dX3_add_71 : decode cX3_add 71 = .ok (.aload_n 0, 1) := by decide +kernel
theorem dX3_add_72 : decode cX3_add 72 = .ok (.getfield 31, 3) := by decide +kernel
theorem dX3_add_75 : decode cX3_add 75 = .ok (.ireturn, 1) := by decide +kernel
theorem dX3_addPoint_0 : decode cX3_addPoint 0 = .ok (.aload_n 0, 1) := by decide +kernel
theorem dX3_addPoint_1 : decode cX3_addPoint 1 = .ok (.getfield 31, 3) := by decide +kernel
theorem dX3_addPoint_4 : decode cX3_addPoint 4 = .ok (.bipush 8, 2) := by decide +kernel
theorem dX3_addPoint_6 : decode cX3_addPoint 6 = .ok (.if_icmp .lt 6, 3) := by decide +kernel
theorem dX3_addPoint_9 : decode cX3_addPoint 9 = .ok (.bipush (-4), 2) := by decide +kernel
theorem dX3_addPoint_11 : decode cX3_addPoint 11 = .ok (.ireturn, 1) := by decide +kernel
theorem dX3_addPoint_12 : decode cX3_addPoint 12 = .ok (.aload_n 0, 1) := by decide +kernel
theorem dX3_addPoint_13 : decode cX3_addPoint 13 = .ok (.getfield 13, 3) := by decide +kernel
theorem dX3_addPoint_16 : decode cX3_addPoint 16 = .ok (.aload_n 0, 1) := by decide +kernel
theorem dX3_addPoint_17 : decode cX3_addPoint 17 = .ok (.getfield 31, 3) := by decide +kernel
theorem dX3_addPoint_20 : decode cX3_addPoint 20 = .ok (.aaload, 1) := by decide +kernel
theorem dX3_addPoint_21 : decode cX3_addPoint 21 = .ok (.iconst 4, 1) := by decide +kernel
theorem dX3_addPoint_22 : decode cX3_addPoint 22 = .ok (.iload 4, 2) := by decide +kernel
theorem dX3_addPoint_24 : decode cX3_addPoint 24 = .ok (.iastore, 1) := by decide +kernel
theorem dX3_addPoint_25 : decode cX3_addPoint 25 = .ok (.aload_n 0, 1) := by decide +kernel
theorem dX3_addPoint_26 : decode cX3_addPoint 26 = .ok (.getfield 13, 3) := by decide +kernel
theorem dX3_addPoint_29 : decode cX3_addPoint 29 = .ok (.aload_n 0, 1) := by decide +kernel
theorem dX3_addPoint_30 : decode cX3_addPoint 30 = .ok (.getfield 31, 3) := by decide +kernel
theorem dX3_addPoint_33 : decode cX3_addPoint 33 = .ok (.aaload, 1) := by decide +kernel
theorem dX3_addPoint_34 : decode cX3_addPoint 34 = .ok (.iconst 5, 1) := by decide +kernel
theorem dX3_addPoint_35 : decode cX3_addPoint 35 = .ok (.iload 5, 2) := by decide +kernel
theorem dX3_addPoint_37 : decode cX3_addPoint 37 = .ok (.iastore, 1) := by decide +kernel
theorem dX3_addPoint_38 : decode cX3_addPoint 38 = .ok (.aload_n 0, 1) := by decide +kernel
theorem dX3_addPoint_39 : decode cX3_addPoint 39 = .ok (.iconst 0, 1) := by decide +kernel
theorem dX3_addPoint_40 : decode cX3_addPoint 40 = .ok (.iload_n 1, 1) := by decide +kernel
theorem dX3_addPoint_41 : decode cX3_addPoint 41 = .ok (.iload_n 2, 1) := by decide +kernel
theorem dX3_addPoint_42 : decode cX3_addPoint 42 = .ok (.iload_n 3, 1) := by decide +kernel
theorem dX3_addPoint_43 : decode cX3_addPoint 43 = .ok (.invokevirtual 34, 3) := by decide +kernel
theorem dX3_addPoint_46 : decode cX3_addPoint 46 = .ok (.ireturn, 1) := by decide +kernel
theorem dX3_howMany_0 : decode cX3_howMany 0 = .ok (.aload_n 0, 1) := by decide +kernel
theorem dX3_howMany_1 : decode cX3_howMany 1 = .ok (.aload_n 1, 1) := by decide +kernel
theorem dX3_howMany_2 : decode cX3_howMany 2 = .ok (.invokevirtual 38, 3) := by decide +kernel
theorem dX3_howMany_5 : decode cX3_howMany 5 = .ok (.aload_n 0, 1) := by decide +kernel
theorem dX3_howMany_6 : decode cX3_howMany 6 = .ok (.aload_n 0, 1) := by decide +kernel
theorem dX3_howMany_7 : decode cX3_howMany 7 = .ok (.invokevirtual 42, 3) := by decide +kernel
theorem dX3_howMany_10 : decode cX3_howMany 10 = .ok (.iconst (-1), 1) := by decide +kernel
theorem dX3_howMany_11 : decode cX3_howMany 11 = .ok (.invokevirtual 46, 3) := by decide +kernel
theorem dX3_howMany_14 : decode cX3_howMany 14 = .ok (.aload_n 0, 1) := by decide +kernel
theorem dX3_howMany_15 : decode cX3_howMany 15 = .ok (.getfield 50, 3) := by decide +kernel
theorem dX3_howMany_18 : decode cX3_howMany 18 = .ok (.ireturn, 1) := by decide +kernel
theorem dX3_pick_0 : decode cX3_pick 0 = .ok (.aload_n 0, 1) := by decide +kernel
theorem dX3_pick_1 : decode cX3_pick 1 = .ok (.aload_n 1, 1) := by decide +kernel
theorem dX3_pick_2 : decode cX3_pick 2 = .ok (.invokevirtual 38, 3) := by decide +kernel
theorem dX3_pick_5 : decode cX3_pick 5 = .ok (.aload_n 0, 1) := by decide +kernel
theorem dX3_pick_6 : decode cX3_pick 6 = .ok (.aload_n 0, 1) := by decide +kernel
theorem dX3_pick_7 : decode cX3_pick 7 = .ok (.invokevirtual 42, 3) := by decide +kernel
theorem dX3_pick_10 : decode cX3_pick 10 = .ok (.iload_n 2, 1) := by decide +kernel
theorem dX3_pick_11 : decode cX3_pick 11 = .ok (.invokevirtual 46, 3) := by decide +kernel
theorem dX3_pick_14 : decode cX3_pick 14 = .ok (.aload_n 0, 1) := by decide +kernel
theorem dX3_pick_15 : decode cX3_pick 15 = .ok (.getfield 50, 3) := by decide +kernel
theorem dX3_pick_18 : decode cX3_pick 18 = .ok (.iload_n 2, 1) := by decide +kernel
theorem dX3_pick_19 : decode cX3_pick 19 = .ok (.if_icmp .le 19, 3) := by decide +kernel
theorem dX3_pick_22 : decode cX3_pick 22 = .ok (.iload_n 3, 1) := by decide +kernel
theorem dX3_pick_23 : decode cX3_pick 23 = .ok (.invokestatic 53, 3) := by decide +kernel
theorem dX3_pick_26 : decode cX3_pick 26 = .ok (.ifCond .eq 12, 3) := by decide +kernel
theorem dX3_pick_29 : decode cX3_pick 29 = .ok (.aload_n 0, 1) := by decide +kernel
theorem dX3_pick_30 : decode cX3_pick 30 = .ok (.getfield 23, 3) := by decide +kernel
theorem dX3_pick_33 : decode cX3_pick 33 = .ok (.iload_n 3, 1) := by decide +kernel
theorem dX3_pick_34 : decode cX3_pick 34 = .ok (.iaload, 1) := by decide +kernel
theorem dX3_pick_35 : decode cX3_pick 35 = .ok (.goto 4, 3) := by decide +kernel
theorem dX3_pick_38 : decode cX3_pick 38 = .ok (.iconst (-1), 1) := by decide +kernel
theorem dX3_pick_39 : decode cX3_pick 39 = .ok (.ireturn, 1) := by decide +kernel
theorem dX3_certain_0 : decode cX3_certain 0 = .ok (.aload_n 0, 1) := by decide +kernel
theorem dX3_certain_1 : decode cX3_certain 1 = .ok (.aload_n 1, 1) := by decide +kernel
theorem dX3_certain_2 : decode cX3_certain 2 = .ok (.invokevirtual 38, 3) := by decide +kernel
theorem dX3_certain_5 : decode cX3_certain 5 = .ok (.aload_n 0, 1) := by decide +kernel
theorem dX3_certain_6 : decode cX3_certain 6 = .ok (.aload_n 0, 1) := by decide +kernel
theorem dX3_certain_7 : decode cX3_certain 7 = .ok (.invokevirtual 42, 3) := by decide +kernel
theorem dX3_certain_10 : decode cX3_certain 10 = .ok (.iconst (-1), 1) := by decide +kernel
theorem dX3_certain_11 : decode cX3_certain 11 = .ok (.invokevirtual 46, 3) := by decide +kernel
theorem dX3_certain_14 : decode cX3_certain 14 = .ok (.aload_n 0, 1) := by decide +kernel
theorem dX3_certain_15 : decode cX3_certain 15 = .ok (.getfield 50, 3) := by decide +kernel
theorem dX3_certain_18 : decode cX3_certain 18 = .ok (.ifCond .eq 10, 3) := by decide +kernel
theorem dX3_certain_21 : decode cX3_certain 21 = .ok (.iload_n 2, 1) := by decide +kernel
theorem dX3_certain_22 : decode cX3_certain 22 = .ok (.invokestatic 53, 3) := by decide +kernel
theorem dX3_certain_25 : decode cX3_certain 25 = .ok (.ifCond .ne 6, 3) := by decide +kernel
theorem dX3_certain_28 : decode cX3_certain 28 = .ok (.bipush (-3), 2) := by decide +kernel
theorem dX3_certain_30 : decode cX3_certain 30 = .ok (.ireturn, 1) := by decide +kernel
theorem dX3_certain_31 : decode cX3_certain 31 = .ok (.aload_n 0, 1) := by decide +kernel
theorem dX3_certain_32 : decode cX3_certain 32 = .ok (.getfield 20, 3) := by decide +kernel
theorem dX3_certain_35 : decode cX3_certain 35 = .ok (.iload_n 2, 1) := by decide +kernel
theorem dX3_certain_36 : decode cX3_certain 36 = .ok (.laload, 1) := by decide +kernel
theorem dX3_certain_37 : decode cX3_certain 37 = .ok (.invokestatic 57, 3) := by decide +kernel
theorem dX3_certain_40 : decode cX3_certain 40 = .ok (.iconst 1, 1) := by decide +kernel
theorem dX3_certain_41 : decode cX3_certain 41 = .ok (.if_icmp .ne 16, 3) := by decide +kernel
theorem dX3_certain_44 : decode cX3_certain 44 = .ok (.aload_n 0, 1) := by decide +kernel
theorem dX3_certain_45 : decode cX3_certain 45 = .ok (.getfield 20, 3) := by decide +kernel
theorem dX3_certain_48 : decode cX3_certain 48 = .ok (.iload_n 2, 1) := by decide +kernel
theorem dX3_certain_49 : decode cX3_certain 49 = .ok (.laload, 1) := by decide +kernel
theorem dX3_certain_50 : decode cX3_certain 50 = .ok (.iconst 0, 1) := by decide +kernel
theorem dX3_certain_51 : decode cX3_certain 51 = .ok (.invokestatic 63, 3) := by decide +kernel
theorem dX3_certain_54 : decode cX3_certain 54 = .ok (.goto 4, 3) := by decide +kernel
theorem dX3_certain_57 : decode cX3_certain 57 = .ok (.iconst (-1), 1) := by decide +kernel
theorem dX3_certain_58 : decode cX3_certain 58 = .ok (.ireturn, 1) := by decide +kernel
theorem dX3_leastWithout_0 : decode cX3_leastWithout 0 = .ok (.aload_n 0, 1) := by decide +kernel
theorem dX3_leastWithout_1 : decode cX3_leastWithout 1 = .ok (.aload_n 1, 1) := by decide +kernel
theorem dX3_leastWithout_2 : decode cX3_leastWithout 2 = .ok (.invokevirtual 38, 3) := by decide +kernel
theorem dX3_leastWithout_5 : decode cX3_leastWithout 5 = .ok (.aload_n 0, 1) := by decide +kernel
theorem dX3_leastWithout_6 : decode cX3_leastWithout 6 = .ok (.invokevirtual 42, 3) := by decide +kernel
theorem dX3_leastWithout_9 : decode cX3_leastWithout 9 = .ok (.istore_n 2, 1) := by decide +kernel
theorem dX3_leastWithout_10 : decode cX3_leastWithout 10 = .ok (.aload_n 0, 1) := by decide +kernel
theorem dX3_leastWithout_11 : decode cX3_leastWithout 11 = .ok (.iload_n 2, 1) := by decide +kernel
theorem dX3_leastWithout_12 : decode cX3_leastWithout 12 = .ok (.invokevirtual 67, 3) := by decide +kernel
theorem dX3_leastWithout_15 : decode cX3_leastWithout 15 = .ok (.ifCond .eq 5, 3) := by decide +kernel
theorem dX3_leastWithout_18 : decode cX3_leastWithout 18 = .ok (.iconst 0, 1) := by decide +kernel
theorem dX3_leastWithout_19 : decode cX3_leastWithout 19 = .ok (.ireturn, 1) := by decide +kernel
theorem dX3_leastWithout_20 : decode cX3_leastWithout 20 = .ok (.iconst 1, 1) := by decide +kernel
theorem dX3_leastWithout_21 : decode cX3_leastWithout 21 = .ok (.istore_n 3, 1) := by decide +kernel
theorem dX3_leastWithout_22 : decode cX3_leastWithout 22 = .ok (.iload_n 3, 1) := by decide +kernel
theorem dX3_leastWithout_23 : decode cX3_leastWithout 23 = .ok (.aload_n 0, 1) := by decide +kernel
theorem dX3_leastWithout_24 : decode cX3_leastWithout 24 = .ok (.getfield 31, 3) := by decide +kernel
theorem dX3_leastWithout_27 : decode cX3_leastWithout 27 = .ok (.if_icmp .ge 45, 3) := by decide +kernel
theorem dX3_leastWithout_30 : decode cX3_leastWithout 30 = .ok (.iconst 1, 1) := by decide +kernel
theorem dX3_leastWithout_31 : decode cX3_leastWithout 31 = .ok (.istore 4, 2) := by decide +kernel
theorem dX3_leastWithout_33 : decode cX3_leastWithout 33 = .ok (.iload 4, 2) := by decide +kernel
theorem dX3_leastWithout_35 : decode cX3_leastWithout 35 = .ok (.iload_n 2, 1) := by decide +kernel
theorem dX3_leastWithout_36 : decode cX3_leastWithout 36 = .ok (.if_icmp .ge 30, 3) := by decide +kernel
theorem dX3_leastWithout_39 : decode cX3_leastWithout 39 = .ok (.iload 4, 2) := by decide +kernel
theorem dX3_leastWithout_41 : decode cX3_leastWithout 41 = .ok (.invokestatic 70, 3) := by decide +kernel
theorem dX3_leastWithout_44 : decode cX3_leastWithout 44 = .ok (.iload_n 3, 1) := by decide +kernel
theorem dX3_leastWithout_45 : decode cX3_leastWithout 45 = .ok (.if_icmp .ne 15, 3) := by decide +kernel
theorem dX3_leastWithout_48 : decode cX3_leastWithout 48 = .ok (.aload_n 0, 1) := by decide +kernel
theorem dX3_leastWithout_49 : decode cX3_leastWithout 49 = .ok (.iload 4, 2) := by decide +kernel
theorem dX3_leastWithout_51 : decode cX3_leastWithout 51 = .ok (.invokevirtual 67, 3) := by decide +kernel
theorem dX3_leastWithout_54 : decode cX3_leastWithout 54 = .ok (.ifCond .ne 6, 3) := by decide +kernel
theorem dX3_leastWithout_57 : decode cX3_leastWithout 57 = .ok (.iload 4, 2) := by decide +kernel
theorem dX3_leastWithout_59 : decode cX3_leastWithout 59 = .ok (.ireturn, 1) := by decide +kernel
theorem dX3_leastWithout_60 : decode cX3_leastWithout 60 = .ok (.iinc 4 1, 3) := by decide +kernel
theorem dX3_leastWithout_63 : decode cX3_leastWithout 63 = .ok (.goto (-30), 3) := by decide +kernel
theorem dX3_leastWithout_66 : decode cX3_leastWithout 66 = .ok (.iinc 3 1, 3) := by decide +kernel
theorem dX3_leastWithout_69 : decode cX3_leastWithout 69 = .ok (.goto (-47), 3) := by decide +kernel
theorem dX3_leastWithout_72 : decode cX3_leastWithout 72 = .ok (.iload_n 2, 1) := by decide +kernel
theorem dX3_leastWithout_73 : decode cX3_leastWithout 73 = .ok (.ireturn, 1) := by decide +kernel
theorem dX3_allClues_0 : decode cX3_allClues 0 = .ok (.iconst 1, 1) := by decide +kernel
theorem dX3_allClues_1 : decode cX3_allClues 1 = .ok (.aload_n 0, 1) := by decide +kernel
theorem dX3_allClues_2 : decode cX3_allClues 2 = .ok (.getfield 31, 3) := by decide +kernel
theorem dX3_allClues_5 : decode cX3_allClues 5 = .ok (.ishl, 1) := by decide +kernel
theorem dX3_allClues_6 : decode cX3_allClues 6 = .ok (.iconst 1, 1) := by decide +kernel
theorem dX3_allClues_7 : decode cX3_allClues 7 = .ok (.isub, 1) := by decide +kernel
theorem dX3_allClues_8 : decode cX3_allClues 8 = .ok (.ireturn, 1) := by decide +kernel
theorem dX3_hasSolution_0 : decode cX3_hasSolution 0 = .ok (.aload_n 0, 1) := by decide +kernel
theorem dX3_hasSolution_1 : decode cX3_hasSolution 1 = .ok (.iload_n 1, 1) := by decide +kernel
theorem dX3_hasSolution_2 : decode cX3_hasSolution 2 = .ok (.iconst 0, 1) := by decide +kernel
theorem dX3_hasSolution_3 : decode cX3_hasSolution 3 = .ok (.invokevirtual 46, 3) := by decide +kernel
theorem dX3_hasSolution_6 : decode cX3_hasSolution 6 = .ok (.aload_n 0, 1) := by decide +kernel
theorem dX3_hasSolution_7 : decode cX3_hasSolution 7 = .ok (.getfield 50, 3) := by decide +kernel
theorem dX3_hasSolution_10 : decode cX3_hasSolution 10 = .ok (.ifCond .le 7, 3) := by decide +kernel
theorem dX3_hasSolution_13 : decode cX3_hasSolution 13 = .ok (.iconst 1, 1) := by decide +kernel
theorem dX3_hasSolution_14 : decode cX3_hasSolution 14 = .ok (.goto 4, 3) := by decide +kernel
theorem dX3_hasSolution_17 : decode cX3_hasSolution 17 = .ok (.iconst 0, 1) := by decide +kernel
theorem dX3_hasSolution_18 : decode cX3_hasSolution 18 = .ok (.ireturn, 1) := by decide +kernel
theorem dX3_prepare_0 : decode cX3_prepare 0 = .ok (.iconst 0, 1) := by decide +kernel
theorem dX3_prepare_1 : decode cX3_prepare 1 = .ok (.istore_n 2, 1) := by decide +kernel
theorem dX3_prepare_2 : decode cX3_prepare 2 = .ok (.iload_n 2, 1) := by decide +kernel
theorem dX3_prepare_3 : decode cX3_prepare 3 = .ok (.aload_n 0, 1) := by decide +kernel
theorem dX3_prepare_4 : decode cX3_prepare 4 = .ok (.getfield 31, 3) := by decide +kernel
theorem dX3_prepare_7 : decode cX3_prepare 7 = .ok (.if_icmp .ge 64, 3) := by decide +kernel
theorem dX3_prepare_10 : decode cX3_prepare 10 = .ok (.iload_n 2, 1) := by decide +kernel
theorem dX3_prepare_11 : decode cX3_prepare 11 = .ok (.bipush 8, 2) := by decide +kernel
theorem dX3_prepare_13 : decode cX3_prepare 13 = .ok (.if_icmp .ge 58, 3) := by decide +kernel
theorem dX3_prepare_16 : decode cX3_prepare 16 = .ok (.aload_n 0, 1) := by decide +kernel
theorem dX3_prepare_17 : decode cX3_prepare 17 = .ok (.getfield 16, 3) := by decide +kernel
theorem dX3_prepare_20 : decode cX3_prepare 20 = .ok (.iload_n 2, 1) := by decide +kernel
theorem dX3_prepare_21 : decode cX3_prepare 21 = .ok (.lconst 0, 1) := by decide +kernel
theorem dX3_prepare_22 : decode cX3_prepare 22 = .ok (.lastore, 1) := by decide +kernel
theorem dX3_prepare_23 : decode cX3_prepare 23 = .ok (.iconst 1, 1) := by decide +kernel
theorem dX3_prepare_24 : decode cX3_prepare 24 = .ok (.istore_n 3, 1) := by decide +kernel
theorem dX3_prepare_25 : decode cX3_prepare 25 = .ok (.iload_n 3, 1) := by decide +kernel
theorem dX3_prepare_26 : decode cX3_prepare 26 = .ok (.aload_n 0, 1) := by decide +kernel
theorem dX3_prepare_27 : decode cX3_prepare 27 = .ok (.getfield 27, 3) := by decide +kernel
theorem dX3_prepare_30 : decode cX3_prepare 30 = .ok (.if_icmp .gt 35, 3) := by decide +kernel
theorem dX3_prepare_33 : decode cX3_prepare 33 = .ok (.aload_n 0, 1) := by decide +kernel
theorem dX3_prepare_34 : decode cX3_prepare 34 = .ok (.getfield 13, 3) := by decide +kernel
theorem dX3_prepare_37 : decode cX3_prepare 37 = .ok (.iload_n 2, 1) := by decide +kernel
theorem dX3_prepare_38 : decode cX3_prepare 38 = .ok (.aaload, 1) := by decide +kernel
theorem dX3_prepare_39 : decode cX3_prepare 39 = .ok (.aload_n 1, 1) := by decide +kernel
theorem dX3_prepare_40 : decode cX3_prepare 40 = .ok (.iload_n 3, 1) := by decide +kernel
theorem dX3_prepare_41 : decode cX3_prepare 41 = .ok (.invokestatic 75, 3) := by decide +kernel
theorem dX3_prepare_44 : decode cX3_prepare 44 = .ok (.ifCond .eq 15, 3) := by decide +kernel
theorem dX3_prepare_47 : decode cX3_prepare 47 = .ok (.aload_n 0, 1) := by decide +kernel
theorem dX3_prepare_48 : decode cX3_prepare 48 = .ok (.getfield 16, 3) := by decide +kernel
theorem dX3_prepare_51 : decode cX3_prepare 51 = .ok (.iload_n 2, 1) := by decide +kernel
theorem dX3_prepare_52 : decode cX3_prepare 52 = .ok (.dup2, 1) := by decide +kernel
theorem dX3_prepare_53 : decode cX3_prepare 53 = .ok (.laload, 1) := by decide +kernel
theorem dX3_prepare_54 : decode cX3_prepare 54 = .ok (.lconst 1, 1) := by decide +kernel
theorem dX3_prepare_55 : decode cX3_prepare 55 = .ok (.iload_n 3, 1) := by decide +kernel
theorem dX3_prepare_56 : decode cX3_prepare 56 = .ok (.lshl, 1) := by decide +kernel
theorem dX3_prepare_57 : decode cX3_prepare 57 = .ok (.lor, 1) := by decide +kernel
theorem dX3_prepare_58 : decode cX3_prepare 58 = .ok (.lastore, 1) := by decide +kernel
theorem dX3_prepare_59 : decode cX3_prepare 59 = .ok (.iinc 3 1, 3) := by decide +kernel
theorem dX3_prepare_62 : decode cX3_prepare 62 = .ok (.goto (-37), 3) := by decide +kernel
theorem dX3_prepare_65 : decode cX3_prepare 65 = .ok (.iinc 2 1, 3) := by decide +kernel
theorem dX3_prepare_68 : decode cX3_prepare 68 = .ok (.goto (-66), 3) := by decide +kernel
theorem dX3_prepare_71 : decode cX3_prepare 71 = .ok (.return_, 1) := by decide +kernel
theorem dX3_allows_0 : decode cX3_allows 0 = .ok (.aload_n 0, 1) := by decide +kernel
theorem dX3_allows_1 : decode cX3_allows 1 = .ok (.iconst 0, 1) := by decide +kernel
theorem dX3_allows_2 : decode cX3_allows 2 = .ok (.iaload, 1) := by decide +kernel
theorem dX3_allows_3 : decode cX3_allows 3 = .ok (.ifCond .ne 21, 3) := by decide +kernel
theorem dX3_allows_6 : decode cX3_allows 6 = .ok (.aload_n 1, 1) := by decide +kernel
theorem dX3_allows_7 : decode cX3_allows 7 = .ok (.aload_n 0, 1) := by decide +kernel
theorem dX3_allows_8 : decode cX3_allows 8 = .ok (.iconst 2, 1) := by decide +kernel
theorem dX3_allows_9 : decode cX3_allows 9 = .ok (.iaload, 1) := by decide +kernel
theorem dX3_allows_10 : decode cX3_allows 10 = .ok (.aload_n 0, 1) := by decide +kernel
theorem dX3_allows_11 : decode cX3_allows 11 = .ok (.iconst 3, 1) := by decide +kernel
theorem dX3_allows_12 : decode cX3_allows 12 = .ok (.iaload, 1) := by decide +kernel
theorem dX3_allows_13 : decode cX3_allows 13 = .ok (.aload_n 0, 1) := by decide +kernel
theorem dX3_allows_14 : decode cX3_allows 14 = .ok (.iconst 4, 1) := by decide +kernel
theorem dX3_allows_15 : decode cX3_allows 15 = .ok (.iaload, 1) := by decide +kernel
theorem dX3_allows_16 : decode cX3_allows 16 = .ok (.aload_n 0, 1) := by decide +kernel
theorem dX3_allows_17 : decode cX3_allows 17 = .ok (.iconst 5, 1) := by decide +kernel
theorem dX3_allows_18 : decode cX3_allows 18 = .ok (.iaload, 1) := by decide +kernel
theorem dX3_allows_19 : decode cX3_allows 19 = .ok (.iload_n 2, 1) := by decide +kernel
theorem dX3_allows_20 : decode cX3_allows 20 = .ok (.invokevirtual 79, 3) := by decide +kernel
theorem dX3_allows_23 : decode cX3_allows 23 = .ok (.ireturn, 1) := by decide +kernel
theorem dX3_allows_24 : decode cX3_allows 24 = .ok (.aload_n 0, 1) := by decide +kernel
theorem dX3_allows_25 : decode cX3_allows 25 = .ok (.iconst 0, 1) := by decide +kernel
theorem dX3_allows_26 : decode cX3_allows 26 = .ok (.iaload, 1) := by decide +kernel
theorem dX3_allows_27 : decode cX3_allows 27 = .ok (.iconst 3, 1) := by decide +kernel
theorem dX3_allows_28 : decode cX3_allows 28 = .ok (.if_icmp .ne 16, 3) := by decide +kernel
theorem dX3_allows_31 : decode cX3_allows 31 = .ok (.iload_n 2, 1) := by decide +kernel
theorem dX3_allows_32 : decode cX3_allows 32 = .ok (.aload_n 0, 1) := by decide +kernel
theorem dX3_allows_33 : decode cX3_allows 33 = .ok (.iconst 2, 1) := by decide +kernel
theorem dX3_allows_34 : decode cX3_allows 34 = .ok (.iaload, 1) := by decide +kernel
theorem dX3_allows_35 : decode cX3_allows 35 = .ok (.aload_n 0, 1) := by decide +kernel
theorem dX3_allows_36 : decode cX3_allows 36 = .ok (.iconst 3, 1) := by decide +kernel
theorem dX3_allows_37 : decode cX3_allows 37 = .ok (.iaload, 1) := by decide +kernel
theorem dX3_allows_38 : decode cX3_allows 38 = .ok (.invokestatic 85, 3) := by decide +kernel
theorem dX3_allows_41 : decode cX3_allows 41 = .ok (.ifCond .eq 7, 3) := by decide +kernel
theorem dX3_allows_44 : decode cX3_allows 44 = .ok (.iconst 1, 1) := by decide +kernel
theorem dX3_allows_45 : decode cX3_allows 45 = .ok (.goto 4, 3) := by decide +kernel
theorem dX3_allows_48 : decode cX3_allows 48 = .ok (.iconst 0, 1) := by decide +kernel
theorem dX3_allows_49 : decode cX3_allows 49 = .ok (.ireturn, 1) := by decide +kernel
theorem dX3_inSet_0 : decode cX3_inSet 0 = .ok (.iload_n 0, 1) := by decide +kernel
theorem dX3_inSet_1 : decode cX3_inSet 1 = .ok (.iload_n 1, 1) := by decide +kernel
theorem dX3_inSet_2 : decode cX3_inSet 2 = .ok (.ishr, 1) := by decide +kernel
theorem dX3_inSet_3 : decode cX3_inSet 3 = .ok (.iconst 1, 1) := by decide +kernel
theorem dX3_inSet_4 : decode cX3_inSet 4 = .ok (.iand, 1) := by decide +kernel
theorem dX3_inSet_5 : decode cX3_inSet 5 = .ok (.iconst 1, 1) := by decide +kernel
theorem dX3_inSet_6 : decode cX3_inSet 6 = .ok (.if_icmp .ne 7, 3) := by decide +kernel
theorem dX3_inSet_9 : decode cX3_inSet 9 = .ok (.iconst 1, 1) := by decide +kernel
theorem dX3_inSet_10 : decode cX3_inSet 10 = .ok (.goto 4, 3) := by decide +kernel
theorem dX3_inSet_13 : decode cX3_inSet 13 = .ok (.iconst 0, 1) := by decide +kernel
theorem dX3_inSet_14 : decode cX3_inSet 14 = .ok (.ireturn, 1) := by decide +kernel
theorem dX3_isAmong_0 : decode cX3_isAmong 0 = .ok (.lload_n 0, 1) := by decide +kernel
theorem dX3_isAmong_1 : decode cX3_isAmong 1 = .ok (.iload_n 2, 1) := by decide +kernel
theorem dX3_isAmong_2 : decode cX3_isAmong 2 = .ok (.lshr, 1) := by decide +kernel
theorem dX3_isAmong_3 : decode cX3_isAmong 3 = .ok (.lconst 1, 1) := by decide +kernel
theorem dX3_isAmong_4 : decode cX3_isAmong 4 = .ok (.land, 1) := by decide +kernel
theorem dX3_isAmong_5 : decode cX3_isAmong 5 = .ok (.lconst 1, 1) := by decide +kernel
theorem dX3_isAmong_6 : decode cX3_isAmong 6 = .ok (.lcmp, 1) := by decide +kernel
theorem dX3_isAmong_7 : decode cX3_isAmong 7 = .ok (.ifCond .ne 7, 3) := by decide +kernel
theorem dX3_isAmong_10 : decode cX3_isAmong 10 = .ok (.iconst 1, 1) := by decide +kernel
theorem dX3_isAmong_11 : decode cX3_isAmong 11 = .ok (.goto 4, 3) := by decide +kernel
theorem dX3_isAmong_14 : decode cX3_isAmong 14 = .ok (.iconst 0, 1) := by decide +kernel
theorem dX3_isAmong_15 : decode cX3_isAmong 15 = .ok (.ireturn, 1) := by decide +kernel
theorem dX3_alone_0 : decode cX3_alone 0 = .ok (.lconst 1, 1) := by decide +kernel
theorem dX3_alone_1 : decode cX3_alone 1 = .ok (.aload_n 0, 1) := by decide +kernel
theorem dX3_alone_2 : decode cX3_alone 2 = .ok (.getfield 27, 3) := by decide +kernel
theorem dX3_alone_5 : decode cX3_alone 5 = .ok (.iconst 1, 1) := by decide +kernel
theorem dX3_alone_6 : decode cX3_alone 6 = .ok (.iadd, 1) := by decide +kernel
theorem dX3_alone_7 : decode cX3_alone 7 = .ok (.lshl, 1) := by decide +kernel
theorem dX3_alone_8 : decode cX3_alone 8 = .ok (.ldc2_w 89, 3) := by decide +kernel
theorem dX3_alone_11 : decode cX3_alone 11 = .ok (.lsub, 1) := by decide +kernel
theorem dX3_alone_12 : decode cX3_alone 12 = .ok (.lstore_n 3, 1) := by decide +kernel
theorem dX3_alone_13 : decode cX3_alone 13 = .ok (.iconst 0, 1) := by decide +kernel
theorem dX3_alone_14 : decode cX3_alone 14 = .ok (.istore 5, 2) := by decide +kernel
theorem dX3_alone_16 : decode cX3_alone 16 = .ok (.iload 5, 2) := by decide +kernel
theorem dX3_alone_18 : decode cX3_alone 18 = .ok (.aload_n 0, 1) := by decide +kernel
theorem dX3_alone_19 : decode cX3_alone 19 = .ok (.getfield 31, 3) := by decide +kernel
theorem dX3_alone_22 : decode cX3_alone 22 = .ok (.if_icmp .ge 85, 3) := by decide +kernel
theorem dX3_alone_25 : decode cX3_alone 25 = .ok (.iload 5, 2) := by decide +kernel
theorem dX3_alone_27 : decode cX3_alone 27 = .ok (.bipush 8, 2) := by decide +kernel
theorem dX3_alone_29 : decode cX3_alone 29 = .ok (.if_icmp .ge 78, 3) := by decide +kernel
theorem dX3_alone_32 : decode cX3_alone 32 = .ok (.aload_n 0, 1) := by decide +kernel
theorem dX3_alone_33 : decode cX3_alone 33 = .ok (.getfield 13, 3) := by decide +kernel
theorem dX3_alone_36 : decode cX3_alone 36 = .ok (.iload 5, 2) := by decide +kernel
theorem dX3_alone_38 : decode cX3_alone 38 = .ok (.aaload, 1) := by decide +kernel
theorem dX3_alone_39 : decode cX3_alone 39 = .ok (.iconst 0, 1) := by decide +kernel
theorem dX3_alone_40 : decode cX3_alone 40 = .ok (.iaload, 1) := by decide +kernel
theorem dX3_alone_41 : decode cX3_alone 41 = .ok (.ifCond .eq 16, 3) := by decide +kernel
theorem dX3_alone_44 : decode cX3_alone 44 = .ok (.aload_n 0, 1) := by decide +kernel
theorem dX3_alone_45 : decode cX3_alone 45 = .ok (.getfield 13, 3) := by decide +kernel
theorem dX3_alone_48 : decode cX3_alone 48 = .ok (.iload 5, 2) := by decide +kernel
theorem dX3_alone_50 : decode cX3_alone 50 = .ok (.aaload, 1) := by decide +kernel
theorem dX3_alone_51 : decode cX3_alone 51 = .ok (.iconst 0, 1) := by decide +kernel
theorem dX3_alone_52 : decode cX3_alone 52 = .ok (.iaload, 1) := by decide +kernel
theorem dX3_alone_53 : decode cX3_alone 53 = .ok (.iconst 3, 1) := by decide +kernel
theorem dX3_alone_54 : decode cX3_alone 54 = .ok (.if_icmp .ne 7, 3) := by decide +kernel
theorem dX3_alone_57 : decode cX3_alone 57 = .ok (.iconst 1, 1) := by decide +kernel
theorem dX3_alone_58 : decode cX3_alone 58 = .ok (.goto 4, 3) := by decide +kernel
theorem dX3_alone_61 : decode cX3_alone 61 = .ok (.iconst 0, 1) := by decide +kernel
theorem dX3_alone_62 : decode cX3_alone 62 = .ok (.istore 6, 2) := by decide +kernel
theorem dX3_alone_64 : decode cX3_alone 64 = .ok (.iload_n 2, 1) := by decide +kernel
theorem dX3_alone_65 : decode cX3_alone 65 = .ok (.iload 5, 2) := by decide +kernel
theorem dX3_alone_67 : decode cX3_alone 67 = .ok (.invokestatic 91, 3) := by decide +kernel
theorem dX3_alone_70 : decode cX3_alone 70 = .ok (.ifCond .eq 31, 3) := by decide +kernel
theorem dX3_alone_73 : decode cX3_alone 73 = .ok (.iload 6, 2) := by decide +kernel
theorem dX3_alone_75 : decode cX3_alone 75 = .ok (.ifCond .eq 26, 3) := by decide +kernel
theorem dX3_alone_78 : decode cX3_alone 78 = .ok (.aload_n 0, 1) := by decide +kernel
theorem dX3_alone_79 : decode cX3_alone 79 = .ok (.getfield 13, 3) := by decide +kernel
theorem dX3_alone_82 : decode cX3_alone 82 = .ok (.iload 5, 2) := by decide +kernel
theorem dX3_alone_84 : decode cX3_alone 84 = .ok (.aaload, 1) := by decide +kernel
theorem dX3_alone_85 : decode cX3_alone 85 = .ok (.iconst 1, 1) := by decide +kernel
theorem dX3_alone_86 : decode cX3_alone 86 = .ok (.iaload, 1) := by decide +kernel
theorem dX3_alone_87 : decode cX3_alone 87 = .ok (.iload_n 1, 1) := by decide +kernel
theorem dX3_alone_88 : decode cX3_alone 88 = .ok (.if_icmp .ne 13, 3) := by decide +kernel
theorem dX3_alone_91 : decode cX3_alone 91 = .ok (.lload_n 3, 1) := by decide +kernel
theorem dX3_alone_92 : decode cX3_alone 92 = .ok (.aload_n 0, 1) := by decide +kernel
theorem dX3_alone_93 : decode cX3_alone 93 = .ok (.getfield 16, 3) := by decide +kernel
theorem dX3_alone_96 : decode cX3_alone 96 = .ok (.iload 5, 2) := by decide +kernel
theorem dX3_alone_98 : decode cX3_alone 98 = .ok (.laload, 1) := by decide +kernel
theorem dX3_alone_99 : decode cX3_alone 99 = .ok (.land, 1) := by decide +kernel
theorem dX3_alone_100 : decode cX3_alone 100 = .ok (.lstore_n 3, 1) := by decide +kernel
theorem dX3_alone_101 : decode cX3_alone 101 = .ok (.iinc 5 1, 3) := by decide +kernel
theorem dX3_alone_104 : decode cX3_alone 104 = .ok (.goto (-88), 3) := by decide +kernel
theorem dX3_alone_107 : decode cX3_alone 107 = .ok (.lload_n 3, 1) := by decide +kernel
theorem dX3_alone_108 : decode cX3_alone 108 = .ok (.lreturn, 1) := by decide +kernel
theorem dX3_search_0 : decode cX3_search 0 = .ok (.aload_n 0, 1) := by decide +kernel
theorem dX3_search_1 : decode cX3_search 1 = .ok (.iconst 0, 1) := by decide +kernel
theorem dX3_search_2 : decode cX3_search 2 = .ok (.iload_n 1, 1) := by decide +kernel
theorem dX3_search_3 : decode cX3_search 3 = .ok (.invokevirtual 95, 3) := by decide +kernel
theorem dX3_search_6 : decode cX3_search 6 = .ok (.lstore_n 3, 1) := by decide +kernel
theorem dX3_search_7 : decode cX3_search 7 = .ok (.aload_n 0, 1) := by decide +kernel
theorem dX3_search_8 : decode cX3_search 8 = .ok (.iconst 1, 1) := by decide +kernel
theorem dX3_search_9 : decode cX3_search 9 = .ok (.iload_n 1, 1) := by decide +kernel
theorem dX3_search_10 : decode cX3_search 10 = .ok (.invokevirtual 95, 3) := by decide +kernel
theorem dX3_search_13 : decode cX3_search 13 = .ok (.lstore 5, 2) := by decide +kernel
theorem dX3_search_15 : decode cX3_search 15 = .ok (.aload_n 0, 1) := by decide +kernel
theorem dX3_search_16 : decode cX3_search 16 = .ok (.iconst 2, 1) := by decide +kernel
theorem dX3_search_17 : decode cX3_search 17 = .ok (.iload_n 1, 1) := by decide +kernel
theorem dX3_search_18 : decode cX3_search 18 = .ok (.invokevirtual 95, 3) := by decide +kernel
theorem dX3_search_21 : decode cX3_search 21 = .ok (.lstore 7, 2) := by decide +kernel
theorem dX3_search_23 : decode cX3_search 23 = .ok (.aload_n 0, 1) := by decide +kernel
theorem dX3_search_24 : decode cX3_search 24 = .ok (.iconst 0, 1) := by decide +kernel
theorem dX3_search_25 : decode cX3_search 25 = .ok (.putfield 50, 3) := by decide +kernel
theorem dX3_search_28 : decode cX3_search 28 = .ok (.aload_n 0, 1) := by decide +kernel
theorem dX3_search_29 : decode cX3_search 29 = .ok (.getfield 20, 3) := by decide +kernel
theorem dX3_search_32 : decode cX3_search 32 = .ok (.lconst 0, 1) := by decide +kernel
theorem dX3_search_33 : decode cX3_search 33 = .ok (.invokestatic 99, 3) := by decide +kernel
theorem dX3_search_36 : decode cX3_search 36 = .ok (.iconst 1, 1) := by decide +kernel
theorem dX3_search_37 : decode cX3_search 37 = .ok (.istore 9, 2) := by decide +kernel
theorem dX3_search_39 : decode cX3_search 39 = .ok (.iload 9, 2) := by decide +kernel
theorem dX3_search_41 : decode cX3_search 41 = .ok (.aload_n 0, 1) := by decide +kernel
theorem dX3_search_42 : decode cX3_search 42 = .ok (.getfield 27, 3) := by decide +kernel
theorem dX3_search_45 : decode cX3_search 45 = .ok (.if_icmp .gt 78, 3) := by decide +kernel
theorem dX3_search_48 : decode cX3_search 48 = .ok (.iconst 1, 1) := by decide +kernel
theorem dX3_search_49 : decode cX3_search 49 = .ok (.istore 10, 2) := by decide +kernel
theorem dX3_search_51 : decode cX3_search 51 = .ok (.iload 10, 2) := by decide +kernel
theorem dX3_search_53 : decode cX3_search 53 = .ok (.aload_n 0, 1) := by decide +kernel
theorem dX3_search_54 : decode cX3_search 54 = .ok (.getfield 27, 3) := by decide +kernel
theorem dX3_search_57 : decode cX3_search 57 = .ok (.if_icmp .gt 60, 3) := by decide +kernel
theorem dX3_search_60 : decode cX3_search 60 = .ok (.lload_n 3, 1) := by decide +kernel
theorem dX3_search_61 : decode cX3_search 61 = .ok (.iload 9, 2) := by decide +kernel
theorem dX3_search_63 : decode cX3_search 63 = .ok (.invokestatic 105, 3) := by decide +kernel
theorem dX3_search_66 : decode cX3_search 66 = .ok (.ifCond .eq 51, 3) := by decide +kernel
theorem dX3_search_69 : decode cX3_search 69 = .ok (.lload 5, 2) := by decide +kernel
theorem dX3_search_71 : decode cX3_search 71 = .ok (.iload 10, 2) := by decide +kernel
theorem dX3_search_73 : decode cX3_search 73 = .ok (.invokestatic 105, 3) := by decide +kernel
theorem dX3_search_76 : decode cX3_search 76 = .ok (.ifCond .eq 35, 3) := by decide +kernel
theorem dX3_search_79 : decode cX3_search 79 = .ok (.aload_n 0, 1) := by decide +kernel
theorem dX3_search_80 : decode cX3_search 80 = .ok (.getfield 23, 3) := by decide +kernel
theorem dX3_search_83 : decode cX3_search 83 = .ok (.iconst 0, 1) := by decide +kernel
theorem dX3_search_84 : decode cX3_search 84 = .ok (.iload 9, 2) := by decide +kernel
theorem dX3_search_86 : decode cX3_search 86 = .ok (.iastore, 1) := by decide +kernel
theorem dX3_search_87 : decode cX3_search 87 = .ok (.aload_n 0, 1) := by decide +kernel
theorem dX3_search_88 : decode cX3_search 88 = .ok (.getfield 23, 3) := by decide +kernel
theorem dX3_search_91 : decode cX3_search 91 = .ok (.iconst 1, 1) := by decide +kernel
theorem dX3_search_92 : decode cX3_search 92 = .ok (.iload 10, 2) := by decide +kernel
theorem dX3_search_94 : decode cX3_search 94 = .ok (.iastore, 1) := by decide +kernel
theorem dX3_search_95 : decode cX3_search 95 = .ok (.aload_n 0, 1) := by decide +kernel
theorem dX3_search_96 : decode cX3_search 96 = .ok (.aload_n 0, 1) := by decide +kernel
theorem dX3_search_97 : decode cX3_search 97 = .ok (.lload 7, 2) := by decide +kernel
theorem dX3_search_99 : decode cX3_search 99 = .ok (.iload_n 1, 1) := by decide +kernel
theorem dX3_search_100 : decode cX3_search 100 = .ok (.invokevirtual 109, 3) := by decide +kernel
theorem dX3_search_103 : decode cX3_search 103 = .ok (.iload_n 2, 1) := by decide +kernel
theorem dX3_search_104 : decode cX3_search 104 = .ok (.invokevirtual 113, 3) := by decide +kernel
theorem dX3_search_107 : decode cX3_search 107 = .ok (.ifCond .eq 4, 3) := by decide +kernel
theorem dX3_search_110 : decode cX3_search 110 = .ok (.return_, 1) := by decide +kernel
theorem dX3_search_111 : decode cX3_search 111 = .ok (.iinc 10 1, 3) := by decide +kernel
theorem dX3_search_114 : decode cX3_search 114 = .ok (.goto (-63), 3) := by decide +kernel
theorem dX3_search_117 : decode cX3_search 117 = .ok (.iinc 9 1, 3) := by decide +kernel
theorem dX3_search_120 : decode cX3_search 120 = .ok (.goto (-81), 3) := by decide +kernel
theorem dX3_search_123 : decode cX3_search 123 = .ok (.return_, 1) := by decide +kernel
theorem dX3_meet_0 : decode cX3_meet 0 = .ok (.lload_n 1, 1) := by decide +kernel
theorem dX3_meet_1 : decode cX3_meet 1 = .ok (.lconst 0, 1) := by decide +kernel
theorem dX3_meet_2 : decode cX3_meet 2 = .ok (.lcmp, 1) := by decide +kernel
theorem dX3_meet_3 : decode cX3_meet 3 = .ok (.ifCond .ne 5, 3) := by decide +kernel
theorem dX3_meet_6 : decode cX3_meet 6 = .ok (.iconst 0, 1) := by decide +kernel
theorem dX3_meet_7 : decode cX3_meet 7 = .ok (.ireturn, 1) := by decide +kernel
theorem dX3_meet_8 : decode cX3_meet 8 = .ok (.aload_n 0, 1) := by decide +kernel
theorem dX3_meet_9 : decode cX3_meet 9 = .ok (.getfield 50, 3) := by decide +kernel
theorem dX3_meet_12 : decode cX3_meet 12 = .ok (.istore 4, 2) := by decide +kernel
theorem dX3_meet_14 : decode cX3_meet 14 = .ok (.aload_n 0, 1) := by decide +kernel
theorem dX3_meet_15 : decode cX3_meet 15 = .ok (.dup, 1) := by decide +kernel
theorem dX3_meet_16 : decode cX3_meet 16 = .ok (.getfield 50, 3) := by decide +kernel
theorem dX3_meet_19 : decode cX3_meet 19 = .ok (.lload_n 1, 1) := by decide +kernel
theorem dX3_meet_20 : decode cX3_meet 20 = .ok (.invokestatic 57, 3) := by decide +kernel
theorem dX3_meet_23 : decode cX3_meet 23 = .ok (.iadd, 1) := by decide +kernel
theorem dX3_meet_24 : decode cX3_meet 24 = .ok (.putfield 50, 3) := by decide +kernel
theorem dX3_meet_27 : decode cX3_meet 27 = .ok (.aload_n 0, 1) := by decide +kernel
theorem dX3_meet_28 : decode cX3_meet 28 = .ok (.getfield 20, 3) := by decide +kernel
theorem dX3_meet_31 : decode cX3_meet 31 = .ok (.iconst 0, 1) := by decide +kernel
theorem dX3_meet_32 : decode cX3_meet 32 = .ok (.dup2, 1) := by decide +kernel
theorem dX3_meet_33 : decode cX3_meet 33 = .ok (.laload, 1) := by decide +kernel
theorem dX3_meet_34 : decode cX3_meet 34 = .ok (.lconst 1, 1) := by decide +kernel
theorem dX3_meet_35 : decode cX3_meet 35 = .ok (.aload_n 0, 1) := by decide +kernel
theorem dX3_meet_36 : decode cX3_meet 36 = .ok (.getfield 23, 3) := by decide +kernel
theorem dX3_meet_39 : decode cX3_meet 39 = .ok (.iconst 0, 1) := by decide +kernel
theorem dX3_meet_40 : decode cX3_meet 40 = .ok (.iaload, 1) := by decide +kernel
theorem dX3_meet_41 : decode cX3_meet 41 = .ok (.lshl, 1) := by decide +kernel
theorem dX3_meet_42 : decode cX3_meet 42 = .ok (.lor, 1) := by decide +kernel
theorem dX3_meet_43 : decode cX3_meet 43 = .ok (.lastore, 1) := by decide +kernel
theorem dX3_meet_44 : decode cX3_meet 44 = .ok (.aload_n 0, 1) := by decide +kernel
theorem dX3_meet_45 : decode cX3_meet 45 = .ok (.getfield 20, 3) := by decide +kernel
theorem dX3_meet_48 : decode cX3_meet 48 = .ok (.iconst 1, 1) := by decide +kernel
theorem dX3_meet_49 : decode cX3_meet 49 = .ok (.dup2, 1) := by decide +kernel
theorem dX3_meet_50 : decode cX3_meet 50 = .ok (.laload, 1) := by decide +kernel
theorem dX3_meet_51 : decode cX3_meet 51 = .ok (.lconst 1, 1) := by decide +kernel
theorem dX3_meet_52 : decode cX3_meet 52 = .ok (.aload_n 0, 1) := by decide +kernel
theorem dX3_meet_53 : decode cX3_meet 53 = .ok (.getfield 23, 3) := by decide +kernel
theorem dX3_meet_56 : decode cX3_meet 56 = .ok (.iconst 1, 1) := by decide +kernel
theorem dX3_meet_57 : decode cX3_meet 57 = .ok (.iaload, 1) := by decide +kernel
theorem dX3_meet_58 : decode cX3_meet 58 = .ok (.lshl, 1) := by decide +kernel
theorem dX3_meet_59 : decode cX3_meet 59 = .ok (.lor, 1) := by decide +kernel
theorem dX3_meet_60 : decode cX3_meet 60 = .ok (.lastore, 1) := by decide +kernel
theorem dX3_meet_61 : decode cX3_meet 61 = .ok (.aload_n 0, 1) := by decide +kernel
theorem dX3_meet_62 : decode cX3_meet 62 = .ok (.getfield 20, 3) := by decide +kernel
theorem dX3_meet_65 : decode cX3_meet 65 = .ok (.iconst 2, 1) := by decide +kernel
theorem dX3_meet_66 : decode cX3_meet 66 = .ok (.dup2, 1) := by decide +kernel
theorem dX3_meet_67 : decode cX3_meet 67 = .ok (.laload, 1) := by decide +kernel
theorem dX3_meet_68 : decode cX3_meet 68 = .ok (.lload_n 1, 1) := by decide +kernel
theorem dX3_meet_69 : decode cX3_meet 69 = .ok (.lor, 1) := by decide +kernel
theorem dX3_meet_70 : decode cX3_meet 70 = .ok (.lastore, 1) := by decide +kernel
theorem dX3_meet_71 : decode cX3_meet 71 = .ok (.iload_n 3, 1) := by decide +kernel
theorem dX3_meet_72 : decode cX3_meet 72 = .ok (.ifCond .lt 11, 3) := by decide +kernel
theorem dX3_meet_75 : decode cX3_meet 75 = .ok (.aload_n 0, 1) := by decide +kernel
theorem dX3_meet_76 : decode cX3_meet 76 = .ok (.getfield 50, 3) := by decide +kernel
theorem dX3_meet_79 : decode cX3_meet 79 = .ok (.iload_n 3, 1) := by decide +kernel
theorem dX3_meet_80 : decode cX3_meet 80 = .ok (.if_icmp .gt 5, 3) := by decide +kernel
theorem dX3_meet_83 : decode cX3_meet 83 = .ok (.iconst 0, 1) := by decide +kernel
theorem dX3_meet_84 : decode cX3_meet 84 = .ok (.ireturn, 1) := by decide +kernel
theorem dX3_meet_85 : decode cX3_meet 85 = .ok (.aload_n 0, 1) := by decide +kernel
theorem dX3_meet_86 : decode cX3_meet 86 = .ok (.getfield 23, 3) := by decide +kernel
theorem dX3_meet_89 : decode cX3_meet 89 = .ok (.iconst 2, 1) := by decide +kernel
theorem dX3_meet_90 : decode cX3_meet 90 = .ok (.lload_n 1, 1) := by decide +kernel
theorem dX3_meet_91 : decode cX3_meet 91 = .ok (.iload_n 3, 1) := by decide +kernel
theorem dX3_meet_92 : decode cX3_meet 92 = .ok (.iload 4, 2) := by decide +kernel
theorem dX3_meet_94 : decode cX3_meet 94 = .ok (.isub, 1) := by decide +kernel
theorem dX3_meet_95 : decode cX3_meet 95 = .ok (.invokestatic 63, 3) := by decide +kernel
theorem dX3_meet_98 : decode cX3_meet 98 = .ok (.iastore, 1) := by decide +kernel
theorem dX3_meet_99 : decode cX3_meet 99 = .ok (.iconst 1, 1) := by decide +kernel
theorem dX3_meet_100 : decode cX3_meet 100 = .ok (.ireturn, 1) := by decide +kernel
theorem dX3_nth_0 : decode cX3_nth 0 = .ok (.iconst 0, 1) := by decide +kernel
theorem dX3_nth_1 : decode cX3_nth 1 = .ok (.istore_n 3, 1) := by decide +kernel
theorem dX3_nth_2 : decode cX3_nth 2 = .ok (.iconst 1, 1) := by decide +kernel
theorem dX3_nth_3 : decode cX3_nth 3 = .ok (.istore 4, 2) := by decide +kernel
theorem dX3_nth_5 : decode cX3_nth 5 = .ok (.iload 4, 2) := by decide +kernel
theorem dX3_nth_7 : decode cX3_nth 7 = .ok (.bipush 40, 2) := by decide +kernel
theorem dX3_nth_9 : decode cX3_nth 9 = .ok (.if_icmp .gt 29, 3) := by decide +kernel
theorem dX3_nth_12 : decode cX3_nth 12 = .ok (.lload_n 0, 1) := by decide +kernel
theorem dX3_nth_13 : decode cX3_nth 13 = .ok (.iload 4, 2) := by decide +kernel
theorem dX3_nth_15 : decode cX3_nth 15 = .ok (.invokestatic 105, 3) := by decide +kernel
theorem dX3_nth_18 : decode cX3_nth 18 = .ok (.ifCond .eq 14, 3) := by decide +kernel
theorem dX3_nth_21 : decode cX3_nth 21 = .ok (.iload_n 3, 1) := by decide +kernel
theorem dX3_nth_22 : decode cX3_nth 22 = .ok (.iload_n 2, 1) := by decide +kernel
theorem dX3_nth_23 : decode cX3_nth 23 = .ok (.if_icmp .ne 6, 3) := by decide +kernel
theorem dX3_nth_26 : decode cX3_nth 26 = .ok (.iload 4, 2) := by decide +kernel
theorem dX3_nth_28 : decode cX3_nth 28 = .ok (.ireturn, 1) := by decide +kernel
theorem dX3_nth_29 : decode cX3_nth 29 = .ok (.iinc 3 1, 3) := by decide +kernel
theorem dX3_nth_32 : decode cX3_nth 32 = .ok (.iinc 4 1, 3) := by decide +kernel
theorem dX3_nth_35 : decode cX3_nth 35 = .ok (.goto (-30), 3) := by decide +kernel
theorem dX3_nth_38 : decode cX3_nth 38 = .ok (.iconst (-1), 1) := by decide +kernel
theorem dX3_nth_39 : decode cX3_nth 39 = .ok (.ireturn, 1) := by decide +kernel
theorem dX3_narrow_0 : decode cX3_narrow 0 = .ok (.lload_n 1, 1) := by decide +kernel
theorem dX3_narrow_1 : decode cX3_narrow 1 = .ok (.lstore 4, 2) := by decide +kernel
theorem dX3_narrow_3 : decode cX3_narrow 3 = .ok (.iconst 0, 1) := by decide +kernel
theorem dX3_narrow_4 : decode cX3_narrow 4 = .ok (.istore 6, 2) := by decide +kernel
theorem dX3_narrow_6 : decode cX3_narrow 6 = .ok (.iload 6, 2) := by decide +kernel
theorem dX3_narrow_8 : decode cX3_narrow 8 = .ok (.aload_n 0, 1) := by decide +kernel
theorem dX3_narrow_9 : decode cX3_narrow 9 = .ok (.getfield 31, 3) := by decide +kernel
theorem dX3_narrow_12 : decode cX3_narrow 12 = .ok (.if_icmp .ge 124, 3) := by decide +kernel
theorem dX3_narrow_15 : decode cX3_narrow 15 = .ok (.iload 6, 2) := by decide +kernel
theorem dX3_narrow_17 : decode cX3_narrow 17 = .ok (.bipush 8, 2) := by decide +kernel
theorem dX3_narrow_19 : decode cX3_narrow 19 = .ok (.if_icmp .ge 117, 3) := by decide +kernel
theorem dX3_narrow_22 : decode cX3_narrow 22 = .ok (.lload 4, 2) := by decide +kernel
theorem dX3_narrow_24 : decode cX3_narrow 24 = .ok (.lconst 0, 1) := by decide +kernel
theorem dX3_narrow_25 : decode cX3_narrow 25 = .ok (.lcmp, 1) := by decide +kernel
theorem dX3_narrow_26 : decode cX3_narrow 26 = .ok (.ifCond .eq 110, 3) := by decide +kernel
theorem dX3_narrow_29 : decode cX3_narrow 29 = .ok (.iload_n 3, 1) := by decide +kernel
theorem dX3_narrow_30 : decode cX3_narrow 30 = .ok (.iload 6, 2) := by decide +kernel
theorem dX3_narrow_32 : decode cX3_narrow 32 = .ok (.invokestatic 91, 3) := by decide +kernel
theorem dX3_narrow_35 : decode cX3_narrow 35 = .ok (.ifCond .eq 95, 3) := by decide +kernel
theorem dX3_narrow_38 : decode cX3_narrow 38 = .ok (.aload_n 0, 1) := by decide +kernel
theorem dX3_narrow_39 : decode cX3_narrow 39 = .ok (.getfield 13, 3) := by decide +kernel
theorem dX3_narrow_42 : decode cX3_narrow 42 = .ok (.iload 6, 2) := by decide +kernel
theorem dX3_narrow_44 : decode cX3_narrow 44 = .ok (.aaload, 1) := by decide +kernel
theorem dX3_narrow_45 : decode cX3_narrow 45 = .ok (.iconst 0, 1) := by decide +kernel
theorem dX3_narrow_46 : decode cX3_narrow 46 = .ok (.iaload, 1) := by decide +kernel
theorem dX3_narrow_47 : decode cX3_narrow 47 = .ok (.iconst 1, 1) := by decide +kernel
theorem dX3_narrow_48 : decode cX3_narrow 48 = .ok (.if_icmp .ne 42, 3) := by decide +kernel
theorem dX3_narrow_51 : decode cX3_narrow 51 = .ok (.lload 4, 2) := by decide +kernel
theorem dX3_narrow_53 : decode cX3_narrow 53 = .ok (.aload_n 0, 1) := by decide +kernel
theorem dX3_narrow_54 : decode cX3_narrow 54 = .ok (.aload_n 0, 1) := by decide +kernel
theorem dX3_narrow_55 : decode cX3_narrow 55 = .ok (.getfield 13, 3) := by decide +kernel
theorem dX3_narrow_58 : decode cX3_narrow 58 = .ok (.iload 6, 2) := by decide +kernel
theorem dX3_narrow_60 : decode cX3_narrow 60 = .ok (.aaload, 1) := by decide +kernel
theorem dX3_narrow_61 : decode cX3_narrow 61 = .ok (.iconst 1, 1) := by decide +kernel
theorem dX3_narrow_62 : decode cX3_narrow 62 = .ok (.iaload, 1) := by decide +kernel
theorem dX3_narrow_63 : decode cX3_narrow 63 = .ok (.aload_n 0, 1) := by decide +kernel
theorem dX3_narrow_64 : decode cX3_narrow 64 = .ok (.getfield 13, 3) := by decide +kernel
theorem dX3_narrow_67 : decode cX3_narrow 67 = .ok (.iload 6, 2) := by decide +kernel
theorem dX3_narrow_69 : decode cX3_narrow 69 = .ok (.aaload, 1) := by decide +kernel
theorem dX3_narrow_70 : decode cX3_narrow 70 = .ok (.iconst 2, 1) := by decide +kernel
theorem dX3_narrow_71 : decode cX3_narrow 71 = .ok (.iaload, 1) := by decide +kernel
theorem dX3_narrow_72 : decode cX3_narrow 72 = .ok (.aload_n 0, 1) := by decide +kernel
theorem dX3_narrow_73 : decode cX3_narrow 73 = .ok (.getfield 13, 3) := by decide +kernel
theorem dX3_narrow_76 : decode cX3_narrow 76 = .ok (.iload 6, 2) := by decide +kernel
theorem dX3_narrow_78 : decode cX3_narrow 78 = .ok (.aaload, 1) := by decide +kernel
theorem dX3_narrow_79 : decode cX3_narrow 79 = .ok (.iconst 3, 1) := by decide +kernel
theorem dX3_narrow_80 : decode cX3_narrow 80 = .ok (.iaload, 1) := by decide +kernel
theorem dX3_narrow_81 : decode cX3_narrow 81 = .ok (.invokevirtual 116, 3) := by decide +kernel
theorem dX3_narrow_84 : decode cX3_narrow 84 = .ok (.land, 1) := by decide +kernel
theorem dX3_narrow_85 : decode cX3_narrow 85 = .ok (.lstore 4, 2) := by decide +kernel
theorem dX3_narrow_87 : decode cX3_narrow 87 = .ok (.goto 43, 3) := by decide +kernel
theorem dX3_narrow_90 : decode cX3_narrow 90 = .ok (.aload_n 0, 1) := by decide +kernel
theorem dX3_narrow_91 : decode cX3_narrow 91 = .ok (.getfield 13, 3) := by decide +kernel
theorem dX3_narrow_94 : decode cX3_narrow 94 = .ok (.iload 6, 2) := by decide +kernel
theorem dX3_narrow_96 : decode cX3_narrow 96 = .ok (.aaload, 1) := by decide +kernel
theorem dX3_narrow_97 : decode cX3_narrow 97 = .ok (.iconst 0, 1) := by decide +kernel
theorem dX3_narrow_98 : decode cX3_narrow 98 = .ok (.iaload, 1) := by decide +kernel
theorem dX3_narrow_99 : decode cX3_narrow 99 = .ok (.iconst 2, 1) := by decide +kernel
theorem dX3_narrow_100 : decode cX3_narrow 100 = .ok (.if_icmp .ne 30, 3) := by decide +kernel
theorem dX3_narrow_103 : decode cX3_narrow 103 = .ok (.lload 4, 2) := by decide +kernel
theorem dX3_narrow_105 : decode cX3_narrow 105 = .ok (.aload_n 0, 1) := by decide +kernel
theorem dX3_narrow_106 : decode cX3_narrow 106 = .ok (.aload_n 0, 1) := by decide +kernel
theorem dX3_narrow_107 : decode cX3_narrow 107 = .ok (.getfield 13, 3) := by decide +kernel
theorem dX3_narrow_110 : decode cX3_narrow 110 = .ok (.iload 6, 2) := by decide +kernel
theorem dX3_narrow_112 : decode cX3_narrow 112 = .ok (.aaload, 1) := by decide +kernel
theorem dX3_narrow_113 : decode cX3_narrow 113 = .ok (.iconst 1, 1) := by decide +kernel
theorem dX3_narrow_114 : decode cX3_narrow 114 = .ok (.iaload, 1) := by decide +kernel
theorem dX3_narrow_115 : decode cX3_narrow 115 = .ok (.aload_n 0, 1) := by decide +kernel
theorem dX3_narrow_116 : decode cX3_narrow 116 = .ok (.getfield 13, 3) := by decide +kernel
theorem dX3_narrow_119 : decode cX3_narrow 119 = .ok (.iload 6, 2) := by decide +kernel
theorem dX3_narrow_121 : decode cX3_narrow 121 = .ok (.aaload, 1) := by decide +kernel
theorem dX3_narrow_122 : decode cX3_narrow 122 = .ok (.iconst 2, 1) := by decide +kernel
theorem dX3_narrow_123 : decode cX3_narrow 123 = .ok (.iaload, 1) := by decide +kernel
theorem dX3_narrow_124 : decode cX3_narrow 124 = .ok (.invokevirtual 120, 3) := by decide +kernel
theorem dX3_narrow_127 : decode cX3_narrow 127 = .ok (.land, 1) := by decide +kernel
theorem dX3_narrow_128 : decode cX3_narrow 128 = .ok (.lstore 4, 2) := by decide +kernel
theorem dX3_narrow_130 : decode cX3_narrow 130 = .ok (.iinc 6 1, 3) := by decide +kernel
theorem dX3_narrow_133 : decode cX3_narrow 133 = .ok (.goto (-127), 3) := by decide +kernel
theorem dX3_narrow_136 : decode cX3_narrow 136 = .ok (.lload 4, 2) := by decide +kernel
theorem dX3_narrow_138 : decode cX3_narrow 138 = .ok (.lreturn, 1) := by decide +kernel
theorem dX3_known_0 : decode cX3_known 0 = .ok (.iload_n 1, 1) := by decide +kernel
theorem dX3_known_1 : decode cX3_known 1 = .ok (.ifCond .lt 17, 3) := by decide +kernel
theorem dX3_known_4 : decode cX3_known 4 = .ok (.iload_n 1, 1) := by decide +kernel
theorem dX3_known_5 : decode cX3_known 5 = .ok (.iconst 2, 1) := by decide +kernel
theorem dX3_known_6 : decode cX3_known 6 = .ok (.if_icmp .ge 12, 3) := by decide +kernel
theorem dX3_known_9 : decode cX3_known 9 = .ok (.aload_n 0, 1) := by decide +kernel
theorem dX3_known_10 : decode cX3_known 10 = .ok (.getfield 23, 3) := by decide +kernel
theorem dX3_known_13 : decode cX3_known 13 = .ok (.iload_n 1, 1) := by decide +kernel
theorem dX3_known_14 : decode cX3_known 14 = .ok (.iaload, 1) := by decide +kernel
theorem dX3_known_15 : decode cX3_known 15 = .ok (.goto 4, 3) := by decide +kernel
theorem dX3_known_18 : decode cX3_known 18 = .ok (.iconst 0, 1) := by decide +kernel
theorem dX3_known_19 : decode cX3_known 19 = .ok (.ireturn, 1) := by decide +kernel
theorem dX3_isLast_0 : decode cX3_isLast 0 = .ok (.iload_n 0, 1) := by decide +kernel
theorem dX3_isLast_1 : decode cX3_isLast 1 = .ok (.iconst 2, 1) := by decide +kernel
theorem dX3_isLast_2 : decode cX3_isLast 2 = .ok (.if_icmp .ne 7, 3) := by decide +kernel
theorem dX3_isLast_5 : decode cX3_isLast 5 = .ok (.iconst 1, 1) := by decide +kernel
theorem dX3_isLast_6 : decode cX3_isLast 6 = .ok (.goto 4, 3) := by decide +kernel
theorem dX3_isLast_9 : decode cX3_isLast 9 = .ok (.iconst 0, 1) := by decide +kernel
theorem dX3_isLast_10 : decode cX3_isLast 10 = .ok (.ireturn, 1) := by decide +kernel
theorem dX3_bySum_0 : decode cX3_bySum 0 = .ok (.iload_n 1, 1) := by decide +kernel
theorem dX3_bySum_1 : decode cX3_bySum 1 = .ok (.invokestatic 123, 3) := by decide +kernel
theorem dX3_bySum_4 : decode cX3_bySum 4 = .ok (.iload_n 2, 1) := by decide +kernel
theorem dX3_bySum_5 : decode cX3_bySum 5 = .ok (.invokestatic 123, 3) := by decide +kernel
theorem dX3_bySum_8 : decode cX3_bySum 8 = .ok (.iadd, 1) := by decide +kernel
theorem dX3_bySum_9 : decode cX3_bySum 9 = .ok (.iload_n 3, 1) := by decide +kernel
theorem dX3_bySum_10 : decode cX3_bySum 10 = .ok (.invokestatic 123, 3) := by decide +kernel
theorem dX3_bySum_13 : decode cX3_bySum 13 = .ok (.isub, 1) := by decide +kernel
theorem dX3_bySum_14 : decode cX3_bySum 14 = .ok (.istore 4, 2) := by decide +kernel
theorem dX3_bySum_16 : decode cX3_bySum 16 = .ok (.aload_n 0, 1) := by decide +kernel
theorem dX3_bySum_17 : decode cX3_bySum 17 = .ok (.iload_n 3, 1) := by decide +kernel
theorem dX3_bySum_18 : decode cX3_bySum 18 = .ok (.invokevirtual 126, 3) := by decide +kernel
theorem dX3_bySum_21 : decode cX3_bySum 21 = .ok (.aload_n 0, 1) := by decide +kernel
theorem dX3_bySum_22 : decode cX3_bySum 22 = .ok (.iload_n 1, 1) := by decide +kernel
theorem dX3_bySum_23 : decode cX3_bySum 23 = .ok (.invokevirtual 126, 3) := by decide +kernel
theorem dX3_bySum_26 : decode cX3_bySum 26 = .ok (.isub, 1) := by decide +kernel
theorem dX3_bySum_27 : decode cX3_bySum 27 = .ok (.aload_n 0, 1) := by decide +kernel
theorem dX3_bySum_28 : decode cX3_bySum 28 = .ok (.iload_n 2, 1) := by decide +kernel
theorem dX3_bySum_29 : decode cX3_bySum 29 = .ok (.invokevirtual 126, 3) := by decide +kernel
theorem dX3_bySum_32 : decode cX3_bySum 32 = .ok (.isub, 1) := by decide +kernel
theorem dX3_bySum_33 : decode cX3_bySum 33 = .ok (.istore 5, 2) := by decide +kernel
theorem dX3_bySum_35 : decode cX3_bySum 35 = .ok (.iload 4, 2) := by decide +kernel
theorem dX3_bySum_37 : decode cX3_bySum 37 = .ok (.ifCond .ne 16, 3) := by decide +kernel
theorem dX3_bySum_40 : decode cX3_bySum 40 = .ok (.iload 5, 2) := by decide +kernel
theorem dX3_bySum_42 : decode cX3_bySum 42 = .ok (.ifCond .ne 9, 3) := by decide +kernel
theorem dX3_bySum_45 : decode cX3_bySum 45 = .ok (.ldc2_w 129, 3) := by decide +kernel
theorem dX3_bySum_48 : decode cX3_bySum 48 = .ok (.goto 4, 3) := by decide +kernel
theorem dX3_bySum_51 : decode cX3_bySum 51 = .ok (.lconst 0, 1) := by decide +kernel
theorem dX3_bySum_52 : decode cX3_bySum 52 = .ok (.lreturn, 1) := by decide +kernel
theorem dX3_bySum_53 : decode cX3_bySum 53 = .ok (.iload 5, 2) := by decide +kernel
theorem dX3_bySum_55 : decode cX3_bySum 55 = .ok (.iload 4, 2) := by decide +kernel
theorem dX3_bySum_57 : decode cX3_bySum 57 = .ok (.irem, 1) := by decide +kernel
theorem dX3_bySum_58 : decode cX3_bySum 58 = .ok (.ifCond .eq 5, 3) := by decide +kernel
theorem dX3_bySum_61 : decode cX3_bySum 61 = .ok (.lconst 0, 1) := by decide +kernel
theorem dX3_bySum_62 : decode cX3_bySum 62 = .ok (.lreturn, 1) := by decide +kernel
theorem dX3_bySum_63 : decode cX3_bySum 63 = .ok (.iload 5, 2) := by decide +kernel
theorem dX3_bySum_65 : decode cX3_bySum 65 = .ok (.iload 4, 2) := by decide +kernel
theorem dX3_bySum_67 : decode cX3_bySum 67 = .ok (.idiv, 1) := by decide +kernel
theorem dX3_bySum_68 : decode cX3_bySum 68 = .ok (.istore 6, 2) := by decide +kernel
theorem dX3_bySum_70 : decode cX3_bySum 70 = .ok (.iload 6, 2) := by decide +kernel
theorem dX3_bySum_72 : decode cX3_bySum 72 = .ok (.iconst 1, 1) := by decide +kernel
theorem dX3_bySum_73 : decode cX3_bySum 73 = .ok (.bipush 40, 2) := by decide +kernel
theorem dX3_bySum_75 : decode cX3_bySum 75 = .ok (.invokestatic 85, 3) := by decide +kernel
theorem dX3_bySum_78 : decode cX3_bySum 78 = .ok (.ifCond .eq 10, 3) := by decide +kernel
theorem dX3_bySum_81 : decode cX3_bySum 81 = .ok (.lconst 1, 1) := by decide +kernel
theorem dX3_bySum_82 : decode cX3_bySum 82 = .ok (.iload 6, 2) := by decide +kernel
theorem dX3_bySum_84 : decode cX3_bySum 84 = .ok (.lshl, 1) := by decide +kernel
theorem dX3_bySum_85 : decode cX3_bySum 85 = .ok (.goto 4, 3) := by decide +kernel
theorem dX3_bySum_88 : decode cX3_bySum 88 = .ok (.lconst 0, 1) := by decide +kernel
theorem dX3_bySum_89 : decode cX3_bySum 89 = .ok (.lreturn, 1) := by decide +kernel
theorem dX3_byLess_0 : decode cX3_byLess 0 = .ok (.iload_n 2, 1) := by decide +kernel
theorem dX3_byLess_1 : decode cX3_byLess 1 = .ok (.iconst 2, 1) := by decide +kernel
theorem dX3_byLess_2 : decode cX3_byLess 2 = .ok (.if_icmp .ne 15, 3) := by decide +kernel
theorem dX3_byLess_5 : decode cX3_byLess 5 = .ok (.ldc2_w 129, 3) := by decide +kernel
theorem dX3_byLess_8 : decode cX3_byLess 8 = .ok (.aload_n 0, 1) := by decide +kernel
theorem dX3_byLess_9 : decode cX3_byLess 9 = .ok (.iload_n 1, 1) := by decide +kernel
theorem dX3_byLess_10 : decode cX3_byLess 10 = .ok (.invokevirtual 126, 3) := by decide +kernel
theorem dX3_byLess_13 : decode cX3_byLess 13 = .ok (.iconst 1, 1) := by decide +kernel
theorem dX3_byLess_14 : decode cX3_byLess 14 = .ok (.iadd, 1) := by decide +kernel
theorem dX3_byLess_15 : decode cX3_byLess 15 = .ok (.lshl, 1) := by decide +kernel
theorem dX3_byLess_16 : decode cX3_byLess 16 = .ok (.lreturn, 1) := by decide +kernel
theorem dX3_byLess_17 : decode cX3_byLess 17 = .ok (.iload_n 1, 1) := by decide +kernel
theorem dX3_byLess_18 : decode cX3_byLess 18 = .ok (.iconst 2, 1) := by decide +kernel
theorem dX3_byLess_19 : decode cX3_byLess 19 = .ok (.if_icmp .ne 13, 3) := by decide +kernel
theorem dX3_byLess_22 : decode cX3_byLess 22 = .ok (.lconst 1, 1) := by decide +kernel
theorem dX3_byLess_23 : decode cX3_byLess 23 = .ok (.aload_n 0, 1) := by decide +kernel
theorem dX3_byLess_24 : decode cX3_byLess 24 = .ok (.iload_n 2, 1) := by decide +kernel
theorem dX3_byLess_25 : decode cX3_byLess 25 = .ok (.invokevirtual 126, 3) := by decide +kernel
theorem dX3_byLess_28 : decode cX3_byLess 28 = .ok (.lshl, 1) := by decide +kernel
theorem dX3_byLess_29 : decode cX3_byLess 29 = .ok (.lconst 1, 1) := by decide +kernel
theorem dX3_byLess_30 : decode cX3_byLess 30 = .ok (.lsub, 1) := by decide +kernel
theorem dX3_byLess_31 : decode cX3_byLess 31 = .ok (.lreturn, 1) := by decide +kernel
theorem dX3_byLess_32 : decode cX3_byLess 32 = .ok (.aload_n 0, 1) := by decide +kernel
theorem dX3_byLess_33 : decode cX3_byLess 33 = .ok (.iload_n 1, 1) := by decide +kernel
theorem dX3_byLess_34 : decode cX3_byLess 34 = .ok (.invokevirtual 126, 3) := by decide +kernel
theorem dX3_byLess_37 : decode cX3_byLess 37 = .ok (.aload_n 0, 1) := by decide +kernel
theorem dX3_byLess_38 : decode cX3_byLess 38 = .ok (.iload_n 2, 1) := by decide +kernel
theorem dX3_byLess_39 : decode cX3_byLess 39 = .ok (.invokevirtual 126, 3) := by decide +kernel
theorem dX3_byLess_42 : decode cX3_byLess 42 = .ok (.if_icmp .ge 9, 3) := by decide +kernel
theorem dX3_byLess_45 : decode cX3_byLess 45 = .ok (.ldc2_w 129, 3) := by decide +kernel
theorem dX3_byLess_48 : decode cX3_byLess 48 = .ok (.goto 4, 3) := by decide +kernel
theorem dX3_byLess_51 : decode cX3_byLess 51 = .ok (.lconst 0, 1) := by decide +kernel
theorem dX3_byLess_52 : decode cX3_byLess 52 = .ok (.lreturn, 1) := by decide +kernel
theorem dX4_init_0 : decode cX4_init 0 = .ok (.aload_n 0, 1) := by decide +kernel
theorem dX4_init_1 : decode cX4_init 1 = .ok (.invokespecial 3, 3) := by decide +kernel
theorem dX4_init_4 : decode cX4_init 4 = .ok (.aload_n 0, 1) := by decide +kernel
theorem dX4_init_5 : decode cX4_init 5 = .ok (.iconst 4, 1) := by decide +kernel
theorem dX4_init_6 : decode cX4_init 6 = .ok (.bipush 60, 2) := by decide +kernel
theorem dX4_init_8 : decode cX4_init 8 = .ok (.multianewarray 11 2, 4) := by decide +kernel
theorem dX4_init_12 : decode cX4_init 12 = .ok (.putfield 13, 3) := by decide +kernel
theorem dX4_init_15 : decode cX4_init 15 = .ok (.aload_n 0, 1) := by decide +kernel
theorem dX4_init_16 : decode cX4_init 16 = .ok (.iconst 4, 1) := by decide +kernel
theorem dX4_init_17 : decode cX4_init 17 = .ok (.newarray .int, 2) := by decide +kernel
theorem dX4_init_19 : decode cX4_init 19 = .ok (.putfield 16, 3) := by decide +kernel
theorem dX4_init_22 : decode cX4_init 22 = .ok (.aload_n 0, 1) := by decide +kernel
theorem dX4_init_23 : decode cX4_init 23 = .ok (.iconst 4, 1) := by decide +kernel
theorem dX4_init_24 : decode cX4_init 24 = .ok (.newarray .int, 2) := by decide +kernel
theorem dX4_init_26 : decode cX4_init 26 = .ok (.putfield 20, 3) := by decide +kernel
theorem dX4_init_29 : decode cX4_init 29 = .ok (.aload_n 0, 1) := by decide +kernel
theorem dX4_init_30 : decode cX4_init 30 = .ok (.getfield 20, 3) := by decide +kernel
theorem dX4_init_33 : decode cX4_init 33 = .ok (.iconst (-1), 1) := by decide +kernel
theorem dX4_init_34 : decode cX4_init 34 = .ok (.invokestatic 23, 3) := by decide +kernel
theorem dX4_init_37 : decode cX4_init 37 = .ok (.return_, 1) := by decide +kernel
theorem dX4_isForm_0 : decode cX4_isForm 0 = .ok (.iload_n 0, 1) := by decide +kernel
theorem dX4_isForm_1 : decode cX4_isForm 1 = .ok (.iconst 0, 1) := by decide +kernel
theorem dX4_isForm_2 : decode cX4_isForm 2 = .ok (.iconst 2, 1) := by decide +kernel
theorem dX4_isForm_3 : decode cX4_isForm 3 = .ok (.invokestatic 29, 3) := by decide +kernel
theorem dX4_isForm_6 : decode cX4_isForm 6 = .ok (.ireturn, 1) := by decide +kernel
theorem dX4_named_0 : decode cX4_named 0 = .ok (.iload_n 1, 1) := by decide +kernel
theorem dX4_named_1 : decode cX4_named 1 = .ok (.ifCond .lt 12, 3) := by decide +kernel
theorem dX4_named_4 : decode cX4_named 4 = .ok (.iload_n 1, 1) := by decide +kernel
theorem dX4_named_5 : decode cX4_named 5 = .ok (.iconst 4, 1) := by decide +kernel
theorem dX4_named_6 : decode cX4_named 6 = .ok (.if_icmp .ge 7, 3) := by decide +kernel
theorem dX4_named_9 : decode cX4_named 9 = .ok (.iconst 1, 1) := by decide +kernel
theorem dX4_named_10 : decode cX4_named 10 = .ok (.goto 4, 3) := by decide +kernel
theorem dX4_named_13 : decode cX4_named 13 = .ok (.iconst 0, 1) := by decide +kernel
theorem dX4_named_14 : decode cX4_named 14 = .ok (.ireturn, 1) := by decide +kernel
theorem dX4_lost_0 : decode cX4_lost 0 = .ok (.aload_n 0, 1) := by decide +kernel
theorem dX4_lost_1 : decode cX4_lost 1 = .ok (.iload_n 1, 1) := by decide +kernel
theorem dX4_lost_2 : decode cX4_lost 2 = .ok (.invokevirtual 33, 3) := by decide +kernel
theorem dX4_lost_5 : decode cX4_lost 5 = .ok (.ifCond .eq 13, 3) := by decide +kernel
theorem dX4_lost_8 : decode cX4_lost 8 = .ok (.aload_n 0, 1) := by decide +kernel
theorem dX4_lost_9 : decode cX4_lost 9 = .ok (.getfield 20, 3) := by decide +kernel
theorem dX4_lost_12 : decode cX4_lost 12 = .ok (.iload_n 1, 1) := by decide +kernel
theorem dX4_lost_13 : decode cX4_lost 13 = .ok (.iaload, 1) := by decide +kernel
theorem dX4_lost_14 : decode cX4_lost 14 = .ok (.iconst (-1), 1) := by decide +kernel
theorem dX4_lost_15 : decode cX4_lost 15 = .ok (.if_icmp .ne 7, 3) := by decide +kernel
theorem dX4_lost_18 : decode cX4_lost 18 = .ok (.iconst 1, 1) := by decide +kernel
theorem dX4_lost_19 : decode cX4_lost 19 = .ok (.goto 4, 3) := by decide +kernel
theorem dX4_lost_22 : decode cX4_lost 22 = .ok (.iconst 0, 1) := by decide +kernel
theorem dX4_lost_23 : decode cX4_lost 23 = .ok (.ireturn, 1) := by decide +kernel
theorem dX4_sizeOf_0 : decode cX4_sizeOf 0 = .ok (.aload_n 0, 1) := by decide +kernel
theorem dX4_sizeOf_1 : decode cX4_sizeOf 1 = .ok (.iload_n 1, 1) := by decide +kernel
theorem dX4_sizeOf_2 : decode cX4_sizeOf 2 = .ok (.invokevirtual 37, 3) := by decide +kernel
theorem dX4_sizeOf_5 : decode cX4_sizeOf 5 = .ok (.ifCond .eq 7, 3) := by decide +kernel
theorem dX4_sizeOf_8 : decode cX4_sizeOf 8 = .ok (.iconst 0, 1) := by decide +kernel
theorem dX4_sizeOf_9 : decode cX4_sizeOf 9 = .ok (.goto 9, 3) := by decide +kernel
theorem dX4_sizeOf_12 : decode cX4_sizeOf 12 = .ok (.aload_n 0, 1) := by decide +kernel
theorem dX4_sizeOf_13 : decode cX4_sizeOf 13 = .ok (.getfield 20, 3) := by decide +kernel
theorem dX4_sizeOf_16 : decode cX4_sizeOf 16 = .ok (.iload_n 1, 1) := by decide +kernel
theorem dX4_sizeOf_17 : decode cX4_sizeOf 17 = .ok (.iaload, 1) := by decide +kernel
theorem dX4_sizeOf_18 : decode cX4_sizeOf 18 = .ok (.ireturn, 1) := by decide +kernel
theorem dX4_formOf_0 : decode cX4_formOf 0 = .ok (.aload_n 0, 1) := by decide +kernel
theorem dX4_formOf_1 : decode cX4_formOf 1 = .ok (.iload_n 1, 1) := by decide +kernel
theorem dX4_formOf_2 : decode cX4_formOf 2 = .ok (.invokevirtual 37, 3) := by decide +kernel
theorem dX4_formOf_5 : decode cX4_formOf 5 = .ok (.ifCond .eq 7, 3) := by decide +kernel
theorem dX4_formOf_8 : decode cX4_formOf 8 = .ok (.iconst (-1), 1) := by decide +kernel
theorem dX4_formOf_9 : decode cX4_formOf 9 = .ok (.goto 9, 3) := by decide +kernel
theorem dX4_formOf_12 : decode cX4_formOf 12 = .ok (.aload_n 0, 1) := by decide +kernel
theorem dX4_formOf_13 : decode cX4_formOf 13 = .ok (.getfield 16, 3) := by decide +kernel
theorem dX4_formOf_16 : decode cX4_formOf 16 = .ok (.iload_n 1, 1) := by decide +kernel
theorem dX4_formOf_17 : decode cX4_formOf 17 = .ok (.iaload, 1) := by decide +kernel
theorem dX4_formOf_18 : decode cX4_formOf 18 = .ok (.ireturn, 1) := by decide +kernel
theorem dX4_hasItem_0 : decode cX4_hasItem 0 = .ok (.aload_n 0, 1) := by decide +kernel
theorem dX4_hasItem_1 : decode cX4_hasItem 1 = .ok (.iload_n 1, 1) := by decide +kernel
theorem dX4_hasItem_2 : decode cX4_hasItem 2 = .ok (.invokevirtual 33, 3) := by decide +kernel
theorem dX4_hasItem_5 : decode cX4_hasItem 5 = .ok (.ifCond .eq 27, 3) := by decide +kernel
theorem dX4_hasItem_8 : decode cX4_hasItem 8 = .ok (.iload_n 2, 1) := by decide +kernel
theorem dX4_hasItem_9 : decode cX4_hasItem 9 = .ok (.ifCond .lt 23, 3) := by decide +kernel
theorem dX4_hasItem_12 : decode cX4_hasItem 12 = .ok (.iload_n 2, 1) := by decide +kernel
theorem dX4_hasItem_13 : decode cX4_hasItem 13 = .ok (.aload_n 0, 1) := by decide +kernel
theorem dX4_hasItem_14 : decode cX4_hasItem 14 = .ok (.getfield 20, 3) := by decide +kernel
theorem dX4_hasItem_17 : decode cX4_hasItem 17 = .ok (.iload_n 1, 1) := by decide +kernel
theorem dX4_hasItem_18 : decode cX4_hasItem 18 = .ok (.iaload, 1) := by decide +kernel
theorem dX4_hasItem_19 : decode cX4_hasItem 19 = .ok (.if_icmp .ge 13, 3) := by decide +kernel
theorem dX4_hasItem_22 : decode cX4_hasItem 22 = .ok (.iload_n 2, 1) := by decide +kernel
theorem dX4_hasItem_23 : decode cX4_hasItem 23 = .ok (.bipush 60, 2) := by decide +kernel
theorem dX4_hasItem_25 : decode cX4_hasItem 25 = .ok (.if_icmp .ge 7, 3) := by decide +kernel
theorem dX4_hasItem_28 : decode cX4_hasItem 28 = .ok (.iconst 1, 1) := by decide +kernel
theorem dX4_hasItem_29 : decode cX4_hasItem 29 = .ok (.goto 4, 3) := by decide +kernel
theorem dX4_hasItem_32 : decode cX4_hasItem 32 = .ok (.iconst 0, 1) := by decide +kernel
theorem dX4_hasItem_33 : decode cX4_hasItem 33 = .ok (.ireturn, 1) := by decide +kernel
theorem dX4_item_0 : decode cX4_item 0 = .ok (.aload_n 0, 1) := by decide +kernel
theorem dX4_item_1 : decode cX4_item 1 = .ok (.iload_n 1, 1) := by decide +kernel
theorem dX4_item_2 : decode cX4_item 2 = .ok (.iload_n 2, 1) := by decide +kernel
theorem dX4_item_3 : decode cX4_item 3 = .ok (.invokevirtual 40, 3) := by decide +kernel
theorem dX4_item_6 : decode cX4_item 6 = .ok (.ifCond .eq 14, 3) := by decide +kernel
theorem dX4_item_9 : decode cX4_item 9 = .ok (.aload_n 0, 1) := by decide +kernel
theorem dX4_item_10 : decode cX4_item 10 = .ok (.getfield 13, 3) := by decide +kernel
theorem dX4_item_13 : decode cX4_item 13 = .ok (.iload_n 1, 1) := by decide +kernel
theorem dX4_item_14 : decode cX4_item 14 = .ok (.aaload, 1) := by decide +kernel
theorem dX4_item_15 : decode cX4_item 15 = .ok (.iload_n 2, 1) := by decide +kernel
theorem dX4_item_16 : decode cX4_item 16 = .ok (.iaload, 1) := by decide +kernel
theorem dX4_item_17 : decode cX4_item 17 = .ok (.goto 4, 3) := by decide +kernel
theorem dX4_item_20 : decode cX4_item 20 = .ok (.iconst (-1), 1) := by decide +kernel
theorem dX4_item_21 : decode cX4_item 21 = .ok (.ireturn, 1) := by decide +kernel
theorem dX4_wordAt_0 : decode cX4_wordAt 0 = .ok (.aload_n 0, 1) := by decide +kernel
theorem dX4_wordAt_1 : decode cX4_wordAt 1 = .ok (.iload_n 1, 1) := by decide +kernel
theorem dX4_wordAt_2 : decode cX4_wordAt 2 = .ok (.iload_n 2, 1) := by decide +kernel
theorem dX4_wordAt_3 : decode cX4_wordAt 3 = .ok (.invokevirtual 44, 3) := by decide +kernel
theorem dX4_wordAt_6 : decode cX4_wordAt 6 = .ok (.istore_n 3, 1) := by decide +kernel
theorem dX4_wordAt_7 : decode cX4_wordAt 7 = .ok (.iload_n 3, 1) := by decide +kernel
theorem dX4_wordAt_8 : decode cX4_wordAt 8 = .ok (.iconst 0, 1) := by decide +kernel
theorem dX4_wordAt_9 : decode cX4_wordAt 9 = .ok (.bipush 99, 2) := by decide +kernel
theorem dX4_wordAt_11 : decode cX4_wordAt 11 = .ok (.invokestatic 29, 3) := by decide +kernel
theorem dX4_wordAt_14 : decode cX4_wordAt 14 = .ok (.ifCond .eq 7, 3) := by decide +kernel
theorem dX4_wordAt_17 : decode cX4_wordAt 17 = .ok (.iload_n 3, 1) := by decide +kernel
theorem dX4_wordAt_18 : decode cX4_wordAt 18 = .ok (.goto 4, 3) := by decide +kernel
theorem dX4_wordAt_21 : decode cX4_wordAt 21 = .ok (.iconst (-1), 1) := by decide +kernel
theorem dX4_wordAt_22 : decode cX4_wordAt 22 = .ok (.ireturn, 1) := by decide +kernel
theorem dX4_find_0 : decode cX4_find 0 = .ok (.aload_n 0, 1) := by decide +kernel
theorem dX4_find_1 : decode cX4_find 1 = .ok (.iload_n 1, 1) := by decide +kernel
theorem dX4_find_2 : decode cX4_find 2 = .ok (.putfield 48, 3) := by decide +kernel
theorem dX4_find_5 : decode cX4_find 5 = .ok (.bipush (-10), 2) := by decide +kernel
theorem dX4_find_7 : decode cX4_find 7 = .ok (.iload_n 1, 1) := by decide +kernel
theorem dX4_find_8 : decode cX4_find 8 = .ok (.isub, 1) := by decide +kernel
theorem dX4_find_9 : decode cX4_find 9 = .ok (.ireturn, 1) := by decide +kernel
theorem dX4_latest_0 : decode cX4_latest 0 = .ok (.aload_n 0, 1) := by decide +kernel
theorem dX4_latest_1 : decode cX4_latest 1 = .ok (.getfield 48, 3) := by decide +kernel
theorem dX4_latest_4 : decode cX4_latest 4 = .ok (.ireturn, 1) := by decide +kernel
theorem dX4_inUse_0 : decode cX4_inUse 0 = .ok (.iconst 0, 1) := by decide +kernel
theorem dX4_inUse_1 : decode cX4_inUse 1 = .ok (.istore_n 1, 1) := by decide +kernel
theorem dX4_inUse_2 : decode cX4_inUse 2 = .ok (.iconst 0, 1) := by decide +kernel
theorem dX4_inUse_3 : decode cX4_inUse 3 = .ok (.istore_n 2, 1) := by decide +kernel
theorem dX4_inUse_4 : decode cX4_inUse 4 = .ok (.iload_n 2, 1) := by decide +kernel
theorem dX4_inUse_5 : decode cX4_inUse 5 = .ok (.iconst 4, 1) := by decide +kernel
theorem dX4_inUse_6 : decode cX4_inUse 6 = .ok (.if_icmp .ge 20, 3) := by decide +kernel
theorem dX4_inUse_9 : decode cX4_inUse 9 = .ok (.aload_n 0, 1) := by decide +kernel
theorem dX4_inUse_10 : decode cX4_inUse 10 = .ok (.iload_n 2, 1) := by decide +kernel
theorem dX4_inUse_11 : decode cX4_inUse 11 = .ok (.invokevirtual 37, 3) := by decide +kernel
theorem dX4_inUse_14 : decode cX4_inUse 14 = .ok (.ifCond .ne 6, 3) := by decide +kernel
theorem dX4_inUse_17 : decode cX4_inUse 17 = .ok (.iinc 1 1, 3) := by decide +kernel
theorem dX4_inUse_20 : decode cX4_inUse 20 = .ok (.iinc 2 1, 3) := by decide +kernel
theorem dX4_inUse_23 : decode cX4_inUse 23 = .ok (.goto (-19), 3) := by decide +kernel
theorem dX4_inUse_26 : decode cX4_inUse 26 = .ok (.iload_n 1, 1) := by decide +kernel
theorem dX4_inUse_27 : decode cX4_inUse 27 = .ok (.ireturn, 1) := by decide +kernel
theorem dX4_renew_0 : decode cX4_renew 0 = .ok (.aload_n 0, 1) := by decide +kernel
theorem dX4_renew_1 : decode cX4_renew 1 = .ok (.iload_n 1, 1) := by decide +kernel
theorem dX4_renew_2 : decode cX4_renew 2 = .ok (.invokevirtual 33, 3) := by decide +kernel
theorem dX4_renew_5 : decode cX4_renew 5 = .ok (.ifCond .eq 13, 3) := by decide +kernel
theorem dX4_renew_8 : decode cX4_renew 8 = .ok (.iload_n 3, 1) := by decide +kernel
theorem dX4_renew_9 : decode cX4_renew 9 = .ok (.iconst 0, 1) := by decide +kernel
theorem dX4_renew_10 : decode cX4_renew 10 = .ok (.bipush 60, 2) := by decide +kernel
theorem dX4_renew_12 : decode cX4_renew 12 = .ok (.invokestatic 29, 3) := by decide +kernel
theorem dX4_renew_15 : decode cX4_renew 15 = .ok (.ifCond .ne 6, 3) := by decide +kernel
theorem dX4_renew_18 : decode cX4_renew 18 = .ok (.bipush (-2), 2) := by decide +kernel
theorem dX4_renew_20 : decode cX4_renew 20 = .ok (.ireturn, 1) := by decide +kernel
theorem dX4_renew_21 : decode cX4_renew 21 = .ok (.aload_n 0, 1) := by decide +kernel
theorem dX4_renew_22 : decode cX4_renew 22 = .ok (.getfield 13, 3) := by decide +kernel
theorem dX4_renew_25 : decode cX4_renew 25 = .ok (.iload_n 1, 1) := by decide +kernel
theorem dX4_renew_26 : decode cX4_renew 26 = .ok (.aaload, 1) := by decide +kernel
theorem dX4_renew_27 : decode cX4_renew 27 = .ok (.iconst 0, 1) := by decide +kernel
theorem dX4_renew_28 : decode cX4_renew 28 = .ok (.invokestatic 23, 3) := by decide +kernel
theorem dX4_renew_31 : decode cX4_renew 31 = .ok (.aload_n 0, 1) := by decide +kernel
theorem dX4_renew_32 : decode cX4_renew 32 = .ok (.getfield 16, 3) := by decide +kernel
theorem dX4_renew_35 : decode cX4_renew 35 = .ok (.iload_n 1, 1) := by decide +kernel
theorem dX4_renew_36 : decode cX4_renew 36 = .ok (.iload_n 2, 1) := by decide +kernel
theorem dX4_renew_37 : decode cX4_renew 37 = .ok (.iastore, 1) := by decide +kernel
theorem dX4_renew_38 : decode cX4_renew 38 = .ok (.aload_n 0, 1) := by decide +kernel
theorem dX4_renew_39 : decode cX4_renew 39 = .ok (.getfield 20, 3) := by decide +kernel
theorem dX4_renew_42 : decode cX4_renew 42 = .ok (.iload_n 1, 1) := by decide +kernel
theorem dX4_renew_43 : decode cX4_renew 43 = .ok (.iload_n 3, 1) := by decide +kernel
theorem dX4_renew_44 : decode cX4_renew 44 = .ok (.iastore, 1) := by decide +kernel
theorem dX4_renew_45 : decode cX4_renew 45 = .ok (.iload_n 3, 1) := by decide +kernel
theorem dX4_renew_46 : decode cX4_renew 46 = .ok (.ireturn, 1) := by decide +kernel
theorem dX4_drop_0 : decode cX4_drop 0 = .ok (.aload_n 0, 1) := by decide +kernel
theorem dX4_drop_1 : decode cX4_drop 1 = .ok (.iload_n 1, 1) := by decide +kernel
theorem dX4_drop_2 : decode cX4_drop 2 = .ok (.invokevirtual 37, 3) := by decide +kernel
theorem dX4_drop_5 : decode cX4_drop 5 = .ok (.ifCond .eq 6, 3) := by decide +kernel
theorem dX4_drop_8 : decode cX4_drop 8 = .ok (.bipush (-2), 2) := by decide +kernel
theorem dX4_drop_10 : decode cX4_drop 10 = .ok (.ireturn, 1) := by decide +kernel
theorem dX4_drop_11 : decode cX4_drop 11 = .ok (.aload_n 0, 1) := by decide +kernel
theorem dX4_drop_12 : decode cX4_drop 12 = .ok (.getfield 20, 3) := by decide +kernel
theorem dX4_drop_15 : decode cX4_drop 15 = .ok (.iload_n 1, 1) := by decide +kernel
theorem dX4_drop_16 : decode cX4_drop 16 = .ok (.iaload, 1) := by decide +kernel
theorem dX4_drop_17 : decode cX4_drop 17 = .ok (.istore_n 2, 1) := by decide +kernel
theorem dX4_drop_18 : decode cX4_drop 18 = .ok (.aload_n 0, 1) := by decide +kernel
theorem dX4_drop_19 : decode cX4_drop 19 = .ok (.getfield 20, 3) := by decide +kernel
theorem dX4_drop_22 : decode cX4_drop 22 = .ok (.iload_n 1, 1) := by decide +kernel
theorem dX4_drop_23 : decode cX4_drop 23 = .ok (.iconst (-1), 1) := by decide +kernel
theorem dX4_drop_24 : decode cX4_drop 24 = .ok (.iastore, 1) := by decide +kernel
theorem dX4_drop_25 : decode cX4_drop 25 = .ok (.iload_n 2, 1) := by decide +kernel
theorem dX4_drop_26 : decode cX4_drop 26 = .ok (.ireturn, 1) := by decide +kernel
theorem dX4_store_0 : decode cX4_store 0 = .ok (.aload_n 0, 1) := by decide +kernel
theorem dX4_store_1 : decode cX4_store 1 = .ok (.iload_n 1, 1) := by decide +kernel
theorem dX4_store_2 : decode cX4_store 2 = .ok (.iload_n 2, 1) := by decide +kernel
theorem dX4_store_3 : decode cX4_store 3 = .ok (.invokevirtual 40, 3) := by decide +kernel
theorem dX4_store_6 : decode cX4_store 6 = .ok (.ifCond .eq 21, 3) := by decide +kernel
theorem dX4_store_9 : decode cX4_store 9 = .ok (.aload_n 0, 1) := by decide +kernel
theorem dX4_store_10 : decode cX4_store 10 = .ok (.getfield 13, 3) := by decide +kernel
theorem dX4_store_13 : decode cX4_store 13 = .ok (.iload_n 1, 1) := by decide +kernel
theorem dX4_store_14 : decode cX4_store 14 = .ok (.aaload, 1) := by decide +kernel
theorem dX4_store_15 : decode cX4_store 15 = .ok (.iload_n 2, 1) := by decide +kernel
theorem dX4_store_16 : decode cX4_store 16 = .ok (.aload_n 0, 1) := by decide +kernel
theorem dX4_store_17 : decode cX4_store 17 = .ok (.getfield 16, 3) := by decide +kernel
theorem dX4_store_20 : decode cX4_store 20 = .ok (.iload_n 1, 1) := by decide +kernel
theorem dX4_store_21 : decode cX4_store 21 = .ok (.iaload, 1) := by decide +kernel
theorem dX4_store_22 : decode cX4_store 22 = .ok (.iload_n 3, 1) := by decide +kernel
theorem dX4_store_23 : decode cX4_store 23 = .ok (.invokestatic 52, 3) := by decide +kernel
theorem dX4_store_26 : decode cX4_store 26 = .ok (.iastore, 1) := by decide +kernel
theorem dX4_store_27 : decode cX4_store 27 = .ok (.return_, 1) := by decide +kernel
theorem dX4_cut_0 : decode cX4_cut 0 = .ok (.iload_n 0, 1) := by decide +kernel
theorem dX4_cut_1 : decode cX4_cut 1 = .ok (.ifCond .ne 6, 3) := by decide +kernel
theorem dX4_cut_4 : decode cX4_cut 4 = .ok (.iload_n 1, 1) := by decide +kernel
theorem dX4_cut_5 : decode cX4_cut 5 = .ok (.i2b, 1) := by decide +kernel
theorem dX4_cut_6 : decode cX4_cut 6 = .ok (.ireturn, 1) := by decide +kernel
theorem dX4_cut_7 : decode cX4_cut 7 = .ok (.iload_n 0, 1) := by decide +kernel
theorem dX4_cut_8 : decode cX4_cut 8 = .ok (.iconst 1, 1) := by decide +kernel
theorem dX4_cut_9 : decode cX4_cut 9 = .ok (.if_icmp .ne 8, 3) := by decide +kernel
theorem dX4_cut_12 : decode cX4_cut 12 = .ok (.iload_n 1, 1) := by decide +kernel
theorem dX4_cut_13 : decode cX4_cut 13 = .ok (.i2s, 1) := by decide +kernel
theorem dX4_cut_14 : decode cX4_cut 14 = .ok (.goto 4, 3) := by decide +kernel
theorem dX4_cut_17 : decode cX4_cut 17 = .ok (.iload_n 1, 1) := by decide +kernel
theorem dX4_cut_18 : decode cX4_cut 18 = .ok (.ireturn, 1) := by decide +kernel
theorem dX4_move_0 : decode cX4_move 0 = .ok (.iload_n 2, 1) := by decide +kernel
theorem dX4_move_1 : decode cX4_move 1 = .ok (.ifCond .lt 38, 3) := by decide +kernel
theorem dX4_move_4 : decode cX4_move 4 = .ok (.iload 4, 2) := by decide +kernel
theorem dX4_move_6 : decode cX4_move 6 = .ok (.ifCond .lt 33, 3) := by decide +kernel
theorem dX4_move_9 : decode cX4_move 9 = .ok (.iload 5, 2) := by decide +kernel
theorem dX4_move_11 : decode cX4_move 11 = .ok (.ifCond .lt 28, 3) := by decide +kernel
theorem dX4_move_14 : decode cX4_move 14 = .ok (.iload 5, 2) := by decide +kernel
theorem dX4_move_16 : decode cX4_move 16 = .ok (.aload_n 0, 1) := by decide +kernel
theorem dX4_move_17 : decode cX4_move 17 = .ok (.iload_n 1, 1) := by decide +kernel
theorem dX4_move_18 : decode cX4_move 18 = .ok (.invokevirtual 55, 3) := by decide +kernel
theorem dX4_move_21 : decode cX4_move 21 = .ok (.iload_n 2, 1) := by decide +kernel
theorem dX4_move_22 : decode cX4_move 22 = .ok (.isub, 1) := by decide +kernel
theorem dX4_move_23 : decode cX4_move 23 = .ok (.if_icmp .gt 16, 3) := by decide +kernel
theorem dX4_move_26 : decode cX4_move 26 = .ok (.iload 5, 2) := by decide +kernel
theorem dX4_move_28 : decode cX4_move 28 = .ok (.aload_n 0, 1) := by decide +kernel
theorem dX4_move_29 : decode cX4_move 29 = .ok (.iload_n 3, 1) := by decide +kernel
theorem dX4_move_30 : decode cX4_move 30 = .ok (.invokevirtual 55, 3) := by decide +kernel
theorem dX4_move_33 : decode cX4_move 33 = .ok (.iload 4, 2) := by decide +kernel
theorem dX4_move_35 : decode cX4_move 35 = .ok (.isub, 1) := by decide +kernel
theorem dX4_move_36 : decode cX4_move 36 = .ok (.if_icmp .le 5, 3) := by decide +kernel
theorem dX4_move_39 : decode cX4_move 39 = .ok (.iconst 0, 1) := by decide +kernel
theorem dX4_move_40 : decode cX4_move 40 = .ok (.ireturn, 1) := by decide +kernel
theorem dX4_move_41 : decode cX4_move 41 = .ok (.aload_n 0, 1) := by decide +kernel
theorem dX4_move_42 : decode cX4_move 42 = .ok (.iload_n 1, 1) := by decide +kernel
theorem dX4_move_43 : decode cX4_move 43 = .ok (.invokevirtual 37, 3) := by decide +kernel
theorem dX4_move_46 : decode cX4_move 46 = .ok (.ifCond .ne 31, 3) := by decide +kernel
theorem dX4_move_49 : decode cX4_move 49 = .ok (.aload_n 0, 1) := by decide +kernel
theorem dX4_move_50 : decode cX4_move 50 = .ok (.iload_n 3, 1) := by decide +kernel
theorem dX4_move_51 : decode cX4_move 51 = .ok (.invokevirtual 37, 3) := by decide +kernel
theorem dX4_move_54 : decode cX4_move 54 = .ok (.ifCond .ne 23, 3) := by decide +kernel
theorem dX4_move_57 : decode cX4_move 57 = .ok (.aload_n 0, 1) := by decide +kernel
theorem dX4_move_58 : decode cX4_move 58 = .ok (.getfield 13, 3) := by decide +kernel
theorem dX4_move_61 : decode cX4_move 61 = .ok (.iload_n 1, 1) := by decide +kernel
theorem dX4_move_62 : decode cX4_move 62 = .ok (.aaload, 1) := by decide +kernel
theorem dX4_move_63 : decode cX4_move 63 = .ok (.iload_n 2, 1) := by decide +kernel
theorem dX4_move_64 : decode cX4_move 64 = .ok (.aload_n 0, 1) := by decide +kernel
theorem dX4_move_65 : decode cX4_move 65 = .ok (.getfield 13, 3) := by decide +kernel
theorem dX4_move_68 : decode cX4_move 68 = .ok (.iload_n 3, 1) := by decide +kernel
theorem dX4_move_69 : decode cX4_move 69 = .ok (.aaload, 1) := by decide +kernel
theorem dX4_move_70 : decode cX4_move 70 = .ok (.iload 4, 2) := by decide +kernel
theorem dX4_move_72 : decode cX4_move 72 = .ok (.iload 5, 2) := by decide +kernel
theorem dX4_move_74 : decode cX4_move 74 = .ok (.invokestatic 59, 3) := by decide +kernel
theorem dX4_move_77 : decode cX4_move 77 = .ok (.iconst 1, 1) := by decide +kernel
theorem dX4_move_78 : decode cX4_move 78 = .ok (.ireturn, 1) := by decide +kernel
theorem dX4_unlikeWords_0 : decode cX4_unlikeWords 0 = .ok (.iconst 0, 1) := by decide +kernel
theorem dX4_unlikeWords_1 : decode cX4_unlikeWords 1 = .ok (.istore_n 3, 1) := by decide +kernel
theorem dX4_unlikeWords_2 : decode cX4_unlikeWords 2 = .ok (.iload_n 3, 1) := by decide +kernel
theorem dX4_unlikeWords_3 : decode cX4_unlikeWords 3 = .ok (.iload_n 2, 1) := by decide +kernel
theorem dX4_unlikeWords_4 : decode cX4_unlikeWords 4 = .ok (.if_icmp .ge 54, 3) := by decide +kernel
theorem dX4_unlikeWords_7 : decode cX4_unlikeWords 7 = .ok (.aload_n 0, 1) := by decide +kernel
theorem dX4_unlikeWords_8 : decode cX4_unlikeWords 8 = .ok (.iload_n 1, 1) := by decide +kernel
theorem dX4_unlikeWords_9 : decode cX4_unlikeWords 9 = .ok (.iload_n 3, 1) := by decide +kernel
theorem dX4_unlikeWords_10 : decode cX4_unlikeWords 10 = .ok (.invokevirtual 65, 3) := by decide +kernel
theorem dX4_unlikeWords_13 : decode cX4_unlikeWords 13 = .ok (.istore 4, 2) := by decide +kernel
theorem dX4_unlikeWords_15 : decode cX4_unlikeWords 15 = .ok (.iload 4, 2) := by decide +kernel
theorem dX4_unlikeWords_17 : decode cX4_unlikeWords 17 = .ok (.iconst (-1), 1) := by decide +kernel
theorem dX4_unlikeWords_18 : decode cX4_unlikeWords 18 = .ok (.if_icmp .ne 5, 3) := by decide +kernel
theorem dX4_unlikeWords_21 : decode cX4_unlikeWords 21 = .ok (.iconst 0, 1) := by decide +kernel
theorem dX4_unlikeWords_22 : decode cX4_unlikeWords 22 = .ok (.ireturn, 1) := by decide +kernel
theorem dX4_unlikeWords_23 : decode cX4_unlikeWords 23 = .ok (.iconst 0, 1) := by decide +kernel
theorem dX4_unlikeWords_24 : decode cX4_unlikeWords 24 = .ok (.istore 5, 2) := by decide +kernel
theorem dX4_unlikeWords_26 : decode cX4_unlikeWords 26 = .ok (.iload 5, 2) := by decide +kernel
theorem dX4_unlikeWords_28 : decode cX4_unlikeWords 28 = .ok (.iload_n 3, 1) := by decide +kernel
theorem dX4_unlikeWords_29 : decode cX4_unlikeWords 29 = .ok (.if_icmp .ge 23, 3) := by decide +kernel
theorem dX4_unlikeWords_32 : decode cX4_unlikeWords 32 = .ok (.aload_n 0, 1) := by decide +kernel
theorem dX4_unlikeWords_33 : decode cX4_unlikeWords 33 = .ok (.iload_n 1, 1) := by decide +kernel
theorem dX4_unlikeWords_34 : decode cX4_unlikeWords 34 = .ok (.iload 5, 2) := by decide +kernel
theorem dX4_unlikeWords_36 : decode cX4_unlikeWords 36 = .ok (.invokevirtual 65, 3) := by decide +kernel
theorem dX4_unlikeWords_39 : decode cX4_unlikeWords 39 = .ok (.iload 4, 2) := by decide +kernel
theorem dX4_unlikeWords_41 : decode cX4_unlikeWords 41 = .ok (.if_icmp .ne 5, 3) := by decide +kernel
theorem dX4_unlikeWords_44 : decode cX4_unlikeWords 44 = .ok (.iconst 0, 1) := by decide +kernel
theorem dX4_unlikeWords_45 : decode cX4_unlikeWords 45 = .ok (.ireturn, 1) := by decide +kernel
theorem dX4_unlikeWords_46 : decode cX4_unlikeWords 46 = .ok (.iinc 5 1, 3) := by decide +kernel
theorem dX4_unlikeWords_49 : decode cX4_unlikeWords 49 = .ok (.goto (-23), 3) := by decide +kernel
theorem dX4_unlikeWords_52 : decode cX4_unlikeWords 52 = .ok (.iinc 3 1, 3) := by decide +kernel
theorem dX4_unlikeWords_55 : decode cX4_unlikeWords 55 = .ok (.goto (-53), 3) := by decide +kernel
theorem dX4_unlikeWords_58 : decode cX4_unlikeWords 58 = .ok (.iconst 1, 1) := by decide +kernel
theorem dX4_unlikeWords_59 : decode cX4_unlikeWords 59 = .ok (.ireturn, 1) := by decide +kernel
theorem dX5_init_0 : decode cX5_init 0 = .ok (.aload_n 0, 1) := by decide +kernel
theorem dX5_init_1 : decode cX5_init 1 = .ok (.invokespecial 3, 3) := by decide +kernel
theorem dX5_init_4 : decode cX5_init 4 = .ok (.aload_n 0, 1) := by decide +kernel
theorem dX5_init_5 : decode cX5_init 5 = .ok (.bipush 60, 2) := by decide +kernel
theorem dX5_init_7 : decode cX5_init 7 = .ok (.newarray .int, 2) := by decide +kernel
theorem dX5_init_9 : decode cX5_init 9 = .ok (.putfield 11, 3) := by decide +kernel
theorem dX5_init_12 : decode cX5_init 12 = .ok (.aload_n 0, 1) := by decide +kernel
theorem dX5_init_13 : decode cX5_init 13 = .ok (.iconst (-1), 1) := by decide +kernel
theorem dX5_init_14 : decode cX5_init 14 = .ok (.putfield 15, 3) := by decide +kernel
theorem dX5_init_17 : decode cX5_init 17 = .ok (.return_, 1) := by decide +kernel
theorem dX5_size_0 : decode cX5_size 0 = .ok (.aload_n 0, 1) := by decide +kernel
theorem dX5_size_1 : decode cX5_size 1 = .ok (.getfield 19, 3) := by decide +kernel
theorem dX5_size_4 : decode cX5_size 4 = .ok (.ireturn, 1) := by decide +kernel
theorem dX5_append_0 : decode cX5_append 0 = .ok (.aload_n 0, 1) := by decide +kernel
theorem dX5_append_1 : decode cX5_append 1 = .ok (.getfield 19, 3) := by decide +kernel
theorem dX5_append_4 : decode cX5_append 4 = .ok (.bipush 60, 2) := by decide +kernel
theorem dX5_append_6 : decode cX5_append 6 = .ok (.if_icmp .lt 6, 3) := by decide +kernel
theorem dX5_append_9 : decode cX5_append 9 = .ok (.bipush (-4), 2) := by decide +kernel
theorem dX5_append_11 : decode cX5_append 11 = .ok (.ireturn, 1) := by decide +kernel
theorem dX5_append_12 : decode cX5_append 12 = .ok (.aload_n 0, 1) := by decide +kernel
theorem dX5_append_13 : decode cX5_append 13 = .ok (.getfield 11, 3) := by decide +kernel
theorem dX5_append_16 : decode cX5_append 16 = .ok (.aload_n 0, 1) := by decide +kernel
theorem dX5_append_17 : decode cX5_append 17 = .ok (.getfield 19, 3) := by decide +kernel
theorem dX5_append_20 : decode cX5_append 20 = .ok (.iload_n 1, 1) := by decide +kernel
theorem dX5_append_21 : decode cX5_append 21 = .ok (.iastore, 1) := by decide +kernel
theorem dX5_append_22 : decode cX5_append 22 = .ok (.aload_n 0, 1) := by decide +kernel
theorem dX5_append_23 : decode cX5_append 23 = .ok (.dup, 1) := by decide +kernel
theorem dX5_append_24 : decode cX5_append 24 = .ok (.getfield 19, 3) := by decide +kernel
theorem dX5_append_27 : decode cX5_append 27 = .ok (.iconst 1, 1) := by decide +kernel
theorem dX5_append_28 : decode cX5_append 28 = .ok (.iadd, 1) := by decide +kernel
theorem dX5_append_29 : decode cX5_append 29 = .ok (.putfield 19, 3) := by decide +kernel
theorem dX5_append_32 : decode cX5_append 32 = .ok (.aload_n 0, 1) := by decide +kernel
theorem dX5_append_33 : decode cX5_append 33 = .ok (.getfield 19, 3) := by decide +kernel
theorem dX5_append_36 : decode cX5_append 36 = .ok (.ireturn, 1) := by decide +kernel
theorem dX5_empty_0 : decode cX5_empty 0 = .ok (.aload_n 0, 1) := by decide +kernel
theorem dX5_empty_1 : decode cX5_empty 1 = .ok (.getfield 19, 3) := by decide +kernel
theorem dX5_empty_4 : decode cX5_empty 4 = .ok (.istore_n 1, 1) := by decide +kernel
theorem dX5_empty_5 : decode cX5_empty 5 = .ok (.aload_n 0, 1) := by decide +kernel
theorem dX5_empty_6 : decode cX5_empty 6 = .ok (.iconst 0, 1) := by decide +kernel
theorem dX5_empty_7 : decode cX5_empty 7 = .ok (.putfield 19, 3) := by decide +kernel
theorem dX5_empty_10 : decode cX5_empty 10 = .ok (.iload_n 1, 1) := by decide +kernel
theorem dX5_empty_11 : decode cX5_empty 11 = .ok (.ireturn, 1) := by decide +kernel
theorem dX5_stop_0 : decode cX5_stop 0 = .ok (.aload_n 0, 1) := by decide +kernel
theorem dX5_stop_1 : decode cX5_stop 1 = .ok (.getfield 15, 3) := by decide +kernel
theorem dX5_stop_4 : decode cX5_stop 4 = .ok (.ireturn, 1) := by decide +kernel
theorem dX5_isBeyond_0 : decode cX5_isBeyond 0 = .ok (.aload_n 0, 1) := by decide +kernel
theorem dX5_isBeyond_1 : decode cX5_isBeyond 1 = .ok (.getfield 22, 3) := by decide +kernel
theorem dX5_isBeyond_4 : decode cX5_isBeyond 4 = .ok (.ireturn, 1) := by decide +kernel
theorem dX5_total_0 : decode cX5_total 0 = .ok (.aload_n 0, 1) := by decide +kernel
theorem dX5_total_1 : decode cX5_total 1 = .ok (.getfield 26, 3) := by decide +kernel
theorem dX5_total_4 : decode cX5_total 4 = .ok (.ireturn, 1) := by decide +kernel
theorem dX5_read_0 : decode cX5_read 0 = .ok (.aload_n 0, 1) := by decide +kernel
theorem dX5_read_1 : decode cX5_read 1 = .ok (.iconst 0, 1) := by decide +kernel
theorem dX5_read_2 : decode cX5_read 2 = .ok (.putfield 29, 3) := by decide +kernel
theorem dX5_read_5 : decode cX5_read 5 = .ok (.aload_n 0, 1) := by decide +kernel
theorem dX5_read_6 : decode cX5_read 6 = .ok (.iconst (-1), 1) := by decide +kernel
theorem dX5_read_7 : decode cX5_read 7 = .ok (.putfield 15, 3) := by decide +kernel
theorem dX5_read_10 : decode cX5_read 10 = .ok (.aload_n 0, 1) := by decide +kernel
theorem dX5_read_11 : decode cX5_read 11 = .ok (.iconst 0, 1) := by decide +kernel
theorem dX5_read_12 : decode cX5_read 12 = .ok (.putfield 26, 3) := by decide +kernel
theorem dX5_read_15 : decode cX5_read 15 = .ok (.aload_n 0, 1) := by decide +kernel
theorem dX5_read_16 : decode cX5_read 16 = .ok (.iconst 0, 1) := by decide +kernel
theorem dX5_read_17 : decode cX5_read 17 = .ok (.putfield 22, 3) := by decide +kernel
theorem dX5_read_20 : decode cX5_read 20 = .ok (.iconst 1, 1) := by decide +kernel
theorem dX5_read_21 : decode cX5_read 21 = .ok (.istore_n 2, 1) := by decide +kernel
theorem dX5_read_22 : decode cX5_read 22 = .ok (.iconst 0, 1) := by decide +kernel
theorem dX5_read_23 : decode cX5_read 23 = .ok (.istore_n 3, 1) := by decide +kernel
theorem dX5_read_24 : decode cX5_read 24 = .ok (.iload_n 3, 1) := by decide +kernel
theorem dX5_read_25 : decode cX5_read 25 = .ok (.bipush 60, 2) := by decide +kernel
theorem dX5_read_27 : decode cX5_read 27 = .ok (.if_icmp .ge 82, 3) := by decide +kernel
theorem dX5_read_30 : decode cX5_read 30 = .ok (.aload_n 0, 1) := by decide +kernel
theorem dX5_read_31 : decode cX5_read 31 = .ok (.iload_n 1, 1) := by decide +kernel
theorem dX5_read_32 : decode cX5_read 32 = .ok (.iload_n 2, 1) := by decide +kernel
theorem dX5_read_33 : decode cX5_read 33 = .ok (.invokevirtual 32, 3) := by decide +kernel
theorem dX5_read_36 : decode cX5_read 36 = .ok (.ifCond .eq 14, 3) := by decide +kernel
theorem dX5_read_39 : decode cX5_read 39 = .ok (.aload_n 0, 1) := by decide +kernel
theorem dX5_read_40 : decode cX5_read 40 = .ok (.getfield 29, 3) := by decide +kernel
theorem dX5_read_43 : decode cX5_read 43 = .ok (.aload_n 0, 1) := by decide +kernel
theorem dX5_read_44 : decode cX5_read 44 = .ok (.getfield 19, 3) := by decide +kernel
theorem dX5_read_47 : decode cX5_read 47 = .ok (.if_icmp .lt 4, 3) := by decide +kernel
theorem dX5_read_50 : decode cX5_read 50 = .ok (.return_, 1) := by decide +kernel
theorem dX5_read_51 : decode cX5_read 51 = .ok (.aload_n 0, 1) := by decide +kernel
theorem dX5_read_52 : decode cX5_read 52 = .ok (.bipush 43, 2) := by decide +kernel
theorem dX5_read_54 : decode cX5_read 54 = .ok (.invokevirtual 36, 3) := by decide +kernel
theorem dX5_read_57 : decode cX5_read 57 = .ok (.ifCond .ne 21, 3) := by decide +kernel
theorem dX5_read_60 : decode cX5_read 60 = .ok (.aload_n 0, 1) := by decide +kernel
theorem dX5_read_61 : decode cX5_read 61 = .ok (.bipush 45, 2) := by decide +kernel
theorem dX5_read_63 : decode cX5_read 63 = .ok (.invokevirtual 36, 3) := by decide +kernel
theorem dX5_read_66 : decode cX5_read 66 = .ok (.ifCond .ne 12, 3) := by decide +kernel
theorem dX5_read_69 : decode cX5_read 69 = .ok (.aload_n 0, 1) := by decide +kernel
theorem dX5_read_70 : decode cX5_read 70 = .ok (.aload_n 0, 1) := by decide +kernel
theorem dX5_read_71 : decode cX5_read 71 = .ok (.getfield 29, 3) := by decide +kernel
theorem dX5_read_74 : decode cX5_read 74 = .ok (.putfield 15, 3) := by decide +kernel
theorem dX5_read_77 : decode cX5_read 77 = .ok (.return_, 1) := by decide +kernel
theorem dX5_read_78 : decode cX5_read 78 = .ok (.aload_n 0, 1) := by decide +kernel
theorem dX5_read_79 : decode cX5_read 79 = .ok (.bipush 43, 2) := by decide +kernel
theorem dX5_read_81 : decode cX5_read 81 = .ok (.invokevirtual 36, 3) := by decide +kernel
theorem dX5_read_84 : decode cX5_read 84 = .ok (.ifCond .eq 7, 3) := by decide +kernel
theorem dX5_read_87 : decode cX5_read 87 = .ok (.iconst 1, 1) := by decide +kernel
theorem dX5_read_88 : decode cX5_read 88 = .ok (.goto 4, 3) := by decide +kernel
theorem dX5_read_91 : decode cX5_read 91 = .ok (.iconst (-1), 1) := by decide +kernel
theorem dX5_read_92 : decode cX5_read 92 = .ok (.istore_n 2, 1) := by decide +kernel
theorem dX5_read_93 : decode cX5_read 93 = .ok (.aload_n 0, 1) := by decide +kernel
theorem dX5_read_94 : decode cX5_read 94 = .ok (.dup, 1) := by decide +kernel
theorem dX5_read_95 : decode cX5_read 95 = .ok (.getfield 29, 3) := by decide +kernel
theorem dX5_read_98 : decode cX5_read 98 = .ok (.iconst 1, 1) := by decide +kernel
theorem dX5_read_99 : decode cX5_read 99 = .ok (.iadd, 1) := by decide +kernel
theorem dX5_read_100 : decode cX5_read 100 = .ok (.putfield 29, 3) := by decide +kernel
theorem dX5_read_103 : decode cX5_read 103 = .ok (.iinc 3 1, 3) := by decide +kernel
theorem dX5_read_106 : decode cX5_read 106 = .ok (.goto (-82), 3) := by decide +kernel
theorem dX5_read_109 : decode cX5_read 109 = .ok (.return_, 1) := by decide +kernel
theorem dX5_readNumber_0 : decode cX5_readNumber 0 = .ok (.iconst 0, 1) := by decide +kernel
theorem dX5_readNumber_1 : decode cX5_readNumber 1 = .ok (.istore_n 3, 1) := by decide +kernel
theorem dX5_readNumber_2 : decode cX5_readNumber 2 = .ok (.aload_n 0, 1) := by decide +kernel
theorem dX5_readNumber_3 : decode cX5_readNumber 3 = .ok (.bipush 109, 2) := by decide +kernel
theorem dX5_readNumber_5 : decode cX5_readNumber 5 = .ok (.invokevirtual 36, 3) := by decide +kernel
theorem dX5_readNumber_8 : decode cX5_readNumber 8 = .ok (.ifCond .eq 18, 3) := by decide +kernel
theorem dX5_readNumber_11 : decode cX5_readNumber 11 = .ok (.aload_n 0, 1) := by decide +kernel
theorem dX5_readNumber_12 : decode cX5_readNumber 12 = .ok (.dup, 1) := by decide +kernel
theorem dX5_readNumber_13 : decode cX5_readNumber 13 = .ok (.getfield 29, 3) := by decide +kernel
theorem dX5_readNumber_16 : decode cX5_readNumber 16 = .ok (.iconst 1, 1) := by decide +kernel
theorem dX5_readNumber_17 : decode cX5_readNumber 17 = .ok (.iadd, 1) := by decide +kernel
theorem dX5_readNumber_18 : decode cX5_readNumber 18 = .ok (.putfield 29, 3) := by decide +kernel
theorem dX5_readNumber_21 : decode cX5_readNumber 21 = .ok (.aload_n 0, 1) := by decide +kernel
theorem dX5_readNumber_22 : decode cX5_readNumber 22 = .ok (.invokevirtual 40, 3) := by decide +kernel
theorem dX5_readNumber_25 : decode cX5_readNumber 25 = .ok (.istore_n 3, 1) := by decide +kernel
theorem dX5_readNumber_26 : decode cX5_readNumber 26 = .ok (.iload_n 3, 1) := by decide +kernel
theorem dX5_readNumber_27 : decode cX5_readNumber 27 = .ok (.iconst (-1), 1) := by decide +kernel
theorem dX5_readNumber_28 : decode cX5_readNumber 28 = .ok (.if_icmp .eq 12, 3) := by decide +kernel
theorem dX5_readNumber_31 : decode cX5_readNumber 31 = .ok (.aload_n 0, 1) := by decide +kernel
theorem dX5_readNumber_32 : decode cX5_readNumber 32 = .ok (.bipush 112, 2) := by decide +kernel
theorem dX5_readNumber_34 : decode cX5_readNumber 34 = .ok (.invokevirtual 36, 3) := by decide +kernel
theorem dX5_readNumber_37 : decode cX5_readNumber 37 = .ok (.ifCond .ne 13, 3) := by decide +kernel
theorem dX5_readNumber_40 : decode cX5_readNumber 40 = .ok (.aload_n 0, 1) := by decide +kernel
theorem dX5_readNumber_41 : decode cX5_readNumber 41 = .ok (.aload_n 0, 1) := by decide +kernel
theorem dX5_readNumber_42 : decode cX5_readNumber 42 = .ok (.getfield 29, 3) := by decide +kernel
theorem dX5_readNumber_45 : decode cX5_readNumber 45 = .ok (.putfield 15, 3) := by decide +kernel
theorem dX5_readNumber_48 : decode cX5_readNumber 48 = .ok (.iconst 0, 1) := by decide +kernel
theorem dX5_readNumber_49 : decode cX5_readNumber 49 = .ok (.ireturn, 1) := by decide +kernel
theorem dX5_readNumber_50 : decode cX5_readNumber 50 = .ok (.aload_n 0, 1) := by decide +kernel
theorem dX5_readNumber_51 : decode cX5_readNumber 51 = .ok (.dup, 1) := by decide +kernel
theorem dX5_readNumber_52 : decode cX5_readNumber 52 = .ok (.getfield 29, 3) := by decide +kernel
theorem dX5_readNumber_55 : decode cX5_readNumber 55 = .ok (.iconst 1, 1) := by decide +kernel
theorem dX5_readNumber_56 : decode cX5_readNumber 56 = .ok (.iadd, 1) := by decide +kernel
theorem dX5_readNumber_57 : decode cX5_readNumber 57 = .ok (.putfield 29, 3) := by decide +kernel
theorem dX5_readNumber_60 : decode cX5_readNumber 60 = .ok (.aload_n 0, 1) := by decide +kernel
theorem dX5_readNumber_61 : decode cX5_readNumber 61 = .ok (.getfield 29, 3) := by decide +kernel
theorem dX5_readNumber_64 : decode cX5_readNumber 64 = .ok (.istore 4, 2) := by decide +kernel
theorem dX5_readNumber_66 : decode cX5_readNumber 66 = .ok (.aload_n 0, 1) := by decide +kernel
theorem dX5_readNumber_67 : decode cX5_readNumber 67 = .ok (.invokevirtual 40, 3) := by decide +kernel
theorem dX5_readNumber_70 : decode cX5_readNumber 70 = .ok (.istore 5, 2) := by decide +kernel
theorem dX5_readNumber_72 : decode cX5_readNumber 72 = .ok (.iload 5, 2) := by decide +kernel
theorem dX5_readNumber_74 : decode cX5_readNumber 74 = .ok (.iconst (-1), 1) := by decide +kernel
theorem dX5_readNumber_75 : decode cX5_readNumber 75 = .ok (.if_icmp .eq 8, 3) := by decide +kernel
theorem dX5_readNumber_78 : decode cX5_readNumber 78 = .ok (.iload 5, 2) := by decide +kernel
theorem dX5_readNumber_80 : decode cX5_readNumber 80 = .ok (.ifCond .ne 11, 3) := by decide +kernel
theorem dX5_readNumber_83 : decode cX5_readNumber 83 = .ok (.aload_n 0, 1) := by decide +kernel
theorem dX5_readNumber_84 : decode cX5_readNumber 84 = .ok (.iload 4, 2) := by decide +kernel
theorem dX5_readNumber_86 : decode cX5_readNumber 86 = .ok (.putfield 15, 3) := by decide +kernel
theorem dX5_readNumber_89 : decode cX5_readNumber 89 = .ok (.iconst 0, 1) := by decide +kernel
theorem dX5_readNumber_90 : decode cX5_readNumber 90 = .ok (.ireturn, 1) := by decide +kernel
theorem dX5_readNumber_91 : decode cX5_readNumber 91 = .ok (.aload_n 0, 1) := by decide +kernel
theorem dX5_readNumber_92 : decode cX5_readNumber 92 = .ok (.dup, 1) := by decide +kernel
theorem dX5_readNumber_93 : decode cX5_readNumber 93 = .ok (.getfield 26, 3) := by decide +kernel
theorem dX5_readNumber_96 : decode cX5_readNumber 96 = .ok (.iload_n 2, 1) := by decide +kernel
theorem dX5_readNumber_97 : decode cX5_readNumber 97 = .ok (.iload_n 3, 1) := by decide +kernel
theorem dX5_readNumber_98 : decode cX5_readNumber 98 = .ok (.iload_n 1, 1) := by decide +kernel
theorem dX5_readNumber_99 : decode cX5_readNumber 99 = .ok (.imul, 1) := by decide +kernel
theorem dX5_readNumber_100 : decode cX5_readNumber 100 = .ok (.iload 5, 2) := by decide +kernel
theorem dX5_readNumber_102 : decode cX5_readNumber 102 = .ok (.iadd, 1) := by decide +kernel
theorem dX5_readNumber_103 : decode cX5_readNumber 103 = .ok (.imul, 1) := by decide +kernel
theorem dX5_readNumber_104 : decode cX5_readNumber 104 = .ok (.iadd, 1) := by decide +kernel
theorem dX5_readNumber_105 : decode cX5_readNumber 105 = .ok (.putfield 26, 3) := by decide +kernel
theorem dX5_readNumber_108 : decode cX5_readNumber 108 = .ok (.aload_n 0, 1) := by decide +kernel
theorem dX5_readNumber_109 : decode cX5_readNumber 109 = .ok (.aload_n 0, 1) := by decide +kernel
theorem dX5_readNumber_110 : decode cX5_readNumber 110 = .ok (.getfield 22, 3) := by decide +kernel
theorem dX5_readNumber_113 : decode cX5_readNumber 113 = .ok (.ifCond .ne 9, 3) := by decide +kernel
theorem dX5_readNumber_116 : decode cX5_readNumber 116 = .ok (.iload 5, 2) := by decide +kernel
theorem dX5_readNumber_118 : decode cX5_readNumber 118 = .ok (.iload_n 1, 1) := by decide +kernel
theorem dX5_readNumber_119 : decode cX5_readNumber 119 = .ok (.if_icmp .le 7, 3) := by decide +kernel
theorem dX5_readNumber_122 : decode cX5_readNumber 122 = .ok (.iconst 1, 1) := by decide +kernel
theorem dX5_readNumber_123 : decode cX5_readNumber 123 = .ok (.goto 4, 3) := by decide +kernel
theorem dX5_readNumber_126 : decode cX5_readNumber 126 = .ok (.iconst 0, 1) := by decide +kernel
theorem dX5_readNumber_127 : decode cX5_readNumber 127 = .ok (.putfield 22, 3) := by decide +kernel
theorem dX5_readNumber_130 : decode cX5_readNumber 130 = .ok (.iconst 1, 1) := by decide +kernel
theorem dX5_readNumber_131 : decode cX5_readNumber 131 = .ok (.ireturn, 1) := by decide +kernel
theorem dX5_isNext_0 : decode cX5_isNext 0 = .ok (.aload_n 0, 1) := by decide +kernel
theorem dX5_isNext_1 : decode cX5_isNext 1 = .ok (.getfield 29, 3) := by decide +kernel
theorem dX5_isNext_4 : decode cX5_isNext 4 = .ok (.ifCond .lt 40, 3) := by decide +kernel
theorem dX5_isNext_7 : decode cX5_isNext 7 = .ok (.aload_n 0, 1) := by decide +kernel
theorem dX5_isNext_8 : decode cX5_isNext 8 = .ok (.getfield 29, 3) := by decide +kernel
theorem dX5_isNext_11 : decode cX5_isNext 11 = .ok (.aload_n 0, 1) := by decide +kernel
theorem dX5_isNext_12 : decode cX5_isNext 12 = .ok (.getfield 19, 3) := by decide +kernel
theorem dX5_isNext_15 : decode cX5_isNext 15 = .ok (.if_icmp .ge 29, 3) := by decide +kernel
theorem dX5_isNext_18 : decode cX5_isNext 18 = .ok (.aload_n 0, 1) := by decide +kernel
theorem dX5_isNext_19 : decode cX5_isNext 19 = .ok (.getfield 29, 3) := by decide +kernel
theorem dX5_isNext_22 : decode cX5_isNext 22 = .ok (.bipush 60, 2) := by decide +kernel
theorem dX5_isNext_24 : decode cX5_isNext 24 = .ok (.if_icmp .ge 20, 3) := by decide +kernel
theorem dX5_isNext_27 : decode cX5_isNext 27 = .ok (.aload_n 0, 1) := by decide +kernel
theorem dX5_isNext_28 : decode cX5_isNext 28 = .ok (.getfield 11, 3) := by decide +kernel
theorem dX5_isNext_31 : decode cX5_isNext 31 = .ok (.aload_n 0, 1) := by decide +kernel
theorem dX5_isNext_32 : decode cX5_isNext 32 = .ok (.getfield 29, 3) := by decide +kernel
theorem dX5_isNext_35 : decode cX5_isNext 35 = .ok (.iaload, 1) := by decide +kernel
theorem dX5_isNext_36 : decode cX5_isNext 36 = .ok (.iload_n 1, 1) := by decide +kernel
theorem dX5_isNext_37 : decode cX5_isNext 37 = .ok (.if_icmp .ne 7, 3) := by decide +kernel
theorem dX5_isNext_40 : decode cX5_isNext 40 = .ok (.iconst 1, 1) := by decide +kernel
theorem dX5_isNext_41 : decode cX5_isNext 41 = .ok (.goto 4, 3) := by decide +kernel
theorem dX5_isNext_44 : decode cX5_isNext 44 = .ok (.iconst 0, 1) := by decide +kernel
theorem dX5_isNext_45 : decode cX5_isNext 45 = .ok (.ireturn, 1) := by decide +kernel
theorem dX5_figureHere_0 : decode cX5_figureHere 0 = .ok (.aload_n 0, 1) := by decide +kernel
theorem dX5_figureHere_1 : decode cX5_figureHere 1 = .ok (.getfield 29, 3) := by decide +kernel
theorem dX5_figureHere_4 : decode cX5_figureHere 4 = .ok (.ifCond .lt 57, 3) := by decide +kernel
theorem dX5_figureHere_7 : decode cX5_figureHere 7 = .ok (.aload_n 0, 1) := by decide +kernel
theorem dX5_figureHere_8 : decode cX5_figureHere 8 = .ok (.getfield 29, 3) := by decide +kernel
theorem dX5_figureHere_11 : decode cX5_figureHere 11 = .ok (.aload_n 0, 1) := by decide +kernel
theorem dX5_figureHere_12 : decode cX5_figureHere 12 = .ok (.getfield 19, 3) := by decide +kernel
theorem dX5_figureHere_15 : decode cX5_figureHere 15 = .ok (.if_icmp .ge 46, 3) := by decide +kernel
theorem dX5_figureHere_18 : decode cX5_figureHere 18 = .ok (.aload_n 0, 1) := by decide +kernel
theorem dX5_figureHere_19 : decode cX5_figureHere 19 = .ok (.getfield 29, 3) := by decide +kernel
theorem dX5_figureHere_22 : decode cX5_figureHere 22 = .ok (.bipush 60, 2) := by decide +kernel
theorem dX5_figureHere_24 : decode cX5_figureHere 24 = .ok (.if_icmp .ge 37, 3) := by decide +kernel
theorem dX5_figureHere_27 : decode cX5_figureHere 27 = .ok (.aload_n 0, 1) := by decide +kernel
theorem dX5_figureHere_28 : decode cX5_figureHere 28 = .ok (.getfield 11, 3) := by decide +kernel
theorem dX5_figureHere_31 : decode cX5_figureHere 31 = .ok (.aload_n 0, 1) := by decide +kernel
theorem dX5_figureHere_32 : decode cX5_figureHere 32 = .ok (.getfield 29, 3) := by decide +kernel
theorem dX5_figureHere_35 : decode cX5_figureHere 35 = .ok (.iaload, 1) := by decide +kernel
theorem dX5_figureHere_36 : decode cX5_figureHere 36 = .ok (.bipush 48, 2) := by decide +kernel
theorem dX5_figureHere_38 : decode cX5_figureHere 38 = .ok (.bipush 57, 2) := by decide +kernel
theorem dX5_figureHere_40 : decode cX5_figureHere 40 = .ok (.invokestatic 44, 3) := by decide +kernel
theorem dX5_figureHere_43 : decode cX5_figureHere 43 = .ok (.ifCond .eq 18, 3) := by decide +kernel
theorem dX5_figureHere_46 : decode cX5_figureHere 46 = .ok (.aload_n 0, 1) := by decide +kernel
theorem dX5_figureHere_47 : decode cX5_figureHere 47 = .ok (.getfield 11, 3) := by decide +kernel
theorem dX5_figureHere_50 : decode cX5_figureHere 50 = .ok (.aload_n 0, 1) := by decide +kernel
theorem dX5_figureHere_51 : decode cX5_figureHere 51 = .ok (.getfield 29, 3) := by decide +kernel
theorem dX5_figureHere_54 : decode cX5_figureHere 54 = .ok (.iaload, 1) := by decide +kernel
theorem dX5_figureHere_55 : decode cX5_figureHere 55 = .ok (.bipush 48, 2) := by decide +kernel
theorem dX5_figureHere_57 : decode cX5_figureHere 57 = .ok (.isub, 1) := by decide +kernel
theorem dX5_figureHere_58 : decode cX5_figureHere 58 = .ok (.goto 4, 3) := by decide +kernel
theorem dX5_figureHere_61 : decode cX5_figureHere 61 = .ok (.iconst (-1), 1) := by decide +kernel
theorem dX5_figureHere_62 : decode cX5_figureHere 62 = .ok (.ireturn, 1) := by decide +kernel
theorem dX5_readFigures_0 : decode cX5_readFigures 0 = .ok (.aload_n 0, 1) := by decide +kernel
theorem dX5_readFigures_1 : decode cX5_readFigures 1 = .ok (.invokevirtual 48, 3) := by decide +kernel
theorem dX5_readFigures_4 : decode cX5_readFigures 4 = .ok (.istore_n 1, 1) := by decide +kernel
theorem dX5_readFigures_5 : decode cX5_readFigures 5 = .ok (.iload_n 1, 1) := by decide +kernel
theorem dX5_readFigures_6 : decode cX5_readFigures 6 = .ok (.iconst (-1), 1) := by decide +kernel
theorem dX5_readFigures_7 : decode cX5_readFigures 7 = .ok (.if_icmp .ne 5, 3) := by decide +kernel
theorem dX5_readFigures_10 : decode cX5_readFigures 10 = .ok (.iconst (-1), 1) := by decide +kernel
theorem dX5_readFigures_11 : decode cX5_readFigures 11 = .ok (.ireturn, 1) := by decide +kernel
theorem dX5_readFigures_12 : decode cX5_readFigures 12 = .ok (.aload_n 0, 1) := by decide +kernel
theorem dX5_readFigures_13 : decode cX5_readFigures 13 = .ok (.dup, 1) := by decide +kernel
theorem dX5_readFigures_14 : decode cX5_readFigures 14 = .ok (.getfield 29, 3) := by decide +kernel
theorem dX5_readFigures_17 : decode cX5_readFigures 17 = .ok (.iconst 1, 1) := by decide +kernel
theorem dX5_readFigures_18 : decode cX5_readFigures 18 = .ok (.iadd, 1) := by decide +kernel
theorem dX5_readFigures_19 : decode cX5_readFigures 19 = .ok (.putfield 29, 3) := by decide +kernel
theorem dX5_readFigures_22 : decode cX5_readFigures 22 = .ok (.aload_n 0, 1) := by decide +kernel
theorem dX5_readFigures_23 : decode cX5_readFigures 23 = .ok (.invokevirtual 48, 3) := by decide +kernel
theorem dX5_readFigures_26 : decode cX5_readFigures 26 = .ok (.istore_n 2, 1) := by decide +kernel
theorem dX5_readFigures_27 : decode cX5_readFigures 27 = .ok (.iload_n 2, 1) := by decide +kernel
theorem dX5_readFigures_28 : decode cX5_readFigures 28 = .ok (.iconst (-1), 1) := by decide +kernel
theorem dX5_readFigures_29 : decode cX5_readFigures 29 = .ok (.if_icmp .ne 5, 3) := by decide +kernel
theorem dX5_readFigures_32 : decode cX5_readFigures 32 = .ok (.iload_n 1, 1) := by decide +kernel
theorem dX5_readFigures_33 : decode cX5_readFigures 33 = .ok (.ireturn, 1) := by decide +kernel
theorem dX5_readFigures_34 : decode cX5_readFigures 34 = .ok (.aload_n 0, 1) := by decide +kernel
theorem dX5_readFigures_35 : decode cX5_readFigures 35 = .ok (.dup, 1) := by decide +kernel
theorem dX5_readFigures_36 : decode cX5_readFigures 36 = .ok (.getfield 29, 3) := by decide +kernel
theorem dX5_readFigures_39 : decode cX5_readFigures 39 = .ok (.iconst 1, 1) := by decide +kernel
theorem dX5_readFigures_40 : decode cX5_readFigures 40 = .ok (.iadd, 1) := by decide +kernel
theorem dX5_readFigures_41 : decode cX5_readFigures 41 = .ok (.putfield 29, 3) := by decide +kernel
theorem dX5_readFigures_44 : decode cX5_readFigures 44 = .ok (.bipush 10, 2) := by decide +kernel
theorem dX5_readFigures_46 : decode cX5_readFigures 46 = .ok (.iload_n 1, 1) := by decide +kernel
theorem dX5_readFigures_47 : decode cX5_readFigures 47 = .ok (.imul, 1) := by decide +kernel
theorem dX5_readFigures_48 : decode cX5_readFigures 48 = .ok (.iload_n 2, 1) := by decide +kernel
theorem dX5_readFigures_49 : decode cX5_readFigures 49 = .ok (.iadd, 1) := by decide +kernel
theorem dX5_readFigures_50 : decode cX5_readFigures 50 = .ok (.ireturn, 1) := by decide +kernel
theorem dJ6_bitCount_0f7a4_0 : decode cJ6_bitCount_0f7a4 0 = .ok (.iload_n 0, 1) := by decide +kernel
theorem dJ6_bitCount_0f7a4_1 : decode cJ6_bitCount_0f7a4 1 = .ok (.iload_n 0, 1) := by decide +kernel
theorem dJ6_bitCount_0f7a4_2 : decode cJ6_bitCount_0f7a4 2 = .ok (.iconst 1, 1) := by decide +kernel
theorem dJ6_bitCount_0f7a4_3 : decode cJ6_bitCount_0f7a4 3 = .ok (.iushr, 1) := by decide +kernel
theorem dJ6_bitCount_0f7a4_4 : decode cJ6_bitCount_0f7a4 4 = .ok (.ldc_w 265, 3) := by decide +kernel
theorem dJ6_bitCount_0f7a4_7 : decode cJ6_bitCount_0f7a4 7 = .ok (.iand, 1) := by decide +kernel
theorem dJ6_bitCount_0f7a4_8 : decode cJ6_bitCount_0f7a4 8 = .ok (.isub, 1) := by decide +kernel
theorem dJ6_bitCount_0f7a4_9 : decode cJ6_bitCount_0f7a4 9 = .ok (.istore_n 0, 1) := by decide +kernel
theorem dJ6_bitCount_0f7a4_10 : decode cJ6_bitCount_0f7a4 10 = .ok (.iload_n 0, 1) := by decide +kernel
theorem dJ6_bitCount_0f7a4_11 : decode cJ6_bitCount_0f7a4 11 = .ok (.ldc_w 266, 3) := by decide +kernel
theorem dJ6_bitCount_0f7a4_14 : decode cJ6_bitCount_0f7a4 14 = .ok (.iand, 1) := by decide +kernel
theorem dJ6_bitCount_0f7a4_15 : decode cJ6_bitCount_0f7a4 15 = .ok (.iload_n 0, 1) := by decide +kernel
theorem dJ6_bitCount_0f7a4_16 : decode cJ6_bitCount_0f7a4 16 = .ok (.iconst 2, 1) := by decide +kernel
theorem dJ6_bitCount_0f7a4_17 : decode cJ6_bitCount_0f7a4 17 = .ok (.iushr, 1) := by decide +kernel
theorem dJ6_bitCount_0f7a4_18 : decode cJ6_bitCount_0f7a4 18 = .ok (.ldc_w 266, 3) := by decide +kernel
theorem dJ6_bitCount_0f7a4_21 : decode cJ6_bitCount_0f7a4 21 = .ok (.iand, 1) := by decide +kernel
theorem dJ6_bitCount_0f7a4_22 : decode cJ6_bitCount_0f7a4 22 = .ok (.iadd, 1) := by decide +kernel
theorem dJ6_bitCount_0f7a4_23 : decode cJ6_bitCount_0f7a4 23 = .ok (.istore_n 0, 1) := by decide +kernel
theorem dJ6_bitCount_0f7a4_24 : decode cJ6_bitCount_0f7a4 24 = .ok (.iload_n 0, 1) := by decide +kernel
theorem dJ6_bitCount_0f7a4_25 : decode cJ6_bitCount_0f7a4 25 = .ok (.iload_n 0, 1) := by decide +kernel
theorem dJ6_bitCount_0f7a4_26 : decode cJ6_bitCount_0f7a4 26 = .ok (.iconst 4, 1) := by decide +kernel
theorem dJ6_bitCount_0f7a4_27 : decode cJ6_bitCount_0f7a4 27 = .ok (.iushr, 1) := by decide +kernel
theorem dJ6_bitCount_0f7a4_28 : decode cJ6_bitCount_0f7a4 28 = .ok (.iadd, 1) := by decide +kernel
theorem dJ6_bitCount_0f7a4_29 : decode cJ6_bitCount_0f7a4 29 = .ok (.ldc_w 267, 3) := by decide +kernel
theorem dJ6_bitCount_0f7a4_32 : decode cJ6_bitCount_0f7a4 32 = .ok (.iand, 1) := by decide +kernel
theorem dJ6_bitCount_0f7a4_33 : decode cJ6_bitCount_0f7a4 33 = .ok (.istore_n 0, 1) := by decide +kernel
theorem dJ6_bitCount_0f7a4_34 : decode cJ6_bitCount_0f7a4 34 = .ok (.iload_n 0, 1) := by decide +kernel
theorem dJ6_bitCount_0f7a4_35 : decode cJ6_bitCount_0f7a4 35 = .ok (.iload_n 0, 1) := by decide +kernel
theorem dJ6_bitCount_0f7a4_36 : decode cJ6_bitCount_0f7a4 36 = .ok (.bipush 8, 2) := by decide +kernel
theorem dJ6_bitCount_0f7a4_38 : decode cJ6_bitCount_0f7a4 38 = .ok (.iushr, 1) := by decide +kernel
theorem dJ6_bitCount_0f7a4_39 : decode cJ6_bitCount_0f7a4 39 = .ok (.iadd, 1) := by decide +kernel
theorem dJ6_bitCount_0f7a4_40 : decode cJ6_bitCount_0f7a4 40 = .ok (.istore_n 0, 1) := by decide +kernel
theorem dJ6_bitCount_0f7a4_41 : decode cJ6_bitCount_0f7a4 41 = .ok (.iload_n 0, 1) := by decide +kernel
theorem dJ6_bitCount_0f7a4_42 : decode cJ6_bitCount_0f7a4 42 = .ok (.iload_n 0, 1) := by decide +kernel
theorem dJ6_bitCount_0f7a4_43 : decode cJ6_bitCount_0f7a4 43 = .ok (.bipush 16, 2) := by decide +kernel
theorem dJ6_bitCount_0f7a4_45 : decode cJ6_bitCount_0f7a4 45 = .ok (.iushr, 1) := by decide +kernel
theorem dJ6_bitCount_0f7a4_46 : decode cJ6_bitCount_0f7a4 46 = .ok (.iadd, 1) := by decide +kernel
theorem dJ6_bitCount_0f7a4_47 : decode cJ6_bitCount_0f7a4 47 = .ok (.istore_n 0, 1) := by decide +kernel
theorem dJ6_bitCount_0f7a4_48 : decode cJ6_bitCount_0f7a4 48 = .ok (.iload_n 0, 1) := by decide +kernel
theorem dJ6_bitCount_0f7a4_49 : decode cJ6_bitCount_0f7a4 49 = .ok (.bipush 63, 2) := by decide +kernel
theorem dJ6_bitCount_0f7a4_51 : decode cJ6_bitCount_0f7a4 51 = .ok (.iand, 1) := by decide +kernel
theorem dJ6_bitCount_0f7a4_52 : decode cJ6_bitCount_0f7a4 52 = .ok (.ireturn, 1) := by decide +kernel
theorem dJ13_bitCount_95d88_0 : decode cJ13_bitCount_95d88 0 = .ok (.lload_n 0, 1) := by decide +kernel
theorem dJ13_bitCount_95d88_1 : decode cJ13_bitCount_95d88 1 = .ok (.lload_n 0, 1) := by decide +kernel
theorem dJ13_bitCount_95d88_2 : decode cJ13_bitCount_95d88 2 = .ok (.iconst 1, 1) := by decide +kernel
theorem dJ13_bitCount_95d88_3 : decode cJ13_bitCount_95d88 3 = .ok (.lushr, 1) := by decide +kernel
theorem dJ13_bitCount_95d88_4 : decode cJ13_bitCount_95d88 4 = .ok (.ldc2_w 314, 3) := by decide +kernel
theorem dJ13_bitCount_95d88_7 : decode cJ13_bitCount_95d88 7 = .ok (.land, 1) := by decide +kernel
theorem dJ13_bitCount_95d88_8 : decode cJ13_bitCount_95d88 8 = .ok (.lsub, 1) := by decide +kernel
theorem dJ13_bitCount_95d88_9 : decode cJ13_bitCount_95d88 9 = .ok (.lstore_n 0, 1) := by decide +kernel
theorem dJ13_bitCount_95d88_10 : decode cJ13_bitCount_95d88 10 = .ok (.lload_n 0, 1) := by decide +kernel
theorem dJ13_bitCount_95d88_11 : decode cJ13_bitCount_95d88 11 = .ok (.ldc2_w 316, 3) := by decide +kernel
theorem dJ13_bitCount_95d88_14 : decode cJ13_bitCount_95d88 14 = .ok (.land, 1) := by decide +kernel
theorem dJ13_bitCount_95d88_15 : decode cJ13_bitCount_95d88 15 = .ok (.lload_n 0, 1) := by decide +kernel
theorem dJ13_bitCount_95d88_16 : decode cJ13_bitCount_95d88 16 = .ok (.iconst 2, 1) := by decide +kernel
theorem dJ13_bitCount_95d88_17 : decode cJ13_bitCount_95d88 17 = .ok (.lushr, 1) := by decide +kernel
theorem dJ13_bitCount_95d88_18 : decode cJ13_bitCount_95d88 18 = .ok (.ldc2_w 316, 3) := by decide +kernel
theorem dJ13_bitCount_95d88_21 : decode cJ13_bitCount_95d88 21 = .ok (.land, 1) := by decide +kernel
theorem dJ13_bitCount_95d88_22 : decode cJ13_bitCount_95d88 22 = .ok (.ladd, 1) := by decide +kernel
theorem dJ13_bitCount_95d88_23 : decode cJ13_bitCount_95d88 23 = .ok (.lstore_n 0, 1) := by decide +kernel
theorem dJ13_bitCount_95d88_24 : decode cJ13_bitCount_95d88 24 = .ok (.lload_n 0, 1) := by decide +kernel
theorem dJ13_bitCount_95d88_25 : decode cJ13_bitCount_95d88 25 = .ok (.lload_n 0, 1) := by decide +kernel
theorem dJ13_bitCount_95d88_26 : decode cJ13_bitCount_95d88 26 = .ok (.iconst 4, 1) := by decide +kernel
theorem dJ13_bitCount_95d88_27 : decode cJ13_bitCount_95d88 27 = .ok (.lushr, 1) := by decide +kernel
theorem dJ13_bitCount_95d88_28 : decode cJ13_bitCount_95d88 28 = .ok (.ladd, 1) := by decide +kernel
theorem dJ13_bitCount_95d88_29 : decode cJ13_bitCount_95d88 29 = .ok (.ldc2_w 318, 3) := by decide +kernel
theorem dJ13_bitCount_95d88_32 : decode cJ13_bitCount_95d88 32 = .ok (.land, 1) := by decide +kernel
theorem dJ13_bitCount_95d88_33 : decode cJ13_bitCount_95d88 33 = .ok (.lstore_n 0, 1) := by decide +kernel
theorem dJ13_bitCount_95d88_34 : decode cJ13_bitCount_95d88 34 = .ok (.lload_n 0, 1) := by decide +kernel
theorem dJ13_bitCount_95d88_35 : decode cJ13_bitCount_95d88 35 = .ok (.lload_n 0, 1) := by decide +kernel
theorem dJ13_bitCount_95d88_36 : decode cJ13_bitCount_95d88 36 = .ok (.bipush 8, 2) := by decide +kernel
theorem dJ13_bitCount_95d88_38 : decode cJ13_bitCount_95d88 38 = .ok (.lushr, 1) := by decide +kernel
theorem dJ13_bitCount_95d88_39 : decode cJ13_bitCount_95d88 39 = .ok (.ladd, 1) := by decide +kernel
theorem dJ13_bitCount_95d88_40 : decode cJ13_bitCount_95d88 40 = .ok (.lstore_n 0, 1) := by decide +kernel
theorem dJ13_bitCount_95d88_41 : decode cJ13_bitCount_95d88 41 = .ok (.lload_n 0, 1) := by decide +kernel
theorem dJ13_bitCount_95d88_42 : decode cJ13_bitCount_95d88 42 = .ok (.lload_n 0, 1) := by decide +kernel
theorem dJ13_bitCount_95d88_43 : decode cJ13_bitCount_95d88 43 = .ok (.bipush 16, 2) := by decide +kernel
theorem dJ13_bitCount_95d88_45 : decode cJ13_bitCount_95d88 45 = .ok (.lushr, 1) := by decide +kernel
theorem dJ13_bitCount_95d88_46 : decode cJ13_bitCount_95d88 46 = .ok (.ladd, 1) := by decide +kernel
theorem dJ13_bitCount_95d88_47 : decode cJ13_bitCount_95d88 47 = .ok (.lstore_n 0, 1) := by decide +kernel
theorem dJ13_bitCount_95d88_48 : decode cJ13_bitCount_95d88 48 = .ok (.lload_n 0, 1) := by decide +kernel
theorem dJ13_bitCount_95d88_49 : decode cJ13_bitCount_95d88 49 = .ok (.lload_n 0, 1) := by decide +kernel
theorem dJ13_bitCount_95d88_50 : decode cJ13_bitCount_95d88 50 = .ok (.bipush 32, 2) := by decide +kernel
theorem dJ13_bitCount_95d88_52 : decode cJ13_bitCount_95d88 52 = .ok (.lushr, 1) := by decide +kernel
theorem dJ13_bitCount_95d88_53 : decode cJ13_bitCount_95d88 53 = .ok (.ladd, 1) := by decide +kernel
theorem dJ13_bitCount_95d88_54 : decode cJ13_bitCount_95d88 54 = .ok (.lstore_n 0, 1) := by decide +kernel
theorem dJ13_bitCount_95d88_55 : decode cJ13_bitCount_95d88 55 = .ok (.lload_n 0, 1) := by decide +kernel
theorem dJ13_bitCount_95d88_56 : decode cJ13_bitCount_95d88 56 = .ok (.l2i, 1) := by decide +kernel
theorem dJ13_bitCount_95d88_57 : decode cJ13_bitCount_95d88 57 = .ok (.bipush 127, 2) := by decide +kernel
theorem dJ13_bitCount_95d88_59 : decode cJ13_bitCount_95d88 59 = .ok (.iand, 1) := by decide +kernel
theorem dJ13_bitCount_95d88_60 : decode cJ13_bitCount_95d88 60 = .ok (.ireturn, 1) := by decide +kernel
theorem dJ9_max_7cf53_0 : decode cJ9_max_7cf53 0 = .ok (.iload_n 0, 1) := by decide +kernel
theorem dJ9_max_7cf53_1 : decode cJ9_max_7cf53 1 = .ok (.iload_n 1, 1) := by decide +kernel
theorem dJ9_max_7cf53_2 : decode cJ9_max_7cf53 2 = .ok (.if_icmp .lt 7, 3) := by decide +kernel
theorem dJ9_max_7cf53_5 : decode cJ9_max_7cf53 5 = .ok (.iload_n 0, 1) := by decide +kernel
theorem dJ9_max_7cf53_6 : decode cJ9_max_7cf53 6 = .ok (.goto 4, 3) := by decide +kernel
theorem dJ9_max_7cf53_9 : decode cJ9_max_7cf53 9 = .ok (.iload_n 1, 1) := by decide +kernel
theorem dJ9_max_7cf53_10 : decode cJ9_max_7cf53 10 = .ok (.ireturn, 1) := by decide +kernel
theorem dJ9_min_7cf53_0 : decode cJ9_min_7cf53 0 = .ok (.iload_n 0, 1) := by decide +kernel
theorem dJ9_min_7cf53_1 : decode cJ9_min_7cf53 1 = .ok (.iload_n 1, 1) := by decide +kernel
theorem dJ9_min_7cf53_2 : decode cJ9_min_7cf53 2 = .ok (.if_icmp .gt 7, 3) := by decide +kernel
theorem dJ9_min_7cf53_5 : decode cJ9_min_7cf53 5 = .ok (.iload_n 0, 1) := by decide +kernel
theorem dJ9_min_7cf53_6 : decode cJ9_min_7cf53 6 = .ok (.goto 4, 3) := by decide +kernel
theorem dJ9_min_7cf53_9 : decode cJ9_min_7cf53 9 = .ok (.iload_n 1, 1) := by decide +kernel
theorem dJ9_min_7cf53_10 : decode cJ9_min_7cf53 10 = .ok (.ireturn, 1) := by decide +kernel
theorem dJ7_fill_d0a16_0 : decode cJ7_fill_d0a16 0 = .ok (.iconst 0, 1) := by decide +kernel
theorem dJ7_fill_d0a16_1 : decode cJ7_fill_d0a16 1 = .ok (.istore_n 3, 1) := by decide +kernel
theorem dJ7_fill_d0a16_2 : decode cJ7_fill_d0a16 2 = .ok (.aload_n 0, 1) := by decide +kernel
theorem dJ7_fill_d0a16_3 : decode cJ7_fill_d0a16 3 = .ok (.arraylength, 1) := by decide +kernel
theorem dJ7_fill_d0a16_4 : decode cJ7_fill_d0a16 4 = .ok (.istore 4, 2) := by decide +kernel
theorem dJ7_fill_d0a16_6 : decode cJ7_fill_d0a16 6 = .ok (.iload_n 3, 1) := by decide +kernel
theorem dJ7_fill_d0a16_7 : decode cJ7_fill_d0a16 7 = .ok (.iload 4, 2) := by decide +kernel
theorem dJ7_fill_d0a16_9 : decode cJ7_fill_d0a16 9 = .ok (.if_icmp .ge 13, 3) := by decide +kernel
theorem dJ7_fill_d0a16_12 : decode cJ7_fill_d0a16 12 = .ok (.aload_n 0, 1) := by decide +kernel
theorem dJ7_fill_d0a16_13 : decode cJ7_fill_d0a16 13 = .ok (.iload_n 3, 1) := by decide +kernel
theorem dJ7_fill_d0a16_14 : decode cJ7_fill_d0a16 14 = .ok (.lload_n 1, 1) := by decide +kernel
theorem dJ7_fill_d0a16_15 : decode cJ7_fill_d0a16 15 = .ok (.lastore, 1) := by decide +kernel
theorem dJ7_fill_d0a16_16 : decode cJ7_fill_d0a16 16 = .ok (.iinc 3 1, 3) := by decide +kernel
theorem dJ7_fill_d0a16_19 : decode cJ7_fill_d0a16 19 = .ok (.goto (-13), 3) := by decide +kernel
theorem dJ7_fill_d0a16_22 : decode cJ7_fill_d0a16 22 = .ok (.return_, 1) := by decide +kernel
theorem dJ7_fill_53178_0 : decode cJ7_fill_53178 0 = .ok (.iconst 0, 1) := by decide +kernel
theorem dJ7_fill_53178_1 : decode cJ7_fill_53178 1 = .ok (.istore_n 2, 1) := by decide +kernel
theorem dJ7_fill_53178_2 : decode cJ7_fill_53178 2 = .ok (.aload_n 0, 1) := by decide +kernel
theorem dJ7_fill_53178_3 : decode cJ7_fill_53178 3 = .ok (.arraylength, 1) := by decide +kernel
theorem dJ7_fill_53178_4 : decode cJ7_fill_53178 4 = .ok (.istore_n 3, 1) := by decide +kernel
theorem dJ7_fill_53178_5 : decode cJ7_fill_53178 5 = .ok (.iload_n 2, 1) := by decide +kernel
theorem dJ7_fill_53178_6 : decode cJ7_fill_53178 6 = .ok (.iload_n 3, 1) := by decide +kernel
theorem dJ7_fill_53178_7 : decode cJ7_fill_53178 7 = .ok (.if_icmp .ge 13, 3) := by decide +kernel
theorem dJ7_fill_53178_10 : decode cJ7_fill_53178 10 = .ok (.aload_n 0, 1) := by decide +kernel
theorem dJ7_fill_53178_11 : decode cJ7_fill_53178 11 = .ok (.iload_n 2, 1) := by decide +kernel
theorem dJ7_fill_53178_12 : decode cJ7_fill_53178 12 = .ok (.iload_n 1, 1) := by decide +kernel
theorem dJ7_fill_53178_13 : decode cJ7_fill_53178 13 = .ok (.iastore, 1) := by decide +kernel
theorem dJ7_fill_53178_14 : decode cJ7_fill_53178 14 = .ok (.iinc 2 1, 3) := by decide +kernel
theorem dJ7_fill_53178_17 : decode cJ7_fill_53178 17 = .ok (.goto (-12), 3) := by decide +kernel
theorem dJ7_fill_53178_20 : decode cJ7_fill_53178 20 = .ok (.return_, 1) := by decide +kernel
