theorem dX7_init_0 : decode cX7_init 0 = .ok (.aload_n 0, 1) := by decide +kernel
theorem dX7_init_1 : decode cX7_init 1 = .ok (.invokespecial 1, 3) := by decide +kernel
theorem dX7_init_4 : decode cX7_init 4 = .ok (.aload_n 0, 1) := by decide +kernel
theorem dX7_init_5 : decode cX7_init 5 = .ok (.bipush 126, 2) := by decide +kernel
theorem dX7_init_7 : decode cX7_init 7 = .ok (.newarray .int, 2) := by decide +kernel
theorem dX7_init_9 : decode cX7_init 9 = .ok (.putfield 7, 3) := by decide +kernel
theorem dX7_init_12 : decode cX7_init 12 = .ok (.aload_n 0, 1) := by decide +kernel
theorem dX7_init_13 : decode cX7_init 13 = .ok (.bipush 6, 2) := by decide +kernel
theorem dX7_init_15 : decode cX7_init 15 = .ok (.newarray .int, 2) := by decide +kernel
theorem dX7_init_17 : decode cX7_init 17 = .ok (.putfield 13, 3) := by decide +kernel
theorem dX7_init_20 : decode cX7_init 20 = .ok (.aload_n 0, 1) := by decide +kernel
theorem dX7_init_21 : decode cX7_init 21 = .ok (.bipush 6, 2) := by decide +kernel
theorem dX7_init_23 : decode cX7_init 23 = .ok (.newarray .boolean, 2) := by decide +kernel
theorem dX7_init_25 : decode cX7_init 25 = .ok (.putfield 16, 3) := by decide +kernel
theorem dX7_init_28 : decode cX7_init 28 = .ok (.aload_n 0, 1) := by decide +kernel
theorem dX7_init_29 : decode cX7_init 29 = .ok (.bipush 6, 2) := by decide +kernel
theorem dX7_init_31 : decode cX7_init 31 = .ok (.newarray .int, 2) := by decide +kernel
theorem dX7_init_33 : decode cX7_init 33 = .ok (.putfield 20, 3) := by decide +kernel
theorem dX7_init_36 : decode cX7_init 36 = .ok (.aload_n 0, 1) := by decide +kernel
theorem dX7_init_37 : decode cX7_init 37 = .ok (.bipush 30, 2) := by decide +kernel
theorem dX7_init_39 : decode cX7_init 39 = .ok (.putfield 23, 3) := by decide +kernel
theorem dX7_init_42 : decode cX7_init 42 = .ok (.aload_n 0, 1) := by decide +kernel
theorem dX7_init_43 : decode cX7_init 43 = .ok (.bipush 48, 2) := by decide +kernel
theorem dX7_init_45 : decode cX7_init 45 = .ok (.newarray .int, 2) := by decide +kernel
theorem dX7_init_47 : decode cX7_init 47 = .ok (.putfield 27, 3) := by decide +kernel
theorem dX7_init_50 : decode cX7_init 50 = .ok (.aload_n 0, 1) := by decide +kernel
theorem dX7_init_51 : decode cX7_init 51 = .ok (.iconst 3, 1) := by decide +kernel
theorem dX7_init_52 : decode cX7_init 52 = .ok (.newarray .int, 2) := by decide +kernel
theorem dX7_init_54 : decode cX7_init 54 = .ok (.putfield 30, 3) := by decide +kernel
theorem dX7_init_57 : decode cX7_init 57 = .ok (.aload_n 0, 1) := by decide +kernel
theorem dX7_init_58 : decode cX7_init 58 = .ok (.sipush 256, 3) := by decide +kernel
theorem dX7_init_61 : decode cX7_init 61 = .ok (.newarray .boolean, 2) := by decide +kernel
theorem dX7_init_63 : decode cX7_init 63 = .ok (.putfield 33, 3) := by decide +kernel
theorem dX7_init_66 : decode cX7_init 66 = .ok (.aload_n 0, 1) := by decide +kernel
theorem dX7_init_67 : decode cX7_init 67 = .ok (.bipush 8, 2) := by decide +kernel
theorem dX7_init_69 : decode cX7_init 69 = .ok (.newarray .int, 2) := by decide +kernel
theorem dX7_init_71 : decode cX7_init 71 = .ok (.putfield 36, 3) := by decide +kernel
theorem dX7_init_74 : decode cX7_init 74 = .ok (.aload_n 0, 1) := by decide +kernel
theorem dX7_init_75 : decode cX7_init 75 = .ok (.bipush 64, 2) := by decide +kernel
theorem dX7_init_77 : decode cX7_init 77 = .ok (.newarray .int, 2) := by decide +kernel
theorem dX7_init_79 : decode cX7_init 79 = .ok (.putfield 39, 3) := by decide +kernel
theorem dX7_init_82 : decode cX7_init 82 = .ok (.aload_n 0, 1) := by decide +kernel
theorem dX7_init_83 : decode cX7_init 83 = .ok (.bipush 8, 2) := by decide +kernel
theorem dX7_init_85 : decode cX7_init 85 = .ok (.newarray .int, 2) := by decide +kernel
theorem dX7_init_87 : decode cX7_init 87 = .ok (.putfield 42, 3) := by decide +kernel
theorem dX7_init_90 : decode cX7_init 90 = .ok (.aload_n 0, 1) := by decide +kernel
theorem dX7_init_91 : decode cX7_init 91 = .ok (.bipush 8, 2) := by decide +kernel
theorem dX7_init_93 : decode cX7_init 93 = .ok (.newarray .int, 2) := by decide +kernel
theorem dX7_init_95 : decode cX7_init 95 = .ok (.putfield 45, 3) := by decide +kernel
theorem dX7_init_98 : decode cX7_init 98 = .ok (.aload_n 0, 1) := by decide +kernel
theorem dX7_init_99 : decode cX7_init 99 = .ok (.bipush 8, 2) := by decide +kernel
theorem dX7_init_101 : decode cX7_init 101 = .ok (.newarray .int, 2) := by decide +kernel
theorem dX7_init_103 : decode cX7_init 103 = .ok (.putfield 48, 3) := by decide +kernel
theorem dX7_init_106 : decode cX7_init 106 = .ok (.aload_n 0, 1) := by decide +kernel
theorem dX7_init_107 : decode cX7_init 107 = .ok (.sipush 240, 3) := by decide +kernel
theorem dX7_init_110 : decode cX7_init 110 = .ok (.newarray .int, 2) := by decide +kernel
theorem dX7_init_112 : decode cX7_init 112 = .ok (.putfield 51, 3) := by decide +kernel
theorem dX7_init_115 : decode cX7_init 115 = .ok (.aload_n 0, 1) := by decide +kernel
theorem dX7_init_116 : decode cX7_init 116 = .ok (.sipush 961, 3) := by decide +kernel
theorem dX7_init_119 : decode cX7_init 119 = .ok (.newarray .int, 2) := by decide +kernel
theorem dX7_init_121 : decode cX7_init 121 = .ok (.putfield 54, 3) := by decide +kernel
theorem dX7_init_124 : decode cX7_init 124 = .ok (.aload_n 0, 1) := by decide +kernel
theorem dX7_init_125 : decode cX7_init 125 = .ok (.bipush 60, 2) := by decide +kernel
theorem dX7_init_127 : decode cX7_init 127 = .ok (.newarray .int, 2) := by decide +kernel
theorem dX7_init_129 : decode cX7_init 129 = .ok (.putfield 57, 3) := by decide +kernel
theorem dX7_init_132 : decode cX7_init 132 = .ok (.aload_n 0, 1) := by decide +kernel
theorem dX7_init_133 : decode cX7_init 133 = .ok (.iconst 4, 1) := by decide +kernel
theorem dX7_init_134 : decode cX7_init 134 = .ok (.newarray .boolean, 2) := by decide +kernel
theorem dX7_init_136 : decode cX7_init 136 = .ok (.putfield 60, 3) := by decide +kernel
theorem dX7_init_139 : decode cX7_init 139 = .ok (.aload_n 0, 1) := by decide +kernel
theorem dX7_init_140 : decode cX7_init 140 = .ok (.iconst 4, 1) := by decide +kernel
theorem dX7_init_141 : decode cX7_init 141 = .ok (.newarray .int, 2) := by decide +kernel
theorem dX7_init_143 : decode cX7_init 143 = .ok (.putfield 63, 3) := by decide +kernel
theorem dX7_init_146 : decode cX7_init 146 = .ok (.aload_n 0, 1) := by decide +kernel
theorem dX7_init_147 : decode cX7_init 147 = .ok (.iconst 4, 1) := by decide +kernel
theorem dX7_init_148 : decode cX7_init 148 = .ok (.newarray .int, 2) := by decide +kernel
theorem dX7_init_150 : decode cX7_init 150 = .ok (.putfield 66, 3) := by decide +kernel
theorem dX7_init_153 : decode cX7_init 153 = .ok (.aload_n 0, 1) := by decide +kernel
theorem dX7_init_154 : decode cX7_init 154 = .ok (.sipush 240, 3) := by decide +kernel
theorem dX7_init_157 : decode cX7_init 157 = .ok (.newarray .int, 2) := by decide +kernel
theorem dX7_init_159 : decode cX7_init 159 = .ok (.putfield 69, 3) := by decide +kernel
theorem dX7_init_162 : decode cX7_init 162 = .ok (.aload_n 0, 1) := by decide +kernel
theorem dX7_init_163 : decode cX7_init 163 = .ok (.bipush 60, 2) := by decide +kernel
theorem dX7_init_165 : decode cX7_init 165 = .ok (.newarray .int, 2) := by decide +kernel
theorem dX7_init_167 : decode cX7_init 167 = .ok (.putfield 72, 3) := by decide +kernel
theorem dX7_init_170 : decode cX7_init 170 = .ok (.return_, 1) := by decide +kernel
theorem dX7_in_0 : decode cX7_in 0 = .ok (.iload_n 0, 1) := by decide +kernel
theorem dX7_in_1 : decode cX7_in 1 = .ok (.iload_n 1, 1) := by decide +kernel
theorem dX7_in_2 : decode cX7_in 2 = .ok (.if_icmp .lt 12, 3) := by decide +kernel
theorem dX7_in_5 : decode cX7_in 5 = .ok (.iload_n 0, 1) := by decide +kernel
theorem dX7_in_6 : decode cX7_in 6 = .ok (.iload_n 2, 1) := by decide +kernel
theorem dX7_in_7 : decode cX7_in 7 = .ok (.if_icmp .gt 7, 3) := by decide +kernel
theorem dX7_in_10 : decode cX7_in 10 = .ok (.iconst 1, 1) := by decide +kernel
theorem dX7_in_11 : decode cX7_in 11 = .ok (.goto 4, 3) := by decide +kernel
theorem dX7_in_14 : decode cX7_in 14 = .ok (.iconst 0, 1) := by decide +kernel
theorem dX7_in_15 : decode cX7_in 15 = .ok (.ireturn, 1) := by decide +kernel
theorem dX7_isWord_0 : decode cX7_isWord 0 = .ok (.iload_n 0, 1) := by decide +kernel
theorem dX7_isWord_1 : decode cX7_isWord 1 = .ok (.iconst 0, 1) := by decide +kernel
theorem dX7_isWord_2 : decode cX7_isWord 2 = .ok (.bipush 99, 2) := by decide +kernel
theorem dX7_isWord_4 : decode cX7_isWord 4 = .ok (.invokestatic 75, 3) := by decide +kernel
theorem dX7_isWord_7 : decode cX7_isWord 7 = .ok (.ireturn, 1) := by decide +kernel
theorem dX7_isCount_0 : decode cX7_isCount 0 = .ok (.iload_n 1, 1) := by decide +kernel
theorem dX7_isCount_1 : decode cX7_isCount 1 = .ok (.iconst 0, 1) := by decide +kernel
theorem dX7_isCount_2 : decode cX7_isCount 2 = .ok (.aload_n 0, 1) := by decide +kernel
theorem dX7_isCount_3 : decode cX7_isCount 3 = .ok (.getfield 79, 3) := by decide +kernel
theorem dX7_isCount_6 : decode cX7_isCount 6 = .ok (.iconst 1, 1) := by decide +kernel
theorem dX7_isCount_7 : decode cX7_isCount 7 = .ok (.isub, 1) := by decide +kernel
theorem dX7_isCount_8 : decode cX7_isCount 8 = .ok (.invokestatic 75, 3) := by decide +kernel
theorem dX7_isCount_11 : decode cX7_isCount 11 = .ok (.ireturn, 1) := by decide +kernel
theorem dX7_countBy_0 : decode cX7_countBy 0 = .ok (.iload_n 1, 1) := by decide +kernel
theorem dX7_countBy_1 : decode cX7_countBy 1 = .ok (.invokestatic 82, 3) := by decide +kernel
theorem dX7_countBy_4 : decode cX7_countBy 4 = .ok (.ifCond .eq 13, 3) := by decide +kernel
theorem dX7_countBy_7 : decode cX7_countBy 7 = .ok (.iload_n 2, 1) := by decide +kernel
theorem dX7_countBy_8 : decode cX7_countBy 8 = .ok (.iconst 1, 1) := by decide +kernel
theorem dX7_countBy_9 : decode cX7_countBy 9 = .ok (.bipush 20, 2) := by decide +kernel
theorem dX7_countBy_11 : decode cX7_countBy 11 = .ok (.invokestatic 75, 3) := by decide +kernel
theorem dX7_countBy_14 : decode cX7_countBy 14 = .ok (.ifCond .ne 6, 3) := by decide +kernel
theorem dX7_countBy_17 : decode cX7_countBy 17 = .ok (.bipush (-2), 2) := by decide +kernel
theorem dX7_countBy_19 : decode cX7_countBy 19 = .ok (.ireturn, 1) := by decide +kernel
theorem dX7_countBy_20 : decode cX7_countBy 20 = .ok (.aload_n 0, 1) := by decide +kernel
theorem dX7_countBy_21 : decode cX7_countBy 21 = .ok (.getfield 60, 3) := by decide +kernel
theorem dX7_countBy_24 : decode cX7_countBy 24 = .ok (.iload_n 1, 1) := by decide +kernel
theorem dX7_countBy_25 : decode cX7_countBy 25 = .ok (.baload, 1) := by decide +kernel
theorem dX7_countBy_26 : decode cX7_countBy 26 = .ok (.ifCond .ne 9, 3) := by decide +kernel
theorem dX7_countBy_29 : decode cX7_countBy 29 = .ok (.aload_n 0, 1) := by decide +kernel
theorem dX7_countBy_30 : decode cX7_countBy 30 = .ok (.iconst 1, 1) := by decide +kernel
theorem dX7_countBy_31 : decode cX7_countBy 31 = .ok (.invokevirtual 86, 3) := by decide +kernel
theorem dX7_countBy_34 : decode cX7_countBy 34 = .ok (.ireturn, 1) := by decide +kernel
theorem dX7_countBy_35 : decode cX7_countBy 35 = .ok (.iload_n 2, 1) := by decide +kernel
theorem dX7_countBy_36 : decode cX7_countBy 36 = .ok (.iload_n 3, 1) := by decide +kernel
theorem dX7_countBy_37 : decode cX7_countBy 37 = .ok (.ifCond .eq 7, 3) := by decide +kernel
theorem dX7_countBy_40 : decode cX7_countBy 40 = .ok (.iconst 1, 1) := by decide +kernel
theorem dX7_countBy_41 : decode cX7_countBy 41 = .ok (.goto 4, 3) := by decide +kernel
theorem dX7_countBy_44 : decode cX7_countBy 44 = .ok (.iconst 0, 1) := by decide +kernel
theorem dX7_countBy_45 : decode cX7_countBy 45 = .ok (.iadd, 1) := by decide +kernel
theorem dX7_countBy_46 : decode cX7_countBy 46 = .ok (.istore 4, 2) := by decide +kernel
theorem dX7_countBy_48 : decode cX7_countBy 48 = .ok (.aload_n 0, 1) := by decide +kernel
theorem dX7_countBy_49 : decode cX7_countBy 49 = .ok (.getfield 66, 3) := by decide +kernel
theorem dX7_countBy_52 : decode cX7_countBy 52 = .ok (.iload_n 1, 1) := by decide +kernel
theorem dX7_countBy_53 : decode cX7_countBy 53 = .ok (.iaload, 1) := by decide +kernel
theorem dX7_countBy_54 : decode cX7_countBy 54 = .ok (.iload 4, 2) := by decide +kernel
theorem dX7_countBy_56 : decode cX7_countBy 56 = .ok (.if_icmp .ge 9, 3) := by decide +kernel
theorem dX7_countBy_59 : decode cX7_countBy 59 = .ok (.aload_n 0, 1) := by decide +kernel
theorem dX7_countBy_60 : decode cX7_countBy 60 = .ok (.iconst 2, 1) := by decide +kernel
theorem dX7_countBy_61 : decode cX7_countBy 61 = .ok (.invokevirtual 86, 3) := by decide +kernel
theorem dX7_countBy_64 : decode cX7_countBy 64 = .ok (.ireturn, 1) := by decide +kernel
theorem dX7_countBy_65 : decode cX7_countBy 65 = .ok (.iconst 0, 1) := by decide +kernel
theorem dX7_countBy_66 : decode cX7_countBy 66 = .ok (.istore 5, 2) := by decide +kernel
theorem dX7_countBy_68 : decode cX7_countBy 68 = .ok (.iload 5, 2) := by decide +kernel
theorem dX7_countBy_70 : decode cX7_countBy 70 = .ok (.iload 4, 2) := by decide +kernel
theorem dX7_countBy_72 : decode cX7_countBy 72 = .ok (.if_icmp .ge 85, 3) := by decide +kernel
theorem dX7_countBy_75 : decode cX7_countBy 75 = .ok (.aload_n 0, 1) := by decide +kernel
theorem dX7_countBy_76 : decode cX7_countBy 76 = .ok (.getfield 69, 3) := by decide +kernel
theorem dX7_countBy_79 : decode cX7_countBy 79 = .ok (.bipush 60, 2) := by decide +kernel
theorem dX7_countBy_81 : decode cX7_countBy 81 = .ok (.iload_n 1, 1) := by decide +kernel
theorem dX7_countBy_82 : decode cX7_countBy 82 = .ok (.imul, 1) := by decide +kernel
theorem dX7_countBy_83 : decode cX7_countBy 83 = .ok (.iload 5, 2) := by decide +kernel
theorem dX7_countBy_85 : decode cX7_countBy 85 = .ok (.iadd, 1) := by decide +kernel
theorem dX7_countBy_86 : decode cX7_countBy 86 = .ok (.iaload, 1) := by decide +kernel
theorem dX7_countBy_87 : decode cX7_countBy 87 = .ok (.istore 6, 2) := by decide +kernel
theorem dX7_countBy_89 : decode cX7_countBy 89 = .ok (.iconst 0, 1) := by decide +kernel
theorem dX7_countBy_90 : decode cX7_countBy 90 = .ok (.istore 7, 2) := by decide +kernel
theorem dX7_countBy_92 : decode cX7_countBy 92 = .ok (.iconst 0, 1) := by decide +kernel
theorem dX7_countBy_93 : decode cX7_countBy 93 = .ok (.istore 8, 2) := by decide +kernel
theorem dX7_countBy_95 : decode cX7_countBy 95 = .ok (.iload 8, 2) := by decide +kernel
theorem dX7_countBy_97 : decode cX7_countBy 97 = .ok (.iload 5, 2) := by decide +kernel
theorem dX7_countBy_99 : decode cX7_countBy 99 = .ok (.if_icmp .ge 36, 3) := by decide +kernel
theorem dX7_countBy_102 : decode cX7_countBy 102 = .ok (.iload 7, 2) := by decide +kernel
theorem dX7_countBy_104 : decode cX7_countBy 104 = .ok (.aload_n 0, 1) := by decide +kernel
theorem dX7_countBy_105 : decode cX7_countBy 105 = .ok (.getfield 69, 3) := by decide +kernel
theorem dX7_countBy_108 : decode cX7_countBy 108 = .ok (.bipush 60, 2) := by decide +kernel
theorem dX7_countBy_110 : decode cX7_countBy 110 = .ok (.iload_n 1, 1) := by decide +kernel
theorem dX7_countBy_111 : decode cX7_countBy 111 = .ok (.imul, 1) := by decide +kernel
theorem dX7_countBy_112 : decode cX7_countBy 112 = .ok (.iload 8, 2) := by decide +kernel
theorem dX7_countBy_114 : decode cX7_countBy 114 = .ok (.iadd, 1) := by decide +kernel
theorem dX7_countBy_115 : decode cX7_countBy 115 = .ok (.iaload, 1) := by decide +kernel
theorem dX7_countBy_116 : decode cX7_countBy 116 = .ok (.iload 6, 2) := by decide +kernel
theorem dX7_countBy_118 : decode cX7_countBy 118 = .ok (.if_icmp .ne 7, 3) := by decide +kernel
theorem dX7_countBy_121 : decode cX7_countBy 121 = .ok (.iconst 1, 1) := by decide +kernel
theorem dX7_countBy_122 : decode cX7_countBy 122 = .ok (.goto 4, 3) := by decide +kernel
theorem dX7_countBy_125 : decode cX7_countBy 125 = .ok (.iconst 0, 1) := by decide +kernel
theorem dX7_countBy_126 : decode cX7_countBy 126 = .ok (.ior, 1) := by decide +kernel
theorem dX7_countBy_127 : decode cX7_countBy 127 = .ok (.istore 7, 2) := by decide +kernel
theorem dX7_countBy_129 : decode cX7_countBy 129 = .ok (.iinc 8 1, 3) := by decide +kernel
theorem dX7_countBy_132 : decode cX7_countBy 132 = .ok (.goto (-37), 3) := by decide +kernel
theorem dX7_countBy_135 : decode cX7_countBy 135 = .ok (.iload 6, 2) := by decide +kernel
theorem dX7_countBy_137 : decode cX7_countBy 137 = .ok (.invokestatic 90, 3) := by decide +kernel
theorem dX7_countBy_140 : decode cX7_countBy 140 = .ok (.ifCond .eq 8, 3) := by decide +kernel
theorem dX7_countBy_143 : decode cX7_countBy 143 = .ok (.iload 7, 2) := by decide +kernel
theorem dX7_countBy_145 : decode cX7_countBy 145 = .ok (.ifCond .eq 6, 3) := by decide +kernel
theorem dX7_countBy_148 : decode cX7_countBy 148 = .ok (.bipush (-3), 2) := by decide +kernel
theorem dX7_countBy_150 : decode cX7_countBy 150 = .ok (.ireturn, 1) := by decide +kernel
theorem dX7_countBy_151 : decode cX7_countBy 151 = .ok (.iinc 5 1, 3) := by decide +kernel
theorem dX7_countBy_154 : decode cX7_countBy 154 = .ok (.goto (-86), 3) := by decide +kernel
theorem dX7_countBy_157 : decode cX7_countBy 157 = .ok (.aload_n 0, 1) := by decide +kernel
theorem dX7_countBy_158 : decode cX7_countBy 158 = .ok (.getfield 79, 3) := by decide +kernel
theorem dX7_countBy_161 : decode cX7_countBy 161 = .ok (.bipush 6, 2) := by decide +kernel
theorem dX7_countBy_163 : decode cX7_countBy 163 = .ok (.if_icmp .ne 6, 3) := by decide +kernel
theorem dX7_countBy_166 : decode cX7_countBy 166 = .ok (.bipush (-4), 2) := by decide +kernel
theorem dX7_countBy_168 : decode cX7_countBy 168 = .ok (.ireturn, 1) := by decide +kernel
theorem dX7_countBy_169 : decode cX7_countBy 169 = .ok (.iconst 0, 1) := by decide +kernel
theorem dX7_countBy_170 : decode cX7_countBy 170 = .ok (.istore 5, 2) := by decide +kernel
theorem dX7_countBy_172 : decode cX7_countBy 172 = .ok (.iload 5, 2) := by decide +kernel
theorem dX7_countBy_174 : decode cX7_countBy 174 = .ok (.iload 4, 2) := by decide +kernel
theorem dX7_countBy_176 : decode cX7_countBy 176 = .ok (.if_icmp .ge 36, 3) := by decide +kernel
theorem dX7_countBy_179 : decode cX7_countBy 179 = .ok (.aload_n 0, 1) := by decide +kernel
theorem dX7_countBy_180 : decode cX7_countBy 180 = .ok (.getfield 7, 3) := by decide +kernel
theorem dX7_countBy_183 : decode cX7_countBy 183 = .ok (.bipush 21, 2) := by decide +kernel
theorem dX7_countBy_185 : decode cX7_countBy 185 = .ok (.aload_n 0, 1) := by decide +kernel
theorem dX7_countBy_186 : decode cX7_countBy 186 = .ok (.getfield 79, 3) := by decide +kernel
theorem dX7_countBy_189 : decode cX7_countBy 189 = .ok (.imul, 1) := by decide +kernel
theorem dX7_countBy_190 : decode cX7_countBy 190 = .ok (.iload 5, 2) := by decide +kernel
theorem dX7_countBy_192 : decode cX7_countBy 192 = .ok (.iadd, 1) := by decide +kernel
theorem dX7_countBy_193 : decode cX7_countBy 193 = .ok (.aload_n 0, 1) := by decide +kernel
theorem dX7_countBy_194 : decode cX7_countBy 194 = .ok (.getfield 69, 3) := by decide +kernel
theorem dX7_countBy_197 : decode cX7_countBy 197 = .ok (.bipush 60, 2) := by decide +kernel
theorem dX7_countBy_199 : decode cX7_countBy 199 = .ok (.iload_n 1, 1) := by decide +kernel
theorem dX7_countBy_200 : decode cX7_countBy 200 = .ok (.imul, 1) := by decide +kernel
theorem dX7_countBy_201 : decode cX7_countBy 201 = .ok (.iload 5, 2) := by decide +kernel
theorem dX7_countBy_203 : decode cX7_countBy 203 = .ok (.iadd, 1) := by decide +kernel
theorem dX7_countBy_204 : decode cX7_countBy 204 = .ok (.iaload, 1) := by decide +kernel
theorem dX7_countBy_205 : decode cX7_countBy 205 = .ok (.iastore, 1) := by decide +kernel
theorem dX7_countBy_206 : decode cX7_countBy 206 = .ok (.iinc 5 1, 3) := by decide +kernel
theorem dX7_countBy_209 : decode cX7_countBy 209 = .ok (.goto (-37), 3) := by decide +kernel
theorem dX7_countBy_212 : decode cX7_countBy 212 = .ok (.aload_n 0, 1) := by decide +kernel
theorem dX7_countBy_213 : decode cX7_countBy 213 = .ok (.getfield 13, 3) := by decide +kernel
theorem dX7_countBy_216 : decode cX7_countBy 216 = .ok (.aload_n 0, 1) := by decide +kernel
theorem dX7_countBy_217 : decode cX7_countBy 217 = .ok (.getfield 79, 3) := by decide +kernel
theorem dX7_countBy_220 : decode cX7_countBy 220 = .ok (.iload_n 2, 1) := by decide +kernel
theorem dX7_countBy_221 : decode cX7_countBy 221 = .ok (.iastore, 1) := by decide +kernel
theorem dX7_countBy_222 : decode cX7_countBy 222 = .ok (.aload_n 0, 1) := by decide +kernel
theorem dX7_countBy_223 : decode cX7_countBy 223 = .ok (.getfield 16, 3) := by decide +kernel
theorem dX7_countBy_226 : decode cX7_countBy 226 = .ok (.aload_n 0, 1) := by decide +kernel
theorem dX7_countBy_227 : decode cX7_countBy 227 = .ok (.getfield 79, 3) := by decide +kernel
theorem dX7_countBy_230 : decode cX7_countBy 230 = .ok (.iload_n 3, 1) := by decide +kernel
theorem dX7_countBy_231 : decode cX7_countBy 231 = .ok (.bastore, 1) := by decide +kernel
theorem dX7_countBy_232 : decode cX7_countBy 232 = .ok (.aload_n 0, 1) := by decide +kernel
theorem dX7_countBy_233 : decode cX7_countBy 233 = .ok (.getfield 20, 3) := by decide +kernel
theorem dX7_countBy_236 : decode cX7_countBy 236 = .ok (.aload_n 0, 1) := by decide +kernel
theorem dX7_countBy_237 : decode cX7_countBy 237 = .ok (.getfield 79, 3) := by decide +kernel
theorem dX7_countBy_240 : decode cX7_countBy 240 = .ok (.iconst 0, 1) := by decide +kernel
theorem dX7_countBy_241 : decode cX7_countBy 241 = .ok (.iastore, 1) := by decide +kernel
theorem dX7_countBy_242 : decode cX7_countBy 242 = .ok (.aload_n 0, 1) := by decide +kernel
theorem dX7_countBy_243 : decode cX7_countBy 243 = .ok (.dup, 1) := by decide +kernel
theorem dX7_countBy_244 : decode cX7_countBy 244 = .ok (.getfield 79, 3) := by decide +kernel
theorem dX7_countBy_247 : decode cX7_countBy 247 = .ok (.iconst 1, 1) := by decide +kernel
theorem dX7_countBy_248 : decode cX7_countBy 248 = .ok (.iadd, 1) := by decide +kernel
theorem dX7_countBy_249 : decode cX7_countBy 249 = .ok (.putfield 79, 3) := by decide +kernel
theorem dX7_countBy_252 : decode cX7_countBy 252 = .ok (.aload_n 0, 1) := by decide +kernel
theorem dX7_countBy_253 : decode cX7_countBy 253 = .ok (.getfield 79, 3) := by decide +kernel
theorem dX7_countBy_256 : decode cX7_countBy 256 = .ok (.iconst 1, 1) := by decide +kernel
theorem dX7_countBy_257 : decode cX7_countBy 257 = .ok (.isub, 1) := by decide +kernel
theorem dX7_countBy_258 : decode cX7_countBy 258 = .ok (.ireturn, 1) := by decide +kernel
theorem dX7_begins_0 : decode cX7_begins 0 = .ok (.aload_n 0, 1) := by decide +kernel
theorem dX7_begins_1 : decode cX7_begins 1 = .ok (.iload_n 1, 1) := by decide +kernel
theorem dX7_begins_2 : decode cX7_begins 2 = .ok (.invokevirtual 93, 3) := by decide +kernel
theorem dX7_begins_5 : decode cX7_begins 5 = .ok (.ifCond .eq 12, 3) := by decide +kernel
theorem dX7_begins_8 : decode cX7_begins 8 = .ok (.iload_n 2, 1) := by decide +kernel
theorem dX7_begins_9 : decode cX7_begins 9 = .ok (.iconst 0, 1) := by decide +kernel
theorem dX7_begins_10 : decode cX7_begins 10 = .ok (.iconst 1, 1) := by decide +kernel
theorem dX7_begins_11 : decode cX7_begins 11 = .ok (.invokestatic 75, 3) := by decide +kernel
theorem dX7_begins_14 : decode cX7_begins 14 = .ok (.ifCond .ne 6, 3) := by decide +kernel
theorem dX7_begins_17 : decode cX7_begins 17 = .ok (.bipush (-2), 2) := by decide +kernel
theorem dX7_begins_19 : decode cX7_begins 19 = .ok (.ireturn, 1) := by decide +kernel
theorem dX7_begins_20 : decode cX7_begins 20 = .ok (.aload_n 0, 1) := by decide +kernel
theorem dX7_begins_21 : decode cX7_begins 21 = .ok (.getfield 20, 3) := by decide +kernel
theorem dX7_begins_24 : decode cX7_begins 24 = .ok (.iload_n 1, 1) := by decide +kernel
theorem dX7_begins_25 : decode cX7_begins 25 = .ok (.iaload, 1) := by decide +kernel
theorem dX7_begins_26 : decode cX7_begins 26 = .ok (.istore_n 3, 1) := by decide +kernel
theorem dX7_begins_27 : decode cX7_begins 27 = .ok (.aload_n 0, 1) := by decide +kernel
theorem dX7_begins_28 : decode cX7_begins 28 = .ok (.getfield 20, 3) := by decide +kernel
theorem dX7_begins_31 : decode cX7_begins 31 = .ok (.iload_n 1, 1) := by decide +kernel
theorem dX7_begins_32 : decode cX7_begins 32 = .ok (.iload_n 2, 1) := by decide +kernel
theorem dX7_begins_33 : decode cX7_begins 33 = .ok (.iastore, 1) := by decide +kernel
theorem dX7_begins_34 : decode cX7_begins 34 = .ok (.iload_n 3, 1) := by decide +kernel
theorem dX7_begins_35 : decode cX7_begins 35 = .ok (.ireturn, 1) := by decide +kernel
theorem dX7_totalOf_0 : decode cX7_totalOf 0 = .ok (.iconst 2, 1) := by decide +kernel
theorem dX7_totalOf_1 : decode cX7_totalOf 1 = .ok (.aload_n 0, 1) := by decide +kernel
theorem dX7_totalOf_2 : decode cX7_totalOf 2 = .ok (.getfield 13, 3) := by decide +kernel
theorem dX7_totalOf_5 : decode cX7_totalOf 5 = .ok (.iload_n 1, 1) := by decide +kernel
theorem dX7_totalOf_6 : decode cX7_totalOf 6 = .ok (.iaload, 1) := by decide +kernel
theorem dX7_totalOf_7 : decode cX7_totalOf 7 = .ok (.imul, 1) := by decide +kernel
theorem dX7_totalOf_8 : decode cX7_totalOf 8 = .ok (.aload_n 0, 1) := by decide +kernel
theorem dX7_totalOf_9 : decode cX7_totalOf 9 = .ok (.getfield 16, 3) := by decide +kernel
theorem dX7_totalOf_12 : decode cX7_totalOf 12 = .ok (.iload_n 1, 1) := by decide +kernel
theorem dX7_totalOf_13 : decode cX7_totalOf 13 = .ok (.baload, 1) := by decide +kernel
theorem dX7_totalOf_14 : decode cX7_totalOf 14 = .ok (.ifCond .eq 7, 3) := by decide +kernel
theorem dX7_totalOf_17 : decode cX7_totalOf 17 = .ok (.iconst 1, 1) := by decide +kernel
theorem dX7_totalOf_18 : decode cX7_totalOf 18 = .ok (.goto 4, 3) := by decide +kernel
theorem dX7_totalOf_21 : decode cX7_totalOf 21 = .ok (.iconst 0, 1) := by decide +kernel
theorem dX7_totalOf_22 : decode cX7_totalOf 22 = .ok (.iadd, 1) := by decide +kernel
theorem dX7_totalOf_23 : decode cX7_totalOf 23 = .ok (.ireturn, 1) := by decide +kernel
theorem dX7_aboutOf_0 : decode cX7_aboutOf 0 = .ok (.iload_n 2, 1) := by decide +kernel
theorem dX7_aboutOf_1 : decode cX7_aboutOf 1 = .ok (.tableswitch 66 0 3 #[31, 37, 44, 59], 31) := by decide +kernel
theorem dX7_aboutOf_32 : decode cX7_aboutOf 32 = .ok (.aload_n 0, 1) := by decide +kernel
theorem dX7_aboutOf_33 : decode cX7_aboutOf 33 = .ok (.iload_n 1, 1) := by decide +kernel
theorem dX7_aboutOf_34 : decode cX7_aboutOf 34 = .ok (.invokevirtual 96, 3) := by decide +kernel
theorem dX7_aboutOf_37 : decode cX7_aboutOf 37 = .ok (.ireturn, 1) := by decide +kernel
theorem dX7_aboutOf_38 : decode cX7_aboutOf 38 = .ok (.aload_n 0, 1) := by decide +kernel
theorem dX7_aboutOf_39 : decode cX7_aboutOf 39 = .ok (.getfield 13, 3) := by decide +kernel
theorem dX7_aboutOf_42 : decode cX7_aboutOf 42 = .ok (.iload_n 1, 1) := by decide +kernel
theorem dX7_aboutOf_43 : decode cX7_aboutOf 43 = .ok (.iaload, 1) := by decide +kernel
theorem dX7_aboutOf_44 : decode cX7_aboutOf 44 = .ok (.ireturn, 1) := by decide +kernel
theorem dX7_aboutOf_45 : decode cX7_aboutOf 45 = .ok (.aload_n 0, 1) := by decide +kernel
theorem dX7_aboutOf_46 : decode cX7_aboutOf 46 = .ok (.getfield 16, 3) := by decide +kernel
theorem dX7_aboutOf_49 : decode cX7_aboutOf 49 = .ok (.iload_n 1, 1) := by decide +kernel
theorem dX7_aboutOf_50 : decode cX7_aboutOf 50 = .ok (.baload, 1) := by decide +kernel
theorem dX7_aboutOf_51 : decode cX7_aboutOf 51 = .ok (.ifCond .eq 7, 3) := by decide +kernel
theorem dX7_aboutOf_54 : decode cX7_aboutOf 54 = .ok (.iconst 1, 1) := by decide +kernel
theorem dX7_aboutOf_55 : decode cX7_aboutOf 55 = .ok (.goto 4, 3) := by decide +kernel
theorem dX7_aboutOf_58 : decode cX7_aboutOf 58 = .ok (.iconst 0, 1) := by decide +kernel
theorem dX7_aboutOf_59 : decode cX7_aboutOf 59 = .ok (.ireturn, 1) := by decide +kernel
theorem dX7_aboutOf_60 : decode cX7_aboutOf 60 = .ok (.aload_n 0, 1) := by decide +kernel
theorem dX7_aboutOf_61 : decode cX7_aboutOf 61 = .ok (.getfield 20, 3) := by decide +kernel
theorem dX7_aboutOf_64 : decode cX7_aboutOf 64 = .ok (.iload_n 1, 1) := by decide +kernel
theorem dX7_aboutOf_65 : decode cX7_aboutOf 65 = .ok (.iaload, 1) := by decide +kernel
theorem dX7_aboutOf_66 : decode cX7_aboutOf 66 = .ok (.ireturn, 1) := by decide +kernel
theorem dX7_aboutOf_67 : decode cX7_aboutOf 67 = .ok (.bipush (-2), 2) := by decide +kernel
theorem dX7_aboutOf_69 : decode cX7_aboutOf 69 = .ok (.ireturn, 1) := by decide +kernel
theorem dX7_about_0 : decode cX7_about 0 = .ok (.aload_n 0, 1) := by decide +kernel
theorem dX7_about_1 : decode cX7_about 1 = .ok (.iload_n 1, 1) := by decide +kernel
theorem dX7_about_2 : decode cX7_about 2 = .ok (.invokevirtual 93, 3) := by decide +kernel
theorem dX7_about_5 : decode cX7_about 5 = .ok (.ifCond .eq 12, 3) := by decide +kernel
theorem dX7_about_8 : decode cX7_about 8 = .ok (.aload_n 0, 1) := by decide +kernel
theorem dX7_about_9 : decode cX7_about 9 = .ok (.iload_n 1, 1) := by decide +kernel
theorem dX7_about_10 : decode cX7_about 10 = .ok (.iload_n 2, 1) := by decide +kernel
theorem dX7_about_11 : decode cX7_about 11 = .ok (.invokevirtual 99, 3) := by decide +kernel
theorem dX7_about_14 : decode cX7_about 14 = .ok (.goto 5, 3) := by decide +kernel
theorem dX7_about_17 : decode cX7_about 17 = .ok (.bipush (-2), 2) := by decide +kernel
theorem dX7_about_19 : decode cX7_about 19 = .ok (.ireturn, 1) := by decide +kernel
theorem dX7_sideOf_0 : decode cX7_sideOf 0 = .ok (.iload_n 2, 1) := by decide +kernel
theorem dX7_sideOf_1 : decode cX7_sideOf 1 = .ok (.aload_n 0, 1) := by decide +kernel
theorem dX7_sideOf_2 : decode cX7_sideOf 2 = .ok (.getfield 13, 3) := by decide +kernel
theorem dX7_sideOf_5 : decode cX7_sideOf 5 = .ok (.iload_n 1, 1) := by decide +kernel
theorem dX7_sideOf_6 : decode cX7_sideOf 6 = .ok (.iaload, 1) := by decide +kernel
theorem dX7_sideOf_7 : decode cX7_sideOf 7 = .ok (.if_icmp .gt 7, 3) := by decide +kernel
theorem dX7_sideOf_10 : decode cX7_sideOf 10 = .ok (.iconst 0, 1) := by decide +kernel
theorem dX7_sideOf_11 : decode cX7_sideOf 11 = .ok (.goto 29, 3) := by decide +kernel
theorem dX7_sideOf_14 : decode cX7_sideOf 14 = .ok (.aload_n 0, 1) := by decide +kernel
theorem dX7_sideOf_15 : decode cX7_sideOf 15 = .ok (.getfield 16, 3) := by decide +kernel
theorem dX7_sideOf_18 : decode cX7_sideOf 18 = .ok (.iload_n 1, 1) := by decide +kernel
theorem dX7_sideOf_19 : decode cX7_sideOf 19 = .ok (.baload, 1) := by decide +kernel
theorem dX7_sideOf_20 : decode cX7_sideOf 20 = .ok (.ifCond .eq 19, 3) := by decide +kernel
theorem dX7_sideOf_23 : decode cX7_sideOf 23 = .ok (.iload_n 2, 1) := by decide +kernel
theorem dX7_sideOf_24 : decode cX7_sideOf 24 = .ok (.aload_n 0, 1) := by decide +kernel
theorem dX7_sideOf_25 : decode cX7_sideOf 25 = .ok (.getfield 13, 3) := by decide +kernel
theorem dX7_sideOf_28 : decode cX7_sideOf 28 = .ok (.iload_n 1, 1) := by decide +kernel
theorem dX7_sideOf_29 : decode cX7_sideOf 29 = .ok (.iaload, 1) := by decide +kernel
theorem dX7_sideOf_30 : decode cX7_sideOf 30 = .ok (.iconst 1, 1) := by decide +kernel
theorem dX7_sideOf_31 : decode cX7_sideOf 31 = .ok (.iadd, 1) := by decide +kernel
theorem dX7_sideOf_32 : decode cX7_sideOf 32 = .ok (.if_icmp .ne 7, 3) := by decide +kernel
theorem dX7_sideOf_35 : decode cX7_sideOf 35 = .ok (.iconst 2, 1) := by decide +kernel
theorem dX7_sideOf_36 : decode cX7_sideOf 36 = .ok (.goto 4, 3) := by decide +kernel
theorem dX7_sideOf_39 : decode cX7_sideOf 39 = .ok (.iconst 1, 1) := by decide +kernel
theorem dX7_sideOf_40 : decode cX7_sideOf 40 = .ok (.ireturn, 1) := by decide +kernel
theorem dX7_wordOf_0 : decode cX7_wordOf 0 = .ok (.aload_n 0, 1) := by decide +kernel
theorem dX7_wordOf_1 : decode cX7_wordOf 1 = .ok (.iload_n 1, 1) := by decide +kernel
theorem dX7_wordOf_2 : decode cX7_wordOf 2 = .ok (.iload_n 2, 1) := by decide +kernel
theorem dX7_wordOf_3 : decode cX7_wordOf 3 = .ok (.invokevirtual 103, 3) := by decide +kernel
theorem dX7_wordOf_6 : decode cX7_wordOf 6 = .ok (.istore_n 3, 1) := by decide +kernel
theorem dX7_wordOf_7 : decode cX7_wordOf 7 = .ok (.aload_n 0, 1) := by decide +kernel
theorem dX7_wordOf_8 : decode cX7_wordOf 8 = .ok (.getfield 7, 3) := by decide +kernel
theorem dX7_wordOf_11 : decode cX7_wordOf 11 = .ok (.bipush 21, 2) := by decide +kernel
theorem dX7_wordOf_13 : decode cX7_wordOf 13 = .ok (.iload_n 1, 1) := by decide +kernel
theorem dX7_wordOf_14 : decode cX7_wordOf 14 = .ok (.imul, 1) := by decide +kernel
theorem dX7_wordOf_15 : decode cX7_wordOf 15 = .ok (.iload_n 3, 1) := by decide +kernel
theorem dX7_wordOf_16 : decode cX7_wordOf 16 = .ok (.ifCond .ne 9, 3) := by decide +kernel
theorem dX7_wordOf_19 : decode cX7_wordOf 19 = .ok (.iload_n 2, 1) := by decide +kernel
theorem dX7_wordOf_20 : decode cX7_wordOf 20 = .ok (.iconst 1, 1) := by decide +kernel
theorem dX7_wordOf_21 : decode cX7_wordOf 21 = .ok (.isub, 1) := by decide +kernel
theorem dX7_wordOf_22 : decode cX7_wordOf 22 = .ok (.goto 24, 3) := by decide +kernel
theorem dX7_wordOf_25 : decode cX7_wordOf 25 = .ok (.iload_n 3, 1) := by decide +kernel
theorem dX7_wordOf_26 : decode cX7_wordOf 26 = .ok (.iconst 2, 1) := by decide +kernel
theorem dX7_wordOf_27 : decode cX7_wordOf 27 = .ok (.if_icmp .ne 12, 3) := by decide +kernel
theorem dX7_wordOf_30 : decode cX7_wordOf 30 = .ok (.aload_n 0, 1) := by decide +kernel
theorem dX7_wordOf_31 : decode cX7_wordOf 31 = .ok (.getfield 13, 3) := by decide +kernel
theorem dX7_wordOf_34 : decode cX7_wordOf 34 = .ok (.iload_n 1, 1) := by decide +kernel
theorem dX7_wordOf_35 : decode cX7_wordOf 35 = .ok (.iaload, 1) := by decide +kernel
theorem dX7_wordOf_36 : decode cX7_wordOf 36 = .ok (.goto 10, 3) := by decide +kernel
theorem dX7_wordOf_39 : decode cX7_wordOf 39 = .ok (.aload_n 0, 1) := by decide +kernel
theorem dX7_wordOf_40 : decode cX7_wordOf 40 = .ok (.iload_n 1, 1) := by decide +kernel
theorem dX7_wordOf_41 : decode cX7_wordOf 41 = .ok (.invokevirtual 96, 3) := by decide +kernel
theorem dX7_wordOf_44 : decode cX7_wordOf 44 = .ok (.iload_n 2, 1) := by decide +kernel
theorem dX7_wordOf_45 : decode cX7_wordOf 45 = .ok (.isub, 1) := by decide +kernel
theorem dX7_wordOf_46 : decode cX7_wordOf 46 = .ok (.iadd, 1) := by decide +kernel
theorem dX7_wordOf_47 : decode cX7_wordOf 47 = .ok (.iaload, 1) := by decide +kernel
theorem dX7_wordOf_48 : decode cX7_wordOf 48 = .ok (.ireturn, 1) := by decide +kernel
theorem dX7_handOf_0 : decode cX7_handOf 0 = .ok (.aload_n 0, 1) := by decide +kernel
theorem dX7_handOf_1 : decode cX7_handOf 1 = .ok (.iload_n 1, 1) := by decide +kernel
theorem dX7_handOf_2 : decode cX7_handOf 2 = .ok (.iload_n 2, 1) := by decide +kernel
theorem dX7_handOf_3 : decode cX7_handOf 3 = .ok (.invokevirtual 103, 3) := by decide +kernel
theorem dX7_handOf_6 : decode cX7_handOf 6 = .ok (.istore_n 3, 1) := by decide +kernel
theorem dX7_handOf_7 : decode cX7_handOf 7 = .ok (.iload_n 3, 1) := by decide +kernel
theorem dX7_handOf_8 : decode cX7_handOf 8 = .ok (.iconst 2, 1) := by decide +kernel
theorem dX7_handOf_9 : decode cX7_handOf 9 = .ok (.if_icmp .ne 7, 3) := by decide +kernel
theorem dX7_handOf_12 : decode cX7_handOf 12 = .ok (.iconst 2, 1) := by decide +kernel
theorem dX7_handOf_13 : decode cX7_handOf 13 = .ok (.goto 24, 3) := by decide +kernel
theorem dX7_handOf_16 : decode cX7_handOf 16 = .ok (.iload_n 3, 1) := by decide +kernel
theorem dX7_handOf_17 : decode cX7_handOf 17 = .ok (.ifCond .ne 12, 3) := by decide +kernel
theorem dX7_handOf_20 : decode cX7_handOf 20 = .ok (.aload_n 0, 1) := by decide +kernel
theorem dX7_handOf_21 : decode cX7_handOf 21 = .ok (.getfield 20, 3) := by decide +kernel
theorem dX7_handOf_24 : decode cX7_handOf 24 = .ok (.iload_n 1, 1) := by decide +kernel
theorem dX7_handOf_25 : decode cX7_handOf 25 = .ok (.iaload, 1) := by decide +kernel
theorem dX7_handOf_26 : decode cX7_handOf 26 = .ok (.goto 11, 3) := by decide +kernel
theorem dX7_handOf_29 : decode cX7_handOf 29 = .ok (.iconst 1, 1) := by decide +kernel
theorem dX7_handOf_30 : decode cX7_handOf 30 = .ok (.aload_n 0, 1) := by decide +kernel
theorem dX7_handOf_31 : decode cX7_handOf 31 = .ok (.getfield 20, 3) := by decide +kernel
theorem dX7_handOf_34 : decode cX7_handOf 34 = .ok (.iload_n 1, 1) := by decide +kernel
theorem dX7_handOf_35 : decode cX7_handOf 35 = .ok (.iaload, 1) := by decide +kernel
theorem dX7_handOf_36 : decode cX7_handOf 36 = .ok (.isub, 1) := by decide +kernel
theorem dX7_handOf_37 : decode cX7_handOf 37 = .ok (.ireturn, 1) := by decide +kernel
theorem dX7_place_0 : decode cX7_place 0 = .ok (.aload_n 0, 1) := by decide +kernel
theorem dX7_place_1 : decode cX7_place 1 = .ok (.iload_n 1, 1) := by decide +kernel
theorem dX7_place_2 : decode cX7_place 2 = .ok (.invokevirtual 93, 3) := by decide +kernel
theorem dX7_place_5 : decode cX7_place 5 = .ok (.ifCond .eq 25, 3) := by decide +kernel
theorem dX7_place_8 : decode cX7_place 8 = .ok (.iload_n 2, 1) := by decide +kernel
theorem dX7_place_9 : decode cX7_place 9 = .ok (.iconst 1, 1) := by decide +kernel
theorem dX7_place_10 : decode cX7_place 10 = .ok (.aload_n 0, 1) := by decide +kernel
theorem dX7_place_11 : decode cX7_place 11 = .ok (.iload_n 1, 1) := by decide +kernel
theorem dX7_place_12 : decode cX7_place 12 = .ok (.invokevirtual 96, 3) := by decide +kernel
theorem dX7_place_15 : decode cX7_place 15 = .ok (.invokestatic 75, 3) := by decide +kernel
theorem dX7_place_18 : decode cX7_place 18 = .ok (.ifCond .eq 12, 3) := by decide +kernel
theorem dX7_place_21 : decode cX7_place 21 = .ok (.iload_n 3, 1) := by decide +kernel
theorem dX7_place_22 : decode cX7_place 22 = .ok (.iconst 0, 1) := by decide +kernel
theorem dX7_place_23 : decode cX7_place 23 = .ok (.iconst 2, 1) := by decide +kernel
theorem dX7_place_24 : decode cX7_place 24 = .ok (.invokestatic 75, 3) := by decide +kernel
theorem dX7_place_27 : decode cX7_place 27 = .ok (.ifCond .ne 6, 3) := by decide +kernel
theorem dX7_place_30 : decode cX7_place 30 = .ok (.bipush (-2), 2) := by decide +kernel
theorem dX7_place_32 : decode cX7_place 32 = .ok (.ireturn, 1) := by decide +kernel
theorem dX7_place_33 : decode cX7_place 33 = .ok (.iload_n 3, 1) := by decide +kernel
theorem dX7_place_34 : decode cX7_place 34 = .ok (.ifCond .ne 12, 3) := by decide +kernel
theorem dX7_place_37 : decode cX7_place 37 = .ok (.aload_n 0, 1) := by decide +kernel
theorem dX7_place_38 : decode cX7_place 38 = .ok (.iload_n 1, 1) := by decide +kernel
theorem dX7_place_39 : decode cX7_place 39 = .ok (.iload_n 2, 1) := by decide +kernel
theorem dX7_place_40 : decode cX7_place 40 = .ok (.invokevirtual 106, 3) := by decide +kernel
theorem dX7_place_43 : decode cX7_place 43 = .ok (.goto 23, 3) := by decide +kernel
theorem dX7_place_46 : decode cX7_place 46 = .ok (.iload_n 3, 1) := by decide +kernel
theorem dX7_place_47 : decode cX7_place 47 = .ok (.iconst 1, 1) := by decide +kernel
theorem dX7_place_48 : decode cX7_place 48 = .ok (.if_icmp .ne 12, 3) := by decide +kernel
theorem dX7_place_51 : decode cX7_place 51 = .ok (.aload_n 0, 1) := by decide +kernel
theorem dX7_place_52 : decode cX7_place 52 = .ok (.iload_n 1, 1) := by decide +kernel
theorem dX7_place_53 : decode cX7_place 53 = .ok (.iload_n 2, 1) := by decide +kernel
theorem dX7_place_54 : decode cX7_place 54 = .ok (.invokevirtual 103, 3) := by decide +kernel
theorem dX7_place_57 : decode cX7_place 57 = .ok (.goto 9, 3) := by decide +kernel
theorem dX7_place_60 : decode cX7_place 60 = .ok (.aload_n 0, 1) := by decide +kernel
theorem dX7_place_61 : decode cX7_place 61 = .ok (.iload_n 1, 1) := by decide +kernel
theorem dX7_place_62 : decode cX7_place 62 = .ok (.iload_n 2, 1) := by decide +kernel
theorem dX7_place_63 : decode cX7_place 63 = .ok (.invokevirtual 109, 3) := by decide +kernel
theorem dX7_place_66 : decode cX7_place 66 = .ok (.ireturn, 1) := by decide +kernel
theorem dX7_menOf_0 : decode cX7_menOf 0 = .ok (.iload_n 2, 1) := by decide +kernel
theorem dX7_menOf_1 : decode cX7_menOf 1 = .ok (.iconst 1, 1) := by decide +kernel
theorem dX7_menOf_2 : decode cX7_menOf 2 = .ok (.isub, 1) := by decide +kernel
theorem dX7_menOf_3 : decode cX7_menOf 3 = .ok (.aload_n 0, 1) := by decide +kernel
theorem dX7_menOf_4 : decode cX7_menOf 4 = .ok (.iload_n 1, 1) := by decide +kernel
theorem dX7_menOf_5 : decode cX7_menOf 5 = .ok (.invokevirtual 96, 3) := by decide +kernel
theorem dX7_menOf_8 : decode cX7_menOf 8 = .ok (.idiv, 1) := by decide +kernel
theorem dX7_menOf_9 : decode cX7_menOf 9 = .ok (.ireturn, 1) := by decide +kernel
theorem dX7_placeOf_0 : decode cX7_placeOf 0 = .ok (.iload_n 2, 1) := by decide +kernel
theorem dX7_placeOf_1 : decode cX7_placeOf 1 = .ok (.aload_n 0, 1) := by decide +kernel
theorem dX7_placeOf_2 : decode cX7_placeOf 2 = .ok (.iload_n 1, 1) := by decide +kernel
theorem dX7_placeOf_3 : decode cX7_placeOf 3 = .ok (.invokevirtual 96, 3) := by decide +kernel
theorem dX7_placeOf_6 : decode cX7_placeOf 6 = .ok (.aload_n 0, 1) := by decide +kernel
theorem dX7_placeOf_7 : decode cX7_placeOf 7 = .ok (.iload_n 1, 1) := by decide +kernel
theorem dX7_placeOf_8 : decode cX7_placeOf 8 = .ok (.iload_n 2, 1) := by decide +kernel
theorem dX7_placeOf_9 : decode cX7_placeOf 9 = .ok (.invokevirtual 112, 3) := by decide +kernel
theorem dX7_placeOf_12 : decode cX7_placeOf 12 = .ok (.imul, 1) := by decide +kernel
theorem dX7_placeOf_13 : decode cX7_placeOf 13 = .ok (.isub, 1) := by decide +kernel
theorem dX7_placeOf_14 : decode cX7_placeOf 14 = .ok (.ireturn, 1) := by decide +kernel
theorem dX7_number_0 : decode cX7_number 0 = .ok (.aload_n 0, 1) := by decide +kernel
theorem dX7_number_1 : decode cX7_number 1 = .ok (.iload_n 1, 1) := by decide +kernel
theorem dX7_number_2 : decode cX7_number 2 = .ok (.invokevirtual 93, 3) := by decide +kernel
theorem dX7_number_5 : decode cX7_number 5 = .ok (.ifCond .eq 23, 3) := by decide +kernel
theorem dX7_number_8 : decode cX7_number 8 = .ok (.iload_n 2, 1) := by decide +kernel
theorem dX7_number_9 : decode cX7_number 9 = .ok (.iconst 1, 1) := by decide +kernel
theorem dX7_number_10 : decode cX7_number 10 = .ok (.sipush 400, 3) := by decide +kernel
theorem dX7_number_13 : decode cX7_number 13 = .ok (.invokestatic 75, 3) := by decide +kernel
theorem dX7_number_16 : decode cX7_number 16 = .ok (.ifCond .eq 12, 3) := by decide +kernel
theorem dX7_number_19 : decode cX7_number 19 = .ok (.iload_n 3, 1) := by decide +kernel
theorem dX7_number_20 : decode cX7_number 20 = .ok (.iconst 0, 1) := by decide +kernel
theorem dX7_number_21 : decode cX7_number 21 = .ok (.iconst 3, 1) := by decide +kernel
theorem dX7_number_22 : decode cX7_number 22 = .ok (.invokestatic 75, 3) := by decide +kernel
theorem dX7_number_25 : decode cX7_number 25 = .ok (.ifCond .ne 6, 3) := by decide +kernel
theorem dX7_number_28 : decode cX7_number 28 = .ok (.bipush (-2), 2) := by decide +kernel
theorem dX7_number_30 : decode cX7_number 30 = .ok (.ireturn, 1) := by decide +kernel
theorem dX7_number_31 : decode cX7_number 31 = .ok (.aload_n 0, 1) := by decide +kernel
theorem dX7_number_32 : decode cX7_number 32 = .ok (.iload_n 1, 1) := by decide +kernel
theorem dX7_number_33 : decode cX7_number 33 = .ok (.iload_n 2, 1) := by decide +kernel
theorem dX7_number_34 : decode cX7_number 34 = .ok (.invokevirtual 115, 3) := by decide +kernel
theorem dX7_number_37 : decode cX7_number 37 = .ok (.istore 4, 2) := by decide +kernel
theorem dX7_number_39 : decode cX7_number 39 = .ok (.iload_n 3, 1) := by decide +kernel
theorem dX7_number_40 : decode cX7_number 40 = .ok (.ifCond .ne 12, 3) := by decide +kernel
theorem dX7_number_43 : decode cX7_number 43 = .ok (.aload_n 0, 1) := by decide +kernel
theorem dX7_number_44 : decode cX7_number 44 = .ok (.iload_n 1, 1) := by decide +kernel
theorem dX7_number_45 : decode cX7_number 45 = .ok (.iload_n 2, 1) := by decide +kernel
theorem dX7_number_46 : decode cX7_number 46 = .ok (.invokevirtual 112, 3) := by decide +kernel
theorem dX7_number_49 : decode cX7_number 49 = .ok (.goto 35, 3) := by decide +kernel
theorem dX7_number_52 : decode cX7_number 52 = .ok (.iload_n 3, 1) := by decide +kernel
theorem dX7_number_53 : decode cX7_number 53 = .ok (.iconst 1, 1) := by decide +kernel
theorem dX7_number_54 : decode cX7_number 54 = .ok (.if_icmp .ne 8, 3) := by decide +kernel
theorem dX7_number_57 : decode cX7_number 57 = .ok (.iload 4, 2) := by decide +kernel
theorem dX7_number_59 : decode cX7_number 59 = .ok (.goto 25, 3) := by decide +kernel
theorem dX7_number_62 : decode cX7_number 62 = .ok (.iload_n 3, 1) := by decide +kernel
theorem dX7_number_63 : decode cX7_number 63 = .ok (.iconst 2, 1) := by decide +kernel
theorem dX7_number_64 : decode cX7_number 64 = .ok (.if_icmp .ne 13, 3) := by decide +kernel
theorem dX7_number_67 : decode cX7_number 67 = .ok (.aload_n 0, 1) := by decide +kernel
theorem dX7_number_68 : decode cX7_number 68 = .ok (.iload_n 1, 1) := by decide +kernel
theorem dX7_number_69 : decode cX7_number 69 = .ok (.iload 4, 2) := by decide +kernel
theorem dX7_number_71 : decode cX7_number 71 = .ok (.invokevirtual 106, 3) := by decide +kernel
theorem dX7_number_74 : decode cX7_number 74 = .ok (.goto 10, 3) := by decide +kernel
theorem dX7_number_77 : decode cX7_number 77 = .ok (.aload_n 0, 1) := by decide +kernel
theorem dX7_number_78 : decode cX7_number 78 = .ok (.iload_n 1, 1) := by decide +kernel
theorem dX7_number_79 : decode cX7_number 79 = .ok (.iload 4, 2) := by decide +kernel
theorem dX7_number_81 : decode cX7_number 81 = .ok (.invokevirtual 109, 3) := by decide +kernel
theorem dX7_number_84 : decode cX7_number 84 = .ok (.ireturn, 1) := by decide +kernel
theorem dX7_value_0 : decode cX7_value 0 = .ok (.aload_n 0, 1) := by decide +kernel
theorem dX7_value_1 : decode cX7_value 1 = .ok (.iload_n 1, 1) := by decide +kernel
theorem dX7_value_2 : decode cX7_value 2 = .ok (.invokevirtual 93, 3) := by decide +kernel
theorem dX7_value_5 : decode cX7_value 5 = .ok (.ifCond .eq 38, 3) := by decide +kernel
theorem dX7_value_8 : decode cX7_value 8 = .ok (.iload_n 2, 1) := by decide +kernel
theorem dX7_value_9 : decode cX7_value 9 = .ok (.iconst 0, 1) := by decide +kernel
theorem dX7_value_10 : decode cX7_value 10 = .ok (.bipush 20, 2) := by decide +kernel
theorem dX7_value_12 : decode cX7_value 12 = .ok (.invokestatic 75, 3) := by decide +kernel
theorem dX7_value_15 : decode cX7_value 15 = .ok (.ifCond .eq 28, 3) := by decide +kernel
theorem dX7_value_18 : decode cX7_value 18 = .ok (.iload_n 3, 1) := by decide +kernel
theorem dX7_value_19 : decode cX7_value 19 = .ok (.iconst 1, 1) := by decide +kernel
theorem dX7_value_20 : decode cX7_value 20 = .ok (.aload_n 0, 1) := by decide +kernel
theorem dX7_value_21 : decode cX7_value 21 = .ok (.iload_n 1, 1) := by decide +kernel
theorem dX7_value_22 : decode cX7_value 22 = .ok (.invokevirtual 96, 3) := by decide +kernel
theorem dX7_value_25 : decode cX7_value 25 = .ok (.invokestatic 75, 3) := by decide +kernel
theorem dX7_value_28 : decode cX7_value 28 = .ok (.ifCond .eq 15, 3) := by decide +kernel
theorem dX7_value_31 : decode cX7_value 31 = .ok (.iload_n 2, 1) := by decide +kernel
theorem dX7_value_32 : decode cX7_value 32 = .ok (.aload_n 0, 1) := by decide +kernel
theorem dX7_value_33 : decode cX7_value 33 = .ok (.iload_n 1, 1) := by decide +kernel
theorem dX7_value_34 : decode cX7_value 34 = .ok (.invokevirtual 96, 3) := by decide +kernel
theorem dX7_value_37 : decode cX7_value 37 = .ok (.imul, 1) := by decide +kernel
theorem dX7_value_38 : decode cX7_value 38 = .ok (.iload_n 3, 1) := by decide +kernel
theorem dX7_value_39 : decode cX7_value 39 = .ok (.iadd, 1) := by decide +kernel
theorem dX7_value_40 : decode cX7_value 40 = .ok (.goto 5, 3) := by decide +kernel
theorem dX7_value_43 : decode cX7_value 43 = .ok (.bipush (-2), 2) := by decide +kernel
theorem dX7_value_45 : decode cX7_value 45 = .ok (.ireturn, 1) := by decide +kernel
theorem dX7_mayMean_0 : decode cX7_mayMean 0 = .ok (.aload_n 0, 1) := by decide +kernel
theorem dX7_mayMean_1 : decode cX7_mayMean 1 = .ok (.iload_n 1, 1) := by decide +kernel
theorem dX7_mayMean_2 : decode cX7_mayMean 2 = .ok (.iload 5, 2) := by decide +kernel
theorem dX7_mayMean_4 : decode cX7_mayMean 4 = .ok (.invokevirtual 115, 3) := by decide +kernel
theorem dX7_mayMean_7 : decode cX7_mayMean 7 = .ok (.istore 6, 2) := by decide +kernel
theorem dX7_mayMean_9 : decode cX7_mayMean 9 = .ok (.aload_n 0, 1) := by decide +kernel
theorem dX7_mayMean_10 : decode cX7_mayMean 10 = .ok (.iload_n 1, 1) := by decide +kernel
theorem dX7_mayMean_11 : decode cX7_mayMean 11 = .ok (.iload 6, 2) := by decide +kernel
theorem dX7_mayMean_13 : decode cX7_mayMean 13 = .ok (.invokevirtual 106, 3) := by decide +kernel
theorem dX7_mayMean_16 : decode cX7_mayMean 16 = .ok (.iload_n 2, 1) := by decide +kernel
theorem dX7_mayMean_17 : decode cX7_mayMean 17 = .ok (.if_icmp .ne 41, 3) := by decide +kernel
theorem dX7_mayMean_20 : decode cX7_mayMean 20 = .ok (.iload_n 3, 1) := by decide +kernel
theorem dX7_mayMean_21 : decode cX7_mayMean 21 = .ok (.iconst (-1), 1) := by decide +kernel
theorem dX7_mayMean_22 : decode cX7_mayMean 22 = .ok (.if_icmp .eq 14, 3) := by decide +kernel
theorem dX7_mayMean_25 : decode cX7_mayMean 25 = .ok (.aload_n 0, 1) := by decide +kernel
theorem dX7_mayMean_26 : decode cX7_mayMean 26 = .ok (.iload_n 1, 1) := by decide +kernel
theorem dX7_mayMean_27 : decode cX7_mayMean 27 = .ok (.iload 6, 2) := by decide +kernel
theorem dX7_mayMean_29 : decode cX7_mayMean 29 = .ok (.invokevirtual 109, 3) := by decide +kernel
theorem dX7_mayMean_32 : decode cX7_mayMean 32 = .ok (.iload_n 3, 1) := by decide +kernel
theorem dX7_mayMean_33 : decode cX7_mayMean 33 = .ok (.if_icmp .ne 25, 3) := by decide +kernel
theorem dX7_mayMean_36 : decode cX7_mayMean 36 = .ok (.iload 4, 2) := by decide +kernel
theorem dX7_mayMean_38 : decode cX7_mayMean 38 = .ok (.iconst (-1), 1) := by decide +kernel
theorem dX7_mayMean_39 : decode cX7_mayMean 39 = .ok (.if_icmp .eq 15, 3) := by decide +kernel
theorem dX7_mayMean_42 : decode cX7_mayMean 42 = .ok (.aload_n 0, 1) := by decide +kernel
theorem dX7_mayMean_43 : decode cX7_mayMean 43 = .ok (.iload_n 1, 1) := by decide +kernel
theorem dX7_mayMean_44 : decode cX7_mayMean 44 = .ok (.iload 5, 2) := by decide +kernel
theorem dX7_mayMean_46 : decode cX7_mayMean 46 = .ok (.invokevirtual 112, 3) := by decide +kernel
theorem dX7_mayMean_49 : decode cX7_mayMean 49 = .ok (.iload 4, 2) := by decide +kernel
theorem dX7_mayMean_51 : decode cX7_mayMean 51 = .ok (.if_icmp .ne 7, 3) := by decide +kernel
theorem dX7_mayMean_54 : decode cX7_mayMean 54 = .ok (.iconst 1, 1) := by decide +kernel
theorem dX7_mayMean_55 : decode cX7_mayMean 55 = .ok (.goto 4, 3) := by decide +kernel
theorem dX7_mayMean_58 : decode cX7_mayMean 58 = .ok (.iconst 0, 1) := by decide +kernel
theorem dX7_mayMean_59 : decode cX7_mayMean 59 = .ok (.ireturn, 1) := by decide +kernel
theorem dX7_isPoint_0 : decode cX7_isPoint 0 = .ok (.aload_n 0, 1) := by decide +kernel
theorem dX7_isPoint_1 : decode cX7_isPoint 1 = .ok (.iload_n 1, 1) := by decide +kernel
theorem dX7_isPoint_2 : decode cX7_isPoint 2 = .ok (.invokevirtual 93, 3) := by decide +kernel
theorem dX7_isPoint_5 : decode cX7_isPoint 5 = .ok (.ifCond .eq 34, 3) := by decide +kernel
theorem dX7_isPoint_8 : decode cX7_isPoint 8 = .ok (.iload_n 2, 1) := by decide +kernel
theorem dX7_isPoint_9 : decode cX7_isPoint 9 = .ok (.invokestatic 90, 3) := by decide +kernel
theorem dX7_isPoint_12 : decode cX7_isPoint 12 = .ok (.ifCond .eq 27, 3) := by decide +kernel
theorem dX7_isPoint_15 : decode cX7_isPoint 15 = .ok (.iload_n 3, 1) := by decide +kernel
theorem dX7_isPoint_16 : decode cX7_isPoint 16 = .ok (.iconst (-1), 1) := by decide +kernel
theorem dX7_isPoint_17 : decode cX7_isPoint 17 = .ok (.iconst 2, 1) := by decide +kernel
theorem dX7_isPoint_18 : decode cX7_isPoint 18 = .ok (.invokestatic 75, 3) := by decide +kernel
theorem dX7_isPoint_21 : decode cX7_isPoint 21 = .ok (.ifCond .eq 18, 3) := by decide +kernel
theorem dX7_isPoint_24 : decode cX7_isPoint 24 = .ok (.iload 4, 2) := by decide +kernel
theorem dX7_isPoint_26 : decode cX7_isPoint 26 = .ok (.iconst (-1), 1) := by decide +kernel
theorem dX7_isPoint_27 : decode cX7_isPoint 27 = .ok (.bipush 20, 2) := by decide +kernel
theorem dX7_isPoint_29 : decode cX7_isPoint 29 = .ok (.invokestatic 75, 3) := by decide +kernel
theorem dX7_isPoint_32 : decode cX7_isPoint 32 = .ok (.ifCond .eq 7, 3) := by decide +kernel
theorem dX7_isPoint_35 : decode cX7_isPoint 35 = .ok (.iconst 1, 1) := by decide +kernel
theorem dX7_isPoint_36 : decode cX7_isPoint 36 = .ok (.goto 4, 3) := by decide +kernel
theorem dX7_isPoint_39 : decode cX7_isPoint 39 = .ok (.iconst 0, 1) := by decide +kernel
theorem dX7_isPoint_40 : decode cX7_isPoint 40 = .ok (.ireturn, 1) := by decide +kernel
theorem dX7_meanings_0 : decode cX7_meanings 0 = .ok (.aload_n 0, 1) := by decide +kernel
theorem dX7_meanings_1 : decode cX7_meanings 1 = .ok (.iload_n 1, 1) := by decide +kernel
theorem dX7_meanings_2 : decode cX7_meanings 2 = .ok (.iload_n 2, 1) := by decide +kernel
theorem dX7_meanings_3 : decode cX7_meanings 3 = .ok (.iload_n 3, 1) := by decide +kernel
theorem dX7_meanings_4 : decode cX7_meanings 4 = .ok (.iload 4, 2) := by decide +kernel
theorem dX7_meanings_6 : decode cX7_meanings 6 = .ok (.invokevirtual 118, 3) := by decide +kernel
theorem dX7_meanings_9 : decode cX7_meanings 9 = .ok (.ifCond .eq 15, 3) := by decide +kernel
theorem dX7_meanings_12 : decode cX7_meanings 12 = .ok (.iload 5, 2) := by decide +kernel
theorem dX7_meanings_14 : decode cX7_meanings 14 = .ok (.iconst 1, 1) := by decide +kernel
theorem dX7_meanings_15 : decode cX7_meanings 15 = .ok (.sipush 400, 3) := by decide +kernel
theorem dX7_meanings_18 : decode cX7_meanings 18 = .ok (.invokestatic 75, 3) := by decide +kernel
theorem dX7_meanings_21 : decode cX7_meanings 21 = .ok (.ifCond .ne 6, 3) := by decide +kernel
theorem dX7_meanings_24 : decode cX7_meanings 24 = .ok (.bipush (-2), 2) := by decide +kernel
theorem dX7_meanings_26 : decode cX7_meanings 26 = .ok (.ireturn, 1) := by decide +kernel
theorem dX7_meanings_27 : decode cX7_meanings 27 = .ok (.iconst 0, 1) := by decide +kernel
theorem dX7_meanings_28 : decode cX7_meanings 28 = .ok (.istore 6, 2) := by decide +kernel
theorem dX7_meanings_30 : decode cX7_meanings 30 = .ok (.iconst 1, 1) := by decide +kernel
theorem dX7_meanings_31 : decode cX7_meanings 31 = .ok (.istore 7, 2) := by decide +kernel
theorem dX7_meanings_33 : decode cX7_meanings 33 = .ok (.iload 7, 2) := by decide +kernel
theorem dX7_meanings_35 : decode cX7_meanings 35 = .ok (.iload 5, 2) := by decide +kernel
theorem dX7_meanings_37 : decode cX7_meanings 37 = .ok (.if_icmp .gt 33, 3) := by decide +kernel
theorem dX7_meanings_40 : decode cX7_meanings 40 = .ok (.iload 6, 2) := by decide +kernel
theorem dX7_meanings_42 : decode cX7_meanings 42 = .ok (.aload_n 0, 1) := by decide +kernel
theorem dX7_meanings_43 : decode cX7_meanings 43 = .ok (.iload_n 1, 1) := by decide +kernel
theorem dX7_meanings_44 : decode cX7_meanings 44 = .ok (.iload_n 2, 1) := by decide +kernel
theorem dX7_meanings_45 : decode cX7_meanings 45 = .ok (.iload_n 3, 1) := by decide +kernel
theorem dX7_meanings_46 : decode cX7_meanings 46 = .ok (.iload 4, 2) := by decide +kernel
theorem dX7_meanings_48 : decode cX7_meanings 48 = .ok (.iload 7, 2) := by decide +kernel
theorem dX7_meanings_50 : decode cX7_meanings 50 = .ok (.invokevirtual 122, 3) := by decide +kernel
theorem dX7_meanings_53 : decode cX7_meanings 53 = .ok (.ifCond .eq 7, 3) := by decide +kernel
theorem dX7_meanings_56 : decode cX7_meanings 56 = .ok (.iconst 1, 1) := by decide +kernel
theorem dX7_meanings_57 : decode cX7_meanings 57 = .ok (.goto 4, 3) := by decide +kernel
theorem dX7_meanings_60 : decode cX7_meanings 60 = .ok (.iconst 0, 1) := by decide +kernel
theorem dX7_meanings_61 : decode cX7_meanings 61 = .ok (.iadd, 1) := by decide +kernel
theorem dX7_meanings_62 : decode cX7_meanings 62 = .ok (.istore 6, 2) := by decide +kernel
theorem dX7_meanings_64 : decode cX7_meanings 64 = .ok (.iinc 7 1, 3) := by decide +kernel
theorem dX7_meanings_67 : decode cX7_meanings 67 = .ok (.goto (-34), 3) := by decide +kernel
theorem dX7_meanings_70 : decode cX7_meanings 70 = .ok (.iload 6, 2) := by decide +kernel
theorem dX7_meanings_72 : decode cX7_meanings 72 = .ok (.ireturn, 1) := by decide +kernel
theorem dX7_meaning_0 : decode cX7_meaning 0 = .ok (.aload_n 0, 1) := by decide +kernel
theorem dX7_meaning_1 : decode cX7_meaning 1 = .ok (.iload_n 1, 1) := by decide +kernel
theorem dX7_meaning_2 : decode cX7_meaning 2 = .ok (.iload_n 2, 1) := by decide +kernel
theorem dX7_meaning_3 : decode cX7_meaning 3 = .ok (.iload_n 3, 1) := by decide +kernel
theorem dX7_meaning_4 : decode cX7_meaning 4 = .ok (.iload 4, 2) := by decide +kernel
theorem dX7_meaning_6 : decode cX7_meaning 6 = .ok (.invokevirtual 118, 3) := by decide +kernel
theorem dX7_meaning_9 : decode cX7_meaning 9 = .ok (.ifCond .eq 8, 3) := by decide +kernel
theorem dX7_meaning_12 : decode cX7_meaning 12 = .ok (.iload 5, 2) := by decide +kernel
theorem dX7_meaning_14 : decode cX7_meaning 14 = .ok (.ifCond .ge 6, 3) := by decide +kernel
theorem dX7_meaning_17 : decode cX7_meaning 17 = .ok (.bipush (-2), 2) := by decide +kernel
theorem dX7_meaning_19 : decode cX7_meaning 19 = .ok (.ireturn, 1) := by decide +kernel
theorem dX7_meaning_20 : decode cX7_meaning 20 = .ok (.iload 5, 2) := by decide +kernel
theorem dX7_meaning_22 : decode cX7_meaning 22 = .ok (.istore 6, 2) := by decide +kernel
theorem dX7_meaning_24 : decode cX7_meaning 24 = .ok (.iconst 1, 1) := by decide +kernel
theorem dX7_meaning_25 : decode cX7_meaning 25 = .ok (.istore 7, 2) := by decide +kernel
theorem dX7_meaning_27 : decode cX7_meaning 27 = .ok (.iload 7, 2) := by decide +kernel
theorem dX7_meaning_29 : decode cX7_meaning 29 = .ok (.sipush 400, 3) := by decide +kernel
theorem dX7_meaning_32 : decode cX7_meaning 32 = .ok (.if_icmp .gt 34, 3) := by decide +kernel
theorem dX7_meaning_35 : decode cX7_meaning 35 = .ok (.aload_n 0, 1) := by decide +kernel
theorem dX7_meaning_36 : decode cX7_meaning 36 = .ok (.iload_n 1, 1) := by decide +kernel
theorem dX7_meaning_37 : decode cX7_meaning 37 = .ok (.iload_n 2, 1) := by decide +kernel
theorem dX7_meaning_38 : decode cX7_meaning 38 = .ok (.iload_n 3, 1) := by decide +kernel
theorem dX7_meaning_39 : decode cX7_meaning 39 = .ok (.iload 4, 2) := by decide +kernel
theorem dX7_meaning_41 : decode cX7_meaning 41 = .ok (.iload 7, 2) := by decide +kernel
theorem dX7_meaning_43 : decode cX7_meaning 43 = .ok (.invokevirtual 122, 3) := by decide +kernel
theorem dX7_meaning_46 : decode cX7_meaning 46 = .ok (.ifCond .eq 14, 3) := by decide +kernel
theorem dX7_meaning_49 : decode cX7_meaning 49 = .ok (.iload 6, 2) := by decide +kernel
theorem dX7_meaning_51 : decode cX7_meaning 51 = .ok (.ifCond .ne 6, 3) := by decide +kernel
theorem dX7_meaning_54 : decode cX7_meaning 54 = .ok (.iload 7, 2) := by decide +kernel
theorem dX7_meaning_56 : decode cX7_meaning 56 = .ok (.ireturn, 1) := by decide +kernel
theorem dX7_meaning_57 : decode cX7_meaning 57 = .ok (.iinc 6 (-1), 3) := by decide +kernel
theorem dX7_meaning_60 : decode cX7_meaning 60 = .ok (.iinc 7 1, 3) := by decide +kernel
theorem dX7_meaning_63 : decode cX7_meaning 63 = .ok (.goto (-36), 3) := by decide +kernel
theorem dX7_meaning_66 : decode cX7_meaning 66 = .ok (.iconst (-1), 1) := by decide +kernel
theorem dX7_meaning_67 : decode cX7_meaning 67 = .ok (.ireturn, 1) := by decide +kernel
theorem dX7_mat_0 : decode cX7_mat 0 = .ok (.iload_n 1, 1) := by decide +kernel
theorem dX7_mat_1 : decode cX7_mat 1 = .ok (.iconst 1, 1) := by decide +kernel
theorem dX7_mat_2 : decode cX7_mat 2 = .ok (.bipush 40, 2) := by decide +kernel
theorem dX7_mat_4 : decode cX7_mat 4 = .ok (.invokestatic 75, 3) := by decide +kernel
theorem dX7_mat_7 : decode cX7_mat 7 = .ok (.ifCond .ne 6, 3) := by decide +kernel
theorem dX7_mat_10 : decode cX7_mat 10 = .ok (.bipush (-2), 2) := by decide +kernel
theorem dX7_mat_12 : decode cX7_mat 12 = .ok (.ireturn, 1) := by decide +kernel
theorem dX7_mat_13 : decode cX7_mat 13 = .ok (.aload_n 0, 1) := by decide +kernel
theorem dX7_mat_14 : decode cX7_mat 14 = .ok (.getfield 23, 3) := by decide +kernel
theorem dX7_mat_17 : decode cX7_mat 17 = .ok (.istore_n 2, 1) := by decide +kernel
theorem dX7_mat_18 : decode cX7_mat 18 = .ok (.aload_n 0, 1) := by decide +kernel
theorem dX7_mat_19 : decode cX7_mat 19 = .ok (.iload_n 1, 1) := by decide +kernel
theorem dX7_mat_20 : decode cX7_mat 20 = .ok (.putfield 23, 3) := by decide +kernel
theorem dX7_mat_23 : decode cX7_mat 23 = .ok (.iload_n 2, 1) := by decide +kernel
theorem dX7_mat_24 : decode cX7_mat 24 = .ok (.ireturn, 1) := by decide +kernel
theorem dX7_clueMore_0 : decode cX7_clueMore 0 = .ok (.aload_n 0, 1) := by decide +kernel
theorem dX7_clueMore_1 : decode cX7_clueMore 1 = .ok (.getfield 126, 3) := by decide +kernel
theorem dX7_clueMore_4 : decode cX7_clueMore 4 = .ok (.bipush 8, 2) := by decide +kernel
theorem dX7_clueMore_6 : decode cX7_clueMore 6 = .ok (.if_icmp .ne 6, 3) := by decide +kernel
theorem dX7_clueMore_9 : decode cX7_clueMore 9 = .ok (.bipush (-4), 2) := by decide +kernel
theorem dX7_clueMore_11 : decode cX7_clueMore 11 = .ok (.ireturn, 1) := by decide +kernel
theorem dX7_clueMore_12 : decode cX7_clueMore 12 = .ok (.bipush 6, 2) := by decide +kernel
theorem dX7_clueMore_14 : decode cX7_clueMore 14 = .ok (.aload_n 0, 1) := by decide +kernel
theorem dX7_clueMore_15 : decode cX7_clueMore 15 = .ok (.getfield 126, 3) := by decide +kernel
theorem dX7_clueMore_18 : decode cX7_clueMore 18 = .ok (.imul, 1) := by decide +kernel
theorem dX7_clueMore_19 : decode cX7_clueMore 19 = .ok (.istore 7, 2) := by decide +kernel
theorem dX7_clueMore_21 : decode cX7_clueMore 21 = .ok (.aload_n 0, 1) := by decide +kernel
theorem dX7_clueMore_22 : decode cX7_clueMore 22 = .ok (.getfield 27, 3) := by decide +kernel
theorem dX7_clueMore_25 : decode cX7_clueMore 25 = .ok (.iload 7, 2) := by decide +kernel
theorem dX7_clueMore_27 : decode cX7_clueMore 27 = .ok (.iload_n 1, 1) := by decide +kernel
theorem dX7_clueMore_28 : decode cX7_clueMore 28 = .ok (.iastore, 1) := by decide +kernel
theorem dX7_clueMore_29 : decode cX7_clueMore 29 = .ok (.aload_n 0, 1) := by decide +kernel
theorem dX7_clueMore_30 : decode cX7_clueMore 30 = .ok (.getfield 27, 3) := by decide +kernel
theorem dX7_clueMore_33 : decode cX7_clueMore 33 = .ok (.iload 7, 2) := by decide +kernel
theorem dX7_clueMore_35 : decode cX7_clueMore 35 = .ok (.iconst 1, 1) := by decide +kernel
theorem dX7_clueMore_36 : decode cX7_clueMore 36 = .ok (.iadd, 1) := by decide +kernel
theorem dX7_clueMore_37 : decode cX7_clueMore 37 = .ok (.iload_n 2, 1) := by decide +kernel
theorem dX7_clueMore_38 : decode cX7_clueMore 38 = .ok (.iastore, 1) := by decide +kernel
theorem dX7_clueMore_39 : decode cX7_clueMore 39 = .ok (.aload_n 0, 1) := by decide +kernel
theorem dX7_clueMore_40 : decode cX7_clueMore 40 = .ok (.getfield 27, 3) := by decide +kernel
theorem dX7_clueMore_43 : decode cX7_clueMore 43 = .ok (.iload 7, 2) := by decide +kernel
theorem dX7_clueMore_45 : decode cX7_clueMore 45 = .ok (.iconst 2, 1) := by decide +kernel
theorem dX7_clueMore_46 : decode cX7_clueMore 46 = .ok (.iadd, 1) := by decide +kernel
theorem dX7_clueMore_47 : decode cX7_clueMore 47 = .ok (.iload_n 3, 1) := by decide +kernel
theorem dX7_clueMore_48 : decode cX7_clueMore 48 = .ok (.iastore, 1) := by decide +kernel
theorem dX7_clueMore_49 : decode cX7_clueMore 49 = .ok (.aload_n 0, 1) := by decide +kernel
theorem dX7_clueMore_50 : decode cX7_clueMore 50 = .ok (.getfield 27, 3) := by decide +kernel
theorem dX7_clueMore_53 : decode cX7_clueMore 53 = .ok (.iload 7, 2) := by decide +kernel
theorem dX7_clueMore_55 : decode cX7_clueMore 55 = .ok (.iconst 3, 1) := by decide +kernel
theorem dX7_clueMore_56 : decode cX7_clueMore 56 = .ok (.iadd, 1) := by decide +kernel
theorem dX7_clueMore_57 : decode cX7_clueMore 57 = .ok (.iload 4, 2) := by decide +kernel
theorem dX7_clueMore_59 : decode cX7_clueMore 59 = .ok (.iastore, 1) := by decide +kernel
theorem dX7_clueMore_60 : decode cX7_clueMore 60 = .ok (.aload_n 0, 1) := by decide +kernel
theorem dX7_clueMore_61 : decode cX7_clueMore 61 = .ok (.getfield 27, 3) := by decide +kernel
theorem dX7_clueMore_64 : decode cX7_clueMore 64 = .ok (.iload 7, 2) := by decide +kernel
theorem dX7_clueMore_66 : decode cX7_clueMore 66 = .ok (.iconst 4, 1) := by decide +kernel
theorem dX7_clueMore_67 : decode cX7_clueMore 67 = .ok (.iadd, 1) := by decide +kernel
theorem dX7_clueMore_68 : decode cX7_clueMore 68 = .ok (.iload 5, 2) := by decide +kernel
theorem dX7_clueMore_70 : decode cX7_clueMore 70 = .ok (.iastore, 1) := by decide +kernel
theorem dX7_clueMore_71 : decode cX7_clueMore 71 = .ok (.aload_n 0, 1) := by decide +kernel
theorem dX7_clueMore_72 : decode cX7_clueMore 72 = .ok (.getfield 27, 3) := by decide +kernel
theorem dX7_clueMore_75 : decode cX7_clueMore 75 = .ok (.iload 7, 2) := by decide +kernel
theorem dX7_clueMore_77 : decode cX7_clueMore 77 = .ok (.iconst 5, 1) := by decide +kernel
theorem dX7_clueMore_78 : decode cX7_clueMore 78 = .ok (.iadd, 1) := by decide +kernel
theorem dX7_clueMore_79 : decode cX7_clueMore 79 = .ok (.iload 6, 2) := by decide +kernel
theorem dX7_clueMore_81 : decode cX7_clueMore 81 = .ok (.iastore, 1) := by decide +kernel
theorem dX7_clueMore_82 : decode cX7_clueMore 82 = .ok (.aload_n 0, 1) := by decide +kernel
theorem dX7_clueMore_83 : decode cX7_clueMore 83 = .ok (.dup, 1) := by decide +kernel
theorem dX7_clueMore_84 : decode cX7_clueMore 84 = .ok (.getfield 126, 3) := by decide +kernel
theorem dX7_clueMore_87 : decode cX7_clueMore 87 = .ok (.iconst 1, 1) := by decide +kernel
theorem dX7_clueMore_88 : decode cX7_clueMore 88 = .ok (.iadd, 1) := by decide +kernel
theorem dX7_clueMore_89 : decode cX7_clueMore 89 = .ok (.putfield 126, 3) := by decide +kernel
theorem dX7_clueMore_92 : decode cX7_clueMore 92 = .ok (.aload_n 0, 1) := by decide +kernel
theorem dX7_clueMore_93 : decode cX7_clueMore 93 = .ok (.getfield 126, 3) := by decide +kernel
theorem dX7_clueMore_96 : decode cX7_clueMore 96 = .ok (.ireturn, 1) := by decide +kernel
theorem dX7_isUnknown_0 : decode cX7_isUnknown 0 = .ok (.iload_n 0, 1) := by decide +kernel
theorem dX7_isUnknown_1 : decode cX7_isUnknown 1 = .ok (.iconst 0, 1) := by decide +kernel
theorem dX7_isUnknown_2 : decode cX7_isUnknown 2 = .ok (.iconst 2, 1) := by decide +kernel
theorem dX7_isUnknown_3 : decode cX7_isUnknown 3 = .ok (.invokestatic 75, 3) := by decide +kernel
theorem dX7_isUnknown_6 : decode cX7_isUnknown 6 = .ok (.ireturn, 1) := by decide +kernel
theorem dX7_clue_0 : decode cX7_clue 0 = .ok (.iload_n 1, 1) := by decide +kernel
theorem dX7_clue_1 : decode cX7_clue 1 = .ok (.invokestatic 129, 3) := by decide +kernel
theorem dX7_clue_4 : decode cX7_clue 4 = .ok (.ifCond .eq 31, 3) := by decide +kernel
theorem dX7_clue_7 : decode cX7_clue 7 = .ok (.aload_n 0, 1) := by decide +kernel
theorem dX7_clue_8 : decode cX7_clue 8 = .ok (.iload_n 2, 1) := by decide +kernel
theorem dX7_clue_9 : decode cX7_clue 9 = .ok (.iload_n 3, 1) := by decide +kernel
theorem dX7_clue_10 : decode cX7_clue 10 = .ok (.iload 4, 2) := by decide +kernel
theorem dX7_clue_12 : decode cX7_clue 12 = .ok (.iload 5, 2) := by decide +kernel
theorem dX7_clue_14 : decode cX7_clue 14 = .ok (.invokevirtual 118, 3) := by decide +kernel
theorem dX7_clue_17 : decode cX7_clue 17 = .ok (.ifCond .eq 18, 3) := by decide +kernel
theorem dX7_clue_20 : decode cX7_clue 20 = .ok (.aload_n 0, 1) := by decide +kernel
theorem dX7_clue_21 : decode cX7_clue 21 = .ok (.iconst 0, 1) := by decide +kernel
theorem dX7_clue_22 : decode cX7_clue 22 = .ok (.iload_n 1, 1) := by decide +kernel
theorem dX7_clue_23 : decode cX7_clue 23 = .ok (.iload_n 2, 1) := by decide +kernel
theorem dX7_clue_24 : decode cX7_clue 24 = .ok (.iload_n 3, 1) := by decide +kernel
theorem dX7_clue_25 : decode cX7_clue 25 = .ok (.iload 4, 2) := by decide +kernel
theorem dX7_clue_27 : decode cX7_clue 27 = .ok (.iload 5, 2) := by decide +kernel
theorem dX7_clue_29 : decode cX7_clue 29 = .ok (.invokevirtual 132, 3) := by decide +kernel
theorem dX7_clue_32 : decode cX7_clue 32 = .ok (.goto 5, 3) := by decide +kernel
theorem dX7_clue_35 : decode cX7_clue 35 = .ok (.bipush (-2), 2) := by decide +kernel
theorem dX7_clue_37 : decode cX7_clue 37 = .ok (.ireturn, 1) := by decide +kernel
theorem dX7_sum_0 : decode cX7_sum 0 = .ok (.iload_n 1, 1) := by decide +kernel
theorem dX7_sum_1 : decode cX7_sum 1 = .ok (.invokestatic 129, 3) := by decide +kernel
theorem dX7_sum_4 : decode cX7_sum 4 = .ok (.ifCond .eq 30, 3) := by decide +kernel
theorem dX7_sum_7 : decode cX7_sum 7 = .ok (.iload_n 2, 1) := by decide +kernel
theorem dX7_sum_8 : decode cX7_sum 8 = .ok (.invokestatic 129, 3) := by decide +kernel
theorem dX7_sum_11 : decode cX7_sum 11 = .ok (.ifCond .eq 23, 3) := by decide +kernel
theorem dX7_sum_14 : decode cX7_sum 14 = .ok (.iload_n 3, 1) := by decide +kernel
theorem dX7_sum_15 : decode cX7_sum 15 = .ok (.invokestatic 129, 3) := by decide +kernel
theorem dX7_sum_18 : decode cX7_sum 18 = .ok (.ifCond .eq 16, 3) := by decide +kernel
theorem dX7_sum_21 : decode cX7_sum 21 = .ok (.aload_n 0, 1) := by decide +kernel
theorem dX7_sum_22 : decode cX7_sum 22 = .ok (.iconst 1, 1) := by decide +kernel
theorem dX7_sum_23 : decode cX7_sum 23 = .ok (.iload_n 1, 1) := by decide +kernel
theorem dX7_sum_24 : decode cX7_sum 24 = .ok (.iload_n 2, 1) := by decide +kernel
theorem dX7_sum_25 : decode cX7_sum 25 = .ok (.iload_n 3, 1) := by decide +kernel
theorem dX7_sum_26 : decode cX7_sum 26 = .ok (.iconst 0, 1) := by decide +kernel
theorem dX7_sum_27 : decode cX7_sum 27 = .ok (.iconst 0, 1) := by decide +kernel
theorem dX7_sum_28 : decode cX7_sum 28 = .ok (.invokevirtual 132, 3) := by decide +kernel
theorem dX7_sum_31 : decode cX7_sum 31 = .ok (.goto 5, 3) := by decide +kernel
theorem dX7_sum_34 : decode cX7_sum 34 = .ok (.bipush (-2), 2) := by decide +kernel
theorem dX7_sum_36 : decode cX7_sum 36 = .ok (.ireturn, 1) := by decide +kernel
theorem dX7_less_0 : decode cX7_less 0 = .ok (.iload_n 1, 1) := by decide +kernel
theorem dX7_less_1 : decode cX7_less 1 = .ok (.invokestatic 129, 3) := by decide +kernel
theorem dX7_less_4 : decode cX7_less 4 = .ok (.ifCond .eq 28, 3) := by decide +kernel
theorem dX7_less_7 : decode cX7_less 7 = .ok (.iload_n 2, 1) := by decide +kernel
theorem dX7_less_8 : decode cX7_less 8 = .ok (.invokestatic 129, 3) := by decide +kernel
theorem dX7_less_11 : decode cX7_less 11 = .ok (.ifCond .eq 21, 3) := by decide +kernel
theorem dX7_less_14 : decode cX7_less 14 = .ok (.iload_n 1, 1) := by decide +kernel
theorem dX7_less_15 : decode cX7_less 15 = .ok (.iload_n 2, 1) := by decide +kernel
theorem dX7_less_16 : decode cX7_less 16 = .ok (.if_icmp .eq 16, 3) := by decide +kernel
theorem dX7_less_19 : decode cX7_less 19 = .ok (.aload_n 0, 1) := by decide +kernel
theorem dX7_less_20 : decode cX7_less 20 = .ok (.iconst 2, 1) := by decide +kernel
theorem dX7_less_21 : decode cX7_less 21 = .ok (.iload_n 1, 1) := by decide +kernel
theorem dX7_less_22 : decode cX7_less 22 = .ok (.iload_n 2, 1) := by decide +kernel
theorem dX7_less_23 : decode cX7_less 23 = .ok (.iconst 0, 1) := by decide +kernel
theorem dX7_less_24 : decode cX7_less 24 = .ok (.iconst 0, 1) := by decide +kernel
theorem dX7_less_25 : decode cX7_less 25 = .ok (.iconst 0, 1) := by decide +kernel
theorem dX7_less_26 : decode cX7_less 26 = .ok (.invokevirtual 132, 3) := by decide +kernel
theorem dX7_less_29 : decode cX7_less 29 = .ok (.goto 5, 3) := by decide +kernel
theorem dX7_less_32 : decode cX7_less 32 = .ok (.bipush (-2), 2) := by decide +kernel
theorem dX7_less_34 : decode cX7_less 34 = .ok (.ireturn, 1) := by decide +kernel
theorem dX7_mats_0 : decode cX7_mats 0 = .ok (.iload_n 1, 1) := by decide +kernel
theorem dX7_mats_1 : decode cX7_mats 1 = .ok (.invokestatic 129, 3) := by decide +kernel
theorem dX7_mats_4 : decode cX7_mats 4 = .ok (.ifCond .eq 35, 3) := by decide +kernel
theorem dX7_mats_7 : decode cX7_mats 7 = .ok (.iload_n 2, 1) := by decide +kernel
theorem dX7_mats_8 : decode cX7_mats 8 = .ok (.iconst 1, 1) := by decide +kernel
theorem dX7_mats_9 : decode cX7_mats 9 = .ok (.iload_n 3, 1) := by decide +kernel
theorem dX7_mats_10 : decode cX7_mats 10 = .ok (.invokestatic 75, 3) := by decide +kernel
theorem dX7_mats_13 : decode cX7_mats 13 = .ok (.ifCond .eq 26, 3) := by decide +kernel
theorem dX7_mats_16 : decode cX7_mats 16 = .ok (.iload_n 3, 1) := by decide +kernel
theorem dX7_mats_17 : decode cX7_mats 17 = .ok (.iconst 1, 1) := by decide +kernel
theorem dX7_mats_18 : decode cX7_mats 18 = .ok (.bipush 40, 2) := by decide +kernel
theorem dX7_mats_20 : decode cX7_mats 20 = .ok (.invokestatic 75, 3) := by decide +kernel
theorem dX7_mats_23 : decode cX7_mats 23 = .ok (.ifCond .eq 16, 3) := by decide +kernel
theorem dX7_mats_26 : decode cX7_mats 26 = .ok (.aload_n 0, 1) := by decide +kernel
theorem dX7_mats_27 : decode cX7_mats 27 = .ok (.iconst 3, 1) := by decide +kernel
theorem dX7_mats_28 : decode cX7_mats 28 = .ok (.iload_n 1, 1) := by decide +kernel
theorem dX7_mats_29 : decode cX7_mats 29 = .ok (.iload_n 2, 1) := by decide +kernel
theorem dX7_mats_30 : decode cX7_mats 30 = .ok (.iload_n 3, 1) := by decide +kernel
theorem dX7_mats_31 : decode cX7_mats 31 = .ok (.iconst 0, 1) := by decide +kernel
theorem dX7_mats_32 : decode cX7_mats 32 = .ok (.iconst 0, 1) := by decide +kernel
theorem dX7_mats_33 : decode cX7_mats 33 = .ok (.invokevirtual 132, 3) := by decide +kernel
theorem dX7_mats_36 : decode cX7_mats 36 = .ok (.goto 5, 3) := by decide +kernel
theorem dX7_mats_39 : decode cX7_mats 39 = .ok (.bipush (-2), 2) := by decide +kernel
theorem dX7_mats_41 : decode cX7_mats 41 = .ok (.ireturn, 1) := by decide +kernel
theorem dX7_forget_0 : decode cX7_forget 0 = .ok (.aload_n 0, 1) := by decide +kernel
theorem dX7_forget_1 : decode cX7_forget 1 = .ok (.getfield 126, 3) := by decide +kernel
theorem dX7_forget_4 : decode cX7_forget 4 = .ok (.istore_n 1, 1) := by decide +kernel
theorem dX7_forget_5 : decode cX7_forget 5 = .ok (.aload_n 0, 1) := by decide +kernel
theorem dX7_forget_6 : decode cX7_forget 6 = .ok (.iconst 0, 1) := by decide +kernel
theorem dX7_forget_7 : decode cX7_forget 7 = .ok (.putfield 126, 3) := by decide +kernel
theorem dX7_forget_10 : decode cX7_forget 10 = .ok (.iload_n 1, 1) := by decide +kernel
theorem dX7_forget_11 : decode cX7_forget 11 = .ok (.ireturn, 1) := by decide +kernel
theorem dX7_holds_0 : decode cX7_holds 0 = .ok (.bipush 6, 2) := by decide +kernel
theorem dX7_holds_2 : decode cX7_holds 2 = .ok (.iload_n 1, 1) := by decide +kernel
theorem dX7_holds_3 : decode cX7_holds 3 = .ok (.imul, 1) := by decide +kernel
theorem dX7_holds_4 : decode cX7_holds 4 = .ok (.istore_n 2, 1) := by decide +kernel
theorem dX7_holds_5 : decode cX7_holds 5 = .ok (.aload_n 0, 1) := by decide +kernel
theorem dX7_holds_6 : decode cX7_holds 6 = .ok (.getfield 30, 3) := by decide +kernel
theorem dX7_holds_9 : decode cX7_holds 9 = .ok (.aload_n 0, 1) := by decide +kernel
theorem dX7_holds_10 : decode cX7_holds 10 = .ok (.getfield 27, 3) := by decide +kernel
theorem dX7_holds_13 : decode cX7_holds 13 = .ok (.iload_n 2, 1) := by decide +kernel
theorem dX7_holds_14 : decode cX7_holds 14 = .ok (.iconst 1, 1) := by decide +kernel
theorem dX7_holds_15 : decode cX7_holds 15 = .ok (.iadd, 1) := by decide +kernel
theorem dX7_holds_16 : decode cX7_holds 16 = .ok (.iaload, 1) := by decide +kernel
theorem dX7_holds_17 : decode cX7_holds 17 = .ok (.iaload, 1) := by decide +kernel
theorem dX7_holds_18 : decode cX7_holds 18 = .ok (.istore_n 3, 1) := by decide +kernel
theorem dX7_holds_19 : decode cX7_holds 19 = .ok (.aload_n 0, 1) := by decide +kernel
theorem dX7_holds_20 : decode cX7_holds 20 = .ok (.getfield 27, 3) := by decide +kernel
theorem dX7_holds_23 : decode cX7_holds 23 = .ok (.iload_n 2, 1) := by decide +kernel
theorem dX7_holds_24 : decode cX7_holds 24 = .ok (.iaload, 1) := by decide +kernel
theorem dX7_holds_25 : decode cX7_holds 25 = .ok (.tableswitch 125 0 2 #[27, 65, 102], 27) := by decide +kernel
theorem dX7_holds_52 : decode cX7_holds 52 = .ok (.aload_n 0, 1) := by decide +kernel
theorem dX7_holds_53 : decode cX7_holds 53 = .ok (.aload_n 0, 1) := by decide +kernel
theorem dX7_holds_54 : decode cX7_holds 54 = .ok (.getfield 27, 3) := by decide +kernel
theorem dX7_holds_57 : decode cX7_holds 57 = .ok (.iload_n 2, 1) := by decide +kernel
theorem dX7_holds_58 : decode cX7_holds 58 = .ok (.iconst 2, 1) := by decide +kernel
theorem dX7_holds_59 : decode cX7_holds 59 = .ok (.iadd, 1) := by decide +kernel
theorem dX7_holds_60 : decode cX7_holds 60 = .ok (.iaload, 1) := by decide +kernel
theorem dX7_holds_61 : decode cX7_holds 61 = .ok (.aload_n 0, 1) := by decide +kernel
theorem dX7_holds_62 : decode cX7_holds 62 = .ok (.getfield 27, 3) := by decide +kernel
theorem dX7_holds_65 : decode cX7_holds 65 = .ok (.iload_n 2, 1) := by decide +kernel
theorem dX7_holds_66 : decode cX7_holds 66 = .ok (.iconst 3, 1) := by decide +kernel
theorem dX7_holds_67 : decode cX7_holds 67 = .ok (.iadd, 1) := by decide +kernel
theorem dX7_holds_68 : decode cX7_holds 68 = .ok (.iaload, 1) := by decide +kernel
theorem dX7_holds_69 : decode cX7_holds 69 = .ok (.aload_n 0, 1) := by decide +kernel
theorem dX7_holds_70 : decode cX7_holds 70 = .ok (.getfield 27, 3) := by decide +kernel
theorem dX7_holds_73 : decode cX7_holds 73 = .ok (.iload_n 2, 1) := by decide +kernel
theorem dX7_holds_74 : decode cX7_holds 74 = .ok (.iconst 4, 1) := by decide +kernel
theorem dX7_holds_75 : decode cX7_holds 75 = .ok (.iadd, 1) := by decide +kernel
theorem dX7_holds_76 : decode cX7_holds 76 = .ok (.iaload, 1) := by decide +kernel
theorem dX7_holds_77 : decode cX7_holds 77 = .ok (.aload_n 0, 1) := by decide +kernel
theorem dX7_holds_78 : decode cX7_holds 78 = .ok (.getfield 27, 3) := by decide +kernel
theorem dX7_holds_81 : decode cX7_holds 81 = .ok (.iload_n 2, 1) := by decide +kernel
theorem dX7_holds_82 : decode cX7_holds 82 = .ok (.iconst 5, 1) := by decide +kernel
theorem dX7_holds_83 : decode cX7_holds 83 = .ok (.iadd, 1) := by decide +kernel
theorem dX7_holds_84 : decode cX7_holds 84 = .ok (.iaload, 1) := by decide +kernel
theorem dX7_holds_85 : decode cX7_holds 85 = .ok (.iload_n 3, 1) := by decide +kernel
theorem dX7_holds_86 : decode cX7_holds 86 = .ok (.invokevirtual 122, 3) := by decide +kernel
theorem dX7_holds_89 : decode cX7_holds 89 = .ok (.ireturn, 1) := by decide +kernel
theorem dX7_holds_90 : decode cX7_holds 90 = .ok (.iload_n 3, 1) := by decide +kernel
theorem dX7_holds_91 : decode cX7_holds 91 = .ok (.aload_n 0, 1) := by decide +kernel
theorem dX7_holds_92 : decode cX7_holds 92 = .ok (.getfield 30, 3) := by decide +kernel
theorem dX7_holds_95 : decode cX7_holds 95 = .ok (.aload_n 0, 1) := by decide +kernel
theorem dX7_holds_96 : decode cX7_holds 96 = .ok (.getfield 27, 3) := by decide +kernel
theorem dX7_holds_99 : decode cX7_holds 99 = .ok (.iload_n 2, 1) := by decide +kernel
theorem dX7_holds_100 : decode cX7_holds 100 = .ok (.iconst 2, 1) := by decide +kernel
theorem dX7_holds_101 : decode cX7_holds 101 = .ok (.iadd, 1) := by decide +kernel
theorem dX7_holds_102 : decode cX7_holds 102 = .ok (.iaload, 1) := by decide +kernel
theorem dX7_holds_103 : decode cX7_holds 103 = .ok (.iaload, 1) := by decide +kernel
theorem dX7_holds_104 : decode cX7_holds 104 = .ok (.iadd, 1) := by decide +kernel
theorem dX7_holds_105 : decode cX7_holds 105 = .ok (.aload_n 0, 1) := by decide +kernel
theorem dX7_holds_106 : decode cX7_holds 106 = .ok (.getfield 30, 3) := by decide +kernel
theorem dX7_holds_109 : decode cX7_holds 109 = .ok (.aload_n 0, 1) := by decide +kernel
theorem dX7_holds_110 : decode cX7_holds 110 = .ok (.getfield 27, 3) := by decide +kernel
theorem dX7_holds_113 : decode cX7_holds 113 = .ok (.iload_n 2, 1) := by decide +kernel
theorem dX7_holds_114 : decode cX7_holds 114 = .ok (.iconst 3, 1) := by decide +kernel
theorem dX7_holds_115 : decode cX7_holds 115 = .ok (.iadd, 1) := by decide +kernel
theorem dX7_holds_116 : decode cX7_holds 116 = .ok (.iaload, 1) := by decide +kernel
theorem dX7_holds_117 : decode cX7_holds 117 = .ok (.iaload, 1) := by decide +kernel
theorem dX7_holds_118 : decode cX7_holds 118 = .ok (.if_icmp .ne 7, 3) := by decide +kernel
theorem dX7_holds_121 : decode cX7_holds 121 = .ok (.iconst 1, 1) := by decide +kernel
theorem dX7_holds_122 : decode cX7_holds 122 = .ok (.goto 4, 3) := by decide +kernel
theorem dX7_holds_125 : decode cX7_holds 125 = .ok (.iconst 0, 1) := by decide +kernel
theorem dX7_holds_126 : decode cX7_holds 126 = .ok (.ireturn, 1) := by decide +kernel
theorem dX7_holds_127 : decode cX7_holds 127 = .ok (.iload_n 3, 1) := by decide +kernel
theorem dX7_holds_128 : decode cX7_holds 128 = .ok (.aload_n 0, 1) := by decide +kernel
theorem dX7_holds_129 : decode cX7_holds 129 = .ok (.getfield 30, 3) := by decide +kernel
theorem dX7_holds_132 : decode cX7_holds 132 = .ok (.aload_n 0, 1) := by decide +kernel
theorem dX7_holds_133 : decode cX7_holds 133 = .ok (.getfield 27, 3) := by decide +kernel
theorem dX7_holds_136 : decode cX7_holds 136 = .ok (.iload_n 2, 1) := by decide +kernel
theorem dX7_holds_137 : decode cX7_holds 137 = .ok (.iconst 2, 1) := by decide +kernel
theorem dX7_holds_138 : decode cX7_holds 138 = .ok (.iadd, 1) := by decide +kernel
theorem dX7_holds_139 : decode cX7_holds 139 = .ok (.iaload, 1) := by decide +kernel
theorem dX7_holds_140 : decode cX7_holds 140 = .ok (.iaload, 1) := by decide +kernel
theorem dX7_holds_141 : decode cX7_holds 141 = .ok (.if_icmp .ge 7, 3) := by decide +kernel
theorem dX7_holds_144 : decode cX7_holds 144 = .ok (.iconst 1, 1) := by decide +kernel
theorem dX7_holds_145 : decode cX7_holds 145 = .ok (.goto 4, 3) := by decide +kernel
theorem dX7_holds_148 : decode cX7_holds 148 = .ok (.iconst 0, 1) := by decide +kernel
theorem dX7_holds_149 : decode cX7_holds 149 = .ok (.ireturn, 1) := by decide +kernel
theorem dX7_holds_150 : decode cX7_holds 150 = .ok (.iload_n 3, 1) := by decide +kernel
theorem dX7_holds_151 : decode cX7_holds 151 = .ok (.aload_n 0, 1) := by decide +kernel
theorem dX7_holds_152 : decode cX7_holds 152 = .ok (.getfield 27, 3) := by decide +kernel
theorem dX7_holds_155 : decode cX7_holds 155 = .ok (.iload_n 2, 1) := by decide +kernel
theorem dX7_holds_156 : decode cX7_holds 156 = .ok (.iconst 2, 1) := by decide +kernel
theorem dX7_holds_157 : decode cX7_holds 157 = .ok (.iadd, 1) := by decide +kernel
theorem dX7_holds_158 : decode cX7_holds 158 = .ok (.iaload, 1) := by decide +kernel
theorem dX7_holds_159 : decode cX7_holds 159 = .ok (.aload_n 0, 1) := by decide +kernel
theorem dX7_holds_160 : decode cX7_holds 160 = .ok (.getfield 27, 3) := by decide +kernel
theorem dX7_holds_163 : decode cX7_holds 163 = .ok (.iload_n 2, 1) := by decide +kernel
theorem dX7_holds_164 : decode cX7_holds 164 = .ok (.iconst 3, 1) := by decide +kernel
theorem dX7_holds_165 : decode cX7_holds 165 = .ok (.iadd, 1) := by decide +kernel
theorem dX7_holds_166 : decode cX7_holds 166 = .ok (.iaload, 1) := by decide +kernel
theorem dX7_holds_167 : decode cX7_holds 167 = .ok (.invokestatic 75, 3) := by decide +kernel
theorem dX7_holds_170 : decode cX7_holds 170 = .ok (.ireturn, 1) := by decide +kernel
theorem dX7_holding_0 : decode cX7_holding 0 = .ok (.iconst 0, 1) := by decide +kernel
theorem dX7_holding_1 : decode cX7_holding 1 = .ok (.istore_n 1, 1) := by decide +kernel
theorem dX7_holding_2 : decode cX7_holding 2 = .ok (.iconst 0, 1) := by decide +kernel
theorem dX7_holding_3 : decode cX7_holding 3 = .ok (.istore_n 2, 1) := by decide +kernel
theorem dX7_holding_4 : decode cX7_holding 4 = .ok (.iload_n 2, 1) := by decide +kernel
theorem dX7_holding_5 : decode cX7_holding 5 = .ok (.aload_n 0, 1) := by decide +kernel
theorem dX7_holding_6 : decode cX7_holding 6 = .ok (.getfield 126, 3) := by decide +kernel
theorem dX7_holding_9 : decode cX7_holding 9 = .ok (.if_icmp .ge 27, 3) := by decide +kernel
theorem dX7_holding_12 : decode cX7_holding 12 = .ok (.iload_n 1, 1) := by decide +kernel
theorem dX7_holding_13 : decode cX7_holding 13 = .ok (.aload_n 0, 1) := by decide +kernel
theorem dX7_holding_14 : decode cX7_holding 14 = .ok (.iload_n 2, 1) := by decide +kernel
theorem dX7_holding_15 : decode cX7_holding 15 = .ok (.invokevirtual 136, 3) := by decide +kernel
theorem dX7_holding_18 : decode cX7_holding 18 = .ok (.ifCond .eq 9, 3) := by decide +kernel
theorem dX7_holding_21 : decode cX7_holding 21 = .ok (.iconst 1, 1) := by decide +kernel
theorem dX7_holding_22 : decode cX7_holding 22 = .ok (.iload_n 2, 1) := by decide +kernel
theorem dX7_holding_23 : decode cX7_holding 23 = .ok (.ishl, 1) := by decide +kernel
theorem dX7_holding_24 : decode cX7_holding 24 = .ok (.goto 4, 3) := by decide +kernel
theorem dX7_holding_27 : decode cX7_holding 27 = .ok (.iconst 0, 1) := by decide +kernel
theorem dX7_holding_28 : decode cX7_holding 28 = .ok (.ior, 1) := by decide +kernel
theorem dX7_holding_29 : decode cX7_holding 29 = .ok (.istore_n 1, 1) := by decide +kernel
theorem dX7_holding_30 : decode cX7_holding 30 = .ok (.iinc 2 1, 3) := by decide +kernel
theorem dX7_holding_33 : decode cX7_holding 33 = .ok (.goto (-29), 3) := by decide +kernel
theorem dX7_holding_36 : decode cX7_holding 36 = .ok (.iload_n 1, 1) := by decide +kernel
theorem dX7_holding_37 : decode cX7_holding 37 = .ok (.ireturn, 1) := by decide +kernel
theorem dX7_tryOut_0 : decode cX7_tryOut 0 = .ok (.aload_n 0, 1) := by decide +kernel
theorem dX7_tryOut_1 : decode cX7_tryOut 1 = .ok (.getfield 30, 3) := by decide +kernel
theorem dX7_tryOut_4 : decode cX7_tryOut 4 = .ok (.iconst 0, 1) := by decide +kernel
theorem dX7_tryOut_5 : decode cX7_tryOut 5 = .ok (.iconst 1, 1) := by decide +kernel
theorem dX7_tryOut_6 : decode cX7_tryOut 6 = .ok (.iload_n 1, 1) := by decide +kernel
theorem dX7_tryOut_7 : decode cX7_tryOut 7 = .ok (.aload_n 0, 1) := by decide +kernel
theorem dX7_tryOut_8 : decode cX7_tryOut 8 = .ok (.getfield 23, 3) := by decide +kernel
theorem dX7_tryOut_11 : decode cX7_tryOut 11 = .ok (.idiv, 1) := by decide +kernel
theorem dX7_tryOut_12 : decode cX7_tryOut 12 = .ok (.aload_n 0, 1) := by decide +kernel
theorem dX7_tryOut_13 : decode cX7_tryOut 13 = .ok (.getfield 23, 3) := by decide +kernel
theorem dX7_tryOut_16 : decode cX7_tryOut 16 = .ok (.idiv, 1) := by decide +kernel
theorem dX7_tryOut_17 : decode cX7_tryOut 17 = .ok (.iadd, 1) := by decide +kernel
theorem dX7_tryOut_18 : decode cX7_tryOut 18 = .ok (.iastore, 1) := by decide +kernel
theorem dX7_tryOut_19 : decode cX7_tryOut 19 = .ok (.aload_n 0, 1) := by decide +kernel
theorem dX7_tryOut_20 : decode cX7_tryOut 20 = .ok (.getfield 30, 3) := by decide +kernel
theorem dX7_tryOut_23 : decode cX7_tryOut 23 = .ok (.iconst 1, 1) := by decide +kernel
theorem dX7_tryOut_24 : decode cX7_tryOut 24 = .ok (.iconst 1, 1) := by decide +kernel
theorem dX7_tryOut_25 : decode cX7_tryOut 25 = .ok (.iload_n 1, 1) := by decide +kernel
theorem dX7_tryOut_26 : decode cX7_tryOut 26 = .ok (.aload_n 0, 1) := by decide +kernel
theorem dX7_tryOut_27 : decode cX7_tryOut 27 = .ok (.getfield 23, 3) := by decide +kernel
theorem dX7_tryOut_30 : decode cX7_tryOut 30 = .ok (.idiv, 1) := by decide +kernel
theorem dX7_tryOut_31 : decode cX7_tryOut 31 = .ok (.aload_n 0, 1) := by decide +kernel
theorem dX7_tryOut_32 : decode cX7_tryOut 32 = .ok (.getfield 23, 3) := by decide +kernel
theorem dX7_tryOut_35 : decode cX7_tryOut 35 = .ok (.irem, 1) := by decide +kernel
theorem dX7_tryOut_36 : decode cX7_tryOut 36 = .ok (.iadd, 1) := by decide +kernel
theorem dX7_tryOut_37 : decode cX7_tryOut 37 = .ok (.iastore, 1) := by decide +kernel
theorem dX7_tryOut_38 : decode cX7_tryOut 38 = .ok (.aload_n 0, 1) := by decide +kernel
theorem dX7_tryOut_39 : decode cX7_tryOut 39 = .ok (.getfield 30, 3) := by decide +kernel
theorem dX7_tryOut_42 : decode cX7_tryOut 42 = .ok (.iconst 2, 1) := by decide +kernel
theorem dX7_tryOut_43 : decode cX7_tryOut 43 = .ok (.iconst 1, 1) := by decide +kernel
theorem dX7_tryOut_44 : decode cX7_tryOut 44 = .ok (.iload_n 1, 1) := by decide +kernel
theorem dX7_tryOut_45 : decode cX7_tryOut 45 = .ok (.aload_n 0, 1) := by decide +kernel
theorem dX7_tryOut_46 : decode cX7_tryOut 46 = .ok (.getfield 23, 3) := by decide +kernel
theorem dX7_tryOut_49 : decode cX7_tryOut 49 = .ok (.irem, 1) := by decide +kernel
theorem dX7_tryOut_50 : decode cX7_tryOut 50 = .ok (.iadd, 1) := by decide +kernel
theorem dX7_tryOut_51 : decode cX7_tryOut 51 = .ok (.iastore, 1) := by decide +kernel
theorem dX7_tryOut_52 : decode cX7_tryOut 52 = .ok (.return_, 1) := by decide +kernel
theorem dX7_solutionsNow_0 : decode cX7_solutionsNow 0 = .ok (.iconst 0, 1) := by decide +kernel
theorem dX7_solutionsNow_1 : decode cX7_solutionsNow 1 = .ok (.istore_n 1, 1) := by decide +kernel
theorem dX7_solutionsNow_2 : decode cX7_solutionsNow 2 = .ok (.iconst 0, 1) := by decide +kernel
theorem dX7_solutionsNow_3 : decode cX7_solutionsNow 3 = .ok (.istore_n 2, 1) := by decide +kernel
theorem dX7_solutionsNow_4 : decode cX7_solutionsNow 4 = .ok (.iload_n 2, 1) := by decide +kernel
theorem dX7_solutionsNow_5 : decode cX7_solutionsNow 5 = .ok (.aload_n 0, 1) := by decide +kernel
theorem dX7_solutionsNow_6 : decode cX7_solutionsNow 6 = .ok (.getfield 23, 3) := by decide +kernel
theorem dX7_solutionsNow_9 : decode cX7_solutionsNow 9 = .ok (.aload_n 0, 1) := by decide +kernel
theorem dX7_solutionsNow_10 : decode cX7_solutionsNow 10 = .ok (.getfield 23, 3) := by decide +kernel
theorem dX7_solutionsNow_13 : decode cX7_solutionsNow 13 = .ok (.imul, 1) := by decide +kernel
theorem dX7_solutionsNow_14 : decode cX7_solutionsNow 14 = .ok (.aload_n 0, 1) := by decide +kernel
theorem dX7_solutionsNow_15 : decode cX7_solutionsNow 15 = .ok (.getfield 23, 3) := by decide +kernel
theorem dX7_solutionsNow_18 : decode cX7_solutionsNow 18 = .ok (.imul, 1) := by decide +kernel
theorem dX7_solutionsNow_19 : decode cX7_solutionsNow 19 = .ok (.if_icmp .ge 37, 3) := by decide +kernel
theorem dX7_solutionsNow_22 : decode cX7_solutionsNow 22 = .ok (.aload_n 0, 1) := by decide +kernel
theorem dX7_solutionsNow_23 : decode cX7_solutionsNow 23 = .ok (.iload_n 2, 1) := by decide +kernel
theorem dX7_solutionsNow_24 : decode cX7_solutionsNow 24 = .ok (.invokevirtual 139, 3) := by decide +kernel
theorem dX7_solutionsNow_27 : decode cX7_solutionsNow 27 = .ok (.iload_n 1, 1) := by decide +kernel
theorem dX7_solutionsNow_28 : decode cX7_solutionsNow 28 = .ok (.aload_n 0, 1) := by decide +kernel
theorem dX7_solutionsNow_29 : decode cX7_solutionsNow 29 = .ok (.invokevirtual 143, 3) := by decide +kernel
theorem dX7_solutionsNow_32 : decode cX7_solutionsNow 32 = .ok (.iconst 1, 1) := by decide +kernel
theorem dX7_solutionsNow_33 : decode cX7_solutionsNow 33 = .ok (.aload_n 0, 1) := by decide +kernel
theorem dX7_solutionsNow_34 : decode cX7_solutionsNow 34 = .ok (.getfield 126, 3) := by decide +kernel
theorem dX7_solutionsNow_37 : decode cX7_solutionsNow 37 = .ok (.ishl, 1) := by decide +kernel
theorem dX7_solutionsNow_38 : decode cX7_solutionsNow 38 = .ok (.iconst 1, 1) := by decide +kernel
theorem dX7_solutionsNow_39 : decode cX7_solutionsNow 39 = .ok (.isub, 1) := by decide +kernel
theorem dX7_solutionsNow_40 : decode cX7_solutionsNow 40 = .ok (.if_icmp .ne 7, 3) := by decide +kernel
theorem dX7_solutionsNow_43 : decode cX7_solutionsNow 43 = .ok (.iconst 1, 1) := by decide +kernel
theorem dX7_solutionsNow_44 : decode cX7_solutionsNow 44 = .ok (.goto 4, 3) := by decide +kernel
theorem dX7_solutionsNow_47 : decode cX7_solutionsNow 47 = .ok (.iconst 0, 1) := by decide +kernel
theorem dX7_solutionsNow_48 : decode cX7_solutionsNow 48 = .ok (.iadd, 1) := by decide +kernel
theorem dX7_solutionsNow_49 : decode cX7_solutionsNow 49 = .ok (.istore_n 1, 1) := by decide +kernel
theorem dX7_solutionsNow_50 : decode cX7_solutionsNow 50 = .ok (.iinc 2 1, 3) := by decide +kernel
theorem dX7_solutionsNow_53 : decode cX7_solutionsNow 53 = .ok (.goto (-49), 3) := by decide +kernel
theorem dX7_solutionsNow_56 : decode cX7_solutionsNow 56 = .ok (.iload_n 1, 1) := by decide +kernel
theorem dX7_solutionsNow_57 : decode cX7_solutionsNow 57 = .ok (.ireturn, 1) := by decide +kernel
theorem dX7_solutions_0 : decode cX7_solutions 0 = .ok (.aload_n 0, 1) := by decide +kernel
theorem dX7_solutions_1 : decode cX7_solutions 1 = .ok (.invokevirtual 147, 3) := by decide +kernel
theorem dX7_solutions_4 : decode cX7_solutions 4 = .ok (.ireturn, 1) := by decide +kernel
theorem dX7_solution_0 : decode cX7_solution 0 = .ok (.iload_n 1, 1) := by decide +kernel
theorem dX7_solution_1 : decode cX7_solution 1 = .ok (.ifCond .lt 10, 3) := by decide +kernel
theorem dX7_solution_4 : decode cX7_solution 4 = .ok (.iload_n 2, 1) := by decide +kernel
theorem dX7_solution_5 : decode cX7_solution 5 = .ok (.invokestatic 129, 3) := by decide +kernel
theorem dX7_solution_8 : decode cX7_solution 8 = .ok (.ifCond .ne 6, 3) := by decide +kernel
theorem dX7_solution_11 : decode cX7_solution 11 = .ok (.bipush (-2), 2) := by decide +kernel
theorem dX7_solution_13 : decode cX7_solution 13 = .ok (.ireturn, 1) := by decide +kernel
theorem dX7_solution_14 : decode cX7_solution 14 = .ok (.iload_n 1, 1) := by decide +kernel
theorem dX7_solution_15 : decode cX7_solution 15 = .ok (.istore_n 3, 1) := by decide +kernel
theorem dX7_solution_16 : decode cX7_solution 16 = .ok (.iconst 0, 1) := by decide +kernel
theorem dX7_solution_17 : decode cX7_solution 17 = .ok (.istore 4, 2) := by decide +kernel
theorem dX7_solution_19 : decode cX7_solution 19 = .ok (.iload 4, 2) := by decide +kernel
theorem dX7_solution_21 : decode cX7_solution 21 = .ok (.aload_n 0, 1) := by decide +kernel
theorem dX7_solution_22 : decode cX7_solution 22 = .ok (.getfield 23, 3) := by decide +kernel
theorem dX7_solution_25 : decode cX7_solution 25 = .ok (.aload_n 0, 1) := by decide +kernel
theorem dX7_solution_26 : decode cX7_solution 26 = .ok (.getfield 23, 3) := by decide +kernel
theorem dX7_solution_29 : decode cX7_solution 29 = .ok (.imul, 1) := by decide +kernel
theorem dX7_solution_30 : decode cX7_solution 30 = .ok (.aload_n 0, 1) := by decide +kernel
theorem dX7_solution_31 : decode cX7_solution 31 = .ok (.getfield 23, 3) := by decide +kernel
theorem dX7_solution_34 : decode cX7_solution 34 = .ok (.imul, 1) := by decide +kernel
theorem dX7_solution_35 : decode cX7_solution 35 = .ok (.if_icmp .ge 44, 3) := by decide +kernel
theorem dX7_solution_38 : decode cX7_solution 38 = .ok (.aload_n 0, 1) := by decide +kernel
theorem dX7_solution_39 : decode cX7_solution 39 = .ok (.iload 4, 2) := by decide +kernel
theorem dX7_solution_41 : decode cX7_solution 41 = .ok (.invokevirtual 139, 3) := by decide +kernel
theorem dX7_solution_44 : decode cX7_solution 44 = .ok (.aload_n 0, 1) := by decide +kernel
theorem dX7_solution_45 : decode cX7_solution 45 = .ok (.invokevirtual 143, 3) := by decide +kernel
theorem dX7_solution_48 : decode cX7_solution 48 = .ok (.iconst 1, 1) := by decide +kernel
theorem dX7_solution_49 : decode cX7_solution 49 = .ok (.aload_n 0, 1) := by decide +kernel
theorem dX7_solution_50 : decode cX7_solution 50 = .ok (.getfield 126, 3) := by decide +kernel
theorem dX7_solution_53 : decode cX7_solution 53 = .ok (.ishl, 1) := by decide +kernel
theorem dX7_solution_54 : decode cX7_solution 54 = .ok (.iconst 1, 1) := by decide +kernel
theorem dX7_solution_55 : decode cX7_solution 55 = .ok (.isub, 1) := by decide +kernel
theorem dX7_solution_56 : decode cX7_solution 56 = .ok (.if_icmp .ne 17, 3) := by decide +kernel
theorem dX7_solution_59 : decode cX7_solution 59 = .ok (.iload_n 3, 1) := by decide +kernel
theorem dX7_solution_60 : decode cX7_solution 60 = .ok (.ifCond .ne 10, 3) := by decide +kernel
theorem dX7_solution_63 : decode cX7_solution 63 = .ok (.aload_n 0, 1) := by decide +kernel
theorem dX7_solution_64 : decode cX7_solution 64 = .ok (.getfield 30, 3) := by decide +kernel
theorem dX7_solution_67 : decode cX7_solution 67 = .ok (.iload_n 2, 1) := by decide +kernel
theorem dX7_solution_68 : decode cX7_solution 68 = .ok (.iaload, 1) := by decide +kernel
theorem dX7_solution_69 : decode cX7_solution 69 = .ok (.ireturn, 1) := by decide +kernel
theorem dX7_solution_70 : decode cX7_solution 70 = .ok (.iinc 3 (-1), 3) := by decide +kernel
theorem dX7_solution_73 : decode cX7_solution 73 = .ok (.iinc 4 1, 3) := by decide +kernel
theorem dX7_solution_76 : decode cX7_solution 76 = .ok (.goto (-57), 3) := by decide +kernel
theorem dX7_solution_79 : decode cX7_solution 79 = .ok (.iconst (-1), 1) := by decide +kernel
theorem dX7_solution_80 : decode cX7_solution 80 = .ok (.ireturn, 1) := by decide +kernel
theorem dX7_sure_0 : decode cX7_sure 0 = .ok (.iload_n 1, 1) := by decide +kernel
theorem dX7_sure_1 : decode cX7_sure 1 = .ok (.invokestatic 129, 3) := by decide +kernel
theorem dX7_sure_4 : decode cX7_sure 4 = .ok (.ifCond .ne 6, 3) := by decide +kernel
theorem dX7_sure_7 : decode cX7_sure 7 = .ok (.bipush (-2), 2) := by decide +kernel
theorem dX7_sure_9 : decode cX7_sure 9 = .ok (.ireturn, 1) := by decide +kernel
theorem dX7_sure_10 : decode cX7_sure 10 = .ok (.bipush (-3), 2) := by decide +kernel
theorem dX7_sure_12 : decode cX7_sure 12 = .ok (.istore_n 2, 1) := by decide +kernel
theorem dX7_sure_13 : decode cX7_sure 13 = .ok (.iconst 0, 1) := by decide +kernel
theorem dX7_sure_14 : decode cX7_sure 14 = .ok (.istore_n 3, 1) := by decide +kernel
theorem dX7_sure_15 : decode cX7_sure 15 = .ok (.iload_n 3, 1) := by decide +kernel
theorem dX7_sure_16 : decode cX7_sure 16 = .ok (.aload_n 0, 1) := by decide +kernel
theorem dX7_sure_17 : decode cX7_sure 17 = .ok (.getfield 23, 3) := by decide +kernel
theorem dX7_sure_20 : decode cX7_sure 20 = .ok (.aload_n 0, 1) := by decide +kernel
theorem dX7_sure_21 : decode cX7_sure 21 = .ok (.getfield 23, 3) := by decide +kernel
theorem dX7_sure_24 : decode cX7_sure 24 = .ok (.imul, 1) := by decide +kernel
theorem dX7_sure_25 : decode cX7_sure 25 = .ok (.aload_n 0, 1) := by decide +kernel
theorem dX7_sure_26 : decode cX7_sure 26 = .ok (.getfield 23, 3) := by decide +kernel
theorem dX7_sure_29 : decode cX7_sure 29 = .ok (.imul, 1) := by decide +kernel
theorem dX7_sure_30 : decode cX7_sure 30 = .ok (.if_icmp .ge 56, 3) := by decide +kernel
theorem dX7_sure_33 : decode cX7_sure 33 = .ok (.aload_n 0, 1) := by decide +kernel
theorem dX7_sure_34 : decode cX7_sure 34 = .ok (.iload_n 3, 1) := by decide +kernel
theorem dX7_sure_35 : decode cX7_sure 35 = .ok (.invokevirtual 139, 3) := by decide +kernel
theorem dX7_sure_38 : decode cX7_sure 38 = .ok (.aload_n 0, 1) := by decide +kernel
theorem dX7_sure_39 : decode cX7_sure 39 = .ok (.invokevirtual 143, 3) := by decide +kernel
theorem dX7_sure_42 : decode cX7_sure 42 = .ok (.iconst 1, 1) := by decide +kernel
theorem dX7_sure_43 : decode cX7_sure 43 = .ok (.aload_n 0, 1) := by decide +kernel
theorem dX7_sure_44 : decode cX7_sure 44 = .ok (.getfield 126, 3) := by decide +kernel
theorem dX7_sure_47 : decode cX7_sure 47 = .ok (.ishl, 1) := by decide +kernel
theorem dX7_sure_48 : decode cX7_sure 48 = .ok (.iconst 1, 1) := by decide +kernel
theorem dX7_sure_49 : decode cX7_sure 49 = .ok (.isub, 1) := by decide +kernel
theorem dX7_sure_50 : decode cX7_sure 50 = .ok (.if_icmp .ne 30, 3) := by decide +kernel
theorem dX7_sure_53 : decode cX7_sure 53 = .ok (.iload_n 2, 1) := by decide +kernel
theorem dX7_sure_54 : decode cX7_sure 54 = .ok (.bipush (-3), 2) := by decide +kernel
theorem dX7_sure_56 : decode cX7_sure 56 = .ok (.if_icmp .eq 13, 3) := by decide +kernel
theorem dX7_sure_59 : decode cX7_sure 59 = .ok (.iload_n 2, 1) := by decide +kernel
theorem dX7_sure_60 : decode cX7_sure 60 = .ok (.aload_n 0, 1) := by decide +kernel
theorem dX7_sure_61 : decode cX7_sure 61 = .ok (.getfield 30, 3) := by decide +kernel
theorem dX7_sure_64 : decode cX7_sure 64 = .ok (.iload_n 1, 1) := by decide +kernel
theorem dX7_sure_65 : decode cX7_sure 65 = .ok (.iaload, 1) := by decide +kernel
theorem dX7_sure_66 : decode cX7_sure 66 = .ok (.if_icmp .ne 12, 3) := by decide +kernel
theorem dX7_sure_69 : decode cX7_sure 69 = .ok (.aload_n 0, 1) := by decide +kernel
theorem dX7_sure_70 : decode cX7_sure 70 = .ok (.getfield 30, 3) := by decide +kernel
theorem dX7_sure_73 : decode cX7_sure 73 = .ok (.iload_n 1, 1) := by decide +kernel
theorem dX7_sure_74 : decode cX7_sure 74 = .ok (.iaload, 1) := by decide +kernel
theorem dX7_sure_75 : decode cX7_sure 75 = .ok (.goto 4, 3) := by decide +kernel
theorem dX7_sure_78 : decode cX7_sure 78 = .ok (.iconst (-1), 1) := by decide +kernel
theorem dX7_sure_79 : decode cX7_sure 79 = .ok (.istore_n 2, 1) := by decide +kernel
theorem dX7_sure_80 : decode cX7_sure 80 = .ok (.iinc 3 1, 3) := by decide +kernel
theorem dX7_sure_83 : decode cX7_sure 83 = .ok (.goto (-68), 3) := by decide +kernel
theorem dX7_sure_86 : decode cX7_sure 86 = .ok (.iload_n 2, 1) := by decide +kernel
theorem dX7_sure_87 : decode cX7_sure 87 = .ok (.ireturn, 1) := by decide +kernel
theorem dX7_ones_0 : decode cX7_ones 0 = .ok (.iconst 0, 1) := by decide +kernel
theorem dX7_ones_1 : decode cX7_ones 1 = .ok (.istore_n 1, 1) := by decide +kernel
theorem dX7_ones_2 : decode cX7_ones 2 = .ok (.iconst 0, 1) := by decide +kernel
theorem dX7_ones_3 : decode cX7_ones 3 = .ok (.istore_n 2, 1) := by decide +kernel
theorem dX7_ones_4 : decode cX7_ones 4 = .ok (.iload_n 2, 1) := by decide +kernel
theorem dX7_ones_5 : decode cX7_ones 5 = .ok (.bipush 8, 2) := by decide +kernel
theorem dX7_ones_7 : decode cX7_ones 7 = .ok (.if_icmp .ge 17, 3) := by decide +kernel
theorem dX7_ones_10 : decode cX7_ones 10 = .ok (.iload_n 1, 1) := by decide +kernel
theorem dX7_ones_11 : decode cX7_ones 11 = .ok (.iload_n 0, 1) := by decide +kernel
theorem dX7_ones_12 : decode cX7_ones 12 = .ok (.iload_n 2, 1) := by decide +kernel
theorem dX7_ones_13 : decode cX7_ones 13 = .ok (.ishr, 1) := by decide +kernel
theorem dX7_ones_14 : decode cX7_ones 14 = .ok (.iconst 1, 1) := by decide +kernel
theorem dX7_ones_15 : decode cX7_ones 15 = .ok (.iand, 1) := by decide +kernel
theorem dX7_ones_16 : decode cX7_ones 16 = .ok (.iadd, 1) := by decide +kernel
theorem dX7_ones_17 : decode cX7_ones 17 = .ok (.istore_n 1, 1) := by decide +kernel
theorem dX7_ones_18 : decode cX7_ones 18 = .ok (.iinc 2 1, 3) := by decide +kernel
theorem dX7_ones_21 : decode cX7_ones 21 = .ok (.goto (-17), 3) := by decide +kernel
theorem dX7_ones_24 : decode cX7_ones 24 = .ok (.iload_n 1, 1) := by decide +kernel
theorem dX7_ones_25 : decode cX7_ones 25 = .ok (.ireturn, 1) := by decide +kernel
theorem dX7_quarrel_0 : decode cX7_quarrel 0 = .ok (.iconst 0, 1) := by decide +kernel
theorem dX7_quarrel_1 : decode cX7_quarrel 1 = .ok (.istore_n 1, 1) := by decide +kernel
theorem dX7_quarrel_2 : decode cX7_quarrel 2 = .ok (.iload_n 1, 1) := by decide +kernel
theorem dX7_quarrel_3 : decode cX7_quarrel 3 = .ok (.sipush 256, 3) := by decide +kernel
theorem dX7_quarrel_6 : decode cX7_quarrel 6 = .ok (.if_icmp .ge 16, 3) := by decide +kernel
theorem dX7_quarrel_9 : decode cX7_quarrel 9 = .ok (.aload_n 0, 1) := by decide +kernel
theorem dX7_quarrel_10 : decode cX7_quarrel 10 = .ok (.getfield 33, 3) := by decide +kernel
theorem dX7_quarrel_13 : decode cX7_quarrel 13 = .ok (.iload_n 1, 1) := by decide +kernel
theorem dX7_quarrel_14 : decode cX7_quarrel 14 = .ok (.iconst 0, 1) := by decide +kernel
theorem dX7_quarrel_15 : decode cX7_quarrel 15 = .ok (.bastore, 1) := by decide +kernel
theorem dX7_quarrel_16 : decode cX7_quarrel 16 = .ok (.iinc 1 1, 3) := by decide +kernel
theorem dX7_quarrel_19 : decode cX7_quarrel 19 = .ok (.goto (-17), 3) := by decide +kernel
theorem dX7_quarrel_22 : decode cX7_quarrel 22 = .ok (.iconst 0, 1) := by decide +kernel
theorem dX7_quarrel_23 : decode cX7_quarrel 23 = .ok (.istore_n 1, 1) := by decide +kernel
theorem dX7_quarrel_24 : decode cX7_quarrel 24 = .ok (.iload_n 1, 1) := by decide +kernel
theorem dX7_quarrel_25 : decode cX7_quarrel 25 = .ok (.aload_n 0, 1) := by decide +kernel
theorem dX7_quarrel_26 : decode cX7_quarrel 26 = .ok (.getfield 23, 3) := by decide +kernel
theorem dX7_quarrel_29 : decode cX7_quarrel 29 = .ok (.aload_n 0, 1) := by decide +kernel
theorem dX7_quarrel_30 : decode cX7_quarrel 30 = .ok (.getfield 23, 3) := by decide +kernel
theorem dX7_quarrel_33 : decode cX7_quarrel 33 = .ok (.imul, 1) := by decide +kernel
theorem dX7_quarrel_34 : decode cX7_quarrel 34 = .ok (.aload_n 0, 1) := by decide +kernel
theorem dX7_quarrel_35 : decode cX7_quarrel 35 = .ok (.getfield 23, 3) := by decide +kernel
theorem dX7_quarrel_38 : decode cX7_quarrel 38 = .ok (.imul, 1) := by decide +kernel
theorem dX7_quarrel_39 : decode cX7_quarrel 39 = .ok (.if_icmp .ge 24, 3) := by decide +kernel
theorem dX7_quarrel_42 : decode cX7_quarrel 42 = .ok (.aload_n 0, 1) := by decide +kernel
theorem dX7_quarrel_43 : decode cX7_quarrel 43 = .ok (.iload_n 1, 1) := by decide +kernel
theorem dX7_quarrel_44 : decode cX7_quarrel 44 = .ok (.invokevirtual 139, 3) := by decide +kernel
theorem dX7_quarrel_47 : decode cX7_quarrel 47 = .ok (.aload_n 0, 1) := by decide +kernel
theorem dX7_quarrel_48 : decode cX7_quarrel 48 = .ok (.getfield 33, 3) := by decide +kernel
theorem dX7_quarrel_51 : decode cX7_quarrel 51 = .ok (.aload_n 0, 1) := by decide +kernel
theorem dX7_quarrel_52 : decode cX7_quarrel 52 = .ok (.invokevirtual 143, 3) := by decide +kernel
theorem dX7_quarrel_55 : decode cX7_quarrel 55 = .ok (.iconst 1, 1) := by decide +kernel
theorem dX7_quarrel_56 : decode cX7_quarrel 56 = .ok (.bastore, 1) := by decide +kernel
theorem dX7_quarrel_57 : decode cX7_quarrel 57 = .ok (.iinc 1 1, 3) := by decide +kernel
theorem dX7_quarrel_60 : decode cX7_quarrel 60 = .ok (.goto (-36), 3) := by decide +kernel
theorem dX7_quarrel_63 : decode cX7_quarrel 63 = .ok (.iconst 0, 1) := by decide +kernel
theorem dX7_quarrel_64 : decode cX7_quarrel 64 = .ok (.istore_n 1, 1) := by decide +kernel
theorem dX7_quarrel_65 : decode cX7_quarrel 65 = .ok (.iconst 1, 1) := by decide +kernel
theorem dX7_quarrel_66 : decode cX7_quarrel 66 = .ok (.istore_n 2, 1) := by decide +kernel
theorem dX7_quarrel_67 : decode cX7_quarrel 67 = .ok (.iload_n 2, 1) := by decide +kernel
theorem dX7_quarrel_68 : decode cX7_quarrel 68 = .ok (.iconst 1, 1) := by decide +kernel
theorem dX7_quarrel_69 : decode cX7_quarrel 69 = .ok (.aload_n 0, 1) := by decide +kernel
theorem dX7_quarrel_70 : decode cX7_quarrel 70 = .ok (.getfield 126, 3) := by decide +kernel
theorem dX7_quarrel_73 : decode cX7_quarrel 73 = .ok (.ishl, 1) := by decide +kernel
theorem dX7_quarrel_74 : decode cX7_quarrel 74 = .ok (.if_icmp .ge 82, 3) := by decide +kernel
theorem dX7_quarrel_77 : decode cX7_quarrel 77 = .ok (.iconst 0, 1) := by decide +kernel
theorem dX7_quarrel_78 : decode cX7_quarrel 78 = .ok (.istore_n 3, 1) := by decide +kernel
theorem dX7_quarrel_79 : decode cX7_quarrel 79 = .ok (.iconst 0, 1) := by decide +kernel
theorem dX7_quarrel_80 : decode cX7_quarrel 80 = .ok (.istore 4, 2) := by decide +kernel
theorem dX7_quarrel_82 : decode cX7_quarrel 82 = .ok (.iload 4, 2) := by decide +kernel
theorem dX7_quarrel_84 : decode cX7_quarrel 84 = .ok (.iconst 1, 1) := by decide +kernel
theorem dX7_quarrel_85 : decode cX7_quarrel 85 = .ok (.aload_n 0, 1) := by decide +kernel
theorem dX7_quarrel_86 : decode cX7_quarrel 86 = .ok (.getfield 126, 3) := by decide +kernel
theorem dX7_quarrel_89 : decode cX7_quarrel 89 = .ok (.ishl, 1) := by decide +kernel
theorem dX7_quarrel_90 : decode cX7_quarrel 90 = .ok (.if_icmp .ge 35, 3) := by decide +kernel
theorem dX7_quarrel_93 : decode cX7_quarrel 93 = .ok (.iload_n 3, 1) := by decide +kernel
theorem dX7_quarrel_94 : decode cX7_quarrel 94 = .ok (.iload 4, 2) := by decide +kernel
theorem dX7_quarrel_96 : decode cX7_quarrel 96 = .ok (.iload_n 2, 1) := by decide +kernel
theorem dX7_quarrel_97 : decode cX7_quarrel 97 = .ok (.iand, 1) := by decide +kernel
theorem dX7_quarrel_98 : decode cX7_quarrel 98 = .ok (.iload_n 2, 1) := by decide +kernel
theorem dX7_quarrel_99 : decode cX7_quarrel 99 = .ok (.if_icmp .ne 17, 3) := by decide +kernel
theorem dX7_quarrel_102 : decode cX7_quarrel 102 = .ok (.aload_n 0, 1) := by decide +kernel
theorem dX7_quarrel_103 : decode cX7_quarrel 103 = .ok (.getfield 33, 3) := by decide +kernel
theorem dX7_quarrel_106 : decode cX7_quarrel 106 = .ok (.iload 4, 2) := by decide +kernel
theorem dX7_quarrel_108 : decode cX7_quarrel 108 = .ok (.baload, 1) := by decide +kernel
theorem dX7_quarrel_109 : decode cX7_quarrel 109 = .ok (.ifCond .eq 7, 3) := by decide +kernel
theorem dX7_quarrel_112 : decode cX7_quarrel 112 = .ok (.iconst 1, 1) := by decide +kernel
theorem dX7_quarrel_113 : decode cX7_quarrel 113 = .ok (.goto 4, 3) := by decide +kernel
theorem dX7_quarrel_116 : decode cX7_quarrel 116 = .ok (.iconst 0, 1) := by decide +kernel
theorem dX7_quarrel_117 : decode cX7_quarrel 117 = .ok (.ior, 1) := by decide +kernel
theorem dX7_quarrel_118 : decode cX7_quarrel 118 = .ok (.istore_n 3, 1) := by decide +kernel
theorem dX7_quarrel_119 : decode cX7_quarrel 119 = .ok (.iinc 4 1, 3) := by decide +kernel
theorem dX7_quarrel_122 : decode cX7_quarrel 122 = .ok (.goto (-40), 3) := by decide +kernel
theorem dX7_quarrel_125 : decode cX7_quarrel 125 = .ok (.iload_n 3, 1) := by decide +kernel
theorem dX7_quarrel_126 : decode cX7_quarrel 126 = .ok (.ifCond .ne 22, 3) := by decide +kernel
theorem dX7_quarrel_129 : decode cX7_quarrel 129 = .ok (.iload_n 1, 1) := by decide +kernel
theorem dX7_quarrel_130 : decode cX7_quarrel 130 = .ok (.ifCond .eq 14, 3) := by decide +kernel
theorem dX7_quarrel_133 : decode cX7_quarrel 133 = .ok (.iload_n 2, 1) := by decide +kernel
theorem dX7_quarrel_134 : decode cX7_quarrel 134 = .ok (.invokestatic 150, 3) := by decide +kernel
theorem dX7_quarrel_137 : decode cX7_quarrel 137 = .ok (.iload_n 1, 1) := by decide +kernel
theorem dX7_quarrel_138 : decode cX7_quarrel 138 = .ok (.invokestatic 150, 3) := by decide +kernel
theorem dX7_quarrel_141 : decode cX7_quarrel 141 = .ok (.if_icmp .ge 7, 3) := by decide +kernel
theorem dX7_quarrel_144 : decode cX7_quarrel 144 = .ok (.iload_n 2, 1) := by decide +kernel
theorem dX7_quarrel_145 : decode cX7_quarrel 145 = .ok (.goto 4, 3) := by decide +kernel
theorem dX7_quarrel_148 : decode cX7_quarrel 148 = .ok (.iload_n 1, 1) := by decide +kernel
theorem dX7_quarrel_149 : decode cX7_quarrel 149 = .ok (.istore_n 1, 1) := by decide +kernel
theorem dX7_quarrel_150 : decode cX7_quarrel 150 = .ok (.iinc 2 1, 3) := by decide +kernel
theorem dX7_quarrel_153 : decode cX7_quarrel 153 = .ok (.goto (-86), 3) := by decide +kernel
theorem dX7_quarrel_156 : decode cX7_quarrel 156 = .ok (.iload_n 1, 1) := by decide +kernel
theorem dX7_quarrel_157 : decode cX7_quarrel 157 = .ok (.ireturn, 1) := by decide +kernel
theorem dX7_heardAs_0 : decode cX7_heardAs 0 = .ok (.aload_n 0, 1) := by decide +kernel
theorem dX7_heardAs_1 : decode cX7_heardAs 1 = .ok (.iload_n 1, 1) := by decide +kernel
theorem dX7_heardAs_2 : decode cX7_heardAs 2 = .ok (.iload_n 3, 1) := by decide +kernel
theorem dX7_heardAs_3 : decode cX7_heardAs 3 = .ok (.invokevirtual 115, 3) := by decide +kernel
theorem dX7_heardAs_6 : decode cX7_heardAs 6 = .ok (.istore 4, 2) := by decide +kernel
theorem dX7_heardAs_8 : decode cX7_heardAs 8 = .ok (.iconst 1, 1) := by decide +kernel
theorem dX7_heardAs_9 : decode cX7_heardAs 9 = .ok (.istore 5, 2) := by decide +kernel
theorem dX7_heardAs_11 : decode cX7_heardAs 11 = .ok (.iload 5, 2) := by decide +kernel
theorem dX7_heardAs_13 : decode cX7_heardAs 13 = .ok (.sipush 400, 3) := by decide +kernel
theorem dX7_heardAs_16 : decode cX7_heardAs 16 = .ok (.if_icmp .gt 42, 3) := by decide +kernel
theorem dX7_heardAs_19 : decode cX7_heardAs 19 = .ok (.aload_n 0, 1) := by decide +kernel
theorem dX7_heardAs_20 : decode cX7_heardAs 20 = .ok (.iload_n 2, 1) := by decide +kernel
theorem dX7_heardAs_21 : decode cX7_heardAs 21 = .ok (.aload_n 0, 1) := by decide +kernel
theorem dX7_heardAs_22 : decode cX7_heardAs 22 = .ok (.iload_n 1, 1) := by decide +kernel
theorem dX7_heardAs_23 : decode cX7_heardAs 23 = .ok (.iload 4, 2) := by decide +kernel
theorem dX7_heardAs_25 : decode cX7_heardAs 25 = .ok (.invokevirtual 106, 3) := by decide +kernel
theorem dX7_heardAs_28 : decode cX7_heardAs 28 = .ok (.aload_n 0, 1) := by decide +kernel
theorem dX7_heardAs_29 : decode cX7_heardAs 29 = .ok (.iload_n 1, 1) := by decide +kernel
theorem dX7_heardAs_30 : decode cX7_heardAs 30 = .ok (.iload 4, 2) := by decide +kernel
theorem dX7_heardAs_32 : decode cX7_heardAs 32 = .ok (.invokevirtual 109, 3) := by decide +kernel
theorem dX7_heardAs_35 : decode cX7_heardAs 35 = .ok (.aload_n 0, 1) := by decide +kernel
theorem dX7_heardAs_36 : decode cX7_heardAs 36 = .ok (.iload_n 1, 1) := by decide +kernel
theorem dX7_heardAs_37 : decode cX7_heardAs 37 = .ok (.iload_n 3, 1) := by decide +kernel
theorem dX7_heardAs_38 : decode cX7_heardAs 38 = .ok (.invokevirtual 112, 3) := by decide +kernel
theorem dX7_heardAs_41 : decode cX7_heardAs 41 = .ok (.iload 5, 2) := by decide +kernel
theorem dX7_heardAs_43 : decode cX7_heardAs 43 = .ok (.invokevirtual 122, 3) := by decide +kernel
theorem dX7_heardAs_46 : decode cX7_heardAs 46 = .ok (.ifCond .eq 6, 3) := by decide +kernel
theorem dX7_heardAs_49 : decode cX7_heardAs 49 = .ok (.iload 5, 2) := by decide +kernel
theorem dX7_heardAs_51 : decode cX7_heardAs 51 = .ok (.ireturn, 1) := by decide +kernel
theorem dX7_heardAs_52 : decode cX7_heardAs 52 = .ok (.iinc 5 1, 3) := by decide +kernel
theorem dX7_heardAs_55 : decode cX7_heardAs 55 = .ok (.goto (-44), 3) := by decide +kernel
theorem dX7_heardAs_58 : decode cX7_heardAs 58 = .ok (.iconst (-1), 1) := by decide +kernel
theorem dX7_heardAs_59 : decode cX7_heardAs 59 = .ok (.ireturn, 1) := by decide +kernel
theorem dX7_heard_0 : decode cX7_heard 0 = .ok (.aload_n 0, 1) := by decide +kernel
theorem dX7_heard_1 : decode cX7_heard 1 = .ok (.iload_n 1, 1) := by decide +kernel
theorem dX7_heard_2 : decode cX7_heard 2 = .ok (.invokevirtual 93, 3) := by decide +kernel
theorem dX7_heard_5 : decode cX7_heard 5 = .ok (.ifCond .eq 32, 3) := by decide +kernel
theorem dX7_heard_8 : decode cX7_heard 8 = .ok (.aload_n 0, 1) := by decide +kernel
theorem dX7_heard_9 : decode cX7_heard 9 = .ok (.iload_n 2, 1) := by decide +kernel
theorem dX7_heard_10 : decode cX7_heard 10 = .ok (.invokevirtual 93, 3) := by decide +kernel
theorem dX7_heard_13 : decode cX7_heard 13 = .ok (.ifCond .eq 24, 3) := by decide +kernel
theorem dX7_heard_16 : decode cX7_heard 16 = .ok (.iload_n 3, 1) := by decide +kernel
theorem dX7_heard_17 : decode cX7_heard 17 = .ok (.iconst 1, 1) := by decide +kernel
theorem dX7_heard_18 : decode cX7_heard 18 = .ok (.sipush 400, 3) := by decide +kernel
theorem dX7_heard_21 : decode cX7_heard 21 = .ok (.invokestatic 75, 3) := by decide +kernel
theorem dX7_heard_24 : decode cX7_heard 24 = .ok (.ifCond .eq 13, 3) := by decide +kernel
theorem dX7_heard_27 : decode cX7_heard 27 = .ok (.aload_n 0, 1) := by decide +kernel
theorem dX7_heard_28 : decode cX7_heard 28 = .ok (.iload_n 1, 1) := by decide +kernel
theorem dX7_heard_29 : decode cX7_heard 29 = .ok (.iload_n 2, 1) := by decide +kernel
theorem dX7_heard_30 : decode cX7_heard 30 = .ok (.iload_n 3, 1) := by decide +kernel
theorem dX7_heard_31 : decode cX7_heard 31 = .ok (.invokevirtual 153, 3) := by decide +kernel
theorem dX7_heard_34 : decode cX7_heard 34 = .ok (.goto 5, 3) := by decide +kernel
theorem dX7_heard_37 : decode cX7_heard 37 = .ok (.bipush (-2), 2) := by decide +kernel
theorem dX7_heard_39 : decode cX7_heard 39 = .ok (.ireturn, 1) := by decide +kernel
theorem dX7_clear_0 : decode cX7_clear 0 = .ok (.aload_n 0, 1) := by decide +kernel
theorem dX7_clear_1 : decode cX7_clear 1 = .ok (.iload_n 1, 1) := by decide +kernel
theorem dX7_clear_2 : decode cX7_clear 2 = .ok (.invokevirtual 93, 3) := by decide +kernel
theorem dX7_clear_5 : decode cX7_clear 5 = .ok (.ifCond .eq 22, 3) := by decide +kernel
theorem dX7_clear_8 : decode cX7_clear 8 = .ok (.aload_n 0, 1) := by decide +kernel
theorem dX7_clear_9 : decode cX7_clear 9 = .ok (.iload_n 2, 1) := by decide +kernel
theorem dX7_clear_10 : decode cX7_clear 10 = .ok (.invokevirtual 93, 3) := by decide +kernel
theorem dX7_clear_13 : decode cX7_clear 13 = .ok (.ifCond .eq 14, 3) := by decide +kernel
theorem dX7_clear_16 : decode cX7_clear 16 = .ok (.iload_n 3, 1) := by decide +kernel
theorem dX7_clear_17 : decode cX7_clear 17 = .ok (.iconst 1, 1) := by decide +kernel
theorem dX7_clear_18 : decode cX7_clear 18 = .ok (.sipush 400, 3) := by decide +kernel
theorem dX7_clear_21 : decode cX7_clear 21 = .ok (.invokestatic 75, 3) := by decide +kernel
theorem dX7_clear_24 : decode cX7_clear 24 = .ok (.ifCond .ne 6, 3) := by decide +kernel
theorem dX7_clear_27 : decode cX7_clear 27 = .ok (.bipush (-2), 2) := by decide +kernel
theorem dX7_clear_29 : decode cX7_clear 29 = .ok (.ireturn, 1) := by decide +kernel
theorem dX7_clear_30 : decode cX7_clear 30 = .ok (.iconst 0, 1) := by decide +kernel
theorem dX7_clear_31 : decode cX7_clear 31 = .ok (.istore 4, 2) := by decide +kernel
theorem dX7_clear_33 : decode cX7_clear 33 = .ok (.iconst 1, 1) := by decide +kernel
theorem dX7_clear_34 : decode cX7_clear 34 = .ok (.istore 5, 2) := by decide +kernel
theorem dX7_clear_36 : decode cX7_clear 36 = .ok (.iload 5, 2) := by decide +kernel
theorem dX7_clear_38 : decode cX7_clear 38 = .ok (.iload_n 3, 1) := by decide +kernel
theorem dX7_clear_39 : decode cX7_clear 39 = .ok (.if_icmp .gt 32, 3) := by decide +kernel
theorem dX7_clear_42 : decode cX7_clear 42 = .ok (.iload 4, 2) := by decide +kernel
theorem dX7_clear_44 : decode cX7_clear 44 = .ok (.aload_n 0, 1) := by decide +kernel
theorem dX7_clear_45 : decode cX7_clear 45 = .ok (.iload_n 1, 1) := by decide +kernel
theorem dX7_clear_46 : decode cX7_clear 46 = .ok (.iload_n 2, 1) := by decide +kernel
theorem dX7_clear_47 : decode cX7_clear 47 = .ok (.iload 5, 2) := by decide +kernel
theorem dX7_clear_49 : decode cX7_clear 49 = .ok (.invokevirtual 153, 3) := by decide +kernel
theorem dX7_clear_52 : decode cX7_clear 52 = .ok (.iload 5, 2) := by decide +kernel
theorem dX7_clear_54 : decode cX7_clear 54 = .ok (.if_icmp .ne 7, 3) := by decide +kernel
theorem dX7_clear_57 : decode cX7_clear 57 = .ok (.iconst 1, 1) := by decide +kernel
theorem dX7_clear_58 : decode cX7_clear 58 = .ok (.goto 4, 3) := by decide +kernel
theorem dX7_clear_61 : decode cX7_clear 61 = .ok (.iconst 0, 1) := by decide +kernel
theorem dX7_clear_62 : decode cX7_clear 62 = .ok (.iadd, 1) := by decide +kernel
theorem dX7_clear_63 : decode cX7_clear 63 = .ok (.istore 4, 2) := by decide +kernel
theorem dX7_clear_65 : decode cX7_clear 65 = .ok (.iinc 5 1, 3) := by decide +kernel
theorem dX7_clear_68 : decode cX7_clear 68 = .ok (.goto (-32), 3) := by decide +kernel
theorem dX7_clear_71 : decode cX7_clear 71 = .ok (.iload 4, 2) := by decide +kernel
theorem dX7_clear_73 : decode cX7_clear 73 = .ok (.ireturn, 1) := by decide +kernel
theorem dX7_trap_0 : decode cX7_trap 0 = .ok (.aload_n 0, 1) := by decide +kernel
theorem dX7_trap_1 : decode cX7_trap 1 = .ok (.iload_n 1, 1) := by decide +kernel
theorem dX7_trap_2 : decode cX7_trap 2 = .ok (.invokevirtual 93, 3) := by decide +kernel
theorem dX7_trap_5 : decode cX7_trap 5 = .ok (.ifCond .eq 11, 3) := by decide +kernel
theorem dX7_trap_8 : decode cX7_trap 8 = .ok (.aload_n 0, 1) := by decide +kernel
theorem dX7_trap_9 : decode cX7_trap 9 = .ok (.iload_n 2, 1) := by decide +kernel
theorem dX7_trap_10 : decode cX7_trap 10 = .ok (.invokevirtual 93, 3) := by decide +kernel
theorem dX7_trap_13 : decode cX7_trap 13 = .ok (.ifCond .ne 6, 3) := by decide +kernel
theorem dX7_trap_16 : decode cX7_trap 16 = .ok (.bipush (-2), 2) := by decide +kernel
theorem dX7_trap_18 : decode cX7_trap 18 = .ok (.ireturn, 1) := by decide +kernel
theorem dX7_trap_19 : decode cX7_trap 19 = .ok (.iconst 1, 1) := by decide +kernel
theorem dX7_trap_20 : decode cX7_trap 20 = .ok (.istore_n 3, 1) := by decide +kernel
theorem dX7_trap_21 : decode cX7_trap 21 = .ok (.iload_n 3, 1) := by decide +kernel
theorem dX7_trap_22 : decode cX7_trap 22 = .ok (.sipush 400, 3) := by decide +kernel
theorem dX7_trap_25 : decode cX7_trap 25 = .ok (.if_icmp .gt 32, 3) := by decide +kernel
theorem dX7_trap_28 : decode cX7_trap 28 = .ok (.aload_n 0, 1) := by decide +kernel
theorem dX7_trap_29 : decode cX7_trap 29 = .ok (.iload_n 1, 1) := by decide +kernel
theorem dX7_trap_30 : decode cX7_trap 30 = .ok (.iload_n 2, 1) := by decide +kernel
theorem dX7_trap_31 : decode cX7_trap 31 = .ok (.iload_n 3, 1) := by decide +kernel
theorem dX7_trap_32 : decode cX7_trap 32 = .ok (.invokevirtual 153, 3) := by decide +kernel
theorem dX7_trap_35 : decode cX7_trap 35 = .ok (.istore 4, 2) := by decide +kernel
theorem dX7_trap_37 : decode cX7_trap 37 = .ok (.iload 4, 2) := by decide +kernel
theorem dX7_trap_39 : decode cX7_trap 39 = .ok (.iload_n 3, 1) := by decide +kernel
theorem dX7_trap_40 : decode cX7_trap 40 = .ok (.if_icmp .eq 11, 3) := by decide +kernel
theorem dX7_trap_43 : decode cX7_trap 43 = .ok (.iload 4, 2) := by decide +kernel
theorem dX7_trap_45 : decode cX7_trap 45 = .ok (.iconst (-1), 1) := by decide +kernel
theorem dX7_trap_46 : decode cX7_trap 46 = .ok (.if_icmp .eq 5, 3) := by decide +kernel
theorem dX7_trap_49 : decode cX7_trap 49 = .ok (.iload_n 3, 1) := by decide +kernel
theorem dX7_trap_50 : decode cX7_trap 50 = .ok (.ireturn, 1) := by decide +kernel
theorem dX7_trap_51 : decode cX7_trap 51 = .ok (.iinc 3 1, 3) := by decide +kernel
theorem dX7_trap_54 : decode cX7_trap 54 = .ok (.goto (-33), 3) := by decide +kernel
theorem dX7_trap_57 : decode cX7_trap 57 = .ok (.iconst (-1), 1) := by decide +kernel
theorem dX7_trap_58 : decode cX7_trap 58 = .ok (.ireturn, 1) := by decide +kernel
theorem dX7_isPerson_0 : decode cX7_isPerson 0 = .ok (.iload_n 1, 1) := by decide +kernel
theorem dX7_isPerson_1 : decode cX7_isPerson 1 = .ok (.iconst 0, 1) := by decide +kernel
theorem dX7_isPerson_2 : decode cX7_isPerson 2 = .ok (.aload_n 0, 1) := by decide +kernel
theorem dX7_isPerson_3 : decode cX7_isPerson 3 = .ok (.getfield 157, 3) := by decide +kernel
theorem dX7_isPerson_6 : decode cX7_isPerson 6 = .ok (.iconst 1, 1) := by decide +kernel
theorem dX7_isPerson_7 : decode cX7_isPerson 7 = .ok (.isub, 1) := by decide +kernel
theorem dX7_isPerson_8 : decode cX7_isPerson 8 = .ok (.invokestatic 75, 3) := by decide +kernel
theorem dX7_isPerson_11 : decode cX7_isPerson 11 = .ok (.ireturn, 1) := by decide +kernel
theorem dX7_person_0 : decode cX7_person 0 = .ok (.aload_n 0, 1) := by decide +kernel
theorem dX7_person_1 : decode cX7_person 1 = .ok (.iload_n 1, 1) := by decide +kernel
theorem dX7_person_2 : decode cX7_person 2 = .ok (.invokevirtual 93, 3) := by decide +kernel
theorem dX7_person_5 : decode cX7_person 5 = .ok (.ifCond .ne 6, 3) := by decide +kernel
theorem dX7_person_8 : decode cX7_person 8 = .ok (.bipush (-2), 2) := by decide +kernel
theorem dX7_person_10 : decode cX7_person 10 = .ok (.ireturn, 1) := by decide +kernel
theorem dX7_person_11 : decode cX7_person 11 = .ok (.aload_n 0, 1) := by decide +kernel
theorem dX7_person_12 : decode cX7_person 12 = .ok (.getfield 157, 3) := by decide +kernel
theorem dX7_person_15 : decode cX7_person 15 = .ok (.bipush 8, 2) := by decide +kernel
theorem dX7_person_17 : decode cX7_person 17 = .ok (.if_icmp .ne 6, 3) := by decide +kernel
theorem dX7_person_20 : decode cX7_person 20 = .ok (.bipush (-4), 2) := by decide +kernel
theorem dX7_person_22 : decode cX7_person 22 = .ok (.ireturn, 1) := by decide +kernel
theorem dX7_person_23 : decode cX7_person 23 = .ok (.aload_n 0, 1) := by decide +kernel
theorem dX7_person_24 : decode cX7_person 24 = .ok (.getfield 36, 3) := by decide +kernel
theorem dX7_person_27 : decode cX7_person 27 = .ok (.aload_n 0, 1) := by decide +kernel
theorem dX7_person_28 : decode cX7_person 28 = .ok (.getfield 157, 3) := by decide +kernel
theorem dX7_person_31 : decode cX7_person 31 = .ok (.iload_n 1, 1) := by decide +kernel
theorem dX7_person_32 : decode cX7_person 32 = .ok (.iastore, 1) := by decide +kernel
theorem dX7_person_33 : decode cX7_person 33 = .ok (.aload_n 0, 1) := by decide +kernel
theorem dX7_person_34 : decode cX7_person 34 = .ok (.dup, 1) := by decide +kernel
theorem dX7_person_35 : decode cX7_person 35 = .ok (.getfield 157, 3) := by decide +kernel
theorem dX7_person_38 : decode cX7_person 38 = .ok (.iconst 1, 1) := by decide +kernel
theorem dX7_person_39 : decode cX7_person 39 = .ok (.iadd, 1) := by decide +kernel
theorem dX7_person_40 : decode cX7_person 40 = .ok (.putfield 157, 3) := by decide +kernel
theorem dX7_person_43 : decode cX7_person 43 = .ok (.aload_n 0, 1) := by decide +kernel
theorem dX7_person_44 : decode cX7_person 44 = .ok (.getfield 157, 3) := by decide +kernel
theorem dX7_person_47 : decode cX7_person 47 = .ok (.iconst 1, 1) := by decide +kernel
theorem dX7_person_48 : decode cX7_person 48 = .ok (.isub, 1) := by decide +kernel
theorem dX7_person_49 : decode cX7_person 49 = .ok (.ireturn, 1) := by decide +kernel
theorem dX7_owedBy_0 : decode cX7_owedBy 0 = .ok (.aload_n 0, 1) := by decide +kernel
theorem dX7_owedBy_1 : decode cX7_owedBy 1 = .ok (.getfield 39, 3) := by decide +kernel
theorem dX7_owedBy_4 : decode cX7_owedBy 4 = .ok (.bipush 8, 2) := by decide +kernel
theorem dX7_owedBy_6 : decode cX7_owedBy 6 = .ok (.iload_n 1, 1) := by decide +kernel
theorem dX7_owedBy_7 : decode cX7_owedBy 7 = .ok (.imul, 1) := by decide +kernel
theorem dX7_owedBy_8 : decode cX7_owedBy 8 = .ok (.iload_n 2, 1) := by decide +kernel
theorem dX7_owedBy_9 : decode cX7_owedBy 9 = .ok (.iadd, 1) := by decide +kernel
theorem dX7_owedBy_10 : decode cX7_owedBy 10 = .ok (.iaload, 1) := by decide +kernel
theorem dX7_owedBy_11 : decode cX7_owedBy 11 = .ok (.ifCond .le 17, 3) := by decide +kernel
theorem dX7_owedBy_14 : decode cX7_owedBy 14 = .ok (.aload_n 0, 1) := by decide +kernel
theorem dX7_owedBy_15 : decode cX7_owedBy 15 = .ok (.getfield 39, 3) := by decide +kernel
theorem dX7_owedBy_18 : decode cX7_owedBy 18 = .ok (.bipush 8, 2) := by decide +kernel
theorem dX7_owedBy_20 : decode cX7_owedBy 20 = .ok (.iload_n 1, 1) := by decide +kernel
theorem dX7_owedBy_21 : decode cX7_owedBy 21 = .ok (.imul, 1) := by decide +kernel
theorem dX7_owedBy_22 : decode cX7_owedBy 22 = .ok (.iload_n 2, 1) := by decide +kernel
theorem dX7_owedBy_23 : decode cX7_owedBy 23 = .ok (.iadd, 1) := by decide +kernel
theorem dX7_owedBy_24 : decode cX7_owedBy 24 = .ok (.iaload, 1) := by decide +kernel
theorem dX7_owedBy_25 : decode cX7_owedBy 25 = .ok (.goto 4, 3) := by decide +kernel
theorem dX7_owedBy_28 : decode cX7_owedBy 28 = .ok (.iconst 0, 1) := by decide +kernel
theorem dX7_owedBy_29 : decode cX7_owedBy 29 = .ok (.ireturn, 1) := by decide +kernel
theorem dX7_owe_0 : decode cX7_owe 0 = .ok (.aload_n 0, 1) := by decide +kernel
theorem dX7_owe_1 : decode cX7_owe 1 = .ok (.getfield 39, 3) := by decide +kernel
theorem dX7_owe_4 : decode cX7_owe 4 = .ok (.bipush 8, 2) := by decide +kernel
theorem dX7_owe_6 : decode cX7_owe 6 = .ok (.iload_n 1, 1) := by decide +kernel
theorem dX7_owe_7 : decode cX7_owe 7 = .ok (.imul, 1) := by decide +kernel
theorem dX7_owe_8 : decode cX7_owe 8 = .ok (.iload_n 2, 1) := by decide +kernel
theorem dX7_owe_9 : decode cX7_owe 9 = .ok (.iadd, 1) := by decide +kernel
theorem dX7_owe_10 : decode cX7_owe 10 = .ok (.dup2, 1) := by decide +kernel
theorem dX7_owe_11 : decode cX7_owe 11 = .ok (.iaload, 1) := by decide +kernel
theorem dX7_owe_12 : decode cX7_owe 12 = .ok (.iload_n 3, 1) := by decide +kernel
theorem dX7_owe_13 : decode cX7_owe 13 = .ok (.iadd, 1) := by decide +kernel
theorem dX7_owe_14 : decode cX7_owe 14 = .ok (.iastore, 1) := by decide +kernel
theorem dX7_owe_15 : decode cX7_owe 15 = .ok (.aload_n 0, 1) := by decide +kernel
theorem dX7_owe_16 : decode cX7_owe 16 = .ok (.getfield 39, 3) := by decide +kernel
theorem dX7_owe_19 : decode cX7_owe 19 = .ok (.bipush 8, 2) := by decide +kernel
theorem dX7_owe_21 : decode cX7_owe 21 = .ok (.iload_n 2, 1) := by decide +kernel
theorem dX7_owe_22 : decode cX7_owe 22 = .ok (.imul, 1) := by decide +kernel
theorem dX7_owe_23 : decode cX7_owe 23 = .ok (.iload_n 1, 1) := by decide +kernel
theorem dX7_owe_24 : decode cX7_owe 24 = .ok (.iadd, 1) := by decide +kernel
theorem dX7_owe_25 : decode cX7_owe 25 = .ok (.dup2, 1) := by decide +kernel
theorem dX7_owe_26 : decode cX7_owe 26 = .ok (.iaload, 1) := by decide +kernel
theorem dX7_owe_27 : decode cX7_owe 27 = .ok (.iload_n 3, 1) := by decide +kernel
theorem dX7_owe_28 : decode cX7_owe 28 = .ok (.isub, 1) := by decide +kernel
theorem dX7_owe_29 : decode cX7_owe 29 = .ok (.iastore, 1) := by decide +kernel
theorem dX7_owe_30 : decode cX7_owe 30 = .ok (.return_, 1) := by decide +kernel
theorem dX7_gift_0 : decode cX7_gift 0 = .ok (.aload_n 0, 1) := by decide +kernel
theorem dX7_gift_1 : decode cX7_gift 1 = .ok (.iload_n 1, 1) := by decide +kernel
theorem dX7_gift_2 : decode cX7_gift 2 = .ok (.invokevirtual 160, 3) := by decide +kernel
theorem dX7_gift_5 : decode cX7_gift 5 = .ok (.ifCond .eq 27, 3) := by decide +kernel
theorem dX7_gift_8 : decode cX7_gift 8 = .ok (.aload_n 0, 1) := by decide +kernel
theorem dX7_gift_9 : decode cX7_gift 9 = .ok (.iload_n 2, 1) := by decide +kernel
theorem dX7_gift_10 : decode cX7_gift 10 = .ok (.invokevirtual 160, 3) := by decide +kernel
theorem dX7_gift_13 : decode cX7_gift 13 = .ok (.ifCond .eq 19, 3) := by decide +kernel
theorem dX7_gift_16 : decode cX7_gift 16 = .ok (.iload_n 1, 1) := by decide +kernel
theorem dX7_gift_17 : decode cX7_gift 17 = .ok (.iload_n 2, 1) := by decide +kernel
theorem dX7_gift_18 : decode cX7_gift 18 = .ok (.if_icmp .eq 14, 3) := by decide +kernel
theorem dX7_gift_21 : decode cX7_gift 21 = .ok (.iload_n 3, 1) := by decide +kernel
theorem dX7_gift_22 : decode cX7_gift 22 = .ok (.iconst 1, 1) := by decide +kernel
theorem dX7_gift_23 : decode cX7_gift 23 = .ok (.sipush 400, 3) := by decide +kernel
theorem dX7_gift_26 : decode cX7_gift 26 = .ok (.invokestatic 75, 3) := by decide +kernel
theorem dX7_gift_29 : decode cX7_gift 29 = .ok (.ifCond .ne 6, 3) := by decide +kernel
theorem dX7_gift_32 : decode cX7_gift 32 = .ok (.bipush (-2), 2) := by decide +kernel
theorem dX7_gift_34 : decode cX7_gift 34 = .ok (.ireturn, 1) := by decide +kernel
theorem dX7_gift_35 : decode cX7_gift 35 = .ok (.aload_n 0, 1) := by decide +kernel
theorem dX7_gift_36 : decode cX7_gift 36 = .ok (.getfield 39, 3) := by decide +kernel
theorem dX7_gift_39 : decode cX7_gift 39 = .ok (.bipush 8, 2) := by decide +kernel
theorem dX7_gift_41 : decode cX7_gift 41 = .ok (.iload_n 2, 1) := by decide +kernel
theorem dX7_gift_42 : decode cX7_gift 42 = .ok (.imul, 1) := by decide +kernel
theorem dX7_gift_43 : decode cX7_gift 43 = .ok (.iload_n 1, 1) := by decide +kernel
theorem dX7_gift_44 : decode cX7_gift 44 = .ok (.iadd, 1) := by decide +kernel
theorem dX7_gift_45 : decode cX7_gift 45 = .ok (.iaload, 1) := by decide +kernel
theorem dX7_gift_46 : decode cX7_gift 46 = .ok (.iload_n 3, 1) := by decide +kernel
theorem dX7_gift_47 : decode cX7_gift 47 = .ok (.iadd, 1) := by decide +kernel
theorem dX7_gift_48 : decode cX7_gift 48 = .ok (.sipush 400, 3) := by decide +kernel
theorem dX7_gift_51 : decode cX7_gift 51 = .ok (.if_icmp .le 6, 3) := by decide +kernel
theorem dX7_gift_54 : decode cX7_gift 54 = .ok (.bipush (-3), 2) := by decide +kernel
theorem dX7_gift_56 : decode cX7_gift 56 = .ok (.ireturn, 1) := by decide +kernel
theorem dX7_gift_57 : decode cX7_gift 57 = .ok (.aload_n 0, 1) := by decide +kernel
theorem dX7_gift_58 : decode cX7_gift 58 = .ok (.iload_n 2, 1) := by decide +kernel
theorem dX7_gift_59 : decode cX7_gift 59 = .ok (.iload_n 1, 1) := by decide +kernel
theorem dX7_gift_60 : decode cX7_gift 60 = .ok (.iload_n 3, 1) := by decide +kernel
theorem dX7_gift_61 : decode cX7_gift 61 = .ok (.invokevirtual 163, 3) := by decide +kernel
theorem dX7_gift_64 : decode cX7_gift 64 = .ok (.aload_n 0, 1) := by decide +kernel
theorem dX7_gift_65 : decode cX7_gift 65 = .ok (.iload_n 2, 1) := by decide +kernel
theorem dX7_gift_66 : decode cX7_gift 66 = .ok (.iload_n 1, 1) := by decide +kernel
theorem dX7_gift_67 : decode cX7_gift 67 = .ok (.invokevirtual 167, 3) := by decide +kernel
theorem dX7_gift_70 : decode cX7_gift 70 = .ok (.ireturn, 1) := by decide +kernel
theorem dX7_owed_0 : decode cX7_owed 0 = .ok (.aload_n 0, 1) := by decide +kernel
theorem dX7_owed_1 : decode cX7_owed 1 = .ok (.iload_n 1, 1) := by decide +kernel
theorem dX7_owed_2 : decode cX7_owed 2 = .ok (.invokevirtual 160, 3) := by decide +kernel
theorem dX7_owed_5 : decode cX7_owed 5 = .ok (.ifCond .eq 25, 3) := by decide +kernel
theorem dX7_owed_8 : decode cX7_owed 8 = .ok (.aload_n 0, 1) := by decide +kernel
theorem dX7_owed_9 : decode cX7_owed 9 = .ok (.iload_n 2, 1) := by decide +kernel
theorem dX7_owed_10 : decode cX7_owed 10 = .ok (.invokevirtual 160, 3) := by decide +kernel
theorem dX7_owed_13 : decode cX7_owed 13 = .ok (.ifCond .eq 17, 3) := by decide +kernel
theorem dX7_owed_16 : decode cX7_owed 16 = .ok (.iload_n 1, 1) := by decide +kernel
theorem dX7_owed_17 : decode cX7_owed 17 = .ok (.iload_n 2, 1) := by decide +kernel
theorem dX7_owed_18 : decode cX7_owed 18 = .ok (.if_icmp .eq 12, 3) := by decide +kernel
theorem dX7_owed_21 : decode cX7_owed 21 = .ok (.aload_n 0, 1) := by decide +kernel
theorem dX7_owed_22 : decode cX7_owed 22 = .ok (.iload_n 1, 1) := by decide +kernel
theorem dX7_owed_23 : decode cX7_owed 23 = .ok (.iload_n 2, 1) := by decide +kernel
theorem dX7_owed_24 : decode cX7_owed 24 = .ok (.invokevirtual 167, 3) := by decide +kernel
theorem dX7_owed_27 : decode cX7_owed 27 = .ok (.goto 5, 3) := by decide +kernel
theorem dX7_owed_30 : decode cX7_owed 30 = .ok (.bipush (-2), 2) := by decide +kernel
theorem dX7_owed_32 : decode cX7_owed 32 = .ok (.ireturn, 1) := by decide +kernel
theorem dX7_told_0 : decode cX7_told 0 = .ok (.aload_n 0, 1) := by decide +kernel
theorem dX7_told_1 : decode cX7_told 1 = .ok (.iload_n 1, 1) := by decide +kernel
theorem dX7_told_2 : decode cX7_told 2 = .ok (.invokevirtual 160, 3) := by decide +kernel
theorem dX7_told_5 : decode cX7_told 5 = .ok (.ifCond .eq 16, 3) := by decide +kernel
theorem dX7_told_8 : decode cX7_told 8 = .ok (.aload_n 0, 1) := by decide +kernel
theorem dX7_told_9 : decode cX7_told 9 = .ok (.iload_n 2, 1) := by decide +kernel
theorem dX7_told_10 : decode cX7_told 10 = .ok (.invokevirtual 160, 3) := by decide +kernel
theorem dX7_told_13 : decode cX7_told 13 = .ok (.ifCond .eq 8, 3) := by decide +kernel
theorem dX7_told_16 : decode cX7_told 16 = .ok (.iload_n 1, 1) := by decide +kernel
theorem dX7_told_17 : decode cX7_told 17 = .ok (.iload_n 2, 1) := by decide +kernel
theorem dX7_told_18 : decode cX7_told 18 = .ok (.if_icmp .ne 6, 3) := by decide +kernel
theorem dX7_told_21 : decode cX7_told 21 = .ok (.bipush (-2), 2) := by decide +kernel
theorem dX7_told_23 : decode cX7_told 23 = .ok (.ireturn, 1) := by decide +kernel
theorem dX7_told_24 : decode cX7_told 24 = .ok (.aload_n 0, 1) := by decide +kernel
theorem dX7_told_25 : decode cX7_told 25 = .ok (.iload_n 1, 1) := by decide +kernel
theorem dX7_told_26 : decode cX7_told 26 = .ok (.iload_n 2, 1) := by decide +kernel
theorem dX7_told_27 : decode cX7_told 27 = .ok (.invokevirtual 167, 3) := by decide +kernel
theorem dX7_told_30 : decode cX7_told 30 = .ok (.istore_n 3, 1) := by decide +kernel
theorem dX7_told_31 : decode cX7_told 31 = .ok (.iload_n 3, 1) := by decide +kernel
theorem dX7_told_32 : decode cX7_told 32 = .ok (.ifCond .ne 7, 3) := by decide +kernel
theorem dX7_told_35 : decode cX7_told 35 = .ok (.iconst 0, 1) := by decide +kernel
theorem dX7_told_36 : decode cX7_told 36 = .ok (.goto 29, 3) := by decide +kernel
theorem dX7_told_39 : decode cX7_told 39 = .ok (.bipush 100, 2) := by decide +kernel
theorem dX7_told_41 : decode cX7_told 41 = .ok (.aload_n 0, 1) := by decide +kernel
theorem dX7_told_42 : decode cX7_told 42 = .ok (.aload_n 0, 1) := by decide +kernel
theorem dX7_told_43 : decode cX7_told 43 = .ok (.getfield 36, 3) := by decide +kernel
theorem dX7_told_46 : decode cX7_told 46 = .ok (.iload_n 2, 1) := by decide +kernel
theorem dX7_told_47 : decode cX7_told 47 = .ok (.iaload, 1) := by decide +kernel
theorem dX7_told_48 : decode cX7_told 48 = .ok (.iload_n 3, 1) := by decide +kernel
theorem dX7_told_49 : decode cX7_told 49 = .ok (.invokevirtual 112, 3) := by decide +kernel
theorem dX7_told_52 : decode cX7_told 52 = .ok (.imul, 1) := by decide +kernel
theorem dX7_told_53 : decode cX7_told 53 = .ok (.aload_n 0, 1) := by decide +kernel
theorem dX7_told_54 : decode cX7_told 54 = .ok (.aload_n 0, 1) := by decide +kernel
theorem dX7_told_55 : decode cX7_told 55 = .ok (.getfield 36, 3) := by decide +kernel
theorem dX7_told_58 : decode cX7_told 58 = .ok (.iload_n 2, 1) := by decide +kernel
theorem dX7_told_59 : decode cX7_told 59 = .ok (.iaload, 1) := by decide +kernel
theorem dX7_told_60 : decode cX7_told 60 = .ok (.iload_n 3, 1) := by decide +kernel
theorem dX7_told_61 : decode cX7_told 61 = .ok (.invokevirtual 115, 3) := by decide +kernel
theorem dX7_told_64 : decode cX7_told 64 = .ok (.iadd, 1) := by decide +kernel
theorem dX7_told_65 : decode cX7_told 65 = .ok (.ireturn, 1) := by decide +kernel
theorem dX7_finds_0 : decode cX7_finds 0 = .ok (.iconst 3, 1) := by decide +kernel
theorem dX7_finds_1 : decode cX7_finds 1 = .ok (.istore_n 1, 1) := by decide +kernel
theorem dX7_finds_2 : decode cX7_finds 2 = .ok (.iload_n 1, 1) := by decide +kernel
theorem dX7_finds_3 : decode cX7_finds 3 = .ok (.aload_n 0, 1) := by decide +kernel
theorem dX7_finds_4 : decode cX7_finds 4 = .ok (.getfield 157, 3) := by decide +kernel
theorem dX7_finds_7 : decode cX7_finds 7 = .ok (.if_icmp .gt 19, 3) := by decide +kernel
theorem dX7_finds_10 : decode cX7_finds 10 = .ok (.aload_n 0, 1) := by decide +kernel
theorem dX7_finds_11 : decode cX7_finds 11 = .ok (.iload_n 1, 1) := by decide +kernel
theorem dX7_finds_12 : decode cX7_finds 12 = .ok (.invokevirtual 170, 3) := by decide +kernel
theorem dX7_finds_15 : decode cX7_finds 15 = .ok (.ifCond .eq 5, 3) := by decide +kernel
theorem dX7_finds_18 : decode cX7_finds 18 = .ok (.iload_n 1, 1) := by decide +kernel
theorem dX7_finds_19 : decode cX7_finds 19 = .ok (.ireturn, 1) := by decide +kernel
theorem dX7_finds_20 : decode cX7_finds 20 = .ok (.iinc 1 1, 3) := by decide +kernel
theorem dX7_finds_23 : decode cX7_finds 23 = .ok (.goto (-21), 3) := by decide +kernel
theorem dX7_finds_26 : decode cX7_finds 26 = .ok (.iconst 0, 1) := by decide +kernel
theorem dX7_finds_27 : decode cX7_finds 27 = .ok (.ireturn, 1) := by decide +kernel
theorem dX7_goesRound_0 : decode cX7_goesRound 0 = .ok (.iconst 0, 1) := by decide +kernel
theorem dX7_goesRound_1 : decode cX7_goesRound 1 = .ok (.istore_n 2, 1) := by decide +kernel
theorem dX7_goesRound_2 : decode cX7_goesRound 2 = .ok (.iload_n 2, 1) := by decide +kernel
theorem dX7_goesRound_3 : decode cX7_goesRound 3 = .ok (.iload_n 1, 1) := by decide +kernel
theorem dX7_goesRound_4 : decode cX7_goesRound 4 = .ok (.if_icmp .ge 16, 3) := by decide +kernel
theorem dX7_goesRound_7 : decode cX7_goesRound 7 = .ok (.aload_n 0, 1) := by decide +kernel
theorem dX7_goesRound_8 : decode cX7_goesRound 8 = .ok (.getfield 42, 3) := by decide +kernel
theorem dX7_goesRound_11 : decode cX7_goesRound 11 = .ok (.iload_n 2, 1) := by decide +kernel
theorem dX7_goesRound_12 : decode cX7_goesRound 12 = .ok (.iconst (-1), 1) := by decide +kernel
theorem dX7_goesRound_13 : decode cX7_goesRound 13 = .ok (.iastore, 1) := by decide +kernel
theorem dX7_goesRound_14 : decode cX7_goesRound 14 = .ok (.iinc 2 1, 3) := by decide +kernel
theorem dX7_goesRound_17 : decode cX7_goesRound 17 = .ok (.goto (-15), 3) := by decide +kernel
theorem dX7_goesRound_20 : decode cX7_goesRound 20 = .ok (.iconst 0, 1) := by decide +kernel
theorem dX7_goesRound_21 : decode cX7_goesRound 21 = .ok (.istore_n 2, 1) := by decide +kernel
theorem dX7_goesRound_22 : decode cX7_goesRound 22 = .ok (.iload_n 2, 1) := by decide +kernel
theorem dX7_goesRound_23 : decode cX7_goesRound 23 = .ok (.ifCond .lt 93, 3) := by decide +kernel
theorem dX7_goesRound_26 : decode cX7_goesRound 26 = .ok (.aload_n 0, 1) := by decide +kernel
theorem dX7_goesRound_27 : decode cX7_goesRound 27 = .ok (.getfield 42, 3) := by decide +kernel
theorem dX7_goesRound_30 : decode cX7_goesRound 30 = .ok (.iload_n 2, 1) := by decide +kernel
theorem dX7_goesRound_31 : decode cX7_goesRound 31 = .ok (.dup2, 1) := by decide +kernel
theorem dX7_goesRound_32 : decode cX7_goesRound 32 = .ok (.iaload, 1) := by decide +kernel
theorem dX7_goesRound_33 : decode cX7_goesRound 33 = .ok (.iconst 1, 1) := by decide +kernel
theorem dX7_goesRound_34 : decode cX7_goesRound 34 = .ok (.iadd, 1) := by decide +kernel
theorem dX7_goesRound_35 : decode cX7_goesRound 35 = .ok (.iastore, 1) := by decide +kernel
theorem dX7_goesRound_36 : decode cX7_goesRound 36 = .ok (.aload_n 0, 1) := by decide +kernel
theorem dX7_goesRound_37 : decode cX7_goesRound 37 = .ok (.getfield 42, 3) := by decide +kernel
theorem dX7_goesRound_40 : decode cX7_goesRound 40 = .ok (.iload_n 2, 1) := by decide +kernel
theorem dX7_goesRound_41 : decode cX7_goesRound 41 = .ok (.iaload, 1) := by decide +kernel
theorem dX7_goesRound_42 : decode cX7_goesRound 42 = .ok (.aload_n 0, 1) := by decide +kernel
theorem dX7_goesRound_43 : decode cX7_goesRound 43 = .ok (.getfield 157, 3) := by decide +kernel
theorem dX7_goesRound_46 : decode cX7_goesRound 46 = .ok (.if_icmp .ne 16, 3) := by decide +kernel
theorem dX7_goesRound_49 : decode cX7_goesRound 49 = .ok (.aload_n 0, 1) := by decide +kernel
theorem dX7_goesRound_50 : decode cX7_goesRound 50 = .ok (.getfield 42, 3) := by decide +kernel
theorem dX7_goesRound_53 : decode cX7_goesRound 53 = .ok (.iload_n 2, 1) := by decide +kernel
theorem dX7_goesRound_54 : decode cX7_goesRound 54 = .ok (.iconst (-1), 1) := by decide +kernel
theorem dX7_goesRound_55 : decode cX7_goesRound 55 = .ok (.iastore, 1) := by decide +kernel
theorem dX7_goesRound_56 : decode cX7_goesRound 56 = .ok (.iinc 2 (-1), 3) := by decide +kernel
theorem dX7_goesRound_59 : decode cX7_goesRound 59 = .ok (.goto (-37), 3) := by decide +kernel
theorem dX7_goesRound_62 : decode cX7_goesRound 62 = .ok (.aload_n 0, 1) := by decide +kernel
theorem dX7_goesRound_63 : decode cX7_goesRound 63 = .ok (.iload_n 2, 1) := by decide +kernel
theorem dX7_goesRound_64 : decode cX7_goesRound 64 = .ok (.invokevirtual 173, 3) := by decide +kernel
theorem dX7_goesRound_67 : decode cX7_goesRound 67 = .ok (.ifCond .eq (-45), 3) := by decide +kernel
theorem dX7_goesRound_70 : decode cX7_goesRound 70 = .ok (.iload_n 2, 1) := by decide +kernel
theorem dX7_goesRound_71 : decode cX7_goesRound 71 = .ok (.iload_n 1, 1) := by decide +kernel
theorem dX7_goesRound_72 : decode cX7_goesRound 72 = .ok (.iconst 1, 1) := by decide +kernel
theorem dX7_goesRound_73 : decode cX7_goesRound 73 = .ok (.isub, 1) := by decide +kernel
theorem dX7_goesRound_74 : decode cX7_goesRound 74 = .ok (.if_icmp .ne 24, 3) := by decide +kernel
theorem dX7_goesRound_77 : decode cX7_goesRound 77 = .ok (.aload_n 0, 1) := by decide +kernel
theorem dX7_goesRound_78 : decode cX7_goesRound 78 = .ok (.aload_n 0, 1) := by decide +kernel
theorem dX7_goesRound_79 : decode cX7_goesRound 79 = .ok (.getfield 42, 3) := by decide +kernel
theorem dX7_goesRound_82 : decode cX7_goesRound 82 = .ok (.iload_n 2, 1) := by decide +kernel
theorem dX7_goesRound_83 : decode cX7_goesRound 83 = .ok (.iaload, 1) := by decide +kernel
theorem dX7_goesRound_84 : decode cX7_goesRound 84 = .ok (.aload_n 0, 1) := by decide +kernel
theorem dX7_goesRound_85 : decode cX7_goesRound 85 = .ok (.getfield 42, 3) := by decide +kernel
theorem dX7_goesRound_88 : decode cX7_goesRound 88 = .ok (.iconst 0, 1) := by decide +kernel
theorem dX7_goesRound_89 : decode cX7_goesRound 89 = .ok (.iaload, 1) := by decide +kernel
theorem dX7_goesRound_90 : decode cX7_goesRound 90 = .ok (.invokevirtual 167, 3) := by decide +kernel
theorem dX7_goesRound_93 : decode cX7_goesRound 93 = .ok (.ifCond .le 5, 3) := by decide +kernel
theorem dX7_goesRound_96 : decode cX7_goesRound 96 = .ok (.iconst 1, 1) := by decide +kernel
theorem dX7_goesRound_97 : decode cX7_goesRound 97 = .ok (.ireturn, 1) := by decide +kernel
theorem dX7_goesRound_98 : decode cX7_goesRound 98 = .ok (.iload_n 2, 1) := by decide +kernel
theorem dX7_goesRound_99 : decode cX7_goesRound 99 = .ok (.iload_n 2, 1) := by decide +kernel
theorem dX7_goesRound_100 : decode cX7_goesRound 100 = .ok (.iload_n 1, 1) := by decide +kernel
theorem dX7_goesRound_101 : decode cX7_goesRound 101 = .ok (.iconst 1, 1) := by decide +kernel
theorem dX7_goesRound_102 : decode cX7_goesRound 102 = .ok (.isub, 1) := by decide +kernel
theorem dX7_goesRound_103 : decode cX7_goesRound 103 = .ok (.if_icmp .ge 7, 3) := by decide +kernel
theorem dX7_goesRound_106 : decode cX7_goesRound 106 = .ok (.iconst 1, 1) := by decide +kernel
theorem dX7_goesRound_107 : decode cX7_goesRound 107 = .ok (.goto 4, 3) := by decide +kernel
theorem dX7_goesRound_110 : decode cX7_goesRound 110 = .ok (.iconst 0, 1) := by decide +kernel
theorem dX7_goesRound_111 : decode cX7_goesRound 111 = .ok (.iadd, 1) := by decide +kernel
theorem dX7_goesRound_112 : decode cX7_goesRound 112 = .ok (.istore_n 2, 1) := by decide +kernel
theorem dX7_goesRound_113 : decode cX7_goesRound 113 = .ok (.goto (-91), 3) := by decide +kernel
theorem dX7_goesRound_116 : decode cX7_goesRound 116 = .ok (.iconst 0, 1) := by decide +kernel
theorem dX7_goesRound_117 : decode cX7_goesRound 117 = .ok (.ireturn, 1) := by decide +kernel
theorem dX7_mayStand_0 : decode cX7_mayStand 0 = .ok (.iconst 0, 1) := by decide +kernel
theorem dX7_mayStand_1 : decode cX7_mayStand 1 = .ok (.istore_n 2, 1) := by decide +kernel
theorem dX7_mayStand_2 : decode cX7_mayStand 2 = .ok (.iload_n 2, 1) := by decide +kernel
theorem dX7_mayStand_3 : decode cX7_mayStand 3 = .ok (.iload_n 1, 1) := by decide +kernel
theorem dX7_mayStand_4 : decode cX7_mayStand 4 = .ok (.if_icmp .ge 26, 3) := by decide +kernel
theorem dX7_mayStand_7 : decode cX7_mayStand 7 = .ok (.aload_n 0, 1) := by decide +kernel
theorem dX7_mayStand_8 : decode cX7_mayStand 8 = .ok (.getfield 42, 3) := by decide +kernel
theorem dX7_mayStand_11 : decode cX7_mayStand 11 = .ok (.iload_n 2, 1) := by decide +kernel
theorem dX7_mayStand_12 : decode cX7_mayStand 12 = .ok (.iaload, 1) := by decide +kernel
theorem dX7_mayStand_13 : decode cX7_mayStand 13 = .ok (.aload_n 0, 1) := by decide +kernel
theorem dX7_mayStand_14 : decode cX7_mayStand 14 = .ok (.getfield 42, 3) := by decide +kernel
theorem dX7_mayStand_17 : decode cX7_mayStand 17 = .ok (.iload_n 1, 1) := by decide +kernel
theorem dX7_mayStand_18 : decode cX7_mayStand 18 = .ok (.iaload, 1) := by decide +kernel
theorem dX7_mayStand_19 : decode cX7_mayStand 19 = .ok (.if_icmp .ne 5, 3) := by decide +kernel
theorem dX7_mayStand_22 : decode cX7_mayStand 22 = .ok (.iconst 0, 1) := by decide +kernel
theorem dX7_mayStand_23 : decode cX7_mayStand 23 = .ok (.ireturn, 1) := by decide +kernel
theorem dX7_mayStand_24 : decode cX7_mayStand 24 = .ok (.iinc 2 1, 3) := by decide +kernel
theorem dX7_mayStand_27 : decode cX7_mayStand 27 = .ok (.goto (-25), 3) := by decide +kernel
theorem dX7_mayStand_30 : decode cX7_mayStand 30 = .ok (.iload_n 1, 1) := by decide +kernel
theorem dX7_mayStand_31 : decode cX7_mayStand 31 = .ok (.ifCond .eq 39, 3) := by decide +kernel
theorem dX7_mayStand_34 : decode cX7_mayStand 34 = .ok (.aload_n 0, 1) := by decide +kernel
theorem dX7_mayStand_35 : decode cX7_mayStand 35 = .ok (.getfield 42, 3) := by decide +kernel
theorem dX7_mayStand_38 : decode cX7_mayStand 38 = .ok (.iload_n 1, 1) := by decide +kernel
theorem dX7_mayStand_39 : decode cX7_mayStand 39 = .ok (.iaload, 1) := by decide +kernel
theorem dX7_mayStand_40 : decode cX7_mayStand 40 = .ok (.aload_n 0, 1) := by decide +kernel
theorem dX7_mayStand_41 : decode cX7_mayStand 41 = .ok (.getfield 42, 3) := by decide +kernel
theorem dX7_mayStand_44 : decode cX7_mayStand 44 = .ok (.iconst 0, 1) := by decide +kernel
theorem dX7_mayStand_45 : decode cX7_mayStand 45 = .ok (.iaload, 1) := by decide +kernel
theorem dX7_mayStand_46 : decode cX7_mayStand 46 = .ok (.if_icmp .le 28, 3) := by decide +kernel
theorem dX7_mayStand_49 : decode cX7_mayStand 49 = .ok (.aload_n 0, 1) := by decide +kernel
theorem dX7_mayStand_50 : decode cX7_mayStand 50 = .ok (.aload_n 0, 1) := by decide +kernel
theorem dX7_mayStand_51 : decode cX7_mayStand 51 = .ok (.getfield 42, 3) := by decide +kernel
theorem dX7_mayStand_54 : decode cX7_mayStand 54 = .ok (.iload_n 1, 1) := by decide +kernel
theorem dX7_mayStand_55 : decode cX7_mayStand 55 = .ok (.iconst 1, 1) := by decide +kernel
theorem dX7_mayStand_56 : decode cX7_mayStand 56 = .ok (.isub, 1) := by decide +kernel
theorem dX7_mayStand_57 : decode cX7_mayStand 57 = .ok (.iaload, 1) := by decide +kernel
theorem dX7_mayStand_58 : decode cX7_mayStand 58 = .ok (.aload_n 0, 1) := by decide +kernel
theorem dX7_mayStand_59 : decode cX7_mayStand 59 = .ok (.getfield 42, 3) := by decide +kernel
theorem dX7_mayStand_62 : decode cX7_mayStand 62 = .ok (.iload_n 1, 1) := by decide +kernel
theorem dX7_mayStand_63 : decode cX7_mayStand 63 = .ok (.iaload, 1) := by decide +kernel
theorem dX7_mayStand_64 : decode cX7_mayStand 64 = .ok (.invokevirtual 167, 3) := by decide +kernel
theorem dX7_mayStand_67 : decode cX7_mayStand 67 = .ok (.ifCond .le 7, 3) := by decide +kernel
theorem dX7_mayStand_70 : decode cX7_mayStand 70 = .ok (.iconst 1, 1) := by decide +kernel
theorem dX7_mayStand_71 : decode cX7_mayStand 71 = .ok (.goto 4, 3) := by decide +kernel
theorem dX7_mayStand_74 : decode cX7_mayStand 74 = .ok (.iconst 0, 1) := by decide +kernel
theorem dX7_mayStand_75 : decode cX7_mayStand 75 = .ok (.ireturn, 1) := by decide +kernel
theorem dX7_close_0 : decode cX7_close 0 = .ok (.iconst 0, 1) := by decide +kernel
theorem dX7_close_1 : decode cX7_close 1 = .ok (.istore_n 1, 1) := by decide +kernel
theorem dX7_close_2 : decode cX7_close 2 = .ok (.aload_n 0, 1) := by decide +kernel
theorem dX7_close_3 : decode cX7_close 3 = .ok (.invokevirtual 176, 3) := by decide +kernel
theorem dX7_close_6 : decode cX7_close 6 = .ok (.istore_n 2, 1) := by decide +kernel
theorem dX7_close_7 : decode cX7_close 7 = .ok (.iload_n 2, 1) := by decide +kernel
theorem dX7_close_8 : decode cX7_close 8 = .ok (.ifCond .le 109, 3) := by decide +kernel
theorem dX7_close_11 : decode cX7_close 11 = .ok (.sipush 400, 3) := by decide +kernel
theorem dX7_close_14 : decode cX7_close 14 = .ok (.istore_n 3, 1) := by decide +kernel
theorem dX7_close_15 : decode cX7_close 15 = .ok (.iconst 0, 1) := by decide +kernel
theorem dX7_close_16 : decode cX7_close 16 = .ok (.istore 4, 2) := by decide +kernel
theorem dX7_close_18 : decode cX7_close 18 = .ok (.iload 4, 2) := by decide +kernel
theorem dX7_close_20 : decode cX7_close 20 = .ok (.iload_n 2, 1) := by decide +kernel
theorem dX7_close_21 : decode cX7_close 21 = .ok (.if_icmp .ge 46, 3) := by decide +kernel
theorem dX7_close_24 : decode cX7_close 24 = .ok (.aload_n 0, 1) := by decide +kernel
theorem dX7_close_25 : decode cX7_close 25 = .ok (.aload_n 0, 1) := by decide +kernel
theorem dX7_close_26 : decode cX7_close 26 = .ok (.getfield 42, 3) := by decide +kernel
theorem dX7_close_29 : decode cX7_close 29 = .ok (.iload 4, 2) := by decide +kernel
theorem dX7_close_31 : decode cX7_close 31 = .ok (.iaload, 1) := by decide +kernel
theorem dX7_close_32 : decode cX7_close 32 = .ok (.aload_n 0, 1) := by decide +kernel
theorem dX7_close_33 : decode cX7_close 33 = .ok (.getfield 42, 3) := by decide +kernel
theorem dX7_close_36 : decode cX7_close 36 = .ok (.iload 4, 2) := by decide +kernel
theorem dX7_close_38 : decode cX7_close 38 = .ok (.iconst 1, 1) := by decide +kernel
theorem dX7_close_39 : decode cX7_close 39 = .ok (.iadd, 1) := by decide +kernel
theorem dX7_close_40 : decode cX7_close 40 = .ok (.iload_n 2, 1) := by decide +kernel
theorem dX7_close_41 : decode cX7_close 41 = .ok (.irem, 1) := by decide +kernel
theorem dX7_close_42 : decode cX7_close 42 = .ok (.iaload, 1) := by decide +kernel
theorem dX7_close_43 : decode cX7_close 43 = .ok (.invokevirtual 167, 3) := by decide +kernel
theorem dX7_close_46 : decode cX7_close 46 = .ok (.istore 5, 2) := by decide +kernel
theorem dX7_close_48 : decode cX7_close 48 = .ok (.iload 5, 2) := by decide +kernel
theorem dX7_close_50 : decode cX7_close 50 = .ok (.iload_n 3, 1) := by decide +kernel
theorem dX7_close_51 : decode cX7_close 51 = .ok (.if_icmp .ge 8, 3) := by decide +kernel
theorem dX7_close_54 : decode cX7_close 54 = .ok (.iload 5, 2) := by decide +kernel
theorem dX7_close_56 : decode cX7_close 56 = .ok (.goto 4, 3) := by decide +kernel
theorem dX7_close_59 : decode cX7_close 59 = .ok (.iload_n 3, 1) := by decide +kernel
theorem dX7_close_60 : decode cX7_close 60 = .ok (.istore_n 3, 1) := by decide +kernel
theorem dX7_close_61 : decode cX7_close 61 = .ok (.iinc 4 1, 3) := by decide +kernel
theorem dX7_close_64 : decode cX7_close 64 = .ok (.goto (-46), 3) := by decide +kernel
theorem dX7_close_67 : decode cX7_close 67 = .ok (.iconst 0, 1) := by decide +kernel
theorem dX7_close_68 : decode cX7_close 68 = .ok (.istore 4, 2) := by decide +kernel
theorem dX7_close_70 : decode cX7_close 70 = .ok (.iload 4, 2) := by decide +kernel
theorem dX7_close_72 : decode cX7_close 72 = .ok (.iload_n 2, 1) := by decide +kernel
theorem dX7_close_73 : decode cX7_close 73 = .ok (.if_icmp .ge 33, 3) := by decide +kernel
theorem dX7_close_76 : decode cX7_close 76 = .ok (.aload_n 0, 1) := by decide +kernel
theorem dX7_close_77 : decode cX7_close 77 = .ok (.aload_n 0, 1) := by decide +kernel
theorem dX7_close_78 : decode cX7_close 78 = .ok (.getfield 42, 3) := by decide +kernel
theorem dX7_close_81 : decode cX7_close 81 = .ok (.iload 4, 2) := by decide +kernel
theorem dX7_close_83 : decode cX7_close 83 = .ok (.iaload, 1) := by decide +kernel
theorem dX7_close_84 : decode cX7_close 84 = .ok (.aload_n 0, 1) := by decide +kernel
theorem dX7_close_85 : decode cX7_close 85 = .ok (.getfield 42, 3) := by decide +kernel
theorem dX7_close_88 : decode cX7_close 88 = .ok (.iload 4, 2) := by decide +kernel
theorem dX7_close_90 : decode cX7_close 90 = .ok (.iconst 1, 1) := by decide +kernel
theorem dX7_close_91 : decode cX7_close 91 = .ok (.iadd, 1) := by decide +kernel
theorem dX7_close_92 : decode cX7_close 92 = .ok (.iload_n 2, 1) := by decide +kernel
theorem dX7_close_93 : decode cX7_close 93 = .ok (.irem, 1) := by decide +kernel
theorem dX7_close_94 : decode cX7_close 94 = .ok (.iaload, 1) := by decide +kernel
theorem dX7_close_95 : decode cX7_close 95 = .ok (.iload_n 3, 1) := by decide +kernel
theorem dX7_close_96 : decode cX7_close 96 = .ok (.ineg, 1) := by decide +kernel
theorem dX7_close_97 : decode cX7_close 97 = .ok (.invokevirtual 163, 3) := by decide +kernel
theorem dX7_close_100 : decode cX7_close 100 = .ok (.iinc 4 1, 3) := by decide +kernel
theorem dX7_close_103 : decode cX7_close 103 = .ok (.goto (-33), 3) := by decide +kernel
theorem dX7_close_106 : decode cX7_close 106 = .ok (.iinc 1 1, 3) := by decide +kernel
theorem dX7_close_109 : decode cX7_close 109 = .ok (.aload_n 0, 1) := by decide +kernel
theorem dX7_close_110 : decode cX7_close 110 = .ok (.invokevirtual 176, 3) := by decide +kernel
theorem dX7_close_113 : decode cX7_close 113 = .ok (.istore_n 2, 1) := by decide +kernel
theorem dX7_close_114 : decode cX7_close 114 = .ok (.goto (-107), 3) := by decide +kernel
theorem dX7_close_117 : decode cX7_close 117 = .ok (.iload_n 1, 1) := by decide +kernel
theorem dX7_close_118 : decode cX7_close 118 = .ok (.ireturn, 1) := by decide +kernel
theorem dX7_worth_0 : decode cX7_worth 0 = .ok (.aload_n 0, 1) := by decide +kernel
theorem dX7_worth_1 : decode cX7_worth 1 = .ok (.iload_n 1, 1) := by decide +kernel
theorem dX7_worth_2 : decode cX7_worth 2 = .ok (.invokevirtual 160, 3) := by decide +kernel
theorem dX7_worth_5 : decode cX7_worth 5 = .ok (.ifCond .ne 6, 3) := by decide +kernel
theorem dX7_worth_8 : decode cX7_worth 8 = .ok (.ldc 179, 2) := by decide +kernel
theorem dX7_worth_10 : decode cX7_worth 10 = .ok (.ireturn, 1) := by decide +kernel
theorem dX7_worth_11 : decode cX7_worth 11 = .ok (.iconst 0, 1) := by decide +kernel
theorem dX7_worth_12 : decode cX7_worth 12 = .ok (.istore_n 2, 1) := by decide +kernel
theorem dX7_worth_13 : decode cX7_worth 13 = .ok (.iconst 0, 1) := by decide +kernel
theorem dX7_worth_14 : decode cX7_worth 14 = .ok (.istore_n 3, 1) := by decide +kernel
theorem dX7_worth_15 : decode cX7_worth 15 = .ok (.iload_n 3, 1) := by decide +kernel
theorem dX7_worth_16 : decode cX7_worth 16 = .ok (.aload_n 0, 1) := by decide +kernel
theorem dX7_worth_17 : decode cX7_worth 17 = .ok (.getfield 157, 3) := by decide +kernel
theorem dX7_worth_20 : decode cX7_worth 20 = .ok (.if_icmp .ge 23, 3) := by decide +kernel
theorem dX7_worth_23 : decode cX7_worth 23 = .ok (.iload_n 2, 1) := by decide +kernel
theorem dX7_worth_24 : decode cX7_worth 24 = .ok (.aload_n 0, 1) := by decide +kernel
theorem dX7_worth_25 : decode cX7_worth 25 = .ok (.getfield 39, 3) := by decide +kernel
theorem dX7_worth_28 : decode cX7_worth 28 = .ok (.bipush 8, 2) := by decide +kernel
theorem dX7_worth_30 : decode cX7_worth 30 = .ok (.iload_n 1, 1) := by decide +kernel
theorem dX7_worth_31 : decode cX7_worth 31 = .ok (.imul, 1) := by decide +kernel
theorem dX7_worth_32 : decode cX7_worth 32 = .ok (.iload_n 3, 1) := by decide +kernel
theorem dX7_worth_33 : decode cX7_worth 33 = .ok (.iadd, 1) := by decide +kernel
theorem dX7_worth_34 : decode cX7_worth 34 = .ok (.iaload, 1) := by decide +kernel
theorem dX7_worth_35 : decode cX7_worth 35 = .ok (.isub, 1) := by decide +kernel
theorem dX7_worth_36 : decode cX7_worth 36 = .ok (.istore_n 2, 1) := by decide +kernel
theorem dX7_worth_37 : decode cX7_worth 37 = .ok (.iinc 3 1, 3) := by decide +kernel
theorem dX7_worth_40 : decode cX7_worth 40 = .ok (.goto (-25), 3) := by decide +kernel
theorem dX7_worth_43 : decode cX7_worth 43 = .ok (.iload_n 2, 1) := by decide +kernel
theorem dX7_worth_44 : decode cX7_worth 44 = .ok (.ireturn, 1) := by decide +kernel
theorem dX7_isList_0 : decode cX7_isList 0 = .ok (.iload_n 1, 1) := by decide +kernel
theorem dX7_isList_1 : decode cX7_isList 1 = .ok (.iconst 0, 1) := by decide +kernel
theorem dX7_isList_2 : decode cX7_isList 2 = .ok (.aload_n 0, 1) := by decide +kernel
theorem dX7_isList_3 : decode cX7_isList 3 = .ok (.getfield 180, 3) := by decide +kernel
theorem dX7_isList_6 : decode cX7_isList 6 = .ok (.iconst 1, 1) := by decide +kernel
theorem dX7_isList_7 : decode cX7_isList 7 = .ok (.isub, 1) := by decide +kernel
theorem dX7_isList_8 : decode cX7_isList 8 = .ok (.invokestatic 75, 3) := by decide +kernel
theorem dX7_isList_11 : decode cX7_isList 11 = .ok (.ireturn, 1) := by decide +kernel
theorem dX7_list_0 : decode cX7_list 0 = .ok (.iload_n 1, 1) := by decide +kernel
theorem dX7_list_1 : decode cX7_list 1 = .ok (.invokestatic 82, 3) := by decide +kernel
theorem dX7_list_4 : decode cX7_list 4 = .ok (.ifCond .eq 24, 3) := by decide +kernel
theorem dX7_list_7 : decode cX7_list 7 = .ok (.iload_n 2, 1) := by decide +kernel
theorem dX7_list_8 : decode cX7_list 8 = .ok (.iconst 0, 1) := by decide +kernel
theorem dX7_list_9 : decode cX7_list 9 = .ok (.bipush 30, 2) := by decide +kernel
theorem dX7_list_11 : decode cX7_list 11 = .ok (.invokestatic 75, 3) := by decide +kernel
theorem dX7_list_14 : decode cX7_list 14 = .ok (.ifCond .eq 14, 3) := by decide +kernel
theorem dX7_list_17 : decode cX7_list 17 = .ok (.iload_n 3, 1) := by decide +kernel
theorem dX7_list_18 : decode cX7_list 18 = .ok (.iconst 0, 1) := by decide +kernel
theorem dX7_list_19 : decode cX7_list 19 = .ok (.sipush 3000, 3) := by decide +kernel
theorem dX7_list_22 : decode cX7_list 22 = .ok (.invokestatic 75, 3) := by decide +kernel
theorem dX7_list_25 : decode cX7_list 25 = .ok (.ifCond .ne 6, 3) := by decide +kernel
theorem dX7_list_28 : decode cX7_list 28 = .ok (.bipush (-2), 2) := by decide +kernel
theorem dX7_list_30 : decode cX7_list 30 = .ok (.ireturn, 1) := by decide +kernel
theorem dX7_list_31 : decode cX7_list 31 = .ok (.aload_n 0, 1) := by decide +kernel
theorem dX7_list_32 : decode cX7_list 32 = .ok (.getfield 60, 3) := by decide +kernel
theorem dX7_list_35 : decode cX7_list 35 = .ok (.iload_n 1, 1) := by decide +kernel
theorem dX7_list_36 : decode cX7_list 36 = .ok (.baload, 1) := by decide +kernel
theorem dX7_list_37 : decode cX7_list 37 = .ok (.ifCond .ne 9, 3) := by decide +kernel
theorem dX7_list_40 : decode cX7_list 40 = .ok (.aload_n 0, 1) := by decide +kernel
theorem dX7_list_41 : decode cX7_list 41 = .ok (.iconst 1, 1) := by decide +kernel
theorem dX7_list_42 : decode cX7_list 42 = .ok (.invokevirtual 86, 3) := by decide +kernel
theorem dX7_list_45 : decode cX7_list 45 = .ok (.ireturn, 1) := by decide +kernel
theorem dX7_list_46 : decode cX7_list 46 = .ok (.aload_n 0, 1) := by decide +kernel
theorem dX7_list_47 : decode cX7_list 47 = .ok (.getfield 66, 3) := by decide +kernel
theorem dX7_list_50 : decode cX7_list 50 = .ok (.iload_n 1, 1) := by decide +kernel
theorem dX7_list_51 : decode cX7_list 51 = .ok (.iaload, 1) := by decide +kernel
theorem dX7_list_52 : decode cX7_list 52 = .ok (.iload_n 2, 1) := by decide +kernel
theorem dX7_list_53 : decode cX7_list 53 = .ok (.if_icmp .ge 9, 3) := by decide +kernel
theorem dX7_list_56 : decode cX7_list 56 = .ok (.aload_n 0, 1) := by decide +kernel
theorem dX7_list_57 : decode cX7_list 57 = .ok (.iconst 2, 1) := by decide +kernel
theorem dX7_list_58 : decode cX7_list 58 = .ok (.invokevirtual 86, 3) := by decide +kernel
theorem dX7_list_61 : decode cX7_list 61 = .ok (.ireturn, 1) := by decide +kernel
theorem dX7_list_62 : decode cX7_list 62 = .ok (.aload_n 0, 1) := by decide +kernel
theorem dX7_list_63 : decode cX7_list 63 = .ok (.getfield 180, 3) := by decide +kernel
theorem dX7_list_66 : decode cX7_list 66 = .ok (.bipush 8, 2) := by decide +kernel
theorem dX7_list_68 : decode cX7_list 68 = .ok (.if_icmp .ne 6, 3) := by decide +kernel
theorem dX7_list_71 : decode cX7_list 71 = .ok (.bipush (-4), 2) := by decide +kernel
theorem dX7_list_73 : decode cX7_list 73 = .ok (.ireturn, 1) := by decide +kernel
theorem dX7_list_74 : decode cX7_list 74 = .ok (.iconst 0, 1) := by decide +kernel
theorem dX7_list_75 : decode cX7_list 75 = .ok (.istore 4, 2) := by decide +kernel
theorem dX7_list_77 : decode cX7_list 77 = .ok (.iload 4, 2) := by decide +kernel
theorem dX7_list_79 : decode cX7_list 79 = .ok (.iload_n 2, 1) := by decide +kernel
theorem dX7_list_80 : decode cX7_list 80 = .ok (.if_icmp .ge 52, 3) := by decide +kernel
theorem dX7_list_83 : decode cX7_list 83 = .ok (.aload_n 0, 1) := by decide +kernel
theorem dX7_list_84 : decode cX7_list 84 = .ok (.getfield 69, 3) := by decide +kernel
theorem dX7_list_87 : decode cX7_list 87 = .ok (.bipush 60, 2) := by decide +kernel
theorem dX7_list_89 : decode cX7_list 89 = .ok (.iload_n 1, 1) := by decide +kernel
theorem dX7_list_90 : decode cX7_list 90 = .ok (.imul, 1) := by decide +kernel
theorem dX7_list_91 : decode cX7_list 91 = .ok (.iload 4, 2) := by decide +kernel
theorem dX7_list_93 : decode cX7_list 93 = .ok (.iadd, 1) := by decide +kernel
theorem dX7_list_94 : decode cX7_list 94 = .ok (.iaload, 1) := by decide +kernel
theorem dX7_list_95 : decode cX7_list 95 = .ok (.istore 5, 2) := by decide +kernel
theorem dX7_list_97 : decode cX7_list 97 = .ok (.aload_n 0, 1) := by decide +kernel
theorem dX7_list_98 : decode cX7_list 98 = .ok (.getfield 51, 3) := by decide +kernel
theorem dX7_list_101 : decode cX7_list 101 = .ok (.bipush 30, 2) := by decide +kernel
theorem dX7_list_103 : decode cX7_list 103 = .ok (.aload_n 0, 1) := by decide +kernel
theorem dX7_list_104 : decode cX7_list 104 = .ok (.getfield 180, 3) := by decide +kernel
theorem dX7_list_107 : decode cX7_list 107 = .ok (.imul, 1) := by decide +kernel
theorem dX7_list_108 : decode cX7_list 108 = .ok (.iload 4, 2) := by decide +kernel
theorem dX7_list_110 : decode cX7_list 110 = .ok (.iadd, 1) := by decide +kernel
theorem dX7_list_111 : decode cX7_list 111 = .ok (.iload 5, 2) := by decide +kernel
theorem dX7_list_113 : decode cX7_list 113 = .ok (.invokestatic 90, 3) := by decide +kernel
theorem dX7_list_116 : decode cX7_list 116 = .ok (.ifCond .eq 8, 3) := by decide +kernel
theorem dX7_list_119 : decode cX7_list 119 = .ok (.iload 5, 2) := by decide +kernel
theorem dX7_list_121 : decode cX7_list 121 = .ok (.goto 4, 3) := by decide +kernel
theorem dX7_list_124 : decode cX7_list 124 = .ok (.iconst (-1), 1) := by decide +kernel
theorem dX7_list_125 : decode cX7_list 125 = .ok (.iastore, 1) := by decide +kernel
theorem dX7_list_126 : decode cX7_list 126 = .ok (.iinc 4 1, 3) := by decide +kernel
theorem dX7_list_129 : decode cX7_list 129 = .ok (.goto (-52), 3) := by decide +kernel
theorem dX7_list_132 : decode cX7_list 132 = .ok (.aload_n 0, 1) := by decide +kernel
theorem dX7_list_133 : decode cX7_list 133 = .ok (.getfield 45, 3) := by decide +kernel
theorem dX7_list_136 : decode cX7_list 136 = .ok (.aload_n 0, 1) := by decide +kernel
theorem dX7_list_137 : decode cX7_list 137 = .ok (.getfield 180, 3) := by decide +kernel
theorem dX7_list_140 : decode cX7_list 140 = .ok (.iload_n 2, 1) := by decide +kernel
theorem dX7_list_141 : decode cX7_list 141 = .ok (.iastore, 1) := by decide +kernel
theorem dX7_list_142 : decode cX7_list 142 = .ok (.aload_n 0, 1) := by decide +kernel
theorem dX7_list_143 : decode cX7_list 143 = .ok (.getfield 48, 3) := by decide +kernel
theorem dX7_list_146 : decode cX7_list 146 = .ok (.aload_n 0, 1) := by decide +kernel
theorem dX7_list_147 : decode cX7_list 147 = .ok (.getfield 180, 3) := by decide +kernel
theorem dX7_list_150 : decode cX7_list 150 = .ok (.iload_n 3, 1) := by decide +kernel
theorem dX7_list_151 : decode cX7_list 151 = .ok (.iastore, 1) := by decide +kernel
theorem dX7_list_152 : decode cX7_list 152 = .ok (.aload_n 0, 1) := by decide +kernel
theorem dX7_list_153 : decode cX7_list 153 = .ok (.dup, 1) := by decide +kernel
theorem dX7_list_154 : decode cX7_list 154 = .ok (.getfield 180, 3) := by decide +kernel
theorem dX7_list_157 : decode cX7_list 157 = .ok (.iconst 1, 1) := by decide +kernel
theorem dX7_list_158 : decode cX7_list 158 = .ok (.iadd, 1) := by decide +kernel
theorem dX7_list_159 : decode cX7_list 159 = .ok (.putfield 180, 3) := by decide +kernel
theorem dX7_list_162 : decode cX7_list 162 = .ok (.aload_n 0, 1) := by decide +kernel
theorem dX7_list_163 : decode cX7_list 163 = .ok (.getfield 180, 3) := by decide +kernel
theorem dX7_list_166 : decode cX7_list 166 = .ok (.iconst 1, 1) := by decide +kernel
theorem dX7_list_167 : decode cX7_list 167 = .ok (.isub, 1) := by decide +kernel
theorem dX7_list_168 : decode cX7_list 168 = .ok (.ireturn, 1) := by decide +kernel
theorem dX7_word_0 : decode cX7_word 0 = .ok (.aload_n 0, 1) := by decide +kernel
theorem dX7_word_1 : decode cX7_word 1 = .ok (.iload_n 1, 1) := by decide +kernel
theorem dX7_word_2 : decode cX7_word 2 = .ok (.invokevirtual 183, 3) := by decide +kernel
theorem dX7_word_5 : decode cX7_word 5 = .ok (.ifCond .eq 33, 3) := by decide +kernel
theorem dX7_word_8 : decode cX7_word 8 = .ok (.iload_n 2, 1) := by decide +kernel
theorem dX7_word_9 : decode cX7_word 9 = .ok (.iconst 0, 1) := by decide +kernel
theorem dX7_word_10 : decode cX7_word 10 = .ok (.aload_n 0, 1) := by decide +kernel
theorem dX7_word_11 : decode cX7_word 11 = .ok (.getfield 45, 3) := by decide +kernel
theorem dX7_word_14 : decode cX7_word 14 = .ok (.iload_n 1, 1) := by decide +kernel
theorem dX7_word_15 : decode cX7_word 15 = .ok (.iaload, 1) := by decide +kernel
theorem dX7_word_16 : decode cX7_word 16 = .ok (.iconst 1, 1) := by decide +kernel
theorem dX7_word_17 : decode cX7_word 17 = .ok (.isub, 1) := by decide +kernel
theorem dX7_word_18 : decode cX7_word 18 = .ok (.invokestatic 75, 3) := by decide +kernel
theorem dX7_word_21 : decode cX7_word 21 = .ok (.ifCond .eq 17, 3) := by decide +kernel
theorem dX7_word_24 : decode cX7_word 24 = .ok (.aload_n 0, 1) := by decide +kernel
theorem dX7_word_25 : decode cX7_word 25 = .ok (.getfield 51, 3) := by decide +kernel
theorem dX7_word_28 : decode cX7_word 28 = .ok (.bipush 30, 2) := by decide +kernel
theorem dX7_word_30 : decode cX7_word 30 = .ok (.iload_n 1, 1) := by decide +kernel
theorem dX7_word_31 : decode cX7_word 31 = .ok (.imul, 1) := by decide +kernel
theorem dX7_word_32 : decode cX7_word 32 = .ok (.iload_n 2, 1) := by decide +kernel
theorem dX7_word_33 : decode cX7_word 33 = .ok (.iadd, 1) := by decide +kernel
theorem dX7_word_34 : decode cX7_word 34 = .ok (.iaload, 1) := by decide +kernel
theorem dX7_word_35 : decode cX7_word 35 = .ok (.goto 5, 3) := by decide +kernel
theorem dX7_word_38 : decode cX7_word 38 = .ok (.bipush (-2), 2) := by decide +kernel
theorem dX7_word_40 : decode cX7_word 40 = .ok (.ireturn, 1) := by decide +kernel
theorem dX7_tens_0 : decode cX7_tens 0 = .ok (.iconst 0, 1) := by decide +kernel
theorem dX7_tens_1 : decode cX7_tens 1 = .ok (.istore_n 3, 1) := by decide +kernel
theorem dX7_tens_2 : decode cX7_tens 2 = .ok (.bipush 10, 2) := by decide +kernel
theorem dX7_tens_4 : decode cX7_tens 4 = .ok (.istore 4, 2) := by decide +kernel
theorem dX7_tens_6 : decode cX7_tens 6 = .ok (.iload 4, 2) := by decide +kernel
theorem dX7_tens_8 : decode cX7_tens 8 = .ok (.aload_n 0, 1) := by decide +kernel
theorem dX7_tens_9 : decode cX7_tens 9 = .ok (.getfield 45, 3) := by decide +kernel
theorem dX7_tens_12 : decode cX7_tens 12 = .ok (.iload_n 1, 1) := by decide +kernel
theorem dX7_tens_13 : decode cX7_tens 13 = .ok (.iaload, 1) := by decide +kernel
theorem dX7_tens_14 : decode cX7_tens 14 = .ok (.if_icmp .ge 83, 3) := by decide +kernel
theorem dX7_tens_17 : decode cX7_tens 17 = .ok (.aload_n 0, 1) := by decide +kernel
theorem dX7_tens_18 : decode cX7_tens 18 = .ok (.getfield 51, 3) := by decide +kernel
theorem dX7_tens_21 : decode cX7_tens 21 = .ok (.bipush 30, 2) := by decide +kernel
theorem dX7_tens_23 : decode cX7_tens 23 = .ok (.iload_n 1, 1) := by decide +kernel
theorem dX7_tens_24 : decode cX7_tens 24 = .ok (.imul, 1) := by decide +kernel
theorem dX7_tens_25 : decode cX7_tens 25 = .ok (.iload 4, 2) := by decide +kernel
theorem dX7_tens_27 : decode cX7_tens 27 = .ok (.iadd, 1) := by decide +kernel
theorem dX7_tens_28 : decode cX7_tens 28 = .ok (.iaload, 1) := by decide +kernel
theorem dX7_tens_29 : decode cX7_tens 29 = .ok (.istore 5, 2) := by decide +kernel
theorem dX7_tens_31 : decode cX7_tens 31 = .ok (.aload_n 0, 1) := by decide +kernel
theorem dX7_tens_32 : decode cX7_tens 32 = .ok (.getfield 51, 3) := by decide +kernel
theorem dX7_tens_35 : decode cX7_tens 35 = .ok (.bipush 30, 2) := by decide +kernel
theorem dX7_tens_37 : decode cX7_tens 37 = .ok (.iload_n 1, 1) := by decide +kernel
theorem dX7_tens_38 : decode cX7_tens 38 = .ok (.imul, 1) := by decide +kernel
theorem dX7_tens_39 : decode cX7_tens 39 = .ok (.iload 4, 2) := by decide +kernel
theorem dX7_tens_41 : decode cX7_tens 41 = .ok (.bipush 10, 2) := by decide +kernel
theorem dX7_tens_43 : decode cX7_tens 43 = .ok (.irem, 1) := by decide +kernel
theorem dX7_tens_44 : decode cX7_tens 44 = .ok (.iadd, 1) := by decide +kernel
theorem dX7_tens_45 : decode cX7_tens 45 = .ok (.iaload, 1) := by decide +kernel
theorem dX7_tens_46 : decode cX7_tens 46 = .ok (.istore 6, 2) := by decide +kernel
theorem dX7_tens_48 : decode cX7_tens 48 = .ok (.iload 5, 2) := by decide +kernel
theorem dX7_tens_50 : decode cX7_tens 50 = .ok (.iconst (-1), 1) := by decide +kernel
theorem dX7_tens_51 : decode cX7_tens 51 = .ok (.if_icmp .eq 13, 3) := by decide +kernel
theorem dX7_tens_54 : decode cX7_tens 54 = .ok (.iload 6, 2) := by decide +kernel
theorem dX7_tens_56 : decode cX7_tens 56 = .ok (.iconst (-1), 1) := by decide +kernel
theorem dX7_tens_57 : decode cX7_tens 57 = .ok (.if_icmp .eq 7, 3) := by decide +kernel
theorem dX7_tens_60 : decode cX7_tens 60 = .ok (.iconst 1, 1) := by decide +kernel
theorem dX7_tens_61 : decode cX7_tens 61 = .ok (.goto 4, 3) := by decide +kernel
theorem dX7_tens_64 : decode cX7_tens 64 = .ok (.iconst 0, 1) := by decide +kernel
theorem dX7_tens_65 : decode cX7_tens 65 = .ok (.istore 7, 2) := by decide +kernel
theorem dX7_tens_67 : decode cX7_tens 67 = .ok (.iload_n 3, 1) := by decide +kernel
theorem dX7_tens_68 : decode cX7_tens 68 = .ok (.iload 7, 2) := by decide +kernel
theorem dX7_tens_70 : decode cX7_tens 70 = .ok (.ifCond .eq 18, 3) := by decide +kernel
theorem dX7_tens_73 : decode cX7_tens 73 = .ok (.iload_n 2, 1) := by decide +kernel
theorem dX7_tens_74 : decode cX7_tens 74 = .ok (.ifCond .eq 10, 3) := by decide +kernel
theorem dX7_tens_77 : decode cX7_tens 77 = .ok (.iload 5, 2) := by decide +kernel
theorem dX7_tens_79 : decode cX7_tens 79 = .ok (.iload 6, 2) := by decide +kernel
theorem dX7_tens_81 : decode cX7_tens 81 = .ok (.if_icmp .ne 7, 3) := by decide +kernel
theorem dX7_tens_84 : decode cX7_tens 84 = .ok (.iconst 1, 1) := by decide +kernel
theorem dX7_tens_85 : decode cX7_tens 85 = .ok (.goto 4, 3) := by decide +kernel
theorem dX7_tens_88 : decode cX7_tens 88 = .ok (.iconst 0, 1) := by decide +kernel
theorem dX7_tens_89 : decode cX7_tens 89 = .ok (.iadd, 1) := by decide +kernel
theorem dX7_tens_90 : decode cX7_tens 90 = .ok (.istore_n 3, 1) := by decide +kernel
theorem dX7_tens_91 : decode cX7_tens 91 = .ok (.iinc 4 1, 3) := by decide +kernel
theorem dX7_tens_94 : decode cX7_tens 94 = .ok (.goto (-88), 3) := by decide +kernel
theorem dX7_tens_97 : decode cX7_tens 97 = .ok (.iload_n 3, 1) := by decide +kernel
theorem dX7_tens_98 : decode cX7_tens 98 = .ok (.ireturn, 1) := by decide +kernel
theorem dX7_listOf_0 : decode cX7_listOf 0 = .ok (.iconst 0, 1) := by decide +kernel
theorem dX7_listOf_1 : decode cX7_listOf 1 = .ok (.istore_n 3, 1) := by decide +kernel
theorem dX7_listOf_2 : decode cX7_listOf 2 = .ok (.iload_n 2, 1) := by decide +kernel
theorem dX7_listOf_3 : decode cX7_listOf 3 = .ok (.tableswitch 132 0 4 #[33, 40, 47, 93, 100], 33) := by decide +kernel
theorem dX7_listOf_36 : decode cX7_listOf 36 = .ok (.aload_n 0, 1) := by decide +kernel
theorem dX7_listOf_37 : decode cX7_listOf 37 = .ok (.getfield 45, 3) := by decide +kernel
theorem dX7_listOf_40 : decode cX7_listOf 40 = .ok (.iload_n 1, 1) := by decide +kernel
theorem dX7_listOf_41 : decode cX7_listOf 41 = .ok (.iaload, 1) := by decide +kernel
theorem dX7_listOf_42 : decode cX7_listOf 42 = .ok (.ireturn, 1) := by decide +kernel
theorem dX7_listOf_43 : decode cX7_listOf 43 = .ok (.aload_n 0, 1) := by decide +kernel
theorem dX7_listOf_44 : decode cX7_listOf 44 = .ok (.getfield 48, 3) := by decide +kernel
theorem dX7_listOf_47 : decode cX7_listOf 47 = .ok (.iload_n 1, 1) := by decide +kernel
theorem dX7_listOf_48 : decode cX7_listOf 48 = .ok (.iaload, 1) := by decide +kernel
theorem dX7_listOf_49 : decode cX7_listOf 49 = .ok (.ireturn, 1) := by decide +kernel
theorem dX7_listOf_50 : decode cX7_listOf 50 = .ok (.iconst 0, 1) := by decide +kernel
theorem dX7_listOf_51 : decode cX7_listOf 51 = .ok (.istore 4, 2) := by decide +kernel
theorem dX7_listOf_53 : decode cX7_listOf 53 = .ok (.iload 4, 2) := by decide +kernel
theorem dX7_listOf_55 : decode cX7_listOf 55 = .ok (.aload_n 0, 1) := by decide +kernel
theorem dX7_listOf_56 : decode cX7_listOf 56 = .ok (.getfield 45, 3) := by decide +kernel
theorem dX7_listOf_59 : decode cX7_listOf 59 = .ok (.iload_n 1, 1) := by decide +kernel
theorem dX7_listOf_60 : decode cX7_listOf 60 = .ok (.iaload, 1) := by decide +kernel
theorem dX7_listOf_61 : decode cX7_listOf 61 = .ok (.if_icmp .ge 33, 3) := by decide +kernel
theorem dX7_listOf_64 : decode cX7_listOf 64 = .ok (.iload_n 3, 1) := by decide +kernel
theorem dX7_listOf_65 : decode cX7_listOf 65 = .ok (.aload_n 0, 1) := by decide +kernel
theorem dX7_listOf_66 : decode cX7_listOf 66 = .ok (.getfield 51, 3) := by decide +kernel
theorem dX7_listOf_69 : decode cX7_listOf 69 = .ok (.bipush 30, 2) := by decide +kernel
theorem dX7_listOf_71 : decode cX7_listOf 71 = .ok (.iload_n 1, 1) := by decide +kernel
theorem dX7_listOf_72 : decode cX7_listOf 72 = .ok (.imul, 1) := by decide +kernel
theorem dX7_listOf_73 : decode cX7_listOf 73 = .ok (.iload 4, 2) := by decide +kernel
theorem dX7_listOf_75 : decode cX7_listOf 75 = .ok (.iadd, 1) := by decide +kernel
theorem dX7_listOf_76 : decode cX7_listOf 76 = .ok (.iaload, 1) := by decide +kernel
theorem dX7_listOf_77 : decode cX7_listOf 77 = .ok (.iconst (-1), 1) := by decide +kernel
theorem dX7_listOf_78 : decode cX7_listOf 78 = .ok (.if_icmp .ne 7, 3) := by decide +kernel
theorem dX7_listOf_81 : decode cX7_listOf 81 = .ok (.iconst 1, 1) := by decide +kernel
theorem dX7_listOf_82 : decode cX7_listOf 82 = .ok (.goto 4, 3) := by decide +kernel
theorem dX7_listOf_85 : decode cX7_listOf 85 = .ok (.iconst 0, 1) := by decide +kernel
theorem dX7_listOf_86 : decode cX7_listOf 86 = .ok (.iadd, 1) := by decide +kernel
theorem dX7_listOf_87 : decode cX7_listOf 87 = .ok (.istore_n 3, 1) := by decide +kernel
theorem dX7_listOf_88 : decode cX7_listOf 88 = .ok (.iinc 4 1, 3) := by decide +kernel
theorem dX7_listOf_91 : decode cX7_listOf 91 = .ok (.goto (-38), 3) := by decide +kernel
theorem dX7_listOf_94 : decode cX7_listOf 94 = .ok (.iload_n 3, 1) := by decide +kernel
theorem dX7_listOf_95 : decode cX7_listOf 95 = .ok (.ireturn, 1) := by decide +kernel
theorem dX7_listOf_96 : decode cX7_listOf 96 = .ok (.aload_n 0, 1) := by decide +kernel
theorem dX7_listOf_97 : decode cX7_listOf 97 = .ok (.iload_n 1, 1) := by decide +kernel
theorem dX7_listOf_98 : decode cX7_listOf 98 = .ok (.iconst 1, 1) := by decide +kernel
theorem dX7_listOf_99 : decode cX7_listOf 99 = .ok (.invokevirtual 186, 3) := by decide +kernel
theorem dX7_listOf_102 : decode cX7_listOf 102 = .ok (.ireturn, 1) := by decide +kernel
theorem dX7_listOf_103 : decode cX7_listOf 103 = .ok (.aload_n 0, 1) := by decide +kernel
theorem dX7_listOf_104 : decode cX7_listOf 104 = .ok (.iload_n 1, 1) := by decide +kernel
theorem dX7_listOf_105 : decode cX7_listOf 105 = .ok (.iconst 1, 1) := by decide +kernel
theorem dX7_listOf_106 : decode cX7_listOf 106 = .ok (.invokevirtual 186, 3) := by decide +kernel
theorem dX7_listOf_109 : decode cX7_listOf 109 = .ok (.ifCond .le 24, 3) := by decide +kernel
theorem dX7_listOf_112 : decode cX7_listOf 112 = .ok (.iconst 2, 1) := by decide +kernel
theorem dX7_listOf_113 : decode cX7_listOf 113 = .ok (.aload_n 0, 1) := by decide +kernel
theorem dX7_listOf_114 : decode cX7_listOf 114 = .ok (.iload_n 1, 1) := by decide +kernel
theorem dX7_listOf_115 : decode cX7_listOf 115 = .ok (.iconst 1, 1) := by decide +kernel
theorem dX7_listOf_116 : decode cX7_listOf 116 = .ok (.invokevirtual 186, 3) := by decide +kernel
theorem dX7_listOf_119 : decode cX7_listOf 119 = .ok (.imul, 1) := by decide +kernel
theorem dX7_listOf_120 : decode cX7_listOf 120 = .ok (.aload_n 0, 1) := by decide +kernel
theorem dX7_listOf_121 : decode cX7_listOf 121 = .ok (.iload_n 1, 1) := by decide +kernel
theorem dX7_listOf_122 : decode cX7_listOf 122 = .ok (.iconst 0, 1) := by decide +kernel
theorem dX7_listOf_123 : decode cX7_listOf 123 = .ok (.invokevirtual 186, 3) := by decide +kernel
theorem dX7_listOf_126 : decode cX7_listOf 126 = .ok (.if_icmp .lt 7, 3) := by decide +kernel
theorem dX7_listOf_129 : decode cX7_listOf 129 = .ok (.iconst 1, 1) := by decide +kernel
theorem dX7_listOf_130 : decode cX7_listOf 130 = .ok (.goto 4, 3) := by decide +kernel
theorem dX7_listOf_133 : decode cX7_listOf 133 = .ok (.iconst 0, 1) := by decide +kernel
theorem dX7_listOf_134 : decode cX7_listOf 134 = .ok (.ireturn, 1) := by decide +kernel
theorem dX7_listOf_135 : decode cX7_listOf 135 = .ok (.bipush (-2), 2) := by decide +kernel
theorem dX7_listOf_137 : decode cX7_listOf 137 = .ok (.ireturn, 1) := by decide +kernel
theorem dX7_listIs_0 : decode cX7_listIs 0 = .ok (.aload_n 0, 1) := by decide +kernel
theorem dX7_listIs_1 : decode cX7_listIs 1 = .ok (.iload_n 1, 1) := by decide +kernel
theorem dX7_listIs_2 : decode cX7_listIs 2 = .ok (.invokevirtual 183, 3) := by decide +kernel
theorem dX7_listIs_5 : decode cX7_listIs 5 = .ok (.ifCond .eq 12, 3) := by decide +kernel
theorem dX7_listIs_8 : decode cX7_listIs 8 = .ok (.aload_n 0, 1) := by decide +kernel
theorem dX7_listIs_9 : decode cX7_listIs 9 = .ok (.iload_n 1, 1) := by decide +kernel
theorem dX7_listIs_10 : decode cX7_listIs 10 = .ok (.iload_n 2, 1) := by decide +kernel
theorem dX7_listIs_11 : decode cX7_listIs 11 = .ok (.invokevirtual 189, 3) := by decide +kernel
theorem dX7_listIs_14 : decode cX7_listIs 14 = .ok (.goto 5, 3) := by decide +kernel
theorem dX7_listIs_17 : decode cX7_listIs 17 = .ok (.bipush (-2), 2) := by decide +kernel
theorem dX7_listIs_19 : decode cX7_listIs 19 = .ok (.ireturn, 1) := by decide +kernel
theorem dX7_changesOf_0 : decode cX7_changesOf 0 = .ok (.iconst 0, 1) := by decide +kernel
theorem dX7_changesOf_1 : decode cX7_changesOf 1 = .ok (.istore_n 3, 1) := by decide +kernel
theorem dX7_changesOf_2 : decode cX7_changesOf 2 = .ok (.iload_n 3, 1) := by decide +kernel
theorem dX7_changesOf_3 : decode cX7_changesOf 3 = .ok (.aload_n 0, 1) := by decide +kernel
theorem dX7_changesOf_4 : decode cX7_changesOf 4 = .ok (.getfield 45, 3) := by decide +kernel
theorem dX7_changesOf_7 : decode cX7_changesOf 7 = .ok (.iload_n 1, 1) := by decide +kernel
theorem dX7_changesOf_8 : decode cX7_changesOf 8 = .ok (.iaload, 1) := by decide +kernel
theorem dX7_changesOf_9 : decode cX7_changesOf 9 = .ok (.if_icmp .gt 206, 3) := by decide +kernel
theorem dX7_changesOf_12 : decode cX7_changesOf 12 = .ok (.iconst 0, 1) := by decide +kernel
theorem dX7_changesOf_13 : decode cX7_changesOf 13 = .ok (.istore 4, 2) := by decide +kernel
theorem dX7_changesOf_15 : decode cX7_changesOf 15 = .ok (.iload 4, 2) := by decide +kernel
theorem dX7_changesOf_17 : decode cX7_changesOf 17 = .ok (.aload_n 0, 1) := by decide +kernel
theorem dX7_changesOf_18 : decode cX7_changesOf 18 = .ok (.getfield 45, 3) := by decide +kernel
theorem dX7_changesOf_21 : decode cX7_changesOf 21 = .ok (.iload_n 2, 1) := by decide +kernel
theorem dX7_changesOf_22 : decode cX7_changesOf 22 = .ok (.iaload, 1) := by decide +kernel
theorem dX7_changesOf_23 : decode cX7_changesOf 23 = .ok (.if_icmp .gt 186, 3) := by decide +kernel
theorem dX7_changesOf_26 : decode cX7_changesOf 26 = .ok (.iconst 2, 1) := by decide +kernel
theorem dX7_changesOf_27 : decode cX7_changesOf 27 = .ok (.iload_n 3, 1) := by decide +kernel
theorem dX7_changesOf_28 : decode cX7_changesOf 28 = .ok (.iload 4, 2) := by decide +kernel
theorem dX7_changesOf_30 : decode cX7_changesOf 30 = .ok (.iadd, 1) := by decide +kernel
theorem dX7_changesOf_31 : decode cX7_changesOf 31 = .ok (.imul, 1) := by decide +kernel
theorem dX7_changesOf_32 : decode cX7_changesOf 32 = .ok (.istore 5, 2) := by decide +kernel
theorem dX7_changesOf_34 : decode cX7_changesOf 34 = .ok (.iload_n 3, 1) := by decide +kernel
theorem dX7_changesOf_35 : decode cX7_changesOf 35 = .ok (.ifCond .le 154, 3) := by decide +kernel
theorem dX7_changesOf_38 : decode cX7_changesOf 38 = .ok (.iload 4, 2) := by decide +kernel
theorem dX7_changesOf_40 : decode cX7_changesOf 40 = .ok (.ifCond .le 149, 3) := by decide +kernel
theorem dX7_changesOf_43 : decode cX7_changesOf 43 = .ok (.aload_n 0, 1) := by decide +kernel
theorem dX7_changesOf_44 : decode cX7_changesOf 44 = .ok (.getfield 51, 3) := by decide +kernel
theorem dX7_changesOf_47 : decode cX7_changesOf 47 = .ok (.bipush 30, 2) := by decide +kernel
theorem dX7_changesOf_49 : decode cX7_changesOf 49 = .ok (.iload_n 1, 1) := by decide +kernel
theorem dX7_changesOf_50 : decode cX7_changesOf 50 = .ok (.imul, 1) := by decide +kernel
theorem dX7_changesOf_51 : decode cX7_changesOf 51 = .ok (.iload_n 3, 1) := by decide +kernel
theorem dX7_changesOf_52 : decode cX7_changesOf 52 = .ok (.iadd, 1) := by decide +kernel
theorem dX7_changesOf_53 : decode cX7_changesOf 53 = .ok (.iconst 1, 1) := by decide +kernel
theorem dX7_changesOf_54 : decode cX7_changesOf 54 = .ok (.isub, 1) := by decide +kernel
theorem dX7_changesOf_55 : decode cX7_changesOf 55 = .ok (.iaload, 1) := by decide +kernel
theorem dX7_changesOf_56 : decode cX7_changesOf 56 = .ok (.istore 6, 2) := by decide +kernel
theorem dX7_changesOf_58 : decode cX7_changesOf 58 = .ok (.aload_n 0, 1) := by decide +kernel
theorem dX7_changesOf_59 : decode cX7_changesOf 59 = .ok (.getfield 51, 3) := by decide +kernel
theorem dX7_changesOf_62 : decode cX7_changesOf 62 = .ok (.bipush 30, 2) := by decide +kernel
theorem dX7_changesOf_64 : decode cX7_changesOf 64 = .ok (.iload_n 2, 1) := by decide +kernel
theorem dX7_changesOf_65 : decode cX7_changesOf 65 = .ok (.imul, 1) := by decide +kernel
theorem dX7_changesOf_66 : decode cX7_changesOf 66 = .ok (.iload 4, 2) := by decide +kernel
theorem dX7_changesOf_68 : decode cX7_changesOf 68 = .ok (.iadd, 1) := by decide +kernel
theorem dX7_changesOf_69 : decode cX7_changesOf 69 = .ok (.iconst 1, 1) := by decide +kernel
theorem dX7_changesOf_70 : decode cX7_changesOf 70 = .ok (.isub, 1) := by decide +kernel
theorem dX7_changesOf_71 : decode cX7_changesOf 71 = .ok (.iaload, 1) := by decide +kernel
theorem dX7_changesOf_72 : decode cX7_changesOf 72 = .ok (.istore 7, 2) := by decide +kernel
theorem dX7_changesOf_74 : decode cX7_changesOf 74 = .ok (.aload_n 0, 1) := by decide +kernel
theorem dX7_changesOf_75 : decode cX7_changesOf 75 = .ok (.getfield 54, 3) := by decide +kernel
theorem dX7_changesOf_78 : decode cX7_changesOf 78 = .ok (.bipush 31, 2) := by decide +kernel
theorem dX7_changesOf_80 : decode cX7_changesOf 80 = .ok (.iload_n 3, 1) := by decide +kernel
theorem dX7_changesOf_81 : decode cX7_changesOf 81 = .ok (.iconst 1, 1) := by decide +kernel
theorem dX7_changesOf_82 : decode cX7_changesOf 82 = .ok (.isub, 1) := by decide +kernel
theorem dX7_changesOf_83 : decode cX7_changesOf 83 = .ok (.imul, 1) := by decide +kernel
theorem dX7_changesOf_84 : decode cX7_changesOf 84 = .ok (.iload 4, 2) := by decide +kernel
theorem dX7_changesOf_86 : decode cX7_changesOf 86 = .ok (.iadd, 1) := by decide +kernel
theorem dX7_changesOf_87 : decode cX7_changesOf 87 = .ok (.iconst 1, 1) := by decide +kernel
theorem dX7_changesOf_88 : decode cX7_changesOf 88 = .ok (.isub, 1) := by decide +kernel
theorem dX7_changesOf_89 : decode cX7_changesOf 89 = .ok (.iaload, 1) := by decide +kernel
theorem dX7_changesOf_90 : decode cX7_changesOf 90 = .ok (.iload 6, 2) := by decide +kernel
theorem dX7_changesOf_92 : decode cX7_changesOf 92 = .ok (.iload 7, 2) := by decide +kernel
theorem dX7_changesOf_94 : decode cX7_changesOf 94 = .ok (.if_icmp .eq 15, 3) := by decide +kernel
theorem dX7_changesOf_97 : decode cX7_changesOf 97 = .ok (.iload 6, 2) := by decide +kernel
theorem dX7_changesOf_99 : decode cX7_changesOf 99 = .ok (.iconst (-1), 1) := by decide +kernel
theorem dX7_changesOf_100 : decode cX7_changesOf 100 = .ok (.if_icmp .eq 9, 3) := by decide +kernel
theorem dX7_changesOf_103 : decode cX7_changesOf 103 = .ok (.iload 7, 2) := by decide +kernel
theorem dX7_changesOf_105 : decode cX7_changesOf 105 = .ok (.iconst (-1), 1) := by decide +kernel
theorem dX7_changesOf_106 : decode cX7_changesOf 106 = .ok (.if_icmp .ne 7, 3) := by decide +kernel
theorem dX7_changesOf_109 : decode cX7_changesOf 109 = .ok (.iconst 0, 1) := by decide +kernel
theorem dX7_changesOf_110 : decode cX7_changesOf 110 = .ok (.goto 4, 3) := by decide +kernel
theorem dX7_changesOf_113 : decode cX7_changesOf 113 = .ok (.iconst 3, 1) := by decide +kernel
theorem dX7_changesOf_114 : decode cX7_changesOf 114 = .ok (.iadd, 1) := by decide +kernel
theorem dX7_changesOf_115 : decode cX7_changesOf 115 = .ok (.istore 8, 2) := by decide +kernel
theorem dX7_changesOf_117 : decode cX7_changesOf 117 = .ok (.iload 8, 2) := by decide +kernel
theorem dX7_changesOf_119 : decode cX7_changesOf 119 = .ok (.istore 5, 2) := by decide +kernel
theorem dX7_changesOf_121 : decode cX7_changesOf 121 = .ok (.aload_n 0, 1) := by decide +kernel
theorem dX7_changesOf_122 : decode cX7_changesOf 122 = .ok (.getfield 54, 3) := by decide +kernel
theorem dX7_changesOf_125 : decode cX7_changesOf 125 = .ok (.bipush 31, 2) := by decide +kernel
theorem dX7_changesOf_127 : decode cX7_changesOf 127 = .ok (.iload_n 3, 1) := by decide +kernel
theorem dX7_changesOf_128 : decode cX7_changesOf 128 = .ok (.iconst 1, 1) := by decide +kernel
theorem dX7_changesOf_129 : decode cX7_changesOf 129 = .ok (.isub, 1) := by decide +kernel
theorem dX7_changesOf_130 : decode cX7_changesOf 130 = .ok (.imul, 1) := by decide +kernel
theorem dX7_changesOf_131 : decode cX7_changesOf 131 = .ok (.iload 4, 2) := by decide +kernel
theorem dX7_changesOf_133 : decode cX7_changesOf 133 = .ok (.iadd, 1) := by decide +kernel
theorem dX7_changesOf_134 : decode cX7_changesOf 134 = .ok (.iaload, 1) := by decide +kernel
theorem dX7_changesOf_135 : decode cX7_changesOf 135 = .ok (.iconst 2, 1) := by decide +kernel
theorem dX7_changesOf_136 : decode cX7_changesOf 136 = .ok (.iadd, 1) := by decide +kernel
theorem dX7_changesOf_137 : decode cX7_changesOf 137 = .ok (.istore 8, 2) := by decide +kernel
theorem dX7_changesOf_139 : decode cX7_changesOf 139 = .ok (.iload 8, 2) := by decide +kernel
theorem dX7_changesOf_141 : decode cX7_changesOf 141 = .ok (.iload 5, 2) := by decide +kernel
theorem dX7_changesOf_143 : decode cX7_changesOf 143 = .ok (.if_icmp .ge 8, 3) := by decide +kernel
theorem dX7_changesOf_146 : decode cX7_changesOf 146 = .ok (.iload 8, 2) := by decide +kernel
theorem dX7_changesOf_148 : decode cX7_changesOf 148 = .ok (.goto 5, 3) := by decide +kernel
theorem dX7_changesOf_151 : decode cX7_changesOf 151 = .ok (.iload 5, 2) := by decide +kernel
theorem dX7_changesOf_153 : decode cX7_changesOf 153 = .ok (.istore 5, 2) := by decide +kernel
theorem dX7_changesOf_155 : decode cX7_changesOf 155 = .ok (.aload_n 0, 1) := by decide +kernel
theorem dX7_changesOf_156 : decode cX7_changesOf 156 = .ok (.getfield 54, 3) := by decide +kernel
theorem dX7_changesOf_159 : decode cX7_changesOf 159 = .ok (.bipush 31, 2) := by decide +kernel
theorem dX7_changesOf_161 : decode cX7_changesOf 161 = .ok (.iload_n 3, 1) := by decide +kernel
theorem dX7_changesOf_162 : decode cX7_changesOf 162 = .ok (.imul, 1) := by decide +kernel
theorem dX7_changesOf_163 : decode cX7_changesOf 163 = .ok (.iload 4, 2) := by decide +kernel
theorem dX7_changesOf_165 : decode cX7_changesOf 165 = .ok (.iadd, 1) := by decide +kernel
theorem dX7_changesOf_166 : decode cX7_changesOf 166 = .ok (.iconst 1, 1) := by decide +kernel
theorem dX7_changesOf_167 : decode cX7_changesOf 167 = .ok (.isub, 1) := by decide +kernel
theorem dX7_changesOf_168 : decode cX7_changesOf 168 = .ok (.iaload, 1) := by decide +kernel
theorem dX7_changesOf_169 : decode cX7_changesOf 169 = .ok (.iconst 2, 1) := by decide +kernel
theorem dX7_changesOf_170 : decode cX7_changesOf 170 = .ok (.iadd, 1) := by decide +kernel
theorem dX7_changesOf_171 : decode cX7_changesOf 171 = .ok (.istore 8, 2) := by decide +kernel
theorem dX7_changesOf_173 : decode cX7_changesOf 173 = .ok (.iload 8, 2) := by decide +kernel
theorem dX7_changesOf_175 : decode cX7_changesOf 175 = .ok (.iload 5, 2) := by decide +kernel
theorem dX7_changesOf_177 : decode cX7_changesOf 177 = .ok (.if_icmp .ge 8, 3) := by decide +kernel
theorem dX7_changesOf_180 : decode cX7_changesOf 180 = .ok (.iload 8, 2) := by decide +kernel
theorem dX7_changesOf_182 : decode cX7_changesOf 182 = .ok (.goto 5, 3) := by decide +kernel
theorem dX7_changesOf_185 : decode cX7_changesOf 185 = .ok (.iload 5, 2) := by decide +kernel
theorem dX7_changesOf_187 : decode cX7_changesOf 187 = .ok (.istore 5, 2) := by decide +kernel
theorem dX7_changesOf_189 : decode cX7_changesOf 189 = .ok (.aload_n 0, 1) := by decide +kernel
theorem dX7_changesOf_190 : decode cX7_changesOf 190 = .ok (.getfield 54, 3) := by decide +kernel
theorem dX7_changesOf_193 : decode cX7_changesOf 193 = .ok (.bipush 31, 2) := by decide +kernel
theorem dX7_changesOf_195 : decode cX7_changesOf 195 = .ok (.iload_n 3, 1) := by decide +kernel
theorem dX7_changesOf_196 : decode cX7_changesOf 196 = .ok (.imul, 1) := by decide +kernel
theorem dX7_changesOf_197 : decode cX7_changesOf 197 = .ok (.iload 4, 2) := by decide +kernel
theorem dX7_changesOf_199 : decode cX7_changesOf 199 = .ok (.iadd, 1) := by decide +kernel
theorem dX7_changesOf_200 : decode cX7_changesOf 200 = .ok (.iload 5, 2) := by decide +kernel
theorem dX7_changesOf_202 : decode cX7_changesOf 202 = .ok (.iastore, 1) := by decide +kernel
theorem dX7_changesOf_203 : decode cX7_changesOf 203 = .ok (.iinc 4 1, 3) := by decide +kernel
theorem dX7_changesOf_206 : decode cX7_changesOf 206 = .ok (.goto (-191), 3) := by decide +kernel
theorem dX7_changesOf_209 : decode cX7_changesOf 209 = .ok (.iinc 3 1, 3) := by decide +kernel
theorem dX7_changesOf_212 : decode cX7_changesOf 212 = .ok (.goto (-210), 3) := by decide +kernel
theorem dX7_changesOf_215 : decode cX7_changesOf 215 = .ok (.aload_n 0, 1) := by decide +kernel
theorem dX7_changesOf_216 : decode cX7_changesOf 216 = .ok (.getfield 54, 3) := by decide +kernel
theorem dX7_changesOf_219 : decode cX7_changesOf 219 = .ok (.bipush 31, 2) := by decide +kernel
theorem dX7_changesOf_221 : decode cX7_changesOf 221 = .ok (.aload_n 0, 1) := by decide +kernel
theorem dX7_changesOf_222 : decode cX7_changesOf 222 = .ok (.getfield 45, 3) := by decide +kernel
theorem dX7_changesOf_225 : decode cX7_changesOf 225 = .ok (.iload_n 1, 1) := by decide +kernel
theorem dX7_changesOf_226 : decode cX7_changesOf 226 = .ok (.iaload, 1) := by decide +kernel
theorem dX7_changesOf_227 : decode cX7_changesOf 227 = .ok (.imul, 1) := by decide +kernel
theorem dX7_changesOf_228 : decode cX7_changesOf 228 = .ok (.aload_n 0, 1) := by decide +kernel
theorem dX7_changesOf_229 : decode cX7_changesOf 229 = .ok (.getfield 45, 3) := by decide +kernel
theorem dX7_changesOf_232 : decode cX7_changesOf 232 = .ok (.iload_n 2, 1) := by decide +kernel
theorem dX7_changesOf_233 : decode cX7_changesOf 233 = .ok (.iaload, 1) := by decide +kernel
theorem dX7_changesOf_234 : decode cX7_changesOf 234 = .ok (.iadd, 1) := by decide +kernel
theorem dX7_changesOf_235 : decode cX7_changesOf 235 = .ok (.iaload, 1) := by decide +kernel
theorem dX7_changesOf_236 : decode cX7_changesOf 236 = .ok (.ireturn, 1) := by decide +kernel
theorem dX7_changes_0 : decode cX7_changes 0 = .ok (.aload_n 0, 1) := by decide +kernel
theorem dX7_changes_1 : decode cX7_changes 1 = .ok (.iload_n 1, 1) := by decide +kernel
theorem dX7_changes_2 : decode cX7_changes 2 = .ok (.invokevirtual 183, 3) := by decide +kernel
theorem dX7_changes_5 : decode cX7_changes 5 = .ok (.ifCond .eq 20, 3) := by decide +kernel
theorem dX7_changes_8 : decode cX7_changes 8 = .ok (.aload_n 0, 1) := by decide +kernel
theorem dX7_changes_9 : decode cX7_changes 9 = .ok (.iload_n 2, 1) := by decide +kernel
theorem dX7_changes_10 : decode cX7_changes 10 = .ok (.invokevirtual 183, 3) := by decide +kernel
theorem dX7_changes_13 : decode cX7_changes 13 = .ok (.ifCond .eq 12, 3) := by decide +kernel
theorem dX7_changes_16 : decode cX7_changes 16 = .ok (.aload_n 0, 1) := by decide +kernel
theorem dX7_changes_17 : decode cX7_changes 17 = .ok (.iload_n 1, 1) := by decide +kernel
theorem dX7_changes_18 : decode cX7_changes 18 = .ok (.iload_n 2, 1) := by decide +kernel
theorem dX7_changes_19 : decode cX7_changes 19 = .ok (.invokevirtual 192, 3) := by decide +kernel
theorem dX7_changes_22 : decode cX7_changes 22 = .ok (.goto 5, 3) := by decide +kernel
theorem dX7_changes_25 : decode cX7_changes 25 = .ok (.bipush (-2), 2) := by decide +kernel
theorem dX7_changes_27 : decode cX7_changes 27 = .ok (.ireturn, 1) := by decide +kernel
theorem dX7_motherOf_0 : decode cX7_motherOf 0 = .ok (.iconst (-1), 1) := by decide +kernel
theorem dX7_motherOf_1 : decode cX7_motherOf 1 = .ok (.istore_n 2, 1) := by decide +kernel
theorem dX7_motherOf_2 : decode cX7_motherOf 2 = .ok (.iconst 0, 1) := by decide +kernel
theorem dX7_motherOf_3 : decode cX7_motherOf 3 = .ok (.istore_n 3, 1) := by decide +kernel
theorem dX7_motherOf_4 : decode cX7_motherOf 4 = .ok (.iconst 0, 1) := by decide +kernel
theorem dX7_motherOf_5 : decode cX7_motherOf 5 = .ok (.istore 4, 2) := by decide +kernel
theorem dX7_motherOf_7 : decode cX7_motherOf 7 = .ok (.iload 4, 2) := by decide +kernel
theorem dX7_motherOf_9 : decode cX7_motherOf 9 = .ok (.aload_n 0, 1) := by decide +kernel
theorem dX7_motherOf_10 : decode cX7_motherOf 10 = .ok (.getfield 180, 3) := by decide +kernel
theorem dX7_motherOf_13 : decode cX7_motherOf 13 = .ok (.if_icmp .ge 73, 3) := by decide +kernel
theorem dX7_motherOf_16 : decode cX7_motherOf 16 = .ok (.aload_n 0, 1) := by decide +kernel
theorem dX7_motherOf_17 : decode cX7_motherOf 17 = .ok (.getfield 48, 3) := by decide +kernel
theorem dX7_motherOf_20 : decode cX7_motherOf 20 = .ok (.iload 4, 2) := by decide +kernel
theorem dX7_motherOf_22 : decode cX7_motherOf 22 = .ok (.iaload, 1) := by decide +kernel
theorem dX7_motherOf_23 : decode cX7_motherOf 23 = .ok (.aload_n 0, 1) := by decide +kernel
theorem dX7_motherOf_24 : decode cX7_motherOf 24 = .ok (.getfield 48, 3) := by decide +kernel
theorem dX7_motherOf_27 : decode cX7_motherOf 27 = .ok (.iload_n 1, 1) := by decide +kernel
theorem dX7_motherOf_28 : decode cX7_motherOf 28 = .ok (.iaload, 1) := by decide +kernel
theorem dX7_motherOf_29 : decode cX7_motherOf 29 = .ok (.if_icmp .ge 51, 3) := by decide +kernel
theorem dX7_motherOf_32 : decode cX7_motherOf 32 = .ok (.aload_n 0, 1) := by decide +kernel
theorem dX7_motherOf_33 : decode cX7_motherOf 33 = .ok (.iload 4, 2) := by decide +kernel
theorem dX7_motherOf_35 : decode cX7_motherOf 35 = .ok (.iload_n 1, 1) := by decide +kernel
theorem dX7_motherOf_36 : decode cX7_motherOf 36 = .ok (.invokevirtual 192, 3) := by decide +kernel
theorem dX7_motherOf_39 : decode cX7_motherOf 39 = .ok (.istore 5, 2) := by decide +kernel
theorem dX7_motherOf_41 : decode cX7_motherOf 41 = .ok (.iload_n 2, 1) := by decide +kernel
theorem dX7_motherOf_42 : decode cX7_motherOf 42 = .ok (.iconst (-1), 1) := by decide +kernel
theorem dX7_motherOf_43 : decode cX7_motherOf 43 = .ok (.if_icmp .eq 31, 3) := by decide +kernel
theorem dX7_motherOf_46 : decode cX7_motherOf 46 = .ok (.iload 5, 2) := by decide +kernel
theorem dX7_motherOf_48 : decode cX7_motherOf 48 = .ok (.iload_n 3, 1) := by decide +kernel
theorem dX7_motherOf_49 : decode cX7_motherOf 49 = .ok (.if_icmp .lt 25, 3) := by decide +kernel
theorem dX7_motherOf_52 : decode cX7_motherOf 52 = .ok (.iload 5, 2) := by decide +kernel
theorem dX7_motherOf_54 : decode cX7_motherOf 54 = .ok (.iload_n 3, 1) := by decide +kernel
theorem dX7_motherOf_55 : decode cX7_motherOf 55 = .ok (.if_icmp .ne 25, 3) := by decide +kernel
theorem dX7_motherOf_58 : decode cX7_motherOf 58 = .ok (.aload_n 0, 1) := by decide +kernel
theorem dX7_motherOf_59 : decode cX7_motherOf 59 = .ok (.getfield 48, 3) := by decide +kernel
theorem dX7_motherOf_62 : decode cX7_motherOf 62 = .ok (.iload 4, 2) := by decide +kernel
theorem dX7_motherOf_64 : decode cX7_motherOf 64 = .ok (.iaload, 1) := by decide +kernel
theorem dX7_motherOf_65 : decode cX7_motherOf 65 = .ok (.aload_n 0, 1) := by decide +kernel
theorem dX7_motherOf_66 : decode cX7_motherOf 66 = .ok (.getfield 48, 3) := by decide +kernel
theorem dX7_motherOf_69 : decode cX7_motherOf 69 = .ok (.iload_n 2, 1) := by decide +kernel
theorem dX7_motherOf_70 : decode cX7_motherOf 70 = .ok (.iaload, 1) := by decide +kernel
theorem dX7_motherOf_71 : decode cX7_motherOf 71 = .ok (.if_icmp .le 9, 3) := by decide +kernel
theorem dX7_motherOf_74 : decode cX7_motherOf 74 = .ok (.iload 4, 2) := by decide +kernel
theorem dX7_motherOf_76 : decode cX7_motherOf 76 = .ok (.istore_n 2, 1) := by decide +kernel
theorem dX7_motherOf_77 : decode cX7_motherOf 77 = .ok (.iload 5, 2) := by decide +kernel
theorem dX7_motherOf_79 : decode cX7_motherOf 79 = .ok (.istore_n 3, 1) := by decide +kernel
theorem dX7_motherOf_80 : decode cX7_motherOf 80 = .ok (.iinc 4 1, 3) := by decide +kernel
theorem dX7_motherOf_83 : decode cX7_motherOf 83 = .ok (.goto (-76), 3) := by decide +kernel
theorem dX7_motherOf_86 : decode cX7_motherOf 86 = .ok (.iload_n 2, 1) := by decide +kernel
theorem dX7_motherOf_87 : decode cX7_motherOf 87 = .ok (.ireturn, 1) := by decide +kernel
theorem dX7_mother_0 : decode cX7_mother 0 = .ok (.aload_n 0, 1) := by decide +kernel
theorem dX7_mother_1 : decode cX7_mother 1 = .ok (.iload_n 1, 1) := by decide +kernel
theorem dX7_mother_2 : decode cX7_mother 2 = .ok (.invokevirtual 183, 3) := by decide +kernel
theorem dX7_mother_5 : decode cX7_mother 5 = .ok (.ifCond .eq 11, 3) := by decide +kernel
theorem dX7_mother_8 : decode cX7_mother 8 = .ok (.aload_n 0, 1) := by decide +kernel
theorem dX7_mother_9 : decode cX7_mother 9 = .ok (.iload_n 1, 1) := by decide +kernel
theorem dX7_mother_10 : decode cX7_mother 10 = .ok (.invokevirtual 195, 3) := by decide +kernel
theorem dX7_mother_13 : decode cX7_mother 13 = .ok (.goto 5, 3) := by decide +kernel
theorem dX7_mother_16 : decode cX7_mother 16 = .ok (.bipush (-2), 2) := by decide +kernel
theorem dX7_mother_18 : decode cX7_mother 18 = .ok (.ireturn, 1) := by decide +kernel
theorem dX7_strangeTo_0 : decode cX7_strangeTo 0 = .ok (.iconst 0, 1) := by decide +kernel
theorem dX7_strangeTo_1 : decode cX7_strangeTo 1 = .ok (.istore 4, 2) := by decide +kernel
theorem dX7_strangeTo_3 : decode cX7_strangeTo 3 = .ok (.iconst 0, 1) := by decide +kernel
theorem dX7_strangeTo_4 : decode cX7_strangeTo 4 = .ok (.istore 5, 2) := by decide +kernel
theorem dX7_strangeTo_6 : decode cX7_strangeTo 6 = .ok (.iload 5, 2) := by decide +kernel
theorem dX7_strangeTo_8 : decode cX7_strangeTo 8 = .ok (.aload_n 0, 1) := by decide +kernel
theorem dX7_strangeTo_9 : decode cX7_strangeTo 9 = .ok (.getfield 45, 3) := by decide +kernel
theorem dX7_strangeTo_12 : decode cX7_strangeTo 12 = .ok (.iload_n 1, 1) := by decide +kernel
theorem dX7_strangeTo_13 : decode cX7_strangeTo 13 = .ok (.iaload, 1) := by decide +kernel
theorem dX7_strangeTo_14 : decode cX7_strangeTo 14 = .ok (.if_icmp .ge 93, 3) := by decide +kernel
theorem dX7_strangeTo_17 : decode cX7_strangeTo 17 = .ok (.aload_n 0, 1) := by decide +kernel
theorem dX7_strangeTo_18 : decode cX7_strangeTo 18 = .ok (.getfield 51, 3) := by decide +kernel
theorem dX7_strangeTo_21 : decode cX7_strangeTo 21 = .ok (.bipush 30, 2) := by decide +kernel
theorem dX7_strangeTo_23 : decode cX7_strangeTo 23 = .ok (.iload_n 1, 1) := by decide +kernel
theorem dX7_strangeTo_24 : decode cX7_strangeTo 24 = .ok (.imul, 1) := by decide +kernel
theorem dX7_strangeTo_25 : decode cX7_strangeTo 25 = .ok (.iload 5, 2) := by decide +kernel
theorem dX7_strangeTo_27 : decode cX7_strangeTo 27 = .ok (.iadd, 1) := by decide +kernel
theorem dX7_strangeTo_28 : decode cX7_strangeTo 28 = .ok (.iaload, 1) := by decide +kernel
theorem dX7_strangeTo_29 : decode cX7_strangeTo 29 = .ok (.istore 6, 2) := by decide +kernel
theorem dX7_strangeTo_31 : decode cX7_strangeTo 31 = .ok (.aload_n 0, 1) := by decide +kernel
theorem dX7_strangeTo_32 : decode cX7_strangeTo 32 = .ok (.getfield 51, 3) := by decide +kernel
theorem dX7_strangeTo_35 : decode cX7_strangeTo 35 = .ok (.bipush 30, 2) := by decide +kernel
theorem dX7_strangeTo_37 : decode cX7_strangeTo 37 = .ok (.iload_n 2, 1) := by decide +kernel
theorem dX7_strangeTo_38 : decode cX7_strangeTo 38 = .ok (.imul, 1) := by decide +kernel
theorem dX7_strangeTo_39 : decode cX7_strangeTo 39 = .ok (.iload 5, 2) := by decide +kernel
theorem dX7_strangeTo_41 : decode cX7_strangeTo 41 = .ok (.iadd, 1) := by decide +kernel
theorem dX7_strangeTo_42 : decode cX7_strangeTo 42 = .ok (.iaload, 1) := by decide +kernel
theorem dX7_strangeTo_43 : decode cX7_strangeTo 43 = .ok (.istore 7, 2) := by decide +kernel
theorem dX7_strangeTo_45 : decode cX7_strangeTo 45 = .ok (.aload_n 0, 1) := by decide +kernel
theorem dX7_strangeTo_46 : decode cX7_strangeTo 46 = .ok (.getfield 51, 3) := by decide +kernel
theorem dX7_strangeTo_49 : decode cX7_strangeTo 49 = .ok (.bipush 30, 2) := by decide +kernel
theorem dX7_strangeTo_51 : decode cX7_strangeTo 51 = .ok (.iload_n 3, 1) := by decide +kernel
theorem dX7_strangeTo_52 : decode cX7_strangeTo 52 = .ok (.imul, 1) := by decide +kernel
theorem dX7_strangeTo_53 : decode cX7_strangeTo 53 = .ok (.iload 5, 2) := by decide +kernel
theorem dX7_strangeTo_55 : decode cX7_strangeTo 55 = .ok (.iadd, 1) := by decide +kernel
theorem dX7_strangeTo_56 : decode cX7_strangeTo 56 = .ok (.iaload, 1) := by decide +kernel
theorem dX7_strangeTo_57 : decode cX7_strangeTo 57 = .ok (.istore 8, 2) := by decide +kernel
theorem dX7_strangeTo_59 : decode cX7_strangeTo 59 = .ok (.iload 4, 2) := by decide +kernel
theorem dX7_strangeTo_61 : decode cX7_strangeTo 61 = .ok (.iload 6, 2) := by decide +kernel
theorem dX7_strangeTo_63 : decode cX7_strangeTo 63 = .ok (.iconst (-1), 1) := by decide +kernel
theorem dX7_strangeTo_64 : decode cX7_strangeTo 64 = .ok (.if_icmp .eq 33, 3) := by decide +kernel
theorem dX7_strangeTo_67 : decode cX7_strangeTo 67 = .ok (.iload 7, 2) := by decide +kernel
theorem dX7_strangeTo_69 : decode cX7_strangeTo 69 = .ok (.iconst (-1), 1) := by decide +kernel
theorem dX7_strangeTo_70 : decode cX7_strangeTo 70 = .ok (.if_icmp .eq 27, 3) := by decide +kernel
theorem dX7_strangeTo_73 : decode cX7_strangeTo 73 = .ok (.iload 8, 2) := by decide +kernel
theorem dX7_strangeTo_75 : decode cX7_strangeTo 75 = .ok (.iconst (-1), 1) := by decide +kernel
theorem dX7_strangeTo_76 : decode cX7_strangeTo 76 = .ok (.if_icmp .eq 21, 3) := by decide +kernel
theorem dX7_strangeTo_79 : decode cX7_strangeTo 79 = .ok (.iload 6, 2) := by decide +kernel
theorem dX7_strangeTo_81 : decode cX7_strangeTo 81 = .ok (.iload 7, 2) := by decide +kernel
theorem dX7_strangeTo_83 : decode cX7_strangeTo 83 = .ok (.if_icmp .eq 14, 3) := by decide +kernel
theorem dX7_strangeTo_86 : decode cX7_strangeTo 86 = .ok (.iload 6, 2) := by decide +kernel
theorem dX7_strangeTo_88 : decode cX7_strangeTo 88 = .ok (.iload 8, 2) := by decide +kernel
theorem dX7_strangeTo_90 : decode cX7_strangeTo 90 = .ok (.if_icmp .eq 7, 3) := by decide +kernel
theorem dX7_strangeTo_93 : decode cX7_strangeTo 93 = .ok (.iconst 1, 1) := by decide +kernel
theorem dX7_strangeTo_94 : decode cX7_strangeTo 94 = .ok (.goto 4, 3) := by decide +kernel
theorem dX7_strangeTo_97 : decode cX7_strangeTo 97 = .ok (.iconst 0, 1) := by decide +kernel
theorem dX7_strangeTo_98 : decode cX7_strangeTo 98 = .ok (.iadd, 1) := by decide +kernel
theorem dX7_strangeTo_99 : decode cX7_strangeTo 99 = .ok (.istore 4, 2) := by decide +kernel
theorem dX7_strangeTo_101 : decode cX7_strangeTo 101 = .ok (.iinc 5 1, 3) := by decide +kernel
theorem dX7_strangeTo_104 : decode cX7_strangeTo 104 = .ok (.goto (-98), 3) := by decide +kernel
theorem dX7_strangeTo_107 : decode cX7_strangeTo 107 = .ok (.iload 4, 2) := by decide +kernel
theorem dX7_strangeTo_109 : decode cX7_strangeTo 109 = .ok (.ireturn, 1) := by decide +kernel
theorem dX7_mayBear_0 : decode cX7_mayBear 0 = .ok (.aload_n 0, 1) := by decide +kernel
theorem dX7_mayBear_1 : decode cX7_mayBear 1 = .ok (.getfield 48, 3) := by decide +kernel
theorem dX7_mayBear_4 : decode cX7_mayBear 4 = .ok (.iload_n 1, 1) := by decide +kernel
theorem dX7_mayBear_5 : decode cX7_mayBear 5 = .ok (.iaload, 1) := by decide +kernel
theorem dX7_mayBear_6 : decode cX7_mayBear 6 = .ok (.aload_n 0, 1) := by decide +kernel
theorem dX7_mayBear_7 : decode cX7_mayBear 7 = .ok (.getfield 48, 3) := by decide +kernel
theorem dX7_mayBear_10 : decode cX7_mayBear 10 = .ok (.iload_n 2, 1) := by decide +kernel
theorem dX7_mayBear_11 : decode cX7_mayBear 11 = .ok (.iaload, 1) := by decide +kernel
theorem dX7_mayBear_12 : decode cX7_mayBear 12 = .ok (.if_icmp .ge 22, 3) := by decide +kernel
theorem dX7_mayBear_15 : decode cX7_mayBear 15 = .ok (.aload_n 0, 1) := by decide +kernel
theorem dX7_mayBear_16 : decode cX7_mayBear 16 = .ok (.getfield 45, 3) := by decide +kernel
theorem dX7_mayBear_19 : decode cX7_mayBear 19 = .ok (.iload_n 1, 1) := by decide +kernel
theorem dX7_mayBear_20 : decode cX7_mayBear 20 = .ok (.iaload, 1) := by decide +kernel
theorem dX7_mayBear_21 : decode cX7_mayBear 21 = .ok (.aload_n 0, 1) := by decide +kernel
theorem dX7_mayBear_22 : decode cX7_mayBear 22 = .ok (.getfield 45, 3) := by decide +kernel
theorem dX7_mayBear_25 : decode cX7_mayBear 25 = .ok (.iload_n 2, 1) := by decide +kernel
theorem dX7_mayBear_26 : decode cX7_mayBear 26 = .ok (.iaload, 1) := by decide +kernel
theorem dX7_mayBear_27 : decode cX7_mayBear 27 = .ok (.if_icmp .ne 7, 3) := by decide +kernel
theorem dX7_mayBear_30 : decode cX7_mayBear 30 = .ok (.iconst 1, 1) := by decide +kernel
theorem dX7_mayBear_31 : decode cX7_mayBear 31 = .ok (.goto 4, 3) := by decide +kernel
theorem dX7_mayBear_34 : decode cX7_mayBear 34 = .ok (.iconst 0, 1) := by decide +kernel
theorem dX7_mayBear_35 : decode cX7_mayBear 35 = .ok (.ireturn, 1) := by decide +kernel
theorem dX7_mothersOf_0 : decode cX7_mothersOf 0 = .ok (.iconst (-1), 1) := by decide +kernel
theorem dX7_mothersOf_1 : decode cX7_mothersOf 1 = .ok (.istore_n 2, 1) := by decide +kernel
theorem dX7_mothersOf_2 : decode cX7_mothersOf 2 = .ok (.aload_n 0, 1) := by decide +kernel
theorem dX7_mothersOf_3 : decode cX7_mothersOf 3 = .ok (.iconst (-1), 1) := by decide +kernel
theorem dX7_mothersOf_4 : decode cX7_mothersOf 4 = .ok (.putfield 198, 3) := by decide +kernel
theorem dX7_mothersOf_7 : decode cX7_mothersOf 7 = .ok (.iconst 0, 1) := by decide +kernel
theorem dX7_mothersOf_8 : decode cX7_mothersOf 8 = .ok (.istore_n 3, 1) := by decide +kernel
theorem dX7_mothersOf_9 : decode cX7_mothersOf 9 = .ok (.iload_n 3, 1) := by decide +kernel
theorem dX7_mothersOf_10 : decode cX7_mothersOf 10 = .ok (.aload_n 0, 1) := by decide +kernel
theorem dX7_mothersOf_11 : decode cX7_mothersOf 11 = .ok (.getfield 180, 3) := by decide +kernel
theorem dX7_mothersOf_14 : decode cX7_mothersOf 14 = .ok (.if_icmp .ge 86, 3) := by decide +kernel
theorem dX7_mothersOf_17 : decode cX7_mothersOf 17 = .ok (.iload_n 3, 1) := by decide +kernel
theorem dX7_mothersOf_18 : decode cX7_mothersOf 18 = .ok (.iconst 1, 1) := by decide +kernel
theorem dX7_mothersOf_19 : decode cX7_mothersOf 19 = .ok (.iadd, 1) := by decide +kernel
theorem dX7_mothersOf_20 : decode cX7_mothersOf 20 = .ok (.istore 4, 2) := by decide +kernel
theorem dX7_mothersOf_22 : decode cX7_mothersOf 22 = .ok (.iload 4, 2) := by decide +kernel
theorem dX7_mothersOf_24 : decode cX7_mothersOf 24 = .ok (.aload_n 0, 1) := by decide +kernel
theorem dX7_mothersOf_25 : decode cX7_mothersOf 25 = .ok (.getfield 180, 3) := by decide +kernel
theorem dX7_mothersOf_28 : decode cX7_mothersOf 28 = .ok (.if_icmp .ge 66, 3) := by decide +kernel
theorem dX7_mothersOf_31 : decode cX7_mothersOf 31 = .ok (.aload_n 0, 1) := by decide +kernel
theorem dX7_mothersOf_32 : decode cX7_mothersOf 32 = .ok (.iload_n 3, 1) := by decide +kernel
theorem dX7_mothersOf_33 : decode cX7_mothersOf 33 = .ok (.iload_n 1, 1) := by decide +kernel
theorem dX7_mothersOf_34 : decode cX7_mothersOf 34 = .ok (.invokevirtual 201, 3) := by decide +kernel
theorem dX7_mothersOf_37 : decode cX7_mothersOf 37 = .ok (.ifCond .eq 51, 3) := by decide +kernel
theorem dX7_mothersOf_40 : decode cX7_mothersOf 40 = .ok (.aload_n 0, 1) := by decide +kernel
theorem dX7_mothersOf_41 : decode cX7_mothersOf 41 = .ok (.iload 4, 2) := by decide +kernel
theorem dX7_mothersOf_43 : decode cX7_mothersOf 43 = .ok (.iload_n 1, 1) := by decide +kernel
theorem dX7_mothersOf_44 : decode cX7_mothersOf 44 = .ok (.invokevirtual 201, 3) := by decide +kernel
theorem dX7_mothersOf_47 : decode cX7_mothersOf 47 = .ok (.ifCond .eq 41, 3) := by decide +kernel
theorem dX7_mothersOf_50 : decode cX7_mothersOf 50 = .ok (.aload_n 0, 1) := by decide +kernel
theorem dX7_mothersOf_51 : decode cX7_mothersOf 51 = .ok (.iload_n 1, 1) := by decide +kernel
theorem dX7_mothersOf_52 : decode cX7_mothersOf 52 = .ok (.iload_n 3, 1) := by decide +kernel
theorem dX7_mothersOf_53 : decode cX7_mothersOf 53 = .ok (.iload 4, 2) := by decide +kernel
theorem dX7_mothersOf_55 : decode cX7_mothersOf 55 = .ok (.invokevirtual 205, 3) := by decide +kernel
theorem dX7_mothersOf_58 : decode cX7_mothersOf 58 = .ok (.istore 5, 2) := by decide +kernel
theorem dX7_mothersOf_60 : decode cX7_mothersOf 60 = .ok (.iload_n 2, 1) := by decide +kernel
theorem dX7_mothersOf_61 : decode cX7_mothersOf 61 = .ok (.iconst (-1), 1) := by decide +kernel
theorem dX7_mothersOf_62 : decode cX7_mothersOf 62 = .ok (.if_icmp .eq 12, 3) := by decide +kernel
theorem dX7_mothersOf_65 : decode cX7_mothersOf 65 = .ok (.iload 5, 2) := by decide +kernel
theorem dX7_mothersOf_67 : decode cX7_mothersOf 67 = .ok (.aload_n 0, 1) := by decide +kernel
theorem dX7_mothersOf_68 : decode cX7_mothersOf 68 = .ok (.getfield 198, 3) := by decide +kernel
theorem dX7_mothersOf_71 : decode cX7_mothersOf 71 = .ok (.if_icmp .ge 17, 3) := by decide +kernel
theorem dX7_mothersOf_74 : decode cX7_mothersOf 74 = .ok (.bipush 10, 2) := by decide +kernel
theorem dX7_mothersOf_76 : decode cX7_mothersOf 76 = .ok (.iload_n 3, 1) := by decide +kernel
theorem dX7_mothersOf_77 : decode cX7_mothersOf 77 = .ok (.imul, 1) := by decide +kernel
theorem dX7_mothersOf_78 : decode cX7_mothersOf 78 = .ok (.iload 4, 2) := by decide +kernel
theorem dX7_mothersOf_80 : decode cX7_mothersOf 80 = .ok (.iadd, 1) := by decide +kernel
theorem dX7_mothersOf_81 : decode cX7_mothersOf 81 = .ok (.istore_n 2, 1) := by decide +kernel
theorem dX7_mothersOf_82 : decode cX7_mothersOf 82 = .ok (.aload_n 0, 1) := by decide +kernel
theorem dX7_mothersOf_83 : decode cX7_mothersOf 83 = .ok (.iload 5, 2) := by decide +kernel
theorem dX7_mothersOf_85 : decode cX7_mothersOf 85 = .ok (.putfield 198, 3) := by decide +kernel
theorem dX7_mothersOf_88 : decode cX7_mothersOf 88 = .ok (.iinc 4 1, 3) := by decide +kernel
theorem dX7_mothersOf_91 : decode cX7_mothersOf 91 = .ok (.goto (-69), 3) := by decide +kernel
theorem dX7_mothersOf_94 : decode cX7_mothersOf 94 = .ok (.iinc 3 1, 3) := by decide +kernel
theorem dX7_mothersOf_97 : decode cX7_mothersOf 97 = .ok (.goto (-88), 3) := by decide +kernel
theorem dX7_mothersOf_100 : decode cX7_mothersOf 100 = .ok (.iload_n 2, 1) := by decide +kernel
theorem dX7_mothersOf_101 : decode cX7_mothersOf 101 = .ok (.ireturn, 1) := by decide +kernel
theorem dX7_mothers_0 : decode cX7_mothers 0 = .ok (.aload_n 0, 1) := by decide +kernel
theorem dX7_mothers_1 : decode cX7_mothers 1 = .ok (.iload_n 1, 1) := by decide +kernel
theorem dX7_mothers_2 : decode cX7_mothers 2 = .ok (.invokevirtual 183, 3) := by decide +kernel
theorem dX7_mothers_5 : decode cX7_mothers 5 = .ok (.ifCond .eq 11, 3) := by decide +kernel
theorem dX7_mothers_8 : decode cX7_mothers 8 = .ok (.aload_n 0, 1) := by decide +kernel
theorem dX7_mothers_9 : decode cX7_mothers 9 = .ok (.iload_n 1, 1) := by decide +kernel
theorem dX7_mothers_10 : decode cX7_mothers 10 = .ok (.invokevirtual 208, 3) := by decide +kernel
theorem dX7_mothers_13 : decode cX7_mothers 13 = .ok (.goto 5, 3) := by decide +kernel
theorem dX7_mothers_16 : decode cX7_mothers 16 = .ok (.bipush (-2), 2) := by decide +kernel
theorem dX7_mothers_18 : decode cX7_mothers 18 = .ok (.ireturn, 1) := by decide +kernel
theorem dX7_strange_0 : decode cX7_strange 0 = .ok (.aload_n 0, 1) := by decide +kernel
theorem dX7_strange_1 : decode cX7_strange 1 = .ok (.iload_n 1, 1) := by decide +kernel
theorem dX7_strange_2 : decode cX7_strange 2 = .ok (.invokevirtual 183, 3) := by decide +kernel
theorem dX7_strange_5 : decode cX7_strange 5 = .ok (.ifCond .ne 6, 3) := by decide +kernel
theorem dX7_strange_8 : decode cX7_strange 8 = .ok (.bipush (-2), 2) := by decide +kernel
theorem dX7_strange_10 : decode cX7_strange 10 = .ok (.ireturn, 1) := by decide +kernel
theorem dX7_strange_11 : decode cX7_strange 11 = .ok (.aload_n 0, 1) := by decide +kernel
theorem dX7_strange_12 : decode cX7_strange 12 = .ok (.iload_n 1, 1) := by decide +kernel
theorem dX7_strange_13 : decode cX7_strange 13 = .ok (.invokevirtual 208, 3) := by decide +kernel
theorem dX7_strange_16 : decode cX7_strange 16 = .ok (.istore_n 2, 1) := by decide +kernel
theorem dX7_strange_17 : decode cX7_strange 17 = .ok (.aload_n 0, 1) := by decide +kernel
theorem dX7_strange_18 : decode cX7_strange 18 = .ok (.getfield 198, 3) := by decide +kernel
theorem dX7_strange_21 : decode cX7_strange 21 = .ok (.ireturn, 1) := by decide +kernel
theorem dX7_age_0 : decode cX7_age 0 = .ok (.aload_n 0, 1) := by decide +kernel
theorem dX7_age_1 : decode cX7_age 1 = .ok (.iload_n 1, 1) := by decide +kernel
theorem dX7_age_2 : decode cX7_age 2 = .ok (.invokevirtual 183, 3) := by decide +kernel
theorem dX7_age_5 : decode cX7_age 5 = .ok (.ifCond .ne 6, 3) := by decide +kernel
theorem dX7_age_8 : decode cX7_age 8 = .ok (.bipush (-2), 2) := by decide +kernel
theorem dX7_age_10 : decode cX7_age 10 = .ok (.ireturn, 1) := by decide +kernel
theorem dX7_age_11 : decode cX7_age 11 = .ok (.iconst 0, 1) := by decide +kernel
theorem dX7_age_12 : decode cX7_age 12 = .ok (.istore_n 2, 1) := by decide +kernel
theorem dX7_age_13 : decode cX7_age 13 = .ok (.aload_n 0, 1) := by decide +kernel
theorem dX7_age_14 : decode cX7_age 14 = .ok (.iload_n 1, 1) := by decide +kernel
theorem dX7_age_15 : decode cX7_age 15 = .ok (.invokevirtual 195, 3) := by decide +kernel
theorem dX7_age_18 : decode cX7_age 18 = .ok (.istore_n 3, 1) := by decide +kernel
theorem dX7_age_19 : decode cX7_age 19 = .ok (.iload_n 3, 1) := by decide +kernel
theorem dX7_age_20 : decode cX7_age 20 = .ok (.iconst (-1), 1) := by decide +kernel
theorem dX7_age_21 : decode cX7_age 21 = .ok (.if_icmp .eq 15, 3) := by decide +kernel
theorem dX7_age_24 : decode cX7_age 24 = .ok (.iinc 2 1, 3) := by decide +kernel
theorem dX7_age_27 : decode cX7_age 27 = .ok (.aload_n 0, 1) := by decide +kernel
theorem dX7_age_28 : decode cX7_age 28 = .ok (.iload_n 3, 1) := by decide +kernel
theorem dX7_age_29 : decode cX7_age 29 = .ok (.invokevirtual 195, 3) := by decide +kernel
theorem dX7_age_32 : decode cX7_age 32 = .ok (.istore_n 3, 1) := by decide +kernel
theorem dX7_age_33 : decode cX7_age 33 = .ok (.goto (-14), 3) := by decide +kernel
theorem dX7_age_36 : decode cX7_age 36 = .ok (.iload_n 2, 1) := by decide +kernel
theorem dX7_age_37 : decode cX7_age 37 = .ok (.ireturn, 1) := by decide +kernel
theorem dX7_slips_0 : decode cX7_slips 0 = .ok (.aload_n 0, 1) := by decide +kernel
theorem dX7_slips_1 : decode cX7_slips 1 = .ok (.iload_n 1, 1) := by decide +kernel
theorem dX7_slips_2 : decode cX7_slips 2 = .ok (.invokevirtual 183, 3) := by decide +kernel
theorem dX7_slips_5 : decode cX7_slips 5 = .ok (.ifCond .eq 16, 3) := by decide +kernel
theorem dX7_slips_8 : decode cX7_slips 8 = .ok (.aload_n 0, 1) := by decide +kernel
theorem dX7_slips_9 : decode cX7_slips 9 = .ok (.iload_n 2, 1) := by decide +kernel
theorem dX7_slips_10 : decode cX7_slips 10 = .ok (.invokevirtual 183, 3) := by decide +kernel
theorem dX7_slips_13 : decode cX7_slips 13 = .ok (.ifCond .eq 8, 3) := by decide +kernel
theorem dX7_slips_16 : decode cX7_slips 16 = .ok (.iload_n 1, 1) := by decide +kernel
theorem dX7_slips_17 : decode cX7_slips 17 = .ok (.iload_n 2, 1) := by decide +kernel
theorem dX7_slips_18 : decode cX7_slips 18 = .ok (.if_icmp .ne 6, 3) := by decide +kernel
theorem dX7_slips_21 : decode cX7_slips 21 = .ok (.bipush (-2), 2) := by decide +kernel
theorem dX7_slips_23 : decode cX7_slips 23 = .ok (.ireturn, 1) := by decide +kernel
theorem dX7_slips_24 : decode cX7_slips 24 = .ok (.aload_n 0, 1) := by decide +kernel
theorem dX7_slips_25 : decode cX7_slips 25 = .ok (.getfield 48, 3) := by decide +kernel
theorem dX7_slips_28 : decode cX7_slips 28 = .ok (.iload_n 1, 1) := by decide +kernel
theorem dX7_slips_29 : decode cX7_slips 29 = .ok (.iaload, 1) := by decide +kernel
theorem dX7_slips_30 : decode cX7_slips 30 = .ok (.aload_n 0, 1) := by decide +kernel
theorem dX7_slips_31 : decode cX7_slips 31 = .ok (.getfield 48, 3) := by decide +kernel
theorem dX7_slips_34 : decode cX7_slips 34 = .ok (.iload_n 2, 1) := by decide +kernel
theorem dX7_slips_35 : decode cX7_slips 35 = .ok (.iaload, 1) := by decide +kernel
theorem dX7_slips_36 : decode cX7_slips 36 = .ok (.if_icmp .ge 12, 3) := by decide +kernel
theorem dX7_slips_39 : decode cX7_slips 39 = .ok (.aload_n 0, 1) := by decide +kernel
theorem dX7_slips_40 : decode cX7_slips 40 = .ok (.getfield 48, 3) := by decide +kernel
theorem dX7_slips_43 : decode cX7_slips 43 = .ok (.iload_n 1, 1) := by decide +kernel
theorem dX7_slips_44 : decode cX7_slips 44 = .ok (.iaload, 1) := by decide +kernel
theorem dX7_slips_45 : decode cX7_slips 45 = .ok (.goto 9, 3) := by decide +kernel
theorem dX7_slips_48 : decode cX7_slips 48 = .ok (.aload_n 0, 1) := by decide +kernel
theorem dX7_slips_49 : decode cX7_slips 49 = .ok (.getfield 48, 3) := by decide +kernel
theorem dX7_slips_52 : decode cX7_slips 52 = .ok (.iload_n 2, 1) := by decide +kernel
theorem dX7_slips_53 : decode cX7_slips 53 = .ok (.iaload, 1) := by decide +kernel
theorem dX7_slips_54 : decode cX7_slips 54 = .ok (.istore_n 3, 1) := by decide +kernel
theorem dX7_slips_55 : decode cX7_slips 55 = .ok (.iconst 0, 1) := by decide +kernel
theorem dX7_slips_56 : decode cX7_slips 56 = .ok (.istore 4, 2) := by decide +kernel
theorem dX7_slips_58 : decode cX7_slips 58 = .ok (.iconst 0, 1) := by decide +kernel
theorem dX7_slips_59 : decode cX7_slips 59 = .ok (.istore 5, 2) := by decide +kernel
theorem dX7_slips_61 : decode cX7_slips 61 = .ok (.iload 5, 2) := by decide +kernel
theorem dX7_slips_63 : decode cX7_slips 63 = .ok (.aload_n 0, 1) := by decide +kernel
theorem dX7_slips_64 : decode cX7_slips 64 = .ok (.getfield 45, 3) := by decide +kernel
theorem dX7_slips_67 : decode cX7_slips 67 = .ok (.iload_n 1, 1) := by decide +kernel
theorem dX7_slips_68 : decode cX7_slips 68 = .ok (.iaload, 1) := by decide +kernel
theorem dX7_slips_69 : decode cX7_slips 69 = .ok (.if_icmp .ge 148, 3) := by decide +kernel
theorem dX7_slips_72 : decode cX7_slips 72 = .ok (.iload 5, 2) := by decide +kernel
theorem dX7_slips_74 : decode cX7_slips 74 = .ok (.aload_n 0, 1) := by decide +kernel
theorem dX7_slips_75 : decode cX7_slips 75 = .ok (.getfield 45, 3) := by decide +kernel
theorem dX7_slips_78 : decode cX7_slips 78 = .ok (.iload_n 2, 1) := by decide +kernel
theorem dX7_slips_79 : decode cX7_slips 79 = .ok (.iaload, 1) := by decide +kernel
theorem dX7_slips_80 : decode cX7_slips 80 = .ok (.if_icmp .ge 137, 3) := by decide +kernel
theorem dX7_slips_83 : decode cX7_slips 83 = .ok (.aload_n 0, 1) := by decide +kernel
theorem dX7_slips_84 : decode cX7_slips 84 = .ok (.getfield 51, 3) := by decide +kernel
theorem dX7_slips_87 : decode cX7_slips 87 = .ok (.bipush 30, 2) := by decide +kernel
theorem dX7_slips_89 : decode cX7_slips 89 = .ok (.iload_n 1, 1) := by decide +kernel
theorem dX7_slips_90 : decode cX7_slips 90 = .ok (.imul, 1) := by decide +kernel
theorem dX7_slips_91 : decode cX7_slips 91 = .ok (.iload 5, 2) := by decide +kernel
theorem dX7_slips_93 : decode cX7_slips 93 = .ok (.iadd, 1) := by decide +kernel
theorem dX7_slips_94 : decode cX7_slips 94 = .ok (.iaload, 1) := by decide +kernel
theorem dX7_slips_95 : decode cX7_slips 95 = .ok (.istore 6, 2) := by decide +kernel
theorem dX7_slips_97 : decode cX7_slips 97 = .ok (.iload 6, 2) := by decide +kernel
theorem dX7_slips_99 : decode cX7_slips 99 = .ok (.iconst (-1), 1) := by decide +kernel
theorem dX7_slips_100 : decode cX7_slips 100 = .ok (.if_icmp .eq 24, 3) := by decide +kernel
theorem dX7_slips_103 : decode cX7_slips 103 = .ok (.iload 6, 2) := by decide +kernel
theorem dX7_slips_105 : decode cX7_slips 105 = .ok (.aload_n 0, 1) := by decide +kernel
theorem dX7_slips_106 : decode cX7_slips 106 = .ok (.getfield 51, 3) := by decide +kernel
theorem dX7_slips_109 : decode cX7_slips 109 = .ok (.bipush 30, 2) := by decide +kernel
theorem dX7_slips_111 : decode cX7_slips 111 = .ok (.iload_n 2, 1) := by decide +kernel
theorem dX7_slips_112 : decode cX7_slips 112 = .ok (.imul, 1) := by decide +kernel
theorem dX7_slips_113 : decode cX7_slips 113 = .ok (.iload 5, 2) := by decide +kernel
theorem dX7_slips_115 : decode cX7_slips 115 = .ok (.iadd, 1) := by decide +kernel
theorem dX7_slips_116 : decode cX7_slips 116 = .ok (.iaload, 1) := by decide +kernel
theorem dX7_slips_117 : decode cX7_slips 117 = .ok (.if_icmp .ne 7, 3) := by decide +kernel
theorem dX7_slips_120 : decode cX7_slips 120 = .ok (.iconst 1, 1) := by decide +kernel
theorem dX7_slips_121 : decode cX7_slips 121 = .ok (.goto 4, 3) := by decide +kernel
theorem dX7_slips_124 : decode cX7_slips 124 = .ok (.iconst 0, 1) := by decide +kernel
theorem dX7_slips_125 : decode cX7_slips 125 = .ok (.istore 7, 2) := by decide +kernel
theorem dX7_slips_127 : decode cX7_slips 127 = .ok (.iconst 0, 1) := by decide +kernel
theorem dX7_slips_128 : decode cX7_slips 128 = .ok (.istore 8, 2) := by decide +kernel
theorem dX7_slips_130 : decode cX7_slips 130 = .ok (.iload 8, 2) := by decide +kernel
theorem dX7_slips_132 : decode cX7_slips 132 = .ok (.aload_n 0, 1) := by decide +kernel
theorem dX7_slips_133 : decode cX7_slips 133 = .ok (.getfield 180, 3) := by decide +kernel
theorem dX7_slips_136 : decode cX7_slips 136 = .ok (.if_icmp .ge 60, 3) := by decide +kernel
theorem dX7_slips_139 : decode cX7_slips 139 = .ok (.iload 7, 2) := by decide +kernel
theorem dX7_slips_141 : decode cX7_slips 141 = .ok (.aload_n 0, 1) := by decide +kernel
theorem dX7_slips_142 : decode cX7_slips 142 = .ok (.getfield 48, 3) := by decide +kernel
theorem dX7_slips_145 : decode cX7_slips 145 = .ok (.iload 8, 2) := by decide +kernel
theorem dX7_slips_147 : decode cX7_slips 147 = .ok (.iaload, 1) := by decide +kernel
theorem dX7_slips_148 : decode cX7_slips 148 = .ok (.iload_n 3, 1) := by decide +kernel
theorem dX7_slips_149 : decode cX7_slips 149 = .ok (.if_icmp .ge 33, 3) := by decide +kernel
theorem dX7_slips_152 : decode cX7_slips 152 = .ok (.iload 5, 2) := by decide +kernel
theorem dX7_slips_154 : decode cX7_slips 154 = .ok (.aload_n 0, 1) := by decide +kernel
theorem dX7_slips_155 : decode cX7_slips 155 = .ok (.getfield 45, 3) := by decide +kernel
theorem dX7_slips_158 : decode cX7_slips 158 = .ok (.iload 8, 2) := by decide +kernel
theorem dX7_slips_160 : decode cX7_slips 160 = .ok (.iaload, 1) := by decide +kernel
theorem dX7_slips_161 : decode cX7_slips 161 = .ok (.if_icmp .ge 21, 3) := by decide +kernel
theorem dX7_slips_164 : decode cX7_slips 164 = .ok (.aload_n 0, 1) := by decide +kernel
theorem dX7_slips_165 : decode cX7_slips 165 = .ok (.getfield 51, 3) := by decide +kernel
theorem dX7_slips_168 : decode cX7_slips 168 = .ok (.bipush 30, 2) := by decide +kernel
theorem dX7_slips_170 : decode cX7_slips 170 = .ok (.iload 8, 2) := by decide +kernel
theorem dX7_slips_172 : decode cX7_slips 172 = .ok (.imul, 1) := by decide +kernel
theorem dX7_slips_173 : decode cX7_slips 173 = .ok (.iload 5, 2) := by decide +kernel
theorem dX7_slips_175 : decode cX7_slips 175 = .ok (.iadd, 1) := by decide +kernel
theorem dX7_slips_176 : decode cX7_slips 176 = .ok (.iaload, 1) := by decide +kernel
theorem dX7_slips_177 : decode cX7_slips 177 = .ok (.iload 6, 2) := by decide +kernel
theorem dX7_slips_179 : decode cX7_slips 179 = .ok (.if_icmp .eq 7, 3) := by decide +kernel
theorem dX7_slips_182 : decode cX7_slips 182 = .ok (.iconst 1, 1) := by decide +kernel
theorem dX7_slips_183 : decode cX7_slips 183 = .ok (.goto 4, 3) := by decide +kernel
theorem dX7_slips_186 : decode cX7_slips 186 = .ok (.iconst 0, 1) := by decide +kernel
theorem dX7_slips_187 : decode cX7_slips 187 = .ok (.iand, 1) := by decide +kernel
theorem dX7_slips_188 : decode cX7_slips 188 = .ok (.istore 7, 2) := by decide +kernel
theorem dX7_slips_190 : decode cX7_slips 190 = .ok (.iinc 8 1, 3) := by decide +kernel
theorem dX7_slips_193 : decode cX7_slips 193 = .ok (.goto (-63), 3) := by decide +kernel
theorem dX7_slips_196 : decode cX7_slips 196 = .ok (.iload 4, 2) := by decide +kernel
theorem dX7_slips_198 : decode cX7_slips 198 = .ok (.iload 7, 2) := by decide +kernel
theorem dX7_slips_200 : decode cX7_slips 200 = .ok (.ifCond .eq 7, 3) := by decide +kernel
theorem dX7_slips_203 : decode cX7_slips 203 = .ok (.iconst 1, 1) := by decide +kernel
theorem dX7_slips_204 : decode cX7_slips 204 = .ok (.goto 4, 3) := by decide +kernel
theorem dX7_slips_207 : decode cX7_slips 207 = .ok (.iconst 0, 1) := by decide +kernel
theorem dX7_slips_208 : decode cX7_slips 208 = .ok (.iadd, 1) := by decide +kernel
theorem dX7_slips_209 : decode cX7_slips 209 = .ok (.istore 4, 2) := by decide +kernel
theorem dX7_slips_211 : decode cX7_slips 211 = .ok (.iinc 5 1, 3) := by decide +kernel
theorem dX7_slips_214 : decode cX7_slips 214 = .ok (.goto (-153), 3) := by decide +kernel
theorem dX7_slips_217 : decode cX7_slips 217 = .ok (.iload 4, 2) := by decide +kernel
theorem dX7_slips_219 : decode cX7_slips 219 = .ok (.ireturn, 1) := by decide +kernel
theorem dX7_doesFit_0 : decode cX7_doesFit 0 = .ok (.iload 4, 2) := by decide +kernel
theorem dX7_doesFit_2 : decode cX7_doesFit 2 = .ok (.iload_n 2, 1) := by decide +kernel
theorem dX7_doesFit_3 : decode cX7_doesFit 3 = .ok (.iconst 1, 1) := by decide +kernel
theorem dX7_doesFit_4 : decode cX7_doesFit 4 = .ok (.isub, 1) := by decide +kernel
theorem dX7_doesFit_5 : decode cX7_doesFit 5 = .ok (.iload 5, 2) := by decide +kernel
theorem dX7_doesFit_7 : decode cX7_doesFit 7 = .ok (.imul, 1) := by decide +kernel
theorem dX7_doesFit_8 : decode cX7_doesFit 8 = .ok (.iadd, 1) := by decide +kernel
theorem dX7_doesFit_9 : decode cX7_doesFit 9 = .ok (.sipush 400, 3) := by decide +kernel
theorem dX7_doesFit_12 : decode cX7_doesFit 12 = .ok (.if_icmp .le 5, 3) := by decide +kernel
theorem dX7_doesFit_15 : decode cX7_doesFit 15 = .ok (.iconst 0, 1) := by decide +kernel
theorem dX7_doesFit_16 : decode cX7_doesFit 16 = .ok (.ireturn, 1) := by decide +kernel
theorem dX7_doesFit_17 : decode cX7_doesFit 17 = .ok (.iconst 0, 1) := by decide +kernel
theorem dX7_doesFit_18 : decode cX7_doesFit 18 = .ok (.istore 6, 2) := by decide +kernel
theorem dX7_doesFit_20 : decode cX7_doesFit 20 = .ok (.iload 6, 2) := by decide +kernel
theorem dX7_doesFit_22 : decode cX7_doesFit 22 = .ok (.iload_n 2, 1) := by decide +kernel
theorem dX7_doesFit_23 : decode cX7_doesFit 23 = .ok (.if_icmp .ge 56, 3) := by decide +kernel
theorem dX7_doesFit_26 : decode cX7_doesFit 26 = .ok (.aload_n 0, 1) := by decide +kernel
theorem dX7_doesFit_27 : decode cX7_doesFit 27 = .ok (.getfield 69, 3) := by decide +kernel
theorem dX7_doesFit_30 : decode cX7_doesFit 30 = .ok (.bipush 60, 2) := by decide +kernel
theorem dX7_doesFit_32 : decode cX7_doesFit 32 = .ok (.iload_n 1, 1) := by decide +kernel
theorem dX7_doesFit_33 : decode cX7_doesFit 33 = .ok (.imul, 1) := by decide +kernel
theorem dX7_doesFit_34 : decode cX7_doesFit 34 = .ok (.iload 6, 2) := by decide +kernel
theorem dX7_doesFit_36 : decode cX7_doesFit 36 = .ok (.iadd, 1) := by decide +kernel
theorem dX7_doesFit_37 : decode cX7_doesFit 37 = .ok (.iaload, 1) := by decide +kernel
theorem dX7_doesFit_38 : decode cX7_doesFit 38 = .ok (.istore 7, 2) := by decide +kernel
theorem dX7_doesFit_40 : decode cX7_doesFit 40 = .ok (.iload 7, 2) := by decide +kernel
theorem dX7_doesFit_42 : decode cX7_doesFit 42 = .ok (.invokestatic 90, 3) := by decide +kernel
theorem dX7_doesFit_45 : decode cX7_doesFit 45 = .ok (.ifCond .eq 28, 3) := by decide +kernel
theorem dX7_doesFit_48 : decode cX7_doesFit 48 = .ok (.aload_n 0, 1) := by decide +kernel
theorem dX7_doesFit_49 : decode cX7_doesFit 49 = .ok (.iload_n 3, 1) := by decide +kernel
theorem dX7_doesFit_50 : decode cX7_doesFit 50 = .ok (.aload_n 0, 1) := by decide +kernel
theorem dX7_doesFit_51 : decode cX7_doesFit 51 = .ok (.iload_n 3, 1) := by decide +kernel
theorem dX7_doesFit_52 : decode cX7_doesFit 52 = .ok (.iload 4, 2) := by decide +kernel
theorem dX7_doesFit_54 : decode cX7_doesFit 54 = .ok (.iload 6, 2) := by decide +kernel
theorem dX7_doesFit_56 : decode cX7_doesFit 56 = .ok (.iload 5, 2) := by decide +kernel
theorem dX7_doesFit_58 : decode cX7_doesFit 58 = .ok (.imul, 1) := by decide +kernel
theorem dX7_doesFit_59 : decode cX7_doesFit 59 = .ok (.iadd, 1) := by decide +kernel
theorem dX7_doesFit_60 : decode cX7_doesFit 60 = .ok (.invokevirtual 115, 3) := by decide +kernel
theorem dX7_doesFit_63 : decode cX7_doesFit 63 = .ok (.invokevirtual 106, 3) := by decide +kernel
theorem dX7_doesFit_66 : decode cX7_doesFit 66 = .ok (.iload 7, 2) := by decide +kernel
theorem dX7_doesFit_68 : decode cX7_doesFit 68 = .ok (.if_icmp .eq 5, 3) := by decide +kernel
theorem dX7_doesFit_71 : decode cX7_doesFit 71 = .ok (.iconst 0, 1) := by decide +kernel
theorem dX7_doesFit_72 : decode cX7_doesFit 72 = .ok (.ireturn, 1) := by decide +kernel
theorem dX7_doesFit_73 : decode cX7_doesFit 73 = .ok (.iinc 6 1, 3) := by decide +kernel
theorem dX7_doesFit_76 : decode cX7_doesFit 76 = .ok (.goto (-56), 3) := by decide +kernel
theorem dX7_doesFit_79 : decode cX7_doesFit 79 = .ok (.iconst 1, 1) := by decide +kernel
theorem dX7_doesFit_80 : decode cX7_doesFit 80 = .ok (.ireturn, 1) := by decide +kernel
theorem dX7_refuses_0 : decode cX7_refuses 0 = .ok (.iload_n 1, 1) := by decide +kernel
theorem dX7_refuses_1 : decode cX7_refuses 1 = .ok (.invokestatic 82, 3) := by decide +kernel
theorem dX7_refuses_4 : decode cX7_refuses 4 = .ok (.ifCond .eq 13, 3) := by decide +kernel
theorem dX7_refuses_7 : decode cX7_refuses 7 = .ok (.iload_n 2, 1) := by decide +kernel
theorem dX7_refuses_8 : decode cX7_refuses 8 = .ok (.iconst 1, 1) := by decide +kernel
theorem dX7_refuses_9 : decode cX7_refuses 9 = .ok (.bipush 30, 2) := by decide +kernel
theorem dX7_refuses_11 : decode cX7_refuses 11 = .ok (.invokestatic 75, 3) := by decide +kernel
theorem dX7_refuses_14 : decode cX7_refuses 14 = .ok (.ifCond .ne 6, 3) := by decide +kernel
theorem dX7_refuses_17 : decode cX7_refuses 17 = .ok (.bipush (-2), 2) := by decide +kernel
theorem dX7_refuses_19 : decode cX7_refuses 19 = .ok (.ireturn, 1) := by decide +kernel
theorem dX7_refuses_20 : decode cX7_refuses 20 = .ok (.aload_n 0, 1) := by decide +kernel
theorem dX7_refuses_21 : decode cX7_refuses 21 = .ok (.getfield 60, 3) := by decide +kernel
theorem dX7_refuses_24 : decode cX7_refuses 24 = .ok (.iload_n 1, 1) := by decide +kernel
theorem dX7_refuses_25 : decode cX7_refuses 25 = .ok (.baload, 1) := by decide +kernel
theorem dX7_refuses_26 : decode cX7_refuses 26 = .ok (.ifCond .ne 11, 3) := by decide +kernel
theorem dX7_refuses_29 : decode cX7_refuses 29 = .ok (.aload_n 0, 1) := by decide +kernel
theorem dX7_refuses_30 : decode cX7_refuses 30 = .ok (.iconst 1, 1) := by decide +kernel
theorem dX7_refuses_31 : decode cX7_refuses 31 = .ok (.invokevirtual 86, 3) := by decide +kernel
theorem dX7_refuses_34 : decode cX7_refuses 34 = .ok (.goto 22, 3) := by decide +kernel
theorem dX7_refuses_37 : decode cX7_refuses 37 = .ok (.aload_n 0, 1) := by decide +kernel
theorem dX7_refuses_38 : decode cX7_refuses 38 = .ok (.getfield 66, 3) := by decide +kernel
theorem dX7_refuses_41 : decode cX7_refuses 41 = .ok (.iload_n 1, 1) := by decide +kernel
theorem dX7_refuses_42 : decode cX7_refuses 42 = .ok (.iaload, 1) := by decide +kernel
theorem dX7_refuses_43 : decode cX7_refuses 43 = .ok (.iload_n 2, 1) := by decide +kernel
theorem dX7_refuses_44 : decode cX7_refuses 44 = .ok (.if_icmp .ge 11, 3) := by decide +kernel
theorem dX7_refuses_47 : decode cX7_refuses 47 = .ok (.aload_n 0, 1) := by decide +kernel
theorem dX7_refuses_48 : decode cX7_refuses 48 = .ok (.iconst 2, 1) := by decide +kernel
theorem dX7_refuses_49 : decode cX7_refuses 49 = .ok (.invokevirtual 86, 3) := by decide +kernel
theorem dX7_refuses_52 : decode cX7_refuses 52 = .ok (.goto 4, 3) := by decide +kernel
theorem dX7_refuses_55 : decode cX7_refuses 55 = .ok (.iconst 0, 1) := by decide +kernel
theorem dX7_refuses_56 : decode cX7_refuses 56 = .ok (.ireturn, 1) := by decide +kernel
theorem dX7_readingOf_0 : decode cX7_readingOf 0 = .ok (.aload_n 0, 1) := by decide +kernel
theorem dX7_readingOf_1 : decode cX7_readingOf 1 = .ok (.iconst 0, 1) := by decide +kernel
theorem dX7_readingOf_2 : decode cX7_readingOf 2 = .ok (.putfield 211, 3) := by decide +kernel
theorem dX7_readingOf_5 : decode cX7_readingOf 5 = .ok (.iconst 0, 1) := by decide +kernel
theorem dX7_readingOf_6 : decode cX7_readingOf 6 = .ok (.istore 4, 2) := by decide +kernel
theorem dX7_readingOf_8 : decode cX7_readingOf 8 = .ok (.iload 4, 2) := by decide +kernel
theorem dX7_readingOf_10 : decode cX7_readingOf 10 = .ok (.aload_n 0, 1) := by decide +kernel
theorem dX7_readingOf_11 : decode cX7_readingOf 11 = .ok (.getfield 79, 3) := by decide +kernel
theorem dX7_readingOf_14 : decode cX7_readingOf 14 = .ok (.if_icmp .ge 90, 3) := by decide +kernel
theorem dX7_readingOf_17 : decode cX7_readingOf 17 = .ok (.iconst 1, 1) := by decide +kernel
theorem dX7_readingOf_18 : decode cX7_readingOf 18 = .ok (.istore 5, 2) := by decide +kernel
theorem dX7_readingOf_20 : decode cX7_readingOf 20 = .ok (.iload 5, 2) := by decide +kernel
theorem dX7_readingOf_22 : decode cX7_readingOf 22 = .ok (.bipush 100, 2) := by decide +kernel
theorem dX7_readingOf_24 : decode cX7_readingOf 24 = .ok (.if_icmp .ge 74, 3) := by decide +kernel
theorem dX7_readingOf_27 : decode cX7_readingOf 27 = .ok (.iconst 1, 1) := by decide +kernel
theorem dX7_readingOf_28 : decode cX7_readingOf 28 = .ok (.istore 6, 2) := by decide +kernel
theorem dX7_readingOf_30 : decode cX7_readingOf 30 = .ok (.iload 6, 2) := by decide +kernel
theorem dX7_readingOf_32 : decode cX7_readingOf 32 = .ok (.bipush 21, 2) := by decide +kernel
theorem dX7_readingOf_34 : decode cX7_readingOf 34 = .ok (.if_icmp .ge 58, 3) := by decide +kernel
theorem dX7_readingOf_37 : decode cX7_readingOf 37 = .ok (.aload_n 0, 1) := by decide +kernel
theorem dX7_readingOf_38 : decode cX7_readingOf 38 = .ok (.iload_n 1, 1) := by decide +kernel
theorem dX7_readingOf_39 : decode cX7_readingOf 39 = .ok (.iload_n 2, 1) := by decide +kernel
theorem dX7_readingOf_40 : decode cX7_readingOf 40 = .ok (.iload 4, 2) := by decide +kernel
theorem dX7_readingOf_42 : decode cX7_readingOf 42 = .ok (.iload 5, 2) := by decide +kernel
theorem dX7_readingOf_44 : decode cX7_readingOf 44 = .ok (.iload 6, 2) := by decide +kernel
theorem dX7_readingOf_46 : decode cX7_readingOf 46 = .ok (.invokevirtual 214, 3) := by decide +kernel
theorem dX7_readingOf_49 : decode cX7_readingOf 49 = .ok (.ifCond .eq 37, 3) := by decide +kernel
theorem dX7_readingOf_52 : decode cX7_readingOf 52 = .ok (.aload_n 0, 1) := by decide +kernel
theorem dX7_readingOf_53 : decode cX7_readingOf 53 = .ok (.getfield 211, 3) := by decide +kernel
theorem dX7_readingOf_56 : decode cX7_readingOf 56 = .ok (.iload_n 3, 1) := by decide +kernel
theorem dX7_readingOf_57 : decode cX7_readingOf 57 = .ok (.if_icmp .ne 19, 3) := by decide +kernel
theorem dX7_readingOf_60 : decode cX7_readingOf 60 = .ok (.ldc 217, 2) := by decide +kernel
theorem dX7_readingOf_62 : decode cX7_readingOf 62 = .ok (.iload 4, 2) := by decide +kernel
theorem dX7_readingOf_64 : decode cX7_readingOf 64 = .ok (.imul, 1) := by decide +kernel
theorem dX7_readingOf_65 : decode cX7_readingOf 65 = .ok (.sipush 1000, 3) := by decide +kernel
theorem dX7_readingOf_68 : decode cX7_readingOf 68 = .ok (.iload 6, 2) := by decide +kernel
theorem dX7_readingOf_70 : decode cX7_readingOf 70 = .ok (.imul, 1) := by decide +kernel
theorem dX7_readingOf_71 : decode cX7_readingOf 71 = .ok (.iadd, 1) := by decide +kernel
theorem dX7_readingOf_72 : decode cX7_readingOf 72 = .ok (.iload 5, 2) := by decide +kernel
theorem dX7_readingOf_74 : decode cX7_readingOf 74 = .ok (.iadd, 1) := by decide +kernel
theorem dX7_readingOf_75 : decode cX7_readingOf 75 = .ok (.ireturn, 1) := by decide +kernel
theorem dX7_readingOf_76 : decode cX7_readingOf 76 = .ok (.aload_n 0, 1) := by decide +kernel
theorem dX7_readingOf_77 : decode cX7_readingOf 77 = .ok (.dup, 1) := by decide +kernel
theorem dX7_readingOf_78 : decode cX7_readingOf 78 = .ok (.getfield 211, 3) := by decide +kernel
theorem dX7_readingOf_81 : decode cX7_readingOf 81 = .ok (.iconst 1, 1) := by decide +kernel
theorem dX7_readingOf_82 : decode cX7_readingOf 82 = .ok (.iadd, 1) := by decide +kernel
theorem dX7_readingOf_83 : decode cX7_readingOf 83 = .ok (.putfield 211, 3) := by decide +kernel
theorem dX7_readingOf_86 : decode cX7_readingOf 86 = .ok (.iinc 6 1, 3) := by decide +kernel
theorem dX7_readingOf_89 : decode cX7_readingOf 89 = .ok (.goto (-59), 3) := by decide +kernel
theorem dX7_readingOf_92 : decode cX7_readingOf 92 = .ok (.iinc 5 1, 3) := by decide +kernel
theorem dX7_readingOf_95 : decode cX7_readingOf 95 = .ok (.goto (-75), 3) := by decide +kernel
theorem dX7_readingOf_98 : decode cX7_readingOf 98 = .ok (.iinc 4 1, 3) := by decide +kernel
theorem dX7_readingOf_101 : decode cX7_readingOf 101 = .ok (.goto (-93), 3) := by decide +kernel
theorem dX7_readingOf_104 : decode cX7_readingOf 104 = .ok (.iconst (-1), 1) := by decide +kernel
theorem dX7_readingOf_105 : decode cX7_readingOf 105 = .ok (.ireturn, 1) := by decide +kernel
theorem dX7_readings_0 : decode cX7_readings 0 = .ok (.aload_n 0, 1) := by decide +kernel
theorem dX7_readings_1 : decode cX7_readings 1 = .ok (.iload_n 1, 1) := by decide +kernel
theorem dX7_readings_2 : decode cX7_readings 2 = .ok (.iload_n 2, 1) := by decide +kernel
theorem dX7_readings_3 : decode cX7_readings 3 = .ok (.invokevirtual 218, 3) := by decide +kernel
theorem dX7_readings_6 : decode cX7_readings 6 = .ok (.istore_n 3, 1) := by decide +kernel
theorem dX7_readings_7 : decode cX7_readings 7 = .ok (.iload_n 3, 1) := by decide +kernel
theorem dX7_readings_8 : decode cX7_readings 8 = .ok (.ifCond .eq 5, 3) := by decide +kernel
theorem dX7_readings_11 : decode cX7_readings 11 = .ok (.iload_n 3, 1) := by decide +kernel
theorem dX7_readings_12 : decode cX7_readings 12 = .ok (.ireturn, 1) := by decide +kernel
theorem dX7_readings_13 : decode cX7_readings 13 = .ok (.aload_n 0, 1) := by decide +kernel
theorem dX7_readings_14 : decode cX7_readings 14 = .ok (.iload_n 1, 1) := by decide +kernel
theorem dX7_readings_15 : decode cX7_readings 15 = .ok (.iload_n 2, 1) := by decide +kernel
theorem dX7_readings_16 : decode cX7_readings 16 = .ok (.iconst (-1), 1) := by decide +kernel
theorem dX7_readings_17 : decode cX7_readings 17 = .ok (.invokevirtual 221, 3) := by decide +kernel
theorem dX7_readings_20 : decode cX7_readings 20 = .ok (.istore 4, 2) := by decide +kernel
theorem dX7_readings_22 : decode cX7_readings 22 = .ok (.aload_n 0, 1) := by decide +kernel
theorem dX7_readings_23 : decode cX7_readings 23 = .ok (.getfield 211, 3) := by decide +kernel
theorem dX7_readings_26 : decode cX7_readings 26 = .ok (.ireturn, 1) := by decide +kernel
theorem dX7_reading_0 : decode cX7_reading 0 = .ok (.iload_n 3, 1) := by decide +kernel
theorem dX7_reading_1 : decode cX7_reading 1 = .ok (.ifCond .ge 6, 3) := by decide +kernel
theorem dX7_reading_4 : decode cX7_reading 4 = .ok (.bipush (-2), 2) := by decide +kernel
theorem dX7_reading_6 : decode cX7_reading 6 = .ok (.ireturn, 1) := by decide +kernel
theorem dX7_reading_7 : decode cX7_reading 7 = .ok (.aload_n 0, 1) := by decide +kernel
theorem dX7_reading_8 : decode cX7_reading 8 = .ok (.iload_n 1, 1) := by decide +kernel
theorem dX7_reading_9 : decode cX7_reading 9 = .ok (.iload_n 2, 1) := by decide +kernel
theorem dX7_reading_10 : decode cX7_reading 10 = .ok (.invokevirtual 218, 3) := by decide +kernel
theorem dX7_reading_13 : decode cX7_reading 13 = .ok (.istore 4, 2) := by decide +kernel
theorem dX7_reading_15 : decode cX7_reading 15 = .ok (.iload 4, 2) := by decide +kernel
theorem dX7_reading_17 : decode cX7_reading 17 = .ok (.ifCond .eq 8, 3) := by decide +kernel
theorem dX7_reading_20 : decode cX7_reading 20 = .ok (.iload 4, 2) := by decide +kernel
theorem dX7_reading_22 : decode cX7_reading 22 = .ok (.goto 10, 3) := by decide +kernel
theorem dX7_reading_25 : decode cX7_reading 25 = .ok (.aload_n 0, 1) := by decide +kernel
theorem dX7_reading_26 : decode cX7_reading 26 = .ok (.iload_n 1, 1) := by decide +kernel
theorem dX7_reading_27 : decode cX7_reading 27 = .ok (.iload_n 2, 1) := by decide +kernel
theorem dX7_reading_28 : decode cX7_reading 28 = .ok (.iload_n 3, 1) := by decide +kernel
theorem dX7_reading_29 : decode cX7_reading 29 = .ok (.invokevirtual 221, 3) := by decide +kernel
theorem dX7_reading_32 : decode cX7_reading 32 = .ok (.ireturn, 1) := by decide +kernel
theorem dX7_fits_0 : decode cX7_fits 0 = .ok (.aload_n 0, 1) := by decide +kernel
theorem dX7_fits_1 : decode cX7_fits 1 = .ok (.iload_n 3, 1) := by decide +kernel
theorem dX7_fits_2 : decode cX7_fits 2 = .ok (.invokevirtual 93, 3) := by decide +kernel
theorem dX7_fits_5 : decode cX7_fits 5 = .ok (.ifCond .eq 25, 3) := by decide +kernel
theorem dX7_fits_8 : decode cX7_fits 8 = .ok (.iload 4, 2) := by decide +kernel
theorem dX7_fits_10 : decode cX7_fits 10 = .ok (.iconst 1, 1) := by decide +kernel
theorem dX7_fits_11 : decode cX7_fits 11 = .ok (.bipush 99, 2) := by decide +kernel
theorem dX7_fits_13 : decode cX7_fits 13 = .ok (.invokestatic 75, 3) := by decide +kernel
theorem dX7_fits_16 : decode cX7_fits 16 = .ok (.ifCond .eq 14, 3) := by decide +kernel
theorem dX7_fits_19 : decode cX7_fits 19 = .ok (.iload 5, 2) := by decide +kernel
theorem dX7_fits_21 : decode cX7_fits 21 = .ok (.iconst 1, 1) := by decide +kernel
theorem dX7_fits_22 : decode cX7_fits 22 = .ok (.bipush 20, 2) := by decide +kernel
theorem dX7_fits_24 : decode cX7_fits 24 = .ok (.invokestatic 75, 3) := by decide +kernel
theorem dX7_fits_27 : decode cX7_fits 27 = .ok (.ifCond .ne 6, 3) := by decide +kernel
theorem dX7_fits_30 : decode cX7_fits 30 = .ok (.bipush (-2), 2) := by decide +kernel
theorem dX7_fits_32 : decode cX7_fits 32 = .ok (.ireturn, 1) := by decide +kernel
theorem dX7_fits_33 : decode cX7_fits 33 = .ok (.aload_n 0, 1) := by decide +kernel
theorem dX7_fits_34 : decode cX7_fits 34 = .ok (.iload_n 1, 1) := by decide +kernel
theorem dX7_fits_35 : decode cX7_fits 35 = .ok (.iload_n 2, 1) := by decide +kernel
theorem dX7_fits_36 : decode cX7_fits 36 = .ok (.invokevirtual 218, 3) := by decide +kernel
theorem dX7_fits_39 : decode cX7_fits 39 = .ok (.istore 6, 2) := by decide +kernel
theorem dX7_fits_41 : decode cX7_fits 41 = .ok (.iload 6, 2) := by decide +kernel
theorem dX7_fits_43 : decode cX7_fits 43 = .ok (.ifCond .eq 8, 3) := by decide +kernel
theorem dX7_fits_46 : decode cX7_fits 46 = .ok (.iload 6, 2) := by decide +kernel
theorem dX7_fits_48 : decode cX7_fits 48 = .ok (.goto 22, 3) := by decide +kernel
theorem dX7_fits_51 : decode cX7_fits 51 = .ok (.aload_n 0, 1) := by decide +kernel
theorem dX7_fits_52 : decode cX7_fits 52 = .ok (.iload_n 1, 1) := by decide +kernel
theorem dX7_fits_53 : decode cX7_fits 53 = .ok (.iload_n 2, 1) := by decide +kernel
theorem dX7_fits_54 : decode cX7_fits 54 = .ok (.iload_n 3, 1) := by decide +kernel
theorem dX7_fits_55 : decode cX7_fits 55 = .ok (.iload 4, 2) := by decide +kernel
theorem dX7_fits_57 : decode cX7_fits 57 = .ok (.iload 5, 2) := by decide +kernel
theorem dX7_fits_59 : decode cX7_fits 59 = .ok (.invokevirtual 214, 3) := by decide +kernel
theorem dX7_fits_62 : decode cX7_fits 62 = .ok (.ifCond .eq 7, 3) := by decide +kernel
theorem dX7_fits_65 : decode cX7_fits 65 = .ok (.iconst 1, 1) := by decide +kernel
theorem dX7_fits_66 : decode cX7_fits 66 = .ok (.goto 4, 3) := by decide +kernel
theorem dX7_fits_69 : decode cX7_fits 69 = .ok (.iconst 0, 1) := by decide +kernel
theorem dX7_fits_70 : decode cX7_fits 70 = .ok (.ireturn, 1) := by decide +kernel
theorem dX7_type_0 : decode cX7_type 0 = .ok (.iload_n 1, 1) := by decide +kernel
theorem dX7_type_1 : decode cX7_type 1 = .ok (.iconst 0, 1) := by decide +kernel
theorem dX7_type_2 : decode cX7_type 2 = .ok (.sipush 255, 3) := by decide +kernel
theorem dX7_type_5 : decode cX7_type 5 = .ok (.invokestatic 75, 3) := by decide +kernel
theorem dX7_type_8 : decode cX7_type 8 = .ok (.ifCond .ne 6, 3) := by decide +kernel
theorem dX7_type_11 : decode cX7_type 11 = .ok (.bipush (-2), 2) := by decide +kernel
theorem dX7_type_13 : decode cX7_type 13 = .ok (.ireturn, 1) := by decide +kernel
theorem dX7_type_14 : decode cX7_type 14 = .ok (.aload_n 0, 1) := by decide +kernel
theorem dX7_type_15 : decode cX7_type 15 = .ok (.getfield 224, 3) := by decide +kernel
theorem dX7_type_18 : decode cX7_type 18 = .ok (.bipush 60, 2) := by decide +kernel
theorem dX7_type_20 : decode cX7_type 20 = .ok (.if_icmp .ne 6, 3) := by decide +kernel
theorem dX7_type_23 : decode cX7_type 23 = .ok (.bipush (-4), 2) := by decide +kernel
theorem dX7_type_25 : decode cX7_type 25 = .ok (.ireturn, 1) := by decide +kernel
theorem dX7_type_26 : decode cX7_type 26 = .ok (.aload_n 0, 1) := by decide +kernel
theorem dX7_type_27 : decode cX7_type 27 = .ok (.getfield 57, 3) := by decide +kernel
theorem dX7_type_30 : decode cX7_type 30 = .ok (.aload_n 0, 1) := by decide +kernel
theorem dX7_type_31 : decode cX7_type 31 = .ok (.getfield 224, 3) := by decide +kernel
theorem dX7_type_34 : decode cX7_type 34 = .ok (.iload_n 1, 1) := by decide +kernel
theorem dX7_type_35 : decode cX7_type 35 = .ok (.iastore, 1) := by decide +kernel
theorem dX7_type_36 : decode cX7_type 36 = .ok (.aload_n 0, 1) := by decide +kernel
theorem dX7_type_37 : decode cX7_type 37 = .ok (.dup, 1) := by decide +kernel
theorem dX7_type_38 : decode cX7_type 38 = .ok (.getfield 224, 3) := by decide +kernel
theorem dX7_type_41 : decode cX7_type 41 = .ok (.iconst 1, 1) := by decide +kernel
theorem dX7_type_42 : decode cX7_type 42 = .ok (.iadd, 1) := by decide +kernel
theorem dX7_type_43 : decode cX7_type 43 = .ok (.putfield 224, 3) := by decide +kernel
theorem dX7_type_46 : decode cX7_type 46 = .ok (.aload_n 0, 1) := by decide +kernel
theorem dX7_type_47 : decode cX7_type 47 = .ok (.getfield 224, 3) := by decide +kernel
theorem dX7_type_50 : decode cX7_type 50 = .ok (.ireturn, 1) := by decide +kernel
theorem dX7_hush_0 : decode cX7_hush 0 = .ok (.aload_n 0, 1) := by decide +kernel
theorem dX7_hush_1 : decode cX7_hush 1 = .ok (.getfield 224, 3) := by decide +kernel
theorem dX7_hush_4 : decode cX7_hush 4 = .ok (.istore_n 1, 1) := by decide +kernel
theorem dX7_hush_5 : decode cX7_hush 5 = .ok (.aload_n 0, 1) := by decide +kernel
theorem dX7_hush_6 : decode cX7_hush 6 = .ok (.iconst 0, 1) := by decide +kernel
theorem dX7_hush_7 : decode cX7_hush 7 = .ok (.putfield 224, 3) := by decide +kernel
theorem dX7_hush_10 : decode cX7_hush 10 = .ok (.iload_n 1, 1) := by decide +kernel
theorem dX7_hush_11 : decode cX7_hush 11 = .ok (.ireturn, 1) := by decide +kernel
theorem dX7_byteAt_0 : decode cX7_byteAt 0 = .ok (.iload_n 1, 1) := by decide +kernel
theorem dX7_byteAt_1 : decode cX7_byteAt 1 = .ok (.aload_n 0, 1) := by decide +kernel
theorem dX7_byteAt_2 : decode cX7_byteAt 2 = .ok (.getfield 224, 3) := by decide +kernel
theorem dX7_byteAt_5 : decode cX7_byteAt 5 = .ok (.if_icmp .ge 12, 3) := by decide +kernel
theorem dX7_byteAt_8 : decode cX7_byteAt 8 = .ok (.aload_n 0, 1) := by decide +kernel
theorem dX7_byteAt_9 : decode cX7_byteAt 9 = .ok (.getfield 57, 3) := by decide +kernel
theorem dX7_byteAt_12 : decode cX7_byteAt 12 = .ok (.iload_n 1, 1) := by decide +kernel
theorem dX7_byteAt_13 : decode cX7_byteAt 13 = .ok (.iaload, 1) := by decide +kernel
theorem dX7_byteAt_14 : decode cX7_byteAt 14 = .ok (.goto 4, 3) := by decide +kernel
theorem dX7_byteAt_17 : decode cX7_byteAt 17 = .ok (.iconst (-1), 1) := by decide +kernel
theorem dX7_byteAt_18 : decode cX7_byteAt 18 = .ok (.ireturn, 1) := by decide +kernel
theorem dX7_figures_0 : decode cX7_figures 0 = .ok (.aload_n 0, 1) := by decide +kernel
theorem dX7_figures_1 : decode cX7_figures 1 = .ok (.getfield 227, 3) := by decide +kernel
theorem dX7_figures_4 : decode cX7_figures 4 = .ok (.istore_n 1, 1) := by decide +kernel
theorem dX7_figures_5 : decode cX7_figures 5 = .ok (.iconst 0, 1) := by decide +kernel
theorem dX7_figures_6 : decode cX7_figures 6 = .ok (.istore_n 2, 1) := by decide +kernel
theorem dX7_figures_7 : decode cX7_figures 7 = .ok (.aload_n 0, 1) := by decide +kernel
theorem dX7_figures_8 : decode cX7_figures 8 = .ok (.getfield 227, 3) := by decide +kernel
theorem dX7_figures_11 : decode cX7_figures 11 = .ok (.iload_n 1, 1) := by decide +kernel
theorem dX7_figures_12 : decode cX7_figures 12 = .ok (.iconst 2, 1) := by decide +kernel
theorem dX7_figures_13 : decode cX7_figures 13 = .ok (.iadd, 1) := by decide +kernel
theorem dX7_figures_14 : decode cX7_figures 14 = .ok (.if_icmp .ge 59, 3) := by decide +kernel
theorem dX7_figures_17 : decode cX7_figures 17 = .ok (.aload_n 0, 1) := by decide +kernel
theorem dX7_figures_18 : decode cX7_figures 18 = .ok (.aload_n 0, 1) := by decide +kernel
theorem dX7_figures_19 : decode cX7_figures 19 = .ok (.getfield 227, 3) := by decide +kernel
theorem dX7_figures_22 : decode cX7_figures 22 = .ok (.invokevirtual 230, 3) := by decide +kernel
theorem dX7_figures_25 : decode cX7_figures 25 = .ok (.bipush 48, 2) := by decide +kernel
theorem dX7_figures_27 : decode cX7_figures 27 = .ok (.if_icmp .lt 46, 3) := by decide +kernel
theorem dX7_figures_30 : decode cX7_figures 30 = .ok (.aload_n 0, 1) := by decide +kernel
theorem dX7_figures_31 : decode cX7_figures 31 = .ok (.aload_n 0, 1) := by decide +kernel
theorem dX7_figures_32 : decode cX7_figures 32 = .ok (.getfield 227, 3) := by decide +kernel
theorem dX7_figures_35 : decode cX7_figures 35 = .ok (.invokevirtual 230, 3) := by decide +kernel
theorem dX7_figures_38 : decode cX7_figures 38 = .ok (.bipush 57, 2) := by decide +kernel
theorem dX7_figures_40 : decode cX7_figures 40 = .ok (.if_icmp .gt 33, 3) := by decide +kernel
theorem dX7_figures_43 : decode cX7_figures 43 = .ok (.bipush 10, 2) := by decide +kernel
theorem dX7_figures_45 : decode cX7_figures 45 = .ok (.iload_n 2, 1) := by decide +kernel
theorem dX7_figures_46 : decode cX7_figures 46 = .ok (.imul, 1) := by decide +kernel
theorem dX7_figures_47 : decode cX7_figures 47 = .ok (.aload_n 0, 1) := by decide +kernel
theorem dX7_figures_48 : decode cX7_figures 48 = .ok (.aload_n 0, 1) := by decide +kernel
theorem dX7_figures_49 : decode cX7_figures 49 = .ok (.getfield 227, 3) := by decide +kernel
theorem dX7_figures_52 : decode cX7_figures 52 = .ok (.invokevirtual 230, 3) := by decide +kernel
theorem dX7_figures_55 : decode cX7_figures 55 = .ok (.iadd, 1) := by decide +kernel
theorem dX7_figures_56 : decode cX7_figures 56 = .ok (.bipush 48, 2) := by decide +kernel
theorem dX7_figures_58 : decode cX7_figures 58 = .ok (.isub, 1) := by decide +kernel
theorem dX7_figures_59 : decode cX7_figures 59 = .ok (.istore_n 2, 1) := by decide +kernel
theorem dX7_figures_60 : decode cX7_figures 60 = .ok (.aload_n 0, 1) := by decide +kernel
theorem dX7_figures_61 : decode cX7_figures 61 = .ok (.dup, 1) := by decide +kernel
theorem dX7_figures_62 : decode cX7_figures 62 = .ok (.getfield 227, 3) := by decide +kernel
theorem dX7_figures_65 : decode cX7_figures 65 = .ok (.iconst 1, 1) := by decide +kernel
theorem dX7_figures_66 : decode cX7_figures 66 = .ok (.iadd, 1) := by decide +kernel
theorem dX7_figures_67 : decode cX7_figures 67 = .ok (.putfield 227, 3) := by decide +kernel
theorem dX7_figures_70 : decode cX7_figures 70 = .ok (.goto (-63), 3) := by decide +kernel
theorem dX7_figures_73 : decode cX7_figures 73 = .ok (.aload_n 0, 1) := by decide +kernel
theorem dX7_figures_74 : decode cX7_figures 74 = .ok (.getfield 227, 3) := by decide +kernel
theorem dX7_figures_77 : decode cX7_figures 77 = .ok (.iload_n 1, 1) := by decide +kernel
theorem dX7_figures_78 : decode cX7_figures 78 = .ok (.if_icmp .ne 7, 3) := by decide +kernel
theorem dX7_figures_81 : decode cX7_figures 81 = .ok (.iconst (-1), 1) := by decide +kernel
theorem dX7_figures_82 : decode cX7_figures 82 = .ok (.goto 4, 3) := by decide +kernel
theorem dX7_figures_85 : decode cX7_figures 85 = .ok (.iload_n 2, 1) := by decide +kernel
theorem dX7_figures_86 : decode cX7_figures 86 = .ok (.ireturn, 1) := by decide +kernel
theorem dX7_says_0 : decode cX7_says 0 = .ok (.aload_n 0, 1) := by decide +kernel
theorem dX7_says_1 : decode cX7_says 1 = .ok (.iconst 0, 1) := by decide +kernel
theorem dX7_says_2 : decode cX7_says 2 = .ok (.putfield 233, 3) := by decide +kernel
theorem dX7_says_5 : decode cX7_says 5 = .ok (.aload_n 0, 1) := by decide +kernel
theorem dX7_says_6 : decode cX7_says 6 = .ok (.aload_n 0, 1) := by decide +kernel
theorem dX7_says_7 : decode cX7_says 7 = .ok (.getfield 227, 3) := by decide +kernel
theorem dX7_says_10 : decode cX7_says 10 = .ok (.invokevirtual 230, 3) := by decide +kernel
theorem dX7_says_13 : decode cX7_says 13 = .ok (.bipush 109, 2) := by decide +kernel
theorem dX7_says_15 : decode cX7_says 15 = .ok (.if_icmp .ne 34, 3) := by decide +kernel
theorem dX7_says_18 : decode cX7_says 18 = .ok (.aload_n 0, 1) := by decide +kernel
theorem dX7_says_19 : decode cX7_says 19 = .ok (.dup, 1) := by decide +kernel
theorem dX7_says_20 : decode cX7_says 20 = .ok (.getfield 227, 3) := by decide +kernel
theorem dX7_says_23 : decode cX7_says 23 = .ok (.iconst 1, 1) := by decide +kernel
theorem dX7_says_24 : decode cX7_says 24 = .ok (.iadd, 1) := by decide +kernel
theorem dX7_says_25 : decode cX7_says 25 = .ok (.putfield 227, 3) := by decide +kernel
theorem dX7_says_28 : decode cX7_says 28 = .ok (.aload_n 0, 1) := by decide +kernel
theorem dX7_says_29 : decode cX7_says 29 = .ok (.aload_n 0, 1) := by decide +kernel
theorem dX7_says_30 : decode cX7_says 30 = .ok (.invokevirtual 236, 3) := by decide +kernel
theorem dX7_says_33 : decode cX7_says 33 = .ok (.putfield 233, 3) := by decide +kernel
theorem dX7_says_36 : decode cX7_says 36 = .ok (.aload_n 0, 1) := by decide +kernel
theorem dX7_says_37 : decode cX7_says 37 = .ok (.getfield 233, 3) := by decide +kernel
theorem dX7_says_40 : decode cX7_says 40 = .ok (.iconst (-1), 1) := by decide +kernel
theorem dX7_says_41 : decode cX7_says 41 = .ok (.if_icmp .ne 8, 3) := by decide +kernel
theorem dX7_says_44 : decode cX7_says 44 = .ok (.aload_n 0, 1) := by decide +kernel
theorem dX7_says_45 : decode cX7_says 45 = .ok (.getfield 227, 3) := by decide +kernel
theorem dX7_says_48 : decode cX7_says 48 = .ok (.ireturn, 1) := by decide +kernel
theorem dX7_says_49 : decode cX7_says 49 = .ok (.aload_n 0, 1) := by decide +kernel
theorem dX7_says_50 : decode cX7_says 50 = .ok (.aload_n 0, 1) := by decide +kernel
theorem dX7_says_51 : decode cX7_says 51 = .ok (.getfield 227, 3) := by decide +kernel
theorem dX7_says_54 : decode cX7_says 54 = .ok (.invokevirtual 230, 3) := by decide +kernel
theorem dX7_says_57 : decode cX7_says 57 = .ok (.bipush 112, 2) := by decide +kernel
theorem dX7_says_59 : decode cX7_says 59 = .ok (.if_icmp .eq 8, 3) := by decide +kernel
theorem dX7_says_62 : decode cX7_says 62 = .ok (.aload_n 0, 1) := by decide +kernel
theorem dX7_says_63 : decode cX7_says 63 = .ok (.getfield 227, 3) := by decide +kernel
theorem dX7_says_66 : decode cX7_says 66 = .ok (.ireturn, 1) := by decide +kernel
theorem dX7_says_67 : decode cX7_says 67 = .ok (.aload_n 0, 1) := by decide +kernel
theorem dX7_says_68 : decode cX7_says 68 = .ok (.dup, 1) := by decide +kernel
theorem dX7_says_69 : decode cX7_says 69 = .ok (.getfield 227, 3) := by decide +kernel
theorem dX7_says_72 : decode cX7_says 72 = .ok (.iconst 1, 1) := by decide +kernel
theorem dX7_says_73 : decode cX7_says 73 = .ok (.iadd, 1) := by decide +kernel
theorem dX7_says_74 : decode cX7_says 74 = .ok (.putfield 227, 3) := by decide +kernel
theorem dX7_says_77 : decode cX7_says 77 = .ok (.aload_n 0, 1) := by decide +kernel
theorem dX7_says_78 : decode cX7_says 78 = .ok (.getfield 227, 3) := by decide +kernel
theorem dX7_says_81 : decode cX7_says 81 = .ok (.istore_n 1, 1) := by decide +kernel
theorem dX7_says_82 : decode cX7_says 82 = .ok (.aload_n 0, 1) := by decide +kernel
theorem dX7_says_83 : decode cX7_says 83 = .ok (.aload_n 0, 1) := by decide +kernel
theorem dX7_says_84 : decode cX7_says 84 = .ok (.invokevirtual 236, 3) := by decide +kernel
theorem dX7_says_87 : decode cX7_says 87 = .ok (.putfield 239, 3) := by decide +kernel
theorem dX7_says_90 : decode cX7_says 90 = .ok (.aload_n 0, 1) := by decide +kernel
theorem dX7_says_91 : decode cX7_says 91 = .ok (.getfield 239, 3) := by decide +kernel
theorem dX7_says_94 : decode cX7_says 94 = .ok (.iconst (-1), 1) := by decide +kernel
theorem dX7_says_95 : decode cX7_says 95 = .ok (.if_icmp .eq 10, 3) := by decide +kernel
theorem dX7_says_98 : decode cX7_says 98 = .ok (.aload_n 0, 1) := by decide +kernel
theorem dX7_says_99 : decode cX7_says 99 = .ok (.getfield 239, 3) := by decide +kernel
theorem dX7_says_102 : decode cX7_says 102 = .ok (.ifCond .ne 7, 3) := by decide +kernel
theorem dX7_says_105 : decode cX7_says 105 = .ok (.iload_n 1, 1) := by decide +kernel
theorem dX7_says_106 : decode cX7_says 106 = .ok (.goto 4, 3) := by decide +kernel
theorem dX7_says_109 : decode cX7_says 109 = .ok (.iconst (-1), 1) := by decide +kernel
theorem dX7_says_110 : decode cX7_says 110 = .ok (.ireturn, 1) := by decide +kernel
theorem dX7_faultNow_0 : decode cX7_faultNow 0 = .ok (.aload_n 0, 1) := by decide +kernel
theorem dX7_faultNow_1 : decode cX7_faultNow 1 = .ok (.iconst 0, 1) := by decide +kernel
theorem dX7_faultNow_2 : decode cX7_faultNow 2 = .ok (.putfield 227, 3) := by decide +kernel
theorem dX7_faultNow_5 : decode cX7_faultNow 5 = .ok (.aload_n 0, 1) := by decide +kernel
theorem dX7_faultNow_6 : decode cX7_faultNow 6 = .ok (.invokevirtual 242, 3) := by decide +kernel
theorem dX7_faultNow_9 : decode cX7_faultNow 9 = .ok (.istore_n 1, 1) := by decide +kernel
theorem dX7_faultNow_10 : decode cX7_faultNow 10 = .ok (.iload_n 1, 1) := by decide +kernel
theorem dX7_faultNow_11 : decode cX7_faultNow 11 = .ok (.iconst (-1), 1) := by decide +kernel
theorem dX7_faultNow_12 : decode cX7_faultNow 12 = .ok (.if_icmp .ne 63, 3) := by decide +kernel
theorem dX7_faultNow_15 : decode cX7_faultNow 15 = .ok (.aload_n 0, 1) := by decide +kernel
theorem dX7_faultNow_16 : decode cX7_faultNow 16 = .ok (.getfield 227, 3) := by decide +kernel
theorem dX7_faultNow_19 : decode cX7_faultNow 19 = .ok (.aload_n 0, 1) := by decide +kernel
theorem dX7_faultNow_20 : decode cX7_faultNow 20 = .ok (.getfield 224, 3) := by decide +kernel
theorem dX7_faultNow_23 : decode cX7_faultNow 23 = .ok (.if_icmp .ge 52, 3) := by decide +kernel
theorem dX7_faultNow_26 : decode cX7_faultNow 26 = .ok (.aload_n 0, 1) := by decide +kernel
theorem dX7_faultNow_27 : decode cX7_faultNow 27 = .ok (.aload_n 0, 1) := by decide +kernel
theorem dX7_faultNow_28 : decode cX7_faultNow 28 = .ok (.getfield 227, 3) := by decide +kernel
theorem dX7_faultNow_31 : decode cX7_faultNow 31 = .ok (.invokevirtual 230, 3) := by decide +kernel
theorem dX7_faultNow_34 : decode cX7_faultNow 34 = .ok (.bipush 43, 2) := by decide +kernel
theorem dX7_faultNow_36 : decode cX7_faultNow 36 = .ok (.if_icmp .eq 21, 3) := by decide +kernel
theorem dX7_faultNow_39 : decode cX7_faultNow 39 = .ok (.aload_n 0, 1) := by decide +kernel
theorem dX7_faultNow_40 : decode cX7_faultNow 40 = .ok (.aload_n 0, 1) := by decide +kernel
theorem dX7_faultNow_41 : decode cX7_faultNow 41 = .ok (.getfield 227, 3) := by decide +kernel
theorem dX7_faultNow_44 : decode cX7_faultNow 44 = .ok (.invokevirtual 230, 3) := by decide +kernel
theorem dX7_faultNow_47 : decode cX7_faultNow 47 = .ok (.bipush 45, 2) := by decide +kernel
theorem dX7_faultNow_49 : decode cX7_faultNow 49 = .ok (.if_icmp .eq 8, 3) := by decide +kernel
theorem dX7_faultNow_52 : decode cX7_faultNow 52 = .ok (.aload_n 0, 1) := by decide +kernel
theorem dX7_faultNow_53 : decode cX7_faultNow 53 = .ok (.getfield 227, 3) := by decide +kernel
theorem dX7_faultNow_56 : decode cX7_faultNow 56 = .ok (.ireturn, 1) := by decide +kernel
theorem dX7_faultNow_57 : decode cX7_faultNow 57 = .ok (.aload_n 0, 1) := by decide +kernel
theorem dX7_faultNow_58 : decode cX7_faultNow 58 = .ok (.dup, 1) := by decide +kernel
theorem dX7_faultNow_59 : decode cX7_faultNow 59 = .ok (.getfield 227, 3) := by decide +kernel
theorem dX7_faultNow_62 : decode cX7_faultNow 62 = .ok (.iconst 1, 1) := by decide +kernel
theorem dX7_faultNow_63 : decode cX7_faultNow 63 = .ok (.iadd, 1) := by decide +kernel
theorem dX7_faultNow_64 : decode cX7_faultNow 64 = .ok (.putfield 227, 3) := by decide +kernel
theorem dX7_faultNow_67 : decode cX7_faultNow 67 = .ok (.aload_n 0, 1) := by decide +kernel
theorem dX7_faultNow_68 : decode cX7_faultNow 68 = .ok (.invokevirtual 242, 3) := by decide +kernel
theorem dX7_faultNow_71 : decode cX7_faultNow 71 = .ok (.istore_n 1, 1) := by decide +kernel
theorem dX7_faultNow_72 : decode cX7_faultNow 72 = .ok (.goto (-62), 3) := by decide +kernel
theorem dX7_faultNow_75 : decode cX7_faultNow 75 = .ok (.iload_n 1, 1) := by decide +kernel
theorem dX7_faultNow_76 : decode cX7_faultNow 76 = .ok (.ireturn, 1) := by decide +kernel
theorem dX7_fault_0 : decode cX7_fault 0 = .ok (.aload_n 0, 1) := by decide +kernel
theorem dX7_fault_1 : decode cX7_fault 1 = .ok (.invokevirtual 245, 3) := by decide +kernel
theorem dX7_fault_4 : decode cX7_fault 4 = .ok (.ireturn, 1) := by decide +kernel
theorem dX7_speech_0 : decode cX7_speech 0 = .ok (.aload_n 0, 1) := by decide +kernel
theorem dX7_speech_1 : decode cX7_speech 1 = .ok (.iload_n 1, 1) := by decide +kernel
theorem dX7_speech_2 : decode cX7_speech 2 = .ok (.invokevirtual 93, 3) := by decide +kernel
theorem dX7_speech_5 : decode cX7_speech 5 = .ok (.ifCond .ne 6, 3) := by decide +kernel
theorem dX7_speech_8 : decode cX7_speech 8 = .ok (.ldc 179, 2) := by decide +kernel
theorem dX7_speech_10 : decode cX7_speech 10 = .ok (.ireturn, 1) := by decide +kernel
theorem dX7_speech_11 : decode cX7_speech 11 = .ok (.aload_n 0, 1) := by decide +kernel
theorem dX7_speech_12 : decode cX7_speech 12 = .ok (.invokevirtual 245, 3) := by decide +kernel
theorem dX7_speech_15 : decode cX7_speech 15 = .ok (.iconst (-1), 1) := by decide +kernel
theorem dX7_speech_16 : decode cX7_speech 16 = .ok (.if_icmp .eq 6, 3) := by decide +kernel
theorem dX7_speech_19 : decode cX7_speech 19 = .ok (.ldc 248, 2) := by decide +kernel
theorem dX7_speech_21 : decode cX7_speech 21 = .ok (.ireturn, 1) := by decide +kernel
theorem dX7_speech_22 : decode cX7_speech 22 = .ok (.iconst 0, 1) := by decide +kernel
theorem dX7_speech_23 : decode cX7_speech 23 = .ok (.istore_n 2, 1) := by decide +kernel
theorem dX7_speech_24 : decode cX7_speech 24 = .ok (.iconst 1, 1) := by decide +kernel
theorem dX7_speech_25 : decode cX7_speech 25 = .ok (.istore_n 3, 1) := by decide +kernel
theorem dX7_speech_26 : decode cX7_speech 26 = .ok (.aload_n 0, 1) := by decide +kernel
theorem dX7_speech_27 : decode cX7_speech 27 = .ok (.iconst 0, 1) := by decide +kernel
theorem dX7_speech_28 : decode cX7_speech 28 = .ok (.putfield 227, 3) := by decide +kernel
theorem dX7_speech_31 : decode cX7_speech 31 = .ok (.aload_n 0, 1) := by decide +kernel
theorem dX7_speech_32 : decode cX7_speech 32 = .ok (.getfield 227, 3) := by decide +kernel
theorem dX7_speech_35 : decode cX7_speech 35 = .ok (.aload_n 0, 1) := by decide +kernel
theorem dX7_speech_36 : decode cX7_speech 36 = .ok (.getfield 224, 3) := by decide +kernel
theorem dX7_speech_39 : decode cX7_speech 39 = .ok (.if_icmp .ge 76, 3) := by decide +kernel
theorem dX7_speech_42 : decode cX7_speech 42 = .ok (.aload_n 0, 1) := by decide +kernel
theorem dX7_speech_43 : decode cX7_speech 43 = .ok (.invokevirtual 242, 3) := by decide +kernel
theorem dX7_speech_46 : decode cX7_speech 46 = .ok (.istore 4, 2) := by decide +kernel
theorem dX7_speech_48 : decode cX7_speech 48 = .ok (.aload_n 0, 1) := by decide +kernel
theorem dX7_speech_49 : decode cX7_speech 49 = .ok (.getfield 239, 3) := by decide +kernel
theorem dX7_speech_52 : decode cX7_speech 52 = .ok (.aload_n 0, 1) := by decide +kernel
theorem dX7_speech_53 : decode cX7_speech 53 = .ok (.iload_n 1, 1) := by decide +kernel
theorem dX7_speech_54 : decode cX7_speech 54 = .ok (.invokevirtual 96, 3) := by decide +kernel
theorem dX7_speech_57 : decode cX7_speech 57 = .ok (.if_icmp .le 6, 3) := by decide +kernel
theorem dX7_speech_60 : decode cX7_speech 60 = .ok (.ldc 248, 2) := by decide +kernel
theorem dX7_speech_62 : decode cX7_speech 62 = .ok (.ireturn, 1) := by decide +kernel
theorem dX7_speech_63 : decode cX7_speech 63 = .ok (.iload_n 2, 1) := by decide +kernel
theorem dX7_speech_64 : decode cX7_speech 64 = .ok (.iload_n 3, 1) := by decide +kernel
theorem dX7_speech_65 : decode cX7_speech 65 = .ok (.aload_n 0, 1) := by decide +kernel
theorem dX7_speech_66 : decode cX7_speech 66 = .ok (.getfield 233, 3) := by decide +kernel
theorem dX7_speech_69 : decode cX7_speech 69 = .ok (.aload_n 0, 1) := by decide +kernel
theorem dX7_speech_70 : decode cX7_speech 70 = .ok (.iload_n 1, 1) := by decide +kernel
theorem dX7_speech_71 : decode cX7_speech 71 = .ok (.invokevirtual 96, 3) := by decide +kernel
theorem dX7_speech_74 : decode cX7_speech 74 = .ok (.imul, 1) := by decide +kernel
theorem dX7_speech_75 : decode cX7_speech 75 = .ok (.aload_n 0, 1) := by decide +kernel
theorem dX7_speech_76 : decode cX7_speech 76 = .ok (.getfield 239, 3) := by decide +kernel
theorem dX7_speech_79 : decode cX7_speech 79 = .ok (.iadd, 1) := by decide +kernel
theorem dX7_speech_80 : decode cX7_speech 80 = .ok (.imul, 1) := by decide +kernel
theorem dX7_speech_81 : decode cX7_speech 81 = .ok (.iadd, 1) := by decide +kernel
theorem dX7_speech_82 : decode cX7_speech 82 = .ok (.istore_n 2, 1) := by decide +kernel
theorem dX7_speech_83 : decode cX7_speech 83 = .ok (.aload_n 0, 1) := by decide +kernel
theorem dX7_speech_84 : decode cX7_speech 84 = .ok (.aload_n 0, 1) := by decide +kernel
theorem dX7_speech_85 : decode cX7_speech 85 = .ok (.getfield 227, 3) := by decide +kernel
theorem dX7_speech_88 : decode cX7_speech 88 = .ok (.invokevirtual 230, 3) := by decide +kernel
theorem dX7_speech_91 : decode cX7_speech 91 = .ok (.bipush 45, 2) := by decide +kernel
theorem dX7_speech_93 : decode cX7_speech 93 = .ok (.if_icmp .ne 7, 3) := by decide +kernel
theorem dX7_speech_96 : decode cX7_speech 96 = .ok (.iconst (-1), 1) := by decide +kernel
theorem dX7_speech_97 : decode cX7_speech 97 = .ok (.goto 4, 3) := by decide +kernel
theorem dX7_speech_100 : decode cX7_speech 100 = .ok (.iconst 1, 1) := by decide +kernel
theorem dX7_speech_101 : decode cX7_speech 101 = .ok (.istore_n 3, 1) := by decide +kernel
theorem dX7_speech_102 : decode cX7_speech 102 = .ok (.aload_n 0, 1) := by decide +kernel
theorem dX7_speech_103 : decode cX7_speech 103 = .ok (.dup, 1) := by decide +kernel
theorem dX7_speech_104 : decode cX7_speech 104 = .ok (.getfield 227, 3) := by decide +kernel
theorem dX7_speech_107 : decode cX7_speech 107 = .ok (.iconst 1, 1) := by decide +kernel
theorem dX7_speech_108 : decode cX7_speech 108 = .ok (.iadd, 1) := by decide +kernel
theorem dX7_speech_109 : decode cX7_speech 109 = .ok (.putfield 227, 3) := by decide +kernel
theorem dX7_speech_112 : decode cX7_speech 112 = .ok (.goto (-81), 3) := by decide +kernel
theorem dX7_speech_115 : decode cX7_speech 115 = .ok (.iload_n 2, 1) := by decide +kernel
theorem dX7_speech_116 : decode cX7_speech 116 = .ok (.ireturn, 1) := by decide +kernel
theorem dX7_meets_0 : decode cX7_meets 0 = .ok (.aload_n 0, 1) := by decide +kernel
theorem dX7_meets_1 : decode cX7_meets 1 = .ok (.iload_n 1, 1) := by decide +kernel
theorem dX7_meets_2 : decode cX7_meets 2 = .ok (.putfield 249, 3) := by decide +kernel
theorem dX7_meets_5 : decode cX7_meets 5 = .ok (.bipush (-10), 2) := by decide +kernel
theorem dX7_meets_7 : decode cX7_meets 7 = .ok (.iload_n 1, 1) := by decide +kernel
theorem dX7_meets_8 : decode cX7_meets 8 = .ok (.isub, 1) := by decide +kernel
theorem dX7_meets_9 : decode cX7_meets 9 = .ok (.ireturn, 1) := by decide +kernel
theorem dX7_isSheet_0 : decode cX7_isSheet 0 = .ok (.iload_n 0, 1) := by decide +kernel
theorem dX7_isSheet_1 : decode cX7_isSheet 1 = .ok (.iconst 0, 1) := by decide +kernel
theorem dX7_isSheet_2 : decode cX7_isSheet 2 = .ok (.iconst 3, 1) := by decide +kernel
theorem dX7_isSheet_3 : decode cX7_isSheet 3 = .ok (.invokestatic 75, 3) := by decide +kernel
theorem dX7_isSheet_6 : decode cX7_isSheet 6 = .ok (.ireturn, 1) := by decide +kernel
theorem dX7_sheet_0 : decode cX7_sheet 0 = .ok (.iload_n 1, 1) := by decide +kernel
theorem dX7_sheet_1 : decode cX7_sheet 1 = .ok (.invokestatic 82, 3) := by decide +kernel
theorem dX7_sheet_4 : decode cX7_sheet 4 = .ok (.ifCond .eq 18, 3) := by decide +kernel
theorem dX7_sheet_7 : decode cX7_sheet 7 = .ok (.iload_n 2, 1) := by decide +kernel
theorem dX7_sheet_8 : decode cX7_sheet 8 = .ok (.iconst 0, 1) := by decide +kernel
theorem dX7_sheet_9 : decode cX7_sheet 9 = .ok (.iconst 2, 1) := by decide +kernel
theorem dX7_sheet_10 : decode cX7_sheet 10 = .ok (.invokestatic 75, 3) := by decide +kernel
theorem dX7_sheet_13 : decode cX7_sheet 13 = .ok (.ifCond .eq 9, 3) := by decide +kernel
theorem dX7_sheet_16 : decode cX7_sheet 16 = .ok (.iload_n 3, 1) := by decide +kernel
theorem dX7_sheet_17 : decode cX7_sheet 17 = .ok (.bipush 60, 2) := by decide +kernel
theorem dX7_sheet_19 : decode cX7_sheet 19 = .ok (.if_icmp .le 6, 3) := by decide +kernel
theorem dX7_sheet_22 : decode cX7_sheet 22 = .ok (.bipush (-2), 2) := by decide +kernel
theorem dX7_sheet_24 : decode cX7_sheet 24 = .ok (.ireturn, 1) := by decide +kernel
theorem dX7_sheet_25 : decode cX7_sheet 25 = .ok (.iload_n 3, 1) := by decide +kernel
theorem dX7_sheet_26 : decode cX7_sheet 26 = .ok (.ifCond .ge 9, 3) := by decide +kernel
theorem dX7_sheet_29 : decode cX7_sheet 29 = .ok (.aload_n 0, 1) := by decide +kernel
theorem dX7_sheet_30 : decode cX7_sheet 30 = .ok (.iconst 5, 1) := by decide +kernel
theorem dX7_sheet_31 : decode cX7_sheet 31 = .ok (.invokevirtual 86, 3) := by decide +kernel
theorem dX7_sheet_34 : decode cX7_sheet 34 = .ok (.ireturn, 1) := by decide +kernel
theorem dX7_sheet_35 : decode cX7_sheet 35 = .ok (.aload_n 0, 1) := by decide +kernel
theorem dX7_sheet_36 : decode cX7_sheet 36 = .ok (.getfield 60, 3) := by decide +kernel
theorem dX7_sheet_39 : decode cX7_sheet 39 = .ok (.iload_n 1, 1) := by decide +kernel
theorem dX7_sheet_40 : decode cX7_sheet 40 = .ok (.iconst 1, 1) := by decide +kernel
theorem dX7_sheet_41 : decode cX7_sheet 41 = .ok (.bastore, 1) := by decide +kernel
theorem dX7_sheet_42 : decode cX7_sheet 42 = .ok (.aload_n 0, 1) := by decide +kernel
theorem dX7_sheet_43 : decode cX7_sheet 43 = .ok (.getfield 63, 3) := by decide +kernel
theorem dX7_sheet_46 : decode cX7_sheet 46 = .ok (.iload_n 1, 1) := by decide +kernel
theorem dX7_sheet_47 : decode cX7_sheet 47 = .ok (.iload_n 2, 1) := by decide +kernel
theorem dX7_sheet_48 : decode cX7_sheet 48 = .ok (.iastore, 1) := by decide +kernel
theorem dX7_sheet_49 : decode cX7_sheet 49 = .ok (.aload_n 0, 1) := by decide +kernel
theorem dX7_sheet_50 : decode cX7_sheet 50 = .ok (.getfield 66, 3) := by decide +kernel
theorem dX7_sheet_53 : decode cX7_sheet 53 = .ok (.iload_n 1, 1) := by decide +kernel
theorem dX7_sheet_54 : decode cX7_sheet 54 = .ok (.iload_n 3, 1) := by decide +kernel
theorem dX7_sheet_55 : decode cX7_sheet 55 = .ok (.iastore, 1) := by decide +kernel
theorem dX7_sheet_56 : decode cX7_sheet 56 = .ok (.iconst 0, 1) := by decide +kernel
theorem dX7_sheet_57 : decode cX7_sheet 57 = .ok (.istore 4, 2) := by decide +kernel
theorem dX7_sheet_59 : decode cX7_sheet 59 = .ok (.iload 4, 2) := by decide +kernel
theorem dX7_sheet_61 : decode cX7_sheet 61 = .ok (.bipush 60, 2) := by decide +kernel
theorem dX7_sheet_63 : decode cX7_sheet 63 = .ok (.if_icmp .ge 22, 3) := by decide +kernel
theorem dX7_sheet_66 : decode cX7_sheet 66 = .ok (.aload_n 0, 1) := by decide +kernel
theorem dX7_sheet_67 : decode cX7_sheet 67 = .ok (.getfield 69, 3) := by decide +kernel
theorem dX7_sheet_70 : decode cX7_sheet 70 = .ok (.bipush 60, 2) := by decide +kernel
theorem dX7_sheet_72 : decode cX7_sheet 72 = .ok (.iload_n 1, 1) := by decide +kernel
theorem dX7_sheet_73 : decode cX7_sheet 73 = .ok (.imul, 1) := by decide +kernel
theorem dX7_sheet_74 : decode cX7_sheet 74 = .ok (.iload 4, 2) := by decide +kernel
theorem dX7_sheet_76 : decode cX7_sheet 76 = .ok (.iadd, 1) := by decide +kernel
theorem dX7_sheet_77 : decode cX7_sheet 77 = .ok (.iconst 0, 1) := by decide +kernel
theorem dX7_sheet_78 : decode cX7_sheet 78 = .ok (.iastore, 1) := by decide +kernel
theorem dX7_sheet_79 : decode cX7_sheet 79 = .ok (.iinc 4 1, 3) := by decide +kernel
theorem dX7_sheet_82 : decode cX7_sheet 82 = .ok (.goto (-23), 3) := by decide +kernel
theorem dX7_sheet_85 : decode cX7_sheet 85 = .ok (.iload_n 3, 1) := by decide +kernel
theorem dX7_sheet_86 : decode cX7_sheet 86 = .ok (.ireturn, 1) := by decide +kernel
theorem dX7_lose_0 : decode cX7_lose 0 = .ok (.iload_n 1, 1) := by decide +kernel
theorem dX7_lose_1 : decode cX7_lose 1 = .ok (.invokestatic 82, 3) := by decide +kernel
theorem dX7_lose_4 : decode cX7_lose 4 = .ok (.ifCond .ne 6, 3) := by decide +kernel
theorem dX7_lose_7 : decode cX7_lose 7 = .ok (.bipush (-2), 2) := by decide +kernel
theorem dX7_lose_9 : decode cX7_lose 9 = .ok (.ireturn, 1) := by decide +kernel
theorem dX7_lose_10 : decode cX7_lose 10 = .ok (.aload_n 0, 1) := by decide +kernel
theorem dX7_lose_11 : decode cX7_lose 11 = .ok (.getfield 60, 3) := by decide +kernel
theorem dX7_lose_14 : decode cX7_lose 14 = .ok (.iload_n 1, 1) := by decide +kernel
theorem dX7_lose_15 : decode cX7_lose 15 = .ok (.baload, 1) := by decide +kernel
theorem dX7_lose_16 : decode cX7_lose 16 = .ok (.ifCond .ne 9, 3) := by decide +kernel
theorem dX7_lose_19 : decode cX7_lose 19 = .ok (.aload_n 0, 1) := by decide +kernel
theorem dX7_lose_20 : decode cX7_lose 20 = .ok (.iconst 1, 1) := by decide +kernel
theorem dX7_lose_21 : decode cX7_lose 21 = .ok (.invokevirtual 86, 3) := by decide +kernel
theorem dX7_lose_24 : decode cX7_lose 24 = .ok (.ireturn, 1) := by decide +kernel
theorem dX7_lose_25 : decode cX7_lose 25 = .ok (.aload_n 0, 1) := by decide +kernel
theorem dX7_lose_26 : decode cX7_lose 26 = .ok (.getfield 60, 3) := by decide +kernel
theorem dX7_lose_29 : decode cX7_lose 29 = .ok (.iload_n 1, 1) := by decide +kernel
theorem dX7_lose_30 : decode cX7_lose 30 = .ok (.iconst 0, 1) := by decide +kernel
theorem dX7_lose_31 : decode cX7_lose 31 = .ok (.bastore, 1) := by decide +kernel
theorem dX7_lose_32 : decode cX7_lose 32 = .ok (.aload_n 0, 1) := by decide +kernel
theorem dX7_lose_33 : decode cX7_lose 33 = .ok (.getfield 66, 3) := by decide +kernel
theorem dX7_lose_36 : decode cX7_lose 36 = .ok (.iload_n 1, 1) := by decide +kernel
theorem dX7_lose_37 : decode cX7_lose 37 = .ok (.iaload, 1) := by decide +kernel
theorem dX7_lose_38 : decode cX7_lose 38 = .ok (.ireturn, 1) := by decide +kernel
theorem dX7_lacks_0 : decode cX7_lacks 0 = .ok (.aload_n 0, 1) := by decide +kernel
theorem dX7_lacks_1 : decode cX7_lacks 1 = .ok (.getfield 60, 3) := by decide +kernel
theorem dX7_lacks_4 : decode cX7_lacks 4 = .ok (.iload_n 1, 1) := by decide +kernel
theorem dX7_lacks_5 : decode cX7_lacks 5 = .ok (.baload, 1) := by decide +kernel
theorem dX7_lacks_6 : decode cX7_lacks 6 = .ok (.ifCond .ne 7, 3) := by decide +kernel
theorem dX7_lacks_9 : decode cX7_lacks 9 = .ok (.iconst 1, 1) := by decide +kernel
theorem dX7_lacks_10 : decode cX7_lacks 10 = .ok (.goto 38, 3) := by decide +kernel
theorem dX7_lacks_13 : decode cX7_lacks 13 = .ok (.aload_n 0, 1) := by decide +kernel
theorem dX7_lacks_14 : decode cX7_lacks 14 = .ok (.getfield 63, 3) := by decide +kernel
theorem dX7_lacks_17 : decode cX7_lacks 17 = .ok (.iload_n 1, 1) := by decide +kernel
theorem dX7_lacks_18 : decode cX7_lacks 18 = .ok (.iaload, 1) := by decide +kernel
theorem dX7_lacks_19 : decode cX7_lacks 19 = .ok (.iload_n 2, 1) := by decide +kernel
theorem dX7_lacks_20 : decode cX7_lacks 20 = .ok (.if_icmp .eq 7, 3) := by decide +kernel
theorem dX7_lacks_23 : decode cX7_lacks 23 = .ok (.iconst 3, 1) := by decide +kernel
theorem dX7_lacks_24 : decode cX7_lacks 24 = .ok (.goto 24, 3) := by decide +kernel
theorem dX7_lacks_27 : decode cX7_lacks 27 = .ok (.iload_n 3, 1) := by decide +kernel
theorem dX7_lacks_28 : decode cX7_lacks 28 = .ok (.iconst 0, 1) := by decide +kernel
theorem dX7_lacks_29 : decode cX7_lacks 29 = .ok (.aload_n 0, 1) := by decide +kernel
theorem dX7_lacks_30 : decode cX7_lacks 30 = .ok (.getfield 66, 3) := by decide +kernel
theorem dX7_lacks_33 : decode cX7_lacks 33 = .ok (.iload_n 1, 1) := by decide +kernel
theorem dX7_lacks_34 : decode cX7_lacks 34 = .ok (.iaload, 1) := by decide +kernel
theorem dX7_lacks_35 : decode cX7_lacks 35 = .ok (.iconst 1, 1) := by decide +kernel
theorem dX7_lacks_36 : decode cX7_lacks 36 = .ok (.isub, 1) := by decide +kernel
theorem dX7_lacks_37 : decode cX7_lacks 37 = .ok (.invokestatic 75, 3) := by decide +kernel
theorem dX7_lacks_40 : decode cX7_lacks 40 = .ok (.ifCond .eq 7, 3) := by decide +kernel
theorem dX7_lacks_43 : decode cX7_lacks 43 = .ok (.iconst 0, 1) := by decide +kernel
theorem dX7_lacks_44 : decode cX7_lacks 44 = .ok (.goto 4, 3) := by decide +kernel
theorem dX7_lacks_47 : decode cX7_lacks 47 = .ok (.iconst 2, 1) := by decide +kernel
theorem dX7_lacks_48 : decode cX7_lacks 48 = .ok (.ireturn, 1) := by decide +kernel
theorem dX7_lay_0 : decode cX7_lay 0 = .ok (.aload_n 0, 1) := by decide +kernel
theorem dX7_lay_1 : decode cX7_lay 1 = .ok (.getfield 69, 3) := by decide +kernel
theorem dX7_lay_4 : decode cX7_lay 4 = .ok (.bipush 60, 2) := by decide +kernel
theorem dX7_lay_6 : decode cX7_lay 6 = .ok (.iload_n 1, 1) := by decide +kernel
theorem dX7_lay_7 : decode cX7_lay 7 = .ok (.imul, 1) := by decide +kernel
theorem dX7_lay_8 : decode cX7_lay 8 = .ok (.iload_n 2, 1) := by decide +kernel
theorem dX7_lay_9 : decode cX7_lay 9 = .ok (.iadd, 1) := by decide +kernel
theorem dX7_lay_10 : decode cX7_lay 10 = .ok (.aload_n 0, 1) := by decide +kernel
theorem dX7_lay_11 : decode cX7_lay 11 = .ok (.getfield 63, 3) := by decide +kernel
theorem dX7_lay_14 : decode cX7_lay 14 = .ok (.iload_n 1, 1) := by decide +kernel
theorem dX7_lay_15 : decode cX7_lay 15 = .ok (.iaload, 1) := by decide +kernel
theorem dX7_lay_16 : decode cX7_lay 16 = .ok (.ifCond .ne 8, 3) := by decide +kernel
theorem dX7_lay_19 : decode cX7_lay 19 = .ok (.iload_n 3, 1) := by decide +kernel
theorem dX7_lay_20 : decode cX7_lay 20 = .ok (.i2b, 1) := by decide +kernel
theorem dX7_lay_21 : decode cX7_lay 21 = .ok (.goto 19, 3) := by decide +kernel
theorem dX7_lay_24 : decode cX7_lay 24 = .ok (.aload_n 0, 1) := by decide +kernel
theorem dX7_lay_25 : decode cX7_lay 25 = .ok (.getfield 63, 3) := by decide +kernel
theorem dX7_lay_28 : decode cX7_lay 28 = .ok (.iload_n 1, 1) := by decide +kernel
theorem dX7_lay_29 : decode cX7_lay 29 = .ok (.iaload, 1) := by decide +kernel
theorem dX7_lay_30 : decode cX7_lay 30 = .ok (.iconst 1, 1) := by decide +kernel
theorem dX7_lay_31 : decode cX7_lay 31 = .ok (.if_icmp .ne 8, 3) := by decide +kernel
theorem dX7_lay_34 : decode cX7_lay 34 = .ok (.iload_n 3, 1) := by decide +kernel
theorem dX7_lay_35 : decode cX7_lay 35 = .ok (.i2s, 1) := by decide +kernel
theorem dX7_lay_36 : decode cX7_lay 36 = .ok (.goto 4, 3) := by decide +kernel
theorem dX7_lay_39 : decode cX7_lay 39 = .ok (.iload_n 3, 1) := by decide +kernel
theorem dX7_lay_40 : decode cX7_lay 40 = .ok (.iastore, 1) := by decide +kernel
theorem dX7_lay_41 : decode cX7_lay 41 = .ok (.return_, 1) := by decide +kernel
theorem dX7_put_0 : decode cX7_put 0 = .ok (.iload_n 1, 1) := by decide +kernel
theorem dX7_put_1 : decode cX7_put 1 = .ok (.invokestatic 82, 3) := by decide +kernel
theorem dX7_put_4 : decode cX7_put 4 = .ok (.ifCond .eq 12, 3) := by decide +kernel
theorem dX7_put_7 : decode cX7_put 7 = .ok (.iload_n 2, 1) := by decide +kernel
theorem dX7_put_8 : decode cX7_put 8 = .ok (.iconst 0, 1) := by decide +kernel
theorem dX7_put_9 : decode cX7_put 9 = .ok (.iconst 2, 1) := by decide +kernel
theorem dX7_put_10 : decode cX7_put 10 = .ok (.invokestatic 75, 3) := by decide +kernel
theorem dX7_put_13 : decode cX7_put 13 = .ok (.ifCond .ne 6, 3) := by decide +kernel
theorem dX7_put_16 : decode cX7_put 16 = .ok (.bipush (-2), 2) := by decide +kernel
theorem dX7_put_18 : decode cX7_put 18 = .ok (.ireturn, 1) := by decide +kernel
theorem dX7_put_19 : decode cX7_put 19 = .ok (.aload_n 0, 1) := by decide +kernel
theorem dX7_put_20 : decode cX7_put 20 = .ok (.iload_n 1, 1) := by decide +kernel
theorem dX7_put_21 : decode cX7_put 21 = .ok (.iload_n 2, 1) := by decide +kernel
theorem dX7_put_22 : decode cX7_put 22 = .ok (.iload_n 3, 1) := by decide +kernel
theorem dX7_put_23 : decode cX7_put 23 = .ok (.invokevirtual 252, 3) := by decide +kernel
theorem dX7_put_26 : decode cX7_put 26 = .ok (.istore 5, 2) := by decide +kernel
theorem dX7_put_28 : decode cX7_put 28 = .ok (.iload 5, 2) := by decide +kernel
theorem dX7_put_30 : decode cX7_put 30 = .ok (.ifCond .le 10, 3) := by decide +kernel
theorem dX7_put_33 : decode cX7_put 33 = .ok (.aload_n 0, 1) := by decide +kernel
theorem dX7_put_34 : decode cX7_put 34 = .ok (.iload 5, 2) := by decide +kernel
theorem dX7_put_36 : decode cX7_put 36 = .ok (.invokevirtual 86, 3) := by decide +kernel
theorem dX7_put_39 : decode cX7_put 39 = .ok (.ireturn, 1) := by decide +kernel
theorem dX7_put_40 : decode cX7_put 40 = .ok (.aload_n 0, 1) := by decide +kernel
theorem dX7_put_41 : decode cX7_put 41 = .ok (.iload_n 1, 1) := by decide +kernel
theorem dX7_put_42 : decode cX7_put 42 = .ok (.iload_n 3, 1) := by decide +kernel
theorem dX7_put_43 : decode cX7_put 43 = .ok (.iload 4, 2) := by decide +kernel
theorem dX7_put_45 : decode cX7_put 45 = .ok (.invokevirtual 255, 3) := by decide +kernel
theorem dX7_put_48 : decode cX7_put 48 = .ok (.iconst 1, 1) := by decide +kernel
theorem dX7_put_49 : decode cX7_put 49 = .ok (.ireturn, 1) := by decide +kernel
theorem dX7_get_0 : decode cX7_get 0 = .ok (.iload_n 1, 1) := by decide +kernel
theorem dX7_get_1 : decode cX7_get 1 = .ok (.invokestatic 82, 3) := by decide +kernel
theorem dX7_get_4 : decode cX7_get 4 = .ok (.ifCond .eq 12, 3) := by decide +kernel
theorem dX7_get_7 : decode cX7_get 7 = .ok (.iload_n 2, 1) := by decide +kernel
theorem dX7_get_8 : decode cX7_get 8 = .ok (.iconst 0, 1) := by decide +kernel
theorem dX7_get_9 : decode cX7_get 9 = .ok (.iconst 2, 1) := by decide +kernel
theorem dX7_get_10 : decode cX7_get 10 = .ok (.invokestatic 75, 3) := by decide +kernel
theorem dX7_get_13 : decode cX7_get 13 = .ok (.ifCond .ne 7, 3) := by decide +kernel
theorem dX7_get_16 : decode cX7_get 16 = .ok (.ldc_w 258, 3) := by decide +kernel
theorem dX7_get_19 : decode cX7_get 19 = .ok (.ireturn, 1) := by decide +kernel
theorem dX7_get_20 : decode cX7_get 20 = .ok (.aload_n 0, 1) := by decide +kernel
theorem dX7_get_21 : decode cX7_get 21 = .ok (.iload_n 1, 1) := by decide +kernel
theorem dX7_get_22 : decode cX7_get 22 = .ok (.iload_n 2, 1) := by decide +kernel
theorem dX7_get_23 : decode cX7_get 23 = .ok (.iload_n 3, 1) := by decide +kernel
theorem dX7_get_24 : decode cX7_get 24 = .ok (.invokevirtual 252, 3) := by decide +kernel
theorem dX7_get_27 : decode cX7_get 27 = .ok (.istore 4, 2) := by decide +kernel
theorem dX7_get_29 : decode cX7_get 29 = .ok (.iload 4, 2) := by decide +kernel
theorem dX7_get_31 : decode cX7_get 31 = .ok (.ifCond .le 13, 3) := by decide +kernel
theorem dX7_get_34 : decode cX7_get 34 = .ok (.aload_n 0, 1) := by decide +kernel
theorem dX7_get_35 : decode cX7_get 35 = .ok (.iload 4, 2) := by decide +kernel
theorem dX7_get_37 : decode cX7_get 37 = .ok (.putfield 249, 3) := by decide +kernel
theorem dX7_get_40 : decode cX7_get 40 = .ok (.ldc_w 258, 3) := by decide +kernel
theorem dX7_get_43 : decode cX7_get 43 = .ok (.ireturn, 1) := by decide +kernel
theorem dX7_get_44 : decode cX7_get 44 = .ok (.aload_n 0, 1) := by decide +kernel
theorem dX7_get_45 : decode cX7_get 45 = .ok (.getfield 69, 3) := by decide +kernel
theorem dX7_get_48 : decode cX7_get 48 = .ok (.bipush 60, 2) := by decide +kernel
theorem dX7_get_50 : decode cX7_get 50 = .ok (.iload_n 1, 1) := by decide +kernel
theorem dX7_get_51 : decode cX7_get 51 = .ok (.imul, 1) := by decide +kernel
theorem dX7_get_52 : decode cX7_get 52 = .ok (.iload_n 3, 1) := by decide +kernel
theorem dX7_get_53 : decode cX7_get 53 = .ok (.iadd, 1) := by decide +kernel
theorem dX7_get_54 : decode cX7_get 54 = .ok (.iaload, 1) := by decide +kernel
theorem dX7_get_55 : decode cX7_get 55 = .ok (.ireturn, 1) := by decide +kernel
theorem dX7_copy_0 : decode cX7_copy 0 = .ok (.iload_n 1, 1) := by decide +kernel
theorem dX7_copy_1 : decode cX7_copy 1 = .ok (.invokestatic 82, 3) := by decide +kernel
theorem dX7_copy_4 : decode cX7_copy 4 = .ok (.ifCond .eq 10, 3) := by decide +kernel
theorem dX7_copy_7 : decode cX7_copy 7 = .ok (.iload_n 3, 1) := by decide +kernel
theorem dX7_copy_8 : decode cX7_copy 8 = .ok (.invokestatic 82, 3) := by decide +kernel
theorem dX7_copy_11 : decode cX7_copy 11 = .ok (.ifCond .ne 6, 3) := by decide +kernel
theorem dX7_copy_14 : decode cX7_copy 14 = .ok (.bipush (-2), 2) := by decide +kernel
theorem dX7_copy_16 : decode cX7_copy 16 = .ok (.ireturn, 1) := by decide +kernel
theorem dX7_copy_17 : decode cX7_copy 17 = .ok (.aload_n 0, 1) := by decide +kernel
theorem dX7_copy_18 : decode cX7_copy 18 = .ok (.getfield 60, 3) := by decide +kernel
theorem dX7_copy_21 : decode cX7_copy 21 = .ok (.iload_n 1, 1) := by decide +kernel
theorem dX7_copy_22 : decode cX7_copy 22 = .ok (.baload, 1) := by decide +kernel
theorem dX7_copy_23 : decode cX7_copy 23 = .ok (.ifCond .eq 12, 3) := by decide +kernel
theorem dX7_copy_26 : decode cX7_copy 26 = .ok (.aload_n 0, 1) := by decide +kernel
theorem dX7_copy_27 : decode cX7_copy 27 = .ok (.getfield 60, 3) := by decide +kernel
theorem dX7_copy_30 : decode cX7_copy 30 = .ok (.iload_n 3, 1) := by decide +kernel
theorem dX7_copy_31 : decode cX7_copy 31 = .ok (.baload, 1) := by decide +kernel
theorem dX7_copy_32 : decode cX7_copy 32 = .ok (.ifCond .ne 9, 3) := by decide +kernel
theorem dX7_copy_35 : decode cX7_copy 35 = .ok (.aload_n 0, 1) := by decide +kernel
theorem dX7_copy_36 : decode cX7_copy 36 = .ok (.iconst 1, 1) := by decide +kernel
theorem dX7_copy_37 : decode cX7_copy 37 = .ok (.invokevirtual 86, 3) := by decide +kernel
theorem dX7_copy_40 : decode cX7_copy 40 = .ok (.ireturn, 1) := by decide +kernel
theorem dX7_copy_41 : decode cX7_copy 41 = .ok (.aload_n 0, 1) := by decide +kernel
theorem dX7_copy_42 : decode cX7_copy 42 = .ok (.getfield 63, 3) := by decide +kernel
theorem dX7_copy_45 : decode cX7_copy 45 = .ok (.iload_n 1, 1) := by decide +kernel
theorem dX7_copy_46 : decode cX7_copy 46 = .ok (.iaload, 1) := by decide +kernel
theorem dX7_copy_47 : decode cX7_copy 47 = .ok (.aload_n 0, 1) := by decide +kernel
theorem dX7_copy_48 : decode cX7_copy 48 = .ok (.getfield 63, 3) := by decide +kernel
theorem dX7_copy_51 : decode cX7_copy 51 = .ok (.iload_n 3, 1) := by decide +kernel
theorem dX7_copy_52 : decode cX7_copy 52 = .ok (.iaload, 1) := by decide +kernel
theorem dX7_copy_53 : decode cX7_copy 53 = .ok (.if_icmp .eq 9, 3) := by decide +kernel
theorem dX7_copy_56 : decode cX7_copy 56 = .ok (.aload_n 0, 1) := by decide +kernel
theorem dX7_copy_57 : decode cX7_copy 57 = .ok (.iconst 4, 1) := by decide +kernel
theorem dX7_copy_58 : decode cX7_copy 58 = .ok (.invokevirtual 86, 3) := by decide +kernel
theorem dX7_copy_61 : decode cX7_copy 61 = .ok (.ireturn, 1) := by decide +kernel
theorem dX7_copy_62 : decode cX7_copy 62 = .ok (.iload_n 2, 1) := by decide +kernel
theorem dX7_copy_63 : decode cX7_copy 63 = .ok (.ifCond .lt 48, 3) := by decide +kernel
theorem dX7_copy_66 : decode cX7_copy 66 = .ok (.iload 4, 2) := by decide +kernel
theorem dX7_copy_68 : decode cX7_copy 68 = .ok (.ifCond .lt 43, 3) := by decide +kernel
theorem dX7_copy_71 : decode cX7_copy 71 = .ok (.iload 5, 2) := by decide +kernel
theorem dX7_copy_73 : decode cX7_copy 73 = .ok (.ifCond .lt 38, 3) := by decide +kernel
theorem dX7_copy_76 : decode cX7_copy 76 = .ok (.iload_n 2, 1) := by decide +kernel
theorem dX7_copy_77 : decode cX7_copy 77 = .ok (.i2l, 1) := by decide +kernel
theorem dX7_copy_78 : decode cX7_copy 78 = .ok (.iload 5, 2) := by decide +kernel
theorem dX7_copy_80 : decode cX7_copy 80 = .ok (.i2l, 1) := by decide +kernel
theorem dX7_copy_81 : decode cX7_copy 81 = .ok (.ladd, 1) := by decide +kernel
theorem dX7_copy_82 : decode cX7_copy 82 = .ok (.aload_n 0, 1) := by decide +kernel
theorem dX7_copy_83 : decode cX7_copy 83 = .ok (.getfield 66, 3) := by decide +kernel
theorem dX7_copy_86 : decode cX7_copy 86 = .ok (.iload_n 1, 1) := by decide +kernel
theorem dX7_copy_87 : decode cX7_copy 87 = .ok (.iaload, 1) := by decide +kernel
theorem dX7_copy_88 : decode cX7_copy 88 = .ok (.i2l, 1) := by decide +kernel
theorem dX7_copy_89 : decode cX7_copy 89 = .ok (.lcmp, 1) := by decide +kernel
theorem dX7_copy_90 : decode cX7_copy 90 = .ok (.ifCond .gt 21, 3) := by decide +kernel
theorem dX7_copy_93 : decode cX7_copy 93 = .ok (.iload 4, 2) := by decide +kernel
theorem dX7_copy_95 : decode cX7_copy 95 = .ok (.i2l, 1) := by decide +kernel
theorem dX7_copy_96 : decode cX7_copy 96 = .ok (.iload 5, 2) := by decide +kernel
theorem dX7_copy_98 : decode cX7_copy 98 = .ok (.i2l, 1) := by decide +kernel
theorem dX7_copy_99 : decode cX7_copy 99 = .ok (.ladd, 1) := by decide +kernel
theorem dX7_copy_100 : decode cX7_copy 100 = .ok (.aload_n 0, 1) := by decide +kernel
theorem dX7_copy_101 : decode cX7_copy 101 = .ok (.getfield 66, 3) := by decide +kernel
theorem dX7_copy_104 : decode cX7_copy 104 = .ok (.iload_n 3, 1) := by decide +kernel
theorem dX7_copy_105 : decode cX7_copy 105 = .ok (.iaload, 1) := by decide +kernel
theorem dX7_copy_106 : decode cX7_copy 106 = .ok (.i2l, 1) := by decide +kernel
theorem dX7_copy_107 : decode cX7_copy 107 = .ok (.lcmp, 1) := by decide +kernel
theorem dX7_copy_108 : decode cX7_copy 108 = .ok (.ifCond .le 9, 3) := by decide +kernel
theorem dX7_copy_111 : decode cX7_copy 111 = .ok (.aload_n 0, 1) := by decide +kernel
theorem dX7_copy_112 : decode cX7_copy 112 = .ok (.iconst 2, 1) := by decide +kernel
theorem dX7_copy_113 : decode cX7_copy 113 = .ok (.invokevirtual 86, 3) := by decide +kernel
theorem dX7_copy_116 : decode cX7_copy 116 = .ok (.ireturn, 1) := by decide +kernel
theorem dX7_copy_117 : decode cX7_copy 117 = .ok (.iconst 0, 1) := by decide +kernel
theorem dX7_copy_118 : decode cX7_copy 118 = .ok (.istore 6, 2) := by decide +kernel
theorem dX7_copy_120 : decode cX7_copy 120 = .ok (.iload 6, 2) := by decide +kernel
theorem dX7_copy_122 : decode cX7_copy 122 = .ok (.iload 5, 2) := by decide +kernel
theorem dX7_copy_124 : decode cX7_copy 124 = .ok (.if_icmp .ge 30, 3) := by decide +kernel
theorem dX7_copy_127 : decode cX7_copy 127 = .ok (.aload_n 0, 1) := by decide +kernel
theorem dX7_copy_128 : decode cX7_copy 128 = .ok (.getfield 72, 3) := by decide +kernel
theorem dX7_copy_131 : decode cX7_copy 131 = .ok (.iload 6, 2) := by decide +kernel
theorem dX7_copy_133 : decode cX7_copy 133 = .ok (.aload_n 0, 1) := by decide +kernel
theorem dX7_copy_134 : decode cX7_copy 134 = .ok (.getfield 69, 3) := by decide +kernel
theorem dX7_copy_137 : decode cX7_copy 137 = .ok (.bipush 60, 2) := by decide +kernel
theorem dX7_copy_139 : decode cX7_copy 139 = .ok (.iload_n 1, 1) := by decide +kernel
theorem dX7_copy_140 : decode cX7_copy 140 = .ok (.imul, 1) := by decide +kernel
theorem dX7_copy_141 : decode cX7_copy 141 = .ok (.iload_n 2, 1) := by decide +kernel
theorem dX7_copy_142 : decode cX7_copy 142 = .ok (.iadd, 1) := by decide +kernel
theorem dX7_copy_143 : decode cX7_copy 143 = .ok (.iload 6, 2) := by decide +kernel
theorem dX7_copy_145 : decode cX7_copy 145 = .ok (.iadd, 1) := by decide +kernel
theorem dX7_copy_146 : decode cX7_copy 146 = .ok (.iaload, 1) := by decide +kernel
theorem dX7_copy_147 : decode cX7_copy 147 = .ok (.iastore, 1) := by decide +kernel
theorem dX7_copy_148 : decode cX7_copy 148 = .ok (.iinc 6 1, 3) := by decide +kernel
theorem dX7_copy_151 : decode cX7_copy 151 = .ok (.goto (-31), 3) := by decide +kernel
theorem dX7_copy_154 : decode cX7_copy 154 = .ok (.iconst 0, 1) := by decide +kernel
theorem dX7_copy_155 : decode cX7_copy 155 = .ok (.istore 6, 2) := by decide +kernel
theorem dX7_copy_157 : decode cX7_copy 157 = .ok (.iload 6, 2) := by decide +kernel
theorem dX7_copy_159 : decode cX7_copy 159 = .ok (.iload 5, 2) := by decide +kernel
theorem dX7_copy_161 : decode cX7_copy 161 = .ok (.if_icmp .ge 31, 3) := by decide +kernel
theorem dX7_copy_164 : decode cX7_copy 164 = .ok (.aload_n 0, 1) := by decide +kernel
theorem dX7_copy_165 : decode cX7_copy 165 = .ok (.getfield 69, 3) := by decide +kernel
theorem dX7_copy_168 : decode cX7_copy 168 = .ok (.bipush 60, 2) := by decide +kernel
theorem dX7_copy_170 : decode cX7_copy 170 = .ok (.iload_n 3, 1) := by decide +kernel
theorem dX7_copy_171 : decode cX7_copy 171 = .ok (.imul, 1) := by decide +kernel
theorem dX7_copy_172 : decode cX7_copy 172 = .ok (.iload 4, 2) := by decide +kernel
theorem dX7_copy_174 : decode cX7_copy 174 = .ok (.iadd, 1) := by decide +kernel
theorem dX7_copy_175 : decode cX7_copy 175 = .ok (.iload 6, 2) := by decide +kernel
theorem dX7_copy_177 : decode cX7_copy 177 = .ok (.iadd, 1) := by decide +kernel
theorem dX7_copy_178 : decode cX7_copy 178 = .ok (.aload_n 0, 1) := by decide +kernel
theorem dX7_copy_179 : decode cX7_copy 179 = .ok (.getfield 72, 3) := by decide +kernel
theorem dX7_copy_182 : decode cX7_copy 182 = .ok (.iload 6, 2) := by decide +kernel
theorem dX7_copy_184 : decode cX7_copy 184 = .ok (.iaload, 1) := by decide +kernel
theorem dX7_copy_185 : decode cX7_copy 185 = .ok (.iastore, 1) := by decide +kernel
theorem dX7_copy_186 : decode cX7_copy 186 = .ok (.iinc 6 1, 3) := by decide +kernel
theorem dX7_copy_189 : decode cX7_copy 189 = .ok (.goto (-32), 3) := by decide +kernel
theorem dX7_copy_192 : decode cX7_copy 192 = .ok (.iconst 1, 1) := by decide +kernel
theorem dX7_copy_193 : decode cX7_copy 193 = .ok (.ireturn, 1) := by decide +kernel
theorem dX7_write_0 : decode cX7_write 0 = .ok (.iload_n 1, 1) := by decide +kernel
theorem dX7_write_1 : decode cX7_write 1 = .ok (.invokestatic 82, 3) := by decide +kernel
theorem dX7_write_4 : decode cX7_write 4 = .ok (.ifCond .eq 32, 3) := by decide +kernel
theorem dX7_write_7 : decode cX7_write 7 = .ok (.aload_n 0, 1) := by decide +kernel
theorem dX7_write_8 : decode cX7_write 8 = .ok (.iload_n 2, 1) := by decide +kernel
theorem dX7_write_9 : decode cX7_write 9 = .ok (.invokevirtual 93, 3) := by decide +kernel
theorem dX7_write_12 : decode cX7_write 12 = .ok (.ifCond .eq 24, 3) := by decide +kernel
theorem dX7_write_15 : decode cX7_write 15 = .ok (.iload_n 3, 1) := by decide +kernel
theorem dX7_write_16 : decode cX7_write 16 = .ok (.iconst 1, 1) := by decide +kernel
theorem dX7_write_17 : decode cX7_write 17 = .ok (.bipush 99, 2) := by decide +kernel
theorem dX7_write_19 : decode cX7_write 19 = .ok (.invokestatic 75, 3) := by decide +kernel
theorem dX7_write_22 : decode cX7_write 22 = .ok (.ifCond .eq 14, 3) := by decide +kernel
theorem dX7_write_25 : decode cX7_write 25 = .ok (.iload 4, 2) := by decide +kernel
theorem dX7_write_27 : decode cX7_write 27 = .ok (.iconst 1, 1) := by decide +kernel
theorem dX7_write_28 : decode cX7_write 28 = .ok (.bipush 20, 2) := by decide +kernel
theorem dX7_write_30 : decode cX7_write 30 = .ok (.invokestatic 75, 3) := by decide +kernel
theorem dX7_write_33 : decode cX7_write 33 = .ok (.ifCond .ne 6, 3) := by decide +kernel
theorem dX7_write_36 : decode cX7_write 36 = .ok (.bipush (-2), 2) := by decide +kernel
theorem dX7_write_38 : decode cX7_write 38 = .ok (.ireturn, 1) := by decide +kernel
theorem dX7_write_39 : decode cX7_write 39 = .ok (.aload_n 0, 1) := by decide +kernel
theorem dX7_write_40 : decode cX7_write 40 = .ok (.getfield 60, 3) := by decide +kernel
theorem dX7_write_43 : decode cX7_write 43 = .ok (.iload_n 1, 1) := by decide +kernel
theorem dX7_write_44 : decode cX7_write 44 = .ok (.baload, 1) := by decide +kernel
theorem dX7_write_45 : decode cX7_write 45 = .ok (.ifCond .ne 9, 3) := by decide +kernel
theorem dX7_write_48 : decode cX7_write 48 = .ok (.aload_n 0, 1) := by decide +kernel
theorem dX7_write_49 : decode cX7_write 49 = .ok (.iconst 1, 1) := by decide +kernel
theorem dX7_write_50 : decode cX7_write 50 = .ok (.invokevirtual 86, 3) := by decide +kernel
theorem dX7_write_53 : decode cX7_write 53 = .ok (.ireturn, 1) := by decide +kernel
theorem dX7_write_54 : decode cX7_write 54 = .ok (.iconst 0, 1) := by decide +kernel
theorem dX7_write_55 : decode cX7_write 55 = .ok (.istore 5, 2) := by decide +kernel
theorem dX7_write_57 : decode cX7_write 57 = .ok (.iload 5, 2) := by decide +kernel
theorem dX7_write_59 : decode cX7_write 59 = .ok (.aload_n 0, 1) := by decide +kernel
theorem dX7_write_60 : decode cX7_write 60 = .ok (.getfield 66, 3) := by decide +kernel
theorem dX7_write_63 : decode cX7_write 63 = .ok (.iload_n 1, 1) := by decide +kernel
theorem dX7_write_64 : decode cX7_write 64 = .ok (.iaload, 1) := by decide +kernel
theorem dX7_write_65 : decode cX7_write 65 = .ok (.if_icmp .ge 46, 3) := by decide +kernel
theorem dX7_write_68 : decode cX7_write 68 = .ok (.iload_n 3, 1) := by decide +kernel
theorem dX7_write_69 : decode cX7_write 69 = .ok (.iload 5, 2) := by decide +kernel
theorem dX7_write_71 : decode cX7_write 71 = .ok (.iload 4, 2) := by decide +kernel
theorem dX7_write_73 : decode cX7_write 73 = .ok (.imul, 1) := by decide +kernel
theorem dX7_write_74 : decode cX7_write 74 = .ok (.iadd, 1) := by decide +kernel
theorem dX7_write_75 : decode cX7_write 75 = .ok (.sipush 400, 3) := by decide +kernel
theorem dX7_write_78 : decode cX7_write 78 = .ok (.if_icmp .gt 33, 3) := by decide +kernel
theorem dX7_write_81 : decode cX7_write 81 = .ok (.aload_n 0, 1) := by decide +kernel
theorem dX7_write_82 : decode cX7_write 82 = .ok (.iload_n 1, 1) := by decide +kernel
theorem dX7_write_83 : decode cX7_write 83 = .ok (.iload 5, 2) := by decide +kernel
theorem dX7_write_85 : decode cX7_write 85 = .ok (.aload_n 0, 1) := by decide +kernel
theorem dX7_write_86 : decode cX7_write 86 = .ok (.iload_n 2, 1) := by decide +kernel
theorem dX7_write_87 : decode cX7_write 87 = .ok (.aload_n 0, 1) := by decide +kernel
theorem dX7_write_88 : decode cX7_write 88 = .ok (.iload_n 2, 1) := by decide +kernel
theorem dX7_write_89 : decode cX7_write 89 = .ok (.iload_n 3, 1) := by decide +kernel
theorem dX7_write_90 : decode cX7_write 90 = .ok (.iload 5, 2) := by decide +kernel
theorem dX7_write_92 : decode cX7_write 92 = .ok (.iload 4, 2) := by decide +kernel
theorem dX7_write_94 : decode cX7_write 94 = .ok (.imul, 1) := by decide +kernel
theorem dX7_write_95 : decode cX7_write 95 = .ok (.iadd, 1) := by decide +kernel
theorem dX7_write_96 : decode cX7_write 96 = .ok (.invokevirtual 115, 3) := by decide +kernel
theorem dX7_write_99 : decode cX7_write 99 = .ok (.invokevirtual 106, 3) := by decide +kernel
theorem dX7_write_102 : decode cX7_write 102 = .ok (.invokevirtual 255, 3) := by decide +kernel
theorem dX7_write_105 : decode cX7_write 105 = .ok (.iinc 5 1, 3) := by decide +kernel
theorem dX7_write_108 : decode cX7_write 108 = .ok (.goto (-51), 3) := by decide +kernel
theorem dX7_write_111 : decode cX7_write 111 = .ok (.iload 5, 2) := by decide +kernel
theorem dX7_write_113 : decode cX7_write 113 = .ok (.ireturn, 1) := by decide +kernel
theorem dX7_count_0 : decode cX7_count 0 = .ok (.iconst 0, 1) := by decide +kernel
theorem dX7_count_1 : decode cX7_count 1 = .ok (.istore_n 2, 1) := by decide +kernel
theorem dX7_count_2 : decode cX7_count 2 = .ok (.iload_n 1, 1) := by decide +kernel
theorem dX7_count_3 : decode cX7_count 3 = .ok (.tableswitch 162 0 8 #[49, 54, 59, 64, 69, 74, 79, 125, 157], 49) := by decide +kernel
theorem dX7_count_52 : decode cX7_count 52 = .ok (.aload_n 0, 1) := by decide +kernel
theorem dX7_count_53 : decode cX7_count 53 = .ok (.getfield 79, 3) := by decide +kernel
theorem dX7_count_56 : decode cX7_count 56 = .ok (.ireturn, 1) := by decide +kernel
theorem dX7_count_57 : decode cX7_count 57 = .ok (.aload_n 0, 1) := by decide +kernel
theorem dX7_count_58 : decode cX7_count 58 = .ok (.getfield 126, 3) := by decide +kernel
theorem dX7_count_61 : decode cX7_count 61 = .ok (.ireturn, 1) := by decide +kernel
theorem dX7_count_62 : decode cX7_count 62 = .ok (.aload_n 0, 1) := by decide +kernel
theorem dX7_count_63 : decode cX7_count 63 = .ok (.getfield 23, 3) := by decide +kernel
theorem dX7_count_66 : decode cX7_count 66 = .ok (.ireturn, 1) := by decide +kernel
theorem dX7_count_67 : decode cX7_count 67 = .ok (.aload_n 0, 1) := by decide +kernel
theorem dX7_count_68 : decode cX7_count 68 = .ok (.getfield 157, 3) := by decide +kernel
theorem dX7_count_71 : decode cX7_count 71 = .ok (.ireturn, 1) := by decide +kernel
theorem dX7_count_72 : decode cX7_count 72 = .ok (.aload_n 0, 1) := by decide +kernel
theorem dX7_count_73 : decode cX7_count 73 = .ok (.getfield 180, 3) := by decide +kernel
theorem dX7_count_76 : decode cX7_count 76 = .ok (.ireturn, 1) := by decide +kernel
theorem dX7_count_77 : decode cX7_count 77 = .ok (.aload_n 0, 1) := by decide +kernel
theorem dX7_count_78 : decode cX7_count 78 = .ok (.getfield 224, 3) := by decide +kernel
theorem dX7_count_81 : decode cX7_count 81 = .ok (.ireturn, 1) := by decide +kernel
theorem dX7_count_82 : decode cX7_count 82 = .ok (.iconst 0, 1) := by decide +kernel
theorem dX7_count_83 : decode cX7_count 83 = .ok (.istore_n 3, 1) := by decide +kernel
theorem dX7_count_84 : decode cX7_count 84 = .ok (.iload_n 3, 1) := by decide +kernel
theorem dX7_count_85 : decode cX7_count 85 = .ok (.aload_n 0, 1) := by decide +kernel
theorem dX7_count_86 : decode cX7_count 86 = .ok (.getfield 157, 3) := by decide +kernel
theorem dX7_count_89 : decode cX7_count 89 = .ok (.if_icmp .ge 37, 3) := by decide +kernel
theorem dX7_count_92 : decode cX7_count 92 = .ok (.iconst 0, 1) := by decide +kernel
theorem dX7_count_93 : decode cX7_count 93 = .ok (.istore 4, 2) := by decide +kernel
theorem dX7_count_95 : decode cX7_count 95 = .ok (.iload 4, 2) := by decide +kernel
theorem dX7_count_97 : decode cX7_count 97 = .ok (.aload_n 0, 1) := by decide +kernel
theorem dX7_count_98 : decode cX7_count 98 = .ok (.getfield 157, 3) := by decide +kernel
theorem dX7_count_101 : decode cX7_count 101 = .ok (.if_icmp .ge 19, 3) := by decide +kernel
theorem dX7_count_104 : decode cX7_count 104 = .ok (.iload_n 2, 1) := by decide +kernel
theorem dX7_count_105 : decode cX7_count 105 = .ok (.aload_n 0, 1) := by decide +kernel
theorem dX7_count_106 : decode cX7_count 106 = .ok (.iload_n 3, 1) := by decide +kernel
theorem dX7_count_107 : decode cX7_count 107 = .ok (.iload 4, 2) := by decide +kernel
theorem dX7_count_109 : decode cX7_count 109 = .ok (.invokevirtual 167, 3) := by decide +kernel
theorem dX7_count_112 : decode cX7_count 112 = .ok (.iadd, 1) := by decide +kernel
theorem dX7_count_113 : decode cX7_count 113 = .ok (.istore_n 2, 1) := by decide +kernel
theorem dX7_count_114 : decode cX7_count 114 = .ok (.iinc 4 1, 3) := by decide +kernel
theorem dX7_count_117 : decode cX7_count 117 = .ok (.goto (-22), 3) := by decide +kernel
theorem dX7_count_120 : decode cX7_count 120 = .ok (.iinc 3 1, 3) := by decide +kernel
theorem dX7_count_123 : decode cX7_count 123 = .ok (.goto (-39), 3) := by decide +kernel
theorem dX7_count_126 : decode cX7_count 126 = .ok (.iload_n 2, 1) := by decide +kernel
theorem dX7_count_127 : decode cX7_count 127 = .ok (.ireturn, 1) := by decide +kernel
theorem dX7_count_128 : decode cX7_count 128 = .ok (.iconst 0, 1) := by decide +kernel
theorem dX7_count_129 : decode cX7_count 129 = .ok (.istore_n 3, 1) := by decide +kernel
theorem dX7_count_130 : decode cX7_count 130 = .ok (.iload_n 3, 1) := by decide +kernel
theorem dX7_count_131 : decode cX7_count 131 = .ok (.iconst 4, 1) := by decide +kernel
theorem dX7_count_132 : decode cX7_count 132 = .ok (.if_icmp .ge 26, 3) := by decide +kernel
theorem dX7_count_135 : decode cX7_count 135 = .ok (.iload_n 2, 1) := by decide +kernel
theorem dX7_count_136 : decode cX7_count 136 = .ok (.aload_n 0, 1) := by decide +kernel
theorem dX7_count_137 : decode cX7_count 137 = .ok (.getfield 60, 3) := by decide +kernel
theorem dX7_count_140 : decode cX7_count 140 = .ok (.iload_n 3, 1) := by decide +kernel
theorem dX7_count_141 : decode cX7_count 141 = .ok (.baload, 1) := by decide +kernel
theorem dX7_count_142 : decode cX7_count 142 = .ok (.ifCond .eq 7, 3) := by decide +kernel
theorem dX7_count_145 : decode cX7_count 145 = .ok (.iconst 1, 1) := by decide +kernel
theorem dX7_count_146 : decode cX7_count 146 = .ok (.goto 4, 3) := by decide +kernel
theorem dX7_count_149 : decode cX7_count 149 = .ok (.iconst 0, 1) := by decide +kernel
theorem dX7_count_150 : decode cX7_count 150 = .ok (.iadd, 1) := by decide +kernel
theorem dX7_count_151 : decode cX7_count 151 = .ok (.istore_n 2, 1) := by decide +kernel
theorem dX7_count_152 : decode cX7_count 152 = .ok (.iinc 3 1, 3) := by decide +kernel
theorem dX7_count_155 : decode cX7_count 155 = .ok (.goto (-25), 3) := by decide +kernel
theorem dX7_count_158 : decode cX7_count 158 = .ok (.iload_n 2, 1) := by decide +kernel
theorem dX7_count_159 : decode cX7_count 159 = .ok (.ireturn, 1) := by decide +kernel
theorem dX7_count_160 : decode cX7_count 160 = .ok (.aload_n 0, 1) := by decide +kernel
theorem dX7_count_161 : decode cX7_count 161 = .ok (.getfield 249, 3) := by decide +kernel
theorem dX7_count_164 : decode cX7_count 164 = .ok (.ireturn, 1) := by decide +kernel
theorem dX7_count_165 : decode cX7_count 165 = .ok (.bipush (-2), 2) := by decide +kernel
theorem dX7_count_167 : decode cX7_count 167 = .ok (.ireturn, 1) := by decide +kernel
theorem dX7_digest_0 : decode cX7_digest 0 = .ok (.ldc2_w 259, 3) := by decide +kernel
theorem dX7_digest_3 : decode cX7_digest 3 = .ok (.lstore_n 1, 1) := by decide +kernel
theorem dX7_digest_4 : decode cX7_digest 4 = .ok (.iconst 0, 1) := by decide +kernel
theorem dX7_digest_5 : decode cX7_digest 5 = .ok (.istore_n 3, 1) := by decide +kernel
theorem dX7_digest_6 : decode cX7_digest 6 = .ok (.iload_n 3, 1) := by decide +kernel
theorem dX7_digest_7 : decode cX7_digest 7 = .ok (.bipush 8, 2) := by decide +kernel
theorem dX7_digest_9 : decode cX7_digest 9 = .ok (.if_icmp .ge 22, 3) := by decide +kernel
theorem dX7_digest_12 : decode cX7_digest 12 = .ok (.ldc2_w 261, 3) := by decide +kernel
theorem dX7_digest_15 : decode cX7_digest 15 = .ok (.lload_n 1, 1) := by decide +kernel
theorem dX7_digest_16 : decode cX7_digest 16 = .ok (.lmul, 1) := by decide +kernel
theorem dX7_digest_17 : decode cX7_digest 17 = .ok (.aload_n 0, 1) := by decide +kernel
theorem dX7_digest_18 : decode cX7_digest 18 = .ok (.iload_n 3, 1) := by decide +kernel
theorem dX7_digest_19 : decode cX7_digest 19 = .ok (.invokevirtual 263, 3) := by decide +kernel
theorem dX7_digest_22 : decode cX7_digest 22 = .ok (.i2l, 1) := by decide +kernel
theorem dX7_digest_23 : decode cX7_digest 23 = .ok (.ladd, 1) := by decide +kernel
theorem dX7_digest_24 : decode cX7_digest 24 = .ok (.lstore_n 1, 1) := by decide +kernel
theorem dX7_digest_25 : decode cX7_digest 25 = .ok (.iinc 3 1, 3) := by decide +kernel
theorem dX7_digest_28 : decode cX7_digest 28 = .ok (.goto (-22), 3) := by decide +kernel
theorem dX7_digest_31 : decode cX7_digest 31 = .ok (.iconst 0, 1) := by decide +kernel
theorem dX7_digest_32 : decode cX7_digest 32 = .ok (.istore_n 3, 1) := by decide +kernel
theorem dX7_digest_33 : decode cX7_digest 33 = .ok (.iload_n 3, 1) := by decide +kernel
theorem dX7_digest_34 : decode cX7_digest 34 = .ok (.aload_n 0, 1) := by decide +kernel
theorem dX7_digest_35 : decode cX7_digest 35 = .ok (.getfield 79, 3) := by decide +kernel
theorem dX7_digest_38 : decode cX7_digest 38 = .ok (.if_icmp .ge 73, 3) := by decide +kernel
theorem dX7_digest_41 : decode cX7_digest 41 = .ok (.iconst 0, 1) := by decide +kernel
theorem dX7_digest_42 : decode cX7_digest 42 = .ok (.istore 4, 2) := by decide +kernel
theorem dX7_digest_44 : decode cX7_digest 44 = .ok (.iload 4, 2) := by decide +kernel
theorem dX7_digest_46 : decode cX7_digest 46 = .ok (.iconst 4, 1) := by decide +kernel
theorem dX7_digest_47 : decode cX7_digest 47 = .ok (.if_icmp .ge 24, 3) := by decide +kernel
theorem dX7_digest_50 : decode cX7_digest 50 = .ok (.ldc2_w 261, 3) := by decide +kernel
theorem dX7_digest_53 : decode cX7_digest 53 = .ok (.lload_n 1, 1) := by decide +kernel
theorem dX7_digest_54 : decode cX7_digest 54 = .ok (.lmul, 1) := by decide +kernel
theorem dX7_digest_55 : decode cX7_digest 55 = .ok (.aload_n 0, 1) := by decide +kernel
theorem dX7_digest_56 : decode cX7_digest 56 = .ok (.iload_n 3, 1) := by decide +kernel
theorem dX7_digest_57 : decode cX7_digest 57 = .ok (.iload 4, 2) := by decide +kernel
theorem dX7_digest_59 : decode cX7_digest 59 = .ok (.invokevirtual 99, 3) := by decide +kernel
theorem dX7_digest_62 : decode cX7_digest 62 = .ok (.i2l, 1) := by decide +kernel
theorem dX7_digest_63 : decode cX7_digest 63 = .ok (.ladd, 1) := by decide +kernel
theorem dX7_digest_64 : decode cX7_digest 64 = .ok (.lstore_n 1, 1) := by decide +kernel
theorem dX7_digest_65 : decode cX7_digest 65 = .ok (.iinc 4 1, 3) := by decide +kernel
theorem dX7_digest_68 : decode cX7_digest 68 = .ok (.goto (-24), 3) := by decide +kernel
theorem dX7_digest_71 : decode cX7_digest 71 = .ok (.iconst 1, 1) := by decide +kernel
theorem dX7_digest_72 : decode cX7_digest 72 = .ok (.istore 4, 2) := by decide +kernel
theorem dX7_digest_74 : decode cX7_digest 74 = .ok (.iload 4, 2) := by decide +kernel
theorem dX7_digest_76 : decode cX7_digest 76 = .ok (.aload_n 0, 1) := by decide +kernel
theorem dX7_digest_77 : decode cX7_digest 77 = .ok (.iload_n 3, 1) := by decide +kernel
theorem dX7_digest_78 : decode cX7_digest 78 = .ok (.invokevirtual 96, 3) := by decide +kernel
theorem dX7_digest_81 : decode cX7_digest 81 = .ok (.if_icmp .gt 24, 3) := by decide +kernel
theorem dX7_digest_84 : decode cX7_digest 84 = .ok (.ldc2_w 261, 3) := by decide +kernel
theorem dX7_digest_87 : decode cX7_digest 87 = .ok (.lload_n 1, 1) := by decide +kernel
theorem dX7_digest_88 : decode cX7_digest 88 = .ok (.lmul, 1) := by decide +kernel
theorem dX7_digest_89 : decode cX7_digest 89 = .ok (.aload_n 0, 1) := by decide +kernel
theorem dX7_digest_90 : decode cX7_digest 90 = .ok (.iload_n 3, 1) := by decide +kernel
theorem dX7_digest_91 : decode cX7_digest 91 = .ok (.iload 4, 2) := by decide +kernel
theorem dX7_digest_93 : decode cX7_digest 93 = .ok (.invokevirtual 106, 3) := by decide +kernel
theorem dX7_digest_96 : decode cX7_digest 96 = .ok (.i2l, 1) := by decide +kernel
theorem dX7_digest_97 : decode cX7_digest 97 = .ok (.ladd, 1) := by decide +kernel
theorem dX7_digest_98 : decode cX7_digest 98 = .ok (.lstore_n 1, 1) := by decide +kernel
theorem dX7_digest_99 : decode cX7_digest 99 = .ok (.iinc 4 1, 3) := by decide +kernel
theorem dX7_digest_102 : decode cX7_digest 102 = .ok (.goto (-28), 3) := by decide +kernel
theorem dX7_digest_105 : decode cX7_digest 105 = .ok (.iinc 3 1, 3) := by decide +kernel
theorem dX7_digest_108 : decode cX7_digest 108 = .ok (.goto (-75), 3) := by decide +kernel
theorem dX7_digest_111 : decode cX7_digest 111 = .ok (.ldc2_w 261, 3) := by decide +kernel
theorem dX7_digest_114 : decode cX7_digest 114 = .ok (.lload_n 1, 1) := by decide +kernel
theorem dX7_digest_115 : decode cX7_digest 115 = .ok (.lmul, 1) := by decide +kernel
theorem dX7_digest_116 : decode cX7_digest 116 = .ok (.aload_n 0, 1) := by decide +kernel
theorem dX7_digest_117 : decode cX7_digest 117 = .ok (.invokevirtual 147, 3) := by decide +kernel
theorem dX7_digest_120 : decode cX7_digest 120 = .ok (.i2l, 1) := by decide +kernel
theorem dX7_digest_121 : decode cX7_digest 121 = .ok (.ladd, 1) := by decide +kernel
theorem dX7_digest_122 : decode cX7_digest 122 = .ok (.lstore_n 1, 1) := by decide +kernel
theorem dX7_digest_123 : decode cX7_digest 123 = .ok (.iconst 0, 1) := by decide +kernel
theorem dX7_digest_124 : decode cX7_digest 124 = .ok (.istore_n 3, 1) := by decide +kernel
theorem dX7_digest_125 : decode cX7_digest 125 = .ok (.iload_n 3, 1) := by decide +kernel
theorem dX7_digest_126 : decode cX7_digest 126 = .ok (.aload_n 0, 1) := by decide +kernel
theorem dX7_digest_127 : decode cX7_digest 127 = .ok (.getfield 157, 3) := by decide +kernel
theorem dX7_digest_130 : decode cX7_digest 130 = .ok (.if_icmp .ge 42, 3) := by decide +kernel
theorem dX7_digest_133 : decode cX7_digest 133 = .ok (.iconst 0, 1) := by decide +kernel
theorem dX7_digest_134 : decode cX7_digest 134 = .ok (.istore 4, 2) := by decide +kernel
theorem dX7_digest_136 : decode cX7_digest 136 = .ok (.iload 4, 2) := by decide +kernel
theorem dX7_digest_138 : decode cX7_digest 138 = .ok (.aload_n 0, 1) := by decide +kernel
theorem dX7_digest_139 : decode cX7_digest 139 = .ok (.getfield 157, 3) := by decide +kernel
theorem dX7_digest_142 : decode cX7_digest 142 = .ok (.if_icmp .ge 24, 3) := by decide +kernel
theorem dX7_digest_145 : decode cX7_digest 145 = .ok (.ldc2_w 261, 3) := by decide +kernel
theorem dX7_digest_148 : decode cX7_digest 148 = .ok (.lload_n 1, 1) := by decide +kernel
theorem dX7_digest_149 : decode cX7_digest 149 = .ok (.lmul, 1) := by decide +kernel
theorem dX7_digest_150 : decode cX7_digest 150 = .ok (.aload_n 0, 1) := by decide +kernel
theorem dX7_digest_151 : decode cX7_digest 151 = .ok (.iload_n 3, 1) := by decide +kernel
theorem dX7_digest_152 : decode cX7_digest 152 = .ok (.iload 4, 2) := by decide +kernel
theorem dX7_digest_154 : decode cX7_digest 154 = .ok (.invokevirtual 167, 3) := by decide +kernel
theorem dX7_digest_157 : decode cX7_digest 157 = .ok (.i2l, 1) := by decide +kernel
theorem dX7_digest_158 : decode cX7_digest 158 = .ok (.ladd, 1) := by decide +kernel
theorem dX7_digest_159 : decode cX7_digest 159 = .ok (.lstore_n 1, 1) := by decide +kernel
theorem dX7_digest_160 : decode cX7_digest 160 = .ok (.iinc 4 1, 3) := by decide +kernel
theorem dX7_digest_163 : decode cX7_digest 163 = .ok (.goto (-27), 3) := by decide +kernel
theorem dX7_digest_166 : decode cX7_digest 166 = .ok (.iinc 3 1, 3) := by decide +kernel
theorem dX7_digest_169 : decode cX7_digest 169 = .ok (.goto (-44), 3) := by decide +kernel
theorem dX7_digest_172 : decode cX7_digest 172 = .ok (.iconst 0, 1) := by decide +kernel
theorem dX7_digest_173 : decode cX7_digest 173 = .ok (.istore_n 3, 1) := by decide +kernel
theorem dX7_digest_174 : decode cX7_digest 174 = .ok (.iload_n 3, 1) := by decide +kernel
theorem dX7_digest_175 : decode cX7_digest 175 = .ok (.aload_n 0, 1) := by decide +kernel
theorem dX7_digest_176 : decode cX7_digest 176 = .ok (.getfield 180, 3) := by decide +kernel
theorem dX7_digest_179 : decode cX7_digest 179 = .ok (.if_icmp .ge 52, 3) := by decide +kernel
theorem dX7_digest_182 : decode cX7_digest 182 = .ok (.iconst 0, 1) := by decide +kernel
theorem dX7_digest_183 : decode cX7_digest 183 = .ok (.istore 4, 2) := by decide +kernel
theorem dX7_digest_185 : decode cX7_digest 185 = .ok (.iload 4, 2) := by decide +kernel
theorem dX7_digest_187 : decode cX7_digest 187 = .ok (.iconst 5, 1) := by decide +kernel
theorem dX7_digest_188 : decode cX7_digest 188 = .ok (.if_icmp .ge 24, 3) := by decide +kernel
theorem dX7_digest_191 : decode cX7_digest 191 = .ok (.ldc2_w 261, 3) := by decide +kernel
theorem dX7_digest_194 : decode cX7_digest 194 = .ok (.lload_n 1, 1) := by decide +kernel
theorem dX7_digest_195 : decode cX7_digest 195 = .ok (.lmul, 1) := by decide +kernel
theorem dX7_digest_196 : decode cX7_digest 196 = .ok (.aload_n 0, 1) := by decide +kernel
theorem dX7_digest_197 : decode cX7_digest 197 = .ok (.iload_n 3, 1) := by decide +kernel
theorem dX7_digest_198 : decode cX7_digest 198 = .ok (.iload 4, 2) := by decide +kernel
theorem dX7_digest_200 : decode cX7_digest 200 = .ok (.invokevirtual 189, 3) := by decide +kernel
theorem dX7_digest_203 : decode cX7_digest 203 = .ok (.i2l, 1) := by decide +kernel
theorem dX7_digest_204 : decode cX7_digest 204 = .ok (.ladd, 1) := by decide +kernel
theorem dX7_digest_205 : decode cX7_digest 205 = .ok (.lstore_n 1, 1) := by decide +kernel
theorem dX7_digest_206 : decode cX7_digest 206 = .ok (.iinc 4 1, 3) := by decide +kernel
theorem dX7_digest_209 : decode cX7_digest 209 = .ok (.goto (-24), 3) := by decide +kernel
theorem dX7_digest_212 : decode cX7_digest 212 = .ok (.ldc2_w 261, 3) := by decide +kernel
theorem dX7_digest_215 : decode cX7_digest 215 = .ok (.lload_n 1, 1) := by decide +kernel
theorem dX7_digest_216 : decode cX7_digest 216 = .ok (.lmul, 1) := by decide +kernel
theorem dX7_digest_217 : decode cX7_digest 217 = .ok (.aload_n 0, 1) := by decide +kernel
theorem dX7_digest_218 : decode cX7_digest 218 = .ok (.iload_n 3, 1) := by decide +kernel
theorem dX7_digest_219 : decode cX7_digest 219 = .ok (.invokevirtual 195, 3) := by decide +kernel
theorem dX7_digest_222 : decode cX7_digest 222 = .ok (.i2l, 1) := by decide +kernel
theorem dX7_digest_223 : decode cX7_digest 223 = .ok (.ladd, 1) := by decide +kernel
theorem dX7_digest_224 : decode cX7_digest 224 = .ok (.lstore_n 1, 1) := by decide +kernel
theorem dX7_digest_225 : decode cX7_digest 225 = .ok (.iinc 3 1, 3) := by decide +kernel
theorem dX7_digest_228 : decode cX7_digest 228 = .ok (.goto (-54), 3) := by decide +kernel
theorem dX7_digest_231 : decode cX7_digest 231 = .ok (.lload_n 1, 1) := by decide +kernel
theorem dX7_digest_232 : decode cX7_digest 232 = .ok (.lreturn, 1) := by decide +kernel
