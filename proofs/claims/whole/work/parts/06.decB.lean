theorem dX3_init_0 : decode cX3_init 0 = .ok (.aload_n 0, 1) := by decide +kernel
theorem dX3_init_1 : decode cX3_init 1 = .ok (.invokespecial 1, 3) := by decide +kernel
theorem dX3_init_4 : decode cX3_init 4 = .ok (.aload_n 0, 1) := by decide +kernel
theorem dX3_init_5 : decode cX3_init 5 = .ok (.bipush 24, 2) := by decide +kernel
theorem dX3_init_7 : decode cX3_init 7 = .ok (.newarray .long, 2) := by decide +kernel
theorem dX3_init_9 : decode cX3_init 9 = .ok (.putfield 7, 3) := by decide +kernel
theorem dX3_init_12 : decode cX3_init 12 = .ok (.aload_n 0, 1) := by decide +kernel
theorem dX3_init_13 : decode cX3_init 13 = .ok (.bipush 24, 2) := by decide +kernel
theorem dX3_init_15 : decode cX3_init 15 = .ok (.newarray .double, 2) := by decide +kernel
theorem dX3_init_17 : decode cX3_init 17 = .ok (.putfield 13, 3) := by decide +kernel
theorem dX3_init_20 : decode cX3_init 20 = .ok (.aload_n 0, 1) := by decide +kernel
theorem dX3_init_21 : decode cX3_init 21 = .ok (.bipush 24, 2) := by decide +kernel
theorem dX3_init_23 : decode cX3_init 23 = .ok (.newarray .long, 2) := by decide +kernel
theorem dX3_init_25 : decode cX3_init 25 = .ok (.putfield 17, 3) := by decide +kernel
theorem dX3_init_28 : decode cX3_init 28 = .ok (.aload_n 0, 1) := by decide +kernel
theorem dX3_init_29 : decode cX3_init 29 = .ok (.bipush 24, 2) := by decide +kernel
theorem dX3_init_31 : decode cX3_init 31 = .ok (.newarray .long, 2) := by decide +kernel
theorem dX3_init_33 : decode cX3_init 33 = .ok (.putfield 20, 3) := by decide +kernel
theorem dX3_init_36 : decode cX3_init 36 = .ok (.aload_n 0, 1) := by decide +kernel
theorem dX3_init_37 : decode cX3_init 37 = .ok (.bipush 24, 2) := by decide +kernel
theorem dX3_init_39 : decode cX3_init 39 = .ok (.newarray .int, 2) := by decide +kernel
theorem dX3_init_41 : decode cX3_init 41 = .ok (.putfield 23, 3) := by decide +kernel
theorem dX3_init_44 : decode cX3_init 44 = .ok (.aload_n 0, 1) := by decide +kernel
theorem dX3_init_45 : decode cX3_init 45 = .ok (.bipush 24, 2) := by decide +kernel
theorem dX3_init_47 : decode cX3_init 47 = .ok (.newarray .boolean, 2) := by decide +kernel
theorem dX3_init_49 : decode cX3_init 49 = .ok (.putfield 27, 3) := by decide +kernel
theorem dX3_init_52 : decode cX3_init 52 = .ok (.aload_n 0, 1) := by decide +kernel
theorem dX3_init_53 : decode cX3_init 53 = .ok (.bipush 6, 2) := by decide +kernel
theorem dX3_init_55 : decode cX3_init 55 = .ok (.newarray .long, 2) := by decide +kernel
theorem dX3_init_57 : decode cX3_init 57 = .ok (.dup, 1) := by decide +kernel
theorem dX3_init_58 : decode cX3_init 58 = .ok (.iconst 0, 1) := by decide +kernel
theorem dX3_init_59 : decode cX3_init 59 = .ok (.ldc2_w 31, 3) := by decide +kernel
theorem dX3_init_62 : decode cX3_init 62 = .ok (.lastore, 1) := by decide +kernel
theorem dX3_init_63 : decode cX3_init 63 = .ok (.dup, 1) := by decide +kernel
theorem dX3_init_64 : decode cX3_init 64 = .ok (.iconst 1, 1) := by decide +kernel
theorem dX3_init_65 : decode cX3_init 65 = .ok (.ldc2_w 33, 3) := by decide +kernel
theorem dX3_init_68 : decode cX3_init 68 = .ok (.lastore, 1) := by decide +kernel
theorem dX3_init_69 : decode cX3_init 69 = .ok (.dup, 1) := by decide +kernel
theorem dX3_init_70 : decode cX3_init 70 = .ok (.iconst 2, 1) := by decide +kernel
theorem dX3_init_71 : decode cX3_init 71 = .ok (.ldc2_w 35, 3) := by decide +kernel
theorem dX3_init_74 : decode cX3_init 74 = .ok (.lastore, 1) := by decide +kernel
theorem dX3_init_75 : decode cX3_init 75 = .ok (.dup, 1) := by decide +kernel
theorem dX3_init_76 : decode cX3_init 76 = .ok (.iconst 3, 1) := by decide +kernel
theorem dX3_init_77 : decode cX3_init 77 = .ok (.ldc2_w 37, 3) := by decide +kernel
theorem dX3_init_80 : decode cX3_init 80 = .ok (.lastore, 1) := by decide +kernel
theorem dX3_init_81 : decode cX3_init 81 = .ok (.dup, 1) := by decide +kernel
theorem dX3_init_82 : decode cX3_init 82 = .ok (.iconst 4, 1) := by decide +kernel
theorem dX3_init_83 : decode cX3_init 83 = .ok (.ldc2_w 39, 3) := by decide +kernel
theorem dX3_init_86 : decode cX3_init 86 = .ok (.lastore, 1) := by decide +kernel
theorem dX3_init_87 : decode cX3_init 87 = .ok (.dup, 1) := by decide +kernel
theorem dX3_init_88 : decode cX3_init 88 = .ok (.iconst 5, 1) := by decide +kernel
theorem dX3_init_89 : decode cX3_init 89 = .ok (.ldc2_w 41, 3) := by decide +kernel
theorem dX3_init_92 : decode cX3_init 92 = .ok (.lastore, 1) := by decide +kernel
theorem dX3_init_93 : decode cX3_init 93 = .ok (.putfield 43, 3) := by decide +kernel
theorem dX3_init_96 : decode cX3_init 96 = .ok (.aload_n 0, 1) := by decide +kernel
theorem dX3_init_97 : decode cX3_init 97 = .ok (.iconst 3, 1) := by decide +kernel
theorem dX3_init_98 : decode cX3_init 98 = .ok (.newarray .boolean, 2) := by decide +kernel
theorem dX3_init_100 : decode cX3_init 100 = .ok (.putfield 46, 3) := by decide +kernel
theorem dX3_init_103 : decode cX3_init 103 = .ok (.aload_n 0, 1) := by decide +kernel
theorem dX3_init_104 : decode cX3_init 104 = .ok (.sipush 2048, 3) := by decide +kernel
theorem dX3_init_107 : decode cX3_init 107 = .ok (.newarray .int, 2) := by decide +kernel
theorem dX3_init_109 : decode cX3_init 109 = .ok (.putfield 49, 3) := by decide +kernel
theorem dX3_init_112 : decode cX3_init 112 = .ok (.aload_n 0, 1) := by decide +kernel
theorem dX3_init_113 : decode cX3_init 113 = .ok (.sipush 502, 3) := by decide +kernel
theorem dX3_init_116 : decode cX3_init 116 = .ok (.newarray .long, 2) := by decide +kernel
theorem dX3_init_118 : decode cX3_init 118 = .ok (.putfield 52, 3) := by decide +kernel
theorem dX3_init_121 : decode cX3_init 121 = .ok (.aload_n 0, 1) := by decide +kernel
theorem dX3_init_122 : decode cX3_init 122 = .ok (.sipush 1024, 3) := by decide +kernel
theorem dX3_init_125 : decode cX3_init 125 = .ok (.newarray .int, 2) := by decide +kernel
theorem dX3_init_127 : decode cX3_init 127 = .ok (.putfield 55, 3) := by decide +kernel
theorem dX3_init_130 : decode cX3_init 130 = .ok (.aload_n 0, 1) := by decide +kernel
theorem dX3_init_131 : decode cX3_init 131 = .ok (.sipush 1024, 3) := by decide +kernel
theorem dX3_init_134 : decode cX3_init 134 = .ok (.newarray .int, 2) := by decide +kernel
theorem dX3_init_136 : decode cX3_init 136 = .ok (.putfield 58, 3) := by decide +kernel
theorem dX3_init_139 : decode cX3_init 139 = .ok (.aload_n 0, 1) := by decide +kernel
theorem dX3_init_140 : decode cX3_init 140 = .ok (.iload_n 1, 1) := by decide +kernel
theorem dX3_init_141 : decode cX3_init 141 = .ok (.iconst 1, 1) := by decide +kernel
theorem dX3_init_142 : decode cX3_init 142 = .ok (.if_icmp .lt 13, 3) := by decide +kernel
theorem dX3_init_145 : decode cX3_init 145 = .ok (.iload_n 1, 1) := by decide +kernel
theorem dX3_init_146 : decode cX3_init 146 = .ok (.bipush 24, 2) := by decide +kernel
theorem dX3_init_148 : decode cX3_init 148 = .ok (.if_icmp .gt 7, 3) := by decide +kernel
theorem dX3_init_151 : decode cX3_init 151 = .ok (.iload_n 1, 1) := by decide +kernel
theorem dX3_init_152 : decode cX3_init 152 = .ok (.goto 5, 3) := by decide +kernel
theorem dX3_init_155 : decode cX3_init 155 = .ok (.bipush 8, 2) := by decide +kernel
theorem dX3_init_157 : decode cX3_init 157 = .ok (.putfield 61, 3) := by decide +kernel
theorem dX3_init_160 : decode cX3_init 160 = .ok (.iconst 0, 1) := by decide +kernel
theorem dX3_init_161 : decode cX3_init 161 = .ok (.istore_n 2, 1) := by decide +kernel
theorem dX3_init_162 : decode cX3_init 162 = .ok (.iload_n 2, 1) := by decide +kernel
theorem dX3_init_163 : decode cX3_init 163 = .ok (.bipush 24, 2) := by decide +kernel
theorem dX3_init_165 : decode cX3_init 165 = .ok (.if_icmp .ge 45, 3) := by decide +kernel
theorem dX3_init_168 : decode cX3_init 168 = .ok (.aload_n 0, 1) := by decide +kernel
theorem dX3_init_169 : decode cX3_init 169 = .ok (.getfield 7, 3) := by decide +kernel
theorem dX3_init_172 : decode cX3_init 172 = .ok (.iload_n 2, 1) := by decide +kernel
theorem dX3_init_173 : decode cX3_init 173 = .ok (.ldc2_w 65, 3) := by decide +kernel
theorem dX3_init_176 : decode cX3_init 176 = .ok (.lastore, 1) := by decide +kernel
theorem dX3_init_177 : decode cX3_init 177 = .ok (.aload_n 0, 1) := by decide +kernel
theorem dX3_init_178 : decode cX3_init 178 = .ok (.getfield 13, 3) := by decide +kernel
theorem dX3_init_181 : decode cX3_init 181 = .ok (.iload_n 2, 1) := by decide +kernel
theorem dX3_init_182 : decode cX3_init 182 = .ok (.ldc2_w 67, 3) := by decide +kernel
theorem dX3_init_185 : decode cX3_init 185 = .ok (.dastore, 1) := by decide +kernel
theorem dX3_init_186 : decode cX3_init 186 = .ok (.aload_n 0, 1) := by decide +kernel
theorem dX3_init_187 : decode cX3_init 187 = .ok (.getfield 17, 3) := by decide +kernel
theorem dX3_init_190 : decode cX3_init 190 = .ok (.iload_n 2, 1) := by decide +kernel
theorem dX3_init_191 : decode cX3_init 191 = .ok (.ldc2_w 69, 3) := by decide +kernel
theorem dX3_init_194 : decode cX3_init 194 = .ok (.lastore, 1) := by decide +kernel
theorem dX3_init_195 : decode cX3_init 195 = .ok (.aload_n 0, 1) := by decide +kernel
theorem dX3_init_196 : decode cX3_init 196 = .ok (.getfield 20, 3) := by decide +kernel
theorem dX3_init_199 : decode cX3_init 199 = .ok (.iload_n 2, 1) := by decide +kernel
theorem dX3_init_200 : decode cX3_init 200 = .ok (.ldc2_w 71, 3) := by decide +kernel
theorem dX3_init_203 : decode cX3_init 203 = .ok (.lastore, 1) := by decide +kernel
theorem dX3_init_204 : decode cX3_init 204 = .ok (.iinc 2 1, 3) := by decide +kernel
theorem dX3_init_207 : decode cX3_init 207 = .ok (.goto (-45), 3) := by decide +kernel
theorem dX3_init_210 : decode cX3_init 210 = .ok (.return_, 1) := by decide +kernel
theorem dX3_thrown_0 : decode cX3_thrown 0 = .ok (.aload_n 0, 1) := by decide +kernel
theorem dX3_thrown_1 : decode cX3_thrown 1 = .ok (.getfield 73, 3) := by decide +kernel
theorem dX3_thrown_4 : decode cX3_thrown 4 = .ok (.ireturn, 1) := by decide +kernel
theorem dX3_noCell_0 : decode cX3_noCell 0 = .ok (.iload_n 1, 1) := by decide +kernel
theorem dX3_noCell_1 : decode cX3_noCell 1 = .ok (.ifCond .lt 11, 3) := by decide +kernel
theorem dX3_noCell_4 : decode cX3_noCell 4 = .ok (.iload_n 1, 1) := by decide +kernel
theorem dX3_noCell_5 : decode cX3_noCell 5 = .ok (.aload_n 0, 1) := by decide +kernel
theorem dX3_noCell_6 : decode cX3_noCell 6 = .ok (.getfield 61, 3) := by decide +kernel
theorem dX3_noCell_9 : decode cX3_noCell 9 = .ok (.if_icmp .lt 7, 3) := by decide +kernel
theorem dX3_noCell_12 : decode cX3_noCell 12 = .ok (.iconst 1, 1) := by decide +kernel
theorem dX3_noCell_13 : decode cX3_noCell 13 = .ok (.goto 4, 3) := by decide +kernel
theorem dX3_noCell_16 : decode cX3_noCell 16 = .ok (.iconst 0, 1) := by decide +kernel
theorem dX3_noCell_17 : decode cX3_noCell 17 = .ok (.ireturn, 1) := by decide +kernel
theorem dX3_fails_0 : decode cX3_fails 0 = .ok (.aload_n 0, 1) := by decide +kernel
theorem dX3_fails_1 : decode cX3_fails 1 = .ok (.getfield 49, 3) := by decide +kernel
theorem dX3_fails_4 : decode cX3_fails 4 = .ok (.aload_n 0, 1) := by decide +kernel
theorem dX3_fails_5 : decode cX3_fails 5 = .ok (.getfield 76, 3) := by decide +kernel
theorem dX3_fails_8 : decode cX3_fails 8 = .ok (.iload_n 1, 1) := by decide +kernel
theorem dX3_fails_9 : decode cX3_fails 9 = .ok (.iastore, 1) := by decide +kernel
theorem dX3_fails_10 : decode cX3_fails 10 = .ok (.aload_n 0, 1) := by decide +kernel
theorem dX3_fails_11 : decode cX3_fails 11 = .ok (.dup, 1) := by decide +kernel
theorem dX3_fails_12 : decode cX3_fails 12 = .ok (.getfield 76, 3) := by decide +kernel
theorem dX3_fails_15 : decode cX3_fails 15 = .ok (.iconst 1, 1) := by decide +kernel
theorem dX3_fails_16 : decode cX3_fails 16 = .ok (.iadd, 1) := by decide +kernel
theorem dX3_fails_17 : decode cX3_fails 17 = .ok (.putfield 76, 3) := by decide +kernel
theorem dX3_fails_20 : decode cX3_fails 20 = .ok (.aload_n 0, 1) := by decide +kernel
theorem dX3_fails_21 : decode cX3_fails 21 = .ok (.iconst 0, 1) := by decide +kernel
theorem dX3_fails_22 : decode cX3_fails 22 = .ok (.putfield 79, 3) := by decide +kernel
theorem dX3_fails_25 : decode cX3_fails 25 = .ok (.return_, 1) := by decide +kernel
theorem dX3_within_0 : decode cX3_within 0 = .ok (.dload_n 0, 1) := by decide +kernel
theorem dX3_within_1 : decode cX3_within 1 = .ok (.dconst 0, 1) := by decide +kernel
theorem dX3_within_2 : decode cX3_within 2 = .ok (.dcmp .g, 1) := by decide +kernel
theorem dX3_within_3 : decode cX3_within 3 = .ok (.ifCond .ge 7, 3) := by decide +kernel
theorem dX3_within_6 : decode cX3_within 6 = .ok (.dconst 0, 1) := by decide +kernel
theorem dX3_within_7 : decode cX3_within 7 = .ok (.goto 14, 3) := by decide +kernel
theorem dX3_within_10 : decode cX3_within 10 = .ok (.dload_n 0, 1) := by decide +kernel
theorem dX3_within_11 : decode cX3_within 11 = .ok (.dconst 1, 1) := by decide +kernel
theorem dX3_within_12 : decode cX3_within 12 = .ok (.dcmp .l, 1) := by decide +kernel
theorem dX3_within_13 : decode cX3_within 13 = .ok (.ifCond .le 7, 3) := by decide +kernel
theorem dX3_within_16 : decode cX3_within 16 = .ok (.dconst 1, 1) := by decide +kernel
theorem dX3_within_17 : decode cX3_within 17 = .ok (.goto 4, 3) := by decide +kernel
theorem dX3_within_20 : decode cX3_within 20 = .ok (.dload_n 0, 1) := by decide +kernel
theorem dX3_within_21 : decode cX3_within 21 = .ok (.dreturn, 1) := by decide +kernel
theorem dX3_size_0 : decode cX3_size 0 = .ok (.lload_n 0, 1) := by decide +kernel
theorem dX3_size_1 : decode cX3_size 1 = .ok (.lconst 0, 1) := by decide +kernel
theorem dX3_size_2 : decode cX3_size 2 = .ok (.lcmp, 1) := by decide +kernel
theorem dX3_size_3 : decode cX3_size 3 = .ok (.ifCond .ge 8, 3) := by decide +kernel
theorem dX3_size_6 : decode cX3_size 6 = .ok (.lload_n 0, 1) := by decide +kernel
theorem dX3_size_7 : decode cX3_size 7 = .ok (.lneg, 1) := by decide +kernel
theorem dX3_size_8 : decode cX3_size 8 = .ok (.goto 4, 3) := by decide +kernel
theorem dX3_size_11 : decode cX3_size 11 = .ok (.lload_n 0, 1) := by decide +kernel
theorem dX3_size_12 : decode cX3_size 12 = .ok (.lreturn, 1) := by decide +kernel
theorem dX3_goesOn_0 : decode cX3_goesOn 0 = .ok (.aload_n 0, 1) := by decide +kernel
theorem dX3_goesOn_1 : decode cX3_goesOn 1 = .ok (.getfield 82, 3) := by decide +kernel
theorem dX3_goesOn_4 : decode cX3_goesOn 4 = .ok (.ifCond .ne 5, 3) := by decide +kernel
theorem dX3_goesOn_7 : decode cX3_goesOn 7 = .ok (.iconst 0, 1) := by decide +kernel
theorem dX3_goesOn_8 : decode cX3_goesOn 8 = .ok (.ireturn, 1) := by decide +kernel
theorem dX3_goesOn_9 : decode cX3_goesOn 9 = .ok (.aload_n 0, 1) := by decide +kernel
theorem dX3_goesOn_10 : decode cX3_goesOn 10 = .ok (.getfield 52, 3) := by decide +kernel
theorem dX3_goesOn_13 : decode cX3_goesOn 13 = .ok (.aload_n 0, 1) := by decide +kernel
theorem dX3_goesOn_14 : decode cX3_goesOn 14 = .ok (.getfield 82, 3) := by decide +kernel
theorem dX3_goesOn_17 : decode cX3_goesOn 17 = .ok (.iconst 1, 1) := by decide +kernel
theorem dX3_goesOn_18 : decode cX3_goesOn 18 = .ok (.isub, 1) := by decide +kernel
theorem dX3_goesOn_19 : decode cX3_goesOn 19 = .ok (.laload, 1) := by decide +kernel
theorem dX3_goesOn_20 : decode cX3_goesOn 20 = .ok (.lstore_n 3, 1) := by decide +kernel
theorem dX3_goesOn_21 : decode cX3_goesOn 21 = .ok (.lload_n 1, 1) := by decide +kernel
theorem dX3_goesOn_22 : decode cX3_goesOn 22 = .ok (.lload_n 3, 1) := by decide +kernel
theorem dX3_goesOn_23 : decode cX3_goesOn 23 = .ok (.lcmp, 1) := by decide +kernel
theorem dX3_goesOn_24 : decode cX3_goesOn 24 = .ok (.ifCond .ne 5, 3) := by decide +kernel
theorem dX3_goesOn_27 : decode cX3_goesOn 27 = .ok (.iconst 1, 1) := by decide +kernel
theorem dX3_goesOn_28 : decode cX3_goesOn 28 = .ok (.ireturn, 1) := by decide +kernel
theorem dX3_goesOn_29 : decode cX3_goesOn 29 = .ok (.aload_n 0, 1) := by decide +kernel
theorem dX3_goesOn_30 : decode cX3_goesOn 30 = .ok (.getfield 82, 3) := by decide +kernel
theorem dX3_goesOn_33 : decode cX3_goesOn 33 = .ok (.iconst 1, 1) := by decide +kernel
theorem dX3_goesOn_34 : decode cX3_goesOn 34 = .ok (.if_icmp .ne 5, 3) := by decide +kernel
theorem dX3_goesOn_37 : decode cX3_goesOn 37 = .ok (.iconst 0, 1) := by decide +kernel
theorem dX3_goesOn_38 : decode cX3_goesOn 38 = .ok (.ireturn, 1) := by decide +kernel
theorem dX3_goesOn_39 : decode cX3_goesOn 39 = .ok (.lload_n 3, 1) := by decide +kernel
theorem dX3_goesOn_40 : decode cX3_goesOn 40 = .ok (.aload_n 0, 1) := by decide +kernel
theorem dX3_goesOn_41 : decode cX3_goesOn 41 = .ok (.getfield 52, 3) := by decide +kernel
theorem dX3_goesOn_44 : decode cX3_goesOn 44 = .ok (.aload_n 0, 1) := by decide +kernel
theorem dX3_goesOn_45 : decode cX3_goesOn 45 = .ok (.getfield 82, 3) := by decide +kernel
theorem dX3_goesOn_48 : decode cX3_goesOn 48 = .ok (.iconst 2, 1) := by decide +kernel
theorem dX3_goesOn_49 : decode cX3_goesOn 49 = .ok (.isub, 1) := by decide +kernel
theorem dX3_goesOn_50 : decode cX3_goesOn 50 = .ok (.laload, 1) := by decide +kernel
theorem dX3_goesOn_51 : decode cX3_goesOn 51 = .ok (.lcmp, 1) := by decide +kernel
theorem dX3_goesOn_52 : decode cX3_goesOn 52 = .ok (.ifCond .le 7, 3) := by decide +kernel
theorem dX3_goesOn_55 : decode cX3_goesOn 55 = .ok (.iconst 1, 1) := by decide +kernel
theorem dX3_goesOn_56 : decode cX3_goesOn 56 = .ok (.goto 4, 3) := by decide +kernel
theorem dX3_goesOn_59 : decode cX3_goesOn 59 = .ok (.iconst 0, 1) := by decide +kernel
theorem dX3_goesOn_60 : decode cX3_goesOn 60 = .ok (.lload_n 1, 1) := by decide +kernel
theorem dX3_goesOn_61 : decode cX3_goesOn 61 = .ok (.lload_n 3, 1) := by decide +kernel
theorem dX3_goesOn_62 : decode cX3_goesOn 62 = .ok (.lcmp, 1) := by decide +kernel
theorem dX3_goesOn_63 : decode cX3_goesOn 63 = .ok (.ifCond .le 7, 3) := by decide +kernel
theorem dX3_goesOn_66 : decode cX3_goesOn 66 = .ok (.iconst 1, 1) := by decide +kernel
theorem dX3_goesOn_67 : decode cX3_goesOn 67 = .ok (.goto 4, 3) := by decide +kernel
theorem dX3_goesOn_70 : decode cX3_goesOn 70 = .ok (.iconst 0, 1) := by decide +kernel
theorem dX3_goesOn_71 : decode cX3_goesOn 71 = .ok (.if_icmp .ne 7, 3) := by decide +kernel
theorem dX3_goesOn_74 : decode cX3_goesOn 74 = .ok (.iconst 1, 1) := by decide +kernel
theorem dX3_goesOn_75 : decode cX3_goesOn 75 = .ok (.goto 4, 3) := by decide +kernel
theorem dX3_goesOn_78 : decode cX3_goesOn 78 = .ok (.iconst 0, 1) := by decide +kernel
theorem dX3_goesOn_79 : decode cX3_goesOn 79 = .ok (.ireturn, 1) := by decide +kernel
set_option maxRecDepth 20000 in
theorem ggX3_point_X3_goesOn : GoodIn wsX3_point wsX3_goesOn := goodIn_r _ [10, 2, 1, 14, 15, 16, 17, 18, 19, 20, 21, 22, 23, 24, 25, 26, 27, 28, 29, 30, 31, 32, 33] (by decide +kernel) (by decide +kernel)
set_option maxRecDepth 20000 in
theorem gX3_point_X3_goesOn : GoodIn wsX3_point (wsV RX3 85 RX3 yX3_goesOn wsX3_goesOn) := goodIn_app (goodIn_of _ (by decide +kernel)) ggX3_point_X3_goesOn
set_option maxRecDepth 20000 in
theorem ggX3_point_X3_size : GoodIn wsX3_point wsX3_size := goodIn_r _ [13] (by decide +kernel) (by decide +kernel)
set_option maxRecDepth 20000 in
theorem gX3_point_X3_size : GoodIn wsX3_point (va_wsS RX3 89 yX3_size wsX3_size) := goodIn_app (goodIn_of _ (by decide +kernel)) ggX3_point_X3_size
theorem dX3_point_0 : decode cX3_point 0 = .ok (.aload_n 0, 1) := by decide +kernel
theorem dX3_point_1 : decode cX3_point 1 = .ok (.lload_n 1, 1) := by decide +kernel
theorem dX3_point_2 : decode cX3_point 2 = .ok (.invokevirtual 85, 3) := by decide +kernel
theorem dX3_point_5 : decode cX3_point 5 = .ok (.ifCond .eq 18, 3) := by decide +kernel
theorem dX3_point_8 : decode cX3_point 8 = .ok (.aload_n 0, 1) := by decide +kernel
theorem dX3_point_9 : decode cX3_point 9 = .ok (.getfield 52, 3) := by decide +kernel
theorem dX3_point_12 : decode cX3_point 12 = .ok (.aload_n 0, 1) := by decide +kernel
theorem dX3_point_13 : decode cX3_point 13 = .ok (.getfield 82, 3) := by decide +kernel
theorem dX3_point_16 : decode cX3_point 16 = .ok (.iconst 1, 1) := by decide +kernel
theorem dX3_point_17 : decode cX3_point 17 = .ok (.isub, 1) := by decide +kernel
theorem dX3_point_18 : decode cX3_point 18 = .ok (.lload_n 1, 1) := by decide +kernel
theorem dX3_point_19 : decode cX3_point 19 = .ok (.lastore, 1) := by decide +kernel
theorem dX3_point_20 : decode cX3_point 20 = .ok (.goto 33, 3) := by decide +kernel
theorem dX3_point_23 : decode cX3_point 23 = .ok (.aload_n 0, 1) := by decide +kernel
theorem dX3_point_24 : decode cX3_point 24 = .ok (.getfield 82, 3) := by decide +kernel
theorem dX3_point_27 : decode cX3_point 27 = .ok (.sipush 500, 3) := by decide +kernel
theorem dX3_point_30 : decode cX3_point 30 = .ok (.if_icmp .ge 23, 3) := by decide +kernel
theorem dX3_point_33 : decode cX3_point 33 = .ok (.aload_n 0, 1) := by decide +kernel
theorem dX3_point_34 : decode cX3_point 34 = .ok (.getfield 52, 3) := by decide +kernel
theorem dX3_point_37 : decode cX3_point 37 = .ok (.aload_n 0, 1) := by decide +kernel
theorem dX3_point_38 : decode cX3_point 38 = .ok (.getfield 82, 3) := by decide +kernel
theorem dX3_point_41 : decode cX3_point 41 = .ok (.lload_n 1, 1) := by decide +kernel
theorem dX3_point_42 : decode cX3_point 42 = .ok (.lastore, 1) := by decide +kernel
theorem dX3_point_43 : decode cX3_point 43 = .ok (.aload_n 0, 1) := by decide +kernel
theorem dX3_point_44 : decode cX3_point 44 = .ok (.dup, 1) := by decide +kernel
theorem dX3_point_45 : decode cX3_point 45 = .ok (.getfield 82, 3) := by decide +kernel
theorem dX3_point_48 : decode cX3_point 48 = .ok (.iconst 1, 1) := by decide +kernel
theorem dX3_point_49 : decode cX3_point 49 = .ok (.iadd, 1) := by decide +kernel
theorem dX3_point_50 : decode cX3_point 50 = .ok (.putfield 82, 3) := by decide +kernel
theorem dX3_point_53 : decode cX3_point 53 = .ok (.iconst 1, 1) := by decide +kernel
theorem dX3_point_54 : decode cX3_point 54 = .ok (.istore_n 3, 1) := by decide +kernel
theorem dX3_point_55 : decode cX3_point 55 = .ok (.iload_n 3, 1) := by decide +kernel
theorem dX3_point_56 : decode cX3_point 56 = .ok (.ifCond .eq 192, 3) := by decide +kernel
theorem dX3_point_59 : decode cX3_point 59 = .ok (.aload_n 0, 1) := by decide +kernel
theorem dX3_point_60 : decode cX3_point 60 = .ok (.getfield 82, 3) := by decide +kernel
theorem dX3_point_63 : decode cX3_point 63 = .ok (.iconst 3, 1) := by decide +kernel
theorem dX3_point_64 : decode cX3_point 64 = .ok (.if_icmp .le 184, 3) := by decide +kernel
theorem dX3_point_67 : decode cX3_point 67 = .ok (.aload_n 0, 1) := by decide +kernel
theorem dX3_point_68 : decode cX3_point 68 = .ok (.getfield 52, 3) := by decide +kernel
theorem dX3_point_71 : decode cX3_point 71 = .ok (.aload_n 0, 1) := by decide +kernel
theorem dX3_point_72 : decode cX3_point 72 = .ok (.getfield 82, 3) := by decide +kernel
theorem dX3_point_75 : decode cX3_point 75 = .ok (.iconst 4, 1) := by decide +kernel
theorem dX3_point_76 : decode cX3_point 76 = .ok (.isub, 1) := by decide +kernel
theorem dX3_point_77 : decode cX3_point 77 = .ok (.laload, 1) := by decide +kernel
theorem dX3_point_78 : decode cX3_point 78 = .ok (.lstore 4, 2) := by decide +kernel
theorem dX3_point_80 : decode cX3_point 80 = .ok (.aload_n 0, 1) := by decide +kernel
theorem dX3_point_81 : decode cX3_point 81 = .ok (.getfield 52, 3) := by decide +kernel
theorem dX3_point_84 : decode cX3_point 84 = .ok (.aload_n 0, 1) := by decide +kernel
theorem dX3_point_85 : decode cX3_point 85 = .ok (.getfield 82, 3) := by decide +kernel
theorem dX3_point_88 : decode cX3_point 88 = .ok (.iconst 3, 1) := by decide +kernel
theorem dX3_point_89 : decode cX3_point 89 = .ok (.isub, 1) := by decide +kernel
theorem dX3_point_90 : decode cX3_point 90 = .ok (.laload, 1) := by decide +kernel
theorem dX3_point_91 : decode cX3_point 91 = .ok (.lstore 6, 2) := by decide +kernel
theorem dX3_point_93 : decode cX3_point 93 = .ok (.aload_n 0, 1) := by decide +kernel
theorem dX3_point_94 : decode cX3_point 94 = .ok (.getfield 52, 3) := by decide +kernel
theorem dX3_point_97 : decode cX3_point 97 = .ok (.aload_n 0, 1) := by decide +kernel
theorem dX3_point_98 : decode cX3_point 98 = .ok (.getfield 82, 3) := by decide +kernel
theorem dX3_point_101 : decode cX3_point 101 = .ok (.iconst 2, 1) := by decide +kernel
theorem dX3_point_102 : decode cX3_point 102 = .ok (.isub, 1) := by decide +kernel
theorem dX3_point_103 : decode cX3_point 103 = .ok (.laload, 1) := by decide +kernel
theorem dX3_point_104 : decode cX3_point 104 = .ok (.lstore 8, 2) := by decide +kernel
theorem dX3_point_106 : decode cX3_point 106 = .ok (.aload_n 0, 1) := by decide +kernel
theorem dX3_point_107 : decode cX3_point 107 = .ok (.getfield 52, 3) := by decide +kernel
theorem dX3_point_110 : decode cX3_point 110 = .ok (.aload_n 0, 1) := by decide +kernel
theorem dX3_point_111 : decode cX3_point 111 = .ok (.getfield 82, 3) := by decide +kernel
theorem dX3_point_114 : decode cX3_point 114 = .ok (.iconst 1, 1) := by decide +kernel
theorem dX3_point_115 : decode cX3_point 115 = .ok (.isub, 1) := by decide +kernel
theorem dX3_point_116 : decode cX3_point 116 = .ok (.laload, 1) := by decide +kernel
theorem dX3_point_117 : decode cX3_point 117 = .ok (.lstore 10, 2) := by decide +kernel
theorem dX3_point_119 : decode cX3_point 119 = .ok (.lload 6, 2) := by decide +kernel
theorem dX3_point_121 : decode cX3_point 121 = .ok (.lload 8, 2) := by decide +kernel
theorem dX3_point_123 : decode cX3_point 123 = .ok (.lsub, 1) := by decide +kernel
theorem dX3_point_124 : decode cX3_point 124 = .ok (.invokestatic 89, 3) := by decide +kernel
theorem dX3_point_127 : decode cX3_point 127 = .ok (.lload 4, 2) := by decide +kernel
theorem dX3_point_129 : decode cX3_point 129 = .ok (.lload 6, 2) := by decide +kernel
theorem dX3_point_131 : decode cX3_point 131 = .ok (.lsub, 1) := by decide +kernel
theorem dX3_point_132 : decode cX3_point 132 = .ok (.invokestatic 89, 3) := by decide +kernel
theorem dX3_point_135 : decode cX3_point 135 = .ok (.lcmp, 1) := by decide +kernel
theorem dX3_point_136 : decode cX3_point 136 = .ok (.ifCond .gt 27, 3) := by decide +kernel
theorem dX3_point_139 : decode cX3_point 139 = .ok (.lload 6, 2) := by decide +kernel
theorem dX3_point_141 : decode cX3_point 141 = .ok (.lload 8, 2) := by decide +kernel
theorem dX3_point_143 : decode cX3_point 143 = .ok (.lsub, 1) := by decide +kernel
theorem dX3_point_144 : decode cX3_point 144 = .ok (.invokestatic 89, 3) := by decide +kernel
theorem dX3_point_147 : decode cX3_point 147 = .ok (.lload 8, 2) := by decide +kernel
theorem dX3_point_149 : decode cX3_point 149 = .ok (.lload 10, 2) := by decide +kernel
theorem dX3_point_151 : decode cX3_point 151 = .ok (.lsub, 1) := by decide +kernel
theorem dX3_point_152 : decode cX3_point 152 = .ok (.invokestatic 89, 3) := by decide +kernel
theorem dX3_point_155 : decode cX3_point 155 = .ok (.lcmp, 1) := by decide +kernel
theorem dX3_point_156 : decode cX3_point 156 = .ok (.ifCond .gt 7, 3) := by decide +kernel
theorem dX3_point_159 : decode cX3_point 159 = .ok (.iconst 1, 1) := by decide +kernel
theorem dX3_point_160 : decode cX3_point 160 = .ok (.goto 4, 3) := by decide +kernel
theorem dX3_point_163 : decode cX3_point 163 = .ok (.iconst 0, 1) := by decide +kernel
theorem dX3_point_164 : decode cX3_point 164 = .ok (.istore_n 3, 1) := by decide +kernel
theorem dX3_point_165 : decode cX3_point 165 = .ok (.iload_n 3, 1) := by decide +kernel
theorem dX3_point_166 : decode cX3_point 166 = .ok (.ifCond .eq 79, 3) := by decide +kernel
theorem dX3_point_169 : decode cX3_point 169 = .ok (.aload_n 0, 1) := by decide +kernel
theorem dX3_point_170 : decode cX3_point 170 = .ok (.getfield 55, 3) := by decide +kernel
theorem dX3_point_173 : decode cX3_point 173 = .ok (.aload_n 0, 1) := by decide +kernel
theorem dX3_point_174 : decode cX3_point 174 = .ok (.getfield 93, 3) := by decide +kernel
theorem dX3_point_177 : decode cX3_point 177 = .ok (.lload 6, 2) := by decide +kernel
theorem dX3_point_179 : decode cX3_point 179 = .ok (.lload 8, 2) := by decide +kernel
theorem dX3_point_181 : decode cX3_point 181 = .ok (.lsub, 1) := by decide +kernel
theorem dX3_point_182 : decode cX3_point 182 = .ok (.invokestatic 89, 3) := by decide +kernel
theorem dX3_point_185 : decode cX3_point 185 = .ok (.l2i, 1) := by decide +kernel
theorem dX3_point_186 : decode cX3_point 186 = .ok (.iastore, 1) := by decide +kernel
theorem dX3_point_187 : decode cX3_point 187 = .ok (.aload_n 0, 1) := by decide +kernel
theorem dX3_point_188 : decode cX3_point 188 = .ok (.getfield 58, 3) := by decide +kernel
theorem dX3_point_191 : decode cX3_point 191 = .ok (.aload_n 0, 1) := by decide +kernel
theorem dX3_point_192 : decode cX3_point 192 = .ok (.getfield 93, 3) := by decide +kernel
theorem dX3_point_195 : decode cX3_point 195 = .ok (.lload 6, 2) := by decide +kernel
theorem dX3_point_197 : decode cX3_point 197 = .ok (.lload 8, 2) := by decide +kernel
theorem dX3_point_199 : decode cX3_point 199 = .ok (.lcmp, 1) := by decide +kernel
theorem dX3_point_200 : decode cX3_point 200 = .ok (.ifCond .ge 8, 3) := by decide +kernel
theorem dX3_point_203 : decode cX3_point 203 = .ok (.lload 6, 2) := by decide +kernel
theorem dX3_point_205 : decode cX3_point 205 = .ok (.goto 5, 3) := by decide +kernel
theorem dX3_point_208 : decode cX3_point 208 = .ok (.lload 8, 2) := by decide +kernel
theorem dX3_point_210 : decode cX3_point 210 = .ok (.l2i, 1) := by decide +kernel
theorem dX3_point_211 : decode cX3_point 211 = .ok (.iastore, 1) := by decide +kernel
theorem dX3_point_212 : decode cX3_point 212 = .ok (.aload_n 0, 1) := by decide +kernel
theorem dX3_point_213 : decode cX3_point 213 = .ok (.dup, 1) := by decide +kernel
theorem dX3_point_214 : decode cX3_point 214 = .ok (.getfield 93, 3) := by decide +kernel
theorem dX3_point_217 : decode cX3_point 217 = .ok (.iconst 1, 1) := by decide +kernel
theorem dX3_point_218 : decode cX3_point 218 = .ok (.iadd, 1) := by decide +kernel
theorem dX3_point_219 : decode cX3_point 219 = .ok (.putfield 93, 3) := by decide +kernel
theorem dX3_point_222 : decode cX3_point 222 = .ok (.aload_n 0, 1) := by decide +kernel
theorem dX3_point_223 : decode cX3_point 223 = .ok (.getfield 52, 3) := by decide +kernel
theorem dX3_point_226 : decode cX3_point 226 = .ok (.aload_n 0, 1) := by decide +kernel
theorem dX3_point_227 : decode cX3_point 227 = .ok (.getfield 82, 3) := by decide +kernel
theorem dX3_point_230 : decode cX3_point 230 = .ok (.iconst 3, 1) := by decide +kernel
theorem dX3_point_231 : decode cX3_point 231 = .ok (.isub, 1) := by decide +kernel
theorem dX3_point_232 : decode cX3_point 232 = .ok (.lload 10, 2) := by decide +kernel
theorem dX3_point_234 : decode cX3_point 234 = .ok (.lastore, 1) := by decide +kernel
theorem dX3_point_235 : decode cX3_point 235 = .ok (.aload_n 0, 1) := by decide +kernel
theorem dX3_point_236 : decode cX3_point 236 = .ok (.aload_n 0, 1) := by decide +kernel
theorem dX3_point_237 : decode cX3_point 237 = .ok (.getfield 82, 3) := by decide +kernel
theorem dX3_point_240 : decode cX3_point 240 = .ok (.iconst 2, 1) := by decide +kernel
theorem dX3_point_241 : decode cX3_point 241 = .ok (.isub, 1) := by decide +kernel
theorem dX3_point_242 : decode cX3_point 242 = .ok (.putfield 82, 3) := by decide +kernel
theorem dX3_point_245 : decode cX3_point 245 = .ok (.goto (-190), 3) := by decide +kernel
theorem dX3_point_248 : decode cX3_point 248 = .ok (.return_, 1) := by decide +kernel
set_option maxRecDepth 20000 in
theorem ggX3_step_X3_noCell : GoodIn wsX3_step wsX3_noCell := goodIn_r _ [25, 26, 51, 52, 53, 54, 55, 56, 57, 58, 59, 60, 61, 62, 63, 64, 65, 66, 67, 68, 69, 70] (by decide +kernel) (by decide +kernel)
set_option maxRecDepth 20000 in
theorem gX3_step_X3_noCell : GoodIn wsX3_step (wsV RX3 104 RX3 yX3_noCell wsX3_noCell) := goodIn_app (goodIn_of _ (by decide +kernel)) ggX3_step_X3_noCell
set_option maxRecDepth 20000 in
theorem ggX3_step_X3_point : GoodIn wsX3_step wsX3_point := goodIn_r _ [30, 31, 7, 32, 33, 34, 35, 36, 37, 24, 38, 39, 40, 41, 51, 52, 53, 54, 55, 56, 57, 58, 59, 60, 61, 62, 63, 64, 65, 66, 67, 68, 69, 70] (by decide +kernel) (by decide +kernel)
set_option maxRecDepth 20000 in
theorem gX3_step_X3_point : GoodIn wsX3_step (wsV RX3 108 RX3 yX3_point wsX3_point) := goodIn_app (goodIn_of _ (by decide +kernel)) ggX3_step_X3_point
set_option maxRecDepth 20000 in
theorem ggX3_step_X3_within : GoodIn wsX3_step wsX3_within := goodIn_r _ [44] (by decide +kernel) (by decide +kernel)
set_option maxRecDepth 20000 in
theorem gX3_step_X3_within : GoodIn wsX3_step (va_wsS RX3 117 yX3_within wsX3_within) := goodIn_app (goodIn_of _ (by decide +kernel)) ggX3_step_X3_within
set_option maxRecDepth 20000 in
theorem ggX3_step_X3_size : GoodIn wsX3_step wsX3_size := goodIn_r _ [41] (by decide +kernel) (by decide +kernel)
set_option maxRecDepth 20000 in
theorem gX3_step_X3_size : GoodIn wsX3_step (va_wsS RX3 89 yX3_size wsX3_size) := goodIn_app (goodIn_of _ (by decide +kernel)) ggX3_step_X3_size
set_option maxRecDepth 20000 in
theorem ggX3_step_X3_fails : GoodIn wsX3_step wsX3_fails := goodIn_r _ [48, 49, 20, 50, 51, 52, 53, 54, 55, 56, 57, 58, 59, 60, 61, 62, 63, 64, 65, 66, 67, 68, 69, 70] (by decide +kernel) (by decide +kernel)
set_option maxRecDepth 20000 in
theorem gX3_step_X3_fails : GoodIn wsX3_step (wsV RX3 127 RX3 yX3_fails wsX3_fails) := goodIn_app (goodIn_of _ (by decide +kernel)) ggX3_step_X3_fails
theorem dX3_step_0 : decode cX3_step 0 = .ok (.aload_n 0, 1) := by decide +kernel
theorem dX3_step_1 : decode cX3_step 1 = .ok (.iconst 0, 1) := by decide +kernel
theorem dX3_step_2 : decode cX3_step 2 = .ok (.putfield 73, 3) := by decide +kernel
theorem dX3_step_5 : decode cX3_step 5 = .ok (.lload_n 2, 1) := by decide +kernel
theorem dX3_step_6 : decode cX3_step 6 = .ok (.ldc2_w 96, 3) := by decide +kernel
theorem dX3_step_9 : decode cX3_step 9 = .ok (.lcmp, 1) := by decide +kernel
theorem dX3_step_10 : decode cX3_step 10 = .ok (.ifCond .lt 45, 3) := by decide +kernel
theorem dX3_step_13 : decode cX3_step 13 = .ok (.lload_n 2, 1) := by decide +kernel
theorem dX3_step_14 : decode cX3_step 14 = .ok (.ldc2_w 41, 3) := by decide +kernel
theorem dX3_step_17 : decode cX3_step 17 = .ok (.lcmp, 1) := by decide +kernel
theorem dX3_step_18 : decode cX3_step 18 = .ok (.ifCond .gt 37, 3) := by decide +kernel
theorem dX3_step_21 : decode cX3_step 21 = .ok (.lload 4, 2) := by decide +kernel
theorem dX3_step_23 : decode cX3_step 23 = .ok (.lconst 0, 1) := by decide +kernel
theorem dX3_step_24 : decode cX3_step 24 = .ok (.lcmp, 1) := by decide +kernel
theorem dX3_step_25 : decode cX3_step 25 = .ok (.ifCond .lt 30, 3) := by decide +kernel
theorem dX3_step_28 : decode cX3_step 28 = .ok (.lload 4, 2) := by decide +kernel
theorem dX3_step_30 : decode cX3_step 30 = .ok (.ldc2_w 98, 3) := by decide +kernel
theorem dX3_step_33 : decode cX3_step 33 = .ok (.lcmp, 1) := by decide +kernel
theorem dX3_step_34 : decode cX3_step 34 = .ok (.ifCond .gt 21, 3) := by decide +kernel
theorem dX3_step_37 : decode cX3_step 37 = .ok (.lload 6, 2) := by decide +kernel
theorem dX3_step_39 : decode cX3_step 39 = .ok (.ldc2_w 100, 3) := by decide +kernel
theorem dX3_step_42 : decode cX3_step 42 = .ok (.lcmp, 1) := by decide +kernel
theorem dX3_step_43 : decode cX3_step 43 = .ok (.ifCond .lt 12, 3) := by decide +kernel
theorem dX3_step_46 : decode cX3_step 46 = .ok (.lload 6, 2) := by decide +kernel
theorem dX3_step_48 : decode cX3_step 48 = .ok (.ldc2_w 102, 3) := by decide +kernel
theorem dX3_step_51 : decode cX3_step 51 = .ok (.lcmp, 1) := by decide +kernel
theorem dX3_step_52 : decode cX3_step 52 = .ok (.ifCond .le 6, 3) := by decide +kernel
theorem dX3_step_55 : decode cX3_step 55 = .ok (.bipush (-2), 2) := by decide +kernel
theorem dX3_step_57 : decode cX3_step 57 = .ok (.ireturn, 1) := by decide +kernel
theorem dX3_step_58 : decode cX3_step 58 = .ok (.aload_n 0, 1) := by decide +kernel
theorem dX3_step_59 : decode cX3_step 59 = .ok (.aload_n 0, 1) := by decide +kernel
theorem dX3_step_60 : decode cX3_step 60 = .ok (.iload_n 1, 1) := by decide +kernel
theorem dX3_step_61 : decode cX3_step 61 = .ok (.invokevirtual 104, 3) := by decide +kernel
theorem dX3_step_64 : decode cX3_step 64 = .ok (.ifCond .eq 7, 3) := by decide +kernel
theorem dX3_step_67 : decode cX3_step 67 = .ok (.iconst 1, 1) := by decide +kernel
theorem dX3_step_68 : decode cX3_step 68 = .ok (.goto 4, 3) := by decide +kernel
theorem dX3_step_71 : decode cX3_step 71 = .ok (.iconst 0, 1) := by decide +kernel
theorem dX3_step_72 : decode cX3_step 72 = .ok (.putfield 73, 3) := by decide +kernel
theorem dX3_step_75 : decode cX3_step 75 = .ok (.aload_n 0, 1) := by decide +kernel
theorem dX3_step_76 : decode cX3_step 76 = .ok (.getfield 73, 3) := by decide +kernel
theorem dX3_step_79 : decode cX3_step 79 = .ok (.ifCond .le 5, 3) := by decide +kernel
theorem dX3_step_82 : decode cX3_step 82 = .ok (.iconst 0, 1) := by decide +kernel
theorem dX3_step_83 : decode cX3_step 83 = .ok (.ireturn, 1) := by decide +kernel
theorem dX3_step_84 : decode cX3_step 84 = .ok (.iload_n 1, 1) := by decide +kernel
theorem dX3_step_85 : decode cX3_step 85 = .ok (.ifCond .ne 20, 3) := by decide +kernel
theorem dX3_step_88 : decode cX3_step 88 = .ok (.aload_n 0, 1) := by decide +kernel
theorem dX3_step_89 : decode cX3_step 89 = .ok (.getfield 82, 3) := by decide +kernel
theorem dX3_step_92 : decode cX3_step 92 = .ok (.ifCond .ne 13, 3) := by decide +kernel
theorem dX3_step_95 : decode cX3_step 95 = .ok (.aload_n 0, 1) := by decide +kernel
theorem dX3_step_96 : decode cX3_step 96 = .ok (.aload_n 0, 1) := by decide +kernel
theorem dX3_step_97 : decode cX3_step 97 = .ok (.getfield 7, 3) := by decide +kernel
theorem dX3_step_100 : decode cX3_step 100 = .ok (.iconst 0, 1) := by decide +kernel
theorem dX3_step_101 : decode cX3_step 101 = .ok (.laload, 1) := by decide +kernel
theorem dX3_step_102 : decode cX3_step 102 = .ok (.invokevirtual 108, 3) := by decide +kernel
theorem dX3_step_105 : decode cX3_step 105 = .ok (.aload_n 0, 1) := by decide +kernel
theorem dX3_step_106 : decode cX3_step 106 = .ok (.dup, 1) := by decide +kernel
theorem dX3_step_107 : decode cX3_step 107 = .ok (.getfield 112, 3) := by decide +kernel
theorem dX3_step_110 : decode cX3_step 110 = .ok (.iconst 1, 1) := by decide +kernel
theorem dX3_step_111 : decode cX3_step 111 = .ok (.iadd, 1) := by decide +kernel
theorem dX3_step_112 : decode cX3_step 112 = .ok (.putfield 112, 3) := by decide +kernel
theorem dX3_step_115 : decode cX3_step 115 = .ok (.aload_n 0, 1) := by decide +kernel
theorem dX3_step_116 : decode cX3_step 116 = .ok (.getfield 17, 3) := by decide +kernel
theorem dX3_step_119 : decode cX3_step 119 = .ok (.iload_n 1, 1) := by decide +kernel
theorem dX3_step_120 : decode cX3_step 120 = .ok (.lload 4, 2) := by decide +kernel
theorem dX3_step_122 : decode cX3_step 122 = .ok (.lastore, 1) := by decide +kernel
theorem dX3_step_123 : decode cX3_step 123 = .ok (.aload_n 0, 1) := by decide +kernel
theorem dX3_step_124 : decode cX3_step 124 = .ok (.getfield 20, 3) := by decide +kernel
theorem dX3_step_127 : decode cX3_step 127 = .ok (.iload_n 1, 1) := by decide +kernel
theorem dX3_step_128 : decode cX3_step 128 = .ok (.lload 6, 2) := by decide +kernel
theorem dX3_step_130 : decode cX3_step 130 = .ok (.lastore, 1) := by decide +kernel
theorem dX3_step_131 : decode cX3_step 131 = .ok (.aload_n 0, 1) := by decide +kernel
theorem dX3_step_132 : decode cX3_step 132 = .ok (.getfield 7, 3) := by decide +kernel
theorem dX3_step_135 : decode cX3_step 135 = .ok (.iload_n 1, 1) := by decide +kernel
theorem dX3_step_136 : decode cX3_step 136 = .ok (.aload_n 0, 1) := by decide +kernel
theorem dX3_step_137 : decode cX3_step 137 = .ok (.getfield 7, 3) := by decide +kernel
theorem dX3_step_140 : decode cX3_step 140 = .ok (.iload_n 1, 1) := by decide +kernel
theorem dX3_step_141 : decode cX3_step 141 = .ok (.laload, 1) := by decide +kernel
theorem dX3_step_142 : decode cX3_step 142 = .ok (.lload_n 2, 1) := by decide +kernel
theorem dX3_step_143 : decode cX3_step 143 = .ok (.ladd, 1) := by decide +kernel
theorem dX3_step_144 : decode cX3_step 144 = .ok (.aload_n 0, 1) := by decide +kernel
theorem dX3_step_145 : decode cX3_step 145 = .ok (.getfield 27, 3) := by decide +kernel
theorem dX3_step_148 : decode cX3_step 148 = .ok (.iload_n 1, 1) := by decide +kernel
theorem dX3_step_149 : decode cX3_step 149 = .ok (.baload, 1) := by decide +kernel
theorem dX3_step_150 : decode cX3_step 150 = .ok (.ifCond .eq 9, 3) := by decide +kernel
theorem dX3_step_153 : decode cX3_step 153 = .ok (.ldc2_w 115, 3) := by decide +kernel
theorem dX3_step_156 : decode cX3_step 156 = .ok (.goto 4, 3) := by decide +kernel
theorem dX3_step_159 : decode cX3_step 159 = .ok (.lconst 0, 1) := by decide +kernel
theorem dX3_step_160 : decode cX3_step 160 = .ok (.lsub, 1) := by decide +kernel
theorem dX3_step_161 : decode cX3_step 161 = .ok (.lastore, 1) := by decide +kernel
theorem dX3_step_162 : decode cX3_step 162 = .ok (.aload_n 0, 1) := by decide +kernel
theorem dX3_step_163 : decode cX3_step 163 = .ok (.getfield 43, 3) := by decide +kernel
theorem dX3_step_166 : decode cX3_step 166 = .ok (.iconst 5, 1) := by decide +kernel
theorem dX3_step_167 : decode cX3_step 167 = .ok (.laload, 1) := by decide +kernel
theorem dX3_step_168 : decode cX3_step 168 = .ok (.lstore 8, 2) := by decide +kernel
theorem dX3_step_170 : decode cX3_step 170 = .ok (.lload 8, 2) := by decide +kernel
theorem dX3_step_172 : decode cX3_step 172 = .ok (.lconst 0, 1) := by decide +kernel
theorem dX3_step_173 : decode cX3_step 173 = .ok (.lcmp, 1) := by decide +kernel
theorem dX3_step_174 : decode cX3_step 174 = .ok (.ifCond .ne 12, 3) := by decide +kernel
theorem dX3_step_177 : decode cX3_step 177 = .ok (.aload_n 0, 1) := by decide +kernel
theorem dX3_step_178 : decode cX3_step 178 = .ok (.getfield 13, 3) := by decide +kernel
theorem dX3_step_181 : decode cX3_step 181 = .ok (.iload_n 1, 1) := by decide +kernel
theorem dX3_step_182 : decode cX3_step 182 = .ok (.daload, 1) := by decide +kernel
theorem dX3_step_183 : decode cX3_step 183 = .ok (.goto 16, 3) := by decide +kernel
theorem dX3_step_186 : decode cX3_step 186 = .ok (.aload_n 0, 1) := by decide +kernel
theorem dX3_step_187 : decode cX3_step 187 = .ok (.getfield 13, 3) := by decide +kernel
theorem dX3_step_190 : decode cX3_step 190 = .ok (.iload_n 1, 1) := by decide +kernel
theorem dX3_step_191 : decode cX3_step 191 = .ok (.daload, 1) := by decide +kernel
theorem dX3_step_192 : decode cX3_step 192 = .ok (.lload_n 2, 1) := by decide +kernel
theorem dX3_step_193 : decode cX3_step 193 = .ok (.l2d, 1) := by decide +kernel
theorem dX3_step_194 : decode cX3_step 194 = .ok (.lload 8, 2) := by decide +kernel
theorem dX3_step_196 : decode cX3_step 196 = .ok (.l2d, 1) := by decide +kernel
theorem dX3_step_197 : decode cX3_step 197 = .ok (.ddiv, 1) := by decide +kernel
theorem dX3_step_198 : decode cX3_step 198 = .ok (.dadd, 1) := by decide +kernel
theorem dX3_step_199 : decode cX3_step 199 = .ok (.invokestatic 117, 3) := by decide +kernel
theorem dX3_step_202 : decode cX3_step 202 = .ok (.dstore 10, 2) := by decide +kernel
theorem dX3_step_204 : decode cX3_step 204 = .ok (.lload 4, 2) := by decide +kernel
theorem dX3_step_206 : decode cX3_step 206 = .ok (.ldc2_w 121, 3) := by decide +kernel
theorem dX3_step_209 : decode cX3_step 209 = .ok (.lsub, 1) := by decide +kernel
theorem dX3_step_210 : decode cX3_step 210 = .ok (.l2d, 1) := by decide +kernel
theorem dX3_step_211 : decode cX3_step 211 = .ok (.ldc2_w 123, 3) := by decide +kernel
theorem dX3_step_214 : decode cX3_step 214 = .ok (.ddiv, 1) := by decide +kernel
theorem dX3_step_215 : decode cX3_step 215 = .ok (.invokestatic 117, 3) := by decide +kernel
theorem dX3_step_218 : decode cX3_step 218 = .ok (.dstore 12, 2) := by decide +kernel
theorem dX3_step_220 : decode cX3_step 220 = .ok (.aload_n 0, 1) := by decide +kernel
theorem dX3_step_221 : decode cX3_step 221 = .ok (.getfield 13, 3) := by decide +kernel
theorem dX3_step_224 : decode cX3_step 224 = .ok (.iload_n 1, 1) := by decide +kernel
theorem dX3_step_225 : decode cX3_step 225 = .ok (.dload 10, 2) := by decide +kernel
theorem dX3_step_227 : decode cX3_step 227 = .ok (.ldc2_w 125, 3) := by decide +kernel
theorem dX3_step_230 : decode cX3_step 230 = .ok (.dload 12, 2) := by decide +kernel
theorem dX3_step_232 : decode cX3_step 232 = .ok (.dload 10, 2) := by decide +kernel
theorem dX3_step_234 : decode cX3_step 234 = .ok (.dsub, 1) := by decide +kernel
theorem dX3_step_235 : decode cX3_step 235 = .ok (.dmul, 1) := by decide +kernel
theorem dX3_step_236 : decode cX3_step 236 = .ok (.dadd, 1) := by decide +kernel
theorem dX3_step_237 : decode cX3_step 237 = .ok (.dastore, 1) := by decide +kernel
theorem dX3_step_238 : decode cX3_step 238 = .ok (.lload 4, 2) := by decide +kernel
theorem dX3_step_240 : decode cX3_step 240 = .ok (.aload_n 0, 1) := by decide +kernel
theorem dX3_step_241 : decode cX3_step 241 = .ok (.getfield 43, 3) := by decide +kernel
theorem dX3_step_244 : decode cX3_step 244 = .ok (.iconst 0, 1) := by decide +kernel
theorem dX3_step_245 : decode cX3_step 245 = .ok (.laload, 1) := by decide +kernel
theorem dX3_step_246 : decode cX3_step 246 = .ok (.lcmp, 1) := by decide +kernel
theorem dX3_step_247 : decode cX3_step 247 = .ok (.ifCond .lt 41, 3) := by decide +kernel
theorem dX3_step_250 : decode cX3_step 250 = .ok (.lload 4, 2) := by decide +kernel
theorem dX3_step_252 : decode cX3_step 252 = .ok (.aload_n 0, 1) := by decide +kernel
theorem dX3_step_253 : decode cX3_step 253 = .ok (.getfield 43, 3) := by decide +kernel
theorem dX3_step_256 : decode cX3_step 256 = .ok (.iconst 1, 1) := by decide +kernel
theorem dX3_step_257 : decode cX3_step 257 = .ok (.laload, 1) := by decide +kernel
theorem dX3_step_258 : decode cX3_step 258 = .ok (.lcmp, 1) := by decide +kernel
theorem dX3_step_259 : decode cX3_step 259 = .ok (.ifCond .gt 29, 3) := by decide +kernel
theorem dX3_step_262 : decode cX3_step 262 = .ok (.lload 6, 2) := by decide +kernel
theorem dX3_step_264 : decode cX3_step 264 = .ok (.aload_n 0, 1) := by decide +kernel
theorem dX3_step_265 : decode cX3_step 265 = .ok (.getfield 43, 3) := by decide +kernel
theorem dX3_step_268 : decode cX3_step 268 = .ok (.iconst 2, 1) := by decide +kernel
theorem dX3_step_269 : decode cX3_step 269 = .ok (.laload, 1) := by decide +kernel
theorem dX3_step_270 : decode cX3_step 270 = .ok (.lcmp, 1) := by decide +kernel
theorem dX3_step_271 : decode cX3_step 271 = .ok (.ifCond .gt 17, 3) := by decide +kernel
theorem dX3_step_274 : decode cX3_step 274 = .ok (.lload_n 2, 1) := by decide +kernel
theorem dX3_step_275 : decode cX3_step 275 = .ok (.invokestatic 89, 3) := by decide +kernel
theorem dX3_step_278 : decode cX3_step 278 = .ok (.aload_n 0, 1) := by decide +kernel
theorem dX3_step_279 : decode cX3_step 279 = .ok (.getfield 43, 3) := by decide +kernel
theorem dX3_step_282 : decode cX3_step 282 = .ok (.iconst 3, 1) := by decide +kernel
theorem dX3_step_283 : decode cX3_step 283 = .ok (.laload, 1) := by decide +kernel
theorem dX3_step_284 : decode cX3_step 284 = .ok (.lcmp, 1) := by decide +kernel
theorem dX3_step_285 : decode cX3_step 285 = .ok (.ifCond .le 7, 3) := by decide +kernel
theorem dX3_step_288 : decode cX3_step 288 = .ok (.iconst 1, 1) := by decide +kernel
theorem dX3_step_289 : decode cX3_step 289 = .ok (.goto 4, 3) := by decide +kernel
theorem dX3_step_292 : decode cX3_step 292 = .ok (.iconst 0, 1) := by decide +kernel
theorem dX3_step_293 : decode cX3_step 293 = .ok (.istore 14, 2) := by decide +kernel
theorem dX3_step_295 : decode cX3_step 295 = .ok (.aload_n 0, 1) := by decide +kernel
theorem dX3_step_296 : decode cX3_step 296 = .ok (.getfield 23, 3) := by decide +kernel
theorem dX3_step_299 : decode cX3_step 299 = .ok (.iload_n 1, 1) := by decide +kernel
theorem dX3_step_300 : decode cX3_step 300 = .ok (.iload 14, 2) := by decide +kernel
theorem dX3_step_302 : decode cX3_step 302 = .ok (.ifCond .eq 14, 3) := by decide +kernel
theorem dX3_step_305 : decode cX3_step 305 = .ok (.aload_n 0, 1) := by decide +kernel
theorem dX3_step_306 : decode cX3_step 306 = .ok (.getfield 23, 3) := by decide +kernel
theorem dX3_step_309 : decode cX3_step 309 = .ok (.iload_n 1, 1) := by decide +kernel
theorem dX3_step_310 : decode cX3_step 310 = .ok (.iaload, 1) := by decide +kernel
theorem dX3_step_311 : decode cX3_step 311 = .ok (.iconst 1, 1) := by decide +kernel
theorem dX3_step_312 : decode cX3_step 312 = .ok (.iadd, 1) := by decide +kernel
theorem dX3_step_313 : decode cX3_step 313 = .ok (.goto 4, 3) := by decide +kernel
theorem dX3_step_316 : decode cX3_step 316 = .ok (.iconst 0, 1) := by decide +kernel
theorem dX3_step_317 : decode cX3_step 317 = .ok (.iastore, 1) := by decide +kernel
theorem dX3_step_318 : decode cX3_step 318 = .ok (.aload_n 0, 1) := by decide +kernel
theorem dX3_step_319 : decode cX3_step 319 = .ok (.getfield 76, 3) := by decide +kernel
theorem dX3_step_322 : decode cX3_step 322 = .ok (.istore 15, 2) := by decide +kernel
theorem dX3_step_324 : decode cX3_step 324 = .ok (.iload 14, 2) := by decide +kernel
theorem dX3_step_326 : decode cX3_step 326 = .ok (.ifCond .eq 19, 3) := by decide +kernel
theorem dX3_step_329 : decode cX3_step 329 = .ok (.aload_n 0, 1) := by decide +kernel
theorem dX3_step_330 : decode cX3_step 330 = .ok (.getfield 23, 3) := by decide +kernel
theorem dX3_step_333 : decode cX3_step 333 = .ok (.iload_n 1, 1) := by decide +kernel
theorem dX3_step_334 : decode cX3_step 334 = .ok (.iaload, 1) := by decide +kernel
theorem dX3_step_335 : decode cX3_step 335 = .ok (.iconst 2, 1) := by decide +kernel
theorem dX3_step_336 : decode cX3_step 336 = .ok (.irem, 1) := by decide +kernel
theorem dX3_step_337 : decode cX3_step 337 = .ok (.ifCond .ne 8, 3) := by decide +kernel
theorem dX3_step_340 : decode cX3_step 340 = .ok (.aload_n 0, 1) := by decide +kernel
theorem dX3_step_341 : decode cX3_step 341 = .ok (.iconst 1, 1) := by decide +kernel
theorem dX3_step_342 : decode cX3_step 342 = .ok (.invokevirtual 127, 3) := by decide +kernel
theorem dX3_step_345 : decode cX3_step 345 = .ok (.aload_n 0, 1) := by decide +kernel
theorem dX3_step_346 : decode cX3_step 346 = .ok (.getfield 7, 3) := by decide +kernel
theorem dX3_step_349 : decode cX3_step 349 = .ok (.iload_n 1, 1) := by decide +kernel
theorem dX3_step_350 : decode cX3_step 350 = .ok (.laload, 1) := by decide +kernel
theorem dX3_step_351 : decode cX3_step 351 = .ok (.lconst 0, 1) := by decide +kernel
theorem dX3_step_352 : decode cX3_step 352 = .ok (.lcmp, 1) := by decide +kernel
theorem dX3_step_353 : decode cX3_step 353 = .ok (.ifCond .lt 15, 3) := by decide +kernel
theorem dX3_step_356 : decode cX3_step 356 = .ok (.aload_n 0, 1) := by decide +kernel
theorem dX3_step_357 : decode cX3_step 357 = .ok (.getfield 7, 3) := by decide +kernel
theorem dX3_step_360 : decode cX3_step 360 = .ok (.iload_n 1, 1) := by decide +kernel
theorem dX3_step_361 : decode cX3_step 361 = .ok (.laload, 1) := by decide +kernel
theorem dX3_step_362 : decode cX3_step 362 = .ok (.lload 8, 2) := by decide +kernel
theorem dX3_step_364 : decode cX3_step 364 = .ok (.lcmp, 1) := by decide +kernel
theorem dX3_step_365 : decode cX3_step 365 = .ok (.ifCond .le 8, 3) := by decide +kernel
theorem dX3_step_368 : decode cX3_step 368 = .ok (.aload_n 0, 1) := by decide +kernel
theorem dX3_step_369 : decode cX3_step 369 = .ok (.iconst 2, 1) := by decide +kernel
theorem dX3_step_370 : decode cX3_step 370 = .ok (.invokevirtual 127, 3) := by decide +kernel
theorem dX3_step_373 : decode cX3_step 373 = .ok (.iload_n 1, 1) := by decide +kernel
theorem dX3_step_374 : decode cX3_step 374 = .ok (.ifCond .ne 13, 3) := by decide +kernel
theorem dX3_step_377 : decode cX3_step 377 = .ok (.aload_n 0, 1) := by decide +kernel
theorem dX3_step_378 : decode cX3_step 378 = .ok (.aload_n 0, 1) := by decide +kernel
theorem dX3_step_379 : decode cX3_step 379 = .ok (.getfield 7, 3) := by decide +kernel
theorem dX3_step_382 : decode cX3_step 382 = .ok (.iconst 0, 1) := by decide +kernel
theorem dX3_step_383 : decode cX3_step 383 = .ok (.laload, 1) := by decide +kernel
theorem dX3_step_384 : decode cX3_step 384 = .ok (.invokevirtual 108, 3) := by decide +kernel
theorem dX3_step_387 : decode cX3_step 387 = .ok (.aload_n 0, 1) := by decide +kernel
theorem dX3_step_388 : decode cX3_step 388 = .ok (.getfield 76, 3) := by decide +kernel
theorem dX3_step_391 : decode cX3_step 391 = .ok (.iload 15, 2) := by decide +kernel
theorem dX3_step_393 : decode cX3_step 393 = .ok (.if_icmp .le 7, 3) := by decide +kernel
theorem dX3_step_396 : decode cX3_step 396 = .ok (.iconst 2, 1) := by decide +kernel
theorem dX3_step_397 : decode cX3_step 397 = .ok (.goto 13, 3) := by decide +kernel
theorem dX3_step_400 : decode cX3_step 400 = .ok (.iload 14, 2) := by decide +kernel
theorem dX3_step_402 : decode cX3_step 402 = .ok (.ifCond .eq 7, 3) := by decide +kernel
theorem dX3_step_405 : decode cX3_step 405 = .ok (.iconst 1, 1) := by decide +kernel
theorem dX3_step_406 : decode cX3_step 406 = .ok (.goto 4, 3) := by decide +kernel
theorem dX3_step_409 : decode cX3_step 409 = .ok (.iconst 0, 1) := by decide +kernel
theorem dX3_step_410 : decode cX3_step 410 = .ok (.ireturn, 1) := by decide +kernel
set_option maxRecDepth 20000 in
theorem ggX3_charge_X3_noCell : GoodIn wsX3_charge wsX3_noCell := goodIn_r _ [7, 8, 9, 10, 11, 12, 13, 14, 15, 16, 17, 18, 19, 20, 21, 22, 23, 24, 25, 26, 27, 28] (by decide +kernel) (by decide +kernel)
set_option maxRecDepth 20000 in
theorem gX3_charge_X3_noCell : GoodIn wsX3_charge (wsV RX3 104 RX3 yX3_noCell wsX3_noCell) := goodIn_app (goodIn_of _ (by decide +kernel)) ggX3_charge_X3_noCell
theorem dX3_charge_0 : decode cX3_charge 0 = .ok (.aload_n 0, 1) := by decide +kernel
theorem dX3_charge_1 : decode cX3_charge 1 = .ok (.iconst 0, 1) := by decide +kernel
theorem dX3_charge_2 : decode cX3_charge 2 = .ok (.putfield 73, 3) := by decide +kernel
theorem dX3_charge_5 : decode cX3_charge 5 = .ok (.aload_n 0, 1) := by decide +kernel
theorem dX3_charge_6 : decode cX3_charge 6 = .ok (.iload_n 1, 1) := by decide +kernel
theorem dX3_charge_7 : decode cX3_charge 7 = .ok (.invokevirtual 104, 3) := by decide +kernel
theorem dX3_charge_10 : decode cX3_charge 10 = .ok (.ifCond .eq 7, 3) := by decide +kernel
theorem dX3_charge_13 : decode cX3_charge 13 = .ok (.lconst 0, 1) := by decide +kernel
theorem dX3_charge_14 : decode cX3_charge 14 = .ok (.goto 9, 3) := by decide +kernel
theorem dX3_charge_17 : decode cX3_charge 17 = .ok (.aload_n 0, 1) := by decide +kernel
theorem dX3_charge_18 : decode cX3_charge 18 = .ok (.getfield 7, 3) := by decide +kernel
theorem dX3_charge_21 : decode cX3_charge 21 = .ok (.iload_n 1, 1) := by decide +kernel
theorem dX3_charge_22 : decode cX3_charge 22 = .ok (.laload, 1) := by decide +kernel
theorem dX3_charge_23 : decode cX3_charge 23 = .ok (.lreturn, 1) := by decide +kernel
set_option maxRecDepth 20000 in
theorem ggX3_share_X3_noCell : GoodIn wsX3_share wsX3_noCell := goodIn_r _ [7, 8, 9, 10, 11, 12, 13, 14, 15, 16, 17, 18, 19, 20, 21, 22, 23, 24, 25, 26, 27, 28] (by decide +kernel) (by decide +kernel)
set_option maxRecDepth 20000 in
theorem gX3_share_X3_noCell : GoodIn wsX3_share (wsV RX3 104 RX3 yX3_noCell wsX3_noCell) := goodIn_app (goodIn_of _ (by decide +kernel)) ggX3_share_X3_noCell
theorem dX3_share_0 : decode cX3_share 0 = .ok (.aload_n 0, 1) := by decide +kernel
theorem dX3_share_1 : decode cX3_share 1 = .ok (.iconst 0, 1) := by decide +kernel
theorem dX3_share_2 : decode cX3_share 2 = .ok (.putfield 73, 3) := by decide +kernel
theorem dX3_share_5 : decode cX3_share 5 = .ok (.aload_n 0, 1) := by decide +kernel
theorem dX3_share_6 : decode cX3_share 6 = .ok (.iload_n 1, 1) := by decide +kernel
theorem dX3_share_7 : decode cX3_share 7 = .ok (.invokevirtual 104, 3) := by decide +kernel
theorem dX3_share_10 : decode cX3_share 10 = .ok (.ifCond .eq 7, 3) := by decide +kernel
theorem dX3_share_13 : decode cX3_share 13 = .ok (.dconst 0, 1) := by decide +kernel
theorem dX3_share_14 : decode cX3_share 14 = .ok (.goto 9, 3) := by decide +kernel
theorem dX3_share_17 : decode cX3_share 17 = .ok (.aload_n 0, 1) := by decide +kernel
theorem dX3_share_18 : decode cX3_share 18 = .ok (.getfield 13, 3) := by decide +kernel
theorem dX3_share_21 : decode cX3_share 21 = .ok (.iload_n 1, 1) := by decide +kernel
theorem dX3_share_22 : decode cX3_share 22 = .ok (.daload, 1) := by decide +kernel
theorem dX3_share_23 : decode cX3_share 23 = .ok (.dreturn, 1) := by decide +kernel
set_option maxRecDepth 20000 in
theorem ggX3_whole_X3_noCell : GoodIn wsX3_whole wsX3_noCell := goodIn_r _ [8, 9, 13, 14, 15, 16, 17, 18, 19, 20, 21, 22, 23, 24, 25, 26, 27, 28, 29, 30, 31, 32] (by decide +kernel) (by decide +kernel)
set_option maxRecDepth 20000 in
theorem gX3_whole_X3_noCell : GoodIn wsX3_whole (wsV RX3 104 RX3 yX3_noCell wsX3_noCell) := goodIn_app (goodIn_of _ (by decide +kernel)) ggX3_whole_X3_noCell
set_option maxRecDepth 20000 in
theorem ggX3_whole_X3_size : GoodIn wsX3_whole wsX3_size := goodIn_r _ [12] (by decide +kernel) (by decide +kernel)
set_option maxRecDepth 20000 in
theorem gX3_whole_X3_size : GoodIn wsX3_whole (va_wsS RX3 89 yX3_size wsX3_size) := goodIn_app (goodIn_of _ (by decide +kernel)) ggX3_whole_X3_size
theorem dX3_whole_0 : decode cX3_whole 0 = .ok (.aload_n 0, 1) := by decide +kernel
theorem dX3_whole_1 : decode cX3_whole 1 = .ok (.iconst 0, 1) := by decide +kernel
theorem dX3_whole_2 : decode cX3_whole 2 = .ok (.putfield 73, 3) := by decide +kernel
theorem dX3_whole_5 : decode cX3_whole 5 = .ok (.aload_n 0, 1) := by decide +kernel
theorem dX3_whole_6 : decode cX3_whole 6 = .ok (.iload_n 1, 1) := by decide +kernel
theorem dX3_whole_7 : decode cX3_whole 7 = .ok (.invokevirtual 104, 3) := by decide +kernel
theorem dX3_whole_10 : decode cX3_whole 10 = .ok (.ifCond .eq 5, 3) := by decide +kernel
theorem dX3_whole_13 : decode cX3_whole 13 = .ok (.lconst 0, 1) := by decide +kernel
theorem dX3_whole_14 : decode cX3_whole 14 = .ok (.lreturn, 1) := by decide +kernel
theorem dX3_whole_15 : decode cX3_whole 15 = .ok (.aload_n 0, 1) := by decide +kernel
theorem dX3_whole_16 : decode cX3_whole 16 = .ok (.aload_n 0, 1) := by decide +kernel
theorem dX3_whole_17 : decode cX3_whole 17 = .ok (.getfield 43, 3) := by decide +kernel
theorem dX3_whole_20 : decode cX3_whole 20 = .ok (.iconst 5, 1) := by decide +kernel
theorem dX3_whole_21 : decode cX3_whole 21 = .ok (.laload, 1) := by decide +kernel
theorem dX3_whole_22 : decode cX3_whole 22 = .ok (.lconst 0, 1) := by decide +kernel
theorem dX3_whole_23 : decode cX3_whole 23 = .ok (.lcmp, 1) := by decide +kernel
theorem dX3_whole_24 : decode cX3_whole 24 = .ok (.ifCond .ne 7, 3) := by decide +kernel
theorem dX3_whole_27 : decode cX3_whole 27 = .ok (.iconst 1, 1) := by decide +kernel
theorem dX3_whole_28 : decode cX3_whole 28 = .ok (.goto 4, 3) := by decide +kernel
theorem dX3_whole_31 : decode cX3_whole 31 = .ok (.iconst 0, 1) := by decide +kernel
theorem dX3_whole_32 : decode cX3_whole 32 = .ok (.putfield 73, 3) := by decide +kernel
theorem dX3_whole_35 : decode cX3_whole 35 = .ok (.aload_n 0, 1) := by decide +kernel
theorem dX3_whole_36 : decode cX3_whole 36 = .ok (.getfield 73, 3) := by decide +kernel
theorem dX3_whole_39 : decode cX3_whole 39 = .ok (.ifCond .le 5, 3) := by decide +kernel
theorem dX3_whole_42 : decode cX3_whole 42 = .ok (.lconst 0, 1) := by decide +kernel
theorem dX3_whole_43 : decode cX3_whole 43 = .ok (.lreturn, 1) := by decide +kernel
theorem dX3_whole_44 : decode cX3_whole 44 = .ok (.aload_n 0, 1) := by decide +kernel
theorem dX3_whole_45 : decode cX3_whole 45 = .ok (.getfield 7, 3) := by decide +kernel
theorem dX3_whole_48 : decode cX3_whole 48 = .ok (.iload_n 1, 1) := by decide +kernel
theorem dX3_whole_49 : decode cX3_whole 49 = .ok (.laload, 1) := by decide +kernel
theorem dX3_whole_50 : decode cX3_whole 50 = .ok (.invokestatic 89, 3) := by decide +kernel
theorem dX3_whole_53 : decode cX3_whole 53 = .ok (.lstore_n 3, 1) := by decide +kernel
theorem dX3_whole_54 : decode cX3_whole 54 = .ok (.aload_n 0, 1) := by decide +kernel
theorem dX3_whole_55 : decode cX3_whole 55 = .ok (.getfield 43, 3) := by decide +kernel
theorem dX3_whole_58 : decode cX3_whole 58 = .ok (.iconst 5, 1) := by decide +kernel
theorem dX3_whole_59 : decode cX3_whole 59 = .ok (.laload, 1) := by decide +kernel
theorem dX3_whole_60 : decode cX3_whole 60 = .ok (.lstore 5, 2) := by decide +kernel
theorem dX3_whole_62 : decode cX3_whole 62 = .ok (.lload 5, 2) := by decide +kernel
theorem dX3_whole_64 : decode cX3_whole 64 = .ok (.lconst 0, 1) := by decide +kernel
theorem dX3_whole_65 : decode cX3_whole 65 = .ok (.lcmp, 1) := by decide +kernel
theorem dX3_whole_66 : decode cX3_whole 66 = .ok (.ifCond .eq 19, 3) := by decide +kernel
theorem dX3_whole_69 : decode cX3_whole 69 = .ok (.lload_n 3, 1) := by decide +kernel
theorem dX3_whole_70 : decode cX3_whole 70 = .ok (.lload 5, 2) := by decide +kernel
theorem dX3_whole_72 : decode cX3_whole 72 = .ok (.lrem, 1) := by decide +kernel
theorem dX3_whole_73 : decode cX3_whole 73 = .ok (.lstore 7, 2) := by decide +kernel
theorem dX3_whole_75 : decode cX3_whole 75 = .ok (.lload 5, 2) := by decide +kernel
theorem dX3_whole_77 : decode cX3_whole 77 = .ok (.lstore_n 3, 1) := by decide +kernel
theorem dX3_whole_78 : decode cX3_whole 78 = .ok (.lload 7, 2) := by decide +kernel
theorem dX3_whole_80 : decode cX3_whole 80 = .ok (.lstore 5, 2) := by decide +kernel
theorem dX3_whole_82 : decode cX3_whole 82 = .ok (.goto (-20), 3) := by decide +kernel
theorem dX3_whole_85 : decode cX3_whole 85 = .ok (.iload_n 2, 1) := by decide +kernel
theorem dX3_whole_86 : decode cX3_whole 86 = .ok (.ifCond .ne 14, 3) := by decide +kernel
theorem dX3_whole_89 : decode cX3_whole 89 = .ok (.aload_n 0, 1) := by decide +kernel
theorem dX3_whole_90 : decode cX3_whole 90 = .ok (.getfield 7, 3) := by decide +kernel
theorem dX3_whole_93 : decode cX3_whole 93 = .ok (.iload_n 1, 1) := by decide +kernel
theorem dX3_whole_94 : decode cX3_whole 94 = .ok (.laload, 1) := by decide +kernel
theorem dX3_whole_95 : decode cX3_whole 95 = .ok (.lload_n 3, 1) := by decide +kernel
theorem dX3_whole_96 : decode cX3_whole 96 = .ok (.ldiv, 1) := by decide +kernel
theorem dX3_whole_97 : decode cX3_whole 97 = .ok (.goto 11, 3) := by decide +kernel
theorem dX3_whole_100 : decode cX3_whole 100 = .ok (.aload_n 0, 1) := by decide +kernel
theorem dX3_whole_101 : decode cX3_whole 101 = .ok (.getfield 43, 3) := by decide +kernel
theorem dX3_whole_104 : decode cX3_whole 104 = .ok (.iconst 5, 1) := by decide +kernel
theorem dX3_whole_105 : decode cX3_whole 105 = .ok (.laload, 1) := by decide +kernel
theorem dX3_whole_106 : decode cX3_whole 106 = .ok (.lload_n 3, 1) := by decide +kernel
theorem dX3_whole_107 : decode cX3_whole 107 = .ok (.ldiv, 1) := by decide +kernel
theorem dX3_whole_108 : decode cX3_whole 108 = .ok (.lreturn, 1) := by decide +kernel
set_option maxRecDepth 20000 in
theorem ggX3_contactor_X3_fails : GoodIn wsX3_contactor wsX3_fails := goodIn_r _ [10, 11, 12, 2, 13, 14, 15, 16, 17, 18, 19, 20, 21, 22, 23, 24, 25, 26, 27, 28, 29, 30, 31, 32] (by decide +kernel) (by decide +kernel)
set_option maxRecDepth 20000 in
theorem gX3_contactor_X3_fails : GoodIn wsX3_contactor (wsV RX3 127 RX3 yX3_fails wsX3_fails) := goodIn_app (goodIn_of _ (by decide +kernel)) ggX3_contactor_X3_fails
theorem dX3_contactor_0 : decode cX3_contactor 0 = .ok (.aload_n 0, 1) := by decide +kernel
theorem dX3_contactor_1 : decode cX3_contactor 1 = .ok (.iconst 0, 1) := by decide +kernel
theorem dX3_contactor_2 : decode cX3_contactor 2 = .ok (.putfield 73, 3) := by decide +kernel
theorem dX3_contactor_5 : decode cX3_contactor 5 = .ok (.iload_n 1, 1) := by decide +kernel
theorem dX3_contactor_6 : decode cX3_contactor 6 = .ok (.ifCond .ne 10, 3) := by decide +kernel
theorem dX3_contactor_9 : decode cX3_contactor 9 = .ok (.aload_n 0, 1) := by decide +kernel
theorem dX3_contactor_10 : decode cX3_contactor 10 = .ok (.iconst 0, 1) := by decide +kernel
theorem dX3_contactor_11 : decode cX3_contactor 11 = .ok (.putfield 79, 3) := by decide +kernel
theorem dX3_contactor_14 : decode cX3_contactor 14 = .ok (.iconst 0, 1) := by decide +kernel
theorem dX3_contactor_15 : decode cX3_contactor 15 = .ok (.ireturn, 1) := by decide +kernel
theorem dX3_contactor_16 : decode cX3_contactor 16 = .ok (.aload_n 0, 1) := by decide +kernel
theorem dX3_contactor_17 : decode cX3_contactor 17 = .ok (.getfield 79, 3) := by decide +kernel
theorem dX3_contactor_20 : decode cX3_contactor 20 = .ok (.iconst 3, 1) := by decide +kernel
theorem dX3_contactor_21 : decode cX3_contactor 21 = .ok (.if_icmp .eq 24, 3) := by decide +kernel
theorem dX3_contactor_24 : decode cX3_contactor 24 = .ok (.aload_n 0, 1) := by decide +kernel
theorem dX3_contactor_25 : decode cX3_contactor 25 = .ok (.getfield 79, 3) := by decide +kernel
theorem dX3_contactor_28 : decode cX3_contactor 28 = .ok (.iconst 2, 1) := by decide +kernel
theorem dX3_contactor_29 : decode cX3_contactor 29 = .ok (.if_icmp .ne 19, 3) := by decide +kernel
theorem dX3_contactor_32 : decode cX3_contactor 32 = .ok (.aload_n 0, 1) := by decide +kernel
theorem dX3_contactor_33 : decode cX3_contactor 33 = .ok (.getfield 112, 3) := by decide +kernel
theorem dX3_contactor_36 : decode cX3_contactor 36 = .ok (.aload_n 0, 1) := by decide +kernel
theorem dX3_contactor_37 : decode cX3_contactor 37 = .ok (.getfield 131, 3) := by decide +kernel
theorem dX3_contactor_40 : decode cX3_contactor 40 = .ok (.isub, 1) := by decide +kernel
theorem dX3_contactor_41 : decode cX3_contactor 41 = .ok (.iconst 3, 1) := by decide +kernel
theorem dX3_contactor_42 : decode cX3_contactor 42 = .ok (.if_icmp .ge 6, 3) := by decide +kernel
theorem dX3_contactor_45 : decode cX3_contactor 45 = .ok (.bipush (-3), 2) := by decide +kernel
theorem dX3_contactor_47 : decode cX3_contactor 47 = .ok (.ireturn, 1) := by decide +kernel
theorem dX3_contactor_48 : decode cX3_contactor 48 = .ok (.aload_n 0, 1) := by decide +kernel
theorem dX3_contactor_49 : decode cX3_contactor 49 = .ok (.getfield 79, 3) := by decide +kernel
theorem dX3_contactor_52 : decode cX3_contactor 52 = .ok (.iconst 2, 1) := by decide +kernel
theorem dX3_contactor_53 : decode cX3_contactor 53 = .ok (.if_icmp .ne 25, 3) := by decide +kernel
theorem dX3_contactor_56 : decode cX3_contactor 56 = .ok (.aload_n 0, 1) := by decide +kernel
theorem dX3_contactor_57 : decode cX3_contactor 57 = .ok (.getfield 112, 3) := by decide +kernel
theorem dX3_contactor_60 : decode cX3_contactor 60 = .ok (.aload_n 0, 1) := by decide +kernel
theorem dX3_contactor_61 : decode cX3_contactor 61 = .ok (.getfield 131, 3) := by decide +kernel
theorem dX3_contactor_64 : decode cX3_contactor 64 = .ok (.isub, 1) := by decide +kernel
theorem dX3_contactor_65 : decode cX3_contactor 65 = .ok (.bipush 20, 2) := by decide +kernel
theorem dX3_contactor_67 : decode cX3_contactor 67 = .ok (.if_icmp .lt 11, 3) := by decide +kernel
theorem dX3_contactor_70 : decode cX3_contactor 70 = .ok (.aload_n 0, 1) := by decide +kernel
theorem dX3_contactor_71 : decode cX3_contactor 71 = .ok (.iconst 3, 1) := by decide +kernel
theorem dX3_contactor_72 : decode cX3_contactor 72 = .ok (.invokevirtual 127, 3) := by decide +kernel
theorem dX3_contactor_75 : decode cX3_contactor 75 = .ok (.goto 56, 3) := by decide +kernel
theorem dX3_contactor_78 : decode cX3_contactor 78 = .ok (.aload_n 0, 1) := by decide +kernel
theorem dX3_contactor_79 : decode cX3_contactor 79 = .ok (.getfield 46, 3) := by decide +kernel
theorem dX3_contactor_82 : decode cX3_contactor 82 = .ok (.aload_n 0, 1) := by decide +kernel
theorem dX3_contactor_83 : decode cX3_contactor 83 = .ok (.getfield 79, 3) := by decide +kernel
theorem dX3_contactor_86 : decode cX3_contactor 86 = .ok (.baload, 1) := by decide +kernel
theorem dX3_contactor_87 : decode cX3_contactor 87 = .ok (.ifCond .eq 11, 3) := by decide +kernel
theorem dX3_contactor_90 : decode cX3_contactor 90 = .ok (.aload_n 0, 1) := by decide +kernel
theorem dX3_contactor_91 : decode cX3_contactor 91 = .ok (.iconst 4, 1) := by decide +kernel
theorem dX3_contactor_92 : decode cX3_contactor 92 = .ok (.invokevirtual 127, 3) := by decide +kernel
theorem dX3_contactor_95 : decode cX3_contactor 95 = .ok (.goto 36, 3) := by decide +kernel
theorem dX3_contactor_98 : decode cX3_contactor 98 = .ok (.aload_n 0, 1) := by decide +kernel
theorem dX3_contactor_99 : decode cX3_contactor 99 = .ok (.dup, 1) := by decide +kernel
theorem dX3_contactor_100 : decode cX3_contactor 100 = .ok (.getfield 79, 3) := by decide +kernel
theorem dX3_contactor_103 : decode cX3_contactor 103 = .ok (.iconst 1, 1) := by decide +kernel
theorem dX3_contactor_104 : decode cX3_contactor 104 = .ok (.iadd, 1) := by decide +kernel
theorem dX3_contactor_105 : decode cX3_contactor 105 = .ok (.putfield 79, 3) := by decide +kernel
theorem dX3_contactor_108 : decode cX3_contactor 108 = .ok (.aload_n 0, 1) := by decide +kernel
theorem dX3_contactor_109 : decode cX3_contactor 109 = .ok (.aload_n 0, 1) := by decide +kernel
theorem dX3_contactor_110 : decode cX3_contactor 110 = .ok (.getfield 79, 3) := by decide +kernel
theorem dX3_contactor_113 : decode cX3_contactor 113 = .ok (.iconst 2, 1) := by decide +kernel
theorem dX3_contactor_114 : decode cX3_contactor 114 = .ok (.if_icmp .ne 10, 3) := by decide +kernel
theorem dX3_contactor_117 : decode cX3_contactor 117 = .ok (.aload_n 0, 1) := by decide +kernel
theorem dX3_contactor_118 : decode cX3_contactor 118 = .ok (.getfield 112, 3) := by decide +kernel
theorem dX3_contactor_121 : decode cX3_contactor 121 = .ok (.goto 7, 3) := by decide +kernel
theorem dX3_contactor_124 : decode cX3_contactor 124 = .ok (.aload_n 0, 1) := by decide +kernel
theorem dX3_contactor_125 : decode cX3_contactor 125 = .ok (.getfield 131, 3) := by decide +kernel
theorem dX3_contactor_128 : decode cX3_contactor 128 = .ok (.putfield 131, 3) := by decide +kernel
theorem dX3_contactor_131 : decode cX3_contactor 131 = .ok (.aload_n 0, 1) := by decide +kernel
theorem dX3_contactor_132 : decode cX3_contactor 132 = .ok (.getfield 79, 3) := by decide +kernel
theorem dX3_contactor_135 : decode cX3_contactor 135 = .ok (.ireturn, 1) := by decide +kernel
theorem dX3_leastVolt_0 : decode cX3_leastVolt 0 = .ok (.aload_n 0, 1) := by decide +kernel
theorem dX3_leastVolt_1 : decode cX3_leastVolt 1 = .ok (.getfield 17, 3) := by decide +kernel
theorem dX3_leastVolt_4 : decode cX3_leastVolt 4 = .ok (.iconst 0, 1) := by decide +kernel
theorem dX3_leastVolt_5 : decode cX3_leastVolt 5 = .ok (.laload, 1) := by decide +kernel
theorem dX3_leastVolt_6 : decode cX3_leastVolt 6 = .ok (.lstore_n 1, 1) := by decide +kernel
theorem dX3_leastVolt_7 : decode cX3_leastVolt 7 = .ok (.iconst 1, 1) := by decide +kernel
theorem dX3_leastVolt_8 : decode cX3_leastVolt 8 = .ok (.istore_n 3, 1) := by decide +kernel
theorem dX3_leastVolt_9 : decode cX3_leastVolt 9 = .ok (.iload_n 3, 1) := by decide +kernel
theorem dX3_leastVolt_10 : decode cX3_leastVolt 10 = .ok (.aload_n 0, 1) := by decide +kernel
theorem dX3_leastVolt_11 : decode cX3_leastVolt 11 = .ok (.getfield 61, 3) := by decide +kernel
theorem dX3_leastVolt_14 : decode cX3_leastVolt 14 = .ok (.if_icmp .ge 31, 3) := by decide +kernel
theorem dX3_leastVolt_17 : decode cX3_leastVolt 17 = .ok (.aload_n 0, 1) := by decide +kernel
theorem dX3_leastVolt_18 : decode cX3_leastVolt 18 = .ok (.getfield 17, 3) := by decide +kernel
theorem dX3_leastVolt_21 : decode cX3_leastVolt 21 = .ok (.iload_n 3, 1) := by decide +kernel
theorem dX3_leastVolt_22 : decode cX3_leastVolt 22 = .ok (.laload, 1) := by decide +kernel
theorem dX3_leastVolt_23 : decode cX3_leastVolt 23 = .ok (.lload_n 1, 1) := by decide +kernel
theorem dX3_leastVolt_24 : decode cX3_leastVolt 24 = .ok (.lcmp, 1) := by decide +kernel
theorem dX3_leastVolt_25 : decode cX3_leastVolt 25 = .ok (.ifCond .ge 12, 3) := by decide +kernel
theorem dX3_leastVolt_28 : decode cX3_leastVolt 28 = .ok (.aload_n 0, 1) := by decide +kernel
theorem dX3_leastVolt_29 : decode cX3_leastVolt 29 = .ok (.getfield 17, 3) := by decide +kernel
theorem dX3_leastVolt_32 : decode cX3_leastVolt 32 = .ok (.iload_n 3, 1) := by decide +kernel
theorem dX3_leastVolt_33 : decode cX3_leastVolt 33 = .ok (.laload, 1) := by decide +kernel
theorem dX3_leastVolt_34 : decode cX3_leastVolt 34 = .ok (.goto 4, 3) := by decide +kernel
theorem dX3_leastVolt_37 : decode cX3_leastVolt 37 = .ok (.lload_n 1, 1) := by decide +kernel
theorem dX3_leastVolt_38 : decode cX3_leastVolt 38 = .ok (.lstore_n 1, 1) := by decide +kernel
theorem dX3_leastVolt_39 : decode cX3_leastVolt 39 = .ok (.iinc 3 1, 3) := by decide +kernel
theorem dX3_leastVolt_42 : decode cX3_leastVolt 42 = .ok (.goto (-33), 3) := by decide +kernel
theorem dX3_leastVolt_45 : decode cX3_leastVolt 45 = .ok (.lload_n 1, 1) := by decide +kernel
theorem dX3_leastVolt_46 : decode cX3_leastVolt 46 = .ok (.lreturn, 1) := by decide +kernel
set_option maxRecDepth 20000 in
theorem ggX3_bleed_X3_noCell : GoodIn wsX3_bleed wsX3_noCell := goodIn_r _ [12, 7, 17, 18, 19, 20, 21, 22, 23, 24, 25, 26, 27, 28, 29, 30, 31, 32, 33, 34, 35, 36] (by decide +kernel) (by decide +kernel)
set_option maxRecDepth 20000 in
theorem gX3_bleed_X3_noCell : GoodIn wsX3_bleed (wsV RX3 104 RX3 yX3_noCell wsX3_noCell) := goodIn_app (goodIn_of _ (by decide +kernel)) ggX3_bleed_X3_noCell
set_option maxRecDepth 20000 in
theorem ggX3_bleed_X3_leastVolt : GoodIn wsX3_bleed wsX3_leastVolt := goodIn_r _ [16, 5, 7, 17, 18, 19, 20, 21, 22, 23, 24, 25, 26, 27, 28, 29, 30, 31, 32, 33, 34, 35, 36] (by decide +kernel) (by decide +kernel)
set_option maxRecDepth 20000 in
theorem gX3_bleed_X3_leastVolt : GoodIn wsX3_bleed (wsV RX3 134 RX3 yX3_leastVolt wsX3_leastVolt) := goodIn_app (goodIn_of _ (by decide +kernel)) ggX3_bleed_X3_leastVolt
theorem dX3_bleed_0 : decode cX3_bleed 0 = .ok (.aload_n 0, 1) := by decide +kernel
theorem dX3_bleed_1 : decode cX3_bleed 1 = .ok (.iconst 0, 1) := by decide +kernel
theorem dX3_bleed_2 : decode cX3_bleed 2 = .ok (.putfield 73, 3) := by decide +kernel
theorem dX3_bleed_5 : decode cX3_bleed 5 = .ok (.aload_n 0, 1) := by decide +kernel
theorem dX3_bleed_6 : decode cX3_bleed 6 = .ok (.iload_n 1, 1) := by decide +kernel
theorem dX3_bleed_7 : decode cX3_bleed 7 = .ok (.invokevirtual 104, 3) := by decide +kernel
theorem dX3_bleed_10 : decode cX3_bleed 10 = .ok (.ifCond .eq 5, 3) := by decide +kernel
theorem dX3_bleed_13 : decode cX3_bleed 13 = .ok (.iconst (-1), 1) := by decide +kernel
theorem dX3_bleed_14 : decode cX3_bleed 14 = .ok (.ireturn, 1) := by decide +kernel
theorem dX3_bleed_15 : decode cX3_bleed 15 = .ok (.aload_n 0, 1) := by decide +kernel
theorem dX3_bleed_16 : decode cX3_bleed 16 = .ok (.getfield 27, 3) := by decide +kernel
theorem dX3_bleed_19 : decode cX3_bleed 19 = .ok (.iload_n 1, 1) := by decide +kernel
theorem dX3_bleed_20 : decode cX3_bleed 20 = .ok (.baload, 1) := by decide +kernel
theorem dX3_bleed_21 : decode cX3_bleed 21 = .ok (.ifCond .ne 40, 3) := by decide +kernel
theorem dX3_bleed_24 : decode cX3_bleed 24 = .ok (.aload_n 0, 1) := by decide +kernel
theorem dX3_bleed_25 : decode cX3_bleed 25 = .ok (.getfield 7, 3) := by decide +kernel
theorem dX3_bleed_28 : decode cX3_bleed 28 = .ok (.iload_n 1, 1) := by decide +kernel
theorem dX3_bleed_29 : decode cX3_bleed 29 = .ok (.laload, 1) := by decide +kernel
theorem dX3_bleed_30 : decode cX3_bleed 30 = .ok (.aload_n 0, 1) := by decide +kernel
theorem dX3_bleed_31 : decode cX3_bleed 31 = .ok (.getfield 43, 3) := by decide +kernel
theorem dX3_bleed_34 : decode cX3_bleed 34 = .ok (.iconst 4, 1) := by decide +kernel
theorem dX3_bleed_35 : decode cX3_bleed 35 = .ok (.laload, 1) := by decide +kernel
theorem dX3_bleed_36 : decode cX3_bleed 36 = .ok (.lcmp, 1) := by decide +kernel
theorem dX3_bleed_37 : decode cX3_bleed 37 = .ok (.ifCond .lt 21, 3) := by decide +kernel
theorem dX3_bleed_40 : decode cX3_bleed 40 = .ok (.aload_n 0, 1) := by decide +kernel
theorem dX3_bleed_41 : decode cX3_bleed 41 = .ok (.getfield 17, 3) := by decide +kernel
theorem dX3_bleed_44 : decode cX3_bleed 44 = .ok (.iload_n 1, 1) := by decide +kernel
theorem dX3_bleed_45 : decode cX3_bleed 45 = .ok (.laload, 1) := by decide +kernel
theorem dX3_bleed_46 : decode cX3_bleed 46 = .ok (.aload_n 0, 1) := by decide +kernel
theorem dX3_bleed_47 : decode cX3_bleed 47 = .ok (.invokevirtual 134, 3) := by decide +kernel
theorem dX3_bleed_50 : decode cX3_bleed 50 = .ok (.ldc2_w 138, 3) := by decide +kernel
theorem dX3_bleed_53 : decode cX3_bleed 53 = .ok (.ladd, 1) := by decide +kernel
theorem dX3_bleed_54 : decode cX3_bleed 54 = .ok (.lcmp, 1) := by decide +kernel
theorem dX3_bleed_55 : decode cX3_bleed 55 = .ok (.ifCond .ge 6, 3) := by decide +kernel
theorem dX3_bleed_58 : decode cX3_bleed 58 = .ok (.bipush (-3), 2) := by decide +kernel
theorem dX3_bleed_60 : decode cX3_bleed 60 = .ok (.ireturn, 1) := by decide +kernel
theorem dX3_bleed_61 : decode cX3_bleed 61 = .ok (.aload_n 0, 1) := by decide +kernel
theorem dX3_bleed_62 : decode cX3_bleed 62 = .ok (.getfield 27, 3) := by decide +kernel
theorem dX3_bleed_65 : decode cX3_bleed 65 = .ok (.iload_n 1, 1) := by decide +kernel
theorem dX3_bleed_66 : decode cX3_bleed 66 = .ok (.aload_n 0, 1) := by decide +kernel
theorem dX3_bleed_67 : decode cX3_bleed 67 = .ok (.getfield 27, 3) := by decide +kernel
theorem dX3_bleed_70 : decode cX3_bleed 70 = .ok (.iload_n 1, 1) := by decide +kernel
theorem dX3_bleed_71 : decode cX3_bleed 71 = .ok (.baload, 1) := by decide +kernel
theorem dX3_bleed_72 : decode cX3_bleed 72 = .ok (.ifCond .ne 7, 3) := by decide +kernel
theorem dX3_bleed_75 : decode cX3_bleed 75 = .ok (.iconst 1, 1) := by decide +kernel
theorem dX3_bleed_76 : decode cX3_bleed 76 = .ok (.goto 4, 3) := by decide +kernel
theorem dX3_bleed_79 : decode cX3_bleed 79 = .ok (.iconst 0, 1) := by decide +kernel
theorem dX3_bleed_80 : decode cX3_bleed 80 = .ok (.bastore, 1) := by decide +kernel
theorem dX3_bleed_81 : decode cX3_bleed 81 = .ok (.iconst 0, 1) := by decide +kernel
theorem dX3_bleed_82 : decode cX3_bleed 82 = .ok (.istore_n 2, 1) := by decide +kernel
theorem dX3_bleed_83 : decode cX3_bleed 83 = .ok (.iconst 0, 1) := by decide +kernel
theorem dX3_bleed_84 : decode cX3_bleed 84 = .ok (.istore_n 3, 1) := by decide +kernel
theorem dX3_bleed_85 : decode cX3_bleed 85 = .ok (.iload_n 3, 1) := by decide +kernel
theorem dX3_bleed_86 : decode cX3_bleed 86 = .ok (.aload_n 0, 1) := by decide +kernel
theorem dX3_bleed_87 : decode cX3_bleed 87 = .ok (.getfield 61, 3) := by decide +kernel
theorem dX3_bleed_90 : decode cX3_bleed 90 = .ok (.if_icmp .ge 26, 3) := by decide +kernel
theorem dX3_bleed_93 : decode cX3_bleed 93 = .ok (.aload_n 0, 1) := by decide +kernel
theorem dX3_bleed_94 : decode cX3_bleed 94 = .ok (.getfield 27, 3) := by decide +kernel
theorem dX3_bleed_97 : decode cX3_bleed 97 = .ok (.iload_n 3, 1) := by decide +kernel
theorem dX3_bleed_98 : decode cX3_bleed 98 = .ok (.baload, 1) := by decide +kernel
theorem dX3_bleed_99 : decode cX3_bleed 99 = .ok (.ifCond .eq 9, 3) := by decide +kernel
theorem dX3_bleed_102 : decode cX3_bleed 102 = .ok (.iload_n 2, 1) := by decide +kernel
theorem dX3_bleed_103 : decode cX3_bleed 103 = .ok (.iconst 1, 1) := by decide +kernel
theorem dX3_bleed_104 : decode cX3_bleed 104 = .ok (.iadd, 1) := by decide +kernel
theorem dX3_bleed_105 : decode cX3_bleed 105 = .ok (.goto 4, 3) := by decide +kernel
theorem dX3_bleed_108 : decode cX3_bleed 108 = .ok (.iload_n 2, 1) := by decide +kernel
theorem dX3_bleed_109 : decode cX3_bleed 109 = .ok (.istore_n 2, 1) := by decide +kernel
theorem dX3_bleed_110 : decode cX3_bleed 110 = .ok (.iinc 3 1, 3) := by decide +kernel
theorem dX3_bleed_113 : decode cX3_bleed 113 = .ok (.goto (-28), 3) := by decide +kernel
theorem dX3_bleed_116 : decode cX3_bleed 116 = .ok (.iload_n 2, 1) := by decide +kernel
theorem dX3_bleed_117 : decode cX3_bleed 117 = .ok (.ireturn, 1) := by decide +kernel
theorem dX3_limit_0 : decode cX3_limit 0 = .ok (.aload_n 0, 1) := by decide +kernel
theorem dX3_limit_1 : decode cX3_limit 1 = .ok (.iconst 0, 1) := by decide +kernel
theorem dX3_limit_2 : decode cX3_limit 2 = .ok (.putfield 73, 3) := by decide +kernel
theorem dX3_limit_5 : decode cX3_limit 5 = .ok (.iload_n 1, 1) := by decide +kernel
theorem dX3_limit_6 : decode cX3_limit 6 = .ok (.ifCond .lt 8, 3) := by decide +kernel
theorem dX3_limit_9 : decode cX3_limit 9 = .ok (.iload_n 1, 1) := by decide +kernel
theorem dX3_limit_10 : decode cX3_limit 10 = .ok (.iconst 5, 1) := by decide +kernel
theorem dX3_limit_11 : decode cX3_limit 11 = .ok (.if_icmp .le 5, 3) := by decide +kernel
theorem dX3_limit_14 : decode cX3_limit 14 = .ok (.iconst (-1), 1) := by decide +kernel
theorem dX3_limit_15 : decode cX3_limit 15 = .ok (.ireturn, 1) := by decide +kernel
theorem dX3_limit_16 : decode cX3_limit 16 = .ok (.lload_n 2, 1) := by decide +kernel
theorem dX3_limit_17 : decode cX3_limit 17 = .ok (.ldc2_w 100, 3) := by decide +kernel
theorem dX3_limit_20 : decode cX3_limit 20 = .ok (.lcmp, 1) := by decide +kernel
theorem dX3_limit_21 : decode cX3_limit 21 = .ok (.ifCond .lt 22, 3) := by decide +kernel
theorem dX3_limit_24 : decode cX3_limit 24 = .ok (.lload_n 2, 1) := by decide +kernel
theorem dX3_limit_25 : decode cX3_limit 25 = .ok (.ldc2_w 140, 3) := by decide +kernel
theorem dX3_limit_28 : decode cX3_limit 28 = .ok (.lcmp, 1) := by decide +kernel
theorem dX3_limit_29 : decode cX3_limit 29 = .ok (.ifCond .gt 14, 3) := by decide +kernel
theorem dX3_limit_32 : decode cX3_limit 32 = .ok (.iload_n 1, 1) := by decide +kernel
theorem dX3_limit_33 : decode cX3_limit 33 = .ok (.iconst 5, 1) := by decide +kernel
theorem dX3_limit_34 : decode cX3_limit 34 = .ok (.if_icmp .ne 12, 3) := by decide +kernel
theorem dX3_limit_37 : decode cX3_limit 37 = .ok (.lload_n 2, 1) := by decide +kernel
theorem dX3_limit_38 : decode cX3_limit 38 = .ok (.lconst 0, 1) := by decide +kernel
theorem dX3_limit_39 : decode cX3_limit 39 = .ok (.lcmp, 1) := by decide +kernel
theorem dX3_limit_40 : decode cX3_limit 40 = .ok (.ifCond .ge 6, 3) := by decide +kernel
theorem dX3_limit_43 : decode cX3_limit 43 = .ok (.bipush (-2), 2) := by decide +kernel
theorem dX3_limit_45 : decode cX3_limit 45 = .ok (.ireturn, 1) := by decide +kernel
theorem dX3_limit_46 : decode cX3_limit 46 = .ok (.aload_n 0, 1) := by decide +kernel
theorem dX3_limit_47 : decode cX3_limit 47 = .ok (.getfield 43, 3) := by decide +kernel
theorem dX3_limit_50 : decode cX3_limit 50 = .ok (.iload_n 1, 1) := by decide +kernel
theorem dX3_limit_51 : decode cX3_limit 51 = .ok (.lload_n 2, 1) := by decide +kernel
theorem dX3_limit_52 : decode cX3_limit 52 = .ok (.lastore, 1) := by decide +kernel
theorem dX3_limit_53 : decode cX3_limit 53 = .ok (.iconst 1, 1) := by decide +kernel
theorem dX3_limit_54 : decode cX3_limit 54 = .ok (.ireturn, 1) := by decide +kernel
theorem dX3_weakest_0 : decode cX3_weakest 0 = .ok (.aload_n 0, 1) := by decide +kernel
theorem dX3_weakest_1 : decode cX3_weakest 1 = .ok (.iconst 0, 1) := by decide +kernel
theorem dX3_weakest_2 : decode cX3_weakest 2 = .ok (.putfield 73, 3) := by decide +kernel
theorem dX3_weakest_5 : decode cX3_weakest 5 = .ok (.iconst 0, 1) := by decide +kernel
theorem dX3_weakest_6 : decode cX3_weakest 6 = .ok (.istore_n 1, 1) := by decide +kernel
theorem dX3_weakest_7 : decode cX3_weakest 7 = .ok (.iconst 1, 1) := by decide +kernel
theorem dX3_weakest_8 : decode cX3_weakest 8 = .ok (.istore_n 2, 1) := by decide +kernel
theorem dX3_weakest_9 : decode cX3_weakest 9 = .ok (.iload_n 2, 1) := by decide +kernel
theorem dX3_weakest_10 : decode cX3_weakest 10 = .ok (.aload_n 0, 1) := by decide +kernel
theorem dX3_weakest_11 : decode cX3_weakest 11 = .ok (.getfield 61, 3) := by decide +kernel
theorem dX3_weakest_14 : decode cX3_weakest 14 = .ok (.if_icmp .ge 31, 3) := by decide +kernel
theorem dX3_weakest_17 : decode cX3_weakest 17 = .ok (.aload_n 0, 1) := by decide +kernel
theorem dX3_weakest_18 : decode cX3_weakest 18 = .ok (.getfield 7, 3) := by decide +kernel
theorem dX3_weakest_21 : decode cX3_weakest 21 = .ok (.iload_n 2, 1) := by decide +kernel
theorem dX3_weakest_22 : decode cX3_weakest 22 = .ok (.laload, 1) := by decide +kernel
theorem dX3_weakest_23 : decode cX3_weakest 23 = .ok (.aload_n 0, 1) := by decide +kernel
theorem dX3_weakest_24 : decode cX3_weakest 24 = .ok (.getfield 7, 3) := by decide +kernel
theorem dX3_weakest_27 : decode cX3_weakest 27 = .ok (.iload_n 1, 1) := by decide +kernel
theorem dX3_weakest_28 : decode cX3_weakest 28 = .ok (.laload, 1) := by decide +kernel
theorem dX3_weakest_29 : decode cX3_weakest 29 = .ok (.lcmp, 1) := by decide +kernel
theorem dX3_weakest_30 : decode cX3_weakest 30 = .ok (.ifCond .ge 7, 3) := by decide +kernel
theorem dX3_weakest_33 : decode cX3_weakest 33 = .ok (.iload_n 2, 1) := by decide +kernel
theorem dX3_weakest_34 : decode cX3_weakest 34 = .ok (.goto 4, 3) := by decide +kernel
theorem dX3_weakest_37 : decode cX3_weakest 37 = .ok (.iload_n 1, 1) := by decide +kernel
theorem dX3_weakest_38 : decode cX3_weakest 38 = .ok (.istore_n 1, 1) := by decide +kernel
theorem dX3_weakest_39 : decode cX3_weakest 39 = .ok (.iinc 2 1, 3) := by decide +kernel
theorem dX3_weakest_42 : decode cX3_weakest 42 = .ok (.goto (-33), 3) := by decide +kernel
theorem dX3_weakest_45 : decode cX3_weakest 45 = .ok (.iload_n 1, 1) := by decide +kernel
theorem dX3_weakest_46 : decode cX3_weakest 46 = .ok (.ireturn, 1) := by decide +kernel
set_option maxRecDepth 20000 in
theorem ggX3_insulate_X3_fails : GoodIn wsX3_insulate wsX3_fails := goodIn_r _ [7, 8, 9, 10, 11, 12, 13, 14, 15, 16, 17, 18, 19, 20, 21, 22, 23, 24, 25, 26, 27, 28, 29, 30] (by decide +kernel) (by decide +kernel)
set_option maxRecDepth 20000 in
theorem gX3_insulate_X3_fails : GoodIn wsX3_insulate (wsV RX3 127 RX3 yX3_fails wsX3_fails) := goodIn_app (goodIn_of _ (by decide +kernel)) ggX3_insulate_X3_fails
theorem dX3_insulate_0 : decode cX3_insulate 0 = .ok (.aload_n 0, 1) := by decide +kernel
theorem dX3_insulate_1 : decode cX3_insulate 1 = .ok (.iconst 0, 1) := by decide +kernel
theorem dX3_insulate_2 : decode cX3_insulate 2 = .ok (.putfield 73, 3) := by decide +kernel
theorem dX3_insulate_5 : decode cX3_insulate 5 = .ok (.lload_n 1, 1) := by decide +kernel
theorem dX3_insulate_6 : decode cX3_insulate 6 = .ok (.lconst 0, 1) := by decide +kernel
theorem dX3_insulate_7 : decode cX3_insulate 7 = .ok (.lcmp, 1) := by decide +kernel
theorem dX3_insulate_8 : decode cX3_insulate 8 = .ok (.ifCond .ge 6, 3) := by decide +kernel
theorem dX3_insulate_11 : decode cX3_insulate 11 = .ok (.bipush (-2), 2) := by decide +kernel
theorem dX3_insulate_13 : decode cX3_insulate 13 = .ok (.ireturn, 1) := by decide +kernel
theorem dX3_insulate_14 : decode cX3_insulate 14 = .ok (.lload_n 1, 1) := by decide +kernel
theorem dX3_insulate_15 : decode cX3_insulate 15 = .ok (.ldc2_w 142, 3) := by decide +kernel
theorem dX3_insulate_18 : decode cX3_insulate 18 = .ok (.lcmp, 1) := by decide +kernel
theorem dX3_insulate_19 : decode cX3_insulate 19 = .ok (.ifCond .ge 10, 3) := by decide +kernel
theorem dX3_insulate_22 : decode cX3_insulate 22 = .ok (.aload_n 0, 1) := by decide +kernel
theorem dX3_insulate_23 : decode cX3_insulate 23 = .ok (.iconst 5, 1) := by decide +kernel
theorem dX3_insulate_24 : decode cX3_insulate 24 = .ok (.invokevirtual 127, 3) := by decide +kernel
theorem dX3_insulate_27 : decode cX3_insulate 27 = .ok (.iconst 0, 1) := by decide +kernel
theorem dX3_insulate_28 : decode cX3_insulate 28 = .ok (.ireturn, 1) := by decide +kernel
theorem dX3_insulate_29 : decode cX3_insulate 29 = .ok (.iconst 1, 1) := by decide +kernel
theorem dX3_insulate_30 : decode cX3_insulate 30 = .ok (.ireturn, 1) := by decide +kernel
theorem dX3_stuck_0 : decode cX3_stuck 0 = .ok (.aload_n 0, 1) := by decide +kernel
theorem dX3_stuck_1 : decode cX3_stuck 1 = .ok (.iconst 0, 1) := by decide +kernel
theorem dX3_stuck_2 : decode cX3_stuck 2 = .ok (.putfield 73, 3) := by decide +kernel
theorem dX3_stuck_5 : decode cX3_stuck 5 = .ok (.iload_n 1, 1) := by decide +kernel
theorem dX3_stuck_6 : decode cX3_stuck 6 = .ok (.ifCond .lt 8, 3) := by decide +kernel
theorem dX3_stuck_9 : decode cX3_stuck 9 = .ok (.iload_n 1, 1) := by decide +kernel
theorem dX3_stuck_10 : decode cX3_stuck 10 = .ok (.iconst 2, 1) := by decide +kernel
theorem dX3_stuck_11 : decode cX3_stuck 11 = .ok (.if_icmp .le 5, 3) := by decide +kernel
theorem dX3_stuck_14 : decode cX3_stuck 14 = .ok (.iconst (-1), 1) := by decide +kernel
theorem dX3_stuck_15 : decode cX3_stuck 15 = .ok (.ireturn, 1) := by decide +kernel
theorem dX3_stuck_16 : decode cX3_stuck 16 = .ok (.aload_n 0, 1) := by decide +kernel
theorem dX3_stuck_17 : decode cX3_stuck 17 = .ok (.getfield 46, 3) := by decide +kernel
theorem dX3_stuck_20 : decode cX3_stuck 20 = .ok (.iload_n 1, 1) := by decide +kernel
theorem dX3_stuck_21 : decode cX3_stuck 21 = .ok (.aload_n 0, 1) := by decide +kernel
theorem dX3_stuck_22 : decode cX3_stuck 22 = .ok (.getfield 46, 3) := by decide +kernel
theorem dX3_stuck_25 : decode cX3_stuck 25 = .ok (.iload_n 1, 1) := by decide +kernel
theorem dX3_stuck_26 : decode cX3_stuck 26 = .ok (.baload, 1) := by decide +kernel
theorem dX3_stuck_27 : decode cX3_stuck 27 = .ok (.ifCond .ne 7, 3) := by decide +kernel
theorem dX3_stuck_30 : decode cX3_stuck 30 = .ok (.iconst 1, 1) := by decide +kernel
theorem dX3_stuck_31 : decode cX3_stuck 31 = .ok (.goto 4, 3) := by decide +kernel
theorem dX3_stuck_34 : decode cX3_stuck 34 = .ok (.iconst 0, 1) := by decide +kernel
theorem dX3_stuck_35 : decode cX3_stuck 35 = .ok (.bastore, 1) := by decide +kernel
theorem dX3_stuck_36 : decode cX3_stuck 36 = .ok (.aload_n 0, 1) := by decide +kernel
theorem dX3_stuck_37 : decode cX3_stuck 37 = .ok (.getfield 46, 3) := by decide +kernel
theorem dX3_stuck_40 : decode cX3_stuck 40 = .ok (.iload_n 1, 1) := by decide +kernel
theorem dX3_stuck_41 : decode cX3_stuck 41 = .ok (.baload, 1) := by decide +kernel
theorem dX3_stuck_42 : decode cX3_stuck 42 = .ok (.ifCond .eq 7, 3) := by decide +kernel
theorem dX3_stuck_45 : decode cX3_stuck 45 = .ok (.iconst 1, 1) := by decide +kernel
theorem dX3_stuck_46 : decode cX3_stuck 46 = .ok (.goto 4, 3) := by decide +kernel
theorem dX3_stuck_49 : decode cX3_stuck 49 = .ok (.iconst 0, 1) := by decide +kernel
theorem dX3_stuck_50 : decode cX3_stuck 50 = .ok (.ireturn, 1) := by decide +kernel
theorem dX3_cycle_0 : decode cX3_cycle 0 = .ok (.aload_n 0, 1) := by decide +kernel
theorem dX3_cycle_1 : decode cX3_cycle 1 = .ok (.iconst 0, 1) := by decide +kernel
theorem dX3_cycle_2 : decode cX3_cycle 2 = .ok (.putfield 73, 3) := by decide +kernel
theorem dX3_cycle_5 : decode cX3_cycle 5 = .ok (.iload_n 1, 1) := by decide +kernel
theorem dX3_cycle_6 : decode cX3_cycle 6 = .ok (.iconst (-1), 1) := by decide +kernel
theorem dX3_cycle_7 : decode cX3_cycle 7 = .ok (.if_icmp .ne 12, 3) := by decide +kernel
theorem dX3_cycle_10 : decode cX3_cycle 10 = .ok (.iload_n 2, 1) := by decide +kernel
theorem dX3_cycle_11 : decode cX3_cycle 11 = .ok (.ifCond .ne 8, 3) := by decide +kernel
theorem dX3_cycle_14 : decode cX3_cycle 14 = .ok (.aload_n 0, 1) := by decide +kernel
theorem dX3_cycle_15 : decode cX3_cycle 15 = .ok (.getfield 93, 3) := by decide +kernel
theorem dX3_cycle_18 : decode cX3_cycle 18 = .ok (.ireturn, 1) := by decide +kernel
theorem dX3_cycle_19 : decode cX3_cycle 19 = .ok (.iload_n 1, 1) := by decide +kernel
theorem dX3_cycle_20 : decode cX3_cycle 20 = .ok (.ifCond .lt 11, 3) := by decide +kernel
theorem dX3_cycle_23 : decode cX3_cycle 23 = .ok (.iload_n 1, 1) := by decide +kernel
theorem dX3_cycle_24 : decode cX3_cycle 24 = .ok (.aload_n 0, 1) := by decide +kernel
theorem dX3_cycle_25 : decode cX3_cycle 25 = .ok (.getfield 93, 3) := by decide +kernel
theorem dX3_cycle_28 : decode cX3_cycle 28 = .ok (.if_icmp .lt 5, 3) := by decide +kernel
theorem dX3_cycle_31 : decode cX3_cycle 31 = .ok (.iconst (-1), 1) := by decide +kernel
theorem dX3_cycle_32 : decode cX3_cycle 32 = .ok (.ireturn, 1) := by decide +kernel
theorem dX3_cycle_33 : decode cX3_cycle 33 = .ok (.iload_n 2, 1) := by decide +kernel
theorem dX3_cycle_34 : decode cX3_cycle 34 = .ok (.ifCond .ne 12, 3) := by decide +kernel
theorem dX3_cycle_37 : decode cX3_cycle 37 = .ok (.aload_n 0, 1) := by decide +kernel
theorem dX3_cycle_38 : decode cX3_cycle 38 = .ok (.getfield 55, 3) := by decide +kernel
theorem dX3_cycle_41 : decode cX3_cycle 41 = .ok (.iload_n 1, 1) := by decide +kernel
theorem dX3_cycle_42 : decode cX3_cycle 42 = .ok (.iaload, 1) := by decide +kernel
theorem dX3_cycle_43 : decode cX3_cycle 43 = .ok (.goto 19, 3) := by decide +kernel
theorem dX3_cycle_46 : decode cX3_cycle 46 = .ok (.iload_n 2, 1) := by decide +kernel
theorem dX3_cycle_47 : decode cX3_cycle 47 = .ok (.iconst 1, 1) := by decide +kernel
theorem dX3_cycle_48 : decode cX3_cycle 48 = .ok (.if_icmp .ne 12, 3) := by decide +kernel
theorem dX3_cycle_51 : decode cX3_cycle 51 = .ok (.aload_n 0, 1) := by decide +kernel
theorem dX3_cycle_52 : decode cX3_cycle 52 = .ok (.getfield 58, 3) := by decide +kernel
theorem dX3_cycle_55 : decode cX3_cycle 55 = .ok (.iload_n 1, 1) := by decide +kernel
theorem dX3_cycle_56 : decode cX3_cycle 56 = .ok (.iaload, 1) := by decide +kernel
theorem dX3_cycle_57 : decode cX3_cycle 57 = .ok (.goto 5, 3) := by decide +kernel
theorem dX3_cycle_60 : decode cX3_cycle 60 = .ok (.bipush (-2), 2) := by decide +kernel
theorem dX3_cycle_62 : decode cX3_cycle 62 = .ok (.ireturn, 1) := by decide +kernel
theorem dX3_cool_0 : decode cX3_cool 0 = .ok (.aload_n 0, 1) := by decide +kernel
theorem dX3_cool_1 : decode cX3_cool 1 = .ok (.iconst 0, 1) := by decide +kernel
theorem dX3_cool_2 : decode cX3_cool 2 = .ok (.putfield 73, 3) := by decide +kernel
theorem dX3_cool_5 : decode cX3_cool 5 = .ok (.aload_n 0, 1) := by decide +kernel
theorem dX3_cool_6 : decode cX3_cool 6 = .ok (.getfield 20, 3) := by decide +kernel
theorem dX3_cool_9 : decode cX3_cool 9 = .ok (.iconst 0, 1) := by decide +kernel
theorem dX3_cool_10 : decode cX3_cool 10 = .ok (.laload, 1) := by decide +kernel
theorem dX3_cool_11 : decode cX3_cool 11 = .ok (.lstore_n 1, 1) := by decide +kernel
theorem dX3_cool_12 : decode cX3_cool 12 = .ok (.iconst 1, 1) := by decide +kernel
theorem dX3_cool_13 : decode cX3_cool 13 = .ok (.istore_n 3, 1) := by decide +kernel
theorem dX3_cool_14 : decode cX3_cool 14 = .ok (.iload_n 3, 1) := by decide +kernel
theorem dX3_cool_15 : decode cX3_cool 15 = .ok (.aload_n 0, 1) := by decide +kernel
theorem dX3_cool_16 : decode cX3_cool 16 = .ok (.getfield 61, 3) := by decide +kernel
theorem dX3_cool_19 : decode cX3_cool 19 = .ok (.if_icmp .ge 31, 3) := by decide +kernel
theorem dX3_cool_22 : decode cX3_cool 22 = .ok (.aload_n 0, 1) := by decide +kernel
theorem dX3_cool_23 : decode cX3_cool 23 = .ok (.getfield 20, 3) := by decide +kernel
theorem dX3_cool_26 : decode cX3_cool 26 = .ok (.iload_n 3, 1) := by decide +kernel
theorem dX3_cool_27 : decode cX3_cool 27 = .ok (.laload, 1) := by decide +kernel
theorem dX3_cool_28 : decode cX3_cool 28 = .ok (.lload_n 1, 1) := by decide +kernel
theorem dX3_cool_29 : decode cX3_cool 29 = .ok (.lcmp, 1) := by decide +kernel
theorem dX3_cool_30 : decode cX3_cool 30 = .ok (.ifCond .le 12, 3) := by decide +kernel
theorem dX3_cool_33 : decode cX3_cool 33 = .ok (.aload_n 0, 1) := by decide +kernel
theorem dX3_cool_34 : decode cX3_cool 34 = .ok (.getfield 20, 3) := by decide +kernel
theorem dX3_cool_37 : decode cX3_cool 37 = .ok (.iload_n 3, 1) := by decide +kernel
theorem dX3_cool_38 : decode cX3_cool 38 = .ok (.laload, 1) := by decide +kernel
theorem dX3_cool_39 : decode cX3_cool 39 = .ok (.goto 4, 3) := by decide +kernel
theorem dX3_cool_42 : decode cX3_cool 42 = .ok (.lload_n 1, 1) := by decide +kernel
theorem dX3_cool_43 : decode cX3_cool 43 = .ok (.lstore_n 1, 1) := by decide +kernel
theorem dX3_cool_44 : decode cX3_cool 44 = .ok (.iinc 3 1, 3) := by decide +kernel
theorem dX3_cool_47 : decode cX3_cool 47 = .ok (.goto (-33), 3) := by decide +kernel
theorem dX3_cool_50 : decode cX3_cool 50 = .ok (.lload_n 1, 1) := by decide +kernel
theorem dX3_cool_51 : decode cX3_cool 51 = .ok (.ldc2_w 144, 3) := by decide +kernel
theorem dX3_cool_54 : decode cX3_cool 54 = .ok (.lcmp, 1) := by decide +kernel
theorem dX3_cool_55 : decode cX3_cool 55 = .ok (.ifCond .le 7, 3) := by decide +kernel
theorem dX3_cool_58 : decode cX3_cool 58 = .ok (.iconst 3, 1) := by decide +kernel
theorem dX3_cool_59 : decode cX3_cool 59 = .ok (.goto 28, 3) := by decide +kernel
theorem dX3_cool_62 : decode cX3_cool 62 = .ok (.lload_n 1, 1) := by decide +kernel
theorem dX3_cool_63 : decode cX3_cool 63 = .ok (.ldc2_w 146, 3) := by decide +kernel
theorem dX3_cool_66 : decode cX3_cool 66 = .ok (.lcmp, 1) := by decide +kernel
theorem dX3_cool_67 : decode cX3_cool 67 = .ok (.ifCond .le 7, 3) := by decide +kernel
theorem dX3_cool_70 : decode cX3_cool 70 = .ok (.iconst 2, 1) := by decide +kernel
theorem dX3_cool_71 : decode cX3_cool 71 = .ok (.goto 16, 3) := by decide +kernel
theorem dX3_cool_74 : decode cX3_cool 74 = .ok (.lload_n 1, 1) := by decide +kernel
theorem dX3_cool_75 : decode cX3_cool 75 = .ok (.ldc2_w 148, 3) := by decide +kernel
theorem dX3_cool_78 : decode cX3_cool 78 = .ok (.lcmp, 1) := by decide +kernel
theorem dX3_cool_79 : decode cX3_cool 79 = .ok (.ifCond .le 7, 3) := by decide +kernel
theorem dX3_cool_82 : decode cX3_cool 82 = .ok (.iconst 1, 1) := by decide +kernel
theorem dX3_cool_83 : decode cX3_cool 83 = .ok (.goto 4, 3) := by decide +kernel
theorem dX3_cool_86 : decode cX3_cool 86 = .ok (.iconst 0, 1) := by decide +kernel
theorem dX3_cool_87 : decode cX3_cool 87 = .ok (.ireturn, 1) := by decide +kernel
theorem dX3_fault_0 : decode cX3_fault 0 = .ok (.aload_n 0, 1) := by decide +kernel
theorem dX3_fault_1 : decode cX3_fault 1 = .ok (.iconst 0, 1) := by decide +kernel
theorem dX3_fault_2 : decode cX3_fault 2 = .ok (.putfield 73, 3) := by decide +kernel
theorem dX3_fault_5 : decode cX3_fault 5 = .ok (.iload_n 1, 1) := by decide +kernel
theorem dX3_fault_6 : decode cX3_fault 6 = .ok (.ifCond .lt 11, 3) := by decide +kernel
theorem dX3_fault_9 : decode cX3_fault 9 = .ok (.iload_n 1, 1) := by decide +kernel
theorem dX3_fault_10 : decode cX3_fault 10 = .ok (.aload_n 0, 1) := by decide +kernel
theorem dX3_fault_11 : decode cX3_fault 11 = .ok (.getfield 76, 3) := by decide +kernel
theorem dX3_fault_14 : decode cX3_fault 14 = .ok (.if_icmp .lt 7, 3) := by decide +kernel
theorem dX3_fault_17 : decode cX3_fault 17 = .ok (.iconst 0, 1) := by decide +kernel
theorem dX3_fault_18 : decode cX3_fault 18 = .ok (.goto 9, 3) := by decide +kernel
theorem dX3_fault_21 : decode cX3_fault 21 = .ok (.aload_n 0, 1) := by decide +kernel
theorem dX3_fault_22 : decode cX3_fault 22 = .ok (.getfield 49, 3) := by decide +kernel
theorem dX3_fault_25 : decode cX3_fault 25 = .ok (.iload_n 1, 1) := by decide +kernel
theorem dX3_fault_26 : decode cX3_fault 26 = .ok (.iaload, 1) := by decide +kernel
theorem dX3_fault_27 : decode cX3_fault 27 = .ok (.ireturn, 1) := by decide +kernel
