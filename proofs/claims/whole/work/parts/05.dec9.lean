theorem dX9_in_0 : decode cX9_in 0 = .ok (.lload_n 0, 1) := by decide +kernel
theorem dX9_in_1 : decode cX9_in 1 = .ok (.lload_n 2, 1) := by decide +kernel
theorem dX9_in_2 : decode cX9_in 2 = .ok (.lcmp, 1) := by decide +kernel
theorem dX9_in_3 : decode cX9_in 3 = .ok (.ifCond .lt 14, 3) := by decide +kernel
theorem dX9_in_6 : decode cX9_in 6 = .ok (.lload_n 0, 1) := by decide +kernel
theorem dX9_in_7 : decode cX9_in 7 = .ok (.lload 4, 2) := by decide +kernel
theorem dX9_in_9 : decode cX9_in 9 = .ok (.lcmp, 1) := by decide +kernel
theorem dX9_in_10 : decode cX9_in 10 = .ok (.ifCond .gt 7, 3) := by decide +kernel
theorem dX9_in_13 : decode cX9_in 13 = .ok (.iconst 1, 1) := by decide +kernel
theorem dX9_in_14 : decode cX9_in 14 = .ok (.goto 4, 3) := by decide +kernel
theorem dX9_in_17 : decode cX9_in 17 = .ok (.iconst 0, 1) := by decide +kernel
theorem dX9_in_18 : decode cX9_in 18 = .ok (.ireturn, 1) := by decide +kernel
theorem dX9_init_0 : decode cX9_init 0 = .ok (.aload_n 0, 1) := by decide +kernel
theorem dX9_init_1 : decode cX9_init 1 = .ok (.invokespecial 1, 3) := by decide +kernel
theorem dX9_init_4 : decode cX9_init 4 = .ok (.aload_n 0, 1) := by decide +kernel
theorem dX9_init_5 : decode cX9_init 5 = .ok (.sipush 194, 3) := by decide +kernel
theorem dX9_init_8 : decode cX9_init 8 = .ok (.newarray .int, 2) := by decide +kernel
theorem dX9_init_10 : decode cX9_init 10 = .ok (.putfield 7, 3) := by decide +kernel
theorem dX9_init_13 : decode cX9_init 13 = .ok (.aload_n 0, 1) := by decide +kernel
theorem dX9_init_14 : decode cX9_init 14 = .ok (.bipush 49, 2) := by decide +kernel
theorem dX9_init_16 : decode cX9_init 16 = .ok (.newarray .int, 2) := by decide +kernel
theorem dX9_init_18 : decode cX9_init 18 = .ok (.putfield 13, 3) := by decide +kernel
theorem dX9_init_21 : decode cX9_init 21 = .ok (.aload_n 0, 1) := by decide +kernel
theorem dX9_init_22 : decode cX9_init 22 = .ok (.bipush 6, 2) := by decide +kernel
theorem dX9_init_24 : decode cX9_init 24 = .ok (.newarray .int, 2) := by decide +kernel
theorem dX9_init_26 : decode cX9_init 26 = .ok (.putfield 16, 3) := by decide +kernel
theorem dX9_init_29 : decode cX9_init 29 = .ok (.aload_n 0, 1) := by decide +kernel
theorem dX9_init_30 : decode cX9_init 30 = .ok (.bipush 120, 2) := by decide +kernel
theorem dX9_init_32 : decode cX9_init 32 = .ok (.newarray .int, 2) := by decide +kernel
theorem dX9_init_34 : decode cX9_init 34 = .ok (.putfield 19, 3) := by decide +kernel
theorem dX9_init_37 : decode cX9_init 37 = .ok (.aload_n 0, 1) := by decide +kernel
theorem dX9_init_38 : decode cX9_init 38 = .ok (.bipush 96, 2) := by decide +kernel
theorem dX9_init_40 : decode cX9_init 40 = .ok (.newarray .int, 2) := by decide +kernel
theorem dX9_init_42 : decode cX9_init 42 = .ok (.putfield 22, 3) := by decide +kernel
theorem dX9_init_45 : decode cX9_init 45 = .ok (.aload_n 0, 1) := by decide +kernel
theorem dX9_init_46 : decode cX9_init 46 = .ok (.sipush 1552, 3) := by decide +kernel
theorem dX9_init_49 : decode cX9_init 49 = .ok (.newarray .int, 2) := by decide +kernel
theorem dX9_init_51 : decode cX9_init 51 = .ok (.putfield 25, 3) := by decide +kernel
theorem dX9_init_54 : decode cX9_init 54 = .ok (.aload_n 0, 1) := by decide +kernel
theorem dX9_init_55 : decode cX9_init 55 = .ok (.sipush 194, 3) := by decide +kernel
theorem dX9_init_58 : decode cX9_init 58 = .ok (.newarray .int, 2) := by decide +kernel
theorem dX9_init_60 : decode cX9_init 60 = .ok (.putfield 28, 3) := by decide +kernel
theorem dX9_init_63 : decode cX9_init 63 = .ok (.aload_n 0, 1) := by decide +kernel
theorem dX9_init_64 : decode cX9_init 64 = .ok (.sipush 1552, 3) := by decide +kernel
theorem dX9_init_67 : decode cX9_init 67 = .ok (.newarray .int, 2) := by decide +kernel
theorem dX9_init_69 : decode cX9_init 69 = .ok (.putfield 31, 3) := by decide +kernel
theorem dX9_init_72 : decode cX9_init 72 = .ok (.aload_n 0, 1) := by decide +kernel
theorem dX9_init_73 : decode cX9_init 73 = .ok (.iconst (-1), 1) := by decide +kernel
theorem dX9_init_74 : decode cX9_init 74 = .ok (.putfield 34, 3) := by decide +kernel
theorem dX9_init_77 : decode cX9_init 77 = .ok (.aload_n 0, 1) := by decide +kernel
theorem dX9_init_78 : decode cX9_init 78 = .ok (.iconst 4, 1) := by decide +kernel
theorem dX9_init_79 : decode cX9_init 79 = .ok (.newarray .int, 2) := by decide +kernel
theorem dX9_init_81 : decode cX9_init 81 = .ok (.putfield 38, 3) := by decide +kernel
theorem dX9_init_84 : decode cX9_init 84 = .ok (.aload_n 0, 1) := by decide +kernel
theorem dX9_init_85 : decode cX9_init 85 = .ok (.iconst 4, 1) := by decide +kernel
theorem dX9_init_86 : decode cX9_init 86 = .ok (.newarray .int, 2) := by decide +kernel
theorem dX9_init_88 : decode cX9_init 88 = .ok (.putfield 41, 3) := by decide +kernel
theorem dX9_init_91 : decode cX9_init 91 = .ok (.aload_n 0, 1) := by decide +kernel
theorem dX9_init_92 : decode cX9_init 92 = .ok (.bipush 96, 2) := by decide +kernel
theorem dX9_init_94 : decode cX9_init 94 = .ok (.newarray .long, 2) := by decide +kernel
theorem dX9_init_96 : decode cX9_init 96 = .ok (.putfield 44, 3) := by decide +kernel
theorem dX9_init_99 : decode cX9_init 99 = .ok (.aload_n 0, 1) := by decide +kernel
theorem dX9_init_100 : decode cX9_init 100 = .ok (.bipush 24, 2) := by decide +kernel
theorem dX9_init_102 : decode cX9_init 102 = .ok (.newarray .long, 2) := by decide +kernel
theorem dX9_init_104 : decode cX9_init 104 = .ok (.putfield 48, 3) := by decide +kernel
theorem dX9_init_107 : decode cX9_init 107 = .ok (.aload_n 0, 1) := by decide +kernel
theorem dX9_init_108 : decode cX9_init 108 = .ok (.getfield 7, 3) := by decide +kernel
theorem dX9_init_111 : decode cX9_init 111 = .ok (.sipush 193, 3) := by decide +kernel
theorem dX9_init_114 : decode cX9_init 114 = .ok (.iconst 1, 1) := by decide +kernel
theorem dX9_init_115 : decode cX9_init 115 = .ok (.iastore, 1) := by decide +kernel
theorem dX9_init_116 : decode cX9_init 116 = .ok (.iconst 0, 1) := by decide +kernel
theorem dX9_init_117 : decode cX9_init 117 = .ok (.istore_n 1, 1) := by decide +kernel
theorem dX9_init_118 : decode cX9_init 118 = .ok (.iconst 0, 1) := by decide +kernel
theorem dX9_init_119 : decode cX9_init 119 = .ok (.istore_n 2, 1) := by decide +kernel
theorem dX9_init_120 : decode cX9_init 120 = .ok (.iload_n 2, 1) := by decide +kernel
theorem dX9_init_121 : decode cX9_init 121 = .ok (.bipush 7, 2) := by decide +kernel
theorem dX9_init_123 : decode cX9_init 123 = .ok (.if_icmp .ge 41, 3) := by decide +kernel
theorem dX9_init_126 : decode cX9_init 126 = .ok (.iconst 0, 1) := by decide +kernel
theorem dX9_init_127 : decode cX9_init 127 = .ok (.istore_n 3, 1) := by decide +kernel
theorem dX9_init_128 : decode cX9_init 128 = .ok (.iload_n 3, 1) := by decide +kernel
theorem dX9_init_129 : decode cX9_init 129 = .ok (.bipush 49, 2) := by decide +kernel
theorem dX9_init_131 : decode cX9_init 131 = .ok (.if_icmp .ge 27, 3) := by decide +kernel
theorem dX9_init_134 : decode cX9_init 134 = .ok (.iload_n 3, 1) := by decide +kernel
theorem dX9_init_135 : decode cX9_init 135 = .ok (.invokestatic 51, 3) := by decide +kernel
theorem dX9_init_138 : decode cX9_init 138 = .ok (.iload_n 2, 1) := by decide +kernel
theorem dX9_init_139 : decode cX9_init 139 = .ok (.if_icmp .ne 13, 3) := by decide +kernel
theorem dX9_init_142 : decode cX9_init 142 = .ok (.aload_n 0, 1) := by decide +kernel
theorem dX9_init_143 : decode cX9_init 143 = .ok (.getfield 13, 3) := by decide +kernel
theorem dX9_init_146 : decode cX9_init 146 = .ok (.iload_n 1, 1) := by decide +kernel
theorem dX9_init_147 : decode cX9_init 147 = .ok (.iload_n 3, 1) := by decide +kernel
theorem dX9_init_148 : decode cX9_init 148 = .ok (.iastore, 1) := by decide +kernel
theorem dX9_init_149 : decode cX9_init 149 = .ok (.iinc 1 1, 3) := by decide +kernel
theorem dX9_init_152 : decode cX9_init 152 = .ok (.iinc 3 1, 3) := by decide +kernel
theorem dX9_init_155 : decode cX9_init 155 = .ok (.goto (-27), 3) := by decide +kernel
theorem dX9_init_158 : decode cX9_init 158 = .ok (.iinc 2 1, 3) := by decide +kernel
theorem dX9_init_161 : decode cX9_init 161 = .ok (.goto (-41), 3) := by decide +kernel
theorem dX9_init_164 : decode cX9_init 164 = .ok (.iconst 0, 1) := by decide +kernel
theorem dX9_init_165 : decode cX9_init 165 = .ok (.istore_n 2, 1) := by decide +kernel
theorem dX9_init_166 : decode cX9_init 166 = .ok (.iload_n 2, 1) := by decide +kernel
theorem dX9_init_167 : decode cX9_init 167 = .ok (.iconst 4, 1) := by decide +kernel
theorem dX9_init_168 : decode cX9_init 168 = .ok (.if_icmp .ge 16, 3) := by decide +kernel
theorem dX9_init_171 : decode cX9_init 171 = .ok (.aload_n 0, 1) := by decide +kernel
theorem dX9_init_172 : decode cX9_init 172 = .ok (.getfield 38, 3) := by decide +kernel
theorem dX9_init_175 : decode cX9_init 175 = .ok (.iload_n 2, 1) := by decide +kernel
theorem dX9_init_176 : decode cX9_init 176 = .ok (.iconst (-1), 1) := by decide +kernel
theorem dX9_init_177 : decode cX9_init 177 = .ok (.iastore, 1) := by decide +kernel
theorem dX9_init_178 : decode cX9_init 178 = .ok (.iinc 2 1, 3) := by decide +kernel
theorem dX9_init_181 : decode cX9_init 181 = .ok (.goto (-15), 3) := by decide +kernel
theorem dX9_init_184 : decode cX9_init 184 = .ok (.return_, 1) := by decide +kernel
theorem dX9_sized_0 : decode cX9_sized 0 = .ok (.iload_n 0, 1) := by decide +kernel
theorem dX9_sized_1 : decode cX9_sized 1 = .ok (.ifCond .ge 8, 3) := by decide +kernel
theorem dX9_sized_4 : decode cX9_sized 4 = .ok (.iload_n 0, 1) := by decide +kernel
theorem dX9_sized_5 : decode cX9_sized 5 = .ok (.ineg, 1) := by decide +kernel
theorem dX9_sized_6 : decode cX9_sized 6 = .ok (.goto 4, 3) := by decide +kernel
theorem dX9_sized_9 : decode cX9_sized 9 = .ok (.iload_n 0, 1) := by decide +kernel
theorem dX9_sized_10 : decode cX9_sized 10 = .ok (.ireturn, 1) := by decide +kernel
theorem dX9_xOf_0 : decode cX9_xOf 0 = .ok (.iload_n 0, 1) := by decide +kernel
theorem dX9_xOf_1 : decode cX9_xOf 1 = .ok (.bipush 7, 2) := by decide +kernel
theorem dX9_xOf_3 : decode cX9_xOf 3 = .ok (.irem, 1) := by decide +kernel
theorem dX9_xOf_4 : decode cX9_xOf 4 = .ok (.iconst 3, 1) := by decide +kernel
theorem dX9_xOf_5 : decode cX9_xOf 5 = .ok (.isub, 1) := by decide +kernel
theorem dX9_xOf_6 : decode cX9_xOf 6 = .ok (.ireturn, 1) := by decide +kernel
theorem dX9_yOf_0 : decode cX9_yOf 0 = .ok (.iload_n 0, 1) := by decide +kernel
theorem dX9_yOf_1 : decode cX9_yOf 1 = .ok (.bipush 7, 2) := by decide +kernel
theorem dX9_yOf_3 : decode cX9_yOf 3 = .ok (.idiv, 1) := by decide +kernel
theorem dX9_yOf_4 : decode cX9_yOf 4 = .ok (.iconst 3, 1) := by decide +kernel
theorem dX9_yOf_5 : decode cX9_yOf 5 = .ok (.isub, 1) := by decide +kernel
theorem dX9_yOf_6 : decode cX9_yOf 6 = .ok (.ireturn, 1) := by decide +kernel
theorem dX9_farOf_0 : decode cX9_farOf 0 = .ok (.iload_n 0, 1) := by decide +kernel
theorem dX9_farOf_1 : decode cX9_farOf 1 = .ok (.invokestatic 55, 3) := by decide +kernel
theorem dX9_farOf_4 : decode cX9_farOf 4 = .ok (.invokestatic 58, 3) := by decide +kernel
theorem dX9_farOf_7 : decode cX9_farOf 7 = .ok (.iload_n 0, 1) := by decide +kernel
theorem dX9_farOf_8 : decode cX9_farOf 8 = .ok (.invokestatic 61, 3) := by decide +kernel
theorem dX9_farOf_11 : decode cX9_farOf 11 = .ok (.invokestatic 58, 3) := by decide +kernel
theorem dX9_farOf_14 : decode cX9_farOf 14 = .ok (.iadd, 1) := by decide +kernel
theorem dX9_farOf_15 : decode cX9_farOf 15 = .ok (.ireturn, 1) := by decide +kernel
theorem dX9_within_0 : decode cX9_within 0 = .ok (.iload_n 0, 1) := by decide +kernel
theorem dX9_within_1 : decode cX9_within 1 = .ok (.ifCond .ge 7, 3) := by decide +kernel
theorem dX9_within_4 : decode cX9_within 4 = .ok (.iconst 0, 1) := by decide +kernel
theorem dX9_within_5 : decode cX9_within 5 = .ok (.goto 13, 3) := by decide +kernel
theorem dX9_within_8 : decode cX9_within 8 = .ok (.iload_n 0, 1) := by decide +kernel
theorem dX9_within_9 : decode cX9_within 9 = .ok (.iload_n 1, 1) := by decide +kernel
theorem dX9_within_10 : decode cX9_within 10 = .ok (.if_icmp .le 7, 3) := by decide +kernel
theorem dX9_within_13 : decode cX9_within 13 = .ok (.iload_n 1, 1) := by decide +kernel
theorem dX9_within_14 : decode cX9_within 14 = .ok (.goto 4, 3) := by decide +kernel
theorem dX9_within_17 : decode cX9_within 17 = .ok (.iload_n 0, 1) := by decide +kernel
theorem dX9_within_18 : decode cX9_within 18 = .ok (.ireturn, 1) := by decide +kernel
theorem dX9_dotAt_0 : decode cX9_dotAt 0 = .ok (.aload_n 0, 1) := by decide +kernel
theorem dX9_dotAt_1 : decode cX9_dotAt 1 = .ok (.getfield 7, 3) := by decide +kernel
theorem dX9_dotAt_4 : decode cX9_dotAt 4 = .ok (.iload_n 1, 1) := by decide +kernel
theorem dX9_dotAt_5 : decode cX9_dotAt 5 = .ok (.bipush 12, 2) := by decide +kernel
theorem dX9_dotAt_7 : decode cX9_dotAt 7 = .ok (.iload_n 3, 1) := by decide +kernel
theorem dX9_dotAt_8 : decode cX9_dotAt 8 = .ok (.bipush 7, 2) := by decide +kernel
theorem dX9_dotAt_10 : decode cX9_dotAt 10 = .ok (.invokestatic 64, 3) := by decide +kernel
theorem dX9_dotAt_13 : decode cX9_dotAt 13 = .ok (.imul, 1) := by decide +kernel
theorem dX9_dotAt_14 : decode cX9_dotAt 14 = .ok (.iadd, 1) := by decide +kernel
theorem dX9_dotAt_15 : decode cX9_dotAt 15 = .ok (.iload_n 2, 1) := by decide +kernel
theorem dX9_dotAt_16 : decode cX9_dotAt 16 = .ok (.bipush 11, 2) := by decide +kernel
theorem dX9_dotAt_18 : decode cX9_dotAt 18 = .ok (.invokestatic 64, 3) := by decide +kernel
theorem dX9_dotAt_21 : decode cX9_dotAt 21 = .ok (.iadd, 1) := by decide +kernel
theorem dX9_dotAt_22 : decode cX9_dotAt 22 = .ok (.iaload, 1) := by decide +kernel
theorem dX9_dotAt_23 : decode cX9_dotAt 23 = .ok (.ireturn, 1) := by decide +kernel
theorem dX9_isBlock_0 : decode cX9_isBlock 0 = .ok (.iload_n 0, 1) := by decide +kernel
theorem dX9_isBlock_1 : decode cX9_isBlock 1 = .ok (.i2l, 1) := by decide +kernel
theorem dX9_isBlock_2 : decode cX9_isBlock 2 = .ok (.lconst 0, 1) := by decide +kernel
theorem dX9_isBlock_3 : decode cX9_isBlock 3 = .ok (.ldc2_w 68, 3) := by decide +kernel
theorem dX9_isBlock_6 : decode cX9_isBlock 6 = .ok (.invokestatic 70, 3) := by decide +kernel
theorem dX9_isBlock_9 : decode cX9_isBlock 9 = .ok (.ireturn, 1) := by decide +kernel
theorem dX9_isMove_0 : decode cX9_isMove 0 = .ok (.lload_n 0, 1) := by decide +kernel
theorem dX9_isMove_1 : decode cX9_isMove 1 = .ok (.lconst 0, 1) := by decide +kernel
theorem dX9_isMove_2 : decode cX9_isMove 2 = .ok (.ldc2_w 74, 3) := by decide +kernel
theorem dX9_isMove_5 : decode cX9_isMove 5 = .ok (.invokestatic 70, 3) := by decide +kernel
theorem dX9_isMove_8 : decode cX9_isMove 8 = .ok (.ireturn, 1) := by decide +kernel
theorem dX9_dotCost_0 : decode cX9_dotCost 0 = .ok (.iconst 4, 1) := by decide +kernel
theorem dX9_dotCost_1 : decode cX9_dotCost 1 = .ok (.iload_n 2, 1) := by decide +kernel
theorem dX9_dotCost_2 : decode cX9_dotCost 2 = .ok (.iconst 3, 1) := by decide +kernel
theorem dX9_dotCost_3 : decode cX9_dotCost 3 = .ok (.irem, 1) := by decide +kernel
theorem dX9_dotCost_4 : decode cX9_dotCost 4 = .ok (.imul, 1) := by decide +kernel
theorem dX9_dotCost_5 : decode cX9_dotCost 5 = .ok (.iload 4, 2) := by decide +kernel
theorem dX9_dotCost_7 : decode cX9_dotCost 7 = .ok (.iconst 4, 1) := by decide +kernel
theorem dX9_dotCost_8 : decode cX9_dotCost 8 = .ok (.irem, 1) := by decide +kernel
theorem dX9_dotCost_9 : decode cX9_dotCost 9 = .ok (.iadd, 1) := by decide +kernel
theorem dX9_dotCost_10 : decode cX9_dotCost 10 = .ok (.istore 5, 2) := by decide +kernel
theorem dX9_dotCost_12 : decode cX9_dotCost 12 = .ok (.iconst 4, 1) := by decide +kernel
theorem dX9_dotCost_13 : decode cX9_dotCost 13 = .ok (.iload_n 2, 1) := by decide +kernel
theorem dX9_dotCost_14 : decode cX9_dotCost 14 = .ok (.iconst 3, 1) := by decide +kernel
theorem dX9_dotCost_15 : decode cX9_dotCost 15 = .ok (.idiv, 1) := by decide +kernel
theorem dX9_dotCost_16 : decode cX9_dotCost 16 = .ok (.imul, 1) := by decide +kernel
theorem dX9_dotCost_17 : decode cX9_dotCost 17 = .ok (.iload 4, 2) := by decide +kernel
theorem dX9_dotCost_19 : decode cX9_dotCost 19 = .ok (.iconst 4, 1) := by decide +kernel
theorem dX9_dotCost_20 : decode cX9_dotCost 20 = .ok (.idiv, 1) := by decide +kernel
theorem dX9_dotCost_21 : decode cX9_dotCost 21 = .ok (.iadd, 1) := by decide +kernel
theorem dX9_dotCost_22 : decode cX9_dotCost 22 = .ok (.istore 6, 2) := by decide +kernel
theorem dX9_dotCost_24 : decode cX9_dotCost 24 = .ok (.aload_n 0, 1) := by decide +kernel
theorem dX9_dotCost_25 : decode cX9_dotCost 25 = .ok (.bipush 96, 2) := by decide +kernel
theorem dX9_dotCost_27 : decode cX9_dotCost 27 = .ok (.iload 5, 2) := by decide +kernel
theorem dX9_dotCost_29 : decode cX9_dotCost 29 = .ok (.iload 6, 2) := by decide +kernel
theorem dX9_dotCost_31 : decode cX9_dotCost 31 = .ok (.invokevirtual 76, 3) := by decide +kernel
theorem dX9_dotCost_34 : decode cX9_dotCost 34 = .ok (.aload_n 0, 1) := by decide +kernel
theorem dX9_dotCost_35 : decode cX9_dotCost 35 = .ok (.iconst 0, 1) := by decide +kernel
theorem dX9_dotCost_36 : decode cX9_dotCost 36 = .ok (.iload 5, 2) := by decide +kernel
theorem dX9_dotCost_38 : decode cX9_dotCost 38 = .ok (.iload_n 3, 1) := by decide +kernel
theorem dX9_dotCost_39 : decode cX9_dotCost 39 = .ok (.invokestatic 55, 3) := by decide +kernel
theorem dX9_dotCost_42 : decode cX9_dotCost 42 = .ok (.iadd, 1) := by decide +kernel
theorem dX9_dotCost_43 : decode cX9_dotCost 43 = .ok (.iload 6, 2) := by decide +kernel
theorem dX9_dotCost_45 : decode cX9_dotCost 45 = .ok (.iload_n 3, 1) := by decide +kernel
theorem dX9_dotCost_46 : decode cX9_dotCost 46 = .ok (.invokestatic 61, 3) := by decide +kernel
theorem dX9_dotCost_49 : decode cX9_dotCost 49 = .ok (.iadd, 1) := by decide +kernel
theorem dX9_dotCost_50 : decode cX9_dotCost 50 = .ok (.invokevirtual 76, 3) := by decide +kernel
theorem dX9_dotCost_53 : decode cX9_dotCost 53 = .ok (.isub, 1) := by decide +kernel
theorem dX9_dotCost_54 : decode cX9_dotCost 54 = .ok (.invokestatic 58, 3) := by decide +kernel
theorem dX9_dotCost_57 : decode cX9_dotCost 57 = .ok (.istore 7, 2) := by decide +kernel
theorem dX9_dotCost_59 : decode cX9_dotCost 59 = .ok (.iload 4, 2) := by decide +kernel
theorem dX9_dotCost_61 : decode cX9_dotCost 61 = .ok (.iconst 4, 1) := by decide +kernel
theorem dX9_dotCost_62 : decode cX9_dotCost 62 = .ok (.if_icmp .lt 25, 3) := by decide +kernel
theorem dX9_dotCost_65 : decode cX9_dotCost 65 = .ok (.iload 4, 2) := by decide +kernel
theorem dX9_dotCost_67 : decode cX9_dotCost 67 = .ok (.bipush 11, 2) := by decide +kernel
theorem dX9_dotCost_69 : decode cX9_dotCost 69 = .ok (.if_icmp .gt 18, 3) := by decide +kernel
theorem dX9_dotCost_72 : decode cX9_dotCost 72 = .ok (.iload 4, 2) := by decide +kernel
theorem dX9_dotCost_74 : decode cX9_dotCost 74 = .ok (.iconst 4, 1) := by decide +kernel
theorem dX9_dotCost_75 : decode cX9_dotCost 75 = .ok (.irem, 1) := by decide +kernel
theorem dX9_dotCost_76 : decode cX9_dotCost 76 = .ok (.ifCond .eq 11, 3) := by decide +kernel
theorem dX9_dotCost_79 : decode cX9_dotCost 79 = .ok (.iload 4, 2) := by decide +kernel
theorem dX9_dotCost_81 : decode cX9_dotCost 81 = .ok (.iconst 4, 1) := by decide +kernel
theorem dX9_dotCost_82 : decode cX9_dotCost 82 = .ok (.irem, 1) := by decide +kernel
theorem dX9_dotCost_83 : decode cX9_dotCost 83 = .ok (.iconst 3, 1) := by decide +kernel
theorem dX9_dotCost_84 : decode cX9_dotCost 84 = .ok (.if_icmp .ne 7, 3) := by decide +kernel
theorem dX9_dotCost_87 : decode cX9_dotCost 87 = .ok (.iconst 1, 1) := by decide +kernel
theorem dX9_dotCost_88 : decode cX9_dotCost 88 = .ok (.goto 4, 3) := by decide +kernel
theorem dX9_dotCost_91 : decode cX9_dotCost 91 = .ok (.iconst 0, 1) := by decide +kernel
theorem dX9_dotCost_92 : decode cX9_dotCost 92 = .ok (.istore 8, 2) := by decide +kernel
theorem dX9_dotCost_94 : decode cX9_dotCost 94 = .ok (.iload_n 1, 1) := by decide +kernel
theorem dX9_dotCost_95 : decode cX9_dotCost 95 = .ok (.tableswitch 67 1 4 #[29, 35, 67, 50], 29) := by decide +kernel
theorem dX9_dotCost_124 : decode cX9_dotCost 124 = .ok (.iload 7, 2) := by decide +kernel
theorem dX9_dotCost_126 : decode cX9_dotCost 126 = .ok (.iload 7, 2) := by decide +kernel
theorem dX9_dotCost_128 : decode cX9_dotCost 128 = .ok (.imul, 1) := by decide +kernel
theorem dX9_dotCost_129 : decode cX9_dotCost 129 = .ok (.ireturn, 1) := by decide +kernel
theorem dX9_dotCost_130 : decode cX9_dotCost 130 = .ok (.iload 8, 2) := by decide +kernel
theorem dX9_dotCost_132 : decode cX9_dotCost 132 = .ok (.ifCond .eq 10, 3) := by decide +kernel
theorem dX9_dotCost_135 : decode cX9_dotCost 135 = .ok (.iconst 2, 1) := by decide +kernel
theorem dX9_dotCost_136 : decode cX9_dotCost 136 = .ok (.iload 7, 2) := by decide +kernel
theorem dX9_dotCost_138 : decode cX9_dotCost 138 = .ok (.imul, 1) := by decide +kernel
theorem dX9_dotCost_139 : decode cX9_dotCost 139 = .ok (.goto 5, 3) := by decide +kernel
theorem dX9_dotCost_142 : decode cX9_dotCost 142 = .ok (.iload 7, 2) := by decide +kernel
theorem dX9_dotCost_144 : decode cX9_dotCost 144 = .ok (.ireturn, 1) := by decide +kernel
theorem dX9_dotCost_145 : decode cX9_dotCost 145 = .ok (.iload 7, 2) := by decide +kernel
theorem dX9_dotCost_147 : decode cX9_dotCost 147 = .ok (.iconst 2, 1) := by decide +kernel
theorem dX9_dotCost_148 : decode cX9_dotCost 148 = .ok (.if_icmp .le 8, 3) := by decide +kernel
theorem dX9_dotCost_151 : decode cX9_dotCost 151 = .ok (.bipush 9, 2) := by decide +kernel
theorem dX9_dotCost_153 : decode cX9_dotCost 153 = .ok (.goto 8, 3) := by decide +kernel
theorem dX9_dotCost_156 : decode cX9_dotCost 156 = .ok (.iload 7, 2) := by decide +kernel
theorem dX9_dotCost_158 : decode cX9_dotCost 158 = .ok (.iload 7, 2) := by decide +kernel
theorem dX9_dotCost_160 : decode cX9_dotCost 160 = .ok (.imul, 1) := by decide +kernel
theorem dX9_dotCost_161 : decode cX9_dotCost 161 = .ok (.ireturn, 1) := by decide +kernel
theorem dX9_dotCost_162 : decode cX9_dotCost 162 = .ok (.iload 7, 2) := by decide +kernel
theorem dX9_dotCost_164 : decode cX9_dotCost 164 = .ok (.ireturn, 1) := by decide +kernel
theorem dX9_atOnce_0 : decode cX9_atOnce 0 = .ok (.iload_n 0, 1) := by decide +kernel
theorem dX9_atOnce_1 : decode cX9_atOnce 1 = .ok (.iconst 3, 1) := by decide +kernel
theorem dX9_atOnce_2 : decode cX9_atOnce 2 = .ok (.if_icmp .ne 12, 3) := by decide +kernel
theorem dX9_atOnce_5 : decode cX9_atOnce 5 = .ok (.iconst 2, 1) := by decide +kernel
theorem dX9_atOnce_6 : decode cX9_atOnce 6 = .ok (.iload_n 1, 1) := by decide +kernel
theorem dX9_atOnce_7 : decode cX9_atOnce 7 = .ok (.invokestatic 51, 3) := by decide +kernel
theorem dX9_atOnce_10 : decode cX9_atOnce 10 = .ok (.imul, 1) := by decide +kernel
theorem dX9_atOnce_11 : decode cX9_atOnce 11 = .ok (.goto 4, 3) := by decide +kernel
theorem dX9_atOnce_14 : decode cX9_atOnce 14 = .ok (.iconst 0, 1) := by decide +kernel
theorem dX9_atOnce_15 : decode cX9_atOnce 15 = .ok (.ireturn, 1) := by decide +kernel
theorem dX9_costBy_0 : decode cX9_costBy 0 = .ok (.iload_n 1, 1) := by decide +kernel
theorem dX9_costBy_1 : decode cX9_costBy 1 = .ok (.iload_n 3, 1) := by decide +kernel
theorem dX9_costBy_2 : decode cX9_costBy 2 = .ok (.invokestatic 80, 3) := by decide +kernel
theorem dX9_costBy_5 : decode cX9_costBy 5 = .ok (.istore 4, 2) := by decide +kernel
theorem dX9_costBy_7 : decode cX9_costBy 7 = .ok (.iconst 0, 1) := by decide +kernel
theorem dX9_costBy_8 : decode cX9_costBy 8 = .ok (.istore 5, 2) := by decide +kernel
theorem dX9_costBy_10 : decode cX9_costBy 10 = .ok (.iload 5, 2) := by decide +kernel
theorem dX9_costBy_12 : decode cX9_costBy 12 = .ok (.bipush 16, 2) := by decide +kernel
theorem dX9_costBy_14 : decode cX9_costBy 14 = .ok (.if_icmp .ge 23, 3) := by decide +kernel
theorem dX9_costBy_17 : decode cX9_costBy 17 = .ok (.iload 4, 2) := by decide +kernel
theorem dX9_costBy_19 : decode cX9_costBy 19 = .ok (.aload_n 0, 1) := by decide +kernel
theorem dX9_costBy_20 : decode cX9_costBy 20 = .ok (.iload_n 1, 1) := by decide +kernel
theorem dX9_costBy_21 : decode cX9_costBy 21 = .ok (.iload_n 2, 1) := by decide +kernel
theorem dX9_costBy_22 : decode cX9_costBy 22 = .ok (.iload_n 3, 1) := by decide +kernel
theorem dX9_costBy_23 : decode cX9_costBy 23 = .ok (.iload 5, 2) := by decide +kernel
theorem dX9_costBy_25 : decode cX9_costBy 25 = .ok (.invokevirtual 83, 3) := by decide +kernel
theorem dX9_costBy_28 : decode cX9_costBy 28 = .ok (.iadd, 1) := by decide +kernel
theorem dX9_costBy_29 : decode cX9_costBy 29 = .ok (.istore 4, 2) := by decide +kernel
theorem dX9_costBy_31 : decode cX9_costBy 31 = .ok (.iinc 5 1, 3) := by decide +kernel
theorem dX9_costBy_34 : decode cX9_costBy 34 = .ok (.goto (-24), 3) := by decide +kernel
theorem dX9_costBy_37 : decode cX9_costBy 37 = .ok (.iload 4, 2) := by decide +kernel
theorem dX9_costBy_39 : decode cX9_costBy 39 = .ok (.ireturn, 1) := by decide +kernel
theorem dX9_bestBy_0 : decode cX9_bestBy 0 = .ok (.aload_n 0, 1) := by decide +kernel
theorem dX9_bestBy_1 : decode cX9_bestBy 1 = .ok (.getfield 13, 3) := by decide +kernel
theorem dX9_bestBy_4 : decode cX9_bestBy 4 = .ok (.iconst 0, 1) := by decide +kernel
theorem dX9_bestBy_5 : decode cX9_bestBy 5 = .ok (.iaload, 1) := by decide +kernel
theorem dX9_bestBy_6 : decode cX9_bestBy 6 = .ok (.istore_n 3, 1) := by decide +kernel
theorem dX9_bestBy_7 : decode cX9_bestBy 7 = .ok (.aload_n 0, 1) := by decide +kernel
theorem dX9_bestBy_8 : decode cX9_bestBy 8 = .ok (.iload_n 1, 1) := by decide +kernel
theorem dX9_bestBy_9 : decode cX9_bestBy 9 = .ok (.iload_n 2, 1) := by decide +kernel
theorem dX9_bestBy_10 : decode cX9_bestBy 10 = .ok (.iload_n 3, 1) := by decide +kernel
theorem dX9_bestBy_11 : decode cX9_bestBy 11 = .ok (.invokevirtual 87, 3) := by decide +kernel
theorem dX9_bestBy_14 : decode cX9_bestBy 14 = .ok (.istore 4, 2) := by decide +kernel
theorem dX9_bestBy_16 : decode cX9_bestBy 16 = .ok (.iconst 1, 1) := by decide +kernel
theorem dX9_bestBy_17 : decode cX9_bestBy 17 = .ok (.istore 5, 2) := by decide +kernel
theorem dX9_bestBy_19 : decode cX9_bestBy 19 = .ok (.iload 5, 2) := by decide +kernel
theorem dX9_bestBy_21 : decode cX9_bestBy 21 = .ok (.bipush 49, 2) := by decide +kernel
theorem dX9_bestBy_23 : decode cX9_bestBy 23 = .ok (.if_icmp .ge 59, 3) := by decide +kernel
theorem dX9_bestBy_26 : decode cX9_bestBy 26 = .ok (.aload_n 0, 1) := by decide +kernel
theorem dX9_bestBy_27 : decode cX9_bestBy 27 = .ok (.iload_n 1, 1) := by decide +kernel
theorem dX9_bestBy_28 : decode cX9_bestBy 28 = .ok (.iload_n 2, 1) := by decide +kernel
theorem dX9_bestBy_29 : decode cX9_bestBy 29 = .ok (.aload_n 0, 1) := by decide +kernel
theorem dX9_bestBy_30 : decode cX9_bestBy 30 = .ok (.getfield 13, 3) := by decide +kernel
theorem dX9_bestBy_33 : decode cX9_bestBy 33 = .ok (.iload 5, 2) := by decide +kernel
theorem dX9_bestBy_35 : decode cX9_bestBy 35 = .ok (.iaload, 1) := by decide +kernel
theorem dX9_bestBy_36 : decode cX9_bestBy 36 = .ok (.invokevirtual 87, 3) := by decide +kernel
theorem dX9_bestBy_39 : decode cX9_bestBy 39 = .ok (.istore 6, 2) := by decide +kernel
theorem dX9_bestBy_41 : decode cX9_bestBy 41 = .ok (.iload 6, 2) := by decide +kernel
theorem dX9_bestBy_43 : decode cX9_bestBy 43 = .ok (.iload 4, 2) := by decide +kernel
theorem dX9_bestBy_45 : decode cX9_bestBy 45 = .ok (.if_icmp .ge 13, 3) := by decide +kernel
theorem dX9_bestBy_48 : decode cX9_bestBy 48 = .ok (.aload_n 0, 1) := by decide +kernel
theorem dX9_bestBy_49 : decode cX9_bestBy 49 = .ok (.getfield 13, 3) := by decide +kernel
theorem dX9_bestBy_52 : decode cX9_bestBy 52 = .ok (.iload 5, 2) := by decide +kernel
theorem dX9_bestBy_54 : decode cX9_bestBy 54 = .ok (.iaload, 1) := by decide +kernel
theorem dX9_bestBy_55 : decode cX9_bestBy 55 = .ok (.goto 4, 3) := by decide +kernel
theorem dX9_bestBy_58 : decode cX9_bestBy 58 = .ok (.iload_n 3, 1) := by decide +kernel
theorem dX9_bestBy_59 : decode cX9_bestBy 59 = .ok (.istore_n 3, 1) := by decide +kernel
theorem dX9_bestBy_60 : decode cX9_bestBy 60 = .ok (.iload 6, 2) := by decide +kernel
theorem dX9_bestBy_62 : decode cX9_bestBy 62 = .ok (.iload 4, 2) := by decide +kernel
theorem dX9_bestBy_64 : decode cX9_bestBy 64 = .ok (.if_icmp .ge 8, 3) := by decide +kernel
theorem dX9_bestBy_67 : decode cX9_bestBy 67 = .ok (.iload 6, 2) := by decide +kernel
theorem dX9_bestBy_69 : decode cX9_bestBy 69 = .ok (.goto 5, 3) := by decide +kernel
theorem dX9_bestBy_72 : decode cX9_bestBy 72 = .ok (.iload 4, 2) := by decide +kernel
theorem dX9_bestBy_74 : decode cX9_bestBy 74 = .ok (.istore 4, 2) := by decide +kernel
theorem dX9_bestBy_76 : decode cX9_bestBy 76 = .ok (.iinc 5 1, 3) := by decide +kernel
theorem dX9_bestBy_79 : decode cX9_bestBy 79 = .ok (.goto (-60), 3) := by decide +kernel
theorem dX9_bestBy_82 : decode cX9_bestBy 82 = .ok (.iload_n 3, 1) := by decide +kernel
theorem dX9_bestBy_83 : decode cX9_bestBy 83 = .ok (.ireturn, 1) := by decide +kernel
theorem dX9_best_0 : decode cX9_best 0 = .ok (.aload_n 0, 1) := by decide +kernel
theorem dX9_best_1 : decode cX9_best 1 = .ok (.aload_n 0, 1) := by decide +kernel
theorem dX9_best_2 : decode cX9_best 2 = .ok (.getfield 7, 3) := by decide +kernel
theorem dX9_best_5 : decode cX9_best 5 = .ok (.sipush 192, 3) := by decide +kernel
theorem dX9_best_8 : decode cX9_best 8 = .ok (.iaload, 1) := by decide +kernel
theorem dX9_best_9 : decode cX9_best 9 = .ok (.iload_n 1, 1) := by decide +kernel
theorem dX9_best_10 : decode cX9_best 10 = .ok (.invokevirtual 90, 3) := by decide +kernel
theorem dX9_best_13 : decode cX9_best 13 = .ok (.ireturn, 1) := by decide +kernel
theorem dX9_sumsOff_0 : decode cX9_sumsOff 0 = .ok (.iconst 0, 1) := by decide +kernel
theorem dX9_sumsOff_1 : decode cX9_sumsOff 1 = .ok (.istore_n 3, 1) := by decide +kernel
theorem dX9_sumsOff_2 : decode cX9_sumsOff 2 = .ok (.iconst 0, 1) := by decide +kernel
theorem dX9_sumsOff_3 : decode cX9_sumsOff 3 = .ok (.istore 4, 2) := by decide +kernel
theorem dX9_sumsOff_5 : decode cX9_sumsOff 5 = .ok (.iload 4, 2) := by decide +kernel
theorem dX9_sumsOff_7 : decode cX9_sumsOff 7 = .ok (.bipush 16, 2) := by decide +kernel
theorem dX9_sumsOff_9 : decode cX9_sumsOff 9 = .ok (.if_icmp .ge 66, 3) := by decide +kernel
theorem dX9_sumsOff_12 : decode cX9_sumsOff 12 = .ok (.iconst 4, 1) := by decide +kernel
theorem dX9_sumsOff_13 : decode cX9_sumsOff 13 = .ok (.iload_n 1, 1) := by decide +kernel
theorem dX9_sumsOff_14 : decode cX9_sumsOff 14 = .ok (.iconst 3, 1) := by decide +kernel
theorem dX9_sumsOff_15 : decode cX9_sumsOff 15 = .ok (.irem, 1) := by decide +kernel
theorem dX9_sumsOff_16 : decode cX9_sumsOff 16 = .ok (.imul, 1) := by decide +kernel
theorem dX9_sumsOff_17 : decode cX9_sumsOff 17 = .ok (.iload 4, 2) := by decide +kernel
theorem dX9_sumsOff_19 : decode cX9_sumsOff 19 = .ok (.iconst 4, 1) := by decide +kernel
theorem dX9_sumsOff_20 : decode cX9_sumsOff 20 = .ok (.irem, 1) := by decide +kernel
theorem dX9_sumsOff_21 : decode cX9_sumsOff 21 = .ok (.iadd, 1) := by decide +kernel
theorem dX9_sumsOff_22 : decode cX9_sumsOff 22 = .ok (.istore 5, 2) := by decide +kernel
theorem dX9_sumsOff_24 : decode cX9_sumsOff 24 = .ok (.iconst 4, 1) := by decide +kernel
theorem dX9_sumsOff_25 : decode cX9_sumsOff 25 = .ok (.iload_n 1, 1) := by decide +kernel
theorem dX9_sumsOff_26 : decode cX9_sumsOff 26 = .ok (.iconst 3, 1) := by decide +kernel
theorem dX9_sumsOff_27 : decode cX9_sumsOff 27 = .ok (.idiv, 1) := by decide +kernel
theorem dX9_sumsOff_28 : decode cX9_sumsOff 28 = .ok (.imul, 1) := by decide +kernel
theorem dX9_sumsOff_29 : decode cX9_sumsOff 29 = .ok (.iload 4, 2) := by decide +kernel
theorem dX9_sumsOff_31 : decode cX9_sumsOff 31 = .ok (.iconst 4, 1) := by decide +kernel
theorem dX9_sumsOff_32 : decode cX9_sumsOff 32 = .ok (.idiv, 1) := by decide +kernel
theorem dX9_sumsOff_33 : decode cX9_sumsOff 33 = .ok (.iadd, 1) := by decide +kernel
theorem dX9_sumsOff_34 : decode cX9_sumsOff 34 = .ok (.istore 6, 2) := by decide +kernel
theorem dX9_sumsOff_36 : decode cX9_sumsOff 36 = .ok (.iload_n 3, 1) := by decide +kernel
theorem dX9_sumsOff_37 : decode cX9_sumsOff 37 = .ok (.aload_n 0, 1) := by decide +kernel
theorem dX9_sumsOff_38 : decode cX9_sumsOff 38 = .ok (.bipush 96, 2) := by decide +kernel
theorem dX9_sumsOff_40 : decode cX9_sumsOff 40 = .ok (.iload 5, 2) := by decide +kernel
theorem dX9_sumsOff_42 : decode cX9_sumsOff 42 = .ok (.iload 6, 2) := by decide +kernel
theorem dX9_sumsOff_44 : decode cX9_sumsOff 44 = .ok (.invokevirtual 76, 3) := by decide +kernel
theorem dX9_sumsOff_47 : decode cX9_sumsOff 47 = .ok (.aload_n 0, 1) := by decide +kernel
theorem dX9_sumsOff_48 : decode cX9_sumsOff 48 = .ok (.iconst 0, 1) := by decide +kernel
theorem dX9_sumsOff_49 : decode cX9_sumsOff 49 = .ok (.iload 5, 2) := by decide +kernel
theorem dX9_sumsOff_51 : decode cX9_sumsOff 51 = .ok (.iload_n 2, 1) := by decide +kernel
theorem dX9_sumsOff_52 : decode cX9_sumsOff 52 = .ok (.invokestatic 55, 3) := by decide +kernel
theorem dX9_sumsOff_55 : decode cX9_sumsOff 55 = .ok (.iadd, 1) := by decide +kernel
theorem dX9_sumsOff_56 : decode cX9_sumsOff 56 = .ok (.iload 6, 2) := by decide +kernel
theorem dX9_sumsOff_58 : decode cX9_sumsOff 58 = .ok (.iload_n 2, 1) := by decide +kernel
theorem dX9_sumsOff_59 : decode cX9_sumsOff 59 = .ok (.invokestatic 61, 3) := by decide +kernel
theorem dX9_sumsOff_62 : decode cX9_sumsOff 62 = .ok (.iadd, 1) := by decide +kernel
theorem dX9_sumsOff_63 : decode cX9_sumsOff 63 = .ok (.invokevirtual 76, 3) := by decide +kernel
theorem dX9_sumsOff_66 : decode cX9_sumsOff 66 = .ok (.isub, 1) := by decide +kernel
theorem dX9_sumsOff_67 : decode cX9_sumsOff 67 = .ok (.iadd, 1) := by decide +kernel
theorem dX9_sumsOff_68 : decode cX9_sumsOff 68 = .ok (.istore_n 3, 1) := by decide +kernel
theorem dX9_sumsOff_69 : decode cX9_sumsOff 69 = .ok (.iinc 4 1, 3) := by decide +kernel
theorem dX9_sumsOff_72 : decode cX9_sumsOff 72 = .ok (.goto (-67), 3) := by decide +kernel
theorem dX9_sumsOff_75 : decode cX9_sumsOff 75 = .ok (.iload_n 3, 1) := by decide +kernel
theorem dX9_sumsOff_76 : decode cX9_sumsOff 76 = .ok (.invokestatic 58, 3) := by decide +kernel
theorem dX9_sumsOff_79 : decode cX9_sumsOff 79 = .ok (.ireturn, 1) := by decide +kernel
theorem dX9_tries_0 : decode cX9_tries 0 = .ok (.aload_n 0, 1) := by decide +kernel
theorem dX9_tries_1 : decode cX9_tries 1 = .ok (.getfield 7, 3) := by decide +kernel
theorem dX9_tries_4 : decode cX9_tries 4 = .ok (.sipush 192, 3) := by decide +kernel
theorem dX9_tries_7 : decode cX9_tries 7 = .ok (.iaload, 1) := by decide +kernel
theorem dX9_tries_8 : decode cX9_tries 8 = .ok (.istore_n 2, 1) := by decide +kernel
theorem dX9_tries_9 : decode cX9_tries 9 = .ok (.iload_n 2, 1) := by decide +kernel
theorem dX9_tries_10 : decode cX9_tries 10 = .ok (.ifCond .eq 13, 3) := by decide +kernel
theorem dX9_tries_13 : decode cX9_tries 13 = .ok (.iload_n 2, 1) := by decide +kernel
theorem dX9_tries_14 : decode cX9_tries 14 = .ok (.iconst 2, 1) := by decide +kernel
theorem dX9_tries_15 : decode cX9_tries 15 = .ok (.if_icmp .eq 8, 3) := by decide +kernel
theorem dX9_tries_18 : decode cX9_tries 18 = .ok (.iload_n 2, 1) := by decide +kernel
theorem dX9_tries_19 : decode cX9_tries 19 = .ok (.iconst 3, 1) := by decide +kernel
theorem dX9_tries_20 : decode cX9_tries 20 = .ok (.if_icmp .ne 7, 3) := by decide +kernel
theorem dX9_tries_23 : decode cX9_tries 23 = .ok (.iconst 1, 1) := by decide +kernel
theorem dX9_tries_24 : decode cX9_tries 24 = .ok (.goto 4, 3) := by decide +kernel
theorem dX9_tries_27 : decode cX9_tries 27 = .ok (.iconst 0, 1) := by decide +kernel
theorem dX9_tries_28 : decode cX9_tries 28 = .ok (.istore_n 3, 1) := by decide +kernel
theorem dX9_tries_29 : decode cX9_tries 29 = .ok (.aload_n 0, 1) := by decide +kernel
theorem dX9_tries_30 : decode cX9_tries 30 = .ok (.iload_n 2, 1) := by decide +kernel
theorem dX9_tries_31 : decode cX9_tries 31 = .ok (.iload_n 1, 1) := by decide +kernel
theorem dX9_tries_32 : decode cX9_tries 32 = .ok (.aload_n 0, 1) := by decide +kernel
theorem dX9_tries_33 : decode cX9_tries 33 = .ok (.getfield 13, 3) := by decide +kernel
theorem dX9_tries_36 : decode cX9_tries 36 = .ok (.iconst 0, 1) := by decide +kernel
theorem dX9_tries_37 : decode cX9_tries 37 = .ok (.iaload, 1) := by decide +kernel
theorem dX9_tries_38 : decode cX9_tries 38 = .ok (.invokevirtual 87, 3) := by decide +kernel
theorem dX9_tries_41 : decode cX9_tries 41 = .ok (.istore 4, 2) := by decide +kernel
theorem dX9_tries_43 : decode cX9_tries 43 = .ok (.aload_n 0, 1) := by decide +kernel
theorem dX9_tries_44 : decode cX9_tries 44 = .ok (.bipush 16, 2) := by decide +kernel
theorem dX9_tries_46 : decode cX9_tries 46 = .ok (.putfield 93, 3) := by decide +kernel
theorem dX9_tries_49 : decode cX9_tries 49 = .ok (.aload_n 0, 1) := by decide +kernel
theorem dX9_tries_50 : decode cX9_tries 50 = .ok (.iconst 0, 1) := by decide +kernel
theorem dX9_tries_51 : decode cX9_tries 51 = .ok (.putfield 96, 3) := by decide +kernel
theorem dX9_tries_54 : decode cX9_tries 54 = .ok (.aload_n 0, 1) := by decide +kernel
theorem dX9_tries_55 : decode cX9_tries 55 = .ok (.bipush 16, 2) := by decide +kernel
theorem dX9_tries_57 : decode cX9_tries 57 = .ok (.putfield 99, 3) := by decide +kernel
theorem dX9_tries_60 : decode cX9_tries 60 = .ok (.iconst 1, 1) := by decide +kernel
theorem dX9_tries_61 : decode cX9_tries 61 = .ok (.istore 5, 2) := by decide +kernel
theorem dX9_tries_63 : decode cX9_tries 63 = .ok (.iload 5, 2) := by decide +kernel
theorem dX9_tries_65 : decode cX9_tries 65 = .ok (.bipush 49, 2) := by decide +kernel
theorem dX9_tries_67 : decode cX9_tries 67 = .ok (.if_icmp .ge 153, 3) := by decide +kernel
theorem dX9_tries_70 : decode cX9_tries 70 = .ok (.aload_n 0, 1) := by decide +kernel
theorem dX9_tries_71 : decode cX9_tries 71 = .ok (.getfield 13, 3) := by decide +kernel
theorem dX9_tries_74 : decode cX9_tries 74 = .ok (.iload 5, 2) := by decide +kernel
theorem dX9_tries_76 : decode cX9_tries 76 = .ok (.iaload, 1) := by decide +kernel
theorem dX9_tries_77 : decode cX9_tries 77 = .ok (.istore 6, 2) := by decide +kernel
theorem dX9_tries_79 : decode cX9_tries 79 = .ok (.iload_n 3, 1) := by decide +kernel
theorem dX9_tries_80 : decode cX9_tries 80 = .ok (.ifCond .eq 19, 3) := by decide +kernel
theorem dX9_tries_83 : decode cX9_tries 83 = .ok (.aload_n 0, 1) := by decide +kernel
theorem dX9_tries_84 : decode cX9_tries 84 = .ok (.iload_n 1, 1) := by decide +kernel
theorem dX9_tries_85 : decode cX9_tries 85 = .ok (.iload 6, 2) := by decide +kernel
theorem dX9_tries_87 : decode cX9_tries 87 = .ok (.invokevirtual 102, 3) := by decide +kernel
theorem dX9_tries_90 : decode cX9_tries 90 = .ok (.iload 4, 2) := by decide +kernel
theorem dX9_tries_92 : decode cX9_tries 92 = .ok (.if_icmp .lt 7, 3) := by decide +kernel
theorem dX9_tries_95 : decode cX9_tries 95 = .ok (.iconst 1, 1) := by decide +kernel
theorem dX9_tries_96 : decode cX9_tries 96 = .ok (.goto 4, 3) := by decide +kernel
theorem dX9_tries_99 : decode cX9_tries 99 = .ok (.iconst 0, 1) := by decide +kernel
theorem dX9_tries_100 : decode cX9_tries 100 = .ok (.istore 7, 2) := by decide +kernel
theorem dX9_tries_102 : decode cX9_tries 102 = .ok (.iload_n 2, 1) := by decide +kernel
theorem dX9_tries_103 : decode cX9_tries 103 = .ok (.iload 6, 2) := by decide +kernel
theorem dX9_tries_105 : decode cX9_tries 105 = .ok (.invokestatic 80, 3) := by decide +kernel
theorem dX9_tries_108 : decode cX9_tries 108 = .ok (.istore 8, 2) := by decide +kernel
theorem dX9_tries_110 : decode cX9_tries 110 = .ok (.iconst 0, 1) := by decide +kernel
theorem dX9_tries_111 : decode cX9_tries 111 = .ok (.istore 9, 2) := by decide +kernel
theorem dX9_tries_113 : decode cX9_tries 113 = .ok (.iload 9, 2) := by decide +kernel
theorem dX9_tries_115 : decode cX9_tries 115 = .ok (.bipush 16, 2) := by decide +kernel
theorem dX9_tries_117 : decode cX9_tries 117 = .ok (.if_icmp .ge 31, 3) := by decide +kernel
theorem dX9_tries_120 : decode cX9_tries 120 = .ok (.iload 8, 2) := by decide +kernel
theorem dX9_tries_122 : decode cX9_tries 122 = .ok (.iload 4, 2) := by decide +kernel
theorem dX9_tries_124 : decode cX9_tries 124 = .ok (.if_icmp .ge 24, 3) := by decide +kernel
theorem dX9_tries_127 : decode cX9_tries 127 = .ok (.iload 8, 2) := by decide +kernel
theorem dX9_tries_129 : decode cX9_tries 129 = .ok (.aload_n 0, 1) := by decide +kernel
theorem dX9_tries_130 : decode cX9_tries 130 = .ok (.iload_n 2, 1) := by decide +kernel
theorem dX9_tries_131 : decode cX9_tries 131 = .ok (.iload_n 1, 1) := by decide +kernel
theorem dX9_tries_132 : decode cX9_tries 132 = .ok (.iload 6, 2) := by decide +kernel
theorem dX9_tries_134 : decode cX9_tries 134 = .ok (.iload 9, 2) := by decide +kernel
theorem dX9_tries_136 : decode cX9_tries 136 = .ok (.invokevirtual 83, 3) := by decide +kernel
theorem dX9_tries_139 : decode cX9_tries 139 = .ok (.iadd, 1) := by decide +kernel
theorem dX9_tries_140 : decode cX9_tries 140 = .ok (.istore 8, 2) := by decide +kernel
theorem dX9_tries_142 : decode cX9_tries 142 = .ok (.iinc 9 1, 3) := by decide +kernel
theorem dX9_tries_145 : decode cX9_tries 145 = .ok (.goto (-32), 3) := by decide +kernel
theorem dX9_tries_148 : decode cX9_tries 148 = .ok (.aload_n 0, 1) := by decide +kernel
theorem dX9_tries_149 : decode cX9_tries 149 = .ok (.dup, 1) := by decide +kernel
theorem dX9_tries_150 : decode cX9_tries 150 = .ok (.getfield 93, 3) := by decide +kernel
theorem dX9_tries_153 : decode cX9_tries 153 = .ok (.iload 9, 2) := by decide +kernel
theorem dX9_tries_155 : decode cX9_tries 155 = .ok (.iadd, 1) := by decide +kernel
theorem dX9_tries_156 : decode cX9_tries 156 = .ok (.putfield 93, 3) := by decide +kernel
theorem dX9_tries_159 : decode cX9_tries 159 = .ok (.aload_n 0, 1) := by decide +kernel
theorem dX9_tries_160 : decode cX9_tries 160 = .ok (.dup, 1) := by decide +kernel
theorem dX9_tries_161 : decode cX9_tries 161 = .ok (.getfield 96, 3) := by decide +kernel
theorem dX9_tries_164 : decode cX9_tries 164 = .ok (.iload 7, 2) := by decide +kernel
theorem dX9_tries_166 : decode cX9_tries 166 = .ok (.ifCond .eq 7, 3) := by decide +kernel
theorem dX9_tries_169 : decode cX9_tries 169 = .ok (.iconst 1, 1) := by decide +kernel
theorem dX9_tries_170 : decode cX9_tries 170 = .ok (.goto 4, 3) := by decide +kernel
theorem dX9_tries_173 : decode cX9_tries 173 = .ok (.iconst 0, 1) := by decide +kernel
theorem dX9_tries_174 : decode cX9_tries 174 = .ok (.iadd, 1) := by decide +kernel
theorem dX9_tries_175 : decode cX9_tries 175 = .ok (.putfield 96, 3) := by decide +kernel
theorem dX9_tries_178 : decode cX9_tries 178 = .ok (.aload_n 0, 1) := by decide +kernel
theorem dX9_tries_179 : decode cX9_tries 179 = .ok (.dup, 1) := by decide +kernel
theorem dX9_tries_180 : decode cX9_tries 180 = .ok (.getfield 99, 3) := by decide +kernel
theorem dX9_tries_183 : decode cX9_tries 183 = .ok (.iload 7, 2) := by decide +kernel
theorem dX9_tries_185 : decode cX9_tries 185 = .ok (.ifCond .eq 7, 3) := by decide +kernel
theorem dX9_tries_188 : decode cX9_tries 188 = .ok (.iconst 0, 1) := by decide +kernel
theorem dX9_tries_189 : decode cX9_tries 189 = .ok (.goto 5, 3) := by decide +kernel
theorem dX9_tries_192 : decode cX9_tries 192 = .ok (.iload 9, 2) := by decide +kernel
theorem dX9_tries_194 : decode cX9_tries 194 = .ok (.iadd, 1) := by decide +kernel
theorem dX9_tries_195 : decode cX9_tries 195 = .ok (.putfield 99, 3) := by decide +kernel
theorem dX9_tries_198 : decode cX9_tries 198 = .ok (.iload 8, 2) := by decide +kernel
theorem dX9_tries_200 : decode cX9_tries 200 = .ok (.iload 4, 2) := by decide +kernel
theorem dX9_tries_202 : decode cX9_tries 202 = .ok (.if_icmp .ge 8, 3) := by decide +kernel
theorem dX9_tries_205 : decode cX9_tries 205 = .ok (.iload 8, 2) := by decide +kernel
theorem dX9_tries_207 : decode cX9_tries 207 = .ok (.goto 5, 3) := by decide +kernel
theorem dX9_tries_210 : decode cX9_tries 210 = .ok (.iload 4, 2) := by decide +kernel
theorem dX9_tries_212 : decode cX9_tries 212 = .ok (.istore 4, 2) := by decide +kernel
theorem dX9_tries_214 : decode cX9_tries 214 = .ok (.iinc 5 1, 3) := by decide +kernel
theorem dX9_tries_217 : decode cX9_tries 217 = .ok (.goto (-154), 3) := by decide +kernel
theorem dX9_tries_220 : decode cX9_tries 220 = .ok (.return_, 1) := by decide +kernel
theorem dX9_halfDot_0 : decode cX9_halfDot 0 = .ok (.iconst 2, 1) := by decide +kernel
theorem dX9_halfDot_1 : decode cX9_halfDot 1 = .ok (.iload_n 2, 1) := by decide +kernel
theorem dX9_halfDot_2 : decode cX9_halfDot 2 = .ok (.iconst 5, 1) := by decide +kernel
theorem dX9_halfDot_3 : decode cX9_halfDot 3 = .ok (.invokestatic 64, 3) := by decide +kernel
theorem dX9_halfDot_6 : decode cX9_halfDot 6 = .ok (.imul, 1) := by decide +kernel
theorem dX9_halfDot_7 : decode cX9_halfDot 7 = .ok (.istore 4, 2) := by decide +kernel
theorem dX9_halfDot_9 : decode cX9_halfDot 9 = .ok (.iconst 2, 1) := by decide +kernel
theorem dX9_halfDot_10 : decode cX9_halfDot 10 = .ok (.iload_n 3, 1) := by decide +kernel
theorem dX9_halfDot_11 : decode cX9_halfDot 11 = .ok (.iconst 3, 1) := by decide +kernel
theorem dX9_halfDot_12 : decode cX9_halfDot 12 = .ok (.invokestatic 64, 3) := by decide +kernel
theorem dX9_halfDot_15 : decode cX9_halfDot 15 = .ok (.imul, 1) := by decide +kernel
theorem dX9_halfDot_16 : decode cX9_halfDot 16 = .ok (.istore 5, 2) := by decide +kernel
theorem dX9_halfDot_18 : decode cX9_halfDot 18 = .ok (.aload_n 0, 1) := by decide +kernel
theorem dX9_halfDot_19 : decode cX9_halfDot 19 = .ok (.iload_n 1, 1) := by decide +kernel
theorem dX9_halfDot_20 : decode cX9_halfDot 20 = .ok (.iload 4, 2) := by decide +kernel
theorem dX9_halfDot_22 : decode cX9_halfDot 22 = .ok (.iload 5, 2) := by decide +kernel
theorem dX9_halfDot_24 : decode cX9_halfDot 24 = .ok (.invokevirtual 76, 3) := by decide +kernel
theorem dX9_halfDot_27 : decode cX9_halfDot 27 = .ok (.aload_n 0, 1) := by decide +kernel
theorem dX9_halfDot_28 : decode cX9_halfDot 28 = .ok (.iload_n 1, 1) := by decide +kernel
theorem dX9_halfDot_29 : decode cX9_halfDot 29 = .ok (.iload 4, 2) := by decide +kernel
theorem dX9_halfDot_31 : decode cX9_halfDot 31 = .ok (.iconst 1, 1) := by decide +kernel
theorem dX9_halfDot_32 : decode cX9_halfDot 32 = .ok (.iadd, 1) := by decide +kernel
theorem dX9_halfDot_33 : decode cX9_halfDot 33 = .ok (.iload 5, 2) := by decide +kernel
theorem dX9_halfDot_35 : decode cX9_halfDot 35 = .ok (.invokevirtual 76, 3) := by decide +kernel
theorem dX9_halfDot_38 : decode cX9_halfDot 38 = .ok (.iadd, 1) := by decide +kernel
theorem dX9_halfDot_39 : decode cX9_halfDot 39 = .ok (.aload_n 0, 1) := by decide +kernel
theorem dX9_halfDot_40 : decode cX9_halfDot 40 = .ok (.iload_n 1, 1) := by decide +kernel
theorem dX9_halfDot_41 : decode cX9_halfDot 41 = .ok (.iload 4, 2) := by decide +kernel
theorem dX9_halfDot_43 : decode cX9_halfDot 43 = .ok (.iload 5, 2) := by decide +kernel
theorem dX9_halfDot_45 : decode cX9_halfDot 45 = .ok (.iconst 1, 1) := by decide +kernel
theorem dX9_halfDot_46 : decode cX9_halfDot 46 = .ok (.iadd, 1) := by decide +kernel
theorem dX9_halfDot_47 : decode cX9_halfDot 47 = .ok (.invokevirtual 76, 3) := by decide +kernel
theorem dX9_halfDot_50 : decode cX9_halfDot 50 = .ok (.iadd, 1) := by decide +kernel
theorem dX9_halfDot_51 : decode cX9_halfDot 51 = .ok (.aload_n 0, 1) := by decide +kernel
theorem dX9_halfDot_52 : decode cX9_halfDot 52 = .ok (.iload_n 1, 1) := by decide +kernel
theorem dX9_halfDot_53 : decode cX9_halfDot 53 = .ok (.iload 4, 2) := by decide +kernel
theorem dX9_halfDot_55 : decode cX9_halfDot 55 = .ok (.iconst 1, 1) := by decide +kernel
theorem dX9_halfDot_56 : decode cX9_halfDot 56 = .ok (.iadd, 1) := by decide +kernel
theorem dX9_halfDot_57 : decode cX9_halfDot 57 = .ok (.iload 5, 2) := by decide +kernel
theorem dX9_halfDot_59 : decode cX9_halfDot 59 = .ok (.iconst 1, 1) := by decide +kernel
theorem dX9_halfDot_60 : decode cX9_halfDot 60 = .ok (.iadd, 1) := by decide +kernel
theorem dX9_halfDot_61 : decode cX9_halfDot 61 = .ok (.invokevirtual 76, 3) := by decide +kernel
theorem dX9_halfDot_64 : decode cX9_halfDot 64 = .ok (.iadd, 1) := by decide +kernel
theorem dX9_halfDot_65 : decode cX9_halfDot 65 = .ok (.iconst 4, 1) := by decide +kernel
theorem dX9_halfDot_66 : decode cX9_halfDot 66 = .ok (.idiv, 1) := by decide +kernel
theorem dX9_halfDot_67 : decode cX9_halfDot 67 = .ok (.ireturn, 1) := by decide +kernel
theorem dX9_halfCost_0 : decode cX9_halfCost 0 = .ok (.iconst 0, 1) := by decide +kernel
theorem dX9_halfCost_1 : decode cX9_halfCost 1 = .ok (.istore_n 3, 1) := by decide +kernel
theorem dX9_halfCost_2 : decode cX9_halfCost 2 = .ok (.iconst 0, 1) := by decide +kernel
theorem dX9_halfCost_3 : decode cX9_halfCost 3 = .ok (.istore 4, 2) := by decide +kernel
theorem dX9_halfCost_5 : decode cX9_halfCost 5 = .ok (.iload 4, 2) := by decide +kernel
theorem dX9_halfCost_7 : decode cX9_halfCost 7 = .ok (.iconst 4, 1) := by decide +kernel
theorem dX9_halfCost_8 : decode cX9_halfCost 8 = .ok (.if_icmp .ge 69, 3) := by decide +kernel
theorem dX9_halfCost_11 : decode cX9_halfCost 11 = .ok (.iconst 2, 1) := by decide +kernel
theorem dX9_halfCost_12 : decode cX9_halfCost 12 = .ok (.iload_n 1, 1) := by decide +kernel
theorem dX9_halfCost_13 : decode cX9_halfCost 13 = .ok (.iconst 3, 1) := by decide +kernel
theorem dX9_halfCost_14 : decode cX9_halfCost 14 = .ok (.irem, 1) := by decide +kernel
theorem dX9_halfCost_15 : decode cX9_halfCost 15 = .ok (.imul, 1) := by decide +kernel
theorem dX9_halfCost_16 : decode cX9_halfCost 16 = .ok (.iload 4, 2) := by decide +kernel
theorem dX9_halfCost_18 : decode cX9_halfCost 18 = .ok (.iconst 2, 1) := by decide +kernel
theorem dX9_halfCost_19 : decode cX9_halfCost 19 = .ok (.irem, 1) := by decide +kernel
theorem dX9_halfCost_20 : decode cX9_halfCost 20 = .ok (.iadd, 1) := by decide +kernel
theorem dX9_halfCost_21 : decode cX9_halfCost 21 = .ok (.istore 5, 2) := by decide +kernel
theorem dX9_halfCost_23 : decode cX9_halfCost 23 = .ok (.iconst 2, 1) := by decide +kernel
theorem dX9_halfCost_24 : decode cX9_halfCost 24 = .ok (.iload_n 1, 1) := by decide +kernel
theorem dX9_halfCost_25 : decode cX9_halfCost 25 = .ok (.iconst 3, 1) := by decide +kernel
theorem dX9_halfCost_26 : decode cX9_halfCost 26 = .ok (.idiv, 1) := by decide +kernel
theorem dX9_halfCost_27 : decode cX9_halfCost 27 = .ok (.imul, 1) := by decide +kernel
theorem dX9_halfCost_28 : decode cX9_halfCost 28 = .ok (.iload 4, 2) := by decide +kernel
theorem dX9_halfCost_30 : decode cX9_halfCost 30 = .ok (.iconst 2, 1) := by decide +kernel
theorem dX9_halfCost_31 : decode cX9_halfCost 31 = .ok (.idiv, 1) := by decide +kernel
theorem dX9_halfCost_32 : decode cX9_halfCost 32 = .ok (.iadd, 1) := by decide +kernel
theorem dX9_halfCost_33 : decode cX9_halfCost 33 = .ok (.istore 6, 2) := by decide +kernel
theorem dX9_halfCost_35 : decode cX9_halfCost 35 = .ok (.iload_n 3, 1) := by decide +kernel
theorem dX9_halfCost_36 : decode cX9_halfCost 36 = .ok (.aload_n 0, 1) := by decide +kernel
theorem dX9_halfCost_37 : decode cX9_halfCost 37 = .ok (.bipush 96, 2) := by decide +kernel
theorem dX9_halfCost_39 : decode cX9_halfCost 39 = .ok (.iload 5, 2) := by decide +kernel
theorem dX9_halfCost_41 : decode cX9_halfCost 41 = .ok (.iload 6, 2) := by decide +kernel
theorem dX9_halfCost_43 : decode cX9_halfCost 43 = .ok (.invokevirtual 105, 3) := by decide +kernel
theorem dX9_halfCost_46 : decode cX9_halfCost 46 = .ok (.aload_n 0, 1) := by decide +kernel
theorem dX9_halfCost_47 : decode cX9_halfCost 47 = .ok (.iconst 0, 1) := by decide +kernel
theorem dX9_halfCost_48 : decode cX9_halfCost 48 = .ok (.iload 5, 2) := by decide +kernel
theorem dX9_halfCost_50 : decode cX9_halfCost 50 = .ok (.iload_n 2, 1) := by decide +kernel
theorem dX9_halfCost_51 : decode cX9_halfCost 51 = .ok (.invokestatic 55, 3) := by decide +kernel
theorem dX9_halfCost_54 : decode cX9_halfCost 54 = .ok (.iadd, 1) := by decide +kernel
theorem dX9_halfCost_55 : decode cX9_halfCost 55 = .ok (.iload 6, 2) := by decide +kernel
theorem dX9_halfCost_57 : decode cX9_halfCost 57 = .ok (.iload_n 2, 1) := by decide +kernel
theorem dX9_halfCost_58 : decode cX9_halfCost 58 = .ok (.invokestatic 61, 3) := by decide +kernel
theorem dX9_halfCost_61 : decode cX9_halfCost 61 = .ok (.iadd, 1) := by decide +kernel
theorem dX9_halfCost_62 : decode cX9_halfCost 62 = .ok (.invokevirtual 105, 3) := by decide +kernel
theorem dX9_halfCost_65 : decode cX9_halfCost 65 = .ok (.isub, 1) := by decide +kernel
theorem dX9_halfCost_66 : decode cX9_halfCost 66 = .ok (.invokestatic 58, 3) := by decide +kernel
theorem dX9_halfCost_69 : decode cX9_halfCost 69 = .ok (.iadd, 1) := by decide +kernel
theorem dX9_halfCost_70 : decode cX9_halfCost 70 = .ok (.istore_n 3, 1) := by decide +kernel
theorem dX9_halfCost_71 : decode cX9_halfCost 71 = .ok (.iinc 4 1, 3) := by decide +kernel
theorem dX9_halfCost_74 : decode cX9_halfCost 74 = .ok (.goto (-69), 3) := by decide +kernel
theorem dX9_halfCost_77 : decode cX9_halfCost 77 = .ok (.iload_n 3, 1) := by decide +kernel
theorem dX9_halfCost_78 : decode cX9_halfCost 78 = .ok (.ireturn, 1) := by decide +kernel
theorem dX9_quick_0 : decode cX9_quick 0 = .ok (.ldc 108, 2) := by decide +kernel
theorem dX9_quick_2 : decode cX9_quick 2 = .ok (.istore_n 2, 1) := by decide +kernel
theorem dX9_quick_3 : decode cX9_quick 3 = .ok (.ldc 109, 2) := by decide +kernel
theorem dX9_quick_5 : decode cX9_quick 5 = .ok (.istore_n 3, 1) := by decide +kernel
theorem dX9_quick_6 : decode cX9_quick 6 = .ok (.iconst 0, 1) := by decide +kernel
theorem dX9_quick_7 : decode cX9_quick 7 = .ok (.istore 4, 2) := by decide +kernel
theorem dX9_quick_9 : decode cX9_quick 9 = .ok (.iload 4, 2) := by decide +kernel
theorem dX9_quick_11 : decode cX9_quick 11 = .ok (.bipush 49, 2) := by decide +kernel
theorem dX9_quick_13 : decode cX9_quick 13 = .ok (.if_icmp .ge 94, 3) := by decide +kernel
theorem dX9_quick_16 : decode cX9_quick 16 = .ok (.aload_n 0, 1) := by decide +kernel
theorem dX9_quick_17 : decode cX9_quick 17 = .ok (.getfield 13, 3) := by decide +kernel
theorem dX9_quick_20 : decode cX9_quick 20 = .ok (.iload 4, 2) := by decide +kernel
theorem dX9_quick_22 : decode cX9_quick 22 = .ok (.iaload, 1) := by decide +kernel
theorem dX9_quick_23 : decode cX9_quick 23 = .ok (.istore 5, 2) := by decide +kernel
theorem dX9_quick_25 : decode cX9_quick 25 = .ok (.iload 5, 2) := by decide +kernel
theorem dX9_quick_27 : decode cX9_quick 27 = .ok (.invokestatic 55, 3) := by decide +kernel
theorem dX9_quick_30 : decode cX9_quick 30 = .ok (.invokestatic 58, 3) := by decide +kernel
theorem dX9_quick_33 : decode cX9_quick 33 = .ok (.iconst 2, 1) := by decide +kernel
theorem dX9_quick_34 : decode cX9_quick 34 = .ok (.if_icmp .ge 19, 3) := by decide +kernel
theorem dX9_quick_37 : decode cX9_quick 37 = .ok (.iload 5, 2) := by decide +kernel
theorem dX9_quick_39 : decode cX9_quick 39 = .ok (.invokestatic 61, 3) := by decide +kernel
theorem dX9_quick_42 : decode cX9_quick 42 = .ok (.invokestatic 58, 3) := by decide +kernel
theorem dX9_quick_45 : decode cX9_quick 45 = .ok (.iconst 2, 1) := by decide +kernel
theorem dX9_quick_46 : decode cX9_quick 46 = .ok (.if_icmp .ge 7, 3) := by decide +kernel
theorem dX9_quick_49 : decode cX9_quick 49 = .ok (.iconst 1, 1) := by decide +kernel
theorem dX9_quick_50 : decode cX9_quick 50 = .ok (.goto 4, 3) := by decide +kernel
theorem dX9_quick_53 : decode cX9_quick 53 = .ok (.iconst 0, 1) := by decide +kernel
theorem dX9_quick_54 : decode cX9_quick 54 = .ok (.istore 6, 2) := by decide +kernel
theorem dX9_quick_56 : decode cX9_quick 56 = .ok (.iload 6, 2) := by decide +kernel
theorem dX9_quick_58 : decode cX9_quick 58 = .ok (.ifCond .eq 13, 3) := by decide +kernel
theorem dX9_quick_61 : decode cX9_quick 61 = .ok (.aload_n 0, 1) := by decide +kernel
theorem dX9_quick_62 : decode cX9_quick 62 = .ok (.iload_n 1, 1) := by decide +kernel
theorem dX9_quick_63 : decode cX9_quick 63 = .ok (.iload 5, 2) := by decide +kernel
theorem dX9_quick_65 : decode cX9_quick 65 = .ok (.invokevirtual 110, 3) := by decide +kernel
theorem dX9_quick_68 : decode cX9_quick 68 = .ok (.goto 5, 3) := by decide +kernel
theorem dX9_quick_71 : decode cX9_quick 71 = .ok (.ldc 109, 2) := by decide +kernel
theorem dX9_quick_73 : decode cX9_quick 73 = .ok (.istore 7, 2) := by decide +kernel
theorem dX9_quick_75 : decode cX9_quick 75 = .ok (.iload 7, 2) := by decide +kernel
theorem dX9_quick_77 : decode cX9_quick 77 = .ok (.iload_n 3, 1) := by decide +kernel
theorem dX9_quick_78 : decode cX9_quick 78 = .ok (.if_icmp .ge 8, 3) := by decide +kernel
theorem dX9_quick_81 : decode cX9_quick 81 = .ok (.iload 5, 2) := by decide +kernel
theorem dX9_quick_83 : decode cX9_quick 83 = .ok (.goto 4, 3) := by decide +kernel
theorem dX9_quick_86 : decode cX9_quick 86 = .ok (.iload_n 2, 1) := by decide +kernel
theorem dX9_quick_87 : decode cX9_quick 87 = .ok (.istore_n 2, 1) := by decide +kernel
theorem dX9_quick_88 : decode cX9_quick 88 = .ok (.iload 7, 2) := by decide +kernel
theorem dX9_quick_90 : decode cX9_quick 90 = .ok (.iload_n 3, 1) := by decide +kernel
theorem dX9_quick_91 : decode cX9_quick 91 = .ok (.if_icmp .ge 8, 3) := by decide +kernel
theorem dX9_quick_94 : decode cX9_quick 94 = .ok (.iload 7, 2) := by decide +kernel
theorem dX9_quick_96 : decode cX9_quick 96 = .ok (.goto 4, 3) := by decide +kernel
theorem dX9_quick_99 : decode cX9_quick 99 = .ok (.iload_n 3, 1) := by decide +kernel
theorem dX9_quick_100 : decode cX9_quick 100 = .ok (.istore_n 3, 1) := by decide +kernel
theorem dX9_quick_101 : decode cX9_quick 101 = .ok (.iinc 4 1, 3) := by decide +kernel
theorem dX9_quick_104 : decode cX9_quick 104 = .ok (.goto (-95), 3) := by decide +kernel
theorem dX9_quick_107 : decode cX9_quick 107 = .ok (.ldc 108, 2) := by decide +kernel
theorem dX9_quick_109 : decode cX9_quick 109 = .ok (.istore 4, 2) := by decide +kernel
theorem dX9_quick_111 : decode cX9_quick 111 = .ok (.ldc 109, 2) := by decide +kernel
theorem dX9_quick_113 : decode cX9_quick 113 = .ok (.istore_n 3, 1) := by decide +kernel
theorem dX9_quick_114 : decode cX9_quick 114 = .ok (.iconst 0, 1) := by decide +kernel
theorem dX9_quick_115 : decode cX9_quick 115 = .ok (.istore 5, 2) := by decide +kernel
theorem dX9_quick_117 : decode cX9_quick 117 = .ok (.iload 5, 2) := by decide +kernel
theorem dX9_quick_119 : decode cX9_quick 119 = .ok (.bipush 49, 2) := by decide +kernel
theorem dX9_quick_121 : decode cX9_quick 121 = .ok (.if_icmp .ge 118, 3) := by decide +kernel
theorem dX9_quick_124 : decode cX9_quick 124 = .ok (.aload_n 0, 1) := by decide +kernel
theorem dX9_quick_125 : decode cX9_quick 125 = .ok (.getfield 13, 3) := by decide +kernel
theorem dX9_quick_128 : decode cX9_quick 128 = .ok (.iload 5, 2) := by decide +kernel
theorem dX9_quick_130 : decode cX9_quick 130 = .ok (.iaload, 1) := by decide +kernel
theorem dX9_quick_131 : decode cX9_quick 131 = .ok (.istore 6, 2) := by decide +kernel
theorem dX9_quick_133 : decode cX9_quick 133 = .ok (.iload 6, 2) := by decide +kernel
theorem dX9_quick_135 : decode cX9_quick 135 = .ok (.invokestatic 55, 3) := by decide +kernel
theorem dX9_quick_138 : decode cX9_quick 138 = .ok (.iconst 2, 1) := by decide +kernel
theorem dX9_quick_139 : decode cX9_quick 139 = .ok (.iload_n 2, 1) := by decide +kernel
theorem dX9_quick_140 : decode cX9_quick 140 = .ok (.invokestatic 55, 3) := by decide +kernel
theorem dX9_quick_143 : decode cX9_quick 143 = .ok (.imul, 1) := by decide +kernel
theorem dX9_quick_144 : decode cX9_quick 144 = .ok (.isub, 1) := by decide +kernel
theorem dX9_quick_145 : decode cX9_quick 145 = .ok (.invokestatic 58, 3) := by decide +kernel
theorem dX9_quick_148 : decode cX9_quick 148 = .ok (.iconst 2, 1) := by decide +kernel
theorem dX9_quick_149 : decode cX9_quick 149 = .ok (.if_icmp .ge 26, 3) := by decide +kernel
theorem dX9_quick_152 : decode cX9_quick 152 = .ok (.iload 6, 2) := by decide +kernel
theorem dX9_quick_154 : decode cX9_quick 154 = .ok (.invokestatic 61, 3) := by decide +kernel
theorem dX9_quick_157 : decode cX9_quick 157 = .ok (.iconst 2, 1) := by decide +kernel
theorem dX9_quick_158 : decode cX9_quick 158 = .ok (.iload_n 2, 1) := by decide +kernel
theorem dX9_quick_159 : decode cX9_quick 159 = .ok (.invokestatic 61, 3) := by decide +kernel
theorem dX9_quick_162 : decode cX9_quick 162 = .ok (.imul, 1) := by decide +kernel
theorem dX9_quick_163 : decode cX9_quick 163 = .ok (.isub, 1) := by decide +kernel
theorem dX9_quick_164 : decode cX9_quick 164 = .ok (.invokestatic 58, 3) := by decide +kernel
theorem dX9_quick_167 : decode cX9_quick 167 = .ok (.iconst 2, 1) := by decide +kernel
theorem dX9_quick_168 : decode cX9_quick 168 = .ok (.if_icmp .ge 7, 3) := by decide +kernel
theorem dX9_quick_171 : decode cX9_quick 171 = .ok (.iconst 1, 1) := by decide +kernel
theorem dX9_quick_172 : decode cX9_quick 172 = .ok (.goto 4, 3) := by decide +kernel
theorem dX9_quick_175 : decode cX9_quick 175 = .ok (.iconst 0, 1) := by decide +kernel
theorem dX9_quick_176 : decode cX9_quick 176 = .ok (.istore 7, 2) := by decide +kernel
theorem dX9_quick_178 : decode cX9_quick 178 = .ok (.iload 7, 2) := by decide +kernel
theorem dX9_quick_180 : decode cX9_quick 180 = .ok (.ifCond .eq 21, 3) := by decide +kernel
theorem dX9_quick_183 : decode cX9_quick 183 = .ok (.aload_n 0, 1) := by decide +kernel
theorem dX9_quick_184 : decode cX9_quick 184 = .ok (.aload_n 0, 1) := by decide +kernel
theorem dX9_quick_185 : decode cX9_quick 185 = .ok (.getfield 7, 3) := by decide +kernel
theorem dX9_quick_188 : decode cX9_quick 188 = .ok (.sipush 192, 3) := by decide +kernel
theorem dX9_quick_191 : decode cX9_quick 191 = .ok (.iaload, 1) := by decide +kernel
theorem dX9_quick_192 : decode cX9_quick 192 = .ok (.iload_n 1, 1) := by decide +kernel
theorem dX9_quick_193 : decode cX9_quick 193 = .ok (.iload 6, 2) := by decide +kernel
theorem dX9_quick_195 : decode cX9_quick 195 = .ok (.invokevirtual 87, 3) := by decide +kernel
theorem dX9_quick_198 : decode cX9_quick 198 = .ok (.goto 5, 3) := by decide +kernel
theorem dX9_quick_201 : decode cX9_quick 201 = .ok (.ldc 109, 2) := by decide +kernel
theorem dX9_quick_203 : decode cX9_quick 203 = .ok (.istore 8, 2) := by decide +kernel
theorem dX9_quick_205 : decode cX9_quick 205 = .ok (.iload 8, 2) := by decide +kernel
theorem dX9_quick_207 : decode cX9_quick 207 = .ok (.iload_n 3, 1) := by decide +kernel
theorem dX9_quick_208 : decode cX9_quick 208 = .ok (.if_icmp .ge 8, 3) := by decide +kernel
theorem dX9_quick_211 : decode cX9_quick 211 = .ok (.iload 6, 2) := by decide +kernel
theorem dX9_quick_213 : decode cX9_quick 213 = .ok (.goto 5, 3) := by decide +kernel
theorem dX9_quick_216 : decode cX9_quick 216 = .ok (.iload 4, 2) := by decide +kernel
theorem dX9_quick_218 : decode cX9_quick 218 = .ok (.istore 4, 2) := by decide +kernel
theorem dX9_quick_220 : decode cX9_quick 220 = .ok (.iload 8, 2) := by decide +kernel
theorem dX9_quick_222 : decode cX9_quick 222 = .ok (.iload_n 3, 1) := by decide +kernel
theorem dX9_quick_223 : decode cX9_quick 223 = .ok (.if_icmp .ge 8, 3) := by decide +kernel
theorem dX9_quick_226 : decode cX9_quick 226 = .ok (.iload 8, 2) := by decide +kernel
theorem dX9_quick_228 : decode cX9_quick 228 = .ok (.goto 4, 3) := by decide +kernel
theorem dX9_quick_231 : decode cX9_quick 231 = .ok (.iload_n 3, 1) := by decide +kernel
theorem dX9_quick_232 : decode cX9_quick 232 = .ok (.istore_n 3, 1) := by decide +kernel
theorem dX9_quick_233 : decode cX9_quick 233 = .ok (.iinc 5 1, 3) := by decide +kernel
theorem dX9_quick_236 : decode cX9_quick 236 = .ok (.goto (-119), 3) := by decide +kernel
theorem dX9_quick_239 : decode cX9_quick 239 = .ok (.iload 4, 2) := by decide +kernel
theorem dX9_quick_241 : decode cX9_quick 241 = .ok (.ireturn, 1) := by decide +kernel
theorem dX9_halved_0 : decode cX9_halved 0 = .ok (.aload_n 0, 1) := by decide +kernel
theorem dX9_halved_1 : decode cX9_halved 1 = .ok (.iconst 0, 1) := by decide +kernel
theorem dX9_halved_2 : decode cX9_halved 2 = .ok (.iload_n 1, 1) := by decide +kernel
theorem dX9_halved_3 : decode cX9_halved 3 = .ok (.iload_n 2, 1) := by decide +kernel
theorem dX9_halved_4 : decode cX9_halved 4 = .ok (.invokevirtual 76, 3) := by decide +kernel
theorem dX9_halved_7 : decode cX9_halved 7 = .ok (.istore 5, 2) := by decide +kernel
theorem dX9_halved_9 : decode cX9_halved 9 = .ok (.iload_n 3, 1) := by decide +kernel
theorem dX9_halved_10 : decode cX9_halved 10 = .ok (.ifCond .ne 11, 3) := by decide +kernel
theorem dX9_halved_13 : decode cX9_halved 13 = .ok (.iload 4, 2) := by decide +kernel
theorem dX9_halved_15 : decode cX9_halved 15 = .ok (.ifCond .ne 6, 3) := by decide +kernel
theorem dX9_halved_18 : decode cX9_halved 18 = .ok (.iload 5, 2) := by decide +kernel
theorem dX9_halved_20 : decode cX9_halved 20 = .ok (.ireturn, 1) := by decide +kernel
theorem dX9_halved_21 : decode cX9_halved 21 = .ok (.iload_n 3, 1) := by decide +kernel
theorem dX9_halved_22 : decode cX9_halved 22 = .ok (.ifCond .eq 47, 3) := by decide +kernel
theorem dX9_halved_25 : decode cX9_halved 25 = .ok (.iload 4, 2) := by decide +kernel
theorem dX9_halved_27 : decode cX9_halved 27 = .ok (.ifCond .eq 42, 3) := by decide +kernel
theorem dX9_halved_30 : decode cX9_halved 30 = .ok (.iload 5, 2) := by decide +kernel
theorem dX9_halved_32 : decode cX9_halved 32 = .ok (.aload_n 0, 1) := by decide +kernel
theorem dX9_halved_33 : decode cX9_halved 33 = .ok (.iconst 0, 1) := by decide +kernel
theorem dX9_halved_34 : decode cX9_halved 34 = .ok (.iload_n 1, 1) := by decide +kernel
theorem dX9_halved_35 : decode cX9_halved 35 = .ok (.iload_n 3, 1) := by decide +kernel
theorem dX9_halved_36 : decode cX9_halved 36 = .ok (.iadd, 1) := by decide +kernel
theorem dX9_halved_37 : decode cX9_halved 37 = .ok (.iload_n 2, 1) := by decide +kernel
theorem dX9_halved_38 : decode cX9_halved 38 = .ok (.invokevirtual 76, 3) := by decide +kernel
theorem dX9_halved_41 : decode cX9_halved 41 = .ok (.iadd, 1) := by decide +kernel
theorem dX9_halved_42 : decode cX9_halved 42 = .ok (.aload_n 0, 1) := by decide +kernel
theorem dX9_halved_43 : decode cX9_halved 43 = .ok (.iconst 0, 1) := by decide +kernel
theorem dX9_halved_44 : decode cX9_halved 44 = .ok (.iload_n 1, 1) := by decide +kernel
theorem dX9_halved_45 : decode cX9_halved 45 = .ok (.iload_n 2, 1) := by decide +kernel
theorem dX9_halved_46 : decode cX9_halved 46 = .ok (.iload 4, 2) := by decide +kernel
theorem dX9_halved_48 : decode cX9_halved 48 = .ok (.iadd, 1) := by decide +kernel
theorem dX9_halved_49 : decode cX9_halved 49 = .ok (.invokevirtual 76, 3) := by decide +kernel
theorem dX9_halved_52 : decode cX9_halved 52 = .ok (.iadd, 1) := by decide +kernel
theorem dX9_halved_53 : decode cX9_halved 53 = .ok (.aload_n 0, 1) := by decide +kernel
theorem dX9_halved_54 : decode cX9_halved 54 = .ok (.iconst 0, 1) := by decide +kernel
theorem dX9_halved_55 : decode cX9_halved 55 = .ok (.iload_n 1, 1) := by decide +kernel
theorem dX9_halved_56 : decode cX9_halved 56 = .ok (.iload_n 3, 1) := by decide +kernel
theorem dX9_halved_57 : decode cX9_halved 57 = .ok (.iadd, 1) := by decide +kernel
theorem dX9_halved_58 : decode cX9_halved 58 = .ok (.iload_n 2, 1) := by decide +kernel
theorem dX9_halved_59 : decode cX9_halved 59 = .ok (.iload 4, 2) := by decide +kernel
theorem dX9_halved_61 : decode cX9_halved 61 = .ok (.iadd, 1) := by decide +kernel
theorem dX9_halved_62 : decode cX9_halved 62 = .ok (.invokevirtual 76, 3) := by decide +kernel
theorem dX9_halved_65 : decode cX9_halved 65 = .ok (.iadd, 1) := by decide +kernel
theorem dX9_halved_66 : decode cX9_halved 66 = .ok (.iconst 4, 1) := by decide +kernel
theorem dX9_halved_67 : decode cX9_halved 67 = .ok (.idiv, 1) := by decide +kernel
theorem dX9_halved_68 : decode cX9_halved 68 = .ok (.ireturn, 1) := by decide +kernel
theorem dX9_halved_69 : decode cX9_halved 69 = .ok (.iload 5, 2) := by decide +kernel
theorem dX9_halved_71 : decode cX9_halved 71 = .ok (.aload_n 0, 1) := by decide +kernel
theorem dX9_halved_72 : decode cX9_halved 72 = .ok (.iconst 0, 1) := by decide +kernel
theorem dX9_halved_73 : decode cX9_halved 73 = .ok (.iload_n 1, 1) := by decide +kernel
theorem dX9_halved_74 : decode cX9_halved 74 = .ok (.iload_n 3, 1) := by decide +kernel
theorem dX9_halved_75 : decode cX9_halved 75 = .ok (.iadd, 1) := by decide +kernel
theorem dX9_halved_76 : decode cX9_halved 76 = .ok (.iload_n 2, 1) := by decide +kernel
theorem dX9_halved_77 : decode cX9_halved 77 = .ok (.iload 4, 2) := by decide +kernel
theorem dX9_halved_79 : decode cX9_halved 79 = .ok (.iadd, 1) := by decide +kernel
theorem dX9_halved_80 : decode cX9_halved 80 = .ok (.invokevirtual 76, 3) := by decide +kernel
theorem dX9_halved_83 : decode cX9_halved 83 = .ok (.iadd, 1) := by decide +kernel
theorem dX9_halved_84 : decode cX9_halved 84 = .ok (.iconst 2, 1) := by decide +kernel
theorem dX9_halved_85 : decode cX9_halved 85 = .ok (.idiv, 1) := by decide +kernel
theorem dX9_halved_86 : decode cX9_halved 86 = .ok (.ireturn, 1) := by decide +kernel
theorem dX9_halvedCost_0 : decode cX9_halvedCost 0 = .ok (.iconst 0, 1) := by decide +kernel
theorem dX9_halvedCost_1 : decode cX9_halvedCost 1 = .ok (.istore 5, 2) := by decide +kernel
theorem dX9_halvedCost_3 : decode cX9_halvedCost 3 = .ok (.iconst 0, 1) := by decide +kernel
theorem dX9_halvedCost_4 : decode cX9_halvedCost 4 = .ok (.istore 6, 2) := by decide +kernel
theorem dX9_halvedCost_6 : decode cX9_halvedCost 6 = .ok (.iload 6, 2) := by decide +kernel
theorem dX9_halvedCost_8 : decode cX9_halvedCost 8 = .ok (.bipush 16, 2) := by decide +kernel
theorem dX9_halvedCost_10 : decode cX9_halvedCost 10 = .ok (.if_icmp .ge 73, 3) := by decide +kernel
theorem dX9_halvedCost_13 : decode cX9_halvedCost 13 = .ok (.iconst 4, 1) := by decide +kernel
theorem dX9_halvedCost_14 : decode cX9_halvedCost 14 = .ok (.iload_n 1, 1) := by decide +kernel
theorem dX9_halvedCost_15 : decode cX9_halvedCost 15 = .ok (.iconst 3, 1) := by decide +kernel
theorem dX9_halvedCost_16 : decode cX9_halvedCost 16 = .ok (.irem, 1) := by decide +kernel
theorem dX9_halvedCost_17 : decode cX9_halvedCost 17 = .ok (.imul, 1) := by decide +kernel
theorem dX9_halvedCost_18 : decode cX9_halvedCost 18 = .ok (.iload 6, 2) := by decide +kernel
theorem dX9_halvedCost_20 : decode cX9_halvedCost 20 = .ok (.iconst 4, 1) := by decide +kernel
theorem dX9_halvedCost_21 : decode cX9_halvedCost 21 = .ok (.irem, 1) := by decide +kernel
theorem dX9_halvedCost_22 : decode cX9_halvedCost 22 = .ok (.iadd, 1) := by decide +kernel
theorem dX9_halvedCost_23 : decode cX9_halvedCost 23 = .ok (.istore 7, 2) := by decide +kernel
theorem dX9_halvedCost_25 : decode cX9_halvedCost 25 = .ok (.iconst 4, 1) := by decide +kernel
theorem dX9_halvedCost_26 : decode cX9_halvedCost 26 = .ok (.iload_n 1, 1) := by decide +kernel
theorem dX9_halvedCost_27 : decode cX9_halvedCost 27 = .ok (.iconst 3, 1) := by decide +kernel
theorem dX9_halvedCost_28 : decode cX9_halvedCost 28 = .ok (.idiv, 1) := by decide +kernel
theorem dX9_halvedCost_29 : decode cX9_halvedCost 29 = .ok (.imul, 1) := by decide +kernel
theorem dX9_halvedCost_30 : decode cX9_halvedCost 30 = .ok (.iload 6, 2) := by decide +kernel
theorem dX9_halvedCost_32 : decode cX9_halvedCost 32 = .ok (.iconst 4, 1) := by decide +kernel
theorem dX9_halvedCost_33 : decode cX9_halvedCost 33 = .ok (.idiv, 1) := by decide +kernel
theorem dX9_halvedCost_34 : decode cX9_halvedCost 34 = .ok (.iadd, 1) := by decide +kernel
theorem dX9_halvedCost_35 : decode cX9_halvedCost 35 = .ok (.istore 8, 2) := by decide +kernel
theorem dX9_halvedCost_37 : decode cX9_halvedCost 37 = .ok (.iload 5, 2) := by decide +kernel
theorem dX9_halvedCost_39 : decode cX9_halvedCost 39 = .ok (.aload_n 0, 1) := by decide +kernel
theorem dX9_halvedCost_40 : decode cX9_halvedCost 40 = .ok (.bipush 96, 2) := by decide +kernel
theorem dX9_halvedCost_42 : decode cX9_halvedCost 42 = .ok (.iload 7, 2) := by decide +kernel
theorem dX9_halvedCost_44 : decode cX9_halvedCost 44 = .ok (.iload 8, 2) := by decide +kernel
theorem dX9_halvedCost_46 : decode cX9_halvedCost 46 = .ok (.invokevirtual 76, 3) := by decide +kernel
theorem dX9_halvedCost_49 : decode cX9_halvedCost 49 = .ok (.aload_n 0, 1) := by decide +kernel
theorem dX9_halvedCost_50 : decode cX9_halvedCost 50 = .ok (.iload 7, 2) := by decide +kernel
theorem dX9_halvedCost_52 : decode cX9_halvedCost 52 = .ok (.iload_n 2, 1) := by decide +kernel
theorem dX9_halvedCost_53 : decode cX9_halvedCost 53 = .ok (.invokestatic 55, 3) := by decide +kernel
theorem dX9_halvedCost_56 : decode cX9_halvedCost 56 = .ok (.iadd, 1) := by decide +kernel
theorem dX9_halvedCost_57 : decode cX9_halvedCost 57 = .ok (.iload 8, 2) := by decide +kernel
theorem dX9_halvedCost_59 : decode cX9_halvedCost 59 = .ok (.iload_n 2, 1) := by decide +kernel
theorem dX9_halvedCost_60 : decode cX9_halvedCost 60 = .ok (.invokestatic 61, 3) := by decide +kernel
theorem dX9_halvedCost_63 : decode cX9_halvedCost 63 = .ok (.iadd, 1) := by decide +kernel
theorem dX9_halvedCost_64 : decode cX9_halvedCost 64 = .ok (.iload_n 3, 1) := by decide +kernel
theorem dX9_halvedCost_65 : decode cX9_halvedCost 65 = .ok (.iload 4, 2) := by decide +kernel
theorem dX9_halvedCost_67 : decode cX9_halvedCost 67 = .ok (.invokevirtual 113, 3) := by decide +kernel
theorem dX9_halvedCost_70 : decode cX9_halvedCost 70 = .ok (.isub, 1) := by decide +kernel
theorem dX9_halvedCost_71 : decode cX9_halvedCost 71 = .ok (.invokestatic 58, 3) := by decide +kernel
theorem dX9_halvedCost_74 : decode cX9_halvedCost 74 = .ok (.iadd, 1) := by decide +kernel
theorem dX9_halvedCost_75 : decode cX9_halvedCost 75 = .ok (.istore 5, 2) := by decide +kernel
theorem dX9_halvedCost_77 : decode cX9_halvedCost 77 = .ok (.iinc 6 1, 3) := by decide +kernel
theorem dX9_halvedCost_80 : decode cX9_halvedCost 80 = .ok (.goto (-74), 3) := by decide +kernel
theorem dX9_halvedCost_83 : decode cX9_halvedCost 83 = .ok (.iload 5, 2) := by decide +kernel
theorem dX9_halvedCost_85 : decode cX9_halvedCost 85 = .ok (.ireturn, 1) := by decide +kernel
theorem dX9_half_0 : decode cX9_half 0 = .ok (.aload_n 0, 1) := by decide +kernel
theorem dX9_half_1 : decode cX9_half 1 = .ok (.iload_n 1, 1) := by decide +kernel
theorem dX9_half_2 : decode cX9_half 2 = .ok (.invokevirtual 116, 3) := by decide +kernel
theorem dX9_half_5 : decode cX9_half 5 = .ok (.istore_n 3, 1) := by decide +kernel
theorem dX9_half_6 : decode cX9_half 6 = .ok (.iconst 0, 1) := by decide +kernel
theorem dX9_half_7 : decode cX9_half 7 = .ok (.istore 4, 2) := by decide +kernel
theorem dX9_half_9 : decode cX9_half 9 = .ok (.ldc 109, 2) := by decide +kernel
theorem dX9_half_11 : decode cX9_half 11 = .ok (.istore 5, 2) := by decide +kernel
theorem dX9_half_13 : decode cX9_half 13 = .ok (.iconst 0, 1) := by decide +kernel
theorem dX9_half_14 : decode cX9_half 14 = .ok (.istore 6, 2) := by decide +kernel
theorem dX9_half_16 : decode cX9_half 16 = .ok (.iload 6, 2) := by decide +kernel
theorem dX9_half_18 : decode cX9_half 18 = .ok (.bipush 9, 2) := by decide +kernel
theorem dX9_half_20 : decode cX9_half 20 = .ok (.if_icmp .ge 61, 3) := by decide +kernel
theorem dX9_half_23 : decode cX9_half 23 = .ok (.aload_n 0, 1) := by decide +kernel
theorem dX9_half_24 : decode cX9_half 24 = .ok (.iload_n 1, 1) := by decide +kernel
theorem dX9_half_25 : decode cX9_half 25 = .ok (.iload_n 3, 1) := by decide +kernel
theorem dX9_half_26 : decode cX9_half 26 = .ok (.iload 6, 2) := by decide +kernel
theorem dX9_half_28 : decode cX9_half 28 = .ok (.iconst 3, 1) := by decide +kernel
theorem dX9_half_29 : decode cX9_half 29 = .ok (.irem, 1) := by decide +kernel
theorem dX9_half_30 : decode cX9_half 30 = .ok (.iconst 1, 1) := by decide +kernel
theorem dX9_half_31 : decode cX9_half 31 = .ok (.isub, 1) := by decide +kernel
theorem dX9_half_32 : decode cX9_half 32 = .ok (.iload 6, 2) := by decide +kernel
theorem dX9_half_34 : decode cX9_half 34 = .ok (.iconst 3, 1) := by decide +kernel
theorem dX9_half_35 : decode cX9_half 35 = .ok (.idiv, 1) := by decide +kernel
theorem dX9_half_36 : decode cX9_half 36 = .ok (.iconst 1, 1) := by decide +kernel
theorem dX9_half_37 : decode cX9_half 37 = .ok (.isub, 1) := by decide +kernel
theorem dX9_half_38 : decode cX9_half 38 = .ok (.invokevirtual 119, 3) := by decide +kernel
theorem dX9_half_41 : decode cX9_half 41 = .ok (.istore 7, 2) := by decide +kernel
theorem dX9_half_43 : decode cX9_half 43 = .ok (.iload 7, 2) := by decide +kernel
theorem dX9_half_45 : decode cX9_half 45 = .ok (.iload 5, 2) := by decide +kernel
theorem dX9_half_47 : decode cX9_half 47 = .ok (.if_icmp .ge 8, 3) := by decide +kernel
theorem dX9_half_50 : decode cX9_half 50 = .ok (.iload 6, 2) := by decide +kernel
theorem dX9_half_52 : decode cX9_half 52 = .ok (.goto 5, 3) := by decide +kernel
theorem dX9_half_55 : decode cX9_half 55 = .ok (.iload 4, 2) := by decide +kernel
theorem dX9_half_57 : decode cX9_half 57 = .ok (.istore 4, 2) := by decide +kernel
theorem dX9_half_59 : decode cX9_half 59 = .ok (.iload 7, 2) := by decide +kernel
theorem dX9_half_61 : decode cX9_half 61 = .ok (.iload 5, 2) := by decide +kernel
theorem dX9_half_63 : decode cX9_half 63 = .ok (.if_icmp .ge 8, 3) := by decide +kernel
theorem dX9_half_66 : decode cX9_half 66 = .ok (.iload 7, 2) := by decide +kernel
theorem dX9_half_68 : decode cX9_half 68 = .ok (.goto 5, 3) := by decide +kernel
theorem dX9_half_71 : decode cX9_half 71 = .ok (.iload 5, 2) := by decide +kernel
theorem dX9_half_73 : decode cX9_half 73 = .ok (.istore 5, 2) := by decide +kernel
theorem dX9_half_75 : decode cX9_half 75 = .ok (.iinc 6 1, 3) := by decide +kernel
theorem dX9_half_78 : decode cX9_half 78 = .ok (.goto (-62), 3) := by decide +kernel
theorem dX9_half_81 : decode cX9_half 81 = .ok (.iload_n 2, 1) := by decide +kernel
theorem dX9_half_82 : decode cX9_half 82 = .ok (.ifCond .eq 8, 3) := by decide +kernel
theorem dX9_half_85 : decode cX9_half 85 = .ok (.iload 4, 2) := by decide +kernel
theorem dX9_half_87 : decode cX9_half 87 = .ok (.goto 5, 3) := by decide +kernel
theorem dX9_half_90 : decode cX9_half 90 = .ok (.iload 5, 2) := by decide +kernel
theorem dX9_half_92 : decode cX9_half 92 = .ok (.ireturn, 1) := by decide +kernel
theorem dX9_lays_0 : decode cX9_lays 0 = .ok (.iconst 0, 1) := by decide +kernel
theorem dX9_lays_1 : decode cX9_lays 1 = .ok (.istore_n 1, 1) := by decide +kernel
theorem dX9_lays_2 : decode cX9_lays 2 = .ok (.iload_n 1, 1) := by decide +kernel
theorem dX9_lays_3 : decode cX9_lays 3 = .ok (.bipush 6, 2) := by decide +kernel
theorem dX9_lays_5 : decode cX9_lays 5 = .ok (.if_icmp .ge 20, 3) := by decide +kernel
theorem dX9_lays_8 : decode cX9_lays 8 = .ok (.aload_n 0, 1) := by decide +kernel
theorem dX9_lays_9 : decode cX9_lays 9 = .ok (.getfield 16, 3) := by decide +kernel
theorem dX9_lays_12 : decode cX9_lays 12 = .ok (.iload_n 1, 1) := by decide +kernel
theorem dX9_lays_13 : decode cX9_lays 13 = .ok (.aload_n 0, 1) := by decide +kernel
theorem dX9_lays_14 : decode cX9_lays 14 = .ok (.iload_n 1, 1) := by decide +kernel
theorem dX9_lays_15 : decode cX9_lays 15 = .ok (.invokevirtual 116, 3) := by decide +kernel
theorem dX9_lays_18 : decode cX9_lays 18 = .ok (.iastore, 1) := by decide +kernel
theorem dX9_lays_19 : decode cX9_lays 19 = .ok (.iinc 1 1, 3) := by decide +kernel
theorem dX9_lays_22 : decode cX9_lays 22 = .ok (.goto (-20), 3) := by decide +kernel
theorem dX9_lays_25 : decode cX9_lays 25 = .ok (.return_, 1) := by decide +kernel
theorem dX9_part_0 : decode cX9_part 0 = .ok (.iload_n 2, 1) := by decide +kernel
theorem dX9_part_1 : decode cX9_part 1 = .ok (.ifCond .eq 15, 3) := by decide +kernel
theorem dX9_part_4 : decode cX9_part 4 = .ok (.aload_n 0, 1) := by decide +kernel
theorem dX9_part_5 : decode cX9_part 5 = .ok (.getfield 16, 3) := by decide +kernel
theorem dX9_part_8 : decode cX9_part 8 = .ok (.iload_n 1, 1) := by decide +kernel
theorem dX9_part_9 : decode cX9_part 9 = .ok (.iaload, 1) := by decide +kernel
theorem dX9_part_10 : decode cX9_part 10 = .ok (.invokestatic 55, 3) := by decide +kernel
theorem dX9_part_13 : decode cX9_part 13 = .ok (.goto 12, 3) := by decide +kernel
theorem dX9_part_16 : decode cX9_part 16 = .ok (.aload_n 0, 1) := by decide +kernel
theorem dX9_part_17 : decode cX9_part 17 = .ok (.getfield 16, 3) := by decide +kernel
theorem dX9_part_20 : decode cX9_part 20 = .ok (.iload_n 1, 1) := by decide +kernel
theorem dX9_part_21 : decode cX9_part 21 = .ok (.iaload, 1) := by decide +kernel
theorem dX9_part_22 : decode cX9_part 22 = .ok (.invokestatic 61, 3) := by decide +kernel
theorem dX9_part_25 : decode cX9_part 25 = .ok (.ireturn, 1) := by decide +kernel
theorem dX9_foretold_0 : decode cX9_foretold 0 = .ok (.iload_n 1, 1) := by decide +kernel
theorem dX9_foretold_1 : decode cX9_foretold 1 = .ok (.iconst 3, 1) := by decide +kernel
theorem dX9_foretold_2 : decode cX9_foretold 2 = .ok (.irem, 1) := by decide +kernel
theorem dX9_foretold_3 : decode cX9_foretold 3 = .ok (.ifCond .le 7, 3) := by decide +kernel
theorem dX9_foretold_6 : decode cX9_foretold 6 = .ok (.iconst 1, 1) := by decide +kernel
theorem dX9_foretold_7 : decode cX9_foretold 7 = .ok (.goto 4, 3) := by decide +kernel
theorem dX9_foretold_10 : decode cX9_foretold 10 = .ok (.iconst 0, 1) := by decide +kernel
theorem dX9_foretold_11 : decode cX9_foretold 11 = .ok (.istore_n 3, 1) := by decide +kernel
theorem dX9_foretold_12 : decode cX9_foretold 12 = .ok (.iload_n 1, 1) := by decide +kernel
theorem dX9_foretold_13 : decode cX9_foretold 13 = .ok (.iconst 2, 1) := by decide +kernel
theorem dX9_foretold_14 : decode cX9_foretold 14 = .ok (.if_icmp .le 7, 3) := by decide +kernel
theorem dX9_foretold_17 : decode cX9_foretold 17 = .ok (.iconst 1, 1) := by decide +kernel
theorem dX9_foretold_18 : decode cX9_foretold 18 = .ok (.goto 4, 3) := by decide +kernel
theorem dX9_foretold_21 : decode cX9_foretold 21 = .ok (.iconst 0, 1) := by decide +kernel
theorem dX9_foretold_22 : decode cX9_foretold 22 = .ok (.istore 4, 2) := by decide +kernel
theorem dX9_foretold_24 : decode cX9_foretold 24 = .ok (.iload 4, 2) := by decide +kernel
theorem dX9_foretold_26 : decode cX9_foretold 26 = .ok (.ifCond .eq 14, 3) := by decide +kernel
theorem dX9_foretold_29 : decode cX9_foretold 29 = .ok (.iload_n 1, 1) := by decide +kernel
theorem dX9_foretold_30 : decode cX9_foretold 30 = .ok (.iconst 3, 1) := by decide +kernel
theorem dX9_foretold_31 : decode cX9_foretold 31 = .ok (.irem, 1) := by decide +kernel
theorem dX9_foretold_32 : decode cX9_foretold 32 = .ok (.iconst 2, 1) := by decide +kernel
theorem dX9_foretold_33 : decode cX9_foretold 33 = .ok (.if_icmp .ge 7, 3) := by decide +kernel
theorem dX9_foretold_36 : decode cX9_foretold 36 = .ok (.iconst 1, 1) := by decide +kernel
theorem dX9_foretold_37 : decode cX9_foretold 37 = .ok (.goto 4, 3) := by decide +kernel
theorem dX9_foretold_40 : decode cX9_foretold 40 = .ok (.iconst 0, 1) := by decide +kernel
theorem dX9_foretold_41 : decode cX9_foretold 41 = .ok (.istore 5, 2) := by decide +kernel
theorem dX9_foretold_43 : decode cX9_foretold 43 = .ok (.iload_n 3, 1) := by decide +kernel
theorem dX9_foretold_44 : decode cX9_foretold 44 = .ok (.ifCond .eq 14, 3) := by decide +kernel
theorem dX9_foretold_47 : decode cX9_foretold 47 = .ok (.aload_n 0, 1) := by decide +kernel
theorem dX9_foretold_48 : decode cX9_foretold 48 = .ok (.iload_n 1, 1) := by decide +kernel
theorem dX9_foretold_49 : decode cX9_foretold 49 = .ok (.iconst 1, 1) := by decide +kernel
theorem dX9_foretold_50 : decode cX9_foretold 50 = .ok (.isub, 1) := by decide +kernel
theorem dX9_foretold_51 : decode cX9_foretold 51 = .ok (.iload_n 2, 1) := by decide +kernel
theorem dX9_foretold_52 : decode cX9_foretold 52 = .ok (.invokevirtual 122, 3) := by decide +kernel
theorem dX9_foretold_55 : decode cX9_foretold 55 = .ok (.goto 5, 3) := by decide +kernel
theorem dX9_foretold_58 : decode cX9_foretold 58 = .ok (.bipush 9, 2) := by decide +kernel
theorem dX9_foretold_60 : decode cX9_foretold 60 = .ok (.istore 6, 2) := by decide +kernel
theorem dX9_foretold_62 : decode cX9_foretold 62 = .ok (.iload 4, 2) := by decide +kernel
theorem dX9_foretold_64 : decode cX9_foretold 64 = .ok (.ifCond .eq 14, 3) := by decide +kernel
theorem dX9_foretold_67 : decode cX9_foretold 67 = .ok (.aload_n 0, 1) := by decide +kernel
theorem dX9_foretold_68 : decode cX9_foretold 68 = .ok (.iload_n 1, 1) := by decide +kernel
theorem dX9_foretold_69 : decode cX9_foretold 69 = .ok (.iconst 3, 1) := by decide +kernel
theorem dX9_foretold_70 : decode cX9_foretold 70 = .ok (.isub, 1) := by decide +kernel
theorem dX9_foretold_71 : decode cX9_foretold 71 = .ok (.iload_n 2, 1) := by decide +kernel
theorem dX9_foretold_72 : decode cX9_foretold 72 = .ok (.invokevirtual 122, 3) := by decide +kernel
theorem dX9_foretold_75 : decode cX9_foretold 75 = .ok (.goto 5, 3) := by decide +kernel
theorem dX9_foretold_78 : decode cX9_foretold 78 = .ok (.bipush 9, 2) := by decide +kernel
theorem dX9_foretold_80 : decode cX9_foretold 80 = .ok (.istore 7, 2) := by decide +kernel
theorem dX9_foretold_82 : decode cX9_foretold 82 = .ok (.iload 5, 2) := by decide +kernel
theorem dX9_foretold_84 : decode cX9_foretold 84 = .ok (.ifCond .eq 14, 3) := by decide +kernel
theorem dX9_foretold_87 : decode cX9_foretold 87 = .ok (.aload_n 0, 1) := by decide +kernel
theorem dX9_foretold_88 : decode cX9_foretold 88 = .ok (.iload_n 1, 1) := by decide +kernel
theorem dX9_foretold_89 : decode cX9_foretold 89 = .ok (.iconst 2, 1) := by decide +kernel
theorem dX9_foretold_90 : decode cX9_foretold 90 = .ok (.isub, 1) := by decide +kernel
theorem dX9_foretold_91 : decode cX9_foretold 91 = .ok (.iload_n 2, 1) := by decide +kernel
theorem dX9_foretold_92 : decode cX9_foretold 92 = .ok (.invokevirtual 122, 3) := by decide +kernel
theorem dX9_foretold_95 : decode cX9_foretold 95 = .ok (.goto 5, 3) := by decide +kernel
theorem dX9_foretold_98 : decode cX9_foretold 98 = .ok (.bipush 9, 2) := by decide +kernel
theorem dX9_foretold_100 : decode cX9_foretold 100 = .ok (.istore 8, 2) := by decide +kernel
theorem dX9_foretold_102 : decode cX9_foretold 102 = .ok (.iload_n 3, 1) := by decide +kernel
theorem dX9_foretold_103 : decode cX9_foretold 103 = .ok (.ifCond .eq 7, 3) := by decide +kernel
theorem dX9_foretold_106 : decode cX9_foretold 106 = .ok (.iconst 1, 1) := by decide +kernel
theorem dX9_foretold_107 : decode cX9_foretold 107 = .ok (.goto 4, 3) := by decide +kernel
theorem dX9_foretold_110 : decode cX9_foretold 110 = .ok (.iconst 0, 1) := by decide +kernel
theorem dX9_foretold_111 : decode cX9_foretold 111 = .ok (.iload 4, 2) := by decide +kernel
theorem dX9_foretold_113 : decode cX9_foretold 113 = .ok (.ifCond .eq 7, 3) := by decide +kernel
theorem dX9_foretold_116 : decode cX9_foretold 116 = .ok (.iconst 1, 1) := by decide +kernel
theorem dX9_foretold_117 : decode cX9_foretold 117 = .ok (.goto 4, 3) := by decide +kernel
theorem dX9_foretold_120 : decode cX9_foretold 120 = .ok (.iconst 0, 1) := by decide +kernel
theorem dX9_foretold_121 : decode cX9_foretold 121 = .ok (.iadd, 1) := by decide +kernel
theorem dX9_foretold_122 : decode cX9_foretold 122 = .ok (.iload 5, 2) := by decide +kernel
theorem dX9_foretold_124 : decode cX9_foretold 124 = .ok (.ifCond .eq 7, 3) := by decide +kernel
theorem dX9_foretold_127 : decode cX9_foretold 127 = .ok (.iconst 1, 1) := by decide +kernel
theorem dX9_foretold_128 : decode cX9_foretold 128 = .ok (.goto 4, 3) := by decide +kernel
theorem dX9_foretold_131 : decode cX9_foretold 131 = .ok (.iconst 0, 1) := by decide +kernel
theorem dX9_foretold_132 : decode cX9_foretold 132 = .ok (.iadd, 1) := by decide +kernel
theorem dX9_foretold_133 : decode cX9_foretold 133 = .ok (.istore 9, 2) := by decide +kernel
theorem dX9_foretold_135 : decode cX9_foretold 135 = .ok (.iload 6, 2) := by decide +kernel
theorem dX9_foretold_137 : decode cX9_foretold 137 = .ok (.iload 7, 2) := by decide +kernel
theorem dX9_foretold_139 : decode cX9_foretold 139 = .ok (.if_icmp .ge 20, 3) := by decide +kernel
theorem dX9_foretold_142 : decode cX9_foretold 142 = .ok (.iload 6, 2) := by decide +kernel
theorem dX9_foretold_144 : decode cX9_foretold 144 = .ok (.iload 8, 2) := by decide +kernel
theorem dX9_foretold_146 : decode cX9_foretold 146 = .ok (.if_icmp .ge 8, 3) := by decide +kernel
theorem dX9_foretold_149 : decode cX9_foretold 149 = .ok (.iload 6, 2) := by decide +kernel
theorem dX9_foretold_151 : decode cX9_foretold 151 = .ok (.goto 22, 3) := by decide +kernel
theorem dX9_foretold_154 : decode cX9_foretold 154 = .ok (.iload 8, 2) := by decide +kernel
theorem dX9_foretold_156 : decode cX9_foretold 156 = .ok (.goto 17, 3) := by decide +kernel
theorem dX9_foretold_159 : decode cX9_foretold 159 = .ok (.iload 7, 2) := by decide +kernel
theorem dX9_foretold_161 : decode cX9_foretold 161 = .ok (.iload 8, 2) := by decide +kernel
theorem dX9_foretold_163 : decode cX9_foretold 163 = .ok (.if_icmp .ge 8, 3) := by decide +kernel
theorem dX9_foretold_166 : decode cX9_foretold 166 = .ok (.iload 7, 2) := by decide +kernel
theorem dX9_foretold_168 : decode cX9_foretold 168 = .ok (.goto 5, 3) := by decide +kernel
theorem dX9_foretold_171 : decode cX9_foretold 171 = .ok (.iload 8, 2) := by decide +kernel
theorem dX9_foretold_173 : decode cX9_foretold 173 = .ok (.istore 10, 2) := by decide +kernel
theorem dX9_foretold_175 : decode cX9_foretold 175 = .ok (.iload 9, 2) := by decide +kernel
theorem dX9_foretold_177 : decode cX9_foretold 177 = .ok (.iconst 3, 1) := by decide +kernel
theorem dX9_foretold_178 : decode cX9_foretold 178 = .ok (.if_icmp .ge 15, 3) := by decide +kernel
theorem dX9_foretold_181 : decode cX9_foretold 181 = .ok (.iload 9, 2) := by decide +kernel
theorem dX9_foretold_183 : decode cX9_foretold 183 = .ok (.ifCond .ne 7, 3) := by decide +kernel
theorem dX9_foretold_186 : decode cX9_foretold 186 = .ok (.iconst 0, 1) := by decide +kernel
theorem dX9_foretold_187 : decode cX9_foretold 187 = .ok (.goto 5, 3) := by decide +kernel
theorem dX9_foretold_190 : decode cX9_foretold 190 = .ok (.iload 10, 2) := by decide +kernel
theorem dX9_foretold_192 : decode cX9_foretold 192 = .ok (.ireturn, 1) := by decide +kernel
theorem dX9_foretold_193 : decode cX9_foretold 193 = .ok (.iload 6, 2) := by decide +kernel
theorem dX9_foretold_195 : decode cX9_foretold 195 = .ok (.iload 7, 2) := by decide +kernel
theorem dX9_foretold_197 : decode cX9_foretold 197 = .ok (.if_icmp .le 20, 3) := by decide +kernel
theorem dX9_foretold_200 : decode cX9_foretold 200 = .ok (.iload 6, 2) := by decide +kernel
theorem dX9_foretold_202 : decode cX9_foretold 202 = .ok (.iload 8, 2) := by decide +kernel
theorem dX9_foretold_204 : decode cX9_foretold 204 = .ok (.if_icmp .le 8, 3) := by decide +kernel
theorem dX9_foretold_207 : decode cX9_foretold 207 = .ok (.iload 6, 2) := by decide +kernel
theorem dX9_foretold_209 : decode cX9_foretold 209 = .ok (.goto 22, 3) := by decide +kernel
theorem dX9_foretold_212 : decode cX9_foretold 212 = .ok (.iload 8, 2) := by decide +kernel
theorem dX9_foretold_214 : decode cX9_foretold 214 = .ok (.goto 17, 3) := by decide +kernel
theorem dX9_foretold_217 : decode cX9_foretold 217 = .ok (.iload 7, 2) := by decide +kernel
theorem dX9_foretold_219 : decode cX9_foretold 219 = .ok (.iload 8, 2) := by decide +kernel
theorem dX9_foretold_221 : decode cX9_foretold 221 = .ok (.if_icmp .le 8, 3) := by decide +kernel
theorem dX9_foretold_224 : decode cX9_foretold 224 = .ok (.iload 7, 2) := by decide +kernel
theorem dX9_foretold_226 : decode cX9_foretold 226 = .ok (.goto 5, 3) := by decide +kernel
theorem dX9_foretold_229 : decode cX9_foretold 229 = .ok (.iload 8, 2) := by decide +kernel
theorem dX9_foretold_231 : decode cX9_foretold 231 = .ok (.istore 11, 2) := by decide +kernel
theorem dX9_foretold_233 : decode cX9_foretold 233 = .ok (.iload 6, 2) := by decide +kernel
theorem dX9_foretold_235 : decode cX9_foretold 235 = .ok (.iload 7, 2) := by decide +kernel
theorem dX9_foretold_237 : decode cX9_foretold 237 = .ok (.iadd, 1) := by decide +kernel
theorem dX9_foretold_238 : decode cX9_foretold 238 = .ok (.iload 8, 2) := by decide +kernel
theorem dX9_foretold_240 : decode cX9_foretold 240 = .ok (.iadd, 1) := by decide +kernel
theorem dX9_foretold_241 : decode cX9_foretold 241 = .ok (.iload 10, 2) := by decide +kernel
theorem dX9_foretold_243 : decode cX9_foretold 243 = .ok (.isub, 1) := by decide +kernel
theorem dX9_foretold_244 : decode cX9_foretold 244 = .ok (.iload 11, 2) := by decide +kernel
theorem dX9_foretold_246 : decode cX9_foretold 246 = .ok (.isub, 1) := by decide +kernel
theorem dX9_foretold_247 : decode cX9_foretold 247 = .ok (.ireturn, 1) := by decide +kernel
theorem dX9_bitsOf_0 : decode cX9_bitsOf 0 = .ok (.iconst 1, 1) := by decide +kernel
theorem dX9_bitsOf_1 : decode cX9_bitsOf 1 = .ok (.istore_n 1, 1) := by decide +kernel
theorem dX9_bitsOf_2 : decode cX9_bitsOf 2 = .ok (.iload_n 0, 1) := by decide +kernel
theorem dX9_bitsOf_3 : decode cX9_bitsOf 3 = .ok (.invokestatic 58, 3) := by decide +kernel
theorem dX9_bitsOf_6 : decode cX9_bitsOf 6 = .ok (.istore_n 2, 1) := by decide +kernel
theorem dX9_bitsOf_7 : decode cX9_bitsOf 7 = .ok (.iload_n 2, 1) := by decide +kernel
theorem dX9_bitsOf_8 : decode cX9_bitsOf 8 = .ok (.ifCond .le 13, 3) := by decide +kernel
theorem dX9_bitsOf_11 : decode cX9_bitsOf 11 = .ok (.iinc 1 2, 3) := by decide +kernel
theorem dX9_bitsOf_14 : decode cX9_bitsOf 14 = .ok (.iload_n 2, 1) := by decide +kernel
theorem dX9_bitsOf_15 : decode cX9_bitsOf 15 = .ok (.iconst 2, 1) := by decide +kernel
theorem dX9_bitsOf_16 : decode cX9_bitsOf 16 = .ok (.idiv, 1) := by decide +kernel
theorem dX9_bitsOf_17 : decode cX9_bitsOf 17 = .ok (.istore_n 2, 1) := by decide +kernel
theorem dX9_bitsOf_18 : decode cX9_bitsOf 18 = .ok (.goto (-11), 3) := by decide +kernel
theorem dX9_bitsOf_21 : decode cX9_bitsOf 21 = .ok (.iload_n 1, 1) := by decide +kernel
theorem dX9_bitsOf_22 : decode cX9_bitsOf 22 = .ok (.ireturn, 1) := by decide +kernel
theorem dX9_longField_0 : decode cX9_longField 0 = .ok (.aload_n 0, 1) := by decide +kernel
theorem dX9_longField_1 : decode cX9_longField 1 = .ok (.invokevirtual 126, 3) := by decide +kernel
theorem dX9_longField_4 : decode cX9_longField 4 = .ok (.iconst 0, 1) := by decide +kernel
theorem dX9_longField_5 : decode cX9_longField 5 = .ok (.istore_n 1, 1) := by decide +kernel
theorem dX9_longField_6 : decode cX9_longField 6 = .ok (.iconst 0, 1) := by decide +kernel
theorem dX9_longField_7 : decode cX9_longField 7 = .ok (.istore_n 2, 1) := by decide +kernel
theorem dX9_longField_8 : decode cX9_longField 8 = .ok (.iload_n 2, 1) := by decide +kernel
theorem dX9_longField_9 : decode cX9_longField 9 = .ok (.bipush 6, 2) := by decide +kernel
theorem dX9_longField_11 : decode cX9_longField 11 = .ok (.if_icmp .ge 45, 3) := by decide +kernel
theorem dX9_longField_14 : decode cX9_longField 14 = .ok (.iload_n 1, 1) := by decide +kernel
theorem dX9_longField_15 : decode cX9_longField 15 = .ok (.aload_n 0, 1) := by decide +kernel
theorem dX9_longField_16 : decode cX9_longField 16 = .ok (.iload_n 2, 1) := by decide +kernel
theorem dX9_longField_17 : decode cX9_longField 17 = .ok (.iconst 1, 1) := by decide +kernel
theorem dX9_longField_18 : decode cX9_longField 18 = .ok (.invokevirtual 122, 3) := by decide +kernel
theorem dX9_longField_21 : decode cX9_longField 21 = .ok (.aload_n 0, 1) := by decide +kernel
theorem dX9_longField_22 : decode cX9_longField 22 = .ok (.iload_n 2, 1) := by decide +kernel
theorem dX9_longField_23 : decode cX9_longField 23 = .ok (.iconst 1, 1) := by decide +kernel
theorem dX9_longField_24 : decode cX9_longField 24 = .ok (.invokevirtual 129, 3) := by decide +kernel
theorem dX9_longField_27 : decode cX9_longField 27 = .ok (.isub, 1) := by decide +kernel
theorem dX9_longField_28 : decode cX9_longField 28 = .ok (.invokestatic 132, 3) := by decide +kernel
theorem dX9_longField_31 : decode cX9_longField 31 = .ok (.aload_n 0, 1) := by decide +kernel
theorem dX9_longField_32 : decode cX9_longField 32 = .ok (.iload_n 2, 1) := by decide +kernel
theorem dX9_longField_33 : decode cX9_longField 33 = .ok (.iconst 0, 1) := by decide +kernel
theorem dX9_longField_34 : decode cX9_longField 34 = .ok (.invokevirtual 122, 3) := by decide +kernel
theorem dX9_longField_37 : decode cX9_longField 37 = .ok (.aload_n 0, 1) := by decide +kernel
theorem dX9_longField_38 : decode cX9_longField 38 = .ok (.iload_n 2, 1) := by decide +kernel
theorem dX9_longField_39 : decode cX9_longField 39 = .ok (.iconst 0, 1) := by decide +kernel
theorem dX9_longField_40 : decode cX9_longField 40 = .ok (.invokevirtual 129, 3) := by decide +kernel
theorem dX9_longField_43 : decode cX9_longField 43 = .ok (.isub, 1) := by decide +kernel
theorem dX9_longField_44 : decode cX9_longField 44 = .ok (.invokestatic 132, 3) := by decide +kernel
theorem dX9_longField_47 : decode cX9_longField 47 = .ok (.iadd, 1) := by decide +kernel
theorem dX9_longField_48 : decode cX9_longField 48 = .ok (.iadd, 1) := by decide +kernel
theorem dX9_longField_49 : decode cX9_longField 49 = .ok (.istore_n 1, 1) := by decide +kernel
theorem dX9_longField_50 : decode cX9_longField 50 = .ok (.iinc 2 1, 3) := by decide +kernel
theorem dX9_longField_53 : decode cX9_longField 53 = .ok (.goto (-45), 3) := by decide +kernel
theorem dX9_longField_56 : decode cX9_longField 56 = .ok (.iload_n 1, 1) := by decide +kernel
theorem dX9_longField_57 : decode cX9_longField 57 = .ok (.ireturn, 1) := by decide +kernel
theorem dX9_rebuiltAt_0 : decode cX9_rebuiltAt 0 = .ok (.aload_n 0, 1) := by decide +kernel
theorem dX9_rebuiltAt_1 : decode cX9_rebuiltAt 1 = .ok (.getfield 16, 3) := by decide +kernel
theorem dX9_rebuiltAt_4 : decode cX9_rebuiltAt 4 = .ok (.iload_n 1, 1) := by decide +kernel
theorem dX9_rebuiltAt_5 : decode cX9_rebuiltAt 5 = .ok (.iconst 4, 1) := by decide +kernel
theorem dX9_rebuiltAt_6 : decode cX9_rebuiltAt 6 = .ok (.idiv, 1) := by decide +kernel
theorem dX9_rebuiltAt_7 : decode cX9_rebuiltAt 7 = .ok (.iconst 3, 1) := by decide +kernel
theorem dX9_rebuiltAt_8 : decode cX9_rebuiltAt 8 = .ok (.iload_n 2, 1) := by decide +kernel
theorem dX9_rebuiltAt_9 : decode cX9_rebuiltAt 9 = .ok (.iconst 4, 1) := by decide +kernel
theorem dX9_rebuiltAt_10 : decode cX9_rebuiltAt 10 = .ok (.idiv, 1) := by decide +kernel
theorem dX9_rebuiltAt_11 : decode cX9_rebuiltAt 11 = .ok (.imul, 1) := by decide +kernel
theorem dX9_rebuiltAt_12 : decode cX9_rebuiltAt 12 = .ok (.iadd, 1) := by decide +kernel
theorem dX9_rebuiltAt_13 : decode cX9_rebuiltAt 13 = .ok (.iaload, 1) := by decide +kernel
theorem dX9_rebuiltAt_14 : decode cX9_rebuiltAt 14 = .ok (.istore_n 3, 1) := by decide +kernel
theorem dX9_rebuiltAt_15 : decode cX9_rebuiltAt 15 = .ok (.aload_n 0, 1) := by decide +kernel
theorem dX9_rebuiltAt_16 : decode cX9_rebuiltAt 16 = .ok (.iconst 0, 1) := by decide +kernel
theorem dX9_rebuiltAt_17 : decode cX9_rebuiltAt 17 = .ok (.iload_n 1, 1) := by decide +kernel
theorem dX9_rebuiltAt_18 : decode cX9_rebuiltAt 18 = .ok (.iload_n 3, 1) := by decide +kernel
theorem dX9_rebuiltAt_19 : decode cX9_rebuiltAt 19 = .ok (.invokestatic 55, 3) := by decide +kernel
theorem dX9_rebuiltAt_22 : decode cX9_rebuiltAt 22 = .ok (.iadd, 1) := by decide +kernel
theorem dX9_rebuiltAt_23 : decode cX9_rebuiltAt 23 = .ok (.iload_n 2, 1) := by decide +kernel
theorem dX9_rebuiltAt_24 : decode cX9_rebuiltAt 24 = .ok (.iload_n 3, 1) := by decide +kernel
theorem dX9_rebuiltAt_25 : decode cX9_rebuiltAt 25 = .ok (.invokestatic 61, 3) := by decide +kernel
theorem dX9_rebuiltAt_28 : decode cX9_rebuiltAt 28 = .ok (.iadd, 1) := by decide +kernel
theorem dX9_rebuiltAt_29 : decode cX9_rebuiltAt 29 = .ok (.invokevirtual 76, 3) := by decide +kernel
theorem dX9_rebuiltAt_32 : decode cX9_rebuiltAt 32 = .ok (.ireturn, 1) := by decide +kernel
theorem dX9_lacks_0 : decode cX9_lacks 0 = .ok (.aload_n 0, 1) := by decide +kernel
theorem dX9_lacks_1 : decode cX9_lacks 1 = .ok (.invokevirtual 126, 3) := by decide +kernel
theorem dX9_lacks_4 : decode cX9_lacks 4 = .ok (.iconst 0, 1) := by decide +kernel
theorem dX9_lacks_5 : decode cX9_lacks 5 = .ok (.istore_n 1, 1) := by decide +kernel
theorem dX9_lacks_6 : decode cX9_lacks 6 = .ok (.iconst 0, 1) := by decide +kernel
theorem dX9_lacks_7 : decode cX9_lacks 7 = .ok (.istore_n 2, 1) := by decide +kernel
theorem dX9_lacks_8 : decode cX9_lacks 8 = .ok (.iload_n 2, 1) := by decide +kernel
theorem dX9_lacks_9 : decode cX9_lacks 9 = .ok (.bipush 96, 2) := by decide +kernel
theorem dX9_lacks_11 : decode cX9_lacks 11 = .ok (.if_icmp .ge 41, 3) := by decide +kernel
theorem dX9_lacks_14 : decode cX9_lacks 14 = .ok (.iload_n 1, 1) := by decide +kernel
theorem dX9_lacks_15 : decode cX9_lacks 15 = .ok (.aload_n 0, 1) := by decide +kernel
theorem dX9_lacks_16 : decode cX9_lacks 16 = .ok (.iload_n 2, 1) := by decide +kernel
theorem dX9_lacks_17 : decode cX9_lacks 17 = .ok (.bipush 12, 2) := by decide +kernel
theorem dX9_lacks_19 : decode cX9_lacks 19 = .ok (.irem, 1) := by decide +kernel
theorem dX9_lacks_20 : decode cX9_lacks 20 = .ok (.iload_n 2, 1) := by decide +kernel
theorem dX9_lacks_21 : decode cX9_lacks 21 = .ok (.bipush 12, 2) := by decide +kernel
theorem dX9_lacks_23 : decode cX9_lacks 23 = .ok (.idiv, 1) := by decide +kernel
theorem dX9_lacks_24 : decode cX9_lacks 24 = .ok (.invokevirtual 135, 3) := by decide +kernel
theorem dX9_lacks_27 : decode cX9_lacks 27 = .ok (.aload_n 0, 1) := by decide +kernel
theorem dX9_lacks_28 : decode cX9_lacks 28 = .ok (.getfield 7, 3) := by decide +kernel
theorem dX9_lacks_31 : decode cX9_lacks 31 = .ok (.bipush 96, 2) := by decide +kernel
theorem dX9_lacks_33 : decode cX9_lacks 33 = .ok (.iload_n 2, 1) := by decide +kernel
theorem dX9_lacks_34 : decode cX9_lacks 34 = .ok (.iadd, 1) := by decide +kernel
theorem dX9_lacks_35 : decode cX9_lacks 35 = .ok (.iaload, 1) := by decide +kernel
theorem dX9_lacks_36 : decode cX9_lacks 36 = .ok (.if_icmp .ne 7, 3) := by decide +kernel
theorem dX9_lacks_39 : decode cX9_lacks 39 = .ok (.iconst 0, 1) := by decide +kernel
theorem dX9_lacks_40 : decode cX9_lacks 40 = .ok (.goto 4, 3) := by decide +kernel
theorem dX9_lacks_43 : decode cX9_lacks 43 = .ok (.iconst 1, 1) := by decide +kernel
theorem dX9_lacks_44 : decode cX9_lacks 44 = .ok (.iadd, 1) := by decide +kernel
theorem dX9_lacks_45 : decode cX9_lacks 45 = .ok (.istore_n 1, 1) := by decide +kernel
theorem dX9_lacks_46 : decode cX9_lacks 46 = .ok (.iinc 2 1, 3) := by decide +kernel
theorem dX9_lacks_49 : decode cX9_lacks 49 = .ok (.goto (-41), 3) := by decide +kernel
theorem dX9_lacks_52 : decode cX9_lacks 52 = .ok (.iload_n 1, 1) := by decide +kernel
theorem dX9_lacks_53 : decode cX9_lacks 53 = .ok (.ireturn, 1) := by decide +kernel
theorem dX9_pan_0 : decode cX9_pan 0 = .ok (.ldc 108, 2) := by decide +kernel
theorem dX9_pan_2 : decode cX9_pan 2 = .ok (.istore_n 2, 1) := by decide +kernel
theorem dX9_pan_3 : decode cX9_pan 3 = .ok (.ldc 138, 2) := by decide +kernel
theorem dX9_pan_5 : decode cX9_pan 5 = .ok (.istore_n 3, 1) := by decide +kernel
theorem dX9_pan_6 : decode cX9_pan 6 = .ok (.iconst 0, 1) := by decide +kernel
theorem dX9_pan_7 : decode cX9_pan 7 = .ok (.istore 4, 2) := by decide +kernel
theorem dX9_pan_9 : decode cX9_pan 9 = .ok (.iload 4, 2) := by decide +kernel
theorem dX9_pan_11 : decode cX9_pan 11 = .ok (.bipush 49, 2) := by decide +kernel
theorem dX9_pan_13 : decode cX9_pan 13 = .ok (.if_icmp .ge 85, 3) := by decide +kernel
theorem dX9_pan_16 : decode cX9_pan 16 = .ok (.iconst 0, 1) := by decide +kernel
theorem dX9_pan_17 : decode cX9_pan 17 = .ok (.istore 5, 2) := by decide +kernel
theorem dX9_pan_19 : decode cX9_pan 19 = .ok (.iconst 0, 1) := by decide +kernel
theorem dX9_pan_20 : decode cX9_pan 20 = .ok (.istore 6, 2) := by decide +kernel
theorem dX9_pan_22 : decode cX9_pan 22 = .ok (.iload 6, 2) := by decide +kernel
theorem dX9_pan_24 : decode cX9_pan 24 = .ok (.bipush 6, 2) := by decide +kernel
theorem dX9_pan_26 : decode cX9_pan 26 = .ok (.if_icmp .ge 35, 3) := by decide +kernel
theorem dX9_pan_29 : decode cX9_pan 29 = .ok (.iload 5, 2) := by decide +kernel
theorem dX9_pan_31 : decode cX9_pan 31 = .ok (.aload_n 0, 1) := by decide +kernel
theorem dX9_pan_32 : decode cX9_pan 32 = .ok (.aload_n 0, 1) := by decide +kernel
theorem dX9_pan_33 : decode cX9_pan 33 = .ok (.getfield 7, 3) := by decide +kernel
theorem dX9_pan_36 : decode cX9_pan 36 = .ok (.sipush 192, 3) := by decide +kernel
theorem dX9_pan_39 : decode cX9_pan 39 = .ok (.iaload, 1) := by decide +kernel
theorem dX9_pan_40 : decode cX9_pan 40 = .ok (.iload 6, 2) := by decide +kernel
theorem dX9_pan_42 : decode cX9_pan 42 = .ok (.aload_n 0, 1) := by decide +kernel
theorem dX9_pan_43 : decode cX9_pan 43 = .ok (.getfield 13, 3) := by decide +kernel
theorem dX9_pan_46 : decode cX9_pan 46 = .ok (.iload 4, 2) := by decide +kernel
theorem dX9_pan_48 : decode cX9_pan 48 = .ok (.iaload, 1) := by decide +kernel
theorem dX9_pan_49 : decode cX9_pan 49 = .ok (.invokevirtual 87, 3) := by decide +kernel
theorem dX9_pan_52 : decode cX9_pan 52 = .ok (.iadd, 1) := by decide +kernel
theorem dX9_pan_53 : decode cX9_pan 53 = .ok (.istore 5, 2) := by decide +kernel
theorem dX9_pan_55 : decode cX9_pan 55 = .ok (.iinc 6 1, 3) := by decide +kernel
theorem dX9_pan_58 : decode cX9_pan 58 = .ok (.goto (-36), 3) := by decide +kernel
theorem dX9_pan_61 : decode cX9_pan 61 = .ok (.iload 5, 2) := by decide +kernel
theorem dX9_pan_63 : decode cX9_pan 63 = .ok (.iload_n 3, 1) := by decide +kernel
theorem dX9_pan_64 : decode cX9_pan 64 = .ok (.if_icmp .ge 13, 3) := by decide +kernel
theorem dX9_pan_67 : decode cX9_pan 67 = .ok (.aload_n 0, 1) := by decide +kernel
theorem dX9_pan_68 : decode cX9_pan 68 = .ok (.getfield 13, 3) := by decide +kernel
theorem dX9_pan_71 : decode cX9_pan 71 = .ok (.iload 4, 2) := by decide +kernel
theorem dX9_pan_73 : decode cX9_pan 73 = .ok (.iaload, 1) := by decide +kernel
theorem dX9_pan_74 : decode cX9_pan 74 = .ok (.goto 4, 3) := by decide +kernel
theorem dX9_pan_77 : decode cX9_pan 77 = .ok (.iload_n 2, 1) := by decide +kernel
theorem dX9_pan_78 : decode cX9_pan 78 = .ok (.istore_n 2, 1) := by decide +kernel
theorem dX9_pan_79 : decode cX9_pan 79 = .ok (.iload 5, 2) := by decide +kernel
theorem dX9_pan_81 : decode cX9_pan 81 = .ok (.iload_n 3, 1) := by decide +kernel
theorem dX9_pan_82 : decode cX9_pan 82 = .ok (.if_icmp .ge 8, 3) := by decide +kernel
theorem dX9_pan_85 : decode cX9_pan 85 = .ok (.iload 5, 2) := by decide +kernel
theorem dX9_pan_87 : decode cX9_pan 87 = .ok (.goto 4, 3) := by decide +kernel
theorem dX9_pan_90 : decode cX9_pan 90 = .ok (.iload_n 3, 1) := by decide +kernel
theorem dX9_pan_91 : decode cX9_pan 91 = .ok (.istore_n 3, 1) := by decide +kernel
theorem dX9_pan_92 : decode cX9_pan 92 = .ok (.iinc 4 1, 3) := by decide +kernel
theorem dX9_pan_95 : decode cX9_pan 95 = .ok (.goto (-86), 3) := by decide +kernel
theorem dX9_pan_98 : decode cX9_pan 98 = .ok (.iload_n 1, 1) := by decide +kernel
theorem dX9_pan_99 : decode cX9_pan 99 = .ok (.ifCond .eq 7, 3) := by decide +kernel
theorem dX9_pan_102 : decode cX9_pan 102 = .ok (.iload_n 2, 1) := by decide +kernel
theorem dX9_pan_103 : decode cX9_pan 103 = .ok (.goto 4, 3) := by decide +kernel
theorem dX9_pan_106 : decode cX9_pan 106 = .ok (.iload_n 3, 1) := by decide +kernel
theorem dX9_pan_107 : decode cX9_pan 107 = .ok (.ireturn, 1) := by decide +kernel
theorem dX9_dot_0 : decode cX9_dot 0 = .ok (.iload_n 1, 1) := by decide +kernel
theorem dX9_dot_1 : decode cX9_dot 1 = .ok (.i2l, 1) := by decide +kernel
theorem dX9_dot_2 : decode cX9_dot 2 = .ok (.ldc2_w 139, 3) := by decide +kernel
theorem dX9_dot_5 : decode cX9_dot 5 = .ok (.ldc2_w 141, 3) := by decide +kernel
theorem dX9_dot_8 : decode cX9_dot 8 = .ok (.invokestatic 70, 3) := by decide +kernel
theorem dX9_dot_11 : decode cX9_dot 11 = .ok (.ifCond .eq 46, 3) := by decide +kernel
theorem dX9_dot_14 : decode cX9_dot 14 = .ok (.iload_n 2, 1) := by decide +kernel
theorem dX9_dot_15 : decode cX9_dot 15 = .ok (.i2l, 1) := by decide +kernel
theorem dX9_dot_16 : decode cX9_dot 16 = .ok (.ldc2_w 139, 3) := by decide +kernel
theorem dX9_dot_19 : decode cX9_dot 19 = .ok (.ldc2_w 143, 3) := by decide +kernel
theorem dX9_dot_22 : decode cX9_dot 22 = .ok (.invokestatic 70, 3) := by decide +kernel
theorem dX9_dot_25 : decode cX9_dot 25 = .ok (.ifCond .eq 32, 3) := by decide +kernel
theorem dX9_dot_28 : decode cX9_dot 28 = .ok (.iload_n 3, 1) := by decide +kernel
theorem dX9_dot_29 : decode cX9_dot 29 = .ok (.i2l, 1) := by decide +kernel
theorem dX9_dot_30 : decode cX9_dot 30 = .ok (.lconst 0, 1) := by decide +kernel
theorem dX9_dot_31 : decode cX9_dot 31 = .ok (.lconst 1, 1) := by decide +kernel
theorem dX9_dot_32 : decode cX9_dot 32 = .ok (.invokestatic 70, 3) := by decide +kernel
theorem dX9_dot_35 : decode cX9_dot 35 = .ok (.ifCond .eq 22, 3) := by decide +kernel
theorem dX9_dot_38 : decode cX9_dot 38 = .ok (.aload_n 0, 1) := by decide +kernel
theorem dX9_dot_39 : decode cX9_dot 39 = .ok (.iload_n 3, 1) := by decide +kernel
theorem dX9_dot_40 : decode cX9_dot 40 = .ok (.ifCond .ne 7, 3) := by decide +kernel
theorem dX9_dot_43 : decode cX9_dot 43 = .ok (.iconst 0, 1) := by decide +kernel
theorem dX9_dot_44 : decode cX9_dot 44 = .ok (.goto 5, 3) := by decide +kernel
theorem dX9_dot_47 : decode cX9_dot 47 = .ok (.bipush 96, 2) := by decide +kernel
theorem dX9_dot_49 : decode cX9_dot 49 = .ok (.iload_n 1, 1) := by decide +kernel
theorem dX9_dot_50 : decode cX9_dot 50 = .ok (.iload_n 2, 1) := by decide +kernel
theorem dX9_dot_51 : decode cX9_dot 51 = .ok (.invokevirtual 76, 3) := by decide +kernel
theorem dX9_dot_54 : decode cX9_dot 54 = .ok (.goto 5, 3) := by decide +kernel
theorem dX9_dot_57 : decode cX9_dot 57 = .ok (.ldc 145, 2) := by decide +kernel
theorem dX9_dot_59 : decode cX9_dot 59 = .ok (.ireturn, 1) := by decide +kernel
theorem dX9_costs_0 : decode cX9_costs 0 = .ok (.iconst 0, 1) := by decide +kernel
theorem dX9_costs_1 : decode cX9_costs 1 = .ok (.istore_n 1, 1) := by decide +kernel
theorem dX9_costs_2 : decode cX9_costs 2 = .ok (.iconst 0, 1) := by decide +kernel
theorem dX9_costs_3 : decode cX9_costs 3 = .ok (.istore_n 2, 1) := by decide +kernel
theorem dX9_costs_4 : decode cX9_costs 4 = .ok (.iload_n 2, 1) := by decide +kernel
theorem dX9_costs_5 : decode cX9_costs 5 = .ok (.bipush 6, 2) := by decide +kernel
theorem dX9_costs_7 : decode cX9_costs 7 = .ok (.if_icmp .ge 30, 3) := by decide +kernel
theorem dX9_costs_10 : decode cX9_costs 10 = .ok (.iload_n 1, 1) := by decide +kernel
theorem dX9_costs_11 : decode cX9_costs 11 = .ok (.aload_n 0, 1) := by decide +kernel
theorem dX9_costs_12 : decode cX9_costs 12 = .ok (.aload_n 0, 1) := by decide +kernel
theorem dX9_costs_13 : decode cX9_costs 13 = .ok (.getfield 7, 3) := by decide +kernel
theorem dX9_costs_16 : decode cX9_costs 16 = .ok (.sipush 192, 3) := by decide +kernel
theorem dX9_costs_19 : decode cX9_costs 19 = .ok (.iaload, 1) := by decide +kernel
theorem dX9_costs_20 : decode cX9_costs 20 = .ok (.iload_n 2, 1) := by decide +kernel
theorem dX9_costs_21 : decode cX9_costs 21 = .ok (.aload_n 0, 1) := by decide +kernel
theorem dX9_costs_22 : decode cX9_costs 22 = .ok (.iload_n 2, 1) := by decide +kernel
theorem dX9_costs_23 : decode cX9_costs 23 = .ok (.invokevirtual 116, 3) := by decide +kernel
theorem dX9_costs_26 : decode cX9_costs 26 = .ok (.invokevirtual 87, 3) := by decide +kernel
theorem dX9_costs_29 : decode cX9_costs 29 = .ok (.iadd, 1) := by decide +kernel
theorem dX9_costs_30 : decode cX9_costs 30 = .ok (.istore_n 1, 1) := by decide +kernel
theorem dX9_costs_31 : decode cX9_costs 31 = .ok (.iinc 2 1, 3) := by decide +kernel
theorem dX9_costs_34 : decode cX9_costs 34 = .ok (.goto (-30), 3) := by decide +kernel
theorem dX9_costs_37 : decode cX9_costs 37 = .ok (.iload_n 1, 1) := by decide +kernel
theorem dX9_costs_38 : decode cX9_costs 38 = .ok (.ireturn, 1) := by decide +kernel
theorem dX9_wrongs_0 : decode cX9_wrongs 0 = .ok (.iconst 0, 1) := by decide +kernel
theorem dX9_wrongs_1 : decode cX9_wrongs 1 = .ok (.istore_n 1, 1) := by decide +kernel
theorem dX9_wrongs_2 : decode cX9_wrongs 2 = .ok (.iconst 0, 1) := by decide +kernel
theorem dX9_wrongs_3 : decode cX9_wrongs 3 = .ok (.istore_n 2, 1) := by decide +kernel
theorem dX9_wrongs_4 : decode cX9_wrongs 4 = .ok (.iload_n 2, 1) := by decide +kernel
theorem dX9_wrongs_5 : decode cX9_wrongs 5 = .ok (.bipush 6, 2) := by decide +kernel
theorem dX9_wrongs_7 : decode cX9_wrongs 7 = .ok (.if_icmp .ge 32, 3) := by decide +kernel
theorem dX9_wrongs_10 : decode cX9_wrongs 10 = .ok (.iload_n 1, 1) := by decide +kernel
theorem dX9_wrongs_11 : decode cX9_wrongs 11 = .ok (.aload_n 0, 1) := by decide +kernel
theorem dX9_wrongs_12 : decode cX9_wrongs 12 = .ok (.iload_n 2, 1) := by decide +kernel
theorem dX9_wrongs_13 : decode cX9_wrongs 13 = .ok (.invokevirtual 146, 3) := by decide +kernel
theorem dX9_wrongs_16 : decode cX9_wrongs 16 = .ok (.aload_n 0, 1) := by decide +kernel
theorem dX9_wrongs_17 : decode cX9_wrongs 17 = .ok (.iload_n 2, 1) := by decide +kernel
theorem dX9_wrongs_18 : decode cX9_wrongs 18 = .ok (.invokevirtual 116, 3) := by decide +kernel
theorem dX9_wrongs_21 : decode cX9_wrongs 21 = .ok (.if_icmp .ne 7, 3) := by decide +kernel
theorem dX9_wrongs_24 : decode cX9_wrongs 24 = .ok (.iconst 0, 1) := by decide +kernel
theorem dX9_wrongs_25 : decode cX9_wrongs 25 = .ok (.goto 6, 3) := by decide +kernel
theorem dX9_wrongs_28 : decode cX9_wrongs 28 = .ok (.iconst 1, 1) := by decide +kernel
theorem dX9_wrongs_29 : decode cX9_wrongs 29 = .ok (.iload_n 2, 1) := by decide +kernel
theorem dX9_wrongs_30 : decode cX9_wrongs 30 = .ok (.ishl, 1) := by decide +kernel
theorem dX9_wrongs_31 : decode cX9_wrongs 31 = .ok (.ior, 1) := by decide +kernel
theorem dX9_wrongs_32 : decode cX9_wrongs 32 = .ok (.istore_n 1, 1) := by decide +kernel
theorem dX9_wrongs_33 : decode cX9_wrongs 33 = .ok (.iinc 2 1, 3) := by decide +kernel
theorem dX9_wrongs_36 : decode cX9_wrongs 36 = .ok (.goto (-32), 3) := by decide +kernel
theorem dX9_wrongs_39 : decode cX9_wrongs 39 = .ok (.iload_n 1, 1) := by decide +kernel
theorem dX9_wrongs_40 : decode cX9_wrongs 40 = .ok (.ireturn, 1) := by decide +kernel
theorem dX9_count_0 : decode cX9_count 0 = .ok (.iload_n 1, 1) := by decide +kernel
theorem dX9_count_1 : decode cX9_count 1 = .ok (.tableswitch 96 0 7 #[47, 56, 61, 66, 71, 71, 86, 91], 47) := by decide +kernel
theorem dX9_count_48 : decode cX9_count 48 = .ok (.aload_n 0, 1) := by decide +kernel
theorem dX9_count_49 : decode cX9_count 49 = .ok (.getfield 7, 3) := by decide +kernel
theorem dX9_count_52 : decode cX9_count 52 = .ok (.sipush 192, 3) := by decide +kernel
theorem dX9_count_55 : decode cX9_count 55 = .ok (.iaload, 1) := by decide +kernel
theorem dX9_count_56 : decode cX9_count 56 = .ok (.ireturn, 1) := by decide +kernel
theorem dX9_count_57 : decode cX9_count 57 = .ok (.aload_n 0, 1) := by decide +kernel
theorem dX9_count_58 : decode cX9_count 58 = .ok (.invokevirtual 149, 3) := by decide +kernel
theorem dX9_count_61 : decode cX9_count 61 = .ok (.ireturn, 1) := by decide +kernel
theorem dX9_count_62 : decode cX9_count 62 = .ok (.aload_n 0, 1) := by decide +kernel
theorem dX9_count_63 : decode cX9_count 63 = .ok (.invokevirtual 153, 3) := by decide +kernel
theorem dX9_count_66 : decode cX9_count 66 = .ok (.ireturn, 1) := by decide +kernel
theorem dX9_count_67 : decode cX9_count 67 = .ok (.aload_n 0, 1) := by decide +kernel
theorem dX9_count_68 : decode cX9_count 68 = .ok (.invokevirtual 156, 3) := by decide +kernel
theorem dX9_count_71 : decode cX9_count 71 = .ok (.ireturn, 1) := by decide +kernel
theorem dX9_count_72 : decode cX9_count 72 = .ok (.aload_n 0, 1) := by decide +kernel
theorem dX9_count_73 : decode cX9_count 73 = .ok (.iload_n 1, 1) := by decide +kernel
theorem dX9_count_74 : decode cX9_count 74 = .ok (.iconst 4, 1) := by decide +kernel
theorem dX9_count_75 : decode cX9_count 75 = .ok (.if_icmp .ne 7, 3) := by decide +kernel
theorem dX9_count_78 : decode cX9_count 78 = .ok (.iconst 1, 1) := by decide +kernel
theorem dX9_count_79 : decode cX9_count 79 = .ok (.goto 4, 3) := by decide +kernel
theorem dX9_count_82 : decode cX9_count 82 = .ok (.iconst 0, 1) := by decide +kernel
theorem dX9_count_83 : decode cX9_count 83 = .ok (.invokevirtual 159, 3) := by decide +kernel
theorem dX9_count_86 : decode cX9_count 86 = .ok (.ireturn, 1) := by decide +kernel
theorem dX9_count_87 : decode cX9_count 87 = .ok (.aload_n 0, 1) := by decide +kernel
theorem dX9_count_88 : decode cX9_count 88 = .ok (.invokevirtual 163, 3) := by decide +kernel
theorem dX9_count_91 : decode cX9_count 91 = .ok (.ireturn, 1) := by decide +kernel
theorem dX9_count_92 : decode cX9_count 92 = .ok (.aload_n 0, 1) := by decide +kernel
theorem dX9_count_93 : decode cX9_count 93 = .ok (.getfield 166, 3) := by decide +kernel
theorem dX9_count_96 : decode cX9_count 96 = .ok (.ireturn, 1) := by decide +kernel
theorem dX9_count_97 : decode cX9_count 97 = .ok (.ldc 145, 2) := by decide +kernel
theorem dX9_count_99 : decode cX9_count 99 = .ok (.ireturn, 1) := by decide +kernel
theorem dX9_type_0 : decode cX9_type 0 = .ok (.iload_n 1, 1) := by decide +kernel
theorem dX9_type_1 : decode cX9_type 1 = .ok (.i2l, 1) := by decide +kernel
theorem dX9_type_2 : decode cX9_type 2 = .ok (.ldc2_w 169, 3) := by decide +kernel
theorem dX9_type_5 : decode cX9_type 5 = .ok (.ldc2_w 171, 3) := by decide +kernel
theorem dX9_type_8 : decode cX9_type 8 = .ok (.invokestatic 70, 3) := by decide +kernel
theorem dX9_type_11 : decode cX9_type 11 = .ok (.ifCond .ne 6, 3) := by decide +kernel
theorem dX9_type_14 : decode cX9_type 14 = .ok (.ldc 145, 2) := by decide +kernel
theorem dX9_type_16 : decode cX9_type 16 = .ok (.ireturn, 1) := by decide +kernel
theorem dX9_type_17 : decode cX9_type 17 = .ok (.aload_n 0, 1) := by decide +kernel
theorem dX9_type_18 : decode cX9_type 18 = .ok (.getfield 173, 3) := by decide +kernel
theorem dX9_type_21 : decode cX9_type 21 = .ok (.bipush 120, 2) := by decide +kernel
theorem dX9_type_23 : decode cX9_type 23 = .ok (.if_icmp .ne 6, 3) := by decide +kernel
theorem dX9_type_26 : decode cX9_type 26 = .ok (.ldc 176, 2) := by decide +kernel
theorem dX9_type_28 : decode cX9_type 28 = .ok (.ireturn, 1) := by decide +kernel
theorem dX9_type_29 : decode cX9_type 29 = .ok (.aload_n 0, 1) := by decide +kernel
theorem dX9_type_30 : decode cX9_type 30 = .ok (.getfield 19, 3) := by decide +kernel
theorem dX9_type_33 : decode cX9_type 33 = .ok (.aload_n 0, 1) := by decide +kernel
theorem dX9_type_34 : decode cX9_type 34 = .ok (.getfield 173, 3) := by decide +kernel
theorem dX9_type_37 : decode cX9_type 37 = .ok (.iload_n 1, 1) := by decide +kernel
theorem dX9_type_38 : decode cX9_type 38 = .ok (.iastore, 1) := by decide +kernel
theorem dX9_type_39 : decode cX9_type 39 = .ok (.aload_n 0, 1) := by decide +kernel
theorem dX9_type_40 : decode cX9_type 40 = .ok (.dup, 1) := by decide +kernel
theorem dX9_type_41 : decode cX9_type 41 = .ok (.getfield 173, 3) := by decide +kernel
theorem dX9_type_44 : decode cX9_type 44 = .ok (.iconst 1, 1) := by decide +kernel
theorem dX9_type_45 : decode cX9_type 45 = .ok (.iadd, 1) := by decide +kernel
theorem dX9_type_46 : decode cX9_type 46 = .ok (.putfield 173, 3) := by decide +kernel
theorem dX9_type_49 : decode cX9_type 49 = .ok (.aload_n 0, 1) := by decide +kernel
theorem dX9_type_50 : decode cX9_type 50 = .ok (.getfield 173, 3) := by decide +kernel
theorem dX9_type_53 : decode cX9_type 53 = .ok (.ireturn, 1) := by decide +kernel
theorem dX9_here_0 : decode cX9_here 0 = .ok (.aload_n 0, 1) := by decide +kernel
theorem dX9_here_1 : decode cX9_here 1 = .ok (.getfield 177, 3) := by decide +kernel
theorem dX9_here_4 : decode cX9_here 4 = .ok (.aload_n 0, 1) := by decide +kernel
theorem dX9_here_5 : decode cX9_here 5 = .ok (.getfield 173, 3) := by decide +kernel
theorem dX9_here_8 : decode cX9_here 8 = .ok (.if_icmp .ge 30, 3) := by decide +kernel
theorem dX9_here_11 : decode cX9_here 11 = .ok (.aload_n 0, 1) := by decide +kernel
theorem dX9_here_12 : decode cX9_here 12 = .ok (.getfield 19, 3) := by decide +kernel
theorem dX9_here_15 : decode cX9_here 15 = .ok (.aload_n 0, 1) := by decide +kernel
theorem dX9_here_16 : decode cX9_here 16 = .ok (.getfield 177, 3) := by decide +kernel
theorem dX9_here_19 : decode cX9_here 19 = .ok (.iaload, 1) := by decide +kernel
theorem dX9_here_20 : decode cX9_here 20 = .ok (.bipush 32, 2) := by decide +kernel
theorem dX9_here_22 : decode cX9_here 22 = .ok (.if_icmp .ne 16, 3) := by decide +kernel
theorem dX9_here_25 : decode cX9_here 25 = .ok (.aload_n 0, 1) := by decide +kernel
theorem dX9_here_26 : decode cX9_here 26 = .ok (.dup, 1) := by decide +kernel
theorem dX9_here_27 : decode cX9_here 27 = .ok (.getfield 177, 3) := by decide +kernel
theorem dX9_here_30 : decode cX9_here 30 = .ok (.iconst 1, 1) := by decide +kernel
theorem dX9_here_31 : decode cX9_here 31 = .ok (.iadd, 1) := by decide +kernel
theorem dX9_here_32 : decode cX9_here 32 = .ok (.putfield 177, 3) := by decide +kernel
theorem dX9_here_35 : decode cX9_here 35 = .ok (.goto (-35), 3) := by decide +kernel
theorem dX9_here_38 : decode cX9_here 38 = .ok (.aload_n 0, 1) := by decide +kernel
theorem dX9_here_39 : decode cX9_here 39 = .ok (.getfield 177, 3) := by decide +kernel
theorem dX9_here_42 : decode cX9_here 42 = .ok (.aload_n 0, 1) := by decide +kernel
theorem dX9_here_43 : decode cX9_here 43 = .ok (.getfield 173, 3) := by decide +kernel
theorem dX9_here_46 : decode cX9_here 46 = .ok (.if_icmp .ge 15, 3) := by decide +kernel
theorem dX9_here_49 : decode cX9_here 49 = .ok (.aload_n 0, 1) := by decide +kernel
theorem dX9_here_50 : decode cX9_here 50 = .ok (.getfield 19, 3) := by decide +kernel
theorem dX9_here_53 : decode cX9_here 53 = .ok (.aload_n 0, 1) := by decide +kernel
theorem dX9_here_54 : decode cX9_here 54 = .ok (.getfield 177, 3) := by decide +kernel
theorem dX9_here_57 : decode cX9_here 57 = .ok (.iaload, 1) := by decide +kernel
theorem dX9_here_58 : decode cX9_here 58 = .ok (.goto 4, 3) := by decide +kernel
theorem dX9_here_61 : decode cX9_here 61 = .ok (.iconst 0, 1) := by decide +kernel
theorem dX9_here_62 : decode cX9_here 62 = .ok (.ireturn, 1) := by decide +kernel
theorem dX9_dots_0 : decode cX9_dots 0 = .ok (.iconst 0, 1) := by decide +kernel
theorem dX9_dots_1 : decode cX9_dots 1 = .ok (.istore_n 1, 1) := by decide +kernel
theorem dX9_dots_2 : decode cX9_dots 2 = .ok (.iload_n 1, 1) := by decide +kernel
theorem dX9_dots_3 : decode cX9_dots 3 = .ok (.bipush 96, 2) := by decide +kernel
theorem dX9_dots_5 : decode cX9_dots 5 = .ok (.if_icmp .ge 113, 3) := by decide +kernel
theorem dX9_dots_8 : decode cX9_dots 8 = .ok (.aload_n 0, 1) := by decide +kernel
theorem dX9_dots_9 : decode cX9_dots 9 = .ok (.invokevirtual 180, 3) := by decide +kernel
theorem dX9_dots_12 : decode cX9_dots 12 = .ok (.ifCond .eq 106, 3) := by decide +kernel
theorem dX9_dots_15 : decode cX9_dots 15 = .ok (.aload_n 0, 1) := by decide +kernel
theorem dX9_dots_16 : decode cX9_dots 16 = .ok (.invokevirtual 180, 3) := by decide +kernel
theorem dX9_dots_19 : decode cX9_dots 19 = .ok (.bipush 114, 2) := by decide +kernel
theorem dX9_dots_21 : decode cX9_dots 21 = .ok (.if_icmp .ne 7, 3) := by decide +kernel
theorem dX9_dots_24 : decode cX9_dots 24 = .ok (.iconst 1, 1) := by decide +kernel
theorem dX9_dots_25 : decode cX9_dots 25 = .ok (.goto 4, 3) := by decide +kernel
theorem dX9_dots_28 : decode cX9_dots 28 = .ok (.iconst 0, 1) := by decide +kernel
theorem dX9_dots_29 : decode cX9_dots 29 = .ok (.istore_n 2, 1) := by decide +kernel
theorem dX9_dots_30 : decode cX9_dots 30 = .ok (.aload_n 0, 1) := by decide +kernel
theorem dX9_dots_31 : decode cX9_dots 31 = .ok (.dup, 1) := by decide +kernel
theorem dX9_dots_32 : decode cX9_dots 32 = .ok (.getfield 177, 3) := by decide +kernel
theorem dX9_dots_35 : decode cX9_dots 35 = .ok (.iload_n 2, 1) := by decide +kernel
theorem dX9_dots_36 : decode cX9_dots 36 = .ok (.ifCond .eq 7, 3) := by decide +kernel
theorem dX9_dots_39 : decode cX9_dots 39 = .ok (.iconst 1, 1) := by decide +kernel
theorem dX9_dots_40 : decode cX9_dots 40 = .ok (.goto 4, 3) := by decide +kernel
theorem dX9_dots_43 : decode cX9_dots 43 = .ok (.iconst 0, 1) := by decide +kernel
theorem dX9_dots_44 : decode cX9_dots 44 = .ok (.iadd, 1) := by decide +kernel
theorem dX9_dots_45 : decode cX9_dots 45 = .ok (.putfield 177, 3) := by decide +kernel
theorem dX9_dots_48 : decode cX9_dots 48 = .ok (.aload_n 0, 1) := by decide +kernel
theorem dX9_dots_49 : decode cX9_dots 49 = .ok (.invokevirtual 180, 3) := by decide +kernel
theorem dX9_dots_52 : decode cX9_dots 52 = .ok (.bipush 48, 2) := by decide +kernel
theorem dX9_dots_54 : decode cX9_dots 54 = .ok (.isub, 1) := by decide +kernel
theorem dX9_dots_55 : decode cX9_dots 55 = .ok (.istore_n 3, 1) := by decide +kernel
theorem dX9_dots_56 : decode cX9_dots 56 = .ok (.iload_n 3, 1) := by decide +kernel
theorem dX9_dots_57 : decode cX9_dots 57 = .ok (.i2l, 1) := by decide +kernel
theorem dX9_dots_58 : decode cX9_dots 58 = .ok (.lconst 0, 1) := by decide +kernel
theorem dX9_dots_59 : decode cX9_dots 59 = .ok (.ldc2_w 183, 3) := by decide +kernel
theorem dX9_dots_62 : decode cX9_dots 62 = .ok (.invokestatic 70, 3) := by decide +kernel
theorem dX9_dots_65 : decode cX9_dots 65 = .ok (.ifCond .ne 6, 3) := by decide +kernel
theorem dX9_dots_68 : decode cX9_dots 68 = .ok (.ldc 108, 2) := by decide +kernel
theorem dX9_dots_70 : decode cX9_dots 70 = .ok (.ireturn, 1) := by decide +kernel
theorem dX9_dots_71 : decode cX9_dots 71 = .ok (.aload_n 0, 1) := by decide +kernel
theorem dX9_dots_72 : decode cX9_dots 72 = .ok (.dup, 1) := by decide +kernel
theorem dX9_dots_73 : decode cX9_dots 73 = .ok (.getfield 177, 3) := by decide +kernel
theorem dX9_dots_76 : decode cX9_dots 76 = .ok (.iconst 1, 1) := by decide +kernel
theorem dX9_dots_77 : decode cX9_dots 77 = .ok (.iadd, 1) := by decide +kernel
theorem dX9_dots_78 : decode cX9_dots 78 = .ok (.putfield 177, 3) := by decide +kernel
theorem dX9_dots_81 : decode cX9_dots 81 = .ok (.aload_n 0, 1) := by decide +kernel
theorem dX9_dots_82 : decode cX9_dots 82 = .ok (.getfield 22, 3) := by decide +kernel
theorem dX9_dots_85 : decode cX9_dots 85 = .ok (.iload_n 1, 1) := by decide +kernel
theorem dX9_dots_86 : decode cX9_dots 86 = .ok (.iload_n 3, 1) := by decide +kernel
theorem dX9_dots_87 : decode cX9_dots 87 = .ok (.iastore, 1) := by decide +kernel
theorem dX9_dots_88 : decode cX9_dots 88 = .ok (.iinc 1 1, 3) := by decide +kernel
theorem dX9_dots_91 : decode cX9_dots 91 = .ok (.iload_n 2, 1) := by decide +kernel
theorem dX9_dots_92 : decode cX9_dots 92 = .ok (.ifCond .eq 23, 3) := by decide +kernel
theorem dX9_dots_95 : decode cX9_dots 95 = .ok (.iload_n 1, 1) := by decide +kernel
theorem dX9_dots_96 : decode cX9_dots 96 = .ok (.bipush 12, 2) := by decide +kernel
theorem dX9_dots_98 : decode cX9_dots 98 = .ok (.irem, 1) := by decide +kernel
theorem dX9_dots_99 : decode cX9_dots 99 = .ok (.ifCond .eq 16, 3) := by decide +kernel
theorem dX9_dots_102 : decode cX9_dots 102 = .ok (.aload_n 0, 1) := by decide +kernel
theorem dX9_dots_103 : decode cX9_dots 103 = .ok (.getfield 22, 3) := by decide +kernel
theorem dX9_dots_106 : decode cX9_dots 106 = .ok (.iload_n 1, 1) := by decide +kernel
theorem dX9_dots_107 : decode cX9_dots 107 = .ok (.iload_n 3, 1) := by decide +kernel
theorem dX9_dots_108 : decode cX9_dots 108 = .ok (.iastore, 1) := by decide +kernel
theorem dX9_dots_109 : decode cX9_dots 109 = .ok (.iinc 1 1, 3) := by decide +kernel
theorem dX9_dots_112 : decode cX9_dots 112 = .ok (.goto (-21), 3) := by decide +kernel
theorem dX9_dots_115 : decode cX9_dots 115 = .ok (.goto (-113), 3) := by decide +kernel
theorem dX9_dots_118 : decode cX9_dots 118 = .ok (.aload_n 0, 1) := by decide +kernel
theorem dX9_dots_119 : decode cX9_dots 119 = .ok (.invokevirtual 180, 3) := by decide +kernel
theorem dX9_dots_122 : decode cX9_dots 122 = .ok (.ifCond .ne 7, 3) := by decide +kernel
theorem dX9_dots_125 : decode cX9_dots 125 = .ok (.iload_n 1, 1) := by decide +kernel
theorem dX9_dots_126 : decode cX9_dots 126 = .ok (.goto 5, 3) := by decide +kernel
theorem dX9_dots_129 : decode cX9_dots 129 = .ok (.ldc 108, 2) := by decide +kernel
theorem dX9_dots_131 : decode cX9_dots 131 = .ok (.ireturn, 1) := by decide +kernel
theorem dX9_picture_0 : decode cX9_picture 0 = .ok (.aload_n 0, 1) := by decide +kernel
theorem dX9_picture_1 : decode cX9_picture 1 = .ok (.iconst 0, 1) := by decide +kernel
theorem dX9_picture_2 : decode cX9_picture 2 = .ok (.putfield 177, 3) := by decide +kernel
theorem dX9_picture_5 : decode cX9_picture 5 = .ok (.aload_n 0, 1) := by decide +kernel
theorem dX9_picture_6 : decode cX9_picture 6 = .ok (.invokevirtual 180, 3) := by decide +kernel
theorem dX9_picture_9 : decode cX9_picture 9 = .ok (.istore_n 1, 1) := by decide +kernel
theorem dX9_picture_10 : decode cX9_picture 10 = .ok (.iload_n 1, 1) := by decide +kernel
theorem dX9_picture_11 : decode cX9_picture 11 = .ok (.bipush 111, 2) := by decide +kernel
theorem dX9_picture_13 : decode cX9_picture 13 = .ok (.if_icmp .eq 15, 3) := by decide +kernel
theorem dX9_picture_16 : decode cX9_picture 16 = .ok (.iload_n 1, 1) := by decide +kernel
theorem dX9_picture_17 : decode cX9_picture 17 = .ok (.bipush 110, 2) := by decide +kernel
theorem dX9_picture_19 : decode cX9_picture 19 = .ok (.if_icmp .eq 9, 3) := by decide +kernel
theorem dX9_picture_22 : decode cX9_picture 22 = .ok (.iload_n 1, 1) := by decide +kernel
theorem dX9_picture_23 : decode cX9_picture 23 = .ok (.bipush 98, 2) := by decide +kernel
theorem dX9_picture_25 : decode cX9_picture 25 = .ok (.if_icmp .ne 7, 3) := by decide +kernel
theorem dX9_picture_28 : decode cX9_picture 28 = .ok (.iconst 1, 1) := by decide +kernel
theorem dX9_picture_29 : decode cX9_picture 29 = .ok (.goto 4, 3) := by decide +kernel
theorem dX9_picture_32 : decode cX9_picture 32 = .ok (.iconst 0, 1) := by decide +kernel
theorem dX9_picture_33 : decode cX9_picture 33 = .ok (.istore_n 2, 1) := by decide +kernel
theorem dX9_picture_34 : decode cX9_picture 34 = .ok (.aload_n 0, 1) := by decide +kernel
theorem dX9_picture_35 : decode cX9_picture 35 = .ok (.dup, 1) := by decide +kernel
theorem dX9_picture_36 : decode cX9_picture 36 = .ok (.getfield 177, 3) := by decide +kernel
theorem dX9_picture_39 : decode cX9_picture 39 = .ok (.iload_n 2, 1) := by decide +kernel
theorem dX9_picture_40 : decode cX9_picture 40 = .ok (.ifCond .eq 7, 3) := by decide +kernel
theorem dX9_picture_43 : decode cX9_picture 43 = .ok (.iconst 1, 1) := by decide +kernel
theorem dX9_picture_44 : decode cX9_picture 44 = .ok (.goto 4, 3) := by decide +kernel
theorem dX9_picture_47 : decode cX9_picture 47 = .ok (.iconst 0, 1) := by decide +kernel
theorem dX9_picture_48 : decode cX9_picture 48 = .ok (.iadd, 1) := by decide +kernel
theorem dX9_picture_49 : decode cX9_picture 49 = .ok (.putfield 177, 3) := by decide +kernel
theorem dX9_picture_52 : decode cX9_picture 52 = .ok (.iload_n 2, 1) := by decide +kernel
theorem dX9_picture_53 : decode cX9_picture 53 = .ok (.ifCond .eq 10, 3) := by decide +kernel
theorem dX9_picture_56 : decode cX9_picture 56 = .ok (.aload_n 0, 1) := by decide +kernel
theorem dX9_picture_57 : decode cX9_picture 57 = .ok (.invokevirtual 185, 3) := by decide +kernel
theorem dX9_picture_60 : decode cX9_picture 60 = .ok (.goto 5, 3) := by decide +kernel
theorem dX9_picture_63 : decode cX9_picture 63 = .ok (.ldc 108, 2) := by decide +kernel
theorem dX9_picture_65 : decode cX9_picture 65 = .ok (.istore_n 3, 1) := by decide +kernel
theorem dX9_picture_66 : decode cX9_picture 66 = .ok (.iload_n 3, 1) := by decide +kernel
theorem dX9_picture_67 : decode cX9_picture 67 = .ok (.ldc 108, 2) := by decide +kernel
theorem dX9_picture_69 : decode cX9_picture 69 = .ok (.if_icmp .ne 46, 3) := by decide +kernel
theorem dX9_picture_72 : decode cX9_picture 72 = .ok (.aload_n 0, 1) := by decide +kernel
theorem dX9_picture_73 : decode cX9_picture 73 = .ok (.invokevirtual 180, 3) := by decide +kernel
theorem dX9_picture_76 : decode cX9_picture 76 = .ok (.ifCond .ne 7, 3) := by decide +kernel
theorem dX9_picture_79 : decode cX9_picture 79 = .ok (.iconst 1, 1) := by decide +kernel
theorem dX9_picture_80 : decode cX9_picture 80 = .ok (.goto 4, 3) := by decide +kernel
theorem dX9_picture_83 : decode cX9_picture 83 = .ok (.iconst 0, 1) := by decide +kernel
theorem dX9_picture_84 : decode cX9_picture 84 = .ok (.istore 4, 2) := by decide +kernel
theorem dX9_picture_86 : decode cX9_picture 86 = .ok (.ldc 188, 2) := by decide +kernel
theorem dX9_picture_88 : decode cX9_picture 88 = .ok (.iload 4, 2) := by decide +kernel
theorem dX9_picture_90 : decode cX9_picture 90 = .ok (.ifCond .eq 10, 3) := by decide +kernel
theorem dX9_picture_93 : decode cX9_picture 93 = .ok (.aload_n 0, 1) := by decide +kernel
theorem dX9_picture_94 : decode cX9_picture 94 = .ok (.getfield 173, 3) := by decide +kernel
theorem dX9_picture_97 : decode cX9_picture 97 = .ok (.goto 7, 3) := by decide +kernel
theorem dX9_picture_100 : decode cX9_picture 100 = .ok (.aload_n 0, 1) := by decide +kernel
theorem dX9_picture_101 : decode cX9_picture 101 = .ok (.getfield 177, 3) := by decide +kernel
theorem dX9_picture_104 : decode cX9_picture 104 = .ok (.isub, 1) := by decide +kernel
theorem dX9_picture_105 : decode cX9_picture 105 = .ok (.istore 5, 2) := by decide +kernel
theorem dX9_picture_107 : decode cX9_picture 107 = .ok (.aload_n 0, 1) := by decide +kernel
theorem dX9_picture_108 : decode cX9_picture 108 = .ok (.iconst 0, 1) := by decide +kernel
theorem dX9_picture_109 : decode cX9_picture 109 = .ok (.putfield 173, 3) := by decide +kernel
theorem dX9_picture_112 : decode cX9_picture 112 = .ok (.iload 5, 2) := by decide +kernel
theorem dX9_picture_114 : decode cX9_picture 114 = .ok (.ireturn, 1) := by decide +kernel
theorem dX9_picture_115 : decode cX9_picture 115 = .ok (.iconst 0, 1) := by decide +kernel
theorem dX9_picture_116 : decode cX9_picture 116 = .ok (.istore 4, 2) := by decide +kernel
theorem dX9_picture_118 : decode cX9_picture 118 = .ok (.iload 4, 2) := by decide +kernel
theorem dX9_picture_120 : decode cX9_picture 120 = .ok (.bipush 96, 2) := by decide +kernel
theorem dX9_picture_122 : decode cX9_picture 122 = .ok (.if_icmp .ge 88, 3) := by decide +kernel
theorem dX9_picture_125 : decode cX9_picture 125 = .ok (.iload 4, 2) := by decide +kernel
theorem dX9_picture_127 : decode cX9_picture 127 = .ok (.iload_n 3, 1) := by decide +kernel
theorem dX9_picture_128 : decode cX9_picture 128 = .ok (.if_icmp .ge 13, 3) := by decide +kernel
theorem dX9_picture_131 : decode cX9_picture 131 = .ok (.aload_n 0, 1) := by decide +kernel
theorem dX9_picture_132 : decode cX9_picture 132 = .ok (.getfield 22, 3) := by decide +kernel
theorem dX9_picture_135 : decode cX9_picture 135 = .ok (.iload 4, 2) := by decide +kernel
theorem dX9_picture_137 : decode cX9_picture 137 = .ok (.iaload, 1) := by decide +kernel
theorem dX9_picture_138 : decode cX9_picture 138 = .ok (.goto 4, 3) := by decide +kernel
theorem dX9_picture_141 : decode cX9_picture 141 = .ok (.iconst 0, 1) := by decide +kernel
theorem dX9_picture_142 : decode cX9_picture 142 = .ok (.istore 5, 2) := by decide +kernel
theorem dX9_picture_144 : decode cX9_picture 144 = .ok (.aload_n 0, 1) := by decide +kernel
theorem dX9_picture_145 : decode cX9_picture 145 = .ok (.getfield 7, 3) := by decide +kernel
theorem dX9_picture_148 : decode cX9_picture 148 = .ok (.iconst 0, 1) := by decide +kernel
theorem dX9_picture_149 : decode cX9_picture 149 = .ok (.iload 4, 2) := by decide +kernel
theorem dX9_picture_151 : decode cX9_picture 151 = .ok (.iadd, 1) := by decide +kernel
theorem dX9_picture_152 : decode cX9_picture 152 = .ok (.iload_n 1, 1) := by decide +kernel
theorem dX9_picture_153 : decode cX9_picture 153 = .ok (.bipush 110, 2) := by decide +kernel
theorem dX9_picture_155 : decode cX9_picture 155 = .ok (.if_icmp .ne 15, 3) := by decide +kernel
theorem dX9_picture_158 : decode cX9_picture 158 = .ok (.aload_n 0, 1) := by decide +kernel
theorem dX9_picture_159 : decode cX9_picture 159 = .ok (.getfield 7, 3) := by decide +kernel
theorem dX9_picture_162 : decode cX9_picture 162 = .ok (.iconst 0, 1) := by decide +kernel
theorem dX9_picture_163 : decode cX9_picture 163 = .ok (.iload 4, 2) := by decide +kernel
theorem dX9_picture_165 : decode cX9_picture 165 = .ok (.iadd, 1) := by decide +kernel
theorem dX9_picture_166 : decode cX9_picture 166 = .ok (.iaload, 1) := by decide +kernel
theorem dX9_picture_167 : decode cX9_picture 167 = .ok (.goto 5, 3) := by decide +kernel
theorem dX9_picture_170 : decode cX9_picture 170 = .ok (.iload 5, 2) := by decide +kernel
theorem dX9_picture_172 : decode cX9_picture 172 = .ok (.iastore, 1) := by decide +kernel
theorem dX9_picture_173 : decode cX9_picture 173 = .ok (.aload_n 0, 1) := by decide +kernel
theorem dX9_picture_174 : decode cX9_picture 174 = .ok (.getfield 7, 3) := by decide +kernel
theorem dX9_picture_177 : decode cX9_picture 177 = .ok (.bipush 96, 2) := by decide +kernel
theorem dX9_picture_179 : decode cX9_picture 179 = .ok (.iload 4, 2) := by decide +kernel
theorem dX9_picture_181 : decode cX9_picture 181 = .ok (.iadd, 1) := by decide +kernel
theorem dX9_picture_182 : decode cX9_picture 182 = .ok (.iload_n 1, 1) := by decide +kernel
theorem dX9_picture_183 : decode cX9_picture 183 = .ok (.bipush 111, 2) := by decide +kernel
theorem dX9_picture_185 : decode cX9_picture 185 = .ok (.if_icmp .ne 16, 3) := by decide +kernel
theorem dX9_picture_188 : decode cX9_picture 188 = .ok (.aload_n 0, 1) := by decide +kernel
theorem dX9_picture_189 : decode cX9_picture 189 = .ok (.getfield 7, 3) := by decide +kernel
theorem dX9_picture_192 : decode cX9_picture 192 = .ok (.bipush 96, 2) := by decide +kernel
theorem dX9_picture_194 : decode cX9_picture 194 = .ok (.iload 4, 2) := by decide +kernel
theorem dX9_picture_196 : decode cX9_picture 196 = .ok (.iadd, 1) := by decide +kernel
theorem dX9_picture_197 : decode cX9_picture 197 = .ok (.iaload, 1) := by decide +kernel
theorem dX9_picture_198 : decode cX9_picture 198 = .ok (.goto 5, 3) := by decide +kernel
theorem dX9_picture_201 : decode cX9_picture 201 = .ok (.iload 5, 2) := by decide +kernel
theorem dX9_picture_203 : decode cX9_picture 203 = .ok (.iastore, 1) := by decide +kernel
theorem dX9_picture_204 : decode cX9_picture 204 = .ok (.iinc 4 1, 3) := by decide +kernel
theorem dX9_picture_207 : decode cX9_picture 207 = .ok (.goto (-89), 3) := by decide +kernel
theorem dX9_picture_210 : decode cX9_picture 210 = .ok (.aload_n 0, 1) := by decide +kernel
theorem dX9_picture_211 : decode cX9_picture 211 = .ok (.iconst 0, 1) := by decide +kernel
theorem dX9_picture_212 : decode cX9_picture 212 = .ok (.putfield 166, 3) := by decide +kernel
theorem dX9_picture_215 : decode cX9_picture 215 = .ok (.aload_n 0, 1) := by decide +kernel
theorem dX9_picture_216 : decode cX9_picture 216 = .ok (.iconst 0, 1) := by decide +kernel
theorem dX9_picture_217 : decode cX9_picture 217 = .ok (.putfield 173, 3) := by decide +kernel
theorem dX9_picture_220 : decode cX9_picture 220 = .ok (.iload_n 3, 1) := by decide +kernel
theorem dX9_picture_221 : decode cX9_picture 221 = .ok (.ireturn, 1) := by decide +kernel
theorem dX9_notes_0 : decode cX9_notes 0 = .ok (.aload_n 0, 1) := by decide +kernel
theorem dX9_notes_1 : decode cX9_notes 1 = .ok (.getfield 166, 3) := by decide +kernel
theorem dX9_notes_4 : decode cX9_notes 4 = .ok (.bipush 8, 2) := by decide +kernel
theorem dX9_notes_6 : decode cX9_notes 6 = .ok (.if_icmp .ne 42, 3) := by decide +kernel
theorem dX9_notes_9 : decode cX9_notes 9 = .ok (.sipush 194, 3) := by decide +kernel
theorem dX9_notes_12 : decode cX9_notes 12 = .ok (.istore_n 1, 1) := by decide +kernel
theorem dX9_notes_13 : decode cX9_notes 13 = .ok (.iload_n 1, 1) := by decide +kernel
theorem dX9_notes_14 : decode cX9_notes 14 = .ok (.sipush 1552, 3) := by decide +kernel
theorem dX9_notes_17 : decode cX9_notes 17 = .ok (.if_icmp .ge 25, 3) := by decide +kernel
theorem dX9_notes_20 : decode cX9_notes 20 = .ok (.aload_n 0, 1) := by decide +kernel
theorem dX9_notes_21 : decode cX9_notes 21 = .ok (.getfield 25, 3) := by decide +kernel
theorem dX9_notes_24 : decode cX9_notes 24 = .ok (.iload_n 1, 1) := by decide +kernel
theorem dX9_notes_25 : decode cX9_notes 25 = .ok (.sipush 194, 3) := by decide +kernel
theorem dX9_notes_28 : decode cX9_notes 28 = .ok (.isub, 1) := by decide +kernel
theorem dX9_notes_29 : decode cX9_notes 29 = .ok (.aload_n 0, 1) := by decide +kernel
theorem dX9_notes_30 : decode cX9_notes 30 = .ok (.getfield 25, 3) := by decide +kernel
theorem dX9_notes_33 : decode cX9_notes 33 = .ok (.iload_n 1, 1) := by decide +kernel
theorem dX9_notes_34 : decode cX9_notes 34 = .ok (.iaload, 1) := by decide +kernel
theorem dX9_notes_35 : decode cX9_notes 35 = .ok (.iastore, 1) := by decide +kernel
theorem dX9_notes_36 : decode cX9_notes 36 = .ok (.iinc 1 1, 3) := by decide +kernel
theorem dX9_notes_39 : decode cX9_notes 39 = .ok (.goto (-26), 3) := by decide +kernel
theorem dX9_notes_42 : decode cX9_notes 42 = .ok (.aload_n 0, 1) := by decide +kernel
theorem dX9_notes_43 : decode cX9_notes 43 = .ok (.bipush 7, 2) := by decide +kernel
theorem dX9_notes_45 : decode cX9_notes 45 = .ok (.putfield 166, 3) := by decide +kernel
theorem dX9_notes_48 : decode cX9_notes 48 = .ok (.iconst 0, 1) := by decide +kernel
theorem dX9_notes_49 : decode cX9_notes 49 = .ok (.istore_n 1, 1) := by decide +kernel
theorem dX9_notes_50 : decode cX9_notes 50 = .ok (.iload_n 1, 1) := by decide +kernel
theorem dX9_notes_51 : decode cX9_notes 51 = .ok (.sipush 194, 3) := by decide +kernel
theorem dX9_notes_54 : decode cX9_notes 54 = .ok (.if_icmp .ge 30, 3) := by decide +kernel
theorem dX9_notes_57 : decode cX9_notes 57 = .ok (.aload_n 0, 1) := by decide +kernel
theorem dX9_notes_58 : decode cX9_notes 58 = .ok (.getfield 25, 3) := by decide +kernel
theorem dX9_notes_61 : decode cX9_notes 61 = .ok (.sipush 194, 3) := by decide +kernel
theorem dX9_notes_64 : decode cX9_notes 64 = .ok (.aload_n 0, 1) := by decide +kernel
theorem dX9_notes_65 : decode cX9_notes 65 = .ok (.getfield 166, 3) := by decide +kernel
theorem dX9_notes_68 : decode cX9_notes 68 = .ok (.imul, 1) := by decide +kernel
theorem dX9_notes_69 : decode cX9_notes 69 = .ok (.iload_n 1, 1) := by decide +kernel
theorem dX9_notes_70 : decode cX9_notes 70 = .ok (.iadd, 1) := by decide +kernel
theorem dX9_notes_71 : decode cX9_notes 71 = .ok (.aload_n 0, 1) := by decide +kernel
theorem dX9_notes_72 : decode cX9_notes 72 = .ok (.getfield 7, 3) := by decide +kernel
theorem dX9_notes_75 : decode cX9_notes 75 = .ok (.iload_n 1, 1) := by decide +kernel
theorem dX9_notes_76 : decode cX9_notes 76 = .ok (.iaload, 1) := by decide +kernel
theorem dX9_notes_77 : decode cX9_notes 77 = .ok (.iastore, 1) := by decide +kernel
theorem dX9_notes_78 : decode cX9_notes 78 = .ok (.iinc 1 1, 3) := by decide +kernel
theorem dX9_notes_81 : decode cX9_notes 81 = .ok (.goto (-31), 3) := by decide +kernel
theorem dX9_notes_84 : decode cX9_notes 84 = .ok (.aload_n 0, 1) := by decide +kernel
theorem dX9_notes_85 : decode cX9_notes 85 = .ok (.dup, 1) := by decide +kernel
theorem dX9_notes_86 : decode cX9_notes 86 = .ok (.getfield 166, 3) := by decide +kernel
theorem dX9_notes_89 : decode cX9_notes 89 = .ok (.iconst 1, 1) := by decide +kernel
theorem dX9_notes_90 : decode cX9_notes 90 = .ok (.iadd, 1) := by decide +kernel
theorem dX9_notes_91 : decode cX9_notes 91 = .ok (.putfield 166, 3) := by decide +kernel
theorem dX9_notes_94 : decode cX9_notes 94 = .ok (.return_, 1) := by decide +kernel
theorem dX9_paint_0 : decode cX9_paint 0 = .ok (.iload_n 1, 1) := by decide +kernel
theorem dX9_paint_1 : decode cX9_paint 1 = .ok (.i2l, 1) := by decide +kernel
theorem dX9_paint_2 : decode cX9_paint 2 = .ok (.lconst 0, 1) := by decide +kernel
theorem dX9_paint_3 : decode cX9_paint 3 = .ok (.ldc2_w 189, 3) := by decide +kernel
theorem dX9_paint_6 : decode cX9_paint 6 = .ok (.invokestatic 70, 3) := by decide +kernel
theorem dX9_paint_9 : decode cX9_paint 9 = .ok (.ifCond .eq 27, 3) := by decide +kernel
theorem dX9_paint_12 : decode cX9_paint 12 = .ok (.iload_n 2, 1) := by decide +kernel
theorem dX9_paint_13 : decode cX9_paint 13 = .ok (.i2l, 1) := by decide +kernel
theorem dX9_paint_14 : decode cX9_paint 14 = .ok (.lconst 0, 1) := by decide +kernel
theorem dX9_paint_15 : decode cX9_paint 15 = .ok (.ldc2_w 191, 3) := by decide +kernel
theorem dX9_paint_18 : decode cX9_paint 18 = .ok (.invokestatic 70, 3) := by decide +kernel
theorem dX9_paint_21 : decode cX9_paint 21 = .ok (.ifCond .eq 15, 3) := by decide +kernel
theorem dX9_paint_24 : decode cX9_paint 24 = .ok (.iload_n 3, 1) := by decide +kernel
theorem dX9_paint_25 : decode cX9_paint 25 = .ok (.i2l, 1) := by decide +kernel
theorem dX9_paint_26 : decode cX9_paint 26 = .ok (.lconst 0, 1) := by decide +kernel
theorem dX9_paint_27 : decode cX9_paint 27 = .ok (.ldc2_w 183, 3) := by decide +kernel
theorem dX9_paint_30 : decode cX9_paint 30 = .ok (.invokestatic 70, 3) := by decide +kernel
theorem dX9_paint_33 : decode cX9_paint 33 = .ok (.ifCond .ne 6, 3) := by decide +kernel
theorem dX9_paint_36 : decode cX9_paint 36 = .ok (.ldc 145, 2) := by decide +kernel
theorem dX9_paint_38 : decode cX9_paint 38 = .ok (.ireturn, 1) := by decide +kernel
theorem dX9_paint_39 : decode cX9_paint 39 = .ok (.bipush 96, 2) := by decide +kernel
theorem dX9_paint_41 : decode cX9_paint 41 = .ok (.bipush 12, 2) := by decide +kernel
theorem dX9_paint_43 : decode cX9_paint 43 = .ok (.iload_n 2, 1) := by decide +kernel
theorem dX9_paint_44 : decode cX9_paint 44 = .ok (.imul, 1) := by decide +kernel
theorem dX9_paint_45 : decode cX9_paint 45 = .ok (.iadd, 1) := by decide +kernel
theorem dX9_paint_46 : decode cX9_paint 46 = .ok (.iload_n 1, 1) := by decide +kernel
theorem dX9_paint_47 : decode cX9_paint 47 = .ok (.iadd, 1) := by decide +kernel
theorem dX9_paint_48 : decode cX9_paint 48 = .ok (.istore 4, 2) := by decide +kernel
theorem dX9_paint_50 : decode cX9_paint 50 = .ok (.aload_n 0, 1) := by decide +kernel
theorem dX9_paint_51 : decode cX9_paint 51 = .ok (.getfield 7, 3) := by decide +kernel
theorem dX9_paint_54 : decode cX9_paint 54 = .ok (.iload 4, 2) := by decide +kernel
theorem dX9_paint_56 : decode cX9_paint 56 = .ok (.iaload, 1) := by decide +kernel
theorem dX9_paint_57 : decode cX9_paint 57 = .ok (.istore 5, 2) := by decide +kernel
theorem dX9_paint_59 : decode cX9_paint 59 = .ok (.iload 5, 2) := by decide +kernel
theorem dX9_paint_61 : decode cX9_paint 61 = .ok (.iload_n 3, 1) := by decide +kernel
theorem dX9_paint_62 : decode cX9_paint 62 = .ok (.if_icmp .ne 6, 3) := by decide +kernel
theorem dX9_paint_65 : decode cX9_paint 65 = .ok (.ldc 193, 2) := by decide +kernel
theorem dX9_paint_67 : decode cX9_paint 67 = .ok (.ireturn, 1) := by decide +kernel
theorem dX9_paint_68 : decode cX9_paint 68 = .ok (.aload_n 0, 1) := by decide +kernel
theorem dX9_paint_69 : decode cX9_paint 69 = .ok (.invokevirtual 194, 3) := by decide +kernel
theorem dX9_paint_72 : decode cX9_paint 72 = .ok (.aload_n 0, 1) := by decide +kernel
theorem dX9_paint_73 : decode cX9_paint 73 = .ok (.getfield 7, 3) := by decide +kernel
theorem dX9_paint_76 : decode cX9_paint 76 = .ok (.iload 4, 2) := by decide +kernel
theorem dX9_paint_78 : decode cX9_paint 78 = .ok (.iload_n 3, 1) := by decide +kernel
theorem dX9_paint_79 : decode cX9_paint 79 = .ok (.iastore, 1) := by decide +kernel
theorem dX9_paint_80 : decode cX9_paint 80 = .ok (.iload 5, 2) := by decide +kernel
theorem dX9_paint_82 : decode cX9_paint 82 = .ok (.ireturn, 1) := by decide +kernel
theorem dX9_shift_0 : decode cX9_shift 0 = .ok (.iload_n 1, 1) := by decide +kernel
theorem dX9_shift_1 : decode cX9_shift 1 = .ok (.i2l, 1) := by decide +kernel
theorem dX9_shift_2 : decode cX9_shift 2 = .ok (.ldc2_w 139, 3) := by decide +kernel
theorem dX9_shift_5 : decode cX9_shift 5 = .ok (.ldc2_w 197, 3) := by decide +kernel
theorem dX9_shift_8 : decode cX9_shift 8 = .ok (.invokestatic 70, 3) := by decide +kernel
theorem dX9_shift_11 : decode cX9_shift 11 = .ok (.ifCond .eq 17, 3) := by decide +kernel
theorem dX9_shift_14 : decode cX9_shift 14 = .ok (.iload_n 2, 1) := by decide +kernel
theorem dX9_shift_15 : decode cX9_shift 15 = .ok (.i2l, 1) := by decide +kernel
theorem dX9_shift_16 : decode cX9_shift 16 = .ok (.ldc2_w 139, 3) := by decide +kernel
theorem dX9_shift_19 : decode cX9_shift 19 = .ok (.ldc2_w 197, 3) := by decide +kernel
theorem dX9_shift_22 : decode cX9_shift 22 = .ok (.invokestatic 70, 3) := by decide +kernel
theorem dX9_shift_25 : decode cX9_shift 25 = .ok (.ifCond .ne 6, 3) := by decide +kernel
theorem dX9_shift_28 : decode cX9_shift 28 = .ok (.ldc 145, 2) := by decide +kernel
theorem dX9_shift_30 : decode cX9_shift 30 = .ok (.ireturn, 1) := by decide +kernel
theorem dX9_shift_31 : decode cX9_shift 31 = .ok (.aload_n 0, 1) := by decide +kernel
theorem dX9_shift_32 : decode cX9_shift 32 = .ok (.invokevirtual 194, 3) := by decide +kernel
theorem dX9_shift_35 : decode cX9_shift 35 = .ok (.iconst 0, 1) := by decide +kernel
theorem dX9_shift_36 : decode cX9_shift 36 = .ok (.istore_n 3, 1) := by decide +kernel
theorem dX9_shift_37 : decode cX9_shift 37 = .ok (.iload_n 3, 1) := by decide +kernel
theorem dX9_shift_38 : decode cX9_shift 38 = .ok (.bipush 96, 2) := by decide +kernel
theorem dX9_shift_40 : decode cX9_shift 40 = .ok (.if_icmp .ge 33, 3) := by decide +kernel
theorem dX9_shift_43 : decode cX9_shift 43 = .ok (.aload_n 0, 1) := by decide +kernel
theorem dX9_shift_44 : decode cX9_shift 44 = .ok (.getfield 22, 3) := by decide +kernel
theorem dX9_shift_47 : decode cX9_shift 47 = .ok (.iload_n 3, 1) := by decide +kernel
theorem dX9_shift_48 : decode cX9_shift 48 = .ok (.aload_n 0, 1) := by decide +kernel
theorem dX9_shift_49 : decode cX9_shift 49 = .ok (.bipush 96, 2) := by decide +kernel
theorem dX9_shift_51 : decode cX9_shift 51 = .ok (.iload_n 3, 1) := by decide +kernel
theorem dX9_shift_52 : decode cX9_shift 52 = .ok (.bipush 12, 2) := by decide +kernel
theorem dX9_shift_54 : decode cX9_shift 54 = .ok (.irem, 1) := by decide +kernel
theorem dX9_shift_55 : decode cX9_shift 55 = .ok (.iload_n 1, 1) := by decide +kernel
theorem dX9_shift_56 : decode cX9_shift 56 = .ok (.iadd, 1) := by decide +kernel
theorem dX9_shift_57 : decode cX9_shift 57 = .ok (.iload_n 3, 1) := by decide +kernel
theorem dX9_shift_58 : decode cX9_shift 58 = .ok (.bipush 12, 2) := by decide +kernel
theorem dX9_shift_60 : decode cX9_shift 60 = .ok (.idiv, 1) := by decide +kernel
theorem dX9_shift_61 : decode cX9_shift 61 = .ok (.iload_n 2, 1) := by decide +kernel
theorem dX9_shift_62 : decode cX9_shift 62 = .ok (.iadd, 1) := by decide +kernel
theorem dX9_shift_63 : decode cX9_shift 63 = .ok (.invokevirtual 76, 3) := by decide +kernel
theorem dX9_shift_66 : decode cX9_shift 66 = .ok (.iastore, 1) := by decide +kernel
theorem dX9_shift_67 : decode cX9_shift 67 = .ok (.iinc 3 1, 3) := by decide +kernel
theorem dX9_shift_70 : decode cX9_shift 70 = .ok (.goto (-33), 3) := by decide +kernel
theorem dX9_shift_73 : decode cX9_shift 73 = .ok (.iconst 0, 1) := by decide +kernel
theorem dX9_shift_74 : decode cX9_shift 74 = .ok (.istore_n 3, 1) := by decide +kernel
theorem dX9_shift_75 : decode cX9_shift 75 = .ok (.iconst 0, 1) := by decide +kernel
theorem dX9_shift_76 : decode cX9_shift 76 = .ok (.istore 4, 2) := by decide +kernel
theorem dX9_shift_78 : decode cX9_shift 78 = .ok (.iload 4, 2) := by decide +kernel
theorem dX9_shift_80 : decode cX9_shift 80 = .ok (.bipush 96, 2) := by decide +kernel
theorem dX9_shift_82 : decode cX9_shift 82 = .ok (.if_icmp .ge 54, 3) := by decide +kernel
theorem dX9_shift_85 : decode cX9_shift 85 = .ok (.iload_n 3, 1) := by decide +kernel
theorem dX9_shift_86 : decode cX9_shift 86 = .ok (.aload_n 0, 1) := by decide +kernel
theorem dX9_shift_87 : decode cX9_shift 87 = .ok (.getfield 7, 3) := by decide +kernel
theorem dX9_shift_90 : decode cX9_shift 90 = .ok (.bipush 96, 2) := by decide +kernel
theorem dX9_shift_92 : decode cX9_shift 92 = .ok (.iload 4, 2) := by decide +kernel
theorem dX9_shift_94 : decode cX9_shift 94 = .ok (.iadd, 1) := by decide +kernel
theorem dX9_shift_95 : decode cX9_shift 95 = .ok (.iaload, 1) := by decide +kernel
theorem dX9_shift_96 : decode cX9_shift 96 = .ok (.aload_n 0, 1) := by decide +kernel
theorem dX9_shift_97 : decode cX9_shift 97 = .ok (.getfield 22, 3) := by decide +kernel
theorem dX9_shift_100 : decode cX9_shift 100 = .ok (.iload 4, 2) := by decide +kernel
theorem dX9_shift_102 : decode cX9_shift 102 = .ok (.iaload, 1) := by decide +kernel
theorem dX9_shift_103 : decode cX9_shift 103 = .ok (.if_icmp .ne 7, 3) := by decide +kernel
theorem dX9_shift_106 : decode cX9_shift 106 = .ok (.iconst 0, 1) := by decide +kernel
theorem dX9_shift_107 : decode cX9_shift 107 = .ok (.goto 4, 3) := by decide +kernel
theorem dX9_shift_110 : decode cX9_shift 110 = .ok (.iconst 1, 1) := by decide +kernel
theorem dX9_shift_111 : decode cX9_shift 111 = .ok (.iadd, 1) := by decide +kernel
theorem dX9_shift_112 : decode cX9_shift 112 = .ok (.istore_n 3, 1) := by decide +kernel
theorem dX9_shift_113 : decode cX9_shift 113 = .ok (.aload_n 0, 1) := by decide +kernel
theorem dX9_shift_114 : decode cX9_shift 114 = .ok (.getfield 7, 3) := by decide +kernel
theorem dX9_shift_117 : decode cX9_shift 117 = .ok (.bipush 96, 2) := by decide +kernel
theorem dX9_shift_119 : decode cX9_shift 119 = .ok (.iload 4, 2) := by decide +kernel
theorem dX9_shift_121 : decode cX9_shift 121 = .ok (.iadd, 1) := by decide +kernel
theorem dX9_shift_122 : decode cX9_shift 122 = .ok (.aload_n 0, 1) := by decide +kernel
theorem dX9_shift_123 : decode cX9_shift 123 = .ok (.getfield 22, 3) := by decide +kernel
theorem dX9_shift_126 : decode cX9_shift 126 = .ok (.iload 4, 2) := by decide +kernel
theorem dX9_shift_128 : decode cX9_shift 128 = .ok (.iaload, 1) := by decide +kernel
theorem dX9_shift_129 : decode cX9_shift 129 = .ok (.iastore, 1) := by decide +kernel
theorem dX9_shift_130 : decode cX9_shift 130 = .ok (.iinc 4 1, 3) := by decide +kernel
theorem dX9_shift_133 : decode cX9_shift 133 = .ok (.goto (-55), 3) := by decide +kernel
theorem dX9_shift_136 : decode cX9_shift 136 = .ok (.iload_n 3, 1) := by decide +kernel
theorem dX9_shift_137 : decode cX9_shift 137 = .ok (.ireturn, 1) := by decide +kernel
theorem dX9_take_0 : decode cX9_take 0 = .ok (.aload_n 0, 1) := by decide +kernel
theorem dX9_take_1 : decode cX9_take 1 = .ok (.invokevirtual 194, 3) := by decide +kernel
theorem dX9_take_4 : decode cX9_take 4 = .ok (.iconst 0, 1) := by decide +kernel
theorem dX9_take_5 : decode cX9_take 5 = .ok (.istore_n 1, 1) := by decide +kernel
theorem dX9_take_6 : decode cX9_take 6 = .ok (.iconst 0, 1) := by decide +kernel
theorem dX9_take_7 : decode cX9_take 7 = .ok (.istore_n 2, 1) := by decide +kernel
theorem dX9_take_8 : decode cX9_take 8 = .ok (.iload_n 2, 1) := by decide +kernel
theorem dX9_take_9 : decode cX9_take 9 = .ok (.bipush 96, 2) := by decide +kernel
theorem dX9_take_11 : decode cX9_take 11 = .ok (.if_icmp .ge 54, 3) := by decide +kernel
theorem dX9_take_14 : decode cX9_take 14 = .ok (.iload_n 1, 1) := by decide +kernel
theorem dX9_take_15 : decode cX9_take 15 = .ok (.aload_n 0, 1) := by decide +kernel
theorem dX9_take_16 : decode cX9_take 16 = .ok (.getfield 7, 3) := by decide +kernel
theorem dX9_take_19 : decode cX9_take 19 = .ok (.iconst 0, 1) := by decide +kernel
theorem dX9_take_20 : decode cX9_take 20 = .ok (.iload_n 2, 1) := by decide +kernel
theorem dX9_take_21 : decode cX9_take 21 = .ok (.iadd, 1) := by decide +kernel
theorem dX9_take_22 : decode cX9_take 22 = .ok (.iaload, 1) := by decide +kernel
theorem dX9_take_23 : decode cX9_take 23 = .ok (.aload_n 0, 1) := by decide +kernel
theorem dX9_take_24 : decode cX9_take 24 = .ok (.getfield 7, 3) := by decide +kernel
theorem dX9_take_27 : decode cX9_take 27 = .ok (.bipush 96, 2) := by decide +kernel
theorem dX9_take_29 : decode cX9_take 29 = .ok (.iload_n 2, 1) := by decide +kernel
theorem dX9_take_30 : decode cX9_take 30 = .ok (.iadd, 1) := by decide +kernel
theorem dX9_take_31 : decode cX9_take 31 = .ok (.iaload, 1) := by decide +kernel
theorem dX9_take_32 : decode cX9_take 32 = .ok (.if_icmp .ne 7, 3) := by decide +kernel
theorem dX9_take_35 : decode cX9_take 35 = .ok (.iconst 0, 1) := by decide +kernel
theorem dX9_take_36 : decode cX9_take 36 = .ok (.goto 4, 3) := by decide +kernel
theorem dX9_take_39 : decode cX9_take 39 = .ok (.iconst 1, 1) := by decide +kernel
theorem dX9_take_40 : decode cX9_take 40 = .ok (.iadd, 1) := by decide +kernel
theorem dX9_take_41 : decode cX9_take 41 = .ok (.istore_n 1, 1) := by decide +kernel
theorem dX9_take_42 : decode cX9_take 42 = .ok (.aload_n 0, 1) := by decide +kernel
theorem dX9_take_43 : decode cX9_take 43 = .ok (.getfield 7, 3) := by decide +kernel
theorem dX9_take_46 : decode cX9_take 46 = .ok (.iconst 0, 1) := by decide +kernel
theorem dX9_take_47 : decode cX9_take 47 = .ok (.iload_n 2, 1) := by decide +kernel
theorem dX9_take_48 : decode cX9_take 48 = .ok (.iadd, 1) := by decide +kernel
theorem dX9_take_49 : decode cX9_take 49 = .ok (.aload_n 0, 1) := by decide +kernel
theorem dX9_take_50 : decode cX9_take 50 = .ok (.getfield 7, 3) := by decide +kernel
theorem dX9_take_53 : decode cX9_take 53 = .ok (.bipush 96, 2) := by decide +kernel
theorem dX9_take_55 : decode cX9_take 55 = .ok (.iload_n 2, 1) := by decide +kernel
theorem dX9_take_56 : decode cX9_take 56 = .ok (.iadd, 1) := by decide +kernel
theorem dX9_take_57 : decode cX9_take 57 = .ok (.iaload, 1) := by decide +kernel
theorem dX9_take_58 : decode cX9_take 58 = .ok (.iastore, 1) := by decide +kernel
theorem dX9_take_59 : decode cX9_take 59 = .ok (.iinc 2 1, 3) := by decide +kernel
theorem dX9_take_62 : decode cX9_take 62 = .ok (.goto (-54), 3) := by decide +kernel
theorem dX9_take_65 : decode cX9_take 65 = .ok (.iload_n 1, 1) := by decide +kernel
theorem dX9_take_66 : decode cX9_take 66 = .ok (.ireturn, 1) := by decide +kernel
theorem dX9_like_0 : decode cX9_like 0 = .ok (.iload_n 1, 1) := by decide +kernel
theorem dX9_like_1 : decode cX9_like 1 = .ok (.i2l, 1) := by decide +kernel
theorem dX9_like_2 : decode cX9_like 2 = .ok (.lconst 0, 1) := by decide +kernel
theorem dX9_like_3 : decode cX9_like 3 = .ok (.ldc2_w 199, 3) := by decide +kernel
theorem dX9_like_6 : decode cX9_like 6 = .ok (.invokestatic 70, 3) := by decide +kernel
theorem dX9_like_9 : decode cX9_like 9 = .ok (.ifCond .ne 6, 3) := by decide +kernel
theorem dX9_like_12 : decode cX9_like 12 = .ok (.ldc 145, 2) := by decide +kernel
theorem dX9_like_14 : decode cX9_like 14 = .ok (.ireturn, 1) := by decide +kernel
theorem dX9_like_15 : decode cX9_like 15 = .ok (.aload_n 0, 1) := by decide +kernel
theorem dX9_like_16 : decode cX9_like 16 = .ok (.getfield 7, 3) := by decide +kernel
theorem dX9_like_19 : decode cX9_like 19 = .ok (.sipush 192, 3) := by decide +kernel
theorem dX9_like_22 : decode cX9_like 22 = .ok (.iaload, 1) := by decide +kernel
theorem dX9_like_23 : decode cX9_like 23 = .ok (.istore_n 2, 1) := by decide +kernel
theorem dX9_like_24 : decode cX9_like 24 = .ok (.iload_n 2, 1) := by decide +kernel
theorem dX9_like_25 : decode cX9_like 25 = .ok (.iload_n 1, 1) := by decide +kernel
theorem dX9_like_26 : decode cX9_like 26 = .ok (.if_icmp .ne 6, 3) := by decide +kernel
theorem dX9_like_29 : decode cX9_like 29 = .ok (.ldc 193, 2) := by decide +kernel
theorem dX9_like_31 : decode cX9_like 31 = .ok (.ireturn, 1) := by decide +kernel
theorem dX9_like_32 : decode cX9_like 32 = .ok (.aload_n 0, 1) := by decide +kernel
theorem dX9_like_33 : decode cX9_like 33 = .ok (.invokevirtual 194, 3) := by decide +kernel
theorem dX9_like_36 : decode cX9_like 36 = .ok (.aload_n 0, 1) := by decide +kernel
theorem dX9_like_37 : decode cX9_like 37 = .ok (.getfield 7, 3) := by decide +kernel
theorem dX9_like_40 : decode cX9_like 40 = .ok (.sipush 192, 3) := by decide +kernel
theorem dX9_like_43 : decode cX9_like 43 = .ok (.iload_n 1, 1) := by decide +kernel
theorem dX9_like_44 : decode cX9_like 44 = .ok (.iastore, 1) := by decide +kernel
theorem dX9_like_45 : decode cX9_like 45 = .ok (.iload_n 2, 1) := by decide +kernel
theorem dX9_like_46 : decode cX9_like 46 = .ok (.ireturn, 1) := by decide +kernel
theorem dX9_noise_0 : decode cX9_noise 0 = .ok (.iload_n 1, 1) := by decide +kernel
theorem dX9_noise_1 : decode cX9_noise 1 = .ok (.i2l, 1) := by decide +kernel
theorem dX9_noise_2 : decode cX9_noise 2 = .ok (.lconst 1, 1) := by decide +kernel
theorem dX9_noise_3 : decode cX9_noise 3 = .ok (.ldc2_w 201, 3) := by decide +kernel
theorem dX9_noise_6 : decode cX9_noise 6 = .ok (.invokestatic 70, 3) := by decide +kernel
theorem dX9_noise_9 : decode cX9_noise 9 = .ok (.ifCond .ne 6, 3) := by decide +kernel
theorem dX9_noise_12 : decode cX9_noise 12 = .ok (.ldc 145, 2) := by decide +kernel
theorem dX9_noise_14 : decode cX9_noise 14 = .ok (.ireturn, 1) := by decide +kernel
theorem dX9_noise_15 : decode cX9_noise 15 = .ok (.iconst 0, 1) := by decide +kernel
theorem dX9_noise_16 : decode cX9_noise 16 = .ok (.istore_n 2, 1) := by decide +kernel
theorem dX9_noise_17 : decode cX9_noise 17 = .ok (.iload_n 2, 1) := by decide +kernel
theorem dX9_noise_18 : decode cX9_noise 18 = .ok (.iload_n 1, 1) := by decide +kernel
theorem dX9_noise_19 : decode cX9_noise 19 = .ok (.if_icmp .ge 79, 3) := by decide +kernel
theorem dX9_noise_22 : decode cX9_noise 22 = .ok (.aload_n 0, 1) := by decide +kernel
theorem dX9_noise_23 : decode cX9_noise 23 = .ok (.invokevirtual 194, 3) := by decide +kernel
theorem dX9_noise_26 : decode cX9_noise 26 = .ok (.aload_n 0, 1) := by decide +kernel
theorem dX9_noise_27 : decode cX9_noise 27 = .ok (.getfield 7, 3) := by decide +kernel
theorem dX9_noise_30 : decode cX9_noise 30 = .ok (.sipush 193, 3) := by decide +kernel
theorem dX9_noise_33 : decode cX9_noise 33 = .ok (.iaload, 1) := by decide +kernel
theorem dX9_noise_34 : decode cX9_noise 34 = .ok (.i2l, 1) := by decide +kernel
theorem dX9_noise_35 : decode cX9_noise 35 = .ok (.ldc2_w 203, 3) := by decide +kernel
theorem dX9_noise_38 : decode cX9_noise 38 = .ok (.lmul, 1) := by decide +kernel
theorem dX9_noise_39 : decode cX9_noise 39 = .ok (.ldc2_w 205, 3) := by decide +kernel
theorem dX9_noise_42 : decode cX9_noise 42 = .ok (.ladd, 1) := by decide +kernel
theorem dX9_noise_43 : decode cX9_noise 43 = .ok (.ldc2_w 207, 3) := by decide +kernel
theorem dX9_noise_46 : decode cX9_noise 46 = .ok (.lrem, 1) := by decide +kernel
theorem dX9_noise_47 : decode cX9_noise 47 = .ok (.lstore_n 3, 1) := by decide +kernel
theorem dX9_noise_48 : decode cX9_noise 48 = .ok (.aload_n 0, 1) := by decide +kernel
theorem dX9_noise_49 : decode cX9_noise 49 = .ok (.getfield 7, 3) := by decide +kernel
theorem dX9_noise_52 : decode cX9_noise 52 = .ok (.sipush 193, 3) := by decide +kernel
theorem dX9_noise_55 : decode cX9_noise 55 = .ok (.lload_n 3, 1) := by decide +kernel
theorem dX9_noise_56 : decode cX9_noise 56 = .ok (.l2i, 1) := by decide +kernel
theorem dX9_noise_57 : decode cX9_noise 57 = .ok (.iastore, 1) := by decide +kernel
theorem dX9_noise_58 : decode cX9_noise 58 = .ok (.aload_n 0, 1) := by decide +kernel
theorem dX9_noise_59 : decode cX9_noise 59 = .ok (.getfield 7, 3) := by decide +kernel
theorem dX9_noise_62 : decode cX9_noise 62 = .ok (.sipush 193, 3) := by decide +kernel
theorem dX9_noise_65 : decode cX9_noise 65 = .ok (.iaload, 1) := by decide +kernel
theorem dX9_noise_66 : decode cX9_noise 66 = .ok (.ldc 209, 2) := by decide +kernel
theorem dX9_noise_68 : decode cX9_noise 68 = .ok (.idiv, 1) := by decide +kernel
theorem dX9_noise_69 : decode cX9_noise 69 = .ok (.istore 5, 2) := by decide +kernel
theorem dX9_noise_71 : decode cX9_noise 71 = .ok (.aload_n 0, 1) := by decide +kernel
theorem dX9_noise_72 : decode cX9_noise 72 = .ok (.getfield 7, 3) := by decide +kernel
theorem dX9_noise_75 : decode cX9_noise 75 = .ok (.bipush 96, 2) := by decide +kernel
theorem dX9_noise_77 : decode cX9_noise 77 = .ok (.iload 5, 2) := by decide +kernel
theorem dX9_noise_79 : decode cX9_noise 79 = .ok (.bipush 96, 2) := by decide +kernel
theorem dX9_noise_81 : decode cX9_noise 81 = .ok (.irem, 1) := by decide +kernel
theorem dX9_noise_82 : decode cX9_noise 82 = .ok (.iadd, 1) := by decide +kernel
theorem dX9_noise_83 : decode cX9_noise 83 = .ok (.iload 5, 2) := by decide +kernel
theorem dX9_noise_85 : decode cX9_noise 85 = .ok (.bipush 96, 2) := by decide +kernel
theorem dX9_noise_87 : decode cX9_noise 87 = .ok (.idiv, 1) := by decide +kernel
theorem dX9_noise_88 : decode cX9_noise 88 = .ok (.bipush 10, 2) := by decide +kernel
theorem dX9_noise_90 : decode cX9_noise 90 = .ok (.irem, 1) := by decide +kernel
theorem dX9_noise_91 : decode cX9_noise 91 = .ok (.iastore, 1) := by decide +kernel
theorem dX9_noise_92 : decode cX9_noise 92 = .ok (.iinc 2 1, 3) := by decide +kernel
theorem dX9_noise_95 : decode cX9_noise 95 = .ok (.goto (-78), 3) := by decide +kernel
theorem dX9_noise_98 : decode cX9_noise 98 = .ok (.aload_n 0, 1) := by decide +kernel
theorem dX9_noise_99 : decode cX9_noise 99 = .ok (.invokevirtual 156, 3) := by decide +kernel
theorem dX9_noise_102 : decode cX9_noise 102 = .ok (.ireturn, 1) := by decide +kernel
theorem dX9_undo_0 : decode cX9_undo 0 = .ok (.aload_n 0, 1) := by decide +kernel
theorem dX9_undo_1 : decode cX9_undo 1 = .ok (.getfield 166, 3) := by decide +kernel
theorem dX9_undo_4 : decode cX9_undo 4 = .ok (.ifCond .ne 6, 3) := by decide +kernel
theorem dX9_undo_7 : decode cX9_undo 7 = .ok (.ldc 108, 2) := by decide +kernel
theorem dX9_undo_9 : decode cX9_undo 9 = .ok (.ireturn, 1) := by decide +kernel
theorem dX9_undo_10 : decode cX9_undo 10 = .ok (.aload_n 0, 1) := by decide +kernel
theorem dX9_undo_11 : decode cX9_undo 11 = .ok (.dup, 1) := by decide +kernel
theorem dX9_undo_12 : decode cX9_undo 12 = .ok (.getfield 166, 3) := by decide +kernel
theorem dX9_undo_15 : decode cX9_undo 15 = .ok (.iconst 1, 1) := by decide +kernel
theorem dX9_undo_16 : decode cX9_undo 16 = .ok (.isub, 1) := by decide +kernel
theorem dX9_undo_17 : decode cX9_undo 17 = .ok (.putfield 166, 3) := by decide +kernel
theorem dX9_undo_20 : decode cX9_undo 20 = .ok (.iconst 0, 1) := by decide +kernel
theorem dX9_undo_21 : decode cX9_undo 21 = .ok (.istore_n 1, 1) := by decide +kernel
theorem dX9_undo_22 : decode cX9_undo 22 = .ok (.iload_n 1, 1) := by decide +kernel
theorem dX9_undo_23 : decode cX9_undo 23 = .ok (.sipush 194, 3) := by decide +kernel
theorem dX9_undo_26 : decode cX9_undo 26 = .ok (.if_icmp .ge 30, 3) := by decide +kernel
theorem dX9_undo_29 : decode cX9_undo 29 = .ok (.aload_n 0, 1) := by decide +kernel
theorem dX9_undo_30 : decode cX9_undo 30 = .ok (.getfield 7, 3) := by decide +kernel
theorem dX9_undo_33 : decode cX9_undo 33 = .ok (.iload_n 1, 1) := by decide +kernel
theorem dX9_undo_34 : decode cX9_undo 34 = .ok (.aload_n 0, 1) := by decide +kernel
theorem dX9_undo_35 : decode cX9_undo 35 = .ok (.getfield 25, 3) := by decide +kernel
theorem dX9_undo_38 : decode cX9_undo 38 = .ok (.sipush 194, 3) := by decide +kernel
theorem dX9_undo_41 : decode cX9_undo 41 = .ok (.aload_n 0, 1) := by decide +kernel
theorem dX9_undo_42 : decode cX9_undo 42 = .ok (.getfield 166, 3) := by decide +kernel
theorem dX9_undo_45 : decode cX9_undo 45 = .ok (.imul, 1) := by decide +kernel
theorem dX9_undo_46 : decode cX9_undo 46 = .ok (.iload_n 1, 1) := by decide +kernel
theorem dX9_undo_47 : decode cX9_undo 47 = .ok (.iadd, 1) := by decide +kernel
theorem dX9_undo_48 : decode cX9_undo 48 = .ok (.iaload, 1) := by decide +kernel
theorem dX9_undo_49 : decode cX9_undo 49 = .ok (.iastore, 1) := by decide +kernel
theorem dX9_undo_50 : decode cX9_undo 50 = .ok (.iinc 1 1, 3) := by decide +kernel
theorem dX9_undo_53 : decode cX9_undo 53 = .ok (.goto (-31), 3) := by decide +kernel
theorem dX9_undo_56 : decode cX9_undo 56 = .ok (.aload_n 0, 1) := by decide +kernel
theorem dX9_undo_57 : decode cX9_undo 57 = .ok (.getfield 166, 3) := by decide +kernel
theorem dX9_undo_60 : decode cX9_undo 60 = .ok (.ireturn, 1) := by decide +kernel
theorem dX9_seed_0 : decode cX9_seed 0 = .ok (.iload_n 1, 1) := by decide +kernel
theorem dX9_seed_1 : decode cX9_seed 1 = .ok (.ifCond .ge 6, 3) := by decide +kernel
theorem dX9_seed_4 : decode cX9_seed 4 = .ok (.ldc 145, 2) := by decide +kernel
theorem dX9_seed_6 : decode cX9_seed 6 = .ok (.ireturn, 1) := by decide +kernel
theorem dX9_seed_7 : decode cX9_seed 7 = .ok (.aload_n 0, 1) := by decide +kernel
theorem dX9_seed_8 : decode cX9_seed 8 = .ok (.getfield 7, 3) := by decide +kernel
theorem dX9_seed_11 : decode cX9_seed 11 = .ok (.sipush 193, 3) := by decide +kernel
theorem dX9_seed_14 : decode cX9_seed 14 = .ok (.iaload, 1) := by decide +kernel
theorem dX9_seed_15 : decode cX9_seed 15 = .ok (.istore_n 2, 1) := by decide +kernel
theorem dX9_seed_16 : decode cX9_seed 16 = .ok (.aload_n 0, 1) := by decide +kernel
theorem dX9_seed_17 : decode cX9_seed 17 = .ok (.getfield 7, 3) := by decide +kernel
theorem dX9_seed_20 : decode cX9_seed 20 = .ok (.sipush 193, 3) := by decide +kernel
theorem dX9_seed_23 : decode cX9_seed 23 = .ok (.iload_n 1, 1) := by decide +kernel
theorem dX9_seed_24 : decode cX9_seed 24 = .ok (.iastore, 1) := by decide +kernel
theorem dX9_seed_25 : decode cX9_seed 25 = .ok (.iload_n 2, 1) := by decide +kernel
theorem dX9_seed_26 : decode cX9_seed 26 = .ok (.ireturn, 1) := by decide +kernel
theorem dX9_cost_0 : decode cX9_cost 0 = .ok (.iload_n 1, 1) := by decide +kernel
theorem dX9_cost_1 : decode cX9_cost 1 = .ok (.invokestatic 210, 3) := by decide +kernel
theorem dX9_cost_4 : decode cX9_cost 4 = .ok (.ifCond .eq 28, 3) := by decide +kernel
theorem dX9_cost_7 : decode cX9_cost 7 = .ok (.iload_n 2, 1) := by decide +kernel
theorem dX9_cost_8 : decode cX9_cost 8 = .ok (.i2l, 1) := by decide +kernel
theorem dX9_cost_9 : decode cX9_cost 9 = .ok (.invokestatic 214, 3) := by decide +kernel
theorem dX9_cost_12 : decode cX9_cost 12 = .ok (.ifCond .eq 20, 3) := by decide +kernel
theorem dX9_cost_15 : decode cX9_cost 15 = .ok (.aload_n 0, 1) := by decide +kernel
theorem dX9_cost_16 : decode cX9_cost 16 = .ok (.aload_n 0, 1) := by decide +kernel
theorem dX9_cost_17 : decode cX9_cost 17 = .ok (.getfield 7, 3) := by decide +kernel
theorem dX9_cost_20 : decode cX9_cost 20 = .ok (.sipush 192, 3) := by decide +kernel
theorem dX9_cost_23 : decode cX9_cost 23 = .ok (.iaload, 1) := by decide +kernel
theorem dX9_cost_24 : decode cX9_cost 24 = .ok (.iload_n 1, 1) := by decide +kernel
theorem dX9_cost_25 : decode cX9_cost 25 = .ok (.iload_n 2, 1) := by decide +kernel
theorem dX9_cost_26 : decode cX9_cost 26 = .ok (.invokevirtual 87, 3) := by decide +kernel
theorem dX9_cost_29 : decode cX9_cost 29 = .ok (.goto 5, 3) := by decide +kernel
theorem dX9_cost_32 : decode cX9_cost 32 = .ok (.ldc 145, 2) := by decide +kernel
theorem dX9_cost_34 : decode cX9_cost 34 = .ok (.ireturn, 1) := by decide +kernel
theorem dX9_of_0 : decode cX9_of 0 = .ok (.iload_n 1, 1) := by decide +kernel
theorem dX9_of_1 : decode cX9_of 1 = .ok (.invokestatic 210, 3) := by decide +kernel
theorem dX9_of_4 : decode cX9_of 4 = .ok (.ifCond .ne 6, 3) := by decide +kernel
theorem dX9_of_7 : decode cX9_of 7 = .ok (.ldc 145, 2) := by decide +kernel
theorem dX9_of_9 : decode cX9_of 9 = .ok (.ireturn, 1) := by decide +kernel
theorem dX9_of_10 : decode cX9_of 10 = .ok (.iload_n 2, 1) := by decide +kernel
theorem dX9_of_11 : decode cX9_of 11 = .ok (.tableswitch 152 0 9 #[53, 59, 78, 88, 98, 108, 114, 114, 131, 131], 53) := by decide +kernel
theorem dX9_of_64 : decode cX9_of 64 = .ok (.aload_n 0, 1) := by decide +kernel
theorem dX9_of_65 : decode cX9_of 65 = .ok (.iload_n 1, 1) := by decide +kernel
theorem dX9_of_66 : decode cX9_of 66 = .ok (.invokevirtual 116, 3) := by decide +kernel
theorem dX9_of_69 : decode cX9_of 69 = .ok (.ireturn, 1) := by decide +kernel
theorem dX9_of_70 : decode cX9_of 70 = .ok (.aload_n 0, 1) := by decide +kernel
theorem dX9_of_71 : decode cX9_of 71 = .ok (.aload_n 0, 1) := by decide +kernel
theorem dX9_of_72 : decode cX9_of 72 = .ok (.getfield 7, 3) := by decide +kernel
theorem dX9_of_75 : decode cX9_of 75 = .ok (.sipush 192, 3) := by decide +kernel
theorem dX9_of_78 : decode cX9_of 78 = .ok (.iaload, 1) := by decide +kernel
theorem dX9_of_79 : decode cX9_of 79 = .ok (.iload_n 1, 1) := by decide +kernel
theorem dX9_of_80 : decode cX9_of 80 = .ok (.aload_n 0, 1) := by decide +kernel
theorem dX9_of_81 : decode cX9_of 81 = .ok (.iload_n 1, 1) := by decide +kernel
theorem dX9_of_82 : decode cX9_of 82 = .ok (.invokevirtual 116, 3) := by decide +kernel
theorem dX9_of_85 : decode cX9_of 85 = .ok (.invokevirtual 87, 3) := by decide +kernel
theorem dX9_of_88 : decode cX9_of 88 = .ok (.ireturn, 1) := by decide +kernel
theorem dX9_of_89 : decode cX9_of 89 = .ok (.aload_n 0, 1) := by decide +kernel
theorem dX9_of_90 : decode cX9_of 90 = .ok (.iload_n 1, 1) := by decide +kernel
theorem dX9_of_91 : decode cX9_of 91 = .ok (.invokevirtual 218, 3) := by decide +kernel
theorem dX9_of_94 : decode cX9_of 94 = .ok (.aload_n 0, 1) := by decide +kernel
theorem dX9_of_95 : decode cX9_of 95 = .ok (.getfield 93, 3) := by decide +kernel
theorem dX9_of_98 : decode cX9_of 98 = .ok (.ireturn, 1) := by decide +kernel
theorem dX9_of_99 : decode cX9_of 99 = .ok (.aload_n 0, 1) := by decide +kernel
theorem dX9_of_100 : decode cX9_of 100 = .ok (.iload_n 1, 1) := by decide +kernel
theorem dX9_of_101 : decode cX9_of 101 = .ok (.invokevirtual 218, 3) := by decide +kernel
theorem dX9_of_104 : decode cX9_of 104 = .ok (.aload_n 0, 1) := by decide +kernel
theorem dX9_of_105 : decode cX9_of 105 = .ok (.getfield 96, 3) := by decide +kernel
theorem dX9_of_108 : decode cX9_of 108 = .ok (.ireturn, 1) := by decide +kernel
theorem dX9_of_109 : decode cX9_of 109 = .ok (.aload_n 0, 1) := by decide +kernel
theorem dX9_of_110 : decode cX9_of 110 = .ok (.iload_n 1, 1) := by decide +kernel
theorem dX9_of_111 : decode cX9_of 111 = .ok (.invokevirtual 218, 3) := by decide +kernel
theorem dX9_of_114 : decode cX9_of 114 = .ok (.aload_n 0, 1) := by decide +kernel
theorem dX9_of_115 : decode cX9_of 115 = .ok (.getfield 99, 3) := by decide +kernel
theorem dX9_of_118 : decode cX9_of 118 = .ok (.ireturn, 1) := by decide +kernel
theorem dX9_of_119 : decode cX9_of 119 = .ok (.aload_n 0, 1) := by decide +kernel
theorem dX9_of_120 : decode cX9_of 120 = .ok (.iload_n 1, 1) := by decide +kernel
theorem dX9_of_121 : decode cX9_of 121 = .ok (.invokevirtual 146, 3) := by decide +kernel
theorem dX9_of_124 : decode cX9_of 124 = .ok (.ireturn, 1) := by decide +kernel
theorem dX9_of_125 : decode cX9_of 125 = .ok (.aload_n 0, 1) := by decide +kernel
theorem dX9_of_126 : decode cX9_of 126 = .ok (.iload_n 1, 1) := by decide +kernel
theorem dX9_of_127 : decode cX9_of 127 = .ok (.iload_n 2, 1) := by decide +kernel
theorem dX9_of_128 : decode cX9_of 128 = .ok (.bipush 6, 2) := by decide +kernel
theorem dX9_of_130 : decode cX9_of 130 = .ok (.if_icmp .ne 7, 3) := by decide +kernel
theorem dX9_of_133 : decode cX9_of 133 = .ok (.iconst 1, 1) := by decide +kernel
theorem dX9_of_134 : decode cX9_of 134 = .ok (.goto 4, 3) := by decide +kernel
theorem dX9_of_137 : decode cX9_of 137 = .ok (.iconst 0, 1) := by decide +kernel
theorem dX9_of_138 : decode cX9_of 138 = .ok (.invokevirtual 222, 3) := by decide +kernel
theorem dX9_of_141 : decode cX9_of 141 = .ok (.ireturn, 1) := by decide +kernel
theorem dX9_of_142 : decode cX9_of 142 = .ok (.aload_n 0, 1) := by decide +kernel
theorem dX9_of_143 : decode cX9_of 143 = .ok (.invokevirtual 126, 3) := by decide +kernel
theorem dX9_of_146 : decode cX9_of 146 = .ok (.aload_n 0, 1) := by decide +kernel
theorem dX9_of_147 : decode cX9_of 147 = .ok (.iload_n 1, 1) := by decide +kernel
theorem dX9_of_148 : decode cX9_of 148 = .ok (.iload_n 2, 1) := by decide +kernel
theorem dX9_of_149 : decode cX9_of 149 = .ok (.bipush 8, 2) := by decide +kernel
theorem dX9_of_151 : decode cX9_of 151 = .ok (.if_icmp .ne 7, 3) := by decide +kernel
theorem dX9_of_154 : decode cX9_of 154 = .ok (.iconst 1, 1) := by decide +kernel
theorem dX9_of_155 : decode cX9_of 155 = .ok (.goto 4, 3) := by decide +kernel
theorem dX9_of_158 : decode cX9_of 158 = .ok (.iconst 0, 1) := by decide +kernel
theorem dX9_of_159 : decode cX9_of 159 = .ok (.invokevirtual 129, 3) := by decide +kernel
theorem dX9_of_162 : decode cX9_of 162 = .ok (.ireturn, 1) := by decide +kernel
theorem dX9_of_163 : decode cX9_of 163 = .ok (.ldc 145, 2) := by decide +kernel
theorem dX9_of_165 : decode cX9_of 165 = .ok (.ireturn, 1) := by decide +kernel
theorem dX9_rebuilt_0 : decode cX9_rebuilt 0 = .ok (.iload_n 1, 1) := by decide +kernel
theorem dX9_rebuilt_1 : decode cX9_rebuilt 1 = .ok (.i2l, 1) := by decide +kernel
theorem dX9_rebuilt_2 : decode cX9_rebuilt 2 = .ok (.lconst 0, 1) := by decide +kernel
theorem dX9_rebuilt_3 : decode cX9_rebuilt 3 = .ok (.ldc2_w 189, 3) := by decide +kernel
theorem dX9_rebuilt_6 : decode cX9_rebuilt 6 = .ok (.invokestatic 70, 3) := by decide +kernel
theorem dX9_rebuilt_9 : decode cX9_rebuilt 9 = .ok (.ifCond .eq 15, 3) := by decide +kernel
theorem dX9_rebuilt_12 : decode cX9_rebuilt 12 = .ok (.iload_n 2, 1) := by decide +kernel
theorem dX9_rebuilt_13 : decode cX9_rebuilt 13 = .ok (.i2l, 1) := by decide +kernel
theorem dX9_rebuilt_14 : decode cX9_rebuilt 14 = .ok (.lconst 0, 1) := by decide +kernel
theorem dX9_rebuilt_15 : decode cX9_rebuilt 15 = .ok (.ldc2_w 191, 3) := by decide +kernel
theorem dX9_rebuilt_18 : decode cX9_rebuilt 18 = .ok (.invokestatic 70, 3) := by decide +kernel
theorem dX9_rebuilt_21 : decode cX9_rebuilt 21 = .ok (.ifCond .ne 6, 3) := by decide +kernel
theorem dX9_rebuilt_24 : decode cX9_rebuilt 24 = .ok (.ldc 145, 2) := by decide +kernel
theorem dX9_rebuilt_26 : decode cX9_rebuilt 26 = .ok (.ireturn, 1) := by decide +kernel
theorem dX9_rebuilt_27 : decode cX9_rebuilt 27 = .ok (.aload_n 0, 1) := by decide +kernel
theorem dX9_rebuilt_28 : decode cX9_rebuilt 28 = .ok (.invokevirtual 126, 3) := by decide +kernel
theorem dX9_rebuilt_31 : decode cX9_rebuilt 31 = .ok (.aload_n 0, 1) := by decide +kernel
theorem dX9_rebuilt_32 : decode cX9_rebuilt 32 = .ok (.iload_n 1, 1) := by decide +kernel
theorem dX9_rebuilt_33 : decode cX9_rebuilt 33 = .ok (.iload_n 2, 1) := by decide +kernel
theorem dX9_rebuilt_34 : decode cX9_rebuilt 34 = .ok (.invokevirtual 135, 3) := by decide +kernel
theorem dX9_rebuilt_37 : decode cX9_rebuilt 37 = .ok (.ireturn, 1) := by decide +kernel
theorem dX9_wrong_0 : decode cX9_wrong 0 = .ok (.iload_n 1, 1) := by decide +kernel
theorem dX9_wrong_1 : decode cX9_wrong 1 = .ok (.i2l, 1) := by decide +kernel
theorem dX9_wrong_2 : decode cX9_wrong 2 = .ok (.lconst 0, 1) := by decide +kernel
theorem dX9_wrong_3 : decode cX9_wrong 3 = .ok (.ldc2_w 225, 3) := by decide +kernel
theorem dX9_wrong_6 : decode cX9_wrong 6 = .ok (.invokestatic 70, 3) := by decide +kernel
theorem dX9_wrong_9 : decode cX9_wrong 9 = .ok (.ifCond .eq 25, 3) := by decide +kernel
theorem dX9_wrong_12 : decode cX9_wrong 12 = .ok (.iload_n 2, 1) := by decide +kernel
theorem dX9_wrong_13 : decode cX9_wrong 13 = .ok (.i2l, 1) := by decide +kernel
theorem dX9_wrong_14 : decode cX9_wrong 14 = .ok (.lconst 0, 1) := by decide +kernel
theorem dX9_wrong_15 : decode cX9_wrong 15 = .ok (.ldc2_w 143, 3) := by decide +kernel
theorem dX9_wrong_18 : decode cX9_wrong 18 = .ok (.invokestatic 70, 3) := by decide +kernel
theorem dX9_wrong_21 : decode cX9_wrong 21 = .ok (.ifCond .eq 13, 3) := by decide +kernel
theorem dX9_wrong_24 : decode cX9_wrong 24 = .ok (.iload_n 3, 1) := by decide +kernel
theorem dX9_wrong_25 : decode cX9_wrong 25 = .ok (.i2l, 1) := by decide +kernel
theorem dX9_wrong_26 : decode cX9_wrong 26 = .ok (.lconst 0, 1) := by decide +kernel
theorem dX9_wrong_27 : decode cX9_wrong 27 = .ok (.lconst 1, 1) := by decide +kernel
theorem dX9_wrong_28 : decode cX9_wrong 28 = .ok (.invokestatic 70, 3) := by decide +kernel
theorem dX9_wrong_31 : decode cX9_wrong 31 = .ok (.ifCond .ne 6, 3) := by decide +kernel
theorem dX9_wrong_34 : decode cX9_wrong 34 = .ok (.ldc 145, 2) := by decide +kernel
theorem dX9_wrong_36 : decode cX9_wrong 36 = .ok (.ireturn, 1) := by decide +kernel
theorem dX9_wrong_37 : decode cX9_wrong 37 = .ok (.iconst 0, 1) := by decide +kernel
theorem dX9_wrong_38 : decode cX9_wrong 38 = .ok (.istore 4, 2) := by decide +kernel
theorem dX9_wrong_40 : decode cX9_wrong 40 = .ok (.iload 4, 2) := by decide +kernel
theorem dX9_wrong_42 : decode cX9_wrong 42 = .ok (.iload_n 1, 1) := by decide +kernel
theorem dX9_wrong_43 : decode cX9_wrong 43 = .ok (.if_icmp .ge 26, 3) := by decide +kernel
theorem dX9_wrong_46 : decode cX9_wrong 46 = .ok (.aload_n 0, 1) := by decide +kernel
theorem dX9_wrong_47 : decode cX9_wrong 47 = .ok (.getfield 22, 3) := by decide +kernel
theorem dX9_wrong_50 : decode cX9_wrong 50 = .ok (.iload 4, 2) := by decide +kernel
theorem dX9_wrong_52 : decode cX9_wrong 52 = .ok (.aload_n 0, 1) := by decide +kernel
theorem dX9_wrong_53 : decode cX9_wrong 53 = .ok (.getfield 7, 3) := by decide +kernel
theorem dX9_wrong_56 : decode cX9_wrong 56 = .ok (.bipush 96, 2) := by decide +kernel
theorem dX9_wrong_58 : decode cX9_wrong 58 = .ok (.iload 4, 2) := by decide +kernel
theorem dX9_wrong_60 : decode cX9_wrong 60 = .ok (.iadd, 1) := by decide +kernel
theorem dX9_wrong_61 : decode cX9_wrong 61 = .ok (.iaload, 1) := by decide +kernel
theorem dX9_wrong_62 : decode cX9_wrong 62 = .ok (.iastore, 1) := by decide +kernel
theorem dX9_wrong_63 : decode cX9_wrong 63 = .ok (.iinc 4 1, 3) := by decide +kernel
theorem dX9_wrong_66 : decode cX9_wrong 66 = .ok (.goto (-26), 3) := by decide +kernel
theorem dX9_wrong_69 : decode cX9_wrong 69 = .ok (.aload_n 0, 1) := by decide +kernel
theorem dX9_wrong_70 : decode cX9_wrong 70 = .ok (.iconst 0, 1) := by decide +kernel
theorem dX9_wrong_71 : decode cX9_wrong 71 = .ok (.invokevirtual 116, 3) := by decide +kernel
theorem dX9_wrong_74 : decode cX9_wrong 74 = .ok (.istore 4, 2) := by decide +kernel
theorem dX9_wrong_76 : decode cX9_wrong 76 = .ok (.iconst 0, 1) := by decide +kernel
theorem dX9_wrong_77 : decode cX9_wrong 77 = .ok (.istore 5, 2) := by decide +kernel
theorem dX9_wrong_79 : decode cX9_wrong 79 = .ok (.iconst 0, 1) := by decide +kernel
theorem dX9_wrong_80 : decode cX9_wrong 80 = .ok (.istore 6, 2) := by decide +kernel
theorem dX9_wrong_82 : decode cX9_wrong 82 = .ok (.iconst 0, 1) := by decide +kernel
theorem dX9_wrong_83 : decode cX9_wrong 83 = .ok (.istore 7, 2) := by decide +kernel
theorem dX9_wrong_85 : decode cX9_wrong 85 = .ok (.iload 7, 2) := by decide +kernel
theorem dX9_wrong_87 : decode cX9_wrong 87 = .ok (.iconst 1, 1) := by decide +kernel
theorem dX9_wrong_88 : decode cX9_wrong 88 = .ok (.iload_n 1, 1) := by decide +kernel
theorem dX9_wrong_89 : decode cX9_wrong 89 = .ok (.ishl, 1) := by decide +kernel
theorem dX9_wrong_90 : decode cX9_wrong 90 = .ok (.if_icmp .ge 131, 3) := by decide +kernel
theorem dX9_wrong_93 : decode cX9_wrong 93 = .ok (.iconst 1, 1) := by decide +kernel
theorem dX9_wrong_94 : decode cX9_wrong 94 = .ok (.istore 8, 2) := by decide +kernel
theorem dX9_wrong_96 : decode cX9_wrong 96 = .ok (.iconst 0, 1) := by decide +kernel
theorem dX9_wrong_97 : decode cX9_wrong 97 = .ok (.istore 9, 2) := by decide +kernel
theorem dX9_wrong_99 : decode cX9_wrong 99 = .ok (.iload 9, 2) := by decide +kernel
theorem dX9_wrong_101 : decode cX9_wrong 101 = .ok (.iload_n 1, 1) := by decide +kernel
theorem dX9_wrong_102 : decode cX9_wrong 102 = .ok (.if_icmp .ge 80, 3) := by decide +kernel
theorem dX9_wrong_105 : decode cX9_wrong 105 = .ok (.iload 7, 2) := by decide +kernel
theorem dX9_wrong_107 : decode cX9_wrong 107 = .ok (.iload 9, 2) := by decide +kernel
theorem dX9_wrong_109 : decode cX9_wrong 109 = .ok (.ishr, 1) := by decide +kernel
theorem dX9_wrong_110 : decode cX9_wrong 110 = .ok (.iconst 1, 1) := by decide +kernel
theorem dX9_wrong_111 : decode cX9_wrong 111 = .ok (.iand, 1) := by decide +kernel
theorem dX9_wrong_112 : decode cX9_wrong 112 = .ok (.iconst 1, 1) := by decide +kernel
theorem dX9_wrong_113 : decode cX9_wrong 113 = .ok (.if_icmp .ne 7, 3) := by decide +kernel
theorem dX9_wrong_116 : decode cX9_wrong 116 = .ok (.iconst 1, 1) := by decide +kernel
theorem dX9_wrong_117 : decode cX9_wrong 117 = .ok (.goto 4, 3) := by decide +kernel
theorem dX9_wrong_120 : decode cX9_wrong 120 = .ok (.iconst 0, 1) := by decide +kernel
theorem dX9_wrong_121 : decode cX9_wrong 121 = .ok (.istore 10, 2) := by decide +kernel
theorem dX9_wrong_123 : decode cX9_wrong 123 = .ok (.iload 8, 2) := by decide +kernel
theorem dX9_wrong_125 : decode cX9_wrong 125 = .ok (.iload 10, 2) := by decide +kernel
theorem dX9_wrong_127 : decode cX9_wrong 127 = .ok (.ifCond .eq 7, 3) := by decide +kernel
theorem dX9_wrong_130 : decode cX9_wrong 130 = .ok (.iload_n 2, 1) := by decide +kernel
theorem dX9_wrong_131 : decode cX9_wrong 131 = .ok (.goto 7, 3) := by decide +kernel
theorem dX9_wrong_134 : decode cX9_wrong 134 = .ok (.bipush 10, 2) := by decide +kernel
theorem dX9_wrong_136 : decode cX9_wrong 136 = .ok (.iload_n 2, 1) := by decide +kernel
theorem dX9_wrong_137 : decode cX9_wrong 137 = .ok (.isub, 1) := by decide +kernel
theorem dX9_wrong_138 : decode cX9_wrong 138 = .ok (.imul, 1) := by decide +kernel
theorem dX9_wrong_139 : decode cX9_wrong 139 = .ok (.istore 8, 2) := by decide +kernel
theorem dX9_wrong_141 : decode cX9_wrong 141 = .ok (.aload_n 0, 1) := by decide +kernel
theorem dX9_wrong_142 : decode cX9_wrong 142 = .ok (.getfield 7, 3) := by decide +kernel
theorem dX9_wrong_145 : decode cX9_wrong 145 = .ok (.bipush 96, 2) := by decide +kernel
theorem dX9_wrong_147 : decode cX9_wrong 147 = .ok (.iload 9, 2) := by decide +kernel
theorem dX9_wrong_149 : decode cX9_wrong 149 = .ok (.iadd, 1) := by decide +kernel
theorem dX9_wrong_150 : decode cX9_wrong 150 = .ok (.iload 10, 2) := by decide +kernel
theorem dX9_wrong_152 : decode cX9_wrong 152 = .ok (.ifCond .eq 16, 3) := by decide +kernel
theorem dX9_wrong_155 : decode cX9_wrong 155 = .ok (.bipush 9, 2) := by decide +kernel
theorem dX9_wrong_157 : decode cX9_wrong 157 = .ok (.aload_n 0, 1) := by decide +kernel
theorem dX9_wrong_158 : decode cX9_wrong 158 = .ok (.getfield 22, 3) := by decide +kernel
theorem dX9_wrong_161 : decode cX9_wrong 161 = .ok (.iload 9, 2) := by decide +kernel
theorem dX9_wrong_163 : decode cX9_wrong 163 = .ok (.iaload, 1) := by decide +kernel
theorem dX9_wrong_164 : decode cX9_wrong 164 = .ok (.isub, 1) := by decide +kernel
theorem dX9_wrong_165 : decode cX9_wrong 165 = .ok (.goto 10, 3) := by decide +kernel
theorem dX9_wrong_168 : decode cX9_wrong 168 = .ok (.aload_n 0, 1) := by decide +kernel
theorem dX9_wrong_169 : decode cX9_wrong 169 = .ok (.getfield 22, 3) := by decide +kernel
theorem dX9_wrong_172 : decode cX9_wrong 172 = .ok (.iload 9, 2) := by decide +kernel
theorem dX9_wrong_174 : decode cX9_wrong 174 = .ok (.iaload, 1) := by decide +kernel
theorem dX9_wrong_175 : decode cX9_wrong 175 = .ok (.iastore, 1) := by decide +kernel
theorem dX9_wrong_176 : decode cX9_wrong 176 = .ok (.iinc 9 1, 3) := by decide +kernel
theorem dX9_wrong_179 : decode cX9_wrong 179 = .ok (.goto (-80), 3) := by decide +kernel
theorem dX9_wrong_182 : decode cX9_wrong 182 = .ok (.iload 6, 2) := by decide +kernel
theorem dX9_wrong_184 : decode cX9_wrong 184 = .ok (.iload 8, 2) := by decide +kernel
theorem dX9_wrong_186 : decode cX9_wrong 186 = .ok (.iadd, 1) := by decide +kernel
theorem dX9_wrong_187 : decode cX9_wrong 187 = .ok (.istore 6, 2) := by decide +kernel
theorem dX9_wrong_189 : decode cX9_wrong 189 = .ok (.iload 5, 2) := by decide +kernel
theorem dX9_wrong_191 : decode cX9_wrong 191 = .ok (.iload 8, 2) := by decide +kernel
theorem dX9_wrong_193 : decode cX9_wrong 193 = .ok (.ifCond .le 18, 3) := by decide +kernel
theorem dX9_wrong_196 : decode cX9_wrong 196 = .ok (.aload_n 0, 1) := by decide +kernel
theorem dX9_wrong_197 : decode cX9_wrong 197 = .ok (.iconst 0, 1) := by decide +kernel
theorem dX9_wrong_198 : decode cX9_wrong 198 = .ok (.invokevirtual 116, 3) := by decide +kernel
theorem dX9_wrong_201 : decode cX9_wrong 201 = .ok (.iload 4, 2) := by decide +kernel
theorem dX9_wrong_203 : decode cX9_wrong 203 = .ok (.if_icmp .eq 8, 3) := by decide +kernel
theorem dX9_wrong_206 : decode cX9_wrong 206 = .ok (.iload 8, 2) := by decide +kernel
theorem dX9_wrong_208 : decode cX9_wrong 208 = .ok (.goto 4, 3) := by decide +kernel
theorem dX9_wrong_211 : decode cX9_wrong 211 = .ok (.iconst 0, 1) := by decide +kernel
theorem dX9_wrong_212 : decode cX9_wrong 212 = .ok (.iadd, 1) := by decide +kernel
theorem dX9_wrong_213 : decode cX9_wrong 213 = .ok (.istore 5, 2) := by decide +kernel
theorem dX9_wrong_215 : decode cX9_wrong 215 = .ok (.iinc 7 1, 3) := by decide +kernel
theorem dX9_wrong_218 : decode cX9_wrong 218 = .ok (.goto (-133), 3) := by decide +kernel
theorem dX9_wrong_221 : decode cX9_wrong 221 = .ok (.iconst 0, 1) := by decide +kernel
theorem dX9_wrong_222 : decode cX9_wrong 222 = .ok (.istore 7, 2) := by decide +kernel
theorem dX9_wrong_224 : decode cX9_wrong 224 = .ok (.iload 7, 2) := by decide +kernel
theorem dX9_wrong_226 : decode cX9_wrong 226 = .ok (.iload_n 1, 1) := by decide +kernel
theorem dX9_wrong_227 : decode cX9_wrong 227 = .ok (.if_icmp .ge 26, 3) := by decide +kernel
theorem dX9_wrong_230 : decode cX9_wrong 230 = .ok (.aload_n 0, 1) := by decide +kernel
theorem dX9_wrong_231 : decode cX9_wrong 231 = .ok (.getfield 7, 3) := by decide +kernel
theorem dX9_wrong_234 : decode cX9_wrong 234 = .ok (.bipush 96, 2) := by decide +kernel
theorem dX9_wrong_236 : decode cX9_wrong 236 = .ok (.iload 7, 2) := by decide +kernel
theorem dX9_wrong_238 : decode cX9_wrong 238 = .ok (.iadd, 1) := by decide +kernel
theorem dX9_wrong_239 : decode cX9_wrong 239 = .ok (.aload_n 0, 1) := by decide +kernel
theorem dX9_wrong_240 : decode cX9_wrong 240 = .ok (.getfield 22, 3) := by decide +kernel
theorem dX9_wrong_243 : decode cX9_wrong 243 = .ok (.iload 7, 2) := by decide +kernel
theorem dX9_wrong_245 : decode cX9_wrong 245 = .ok (.iaload, 1) := by decide +kernel
theorem dX9_wrong_246 : decode cX9_wrong 246 = .ok (.iastore, 1) := by decide +kernel
theorem dX9_wrong_247 : decode cX9_wrong 247 = .ok (.iinc 7 1, 3) := by decide +kernel
theorem dX9_wrong_250 : decode cX9_wrong 250 = .ok (.goto (-26), 3) := by decide +kernel
theorem dX9_wrong_253 : decode cX9_wrong 253 = .ok (.iload 5, 2) := by decide +kernel
theorem dX9_wrong_255 : decode cX9_wrong 255 = .ok (.istore 7, 2) := by decide +kernel
theorem dX9_wrong_257 : decode cX9_wrong 257 = .ok (.iload 6, 2) := by decide +kernel
theorem dX9_wrong_259 : decode cX9_wrong 259 = .ok (.istore 8, 2) := by decide +kernel
theorem dX9_wrong_261 : decode cX9_wrong 261 = .ok (.iload 8, 2) := by decide +kernel
theorem dX9_wrong_263 : decode cX9_wrong 263 = .ok (.ifCond .eq 21, 3) := by decide +kernel
theorem dX9_wrong_266 : decode cX9_wrong 266 = .ok (.iload 7, 2) := by decide +kernel
theorem dX9_wrong_268 : decode cX9_wrong 268 = .ok (.iload 8, 2) := by decide +kernel
theorem dX9_wrong_270 : decode cX9_wrong 270 = .ok (.irem, 1) := by decide +kernel
theorem dX9_wrong_271 : decode cX9_wrong 271 = .ok (.istore 9, 2) := by decide +kernel
theorem dX9_wrong_273 : decode cX9_wrong 273 = .ok (.iload 8, 2) := by decide +kernel
theorem dX9_wrong_275 : decode cX9_wrong 275 = .ok (.istore 7, 2) := by decide +kernel
theorem dX9_wrong_277 : decode cX9_wrong 277 = .ok (.iload 9, 2) := by decide +kernel
theorem dX9_wrong_279 : decode cX9_wrong 279 = .ok (.istore 8, 2) := by decide +kernel
theorem dX9_wrong_281 : decode cX9_wrong 281 = .ok (.goto (-20), 3) := by decide +kernel
theorem dX9_wrong_284 : decode cX9_wrong 284 = .ok (.iload_n 3, 1) := by decide +kernel
theorem dX9_wrong_285 : decode cX9_wrong 285 = .ok (.ifCond .ne 8, 3) := by decide +kernel
theorem dX9_wrong_288 : decode cX9_wrong 288 = .ok (.iload 5, 2) := by decide +kernel
theorem dX9_wrong_290 : decode cX9_wrong 290 = .ok (.goto 5, 3) := by decide +kernel
theorem dX9_wrong_293 : decode cX9_wrong 293 = .ok (.iload 6, 2) := by decide +kernel
theorem dX9_wrong_295 : decode cX9_wrong 295 = .ok (.iload 7, 2) := by decide +kernel
theorem dX9_wrong_297 : decode cX9_wrong 297 = .ok (.idiv, 1) := by decide +kernel
theorem dX9_wrong_298 : decode cX9_wrong 298 = .ok (.ireturn, 1) := by decide +kernel
theorem dX9_image_0 : decode cX9_image 0 = .ok (.iconst 0, 1) := by decide +kernel
theorem dX9_image_1 : decode cX9_image 1 = .ok (.istore_n 1, 1) := by decide +kernel
theorem dX9_image_2 : decode cX9_image 2 = .ok (.iload_n 1, 1) := by decide +kernel
theorem dX9_image_3 : decode cX9_image 3 = .ok (.sipush 194, 3) := by decide +kernel
theorem dX9_image_6 : decode cX9_image 6 = .ok (.if_icmp .ge 21, 3) := by decide +kernel
theorem dX9_image_9 : decode cX9_image 9 = .ok (.aload_n 0, 1) := by decide +kernel
theorem dX9_image_10 : decode cX9_image 10 = .ok (.getfield 28, 3) := by decide +kernel
theorem dX9_image_13 : decode cX9_image 13 = .ok (.iload_n 1, 1) := by decide +kernel
theorem dX9_image_14 : decode cX9_image 14 = .ok (.aload_n 0, 1) := by decide +kernel
theorem dX9_image_15 : decode cX9_image 15 = .ok (.getfield 7, 3) := by decide +kernel
theorem dX9_image_18 : decode cX9_image 18 = .ok (.iload_n 1, 1) := by decide +kernel
theorem dX9_image_19 : decode cX9_image 19 = .ok (.iaload, 1) := by decide +kernel
theorem dX9_image_20 : decode cX9_image 20 = .ok (.iastore, 1) := by decide +kernel
theorem dX9_image_21 : decode cX9_image 21 = .ok (.iinc 1 1, 3) := by decide +kernel
theorem dX9_image_24 : decode cX9_image 24 = .ok (.goto (-22), 3) := by decide +kernel
theorem dX9_image_27 : decode cX9_image 27 = .ok (.iconst 0, 1) := by decide +kernel
theorem dX9_image_28 : decode cX9_image 28 = .ok (.istore_n 1, 1) := by decide +kernel
theorem dX9_image_29 : decode cX9_image 29 = .ok (.iload_n 1, 1) := by decide +kernel
theorem dX9_image_30 : decode cX9_image 30 = .ok (.sipush 1552, 3) := by decide +kernel
theorem dX9_image_33 : decode cX9_image 33 = .ok (.if_icmp .ge 21, 3) := by decide +kernel
theorem dX9_image_36 : decode cX9_image 36 = .ok (.aload_n 0, 1) := by decide +kernel
theorem dX9_image_37 : decode cX9_image 37 = .ok (.getfield 31, 3) := by decide +kernel
theorem dX9_image_40 : decode cX9_image 40 = .ok (.iload_n 1, 1) := by decide +kernel
theorem dX9_image_41 : decode cX9_image 41 = .ok (.aload_n 0, 1) := by decide +kernel
theorem dX9_image_42 : decode cX9_image 42 = .ok (.getfield 25, 3) := by decide +kernel
theorem dX9_image_45 : decode cX9_image 45 = .ok (.iload_n 1, 1) := by decide +kernel
theorem dX9_image_46 : decode cX9_image 46 = .ok (.iaload, 1) := by decide +kernel
theorem dX9_image_47 : decode cX9_image 47 = .ok (.iastore, 1) := by decide +kernel
theorem dX9_image_48 : decode cX9_image 48 = .ok (.iinc 1 1, 3) := by decide +kernel
theorem dX9_image_51 : decode cX9_image 51 = .ok (.goto (-22), 3) := by decide +kernel
theorem dX9_image_54 : decode cX9_image 54 = .ok (.aload_n 0, 1) := by decide +kernel
theorem dX9_image_55 : decode cX9_image 55 = .ok (.aload_n 0, 1) := by decide +kernel
theorem dX9_image_56 : decode cX9_image 56 = .ok (.getfield 166, 3) := by decide +kernel
theorem dX9_image_59 : decode cX9_image 59 = .ok (.putfield 34, 3) := by decide +kernel
theorem dX9_image_62 : decode cX9_image 62 = .ok (.iconst 1, 1) := by decide +kernel
theorem dX9_image_63 : decode cX9_image 63 = .ok (.ireturn, 1) := by decide +kernel
theorem dX9_restore_0 : decode cX9_restore 0 = .ok (.aload_n 0, 1) := by decide +kernel
theorem dX9_restore_1 : decode cX9_restore 1 = .ok (.getfield 34, 3) := by decide +kernel
theorem dX9_restore_4 : decode cX9_restore 4 = .ok (.ifCond .ge 6, 3) := by decide +kernel
theorem dX9_restore_7 : decode cX9_restore 7 = .ok (.ldc 108, 2) := by decide +kernel
theorem dX9_restore_9 : decode cX9_restore 9 = .ok (.ireturn, 1) := by decide +kernel
theorem dX9_restore_10 : decode cX9_restore 10 = .ok (.iconst 0, 1) := by decide +kernel
theorem dX9_restore_11 : decode cX9_restore 11 = .ok (.istore_n 1, 1) := by decide +kernel
theorem dX9_restore_12 : decode cX9_restore 12 = .ok (.iload_n 1, 1) := by decide +kernel
theorem dX9_restore_13 : decode cX9_restore 13 = .ok (.sipush 194, 3) := by decide +kernel
theorem dX9_restore_16 : decode cX9_restore 16 = .ok (.if_icmp .ge 21, 3) := by decide +kernel
theorem dX9_restore_19 : decode cX9_restore 19 = .ok (.aload_n 0, 1) := by decide +kernel
theorem dX9_restore_20 : decode cX9_restore 20 = .ok (.getfield 7, 3) := by decide +kernel
theorem dX9_restore_23 : decode cX9_restore 23 = .ok (.iload_n 1, 1) := by decide +kernel
theorem dX9_restore_24 : decode cX9_restore 24 = .ok (.aload_n 0, 1) := by decide +kernel
theorem dX9_restore_25 : decode cX9_restore 25 = .ok (.getfield 28, 3) := by decide +kernel
theorem dX9_restore_28 : decode cX9_restore 28 = .ok (.iload_n 1, 1) := by decide +kernel
theorem dX9_restore_29 : decode cX9_restore 29 = .ok (.iaload, 1) := by decide +kernel
theorem dX9_restore_30 : decode cX9_restore 30 = .ok (.iastore, 1) := by decide +kernel
theorem dX9_restore_31 : decode cX9_restore 31 = .ok (.iinc 1 1, 3) := by decide +kernel
theorem dX9_restore_34 : decode cX9_restore 34 = .ok (.goto (-22), 3) := by decide +kernel
theorem dX9_restore_37 : decode cX9_restore 37 = .ok (.iconst 0, 1) := by decide +kernel
theorem dX9_restore_38 : decode cX9_restore 38 = .ok (.istore_n 1, 1) := by decide +kernel
theorem dX9_restore_39 : decode cX9_restore 39 = .ok (.iload_n 1, 1) := by decide +kernel
theorem dX9_restore_40 : decode cX9_restore 40 = .ok (.sipush 1552, 3) := by decide +kernel
theorem dX9_restore_43 : decode cX9_restore 43 = .ok (.if_icmp .ge 21, 3) := by decide +kernel
theorem dX9_restore_46 : decode cX9_restore 46 = .ok (.aload_n 0, 1) := by decide +kernel
theorem dX9_restore_47 : decode cX9_restore 47 = .ok (.getfield 25, 3) := by decide +kernel
theorem dX9_restore_50 : decode cX9_restore 50 = .ok (.iload_n 1, 1) := by decide +kernel
theorem dX9_restore_51 : decode cX9_restore 51 = .ok (.aload_n 0, 1) := by decide +kernel
theorem dX9_restore_52 : decode cX9_restore 52 = .ok (.getfield 31, 3) := by decide +kernel
theorem dX9_restore_55 : decode cX9_restore 55 = .ok (.iload_n 1, 1) := by decide +kernel
theorem dX9_restore_56 : decode cX9_restore 56 = .ok (.iaload, 1) := by decide +kernel
theorem dX9_restore_57 : decode cX9_restore 57 = .ok (.iastore, 1) := by decide +kernel
theorem dX9_restore_58 : decode cX9_restore 58 = .ok (.iinc 1 1, 3) := by decide +kernel
theorem dX9_restore_61 : decode cX9_restore 61 = .ok (.goto (-22), 3) := by decide +kernel
theorem dX9_restore_64 : decode cX9_restore 64 = .ok (.aload_n 0, 1) := by decide +kernel
theorem dX9_restore_65 : decode cX9_restore 65 = .ok (.aload_n 0, 1) := by decide +kernel
theorem dX9_restore_66 : decode cX9_restore 66 = .ok (.getfield 34, 3) := by decide +kernel
theorem dX9_restore_69 : decode cX9_restore 69 = .ok (.putfield 166, 3) := by decide +kernel
theorem dX9_restore_72 : decode cX9_restore 72 = .ok (.iconst 1, 1) := by decide +kernel
theorem dX9_restore_73 : decode cX9_restore 73 = .ok (.ireturn, 1) := by decide +kernel
theorem dX9_isSheet_0 : decode cX9_isSheet 0 = .ok (.iload_n 0, 1) := by decide +kernel
theorem dX9_isSheet_1 : decode cX9_isSheet 1 = .ok (.i2l, 1) := by decide +kernel
theorem dX9_isSheet_2 : decode cX9_isSheet 2 = .ok (.lconst 0, 1) := by decide +kernel
theorem dX9_isSheet_3 : decode cX9_isSheet 3 = .ok (.ldc2_w 197, 3) := by decide +kernel
theorem dX9_isSheet_6 : decode cX9_isSheet 6 = .ok (.invokestatic 70, 3) := by decide +kernel
theorem dX9_isSheet_9 : decode cX9_isSheet 9 = .ok (.ireturn, 1) := by decide +kernel
theorem dX9_cut_0 : decode cX9_cut 0 = .ok (.iload_n 2, 1) := by decide +kernel
theorem dX9_cut_1 : decode cX9_cut 1 = .ok (.ifCond .ne 10, 3) := by decide +kernel
theorem dX9_cut_4 : decode cX9_cut 4 = .ok (.lload_n 0, 1) := by decide +kernel
theorem dX9_cut_5 : decode cX9_cut 5 = .ok (.l2i, 1) := by decide +kernel
theorem dX9_cut_6 : decode cX9_cut 6 = .ok (.i2b, 1) := by decide +kernel
theorem dX9_cut_7 : decode cX9_cut 7 = .ok (.i2l, 1) := by decide +kernel
theorem dX9_cut_8 : decode cX9_cut 8 = .ok (.goto 27, 3) := by decide +kernel
theorem dX9_cut_11 : decode cX9_cut 11 = .ok (.iload_n 2, 1) := by decide +kernel
theorem dX9_cut_12 : decode cX9_cut 12 = .ok (.iconst 1, 1) := by decide +kernel
theorem dX9_cut_13 : decode cX9_cut 13 = .ok (.if_icmp .ne 10, 3) := by decide +kernel
theorem dX9_cut_16 : decode cX9_cut 16 = .ok (.lload_n 0, 1) := by decide +kernel
theorem dX9_cut_17 : decode cX9_cut 17 = .ok (.l2i, 1) := by decide +kernel
theorem dX9_cut_18 : decode cX9_cut 18 = .ok (.i2s, 1) := by decide +kernel
theorem dX9_cut_19 : decode cX9_cut 19 = .ok (.i2l, 1) := by decide +kernel
theorem dX9_cut_20 : decode cX9_cut 20 = .ok (.goto 15, 3) := by decide +kernel
theorem dX9_cut_23 : decode cX9_cut 23 = .ok (.iload_n 2, 1) := by decide +kernel
theorem dX9_cut_24 : decode cX9_cut 24 = .ok (.iconst 2, 1) := by decide +kernel
theorem dX9_cut_25 : decode cX9_cut 25 = .ok (.if_icmp .ne 9, 3) := by decide +kernel
theorem dX9_cut_28 : decode cX9_cut 28 = .ok (.lload_n 0, 1) := by decide +kernel
theorem dX9_cut_29 : decode cX9_cut 29 = .ok (.l2i, 1) := by decide +kernel
theorem dX9_cut_30 : decode cX9_cut 30 = .ok (.i2l, 1) := by decide +kernel
theorem dX9_cut_31 : decode cX9_cut 31 = .ok (.goto 4, 3) := by decide +kernel
theorem dX9_cut_34 : decode cX9_cut 34 = .ok (.lload_n 0, 1) := by decide +kernel
theorem dX9_cut_35 : decode cX9_cut 35 = .ok (.lreturn, 1) := by decide +kernel
theorem dX9_sheet_0 : decode cX9_sheet 0 = .ok (.iload_n 1, 1) := by decide +kernel
theorem dX9_sheet_1 : decode cX9_sheet 1 = .ok (.invokestatic 227, 3) := by decide +kernel
theorem dX9_sheet_4 : decode cX9_sheet 4 = .ok (.ifCond .eq 21, 3) := by decide +kernel
theorem dX9_sheet_7 : decode cX9_sheet 7 = .ok (.iload_n 2, 1) := by decide +kernel
theorem dX9_sheet_8 : decode cX9_sheet 8 = .ok (.i2l, 1) := by decide +kernel
theorem dX9_sheet_9 : decode cX9_sheet 9 = .ok (.lconst 0, 1) := by decide +kernel
theorem dX9_sheet_10 : decode cX9_sheet 10 = .ok (.ldc2_w 197, 3) := by decide +kernel
theorem dX9_sheet_13 : decode cX9_sheet 13 = .ok (.invokestatic 70, 3) := by decide +kernel
theorem dX9_sheet_16 : decode cX9_sheet 16 = .ok (.ifCond .eq 9, 3) := by decide +kernel
theorem dX9_sheet_19 : decode cX9_sheet 19 = .ok (.iload_n 3, 1) := by decide +kernel
theorem dX9_sheet_20 : decode cX9_sheet 20 = .ok (.bipush 24, 2) := by decide +kernel
theorem dX9_sheet_22 : decode cX9_sheet 22 = .ok (.if_icmp .le 6, 3) := by decide +kernel
theorem dX9_sheet_25 : decode cX9_sheet 25 = .ok (.ldc 145, 2) := by decide +kernel
theorem dX9_sheet_27 : decode cX9_sheet 27 = .ok (.ireturn, 1) := by decide +kernel
theorem dX9_sheet_28 : decode cX9_sheet 28 = .ok (.iload_n 3, 1) := by decide +kernel
theorem dX9_sheet_29 : decode cX9_sheet 29 = .ok (.ifCond .ge 6, 3) := by decide +kernel
theorem dX9_sheet_32 : decode cX9_sheet 32 = .ok (.ldc 230, 2) := by decide +kernel
theorem dX9_sheet_34 : decode cX9_sheet 34 = .ok (.ireturn, 1) := by decide +kernel
theorem dX9_sheet_35 : decode cX9_sheet 35 = .ok (.aload_n 0, 1) := by decide +kernel
theorem dX9_sheet_36 : decode cX9_sheet 36 = .ok (.getfield 38, 3) := by decide +kernel
theorem dX9_sheet_39 : decode cX9_sheet 39 = .ok (.iload_n 1, 1) := by decide +kernel
theorem dX9_sheet_40 : decode cX9_sheet 40 = .ok (.iload_n 2, 1) := by decide +kernel
theorem dX9_sheet_41 : decode cX9_sheet 41 = .ok (.iastore, 1) := by decide +kernel
theorem dX9_sheet_42 : decode cX9_sheet 42 = .ok (.aload_n 0, 1) := by decide +kernel
theorem dX9_sheet_43 : decode cX9_sheet 43 = .ok (.getfield 41, 3) := by decide +kernel
theorem dX9_sheet_46 : decode cX9_sheet 46 = .ok (.iload_n 1, 1) := by decide +kernel
theorem dX9_sheet_47 : decode cX9_sheet 47 = .ok (.iload_n 3, 1) := by decide +kernel
theorem dX9_sheet_48 : decode cX9_sheet 48 = .ok (.iastore, 1) := by decide +kernel
theorem dX9_sheet_49 : decode cX9_sheet 49 = .ok (.iconst 0, 1) := by decide +kernel
theorem dX9_sheet_50 : decode cX9_sheet 50 = .ok (.istore 4, 2) := by decide +kernel
theorem dX9_sheet_52 : decode cX9_sheet 52 = .ok (.iload 4, 2) := by decide +kernel
theorem dX9_sheet_54 : decode cX9_sheet 54 = .ok (.bipush 24, 2) := by decide +kernel
theorem dX9_sheet_56 : decode cX9_sheet 56 = .ok (.if_icmp .ge 22, 3) := by decide +kernel
theorem dX9_sheet_59 : decode cX9_sheet 59 = .ok (.aload_n 0, 1) := by decide +kernel
theorem dX9_sheet_60 : decode cX9_sheet 60 = .ok (.getfield 44, 3) := by decide +kernel
theorem dX9_sheet_63 : decode cX9_sheet 63 = .ok (.bipush 24, 2) := by decide +kernel
theorem dX9_sheet_65 : decode cX9_sheet 65 = .ok (.iload_n 1, 1) := by decide +kernel
theorem dX9_sheet_66 : decode cX9_sheet 66 = .ok (.imul, 1) := by decide +kernel
theorem dX9_sheet_67 : decode cX9_sheet 67 = .ok (.iload 4, 2) := by decide +kernel
theorem dX9_sheet_69 : decode cX9_sheet 69 = .ok (.iadd, 1) := by decide +kernel
theorem dX9_sheet_70 : decode cX9_sheet 70 = .ok (.lconst 0, 1) := by decide +kernel
theorem dX9_sheet_71 : decode cX9_sheet 71 = .ok (.lastore, 1) := by decide +kernel
theorem dX9_sheet_72 : decode cX9_sheet 72 = .ok (.iinc 4 1, 3) := by decide +kernel
theorem dX9_sheet_75 : decode cX9_sheet 75 = .ok (.goto (-23), 3) := by decide +kernel
theorem dX9_sheet_78 : decode cX9_sheet 78 = .ok (.iload_n 3, 1) := by decide +kernel
theorem dX9_sheet_79 : decode cX9_sheet 79 = .ok (.ireturn, 1) := by decide +kernel
theorem dX9_drop_0 : decode cX9_drop 0 = .ok (.iload_n 1, 1) := by decide +kernel
theorem dX9_drop_1 : decode cX9_drop 1 = .ok (.invokestatic 227, 3) := by decide +kernel
theorem dX9_drop_4 : decode cX9_drop 4 = .ok (.ifCond .ne 6, 3) := by decide +kernel
theorem dX9_drop_7 : decode cX9_drop 7 = .ok (.ldc 145, 2) := by decide +kernel
theorem dX9_drop_9 : decode cX9_drop 9 = .ok (.ireturn, 1) := by decide +kernel
theorem dX9_drop_10 : decode cX9_drop 10 = .ok (.aload_n 0, 1) := by decide +kernel
theorem dX9_drop_11 : decode cX9_drop 11 = .ok (.getfield 38, 3) := by decide +kernel
theorem dX9_drop_14 : decode cX9_drop 14 = .ok (.iload_n 1, 1) := by decide +kernel
theorem dX9_drop_15 : decode cX9_drop 15 = .ok (.iaload, 1) := by decide +kernel
theorem dX9_drop_16 : decode cX9_drop 16 = .ok (.ifCond .ge 6, 3) := by decide +kernel
theorem dX9_drop_19 : decode cX9_drop 19 = .ok (.ldc 231, 2) := by decide +kernel
theorem dX9_drop_21 : decode cX9_drop 21 = .ok (.ireturn, 1) := by decide +kernel
theorem dX9_drop_22 : decode cX9_drop 22 = .ok (.aload_n 0, 1) := by decide +kernel
theorem dX9_drop_23 : decode cX9_drop 23 = .ok (.getfield 38, 3) := by decide +kernel
theorem dX9_drop_26 : decode cX9_drop 26 = .ok (.iload_n 1, 1) := by decide +kernel
theorem dX9_drop_27 : decode cX9_drop 27 = .ok (.iconst (-1), 1) := by decide +kernel
theorem dX9_drop_28 : decode cX9_drop 28 = .ok (.iastore, 1) := by decide +kernel
theorem dX9_drop_29 : decode cX9_drop 29 = .ok (.aload_n 0, 1) := by decide +kernel
theorem dX9_drop_30 : decode cX9_drop 30 = .ok (.getfield 41, 3) := by decide +kernel
theorem dX9_drop_33 : decode cX9_drop 33 = .ok (.iload_n 1, 1) := by decide +kernel
theorem dX9_drop_34 : decode cX9_drop 34 = .ok (.iaload, 1) := by decide +kernel
theorem dX9_drop_35 : decode cX9_drop 35 = .ok (.ireturn, 1) := by decide +kernel
theorem dX9_why_0 : decode cX9_why 0 = .ok (.aload_n 0, 1) := by decide +kernel
theorem dX9_why_1 : decode cX9_why 1 = .ok (.getfield 38, 3) := by decide +kernel
theorem dX9_why_4 : decode cX9_why 4 = .ok (.iload_n 1, 1) := by decide +kernel
theorem dX9_why_5 : decode cX9_why 5 = .ok (.iaload, 1) := by decide +kernel
theorem dX9_why_6 : decode cX9_why 6 = .ok (.ifCond .ge 6, 3) := by decide +kernel
theorem dX9_why_9 : decode cX9_why 9 = .ok (.ldc 231, 2) := by decide +kernel
theorem dX9_why_11 : decode cX9_why 11 = .ok (.ireturn, 1) := by decide +kernel
theorem dX9_why_12 : decode cX9_why 12 = .ok (.aload_n 0, 1) := by decide +kernel
theorem dX9_why_13 : decode cX9_why 13 = .ok (.getfield 38, 3) := by decide +kernel
theorem dX9_why_16 : decode cX9_why 16 = .ok (.iload_n 1, 1) := by decide +kernel
theorem dX9_why_17 : decode cX9_why 17 = .ok (.iaload, 1) := by decide +kernel
theorem dX9_why_18 : decode cX9_why 18 = .ok (.iload_n 2, 1) := by decide +kernel
theorem dX9_why_19 : decode cX9_why 19 = .ok (.if_icmp .eq 6, 3) := by decide +kernel
theorem dX9_why_22 : decode cX9_why 22 = .ok (.ldc 232, 2) := by decide +kernel
theorem dX9_why_24 : decode cX9_why 24 = .ok (.ireturn, 1) := by decide +kernel
theorem dX9_why_25 : decode cX9_why 25 = .ok (.iload_n 3, 1) := by decide +kernel
theorem dX9_why_26 : decode cX9_why 26 = .ok (.ifCond .lt 16, 3) := by decide +kernel
theorem dX9_why_29 : decode cX9_why 29 = .ok (.iload 4, 2) := by decide +kernel
theorem dX9_why_31 : decode cX9_why 31 = .ok (.aload_n 0, 1) := by decide +kernel
theorem dX9_why_32 : decode cX9_why 32 = .ok (.getfield 41, 3) := by decide +kernel
theorem dX9_why_35 : decode cX9_why 35 = .ok (.iload_n 1, 1) := by decide +kernel
theorem dX9_why_36 : decode cX9_why 36 = .ok (.iaload, 1) := by decide +kernel
theorem dX9_why_37 : decode cX9_why 37 = .ok (.iload_n 3, 1) := by decide +kernel
theorem dX9_why_38 : decode cX9_why 38 = .ok (.isub, 1) := by decide +kernel
theorem dX9_why_39 : decode cX9_why 39 = .ok (.if_icmp .le 8, 3) := by decide +kernel
theorem dX9_why_42 : decode cX9_why 42 = .ok (.ldc 233, 2) := by decide +kernel
theorem dX9_why_44 : decode cX9_why 44 = .ok (.goto 4, 3) := by decide +kernel
theorem dX9_why_47 : decode cX9_why 47 = .ok (.iconst 0, 1) := by decide +kernel
theorem dX9_why_48 : decode cX9_why 48 = .ok (.ireturn, 1) := by decide +kernel
theorem dX9_item_0 : decode cX9_item 0 = .ok (.iload_n 1, 1) := by decide +kernel
theorem dX9_item_1 : decode cX9_item 1 = .ok (.invokestatic 227, 3) := by decide +kernel
theorem dX9_item_4 : decode cX9_item 4 = .ok (.ifCond .eq 15, 3) := by decide +kernel
theorem dX9_item_7 : decode cX9_item 7 = .ok (.iload_n 2, 1) := by decide +kernel
theorem dX9_item_8 : decode cX9_item 8 = .ok (.i2l, 1) := by decide +kernel
theorem dX9_item_9 : decode cX9_item 9 = .ok (.lconst 0, 1) := by decide +kernel
theorem dX9_item_10 : decode cX9_item 10 = .ok (.ldc2_w 197, 3) := by decide +kernel
theorem dX9_item_13 : decode cX9_item 13 = .ok (.invokestatic 70, 3) := by decide +kernel
theorem dX9_item_16 : decode cX9_item 16 = .ok (.ifCond .ne 6, 3) := by decide +kernel
theorem dX9_item_19 : decode cX9_item 19 = .ok (.ldc 145, 2) := by decide +kernel
theorem dX9_item_21 : decode cX9_item 21 = .ok (.ireturn, 1) := by decide +kernel
theorem dX9_item_22 : decode cX9_item 22 = .ok (.aload_n 0, 1) := by decide +kernel
theorem dX9_item_23 : decode cX9_item 23 = .ok (.iload_n 1, 1) := by decide +kernel
theorem dX9_item_24 : decode cX9_item 24 = .ok (.iload_n 2, 1) := by decide +kernel
theorem dX9_item_25 : decode cX9_item 25 = .ok (.iload_n 3, 1) := by decide +kernel
theorem dX9_item_26 : decode cX9_item 26 = .ok (.iconst 1, 1) := by decide +kernel
theorem dX9_item_27 : decode cX9_item 27 = .ok (.invokevirtual 234, 3) := by decide +kernel
theorem dX9_item_30 : decode cX9_item 30 = .ok (.istore 6, 2) := by decide +kernel
theorem dX9_item_32 : decode cX9_item 32 = .ok (.iload 6, 2) := by decide +kernel
theorem dX9_item_34 : decode cX9_item 34 = .ok (.ifCond .ge 6, 3) := by decide +kernel
theorem dX9_item_37 : decode cX9_item 37 = .ok (.iload 6, 2) := by decide +kernel
theorem dX9_item_39 : decode cX9_item 39 = .ok (.ireturn, 1) := by decide +kernel
theorem dX9_item_40 : decode cX9_item 40 = .ok (.aload_n 0, 1) := by decide +kernel
theorem dX9_item_41 : decode cX9_item 41 = .ok (.getfield 44, 3) := by decide +kernel
theorem dX9_item_44 : decode cX9_item 44 = .ok (.bipush 24, 2) := by decide +kernel
theorem dX9_item_46 : decode cX9_item 46 = .ok (.iload_n 1, 1) := by decide +kernel
theorem dX9_item_47 : decode cX9_item 47 = .ok (.imul, 1) := by decide +kernel
theorem dX9_item_48 : decode cX9_item 48 = .ok (.iload_n 3, 1) := by decide +kernel
theorem dX9_item_49 : decode cX9_item 49 = .ok (.iadd, 1) := by decide +kernel
theorem dX9_item_50 : decode cX9_item 50 = .ok (.lload 4, 2) := by decide +kernel
theorem dX9_item_52 : decode cX9_item 52 = .ok (.iload_n 2, 1) := by decide +kernel
theorem dX9_item_53 : decode cX9_item 53 = .ok (.invokestatic 237, 3) := by decide +kernel
theorem dX9_item_56 : decode cX9_item 56 = .ok (.lastore, 1) := by decide +kernel
theorem dX9_item_57 : decode cX9_item 57 = .ok (.iconst 1, 1) := by decide +kernel
theorem dX9_item_58 : decode cX9_item 58 = .ok (.ireturn, 1) := by decide +kernel
theorem dX9_copy_0 : decode cX9_copy 0 = .ok (.iload_n 1, 1) := by decide +kernel
theorem dX9_copy_1 : decode cX9_copy 1 = .ok (.invokestatic 227, 3) := by decide +kernel
theorem dX9_copy_4 : decode cX9_copy 4 = .ok (.ifCond .eq 10, 3) := by decide +kernel
theorem dX9_copy_7 : decode cX9_copy 7 = .ok (.iload_n 3, 1) := by decide +kernel
theorem dX9_copy_8 : decode cX9_copy 8 = .ok (.invokestatic 227, 3) := by decide +kernel
theorem dX9_copy_11 : decode cX9_copy 11 = .ok (.ifCond .ne 6, 3) := by decide +kernel
theorem dX9_copy_14 : decode cX9_copy 14 = .ok (.ldc 145, 2) := by decide +kernel
theorem dX9_copy_16 : decode cX9_copy 16 = .ok (.ireturn, 1) := by decide +kernel
theorem dX9_copy_17 : decode cX9_copy 17 = .ok (.aload_n 0, 1) := by decide +kernel
theorem dX9_copy_18 : decode cX9_copy 18 = .ok (.getfield 38, 3) := by decide +kernel
theorem dX9_copy_21 : decode cX9_copy 21 = .ok (.iload_n 1, 1) := by decide +kernel
theorem dX9_copy_22 : decode cX9_copy 22 = .ok (.iaload, 1) := by decide +kernel
theorem dX9_copy_23 : decode cX9_copy 23 = .ok (.ifCond .lt 12, 3) := by decide +kernel
theorem dX9_copy_26 : decode cX9_copy 26 = .ok (.aload_n 0, 1) := by decide +kernel
theorem dX9_copy_27 : decode cX9_copy 27 = .ok (.getfield 38, 3) := by decide +kernel
theorem dX9_copy_30 : decode cX9_copy 30 = .ok (.iload_n 3, 1) := by decide +kernel
theorem dX9_copy_31 : decode cX9_copy 31 = .ok (.iaload, 1) := by decide +kernel
theorem dX9_copy_32 : decode cX9_copy 32 = .ok (.ifCond .ge 6, 3) := by decide +kernel
theorem dX9_copy_35 : decode cX9_copy 35 = .ok (.ldc 231, 2) := by decide +kernel
theorem dX9_copy_37 : decode cX9_copy 37 = .ok (.ireturn, 1) := by decide +kernel
theorem dX9_copy_38 : decode cX9_copy 38 = .ok (.aload_n 0, 1) := by decide +kernel
theorem dX9_copy_39 : decode cX9_copy 39 = .ok (.getfield 38, 3) := by decide +kernel
theorem dX9_copy_42 : decode cX9_copy 42 = .ok (.iload_n 1, 1) := by decide +kernel
theorem dX9_copy_43 : decode cX9_copy 43 = .ok (.iaload, 1) := by decide +kernel
theorem dX9_copy_44 : decode cX9_copy 44 = .ok (.aload_n 0, 1) := by decide +kernel
theorem dX9_copy_45 : decode cX9_copy 45 = .ok (.getfield 38, 3) := by decide +kernel
theorem dX9_copy_48 : decode cX9_copy 48 = .ok (.iload_n 3, 1) := by decide +kernel
theorem dX9_copy_49 : decode cX9_copy 49 = .ok (.iaload, 1) := by decide +kernel
theorem dX9_copy_50 : decode cX9_copy 50 = .ok (.if_icmp .eq 6, 3) := by decide +kernel
theorem dX9_copy_53 : decode cX9_copy 53 = .ok (.ldc 232, 2) := by decide +kernel
theorem dX9_copy_55 : decode cX9_copy 55 = .ok (.ireturn, 1) := by decide +kernel
theorem dX9_copy_56 : decode cX9_copy 56 = .ok (.iload 5, 2) := by decide +kernel
theorem dX9_copy_58 : decode cX9_copy 58 = .ok (.ifCond .lt 47, 3) := by decide +kernel
theorem dX9_copy_61 : decode cX9_copy 61 = .ok (.iload_n 2, 1) := by decide +kernel
theorem dX9_copy_62 : decode cX9_copy 62 = .ok (.ifCond .lt 43, 3) := by decide +kernel
theorem dX9_copy_65 : decode cX9_copy 65 = .ok (.iload 4, 2) := by decide +kernel
theorem dX9_copy_67 : decode cX9_copy 67 = .ok (.ifCond .lt 38, 3) := by decide +kernel
theorem dX9_copy_70 : decode cX9_copy 70 = .ok (.iload_n 2, 1) := by decide +kernel
theorem dX9_copy_71 : decode cX9_copy 71 = .ok (.i2l, 1) := by decide +kernel
theorem dX9_copy_72 : decode cX9_copy 72 = .ok (.iload 5, 2) := by decide +kernel
theorem dX9_copy_74 : decode cX9_copy 74 = .ok (.i2l, 1) := by decide +kernel
theorem dX9_copy_75 : decode cX9_copy 75 = .ok (.ladd, 1) := by decide +kernel
theorem dX9_copy_76 : decode cX9_copy 76 = .ok (.aload_n 0, 1) := by decide +kernel
theorem dX9_copy_77 : decode cX9_copy 77 = .ok (.getfield 41, 3) := by decide +kernel
theorem dX9_copy_80 : decode cX9_copy 80 = .ok (.iload_n 1, 1) := by decide +kernel
theorem dX9_copy_81 : decode cX9_copy 81 = .ok (.iaload, 1) := by decide +kernel
theorem dX9_copy_82 : decode cX9_copy 82 = .ok (.i2l, 1) := by decide +kernel
theorem dX9_copy_83 : decode cX9_copy 83 = .ok (.lcmp, 1) := by decide +kernel
theorem dX9_copy_84 : decode cX9_copy 84 = .ok (.ifCond .gt 21, 3) := by decide +kernel
theorem dX9_copy_87 : decode cX9_copy 87 = .ok (.iload 4, 2) := by decide +kernel
theorem dX9_copy_89 : decode cX9_copy 89 = .ok (.i2l, 1) := by decide +kernel
theorem dX9_copy_90 : decode cX9_copy 90 = .ok (.iload 5, 2) := by decide +kernel
theorem dX9_copy_92 : decode cX9_copy 92 = .ok (.i2l, 1) := by decide +kernel
theorem dX9_copy_93 : decode cX9_copy 93 = .ok (.ladd, 1) := by decide +kernel
theorem dX9_copy_94 : decode cX9_copy 94 = .ok (.aload_n 0, 1) := by decide +kernel
theorem dX9_copy_95 : decode cX9_copy 95 = .ok (.getfield 41, 3) := by decide +kernel
theorem dX9_copy_98 : decode cX9_copy 98 = .ok (.iload_n 3, 1) := by decide +kernel
theorem dX9_copy_99 : decode cX9_copy 99 = .ok (.iaload, 1) := by decide +kernel
theorem dX9_copy_100 : decode cX9_copy 100 = .ok (.i2l, 1) := by decide +kernel
theorem dX9_copy_101 : decode cX9_copy 101 = .ok (.lcmp, 1) := by decide +kernel
theorem dX9_copy_102 : decode cX9_copy 102 = .ok (.ifCond .le 6, 3) := by decide +kernel
theorem dX9_copy_105 : decode cX9_copy 105 = .ok (.ldc 233, 2) := by decide +kernel
theorem dX9_copy_107 : decode cX9_copy 107 = .ok (.ireturn, 1) := by decide +kernel
theorem dX9_copy_108 : decode cX9_copy 108 = .ok (.iconst 0, 1) := by decide +kernel
theorem dX9_copy_109 : decode cX9_copy 109 = .ok (.istore 6, 2) := by decide +kernel
theorem dX9_copy_111 : decode cX9_copy 111 = .ok (.iload 6, 2) := by decide +kernel
theorem dX9_copy_113 : decode cX9_copy 113 = .ok (.iload 5, 2) := by decide +kernel
theorem dX9_copy_115 : decode cX9_copy 115 = .ok (.if_icmp .ge 30, 3) := by decide +kernel
theorem dX9_copy_118 : decode cX9_copy 118 = .ok (.aload_n 0, 1) := by decide +kernel
theorem dX9_copy_119 : decode cX9_copy 119 = .ok (.getfield 48, 3) := by decide +kernel
theorem dX9_copy_122 : decode cX9_copy 122 = .ok (.iload 6, 2) := by decide +kernel
theorem dX9_copy_124 : decode cX9_copy 124 = .ok (.aload_n 0, 1) := by decide +kernel
theorem dX9_copy_125 : decode cX9_copy 125 = .ok (.getfield 44, 3) := by decide +kernel
theorem dX9_copy_128 : decode cX9_copy 128 = .ok (.bipush 24, 2) := by decide +kernel
theorem dX9_copy_130 : decode cX9_copy 130 = .ok (.iload_n 1, 1) := by decide +kernel
theorem dX9_copy_131 : decode cX9_copy 131 = .ok (.imul, 1) := by decide +kernel
theorem dX9_copy_132 : decode cX9_copy 132 = .ok (.iload_n 2, 1) := by decide +kernel
theorem dX9_copy_133 : decode cX9_copy 133 = .ok (.iadd, 1) := by decide +kernel
theorem dX9_copy_134 : decode cX9_copy 134 = .ok (.iload 6, 2) := by decide +kernel
theorem dX9_copy_136 : decode cX9_copy 136 = .ok (.iadd, 1) := by decide +kernel
theorem dX9_copy_137 : decode cX9_copy 137 = .ok (.laload, 1) := by decide +kernel
theorem dX9_copy_138 : decode cX9_copy 138 = .ok (.lastore, 1) := by decide +kernel
theorem dX9_copy_139 : decode cX9_copy 139 = .ok (.iinc 6 1, 3) := by decide +kernel
theorem dX9_copy_142 : decode cX9_copy 142 = .ok (.goto (-31), 3) := by decide +kernel
theorem dX9_copy_145 : decode cX9_copy 145 = .ok (.iconst 0, 1) := by decide +kernel
theorem dX9_copy_146 : decode cX9_copy 146 = .ok (.istore 6, 2) := by decide +kernel
theorem dX9_copy_148 : decode cX9_copy 148 = .ok (.iload 6, 2) := by decide +kernel
theorem dX9_copy_150 : decode cX9_copy 150 = .ok (.iload 5, 2) := by decide +kernel
theorem dX9_copy_152 : decode cX9_copy 152 = .ok (.if_icmp .ge 31, 3) := by decide +kernel
theorem dX9_copy_155 : decode cX9_copy 155 = .ok (.aload_n 0, 1) := by decide +kernel
theorem dX9_copy_156 : decode cX9_copy 156 = .ok (.getfield 44, 3) := by decide +kernel
theorem dX9_copy_159 : decode cX9_copy 159 = .ok (.bipush 24, 2) := by decide +kernel
theorem dX9_copy_161 : decode cX9_copy 161 = .ok (.iload_n 3, 1) := by decide +kernel
theorem dX9_copy_162 : decode cX9_copy 162 = .ok (.imul, 1) := by decide +kernel
theorem dX9_copy_163 : decode cX9_copy 163 = .ok (.iload 4, 2) := by decide +kernel
theorem dX9_copy_165 : decode cX9_copy 165 = .ok (.iadd, 1) := by decide +kernel
theorem dX9_copy_166 : decode cX9_copy 166 = .ok (.iload 6, 2) := by decide +kernel
theorem dX9_copy_168 : decode cX9_copy 168 = .ok (.iadd, 1) := by decide +kernel
theorem dX9_copy_169 : decode cX9_copy 169 = .ok (.aload_n 0, 1) := by decide +kernel
theorem dX9_copy_170 : decode cX9_copy 170 = .ok (.getfield 48, 3) := by decide +kernel
theorem dX9_copy_173 : decode cX9_copy 173 = .ok (.iload 6, 2) := by decide +kernel
theorem dX9_copy_175 : decode cX9_copy 175 = .ok (.laload, 1) := by decide +kernel
theorem dX9_copy_176 : decode cX9_copy 176 = .ok (.lastore, 1) := by decide +kernel
theorem dX9_copy_177 : decode cX9_copy 177 = .ok (.iinc 6 1, 3) := by decide +kernel
theorem dX9_copy_180 : decode cX9_copy 180 = .ok (.goto (-32), 3) := by decide +kernel
theorem dX9_copy_183 : decode cX9_copy 183 = .ok (.iload 5, 2) := by decide +kernel
theorem dX9_copy_185 : decode cX9_copy 185 = .ok (.ireturn, 1) := by decide +kernel
theorem dX9_found_0 : decode cX9_found 0 = .ok (.iload_n 1, 1) := by decide +kernel
theorem dX9_found_1 : decode cX9_found 1 = .ok (.invokestatic 227, 3) := by decide +kernel
theorem dX9_found_4 : decode cX9_found 4 = .ok (.ifCond .eq 28, 3) := by decide +kernel
theorem dX9_found_7 : decode cX9_found 7 = .ok (.iload_n 2, 1) := by decide +kernel
theorem dX9_found_8 : decode cX9_found 8 = .ok (.i2l, 1) := by decide +kernel
theorem dX9_found_9 : decode cX9_found 9 = .ok (.lconst 0, 1) := by decide +kernel
theorem dX9_found_10 : decode cX9_found 10 = .ok (.ldc2_w 197, 3) := by decide +kernel
theorem dX9_found_13 : decode cX9_found 13 = .ok (.invokestatic 70, 3) := by decide +kernel
theorem dX9_found_16 : decode cX9_found 16 = .ok (.ifCond .eq 16, 3) := by decide +kernel
theorem dX9_found_19 : decode cX9_found 19 = .ok (.iload 4, 2) := by decide +kernel
theorem dX9_found_21 : decode cX9_found 21 = .ok (.i2l, 1) := by decide +kernel
theorem dX9_found_22 : decode cX9_found 22 = .ok (.lconst 1, 1) := by decide +kernel
theorem dX9_found_23 : decode cX9_found 23 = .ok (.ldc2_w 225, 3) := by decide +kernel
theorem dX9_found_26 : decode cX9_found 26 = .ok (.invokestatic 70, 3) := by decide +kernel
theorem dX9_found_29 : decode cX9_found 29 = .ok (.ifCond .ne 6, 3) := by decide +kernel
theorem dX9_found_32 : decode cX9_found 32 = .ok (.ldc 145, 2) := by decide +kernel
theorem dX9_found_34 : decode cX9_found 34 = .ok (.ireturn, 1) := by decide +kernel
theorem dX9_found_35 : decode cX9_found 35 = .ok (.aload_n 0, 1) := by decide +kernel
theorem dX9_found_36 : decode cX9_found 36 = .ok (.iload_n 1, 1) := by decide +kernel
theorem dX9_found_37 : decode cX9_found 37 = .ok (.iload_n 2, 1) := by decide +kernel
theorem dX9_found_38 : decode cX9_found 38 = .ok (.iload_n 3, 1) := by decide +kernel
theorem dX9_found_39 : decode cX9_found 39 = .ok (.iload 4, 2) := by decide +kernel
theorem dX9_found_41 : decode cX9_found 41 = .ok (.invokevirtual 234, 3) := by decide +kernel
theorem dX9_found_44 : decode cX9_found 44 = .ok (.istore 5, 2) := by decide +kernel
theorem dX9_found_46 : decode cX9_found 46 = .ok (.iload 5, 2) := by decide +kernel
theorem dX9_found_48 : decode cX9_found 48 = .ok (.ifCond .ge 6, 3) := by decide +kernel
theorem dX9_found_51 : decode cX9_found 51 = .ok (.iload 5, 2) := by decide +kernel
theorem dX9_found_53 : decode cX9_found 53 = .ok (.ireturn, 1) := by decide +kernel
theorem dX9_found_54 : decode cX9_found 54 = .ok (.iconst 0, 1) := by decide +kernel
theorem dX9_found_55 : decode cX9_found 55 = .ok (.istore 6, 2) := by decide +kernel
theorem dX9_found_57 : decode cX9_found 57 = .ok (.iconst 0, 1) := by decide +kernel
theorem dX9_found_58 : decode cX9_found 58 = .ok (.istore 7, 2) := by decide +kernel
theorem dX9_found_60 : decode cX9_found 60 = .ok (.iload 7, 2) := by decide +kernel
theorem dX9_found_62 : decode cX9_found 62 = .ok (.iconst 5, 1) := by decide +kernel
theorem dX9_found_63 : decode cX9_found 63 = .ok (.if_icmp .ge 85, 3) := by decide +kernel
theorem dX9_found_66 : decode cX9_found 66 = .ok (.iconst 1, 1) := by decide +kernel
theorem dX9_found_67 : decode cX9_found 67 = .ok (.istore 8, 2) := by decide +kernel
theorem dX9_found_69 : decode cX9_found 69 = .ok (.iconst 0, 1) := by decide +kernel
theorem dX9_found_70 : decode cX9_found 70 = .ok (.istore 9, 2) := by decide +kernel
theorem dX9_found_72 : decode cX9_found 72 = .ok (.iload 9, 2) := by decide +kernel
theorem dX9_found_74 : decode cX9_found 74 = .ok (.iload 4, 2) := by decide +kernel
theorem dX9_found_76 : decode cX9_found 76 = .ok (.if_icmp .ge 48, 3) := by decide +kernel
theorem dX9_found_79 : decode cX9_found 79 = .ok (.iload 8, 2) := by decide +kernel
theorem dX9_found_81 : decode cX9_found 81 = .ok (.ifCond .eq 43, 3) := by decide +kernel
theorem dX9_found_84 : decode cX9_found 84 = .ok (.aload_n 0, 1) := by decide +kernel
theorem dX9_found_85 : decode cX9_found 85 = .ok (.iload 7, 2) := by decide +kernel
theorem dX9_found_87 : decode cX9_found 87 = .ok (.iload 9, 2) := by decide +kernel
theorem dX9_found_89 : decode cX9_found 89 = .ok (.invokevirtual 90, 3) := by decide +kernel
theorem dX9_found_92 : decode cX9_found 92 = .ok (.i2l, 1) := by decide +kernel
theorem dX9_found_93 : decode cX9_found 93 = .ok (.aload_n 0, 1) := by decide +kernel
theorem dX9_found_94 : decode cX9_found 94 = .ok (.getfield 44, 3) := by decide +kernel
theorem dX9_found_97 : decode cX9_found 97 = .ok (.bipush 24, 2) := by decide +kernel
theorem dX9_found_99 : decode cX9_found 99 = .ok (.iload_n 1, 1) := by decide +kernel
theorem dX9_found_100 : decode cX9_found 100 = .ok (.imul, 1) := by decide +kernel
theorem dX9_found_101 : decode cX9_found 101 = .ok (.iload_n 3, 1) := by decide +kernel
theorem dX9_found_102 : decode cX9_found 102 = .ok (.iadd, 1) := by decide +kernel
theorem dX9_found_103 : decode cX9_found 103 = .ok (.iload 9, 2) := by decide +kernel
theorem dX9_found_105 : decode cX9_found 105 = .ok (.iadd, 1) := by decide +kernel
theorem dX9_found_106 : decode cX9_found 106 = .ok (.laload, 1) := by decide +kernel
theorem dX9_found_107 : decode cX9_found 107 = .ok (.lcmp, 1) := by decide +kernel
theorem dX9_found_108 : decode cX9_found 108 = .ok (.ifCond .ne 7, 3) := by decide +kernel
theorem dX9_found_111 : decode cX9_found 111 = .ok (.iconst 1, 1) := by decide +kernel
theorem dX9_found_112 : decode cX9_found 112 = .ok (.goto 4, 3) := by decide +kernel
theorem dX9_found_115 : decode cX9_found 115 = .ok (.iconst 0, 1) := by decide +kernel
theorem dX9_found_116 : decode cX9_found 116 = .ok (.istore 8, 2) := by decide +kernel
theorem dX9_found_118 : decode cX9_found 118 = .ok (.iinc 9 1, 3) := by decide +kernel
theorem dX9_found_121 : decode cX9_found 121 = .ok (.goto (-49), 3) := by decide +kernel
theorem dX9_found_124 : decode cX9_found 124 = .ok (.iload 6, 2) := by decide +kernel
theorem dX9_found_126 : decode cX9_found 126 = .ok (.iload 8, 2) := by decide +kernel
theorem dX9_found_128 : decode cX9_found 128 = .ok (.ifCond .eq 10, 3) := by decide +kernel
theorem dX9_found_131 : decode cX9_found 131 = .ok (.iconst 1, 1) := by decide +kernel
theorem dX9_found_132 : decode cX9_found 132 = .ok (.iload 7, 2) := by decide +kernel
theorem dX9_found_134 : decode cX9_found 134 = .ok (.ishl, 1) := by decide +kernel
theorem dX9_found_135 : decode cX9_found 135 = .ok (.goto 4, 3) := by decide +kernel
theorem dX9_found_138 : decode cX9_found 138 = .ok (.iconst 0, 1) := by decide +kernel
theorem dX9_found_139 : decode cX9_found 139 = .ok (.ior, 1) := by decide +kernel
theorem dX9_found_140 : decode cX9_found 140 = .ok (.istore 6, 2) := by decide +kernel
theorem dX9_found_142 : decode cX9_found 142 = .ok (.iinc 7 1, 3) := by decide +kernel
theorem dX9_found_145 : decode cX9_found 145 = .ok (.goto (-85), 3) := by decide +kernel
theorem dX9_found_148 : decode cX9_found 148 = .ok (.iload 6, 2) := by decide +kernel
theorem dX9_found_150 : decode cX9_found 150 = .ok (.ireturn, 1) := by decide +kernel
theorem dX9_film_0 : decode cX9_film 0 = .ok (.iload_n 1, 1) := by decide +kernel
theorem dX9_film_1 : decode cX9_film 1 = .ok (.i2l, 1) := by decide +kernel
theorem dX9_film_2 : decode cX9_film 2 = .ok (.lconst 1, 1) := by decide +kernel
theorem dX9_film_3 : decode cX9_film 3 = .ok (.ldc2_w 225, 3) := by decide +kernel
theorem dX9_film_6 : decode cX9_film 6 = .ok (.invokestatic 70, 3) := by decide +kernel
theorem dX9_film_9 : decode cX9_film 9 = .ok (.ifCond .eq 22, 3) := by decide +kernel
theorem dX9_film_12 : decode cX9_film 12 = .ok (.iload_n 2, 1) := by decide +kernel
theorem dX9_film_13 : decode cX9_film 13 = .ok (.invokestatic 227, 3) := by decide +kernel
theorem dX9_film_16 : decode cX9_film 16 = .ok (.ifCond .eq 15, 3) := by decide +kernel
theorem dX9_film_19 : decode cX9_film 19 = .ok (.iload_n 3, 1) := by decide +kernel
theorem dX9_film_20 : decode cX9_film 20 = .ok (.i2l, 1) := by decide +kernel
theorem dX9_film_21 : decode cX9_film 21 = .ok (.lconst 0, 1) := by decide +kernel
theorem dX9_film_22 : decode cX9_film 22 = .ok (.ldc2_w 197, 3) := by decide +kernel
theorem dX9_film_25 : decode cX9_film 25 = .ok (.invokestatic 70, 3) := by decide +kernel
theorem dX9_film_28 : decode cX9_film 28 = .ok (.ifCond .ne 6, 3) := by decide +kernel
theorem dX9_film_31 : decode cX9_film 31 = .ok (.ldc 145, 2) := by decide +kernel
theorem dX9_film_33 : decode cX9_film 33 = .ok (.ireturn, 1) := by decide +kernel
theorem dX9_film_34 : decode cX9_film 34 = .ok (.aload_n 0, 1) := by decide +kernel
theorem dX9_film_35 : decode cX9_film 35 = .ok (.iload_n 2, 1) := by decide +kernel
theorem dX9_film_36 : decode cX9_film 36 = .ok (.iload_n 3, 1) := by decide +kernel
theorem dX9_film_37 : decode cX9_film 37 = .ok (.iload 4, 2) := by decide +kernel
theorem dX9_film_39 : decode cX9_film 39 = .ok (.iload_n 1, 1) := by decide +kernel
theorem dX9_film_40 : decode cX9_film 40 = .ok (.invokevirtual 234, 3) := by decide +kernel
theorem dX9_film_43 : decode cX9_film 43 = .ok (.istore 5, 2) := by decide +kernel
theorem dX9_film_45 : decode cX9_film 45 = .ok (.iload 5, 2) := by decide +kernel
theorem dX9_film_47 : decode cX9_film 47 = .ok (.ifCond .ge 6, 3) := by decide +kernel
theorem dX9_film_50 : decode cX9_film 50 = .ok (.iload 5, 2) := by decide +kernel
theorem dX9_film_52 : decode cX9_film 52 = .ok (.ireturn, 1) := by decide +kernel
theorem dX9_film_53 : decode cX9_film 53 = .ok (.iconst 0, 1) := by decide +kernel
theorem dX9_film_54 : decode cX9_film 54 = .ok (.istore 6, 2) := by decide +kernel
theorem dX9_film_56 : decode cX9_film 56 = .ok (.iload 6, 2) := by decide +kernel
theorem dX9_film_58 : decode cX9_film 58 = .ok (.iload_n 1, 1) := by decide +kernel
theorem dX9_film_59 : decode cX9_film 59 = .ok (.if_icmp .ge 31, 3) := by decide +kernel
theorem dX9_film_62 : decode cX9_film 62 = .ok (.aload_n 0, 1) := by decide +kernel
theorem dX9_film_63 : decode cX9_film 63 = .ok (.getfield 44, 3) := by decide +kernel
theorem dX9_film_66 : decode cX9_film 66 = .ok (.bipush 24, 2) := by decide +kernel
theorem dX9_film_68 : decode cX9_film 68 = .ok (.iload_n 2, 1) := by decide +kernel
theorem dX9_film_69 : decode cX9_film 69 = .ok (.imul, 1) := by decide +kernel
theorem dX9_film_70 : decode cX9_film 70 = .ok (.iload 4, 2) := by decide +kernel
theorem dX9_film_72 : decode cX9_film 72 = .ok (.iadd, 1) := by decide +kernel
theorem dX9_film_73 : decode cX9_film 73 = .ok (.iload 6, 2) := by decide +kernel
theorem dX9_film_75 : decode cX9_film 75 = .ok (.iadd, 1) := by decide +kernel
theorem dX9_film_76 : decode cX9_film 76 = .ok (.aload_n 0, 1) := by decide +kernel
theorem dX9_film_77 : decode cX9_film 77 = .ok (.iload 6, 2) := by decide +kernel
theorem dX9_film_79 : decode cX9_film 79 = .ok (.invokevirtual 116, 3) := by decide +kernel
theorem dX9_film_82 : decode cX9_film 82 = .ok (.i2l, 1) := by decide +kernel
theorem dX9_film_83 : decode cX9_film 83 = .ok (.lastore, 1) := by decide +kernel
theorem dX9_film_84 : decode cX9_film 84 = .ok (.iinc 6 1, 3) := by decide +kernel
theorem dX9_film_87 : decode cX9_film 87 = .ok (.goto (-31), 3) := by decide +kernel
theorem dX9_film_90 : decode cX9_film 90 = .ok (.iload_n 1, 1) := by decide +kernel
theorem dX9_film_91 : decode cX9_film 91 = .ok (.ireturn, 1) := by decide +kernel
