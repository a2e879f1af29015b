theorem dX8_init_0 : decode cX8_init 0 = .ok (.aload_n 0, 1) := by decide +kernel
theorem dX8_init_1 : decode cX8_init 1 = .ok (.invokespecial 1, 3) := by decide +kernel
theorem dX8_init_4 : decode cX8_init 4 = .ok (.aload_n 0, 1) := by decide +kernel
theorem dX8_init_5 : decode cX8_init 5 = .ok (.new 7, 3) := by decide +kernel
theorem dX8_init_8 : decode cX8_init 8 = .ok (.dup, 1) := by decide +kernel
theorem dX8_init_9 : decode cX8_init 9 = .ok (.invokespecial 9, 3) := by decide +kernel
theorem dX8_init_12 : decode cX8_init 12 = .ok (.putfield 10, 3) := by decide +kernel
theorem dX8_init_15 : decode cX8_init 15 = .ok (.aload_n 0, 1) := by decide +kernel
theorem dX8_init_16 : decode cX8_init 16 = .ok (.new 7, 3) := by decide +kernel
theorem dX8_init_19 : decode cX8_init 19 = .ok (.dup, 1) := by decide +kernel
theorem dX8_init_20 : decode cX8_init 20 = .ok (.invokespecial 9, 3) := by decide +kernel
theorem dX8_init_23 : decode cX8_init 23 = .ok (.putfield 16, 3) := by decide +kernel
theorem dX8_init_26 : decode cX8_init 26 = .ok (.aload_n 0, 1) := by decide +kernel
theorem dX8_init_27 : decode cX8_init 27 = .ok (.iconst 0, 1) := by decide +kernel
theorem dX8_init_28 : decode cX8_init 28 = .ok (.putfield 19, 3) := by decide +kernel
theorem dX8_init_31 : decode cX8_init 31 = .ok (.aload_n 0, 1) := by decide +kernel
theorem dX8_init_32 : decode cX8_init 32 = .ok (.new 23, 3) := by decide +kernel
theorem dX8_init_35 : decode cX8_init 35 = .ok (.dup, 1) := by decide +kernel
theorem dX8_init_36 : decode cX8_init 36 = .ok (.invokespecial 25, 3) := by decide +kernel
theorem dX8_init_39 : decode cX8_init 39 = .ok (.putfield 26, 3) := by decide +kernel
theorem dX8_init_42 : decode cX8_init 42 = .ok (.aload_n 0, 1) := by decide +kernel
theorem dX8_init_43 : decode cX8_init 43 = .ok (.new 30, 3) := by decide +kernel
theorem dX8_init_46 : decode cX8_init 46 = .ok (.dup, 1) := by decide +kernel
theorem dX8_init_47 : decode cX8_init 47 = .ok (.invokespecial 32, 3) := by decide +kernel
theorem dX8_init_50 : decode cX8_init 50 = .ok (.putfield 33, 3) := by decide +kernel
theorem dX8_init_53 : decode cX8_init 53 = .ok (.aload_n 0, 1) := by decide +kernel
theorem dX8_init_54 : decode cX8_init 54 = .ok (.new 37, 3) := by decide +kernel
theorem dX8_init_57 : decode cX8_init 57 = .ok (.dup, 1) := by decide +kernel
theorem dX8_init_58 : decode cX8_init 58 = .ok (.invokespecial 39, 3) := by decide +kernel
theorem dX8_init_61 : decode cX8_init 61 = .ok (.putfield 40, 3) := by decide +kernel
theorem dX8_init_64 : decode cX8_init 64 = .ok (.aload_n 0, 1) := by decide +kernel
theorem dX8_init_65 : decode cX8_init 65 = .ok (.new 44, 3) := by decide +kernel
theorem dX8_init_68 : decode cX8_init 68 = .ok (.dup, 1) := by decide +kernel
theorem dX8_init_69 : decode cX8_init 69 = .ok (.invokespecial 46, 3) := by decide +kernel
theorem dX8_init_72 : decode cX8_init 72 = .ok (.putfield 47, 3) := by decide +kernel
theorem dX8_init_75 : decode cX8_init 75 = .ok (.aload_n 0, 1) := by decide +kernel
theorem dX8_init_76 : decode cX8_init 76 = .ok (.new 51, 3) := by decide +kernel
theorem dX8_init_79 : decode cX8_init 79 = .ok (.dup, 1) := by decide +kernel
theorem dX8_init_80 : decode cX8_init 80 = .ok (.invokespecial 53, 3) := by decide +kernel
theorem dX8_init_83 : decode cX8_init 83 = .ok (.putfield 54, 3) := by decide +kernel
theorem dX8_init_86 : decode cX8_init 86 = .ok (.aload_n 0, 1) := by decide +kernel
theorem dX8_init_87 : decode cX8_init 87 = .ok (.iconst 4, 1) := by decide +kernel
theorem dX8_init_88 : decode cX8_init 88 = .ok (.anewarray 58, 3) := by decide +kernel
theorem dX8_init_91 : decode cX8_init 91 = .ok (.putfield 60, 3) := by decide +kernel
theorem dX8_init_94 : decode cX8_init 94 = .ok (.iconst 0, 1) := by decide +kernel
theorem dX8_init_95 : decode cX8_init 95 = .ok (.istore_n 1, 1) := by decide +kernel
theorem dX8_init_96 : decode cX8_init 96 = .ok (.iload_n 1, 1) := by decide +kernel
theorem dX8_init_97 : decode cX8_init 97 = .ok (.iconst 4, 1) := by decide +kernel
theorem dX8_init_98 : decode cX8_init 98 = .ok (.if_icmp .ge 22, 3) := by decide +kernel
theorem dX8_init_101 : decode cX8_init 101 = .ok (.aload_n 0, 1) := by decide +kernel
theorem dX8_init_102 : decode cX8_init 102 = .ok (.getfield 60, 3) := by decide +kernel
theorem dX8_init_105 : decode cX8_init 105 = .ok (.iload_n 1, 1) := by decide +kernel
theorem dX8_init_106 : decode cX8_init 106 = .ok (.new 58, 3) := by decide +kernel
theorem dX8_init_109 : decode cX8_init 109 = .ok (.dup, 1) := by decide +kernel
theorem dX8_init_110 : decode cX8_init 110 = .ok (.invokespecial 64, 3) := by decide +kernel
theorem dX8_init_113 : decode cX8_init 113 = .ok (.aastore, 1) := by decide +kernel
theorem dX8_init_114 : decode cX8_init 114 = .ok (.iinc 1 1, 3) := by decide +kernel
theorem dX8_init_117 : decode cX8_init 117 = .ok (.goto (-21), 3) := by decide +kernel
theorem dX8_init_120 : decode cX8_init 120 = .ok (.return_, 1) := by decide +kernel
theorem dX8_type_0 : decode cX8_type 0 = .ok (.iload_n 1, 1) := by decide +kernel
theorem dX8_type_1 : decode cX8_type 1 = .ok (.bipush 32, 2) := by decide +kernel
theorem dX8_type_3 : decode cX8_type 3 = .ok (.if_icmp .lt 9, 3) := by decide +kernel
theorem dX8_type_6 : decode cX8_type 6 = .ok (.iload_n 1, 1) := by decide +kernel
theorem dX8_type_7 : decode cX8_type 7 = .ok (.bipush 126, 2) := by decide +kernel
theorem dX8_type_9 : decode cX8_type 9 = .ok (.if_icmp .le 6, 3) := by decide +kernel
theorem dX8_type_12 : decode cX8_type 12 = .ok (.ldc 65, 2) := by decide +kernel
theorem dX8_type_14 : decode cX8_type 14 = .ok (.ireturn, 1) := by decide +kernel
theorem dX8_type_15 : decode cX8_type 15 = .ok (.aload_n 0, 1) := by decide +kernel
theorem dX8_type_16 : decode cX8_type 16 = .ok (.getfield 26, 3) := by decide +kernel
theorem dX8_type_19 : decode cX8_type 19 = .ok (.iload_n 1, 1) := by decide +kernel
theorem dX8_type_20 : decode cX8_type 20 = .ok (.invokevirtual 66, 3) := by decide +kernel
theorem dX8_type_23 : decode cX8_type 23 = .ok (.ifCond .eq 13, 3) := by decide +kernel
theorem dX8_type_26 : decode cX8_type 26 = .ok (.aload_n 0, 1) := by decide +kernel
theorem dX8_type_27 : decode cX8_type 27 = .ok (.getfield 26, 3) := by decide +kernel
theorem dX8_type_30 : decode cX8_type 30 = .ok (.getfield 70, 3) := by decide +kernel
theorem dX8_type_33 : decode cX8_type 33 = .ok (.goto 5, 3) := by decide +kernel
theorem dX8_type_36 : decode cX8_type 36 = .ok (.ldc 74, 2) := by decide +kernel
theorem dX8_type_38 : decode cX8_type 38 = .ok (.ireturn, 1) := by decide +kernel
theorem dX8_picture_0 : decode cX8_picture 0 = .ok (.aload_n 0, 1) := by decide +kernel
theorem dX8_picture_1 : decode cX8_picture 1 = .ok (.getfield 26, 3) := by decide +kernel
theorem dX8_picture_4 : decode cX8_picture 4 = .ok (.invokevirtual 75, 3) := by decide +kernel
theorem dX8_picture_7 : decode cX8_picture 7 = .ok (.istore_n 1, 1) := by decide +kernel
theorem dX8_picture_8 : decode cX8_picture 8 = .ok (.aload_n 0, 1) := by decide +kernel
theorem dX8_picture_9 : decode cX8_picture 9 = .ok (.getfield 26, 3) := by decide +kernel
theorem dX8_picture_12 : decode cX8_picture 12 = .ok (.iconst 0, 1) := by decide +kernel
theorem dX8_picture_13 : decode cX8_picture 13 = .ok (.putfield 70, 3) := by decide +kernel
theorem dX8_picture_16 : decode cX8_picture 16 = .ok (.iload_n 1, 1) := by decide +kernel
theorem dX8_picture_17 : decode cX8_picture 17 = .ok (.ifCond .ge 5, 3) := by decide +kernel
theorem dX8_picture_20 : decode cX8_picture 20 = .ok (.iload_n 1, 1) := by decide +kernel
theorem dX8_picture_21 : decode cX8_picture 21 = .ok (.ireturn, 1) := by decide +kernel
theorem dX8_picture_22 : decode cX8_picture 22 = .ok (.aload_n 0, 1) := by decide +kernel
theorem dX8_picture_23 : decode cX8_picture 23 = .ok (.getfield 26, 3) := by decide +kernel
theorem dX8_picture_26 : decode cX8_picture 26 = .ok (.getfield 79, 3) := by decide +kernel
theorem dX8_picture_29 : decode cX8_picture 29 = .ok (.bipush 110, 2) := by decide +kernel
theorem dX8_picture_31 : decode cX8_picture 31 = .ok (.if_icmp .eq 23, 3) := by decide +kernel
theorem dX8_picture_34 : decode cX8_picture 34 = .ok (.aload_n 0, 1) := by decide +kernel
theorem dX8_picture_35 : decode cX8_picture 35 = .ok (.getfield 10, 3) := by decide +kernel
theorem dX8_picture_38 : decode cX8_picture 38 = .ok (.getfield 82, 3) := by decide +kernel
theorem dX8_picture_41 : decode cX8_picture 41 = .ok (.getfield 85, 3) := by decide +kernel
theorem dX8_picture_44 : decode cX8_picture 44 = .ok (.aload_n 0, 1) := by decide +kernel
theorem dX8_picture_45 : decode cX8_picture 45 = .ok (.getfield 26, 3) := by decide +kernel
theorem dX8_picture_48 : decode cX8_picture 48 = .ok (.getfield 89, 3) := by decide +kernel
theorem dX8_picture_51 : decode cX8_picture 51 = .ok (.invokevirtual 93, 3) := by decide +kernel
theorem dX8_picture_54 : decode cX8_picture 54 = .ok (.aload_n 0, 1) := by decide +kernel
theorem dX8_picture_55 : decode cX8_picture 55 = .ok (.getfield 26, 3) := by decide +kernel
theorem dX8_picture_58 : decode cX8_picture 58 = .ok (.getfield 79, 3) := by decide +kernel
theorem dX8_picture_61 : decode cX8_picture 61 = .ok (.bipush 111, 2) := by decide +kernel
theorem dX8_picture_63 : decode cX8_picture 63 = .ok (.if_icmp .eq 23, 3) := by decide +kernel
theorem dX8_picture_66 : decode cX8_picture 66 = .ok (.aload_n 0, 1) := by decide +kernel
theorem dX8_picture_67 : decode cX8_picture 67 = .ok (.getfield 10, 3) := by decide +kernel
theorem dX8_picture_70 : decode cX8_picture 70 = .ok (.getfield 82, 3) := by decide +kernel
theorem dX8_picture_73 : decode cX8_picture 73 = .ok (.getfield 99, 3) := by decide +kernel
theorem dX8_picture_76 : decode cX8_picture 76 = .ok (.aload_n 0, 1) := by decide +kernel
theorem dX8_picture_77 : decode cX8_picture 77 = .ok (.getfield 26, 3) := by decide +kernel
theorem dX8_picture_80 : decode cX8_picture 80 = .ok (.getfield 89, 3) := by decide +kernel
theorem dX8_picture_83 : decode cX8_picture 83 = .ok (.invokevirtual 93, 3) := by decide +kernel
theorem dX8_picture_86 : decode cX8_picture 86 = .ok (.aload_n 0, 1) := by decide +kernel
theorem dX8_picture_87 : decode cX8_picture 87 = .ok (.getfield 10, 3) := by decide +kernel
theorem dX8_picture_90 : decode cX8_picture 90 = .ok (.iconst 0, 1) := by decide +kernel
theorem dX8_picture_91 : decode cX8_picture 91 = .ok (.putfield 102, 3) := by decide +kernel
theorem dX8_picture_94 : decode cX8_picture 94 = .ok (.iload_n 1, 1) := by decide +kernel
theorem dX8_picture_95 : decode cX8_picture 95 = .ok (.ireturn, 1) := by decide +kernel
theorem dX8_dot_0 : decode cX8_dot 0 = .ok (.iload_n 1, 1) := by decide +kernel
theorem dX8_dot_1 : decode cX8_dot 1 = .ok (.bipush (-3), 2) := by decide +kernel
theorem dX8_dot_3 : decode cX8_dot 3 = .ok (.bipush 14, 2) := by decide +kernel
theorem dX8_dot_5 : decode cX8_dot 5 = .ok (.invokestatic 105, 3) := by decide +kernel
theorem dX8_dot_8 : decode cX8_dot 8 = .ok (.ifCond .eq 18, 3) := by decide +kernel
theorem dX8_dot_11 : decode cX8_dot 11 = .ok (.iload_n 2, 1) := by decide +kernel
theorem dX8_dot_12 : decode cX8_dot 12 = .ok (.bipush (-3), 2) := by decide +kernel
theorem dX8_dot_14 : decode cX8_dot 14 = .ok (.bipush 10, 2) := by decide +kernel
theorem dX8_dot_16 : decode cX8_dot 16 = .ok (.invokestatic 105, 3) := by decide +kernel
theorem dX8_dot_19 : decode cX8_dot 19 = .ok (.ifCond .eq 7, 3) := by decide +kernel
theorem dX8_dot_22 : decode cX8_dot 22 = .ok (.iconst 1, 1) := by decide +kernel
theorem dX8_dot_23 : decode cX8_dot 23 = .ok (.goto 4, 3) := by decide +kernel
theorem dX8_dot_26 : decode cX8_dot 26 = .ok (.iconst 0, 1) := by decide +kernel
theorem dX8_dot_27 : decode cX8_dot 27 = .ok (.istore 4, 2) := by decide +kernel
theorem dX8_dot_29 : decode cX8_dot 29 = .ok (.iload 4, 2) := by decide +kernel
theorem dX8_dot_31 : decode cX8_dot 31 = .ok (.ifCond .eq 12, 3) := by decide +kernel
theorem dX8_dot_34 : decode cX8_dot 34 = .ok (.iload_n 3, 1) := by decide +kernel
theorem dX8_dot_35 : decode cX8_dot 35 = .ok (.iconst 0, 1) := by decide +kernel
theorem dX8_dot_36 : decode cX8_dot 36 = .ok (.iconst 1, 1) := by decide +kernel
theorem dX8_dot_37 : decode cX8_dot 37 = .ok (.invokestatic 105, 3) := by decide +kernel
theorem dX8_dot_40 : decode cX8_dot 40 = .ok (.ifCond .ne 6, 3) := by decide +kernel
theorem dX8_dot_43 : decode cX8_dot 43 = .ok (.ldc 65, 2) := by decide +kernel
theorem dX8_dot_45 : decode cX8_dot 45 = .ok (.ireturn, 1) := by decide +kernel
theorem dX8_dot_46 : decode cX8_dot 46 = .ok (.iload_n 3, 1) := by decide +kernel
theorem dX8_dot_47 : decode cX8_dot 47 = .ok (.ifCond .ne 16, 3) := by decide +kernel
theorem dX8_dot_50 : decode cX8_dot 50 = .ok (.aload_n 0, 1) := by decide +kernel
theorem dX8_dot_51 : decode cX8_dot 51 = .ok (.getfield 10, 3) := by decide +kernel
theorem dX8_dot_54 : decode cX8_dot 54 = .ok (.getfield 82, 3) := by decide +kernel
theorem dX8_dot_57 : decode cX8_dot 57 = .ok (.getfield 85, 3) := by decide +kernel
theorem dX8_dot_60 : decode cX8_dot 60 = .ok (.goto 13, 3) := by decide +kernel
theorem dX8_dot_63 : decode cX8_dot 63 = .ok (.aload_n 0, 1) := by decide +kernel
theorem dX8_dot_64 : decode cX8_dot 64 = .ok (.getfield 10, 3) := by decide +kernel
theorem dX8_dot_67 : decode cX8_dot 67 = .ok (.getfield 82, 3) := by decide +kernel
theorem dX8_dot_70 : decode cX8_dot 70 = .ok (.getfield 99, 3) := by decide +kernel
theorem dX8_dot_73 : decode cX8_dot 73 = .ok (.astore 5, 2) := by decide +kernel
theorem dX8_dot_75 : decode cX8_dot 75 = .ok (.aload 5, 2) := by decide +kernel
theorem dX8_dot_77 : decode cX8_dot 77 = .ok (.iload_n 1, 1) := by decide +kernel
theorem dX8_dot_78 : decode cX8_dot 78 = .ok (.iload_n 2, 1) := by decide +kernel
theorem dX8_dot_79 : decode cX8_dot 79 = .ok (.invokevirtual 109, 3) := by decide +kernel
theorem dX8_dot_82 : decode cX8_dot 82 = .ok (.ireturn, 1) := by decide +kernel
theorem dX8_count_0 : decode cX8_count 0 = .ok (.iload_n 1, 1) := by decide +kernel
theorem dX8_count_1 : decode cX8_count 1 = .ok (.tableswitch 179 0 7 #[47, 58, 63, 89, 122, 144, 166, 171], 47) := by decide +kernel
theorem dX8_count_48 : decode cX8_count 48 = .ok (.aload_n 0, 1) := by decide +kernel
theorem dX8_count_49 : decode cX8_count 49 = .ok (.getfield 10, 3) := by decide +kernel
theorem dX8_count_52 : decode cX8_count 52 = .ok (.getfield 82, 3) := by decide +kernel
theorem dX8_count_55 : decode cX8_count 55 = .ok (.getfield 113, 3) := by decide +kernel
theorem dX8_count_58 : decode cX8_count 58 = .ok (.ireturn, 1) := by decide +kernel
theorem dX8_count_59 : decode cX8_count 59 = .ok (.aload_n 0, 1) := by decide +kernel
theorem dX8_count_60 : decode cX8_count 60 = .ok (.invokevirtual 116, 3) := by decide +kernel
theorem dX8_count_63 : decode cX8_count 63 = .ok (.ireturn, 1) := by decide +kernel
theorem dX8_count_64 : decode cX8_count 64 = .ok (.aload_n 0, 1) := by decide +kernel
theorem dX8_count_65 : decode cX8_count 65 = .ok (.getfield 47, 3) := by decide +kernel
theorem dX8_count_68 : decode cX8_count 68 = .ok (.aload_n 0, 1) := by decide +kernel
theorem dX8_count_69 : decode cX8_count 69 = .ok (.getfield 10, 3) := by decide +kernel
theorem dX8_count_72 : decode cX8_count 72 = .ok (.getfield 82, 3) := by decide +kernel
theorem dX8_count_75 : decode cX8_count 75 = .ok (.aload_n 0, 1) := by decide +kernel
theorem dX8_count_76 : decode cX8_count 76 = .ok (.getfield 33, 3) := by decide +kernel
theorem dX8_count_79 : decode cX8_count 79 = .ok (.invokevirtual 119, 3) := by decide +kernel
theorem dX8_count_82 : decode cX8_count 82 = .ok (.aload_n 0, 1) := by decide +kernel
theorem dX8_count_83 : decode cX8_count 83 = .ok (.getfield 47, 3) := by decide +kernel
theorem dX8_count_86 : decode cX8_count 86 = .ok (.invokevirtual 123, 3) := by decide +kernel
theorem dX8_count_89 : decode cX8_count 89 = .ok (.ireturn, 1) := by decide +kernel
theorem dX8_count_90 : decode cX8_count 90 = .ok (.aload_n 0, 1) := by decide +kernel
theorem dX8_count_91 : decode cX8_count 91 = .ok (.getfield 47, 3) := by decide +kernel
theorem dX8_count_94 : decode cX8_count 94 = .ok (.aload_n 0, 1) := by decide +kernel
theorem dX8_count_95 : decode cX8_count 95 = .ok (.getfield 10, 3) := by decide +kernel
theorem dX8_count_98 : decode cX8_count 98 = .ok (.getfield 82, 3) := by decide +kernel
theorem dX8_count_101 : decode cX8_count 101 = .ok (.aload_n 0, 1) := by decide +kernel
theorem dX8_count_102 : decode cX8_count 102 = .ok (.getfield 33, 3) := by decide +kernel
theorem dX8_count_105 : decode cX8_count 105 = .ok (.invokevirtual 119, 3) := by decide +kernel
theorem dX8_count_108 : decode cX8_count 108 = .ok (.aload_n 0, 1) := by decide +kernel
theorem dX8_count_109 : decode cX8_count 109 = .ok (.getfield 47, 3) := by decide +kernel
theorem dX8_count_112 : decode cX8_count 112 = .ok (.aload_n 0, 1) := by decide +kernel
theorem dX8_count_113 : decode cX8_count 113 = .ok (.getfield 10, 3) := by decide +kernel
theorem dX8_count_116 : decode cX8_count 116 = .ok (.getfield 82, 3) := by decide +kernel
theorem dX8_count_119 : decode cX8_count 119 = .ok (.invokevirtual 126, 3) := by decide +kernel
theorem dX8_count_122 : decode cX8_count 122 = .ok (.ireturn, 1) := by decide +kernel
theorem dX8_count_123 : decode cX8_count 123 = .ok (.aload_n 0, 1) := by decide +kernel
theorem dX8_count_124 : decode cX8_count 124 = .ok (.getfield 33, 3) := by decide +kernel
theorem dX8_count_127 : decode cX8_count 127 = .ok (.aload_n 0, 1) := by decide +kernel
theorem dX8_count_128 : decode cX8_count 128 = .ok (.getfield 10, 3) := by decide +kernel
theorem dX8_count_131 : decode cX8_count 131 = .ok (.getfield 82, 3) := by decide +kernel
theorem dX8_count_134 : decode cX8_count 134 = .ok (.invokevirtual 130, 3) := by decide +kernel
theorem dX8_count_137 : decode cX8_count 137 = .ok (.aload_n 0, 1) := by decide +kernel
theorem dX8_count_138 : decode cX8_count 138 = .ok (.getfield 33, 3) := by decide +kernel
theorem dX8_count_141 : decode cX8_count 141 = .ok (.getfield 134, 3) := by decide +kernel
theorem dX8_count_144 : decode cX8_count 144 = .ok (.ireturn, 1) := by decide +kernel
theorem dX8_count_145 : decode cX8_count 145 = .ok (.aload_n 0, 1) := by decide +kernel
theorem dX8_count_146 : decode cX8_count 146 = .ok (.getfield 33, 3) := by decide +kernel
theorem dX8_count_149 : decode cX8_count 149 = .ok (.aload_n 0, 1) := by decide +kernel
theorem dX8_count_150 : decode cX8_count 150 = .ok (.getfield 10, 3) := by decide +kernel
theorem dX8_count_153 : decode cX8_count 153 = .ok (.getfield 82, 3) := by decide +kernel
theorem dX8_count_156 : decode cX8_count 156 = .ok (.invokevirtual 130, 3) := by decide +kernel
theorem dX8_count_159 : decode cX8_count 159 = .ok (.aload_n 0, 1) := by decide +kernel
theorem dX8_count_160 : decode cX8_count 160 = .ok (.getfield 33, 3) := by decide +kernel
theorem dX8_count_163 : decode cX8_count 163 = .ok (.getfield 137, 3) := by decide +kernel
theorem dX8_count_166 : decode cX8_count 166 = .ok (.ireturn, 1) := by decide +kernel
theorem dX8_count_167 : decode cX8_count 167 = .ok (.aload_n 0, 1) := by decide +kernel
theorem dX8_count_168 : decode cX8_count 168 = .ok (.invokevirtual 140, 3) := by decide +kernel
theorem dX8_count_171 : decode cX8_count 171 = .ok (.ireturn, 1) := by decide +kernel
theorem dX8_count_172 : decode cX8_count 172 = .ok (.aload_n 0, 1) := by decide +kernel
theorem dX8_count_173 : decode cX8_count 173 = .ok (.getfield 10, 3) := by decide +kernel
theorem dX8_count_176 : decode cX8_count 176 = .ok (.getfield 102, 3) := by decide +kernel
theorem dX8_count_179 : decode cX8_count 179 = .ok (.ireturn, 1) := by decide +kernel
theorem dX8_count_180 : decode cX8_count 180 = .ok (.ldc 65, 2) := by decide +kernel
theorem dX8_count_182 : decode cX8_count 182 = .ok (.ireturn, 1) := by decide +kernel
theorem dX8_paint_0 : decode cX8_paint 0 = .ok (.iload_n 1, 1) := by decide +kernel
theorem dX8_paint_1 : decode cX8_paint 1 = .ok (.iload_n 2, 1) := by decide +kernel
theorem dX8_paint_2 : decode cX8_paint 2 = .ok (.invokestatic 143, 3) := by decide +kernel
theorem dX8_paint_5 : decode cX8_paint 5 = .ok (.ifCond .eq 13, 3) := by decide +kernel
theorem dX8_paint_8 : decode cX8_paint 8 = .ok (.iload_n 3, 1) := by decide +kernel
theorem dX8_paint_9 : decode cX8_paint 9 = .ok (.iconst 0, 1) := by decide +kernel
theorem dX8_paint_10 : decode cX8_paint 10 = .ok (.bipush 9, 2) := by decide +kernel
theorem dX8_paint_12 : decode cX8_paint 12 = .ok (.invokestatic 105, 3) := by decide +kernel
theorem dX8_paint_15 : decode cX8_paint 15 = .ok (.ifCond .ne 6, 3) := by decide +kernel
theorem dX8_paint_18 : decode cX8_paint 18 = .ok (.ldc 65, 2) := by decide +kernel
theorem dX8_paint_20 : decode cX8_paint 20 = .ok (.ireturn, 1) := by decide +kernel
theorem dX8_paint_21 : decode cX8_paint 21 = .ok (.aload_n 0, 1) := by decide +kernel
theorem dX8_paint_22 : decode cX8_paint 22 = .ok (.getfield 10, 3) := by decide +kernel
theorem dX8_paint_25 : decode cX8_paint 25 = .ok (.getfield 82, 3) := by decide +kernel
theorem dX8_paint_28 : decode cX8_paint 28 = .ok (.getfield 99, 3) := by decide +kernel
theorem dX8_paint_31 : decode cX8_paint 31 = .ok (.iload_n 1, 1) := by decide +kernel
theorem dX8_paint_32 : decode cX8_paint 32 = .ok (.iload_n 2, 1) := by decide +kernel
theorem dX8_paint_33 : decode cX8_paint 33 = .ok (.invokevirtual 109, 3) := by decide +kernel
theorem dX8_paint_36 : decode cX8_paint 36 = .ok (.istore 4, 2) := by decide +kernel
theorem dX8_paint_38 : decode cX8_paint 38 = .ok (.iload 4, 2) := by decide +kernel
theorem dX8_paint_40 : decode cX8_paint 40 = .ok (.iload_n 3, 1) := by decide +kernel
theorem dX8_paint_41 : decode cX8_paint 41 = .ok (.if_icmp .ne 6, 3) := by decide +kernel
theorem dX8_paint_44 : decode cX8_paint 44 = .ok (.ldc 147, 2) := by decide +kernel
theorem dX8_paint_46 : decode cX8_paint 46 = .ok (.ireturn, 1) := by decide +kernel
theorem dX8_paint_47 : decode cX8_paint 47 = .ok (.aload_n 0, 1) := by decide +kernel
theorem dX8_paint_48 : decode cX8_paint 48 = .ok (.getfield 10, 3) := by decide +kernel
theorem dX8_paint_51 : decode cX8_paint 51 = .ok (.invokevirtual 148, 3) := by decide +kernel
theorem dX8_paint_54 : decode cX8_paint 54 = .ok (.aload_n 0, 1) := by decide +kernel
theorem dX8_paint_55 : decode cX8_paint 55 = .ok (.getfield 10, 3) := by decide +kernel
theorem dX8_paint_58 : decode cX8_paint 58 = .ok (.getfield 82, 3) := by decide +kernel
theorem dX8_paint_61 : decode cX8_paint 61 = .ok (.getfield 99, 3) := by decide +kernel
theorem dX8_paint_64 : decode cX8_paint 64 = .ok (.getfield 151, 3) := by decide +kernel
theorem dX8_paint_67 : decode cX8_paint 67 = .ok (.iload_n 2, 1) := by decide +kernel
theorem dX8_paint_68 : decode cX8_paint 68 = .ok (.bipush 12, 2) := by decide +kernel
theorem dX8_paint_70 : decode cX8_paint 70 = .ok (.imul, 1) := by decide +kernel
theorem dX8_paint_71 : decode cX8_paint 71 = .ok (.iload_n 1, 1) := by decide +kernel
theorem dX8_paint_72 : decode cX8_paint 72 = .ok (.iadd, 1) := by decide +kernel
theorem dX8_paint_73 : decode cX8_paint 73 = .ok (.iload_n 3, 1) := by decide +kernel
theorem dX8_paint_74 : decode cX8_paint 74 = .ok (.iastore, 1) := by decide +kernel
theorem dX8_paint_75 : decode cX8_paint 75 = .ok (.iload 4, 2) := by decide +kernel
theorem dX8_paint_77 : decode cX8_paint 77 = .ok (.ireturn, 1) := by decide +kernel
theorem dX8_shift_0 : decode cX8_shift 0 = .ok (.iload_n 1, 1) := by decide +kernel
theorem dX8_shift_1 : decode cX8_shift 1 = .ok (.bipush (-3), 2) := by decide +kernel
theorem dX8_shift_3 : decode cX8_shift 3 = .ok (.iconst 3, 1) := by decide +kernel
theorem dX8_shift_4 : decode cX8_shift 4 = .ok (.invokestatic 105, 3) := by decide +kernel
theorem dX8_shift_7 : decode cX8_shift 7 = .ok (.ifCond .eq 13, 3) := by decide +kernel
theorem dX8_shift_10 : decode cX8_shift 10 = .ok (.iload_n 2, 1) := by decide +kernel
theorem dX8_shift_11 : decode cX8_shift 11 = .ok (.bipush (-3), 2) := by decide +kernel
theorem dX8_shift_13 : decode cX8_shift 13 = .ok (.iconst 3, 1) := by decide +kernel
theorem dX8_shift_14 : decode cX8_shift 14 = .ok (.invokestatic 105, 3) := by decide +kernel
theorem dX8_shift_17 : decode cX8_shift 17 = .ok (.ifCond .ne 6, 3) := by decide +kernel
theorem dX8_shift_20 : decode cX8_shift 20 = .ok (.ldc 65, 2) := by decide +kernel
theorem dX8_shift_22 : decode cX8_shift 22 = .ok (.ireturn, 1) := by decide +kernel
theorem dX8_shift_23 : decode cX8_shift 23 = .ok (.aload_n 0, 1) := by decide +kernel
theorem dX8_shift_24 : decode cX8_shift 24 = .ok (.getfield 10, 3) := by decide +kernel
theorem dX8_shift_27 : decode cX8_shift 27 = .ok (.invokevirtual 148, 3) := by decide +kernel
theorem dX8_shift_30 : decode cX8_shift 30 = .ok (.aload_n 0, 1) := by decide +kernel
theorem dX8_shift_31 : decode cX8_shift 31 = .ok (.getfield 10, 3) := by decide +kernel
theorem dX8_shift_34 : decode cX8_shift 34 = .ok (.getfield 82, 3) := by decide +kernel
theorem dX8_shift_37 : decode cX8_shift 37 = .ok (.getfield 99, 3) := by decide +kernel
theorem dX8_shift_40 : decode cX8_shift 40 = .ok (.astore_n 3, 1) := by decide +kernel
theorem dX8_shift_41 : decode cX8_shift 41 = .ok (.aload_n 0, 1) := by decide +kernel
theorem dX8_shift_42 : decode cX8_shift 42 = .ok (.getfield 54, 3) := by decide +kernel
theorem dX8_shift_45 : decode cX8_shift 45 = .ok (.getfield 99, 3) := by decide +kernel
theorem dX8_shift_48 : decode cX8_shift 48 = .ok (.aload_n 3, 1) := by decide +kernel
theorem dX8_shift_49 : decode cX8_shift 49 = .ok (.getfield 151, 3) := by decide +kernel
theorem dX8_shift_52 : decode cX8_shift 52 = .ok (.invokevirtual 93, 3) := by decide +kernel
theorem dX8_shift_55 : decode cX8_shift 55 = .ok (.iconst 0, 1) := by decide +kernel
theorem dX8_shift_56 : decode cX8_shift 56 = .ok (.istore 4, 2) := by decide +kernel
theorem dX8_shift_58 : decode cX8_shift 58 = .ok (.iload 4, 2) := by decide +kernel
theorem dX8_shift_60 : decode cX8_shift 60 = .ok (.bipush 96, 2) := by decide +kernel
theorem dX8_shift_62 : decode cX8_shift 62 = .ok (.if_icmp .ge 40, 3) := by decide +kernel
theorem dX8_shift_65 : decode cX8_shift 65 = .ok (.aload_n 3, 1) := by decide +kernel
theorem dX8_shift_66 : decode cX8_shift 66 = .ok (.getfield 151, 3) := by decide +kernel
theorem dX8_shift_69 : decode cX8_shift 69 = .ok (.iload 4, 2) := by decide +kernel
theorem dX8_shift_71 : decode cX8_shift 71 = .ok (.aload_n 0, 1) := by decide +kernel
theorem dX8_shift_72 : decode cX8_shift 72 = .ok (.getfield 54, 3) := by decide +kernel
theorem dX8_shift_75 : decode cX8_shift 75 = .ok (.getfield 99, 3) := by decide +kernel
theorem dX8_shift_78 : decode cX8_shift 78 = .ok (.iload 4, 2) := by decide +kernel
theorem dX8_shift_80 : decode cX8_shift 80 = .ok (.bipush 12, 2) := by decide +kernel
theorem dX8_shift_82 : decode cX8_shift 82 = .ok (.irem, 1) := by decide +kernel
theorem dX8_shift_83 : decode cX8_shift 83 = .ok (.iload_n 1, 1) := by decide +kernel
theorem dX8_shift_84 : decode cX8_shift 84 = .ok (.iadd, 1) := by decide +kernel
theorem dX8_shift_85 : decode cX8_shift 85 = .ok (.iload 4, 2) := by decide +kernel
theorem dX8_shift_87 : decode cX8_shift 87 = .ok (.bipush 12, 2) := by decide +kernel
theorem dX8_shift_89 : decode cX8_shift 89 = .ok (.idiv, 1) := by decide +kernel
theorem dX8_shift_90 : decode cX8_shift 90 = .ok (.iload_n 2, 1) := by decide +kernel
theorem dX8_shift_91 : decode cX8_shift 91 = .ok (.iadd, 1) := by decide +kernel
theorem dX8_shift_92 : decode cX8_shift 92 = .ok (.invokevirtual 109, 3) := by decide +kernel
theorem dX8_shift_95 : decode cX8_shift 95 = .ok (.iastore, 1) := by decide +kernel
theorem dX8_shift_96 : decode cX8_shift 96 = .ok (.iinc 4 1, 3) := by decide +kernel
theorem dX8_shift_99 : decode cX8_shift 99 = .ok (.goto (-41), 3) := by decide +kernel
theorem dX8_shift_102 : decode cX8_shift 102 = .ok (.aload_n 3, 1) := by decide +kernel
theorem dX8_shift_103 : decode cX8_shift 103 = .ok (.aload_n 0, 1) := by decide +kernel
theorem dX8_shift_104 : decode cX8_shift 104 = .ok (.getfield 54, 3) := by decide +kernel
theorem dX8_shift_107 : decode cX8_shift 107 = .ok (.getfield 99, 3) := by decide +kernel
theorem dX8_shift_110 : decode cX8_shift 110 = .ok (.invokevirtual 152, 3) := by decide +kernel
theorem dX8_shift_113 : decode cX8_shift 113 = .ok (.ireturn, 1) := by decide +kernel
theorem dX8_take_0 : decode cX8_take 0 = .ok (.aload_n 0, 1) := by decide +kernel
theorem dX8_take_1 : decode cX8_take 1 = .ok (.getfield 10, 3) := by decide +kernel
theorem dX8_take_4 : decode cX8_take 4 = .ok (.invokevirtual 148, 3) := by decide +kernel
theorem dX8_take_7 : decode cX8_take 7 = .ok (.aload_n 0, 1) := by decide +kernel
theorem dX8_take_8 : decode cX8_take 8 = .ok (.getfield 10, 3) := by decide +kernel
theorem dX8_take_11 : decode cX8_take 11 = .ok (.getfield 82, 3) := by decide +kernel
theorem dX8_take_14 : decode cX8_take 14 = .ok (.astore_n 1, 1) := by decide +kernel
theorem dX8_take_15 : decode cX8_take 15 = .ok (.aload_n 1, 1) := by decide +kernel
theorem dX8_take_16 : decode cX8_take 16 = .ok (.getfield 85, 3) := by decide +kernel
theorem dX8_take_19 : decode cX8_take 19 = .ok (.aload_n 1, 1) := by decide +kernel
theorem dX8_take_20 : decode cX8_take 20 = .ok (.getfield 99, 3) := by decide +kernel
theorem dX8_take_23 : decode cX8_take 23 = .ok (.invokevirtual 152, 3) := by decide +kernel
theorem dX8_take_26 : decode cX8_take 26 = .ok (.istore_n 2, 1) := by decide +kernel
theorem dX8_take_27 : decode cX8_take 27 = .ok (.aload_n 1, 1) := by decide +kernel
theorem dX8_take_28 : decode cX8_take 28 = .ok (.getfield 85, 3) := by decide +kernel
theorem dX8_take_31 : decode cX8_take 31 = .ok (.aload_n 1, 1) := by decide +kernel
theorem dX8_take_32 : decode cX8_take 32 = .ok (.getfield 99, 3) := by decide +kernel
theorem dX8_take_35 : decode cX8_take 35 = .ok (.getfield 151, 3) := by decide +kernel
theorem dX8_take_38 : decode cX8_take 38 = .ok (.invokevirtual 93, 3) := by decide +kernel
theorem dX8_take_41 : decode cX8_take 41 = .ok (.iload_n 2, 1) := by decide +kernel
theorem dX8_take_42 : decode cX8_take 42 = .ok (.ireturn, 1) := by decide +kernel
theorem dX8_like_0 : decode cX8_like 0 = .ok (.iload_n 1, 1) := by decide +kernel
theorem dX8_like_1 : decode cX8_like 1 = .ok (.iconst 0, 1) := by decide +kernel
theorem dX8_like_2 : decode cX8_like 2 = .ok (.iconst 4, 1) := by decide +kernel
theorem dX8_like_3 : decode cX8_like 3 = .ok (.invokestatic 105, 3) := by decide +kernel
theorem dX8_like_6 : decode cX8_like 6 = .ok (.ifCond .ne 6, 3) := by decide +kernel
theorem dX8_like_9 : decode cX8_like 9 = .ok (.ldc 65, 2) := by decide +kernel
theorem dX8_like_11 : decode cX8_like 11 = .ok (.ireturn, 1) := by decide +kernel
theorem dX8_like_12 : decode cX8_like 12 = .ok (.aload_n 0, 1) := by decide +kernel
theorem dX8_like_13 : decode cX8_like 13 = .ok (.getfield 10, 3) := by decide +kernel
theorem dX8_like_16 : decode cX8_like 16 = .ok (.getfield 82, 3) := by decide +kernel
theorem dX8_like_19 : decode cX8_like 19 = .ok (.getfield 113, 3) := by decide +kernel
theorem dX8_like_22 : decode cX8_like 22 = .ok (.istore_n 2, 1) := by decide +kernel
theorem dX8_like_23 : decode cX8_like 23 = .ok (.iload_n 2, 1) := by decide +kernel
theorem dX8_like_24 : decode cX8_like 24 = .ok (.iload_n 1, 1) := by decide +kernel
theorem dX8_like_25 : decode cX8_like 25 = .ok (.if_icmp .ne 6, 3) := by decide +kernel
theorem dX8_like_28 : decode cX8_like 28 = .ok (.ldc 147, 2) := by decide +kernel
theorem dX8_like_30 : decode cX8_like 30 = .ok (.ireturn, 1) := by decide +kernel
theorem dX8_like_31 : decode cX8_like 31 = .ok (.aload_n 0, 1) := by decide +kernel
theorem dX8_like_32 : decode cX8_like 32 = .ok (.getfield 10, 3) := by decide +kernel
theorem dX8_like_35 : decode cX8_like 35 = .ok (.invokevirtual 148, 3) := by decide +kernel
theorem dX8_like_38 : decode cX8_like 38 = .ok (.aload_n 0, 1) := by decide +kernel
theorem dX8_like_39 : decode cX8_like 39 = .ok (.getfield 10, 3) := by decide +kernel
theorem dX8_like_42 : decode cX8_like 42 = .ok (.getfield 82, 3) := by decide +kernel
theorem dX8_like_45 : decode cX8_like 45 = .ok (.iload_n 1, 1) := by decide +kernel
theorem dX8_like_46 : decode cX8_like 46 = .ok (.putfield 113, 3) := by decide +kernel
theorem dX8_like_49 : decode cX8_like 49 = .ok (.iload_n 2, 1) := by decide +kernel
theorem dX8_like_50 : decode cX8_like 50 = .ok (.ireturn, 1) := by decide +kernel
theorem dX8_noise_0 : decode cX8_noise 0 = .ok (.iload_n 1, 1) := by decide +kernel
theorem dX8_noise_1 : decode cX8_noise 1 = .ok (.iconst 1, 1) := by decide +kernel
theorem dX8_noise_2 : decode cX8_noise 2 = .ok (.bipush 40, 2) := by decide +kernel
theorem dX8_noise_4 : decode cX8_noise 4 = .ok (.invokestatic 105, 3) := by decide +kernel
theorem dX8_noise_7 : decode cX8_noise 7 = .ok (.ifCond .ne 6, 3) := by decide +kernel
theorem dX8_noise_10 : decode cX8_noise 10 = .ok (.ldc 65, 2) := by decide +kernel
theorem dX8_noise_12 : decode cX8_noise 12 = .ok (.ireturn, 1) := by decide +kernel
theorem dX8_noise_13 : decode cX8_noise 13 = .ok (.iconst 0, 1) := by decide +kernel
theorem dX8_noise_14 : decode cX8_noise 14 = .ok (.istore_n 2, 1) := by decide +kernel
theorem dX8_noise_15 : decode cX8_noise 15 = .ok (.iload_n 2, 1) := by decide +kernel
theorem dX8_noise_16 : decode cX8_noise 16 = .ok (.iload_n 1, 1) := by decide +kernel
theorem dX8_noise_17 : decode cX8_noise 17 = .ok (.if_icmp .ge 26, 3) := by decide +kernel
theorem dX8_noise_20 : decode cX8_noise 20 = .ok (.aload_n 0, 1) := by decide +kernel
theorem dX8_noise_21 : decode cX8_noise 21 = .ok (.getfield 10, 3) := by decide +kernel
theorem dX8_noise_24 : decode cX8_noise 24 = .ok (.invokevirtual 148, 3) := by decide +kernel
theorem dX8_noise_27 : decode cX8_noise 27 = .ok (.aload_n 0, 1) := by decide +kernel
theorem dX8_noise_28 : decode cX8_noise 28 = .ok (.getfield 10, 3) := by decide +kernel
theorem dX8_noise_31 : decode cX8_noise 31 = .ok (.getfield 82, 3) := by decide +kernel
theorem dX8_noise_34 : decode cX8_noise 34 = .ok (.invokevirtual 156, 3) := by decide +kernel
theorem dX8_noise_37 : decode cX8_noise 37 = .ok (.iinc 2 1, 3) := by decide +kernel
theorem dX8_noise_40 : decode cX8_noise 40 = .ok (.goto (-25), 3) := by decide +kernel
theorem dX8_noise_43 : decode cX8_noise 43 = .ok (.aload_n 0, 1) := by decide +kernel
theorem dX8_noise_44 : decode cX8_noise 44 = .ok (.getfield 47, 3) := by decide +kernel
theorem dX8_noise_47 : decode cX8_noise 47 = .ok (.aload_n 0, 1) := by decide +kernel
theorem dX8_noise_48 : decode cX8_noise 48 = .ok (.getfield 10, 3) := by decide +kernel
theorem dX8_noise_51 : decode cX8_noise 51 = .ok (.getfield 82, 3) := by decide +kernel
theorem dX8_noise_54 : decode cX8_noise 54 = .ok (.aload_n 0, 1) := by decide +kernel
theorem dX8_noise_55 : decode cX8_noise 55 = .ok (.getfield 33, 3) := by decide +kernel
theorem dX8_noise_58 : decode cX8_noise 58 = .ok (.invokevirtual 119, 3) := by decide +kernel
theorem dX8_noise_61 : decode cX8_noise 61 = .ok (.aload_n 0, 1) := by decide +kernel
theorem dX8_noise_62 : decode cX8_noise 62 = .ok (.getfield 47, 3) := by decide +kernel
theorem dX8_noise_65 : decode cX8_noise 65 = .ok (.aload_n 0, 1) := by decide +kernel
theorem dX8_noise_66 : decode cX8_noise 66 = .ok (.getfield 10, 3) := by decide +kernel
theorem dX8_noise_69 : decode cX8_noise 69 = .ok (.getfield 82, 3) := by decide +kernel
theorem dX8_noise_72 : decode cX8_noise 72 = .ok (.invokevirtual 126, 3) := by decide +kernel
theorem dX8_noise_75 : decode cX8_noise 75 = .ok (.ireturn, 1) := by decide +kernel
theorem dX8_undo_0 : decode cX8_undo 0 = .ok (.aload_n 0, 1) := by decide +kernel
theorem dX8_undo_1 : decode cX8_undo 1 = .ok (.getfield 10, 3) := by decide +kernel
theorem dX8_undo_4 : decode cX8_undo 4 = .ok (.getfield 102, 3) := by decide +kernel
theorem dX8_undo_7 : decode cX8_undo 7 = .ok (.ifCond .ne 6, 3) := by decide +kernel
theorem dX8_undo_10 : decode cX8_undo 10 = .ok (.ldc 159, 2) := by decide +kernel
theorem dX8_undo_12 : decode cX8_undo 12 = .ok (.ireturn, 1) := by decide +kernel
theorem dX8_undo_13 : decode cX8_undo 13 = .ok (.aload_n 0, 1) := by decide +kernel
theorem dX8_undo_14 : decode cX8_undo 14 = .ok (.getfield 10, 3) := by decide +kernel
theorem dX8_undo_17 : decode cX8_undo 17 = .ok (.invokevirtual 160, 3) := by decide +kernel
theorem dX8_undo_20 : decode cX8_undo 20 = .ok (.aload_n 0, 1) := by decide +kernel
theorem dX8_undo_21 : decode cX8_undo 21 = .ok (.getfield 10, 3) := by decide +kernel
theorem dX8_undo_24 : decode cX8_undo 24 = .ok (.getfield 102, 3) := by decide +kernel
theorem dX8_undo_27 : decode cX8_undo 27 = .ok (.ireturn, 1) := by decide +kernel
theorem dX8_seed_0 : decode cX8_seed 0 = .ok (.iload_n 1, 1) := by decide +kernel
theorem dX8_seed_1 : decode cX8_seed 1 = .ok (.ifCond .ge 6, 3) := by decide +kernel
theorem dX8_seed_4 : decode cX8_seed 4 = .ok (.ldc 65, 2) := by decide +kernel
theorem dX8_seed_6 : decode cX8_seed 6 = .ok (.ireturn, 1) := by decide +kernel
theorem dX8_seed_7 : decode cX8_seed 7 = .ok (.aload_n 0, 1) := by decide +kernel
theorem dX8_seed_8 : decode cX8_seed 8 = .ok (.getfield 10, 3) := by decide +kernel
theorem dX8_seed_11 : decode cX8_seed 11 = .ok (.getfield 82, 3) := by decide +kernel
theorem dX8_seed_14 : decode cX8_seed 14 = .ok (.getfield 163, 3) := by decide +kernel
theorem dX8_seed_17 : decode cX8_seed 17 = .ok (.istore_n 2, 1) := by decide +kernel
theorem dX8_seed_18 : decode cX8_seed 18 = .ok (.aload_n 0, 1) := by decide +kernel
theorem dX8_seed_19 : decode cX8_seed 19 = .ok (.getfield 10, 3) := by decide +kernel
theorem dX8_seed_22 : decode cX8_seed 22 = .ok (.getfield 82, 3) := by decide +kernel
theorem dX8_seed_25 : decode cX8_seed 25 = .ok (.iload_n 1, 1) := by decide +kernel
theorem dX8_seed_26 : decode cX8_seed 26 = .ok (.putfield 163, 3) := by decide +kernel
theorem dX8_seed_29 : decode cX8_seed 29 = .ok (.iload_n 2, 1) := by decide +kernel
theorem dX8_seed_30 : decode cX8_seed 30 = .ok (.ireturn, 1) := by decide +kernel
theorem dX8_cost_0 : decode cX8_cost 0 = .ok (.iload_n 1, 1) := by decide +kernel
theorem dX8_cost_1 : decode cX8_cost 1 = .ok (.iconst 0, 1) := by decide +kernel
theorem dX8_cost_2 : decode cX8_cost 2 = .ok (.iconst 5, 1) := by decide +kernel
theorem dX8_cost_3 : decode cX8_cost 3 = .ok (.invokestatic 105, 3) := by decide +kernel
theorem dX8_cost_6 : decode cX8_cost 6 = .ok (.ifCond .eq 13, 3) := by decide +kernel
theorem dX8_cost_9 : decode cX8_cost 9 = .ok (.iload_n 2, 1) := by decide +kernel
theorem dX8_cost_10 : decode cX8_cost 10 = .ok (.iconst 0, 1) := by decide +kernel
theorem dX8_cost_11 : decode cX8_cost 11 = .ok (.bipush 48, 2) := by decide +kernel
theorem dX8_cost_13 : decode cX8_cost 13 = .ok (.invokestatic 105, 3) := by decide +kernel
theorem dX8_cost_16 : decode cX8_cost 16 = .ok (.ifCond .ne 6, 3) := by decide +kernel
theorem dX8_cost_19 : decode cX8_cost 19 = .ok (.ldc 65, 2) := by decide +kernel
theorem dX8_cost_21 : decode cX8_cost 21 = .ok (.ireturn, 1) := by decide +kernel
theorem dX8_cost_22 : decode cX8_cost 22 = .ok (.aload_n 0, 1) := by decide +kernel
theorem dX8_cost_23 : decode cX8_cost 23 = .ok (.getfield 33, 3) := by decide +kernel
theorem dX8_cost_26 : decode cX8_cost 26 = .ok (.aload_n 0, 1) := by decide +kernel
theorem dX8_cost_27 : decode cX8_cost 27 = .ok (.getfield 10, 3) := by decide +kernel
theorem dX8_cost_30 : decode cX8_cost 30 = .ok (.getfield 82, 3) := by decide +kernel
theorem dX8_cost_33 : decode cX8_cost 33 = .ok (.iload_n 1, 1) := by decide +kernel
theorem dX8_cost_34 : decode cX8_cost 34 = .ok (.iload_n 2, 1) := by decide +kernel
theorem dX8_cost_35 : decode cX8_cost 35 = .ok (.invokevirtual 166, 3) := by decide +kernel
theorem dX8_cost_38 : decode cX8_cost 38 = .ok (.ireturn, 1) := by decide +kernel
theorem dX8_of_0 : decode cX8_of 0 = .ok (.iload_n 1, 1) := by decide +kernel
theorem dX8_of_1 : decode cX8_of 1 = .ok (.iconst 0, 1) := by decide +kernel
theorem dX8_of_2 : decode cX8_of 2 = .ok (.iconst 5, 1) := by decide +kernel
theorem dX8_of_3 : decode cX8_of 3 = .ok (.invokestatic 105, 3) := by decide +kernel
theorem dX8_of_6 : decode cX8_of 6 = .ok (.ifCond .eq 13, 3) := by decide +kernel
theorem dX8_of_9 : decode cX8_of 9 = .ok (.iload_n 2, 1) := by decide +kernel
theorem dX8_of_10 : decode cX8_of 10 = .ok (.iconst 0, 1) := by decide +kernel
theorem dX8_of_11 : decode cX8_of 11 = .ok (.bipush 9, 2) := by decide +kernel
theorem dX8_of_13 : decode cX8_of 13 = .ok (.invokestatic 105, 3) := by decide +kernel
theorem dX8_of_16 : decode cX8_of 16 = .ok (.ifCond .ne 6, 3) := by decide +kernel
theorem dX8_of_19 : decode cX8_of 19 = .ok (.ldc 65, 2) := by decide +kernel
theorem dX8_of_21 : decode cX8_of 21 = .ok (.ireturn, 1) := by decide +kernel
theorem dX8_of_22 : decode cX8_of 22 = .ok (.iload_n 2, 1) := by decide +kernel
theorem dX8_of_23 : decode cX8_of 23 = .ok (.bipush 8, 2) := by decide +kernel
theorem dX8_of_25 : decode cX8_of 25 = .ok (.if_icmp .lt 41, 3) := by decide +kernel
theorem dX8_of_28 : decode cX8_of 28 = .ok (.aload_n 0, 1) := by decide +kernel
theorem dX8_of_29 : decode cX8_of 29 = .ok (.getfield 47, 3) := by decide +kernel
theorem dX8_of_32 : decode cX8_of 32 = .ok (.aload_n 0, 1) := by decide +kernel
theorem dX8_of_33 : decode cX8_of 33 = .ok (.getfield 10, 3) := by decide +kernel
theorem dX8_of_36 : decode cX8_of 36 = .ok (.getfield 82, 3) := by decide +kernel
theorem dX8_of_39 : decode cX8_of 39 = .ok (.aload_n 0, 1) := by decide +kernel
theorem dX8_of_40 : decode cX8_of 40 = .ok (.getfield 33, 3) := by decide +kernel
theorem dX8_of_43 : decode cX8_of 43 = .ok (.invokevirtual 119, 3) := by decide +kernel
theorem dX8_of_46 : decode cX8_of 46 = .ok (.aload_n 0, 1) := by decide +kernel
theorem dX8_of_47 : decode cX8_of 47 = .ok (.getfield 47, 3) := by decide +kernel
theorem dX8_of_50 : decode cX8_of 50 = .ok (.iload_n 1, 1) := by decide +kernel
theorem dX8_of_51 : decode cX8_of 51 = .ok (.iload_n 2, 1) := by decide +kernel
theorem dX8_of_52 : decode cX8_of 52 = .ok (.bipush 8, 2) := by decide +kernel
theorem dX8_of_54 : decode cX8_of 54 = .ok (.if_icmp .ne 7, 3) := by decide +kernel
theorem dX8_of_57 : decode cX8_of 57 = .ok (.iconst 1, 1) := by decide +kernel
theorem dX8_of_58 : decode cX8_of 58 = .ok (.goto 4, 3) := by decide +kernel
theorem dX8_of_61 : decode cX8_of 61 = .ok (.iconst 0, 1) := by decide +kernel
theorem dX8_of_62 : decode cX8_of 62 = .ok (.invokevirtual 170, 3) := by decide +kernel
theorem dX8_of_65 : decode cX8_of 65 = .ok (.ireturn, 1) := by decide +kernel
theorem dX8_of_66 : decode cX8_of 66 = .ok (.iload_n 2, 1) := by decide +kernel
theorem dX8_of_67 : decode cX8_of 67 = .ok (.bipush 6, 2) := by decide +kernel
theorem dX8_of_69 : decode cX8_of 69 = .ok (.if_icmp .lt 64, 3) := by decide +kernel
theorem dX8_of_72 : decode cX8_of 72 = .ok (.aload_n 0, 1) := by decide +kernel
theorem dX8_of_73 : decode cX8_of 73 = .ok (.getfield 33, 3) := by decide +kernel
theorem dX8_of_76 : decode cX8_of 76 = .ok (.aload_n 0, 1) := by decide +kernel
theorem dX8_of_77 : decode cX8_of 77 = .ok (.getfield 10, 3) := by decide +kernel
theorem dX8_of_80 : decode cX8_of 80 = .ok (.getfield 82, 3) := by decide +kernel
theorem dX8_of_83 : decode cX8_of 83 = .ok (.iload_n 1, 1) := by decide +kernel
theorem dX8_of_84 : decode cX8_of 84 = .ok (.invokevirtual 174, 3) := by decide +kernel
theorem dX8_of_87 : decode cX8_of 87 = .ok (.aload_n 0, 1) := by decide +kernel
theorem dX8_of_88 : decode cX8_of 88 = .ok (.getfield 40, 3) := by decide +kernel
theorem dX8_of_91 : decode cX8_of 91 = .ok (.aload_n 0, 1) := by decide +kernel
theorem dX8_of_92 : decode cX8_of 92 = .ok (.getfield 10, 3) := by decide +kernel
theorem dX8_of_95 : decode cX8_of 95 = .ok (.getfield 82, 3) := by decide +kernel
theorem dX8_of_98 : decode cX8_of 98 = .ok (.iload_n 1, 1) := by decide +kernel
theorem dX8_of_99 : decode cX8_of 99 = .ok (.aload_n 0, 1) := by decide +kernel
theorem dX8_of_100 : decode cX8_of 100 = .ok (.getfield 33, 3) := by decide +kernel
theorem dX8_of_103 : decode cX8_of 103 = .ok (.getfield 134, 3) := by decide +kernel
theorem dX8_of_106 : decode cX8_of 106 = .ok (.invokevirtual 178, 3) := by decide +kernel
theorem dX8_of_109 : decode cX8_of 109 = .ok (.iload_n 2, 1) := by decide +kernel
theorem dX8_of_110 : decode cX8_of 110 = .ok (.bipush 6, 2) := by decide +kernel
theorem dX8_of_112 : decode cX8_of 112 = .ok (.if_icmp .ne 13, 3) := by decide +kernel
theorem dX8_of_115 : decode cX8_of 115 = .ok (.aload_n 0, 1) := by decide +kernel
theorem dX8_of_116 : decode cX8_of 116 = .ok (.getfield 40, 3) := by decide +kernel
theorem dX8_of_119 : decode cX8_of 119 = .ok (.getfield 182, 3) := by decide +kernel
theorem dX8_of_122 : decode cX8_of 122 = .ok (.goto 10, 3) := by decide +kernel
theorem dX8_of_125 : decode cX8_of 125 = .ok (.aload_n 0, 1) := by decide +kernel
theorem dX8_of_126 : decode cX8_of 126 = .ok (.getfield 40, 3) := by decide +kernel
theorem dX8_of_129 : decode cX8_of 129 = .ok (.getfield 185, 3) := by decide +kernel
theorem dX8_of_132 : decode cX8_of 132 = .ok (.ireturn, 1) := by decide +kernel
theorem dX8_of_133 : decode cX8_of 133 = .ok (.iload_n 2, 1) := by decide +kernel
theorem dX8_of_134 : decode cX8_of 134 = .ok (.iconst 5, 1) := by decide +kernel
theorem dX8_of_135 : decode cX8_of 135 = .ok (.if_icmp .ne 26, 3) := by decide +kernel
theorem dX8_of_138 : decode cX8_of 138 = .ok (.aload_n 0, 1) := by decide +kernel
theorem dX8_of_139 : decode cX8_of 139 = .ok (.getfield 33, 3) := by decide +kernel
theorem dX8_of_142 : decode cX8_of 142 = .ok (.aload_n 0, 1) := by decide +kernel
theorem dX8_of_143 : decode cX8_of 143 = .ok (.getfield 10, 3) := by decide +kernel
theorem dX8_of_146 : decode cX8_of 146 = .ok (.getfield 82, 3) := by decide +kernel
theorem dX8_of_149 : decode cX8_of 149 = .ok (.iload_n 1, 1) := by decide +kernel
theorem dX8_of_150 : decode cX8_of 150 = .ok (.invokevirtual 186, 3) := by decide +kernel
theorem dX8_of_153 : decode cX8_of 153 = .ok (.aload_n 0, 1) := by decide +kernel
theorem dX8_of_154 : decode cX8_of 154 = .ok (.getfield 33, 3) := by decide +kernel
theorem dX8_of_157 : decode cX8_of 157 = .ok (.getfield 134, 3) := by decide +kernel
theorem dX8_of_160 : decode cX8_of 160 = .ok (.ireturn, 1) := by decide +kernel
theorem dX8_of_161 : decode cX8_of 161 = .ok (.aload_n 0, 1) := by decide +kernel
theorem dX8_of_162 : decode cX8_of 162 = .ok (.iload_n 1, 1) := by decide +kernel
theorem dX8_of_163 : decode cX8_of 163 = .ok (.iload_n 2, 1) := by decide +kernel
theorem dX8_of_164 : decode cX8_of 164 = .ok (.invokevirtual 189, 3) := by decide +kernel
theorem dX8_of_167 : decode cX8_of 167 = .ok (.ireturn, 1) := by decide +kernel
theorem dX8_rebuilt_0 : decode cX8_rebuilt 0 = .ok (.iload_n 1, 1) := by decide +kernel
theorem dX8_rebuilt_1 : decode cX8_rebuilt 1 = .ok (.iload_n 2, 1) := by decide +kernel
theorem dX8_rebuilt_2 : decode cX8_rebuilt 2 = .ok (.invokestatic 143, 3) := by decide +kernel
theorem dX8_rebuilt_5 : decode cX8_rebuilt 5 = .ok (.ifCond .ne 6, 3) := by decide +kernel
theorem dX8_rebuilt_8 : decode cX8_rebuilt 8 = .ok (.ldc 65, 2) := by decide +kernel
theorem dX8_rebuilt_10 : decode cX8_rebuilt 10 = .ok (.ireturn, 1) := by decide +kernel
theorem dX8_rebuilt_11 : decode cX8_rebuilt 11 = .ok (.aload_n 0, 1) := by decide +kernel
theorem dX8_rebuilt_12 : decode cX8_rebuilt 12 = .ok (.getfield 33, 3) := by decide +kernel
theorem dX8_rebuilt_15 : decode cX8_rebuilt 15 = .ok (.aload_n 0, 1) := by decide +kernel
theorem dX8_rebuilt_16 : decode cX8_rebuilt 16 = .ok (.getfield 10, 3) := by decide +kernel
theorem dX8_rebuilt_19 : decode cX8_rebuilt 19 = .ok (.getfield 82, 3) := by decide +kernel
theorem dX8_rebuilt_22 : decode cX8_rebuilt 22 = .ok (.iload_n 1, 1) := by decide +kernel
theorem dX8_rebuilt_23 : decode cX8_rebuilt 23 = .ok (.iload_n 2, 1) := by decide +kernel
theorem dX8_rebuilt_24 : decode cX8_rebuilt 24 = .ok (.invokestatic 192, 3) := by decide +kernel
theorem dX8_rebuilt_27 : decode cX8_rebuilt 27 = .ok (.invokevirtual 174, 3) := by decide +kernel
theorem dX8_rebuilt_30 : decode cX8_rebuilt 30 = .ok (.aload_n 0, 1) := by decide +kernel
theorem dX8_rebuilt_31 : decode cX8_rebuilt 31 = .ok (.getfield 10, 3) := by decide +kernel
theorem dX8_rebuilt_34 : decode cX8_rebuilt 34 = .ok (.getfield 82, 3) := by decide +kernel
theorem dX8_rebuilt_37 : decode cX8_rebuilt 37 = .ok (.getfield 85, 3) := by decide +kernel
theorem dX8_rebuilt_40 : decode cX8_rebuilt 40 = .ok (.iload_n 1, 1) := by decide +kernel
theorem dX8_rebuilt_41 : decode cX8_rebuilt 41 = .ok (.aload_n 0, 1) := by decide +kernel
theorem dX8_rebuilt_42 : decode cX8_rebuilt 42 = .ok (.getfield 33, 3) := by decide +kernel
theorem dX8_rebuilt_45 : decode cX8_rebuilt 45 = .ok (.getfield 134, 3) := by decide +kernel
theorem dX8_rebuilt_48 : decode cX8_rebuilt 48 = .ok (.invokestatic 195, 3) := by decide +kernel
theorem dX8_rebuilt_51 : decode cX8_rebuilt 51 = .ok (.iadd, 1) := by decide +kernel
theorem dX8_rebuilt_52 : decode cX8_rebuilt 52 = .ok (.iload_n 2, 1) := by decide +kernel
theorem dX8_rebuilt_53 : decode cX8_rebuilt 53 = .ok (.aload_n 0, 1) := by decide +kernel
theorem dX8_rebuilt_54 : decode cX8_rebuilt 54 = .ok (.getfield 33, 3) := by decide +kernel
theorem dX8_rebuilt_57 : decode cX8_rebuilt 57 = .ok (.getfield 134, 3) := by decide +kernel
theorem dX8_rebuilt_60 : decode cX8_rebuilt 60 = .ok (.invokestatic 199, 3) := by decide +kernel
theorem dX8_rebuilt_63 : decode cX8_rebuilt 63 = .ok (.iadd, 1) := by decide +kernel
theorem dX8_rebuilt_64 : decode cX8_rebuilt 64 = .ok (.invokevirtual 109, 3) := by decide +kernel
theorem dX8_rebuilt_67 : decode cX8_rebuilt 67 = .ok (.ireturn, 1) := by decide +kernel
theorem dX8_wrong_0 : decode cX8_wrong 0 = .ok (.iload_n 1, 1) := by decide +kernel
theorem dX8_wrong_1 : decode cX8_wrong 1 = .ok (.iconst 0, 1) := by decide +kernel
theorem dX8_wrong_2 : decode cX8_wrong 2 = .ok (.bipush 6, 2) := by decide +kernel
theorem dX8_wrong_4 : decode cX8_wrong 4 = .ok (.invokestatic 105, 3) := by decide +kernel
theorem dX8_wrong_7 : decode cX8_wrong 7 = .ok (.ifCond .eq 22, 3) := by decide +kernel
theorem dX8_wrong_10 : decode cX8_wrong 10 = .ok (.iload_n 2, 1) := by decide +kernel
theorem dX8_wrong_11 : decode cX8_wrong 11 = .ok (.iconst 0, 1) := by decide +kernel
theorem dX8_wrong_12 : decode cX8_wrong 12 = .ok (.bipush 10, 2) := by decide +kernel
theorem dX8_wrong_14 : decode cX8_wrong 14 = .ok (.invokestatic 105, 3) := by decide +kernel
theorem dX8_wrong_17 : decode cX8_wrong 17 = .ok (.ifCond .eq 12, 3) := by decide +kernel
theorem dX8_wrong_20 : decode cX8_wrong 20 = .ok (.iload_n 3, 1) := by decide +kernel
theorem dX8_wrong_21 : decode cX8_wrong 21 = .ok (.iconst 0, 1) := by decide +kernel
theorem dX8_wrong_22 : decode cX8_wrong 22 = .ok (.iconst 1, 1) := by decide +kernel
theorem dX8_wrong_23 : decode cX8_wrong 23 = .ok (.invokestatic 105, 3) := by decide +kernel
theorem dX8_wrong_26 : decode cX8_wrong 26 = .ok (.ifCond .ne 6, 3) := by decide +kernel
theorem dX8_wrong_29 : decode cX8_wrong 29 = .ok (.ldc 65, 2) := by decide +kernel
theorem dX8_wrong_31 : decode cX8_wrong 31 = .ok (.ireturn, 1) := by decide +kernel
theorem dX8_wrong_32 : decode cX8_wrong 32 = .ok (.iload_n 1, 1) := by decide +kernel
theorem dX8_wrong_33 : decode cX8_wrong 33 = .ok (.iconst 4, 1) := by decide +kernel
theorem dX8_wrong_34 : decode cX8_wrong 34 = .ok (.invokestatic 202, 3) := by decide +kernel
theorem dX8_wrong_37 : decode cX8_wrong 37 = .ok (.istore 4, 2) := by decide +kernel
theorem dX8_wrong_39 : decode cX8_wrong 39 = .ok (.aload_n 0, 1) := by decide +kernel
theorem dX8_wrong_40 : decode cX8_wrong 40 = .ok (.iload 4, 2) := by decide +kernel
theorem dX8_wrong_42 : decode cX8_wrong 42 = .ok (.iload_n 2, 1) := by decide +kernel
theorem dX8_wrong_43 : decode cX8_wrong 43 = .ok (.invokevirtual 207, 3) := by decide +kernel
theorem dX8_wrong_46 : decode cX8_wrong 46 = .ok (.istore 5, 2) := by decide +kernel
theorem dX8_wrong_48 : decode cX8_wrong 48 = .ok (.bipush 10, 2) := by decide +kernel
theorem dX8_wrong_50 : decode cX8_wrong 50 = .ok (.iload 4, 2) := by decide +kernel
theorem dX8_wrong_52 : decode cX8_wrong 52 = .ok (.invokestatic 210, 3) := by decide +kernel
theorem dX8_wrong_55 : decode cX8_wrong 55 = .ok (.istore 6, 2) := by decide +kernel
theorem dX8_wrong_57 : decode cX8_wrong 57 = .ok (.iload 5, 2) := by decide +kernel
theorem dX8_wrong_59 : decode cX8_wrong 59 = .ok (.iload 6, 2) := by decide +kernel
theorem dX8_wrong_61 : decode cX8_wrong 61 = .ok (.invokestatic 213, 3) := by decide +kernel
theorem dX8_wrong_64 : decode cX8_wrong 64 = .ok (.istore 7, 2) := by decide +kernel
theorem dX8_wrong_66 : decode cX8_wrong 66 = .ok (.iload 7, 2) := by decide +kernel
theorem dX8_wrong_68 : decode cX8_wrong 68 = .ok (.iconst 1, 1) := by decide +kernel
theorem dX8_wrong_69 : decode cX8_wrong 69 = .ok (.if_icmp .ge 6, 3) := by decide +kernel
theorem dX8_wrong_72 : decode cX8_wrong 72 = .ok (.ldc 65, 2) := by decide +kernel
theorem dX8_wrong_74 : decode cX8_wrong 74 = .ok (.ireturn, 1) := by decide +kernel
theorem dX8_wrong_75 : decode cX8_wrong 75 = .ok (.iload_n 3, 1) := by decide +kernel
theorem dX8_wrong_76 : decode cX8_wrong 76 = .ok (.ifCond .ne 8, 3) := by decide +kernel
theorem dX8_wrong_79 : decode cX8_wrong 79 = .ok (.iload 5, 2) := by decide +kernel
theorem dX8_wrong_81 : decode cX8_wrong 81 = .ok (.goto 5, 3) := by decide +kernel
theorem dX8_wrong_84 : decode cX8_wrong 84 = .ok (.iload 6, 2) := by decide +kernel
theorem dX8_wrong_86 : decode cX8_wrong 86 = .ok (.iload 7, 2) := by decide +kernel
theorem dX8_wrong_88 : decode cX8_wrong 88 = .ok (.idiv, 1) := by decide +kernel
theorem dX8_wrong_89 : decode cX8_wrong 89 = .ok (.ireturn, 1) := by decide +kernel
theorem dX8_image_0 : decode cX8_image 0 = .ok (.aload_n 0, 1) := by decide +kernel
theorem dX8_image_1 : decode cX8_image 1 = .ok (.getfield 16, 3) := by decide +kernel
theorem dX8_image_4 : decode cX8_image 4 = .ok (.aload_n 0, 1) := by decide +kernel
theorem dX8_image_5 : decode cX8_image 5 = .ok (.getfield 10, 3) := by decide +kernel
theorem dX8_image_8 : decode cX8_image 8 = .ok (.invokevirtual 216, 3) := by decide +kernel
theorem dX8_image_11 : decode cX8_image 11 = .ok (.aload_n 0, 1) := by decide +kernel
theorem dX8_image_12 : decode cX8_image 12 = .ok (.iconst 1, 1) := by decide +kernel
theorem dX8_image_13 : decode cX8_image 13 = .ok (.putfield 19, 3) := by decide +kernel
theorem dX8_image_16 : decode cX8_image 16 = .ok (.iconst 1, 1) := by decide +kernel
theorem dX8_image_17 : decode cX8_image 17 = .ok (.ireturn, 1) := by decide +kernel
theorem dX8_restore_0 : decode cX8_restore 0 = .ok (.aload_n 0, 1) := by decide +kernel
theorem dX8_restore_1 : decode cX8_restore 1 = .ok (.getfield 19, 3) := by decide +kernel
theorem dX8_restore_4 : decode cX8_restore 4 = .ok (.ifCond .ne 6, 3) := by decide +kernel
theorem dX8_restore_7 : decode cX8_restore 7 = .ok (.ldc 159, 2) := by decide +kernel
theorem dX8_restore_9 : decode cX8_restore 9 = .ok (.ireturn, 1) := by decide +kernel
theorem dX8_restore_10 : decode cX8_restore 10 = .ok (.aload_n 0, 1) := by decide +kernel
theorem dX8_restore_11 : decode cX8_restore 11 = .ok (.getfield 10, 3) := by decide +kernel
theorem dX8_restore_14 : decode cX8_restore 14 = .ok (.aload_n 0, 1) := by decide +kernel
theorem dX8_restore_15 : decode cX8_restore 15 = .ok (.getfield 16, 3) := by decide +kernel
theorem dX8_restore_18 : decode cX8_restore 18 = .ok (.invokevirtual 216, 3) := by decide +kernel
theorem dX8_restore_21 : decode cX8_restore 21 = .ok (.iconst 1, 1) := by decide +kernel
theorem dX8_restore_22 : decode cX8_restore 22 = .ok (.ireturn, 1) := by decide +kernel
theorem dX8_found_0 : decode cX8_found 0 = .ok (.iload_n 1, 1) := by decide +kernel
theorem dX8_found_1 : decode cX8_found 1 = .ok (.invokestatic 219, 3) := by decide +kernel
theorem dX8_found_4 : decode cX8_found 4 = .ok (.ifCond .eq 21, 3) := by decide +kernel
theorem dX8_found_7 : decode cX8_found 7 = .ok (.iload_n 2, 1) := by decide +kernel
theorem dX8_found_8 : decode cX8_found 8 = .ok (.invokestatic 222, 3) := by decide +kernel
theorem dX8_found_11 : decode cX8_found 11 = .ok (.ifCond .eq 14, 3) := by decide +kernel
theorem dX8_found_14 : decode cX8_found 14 = .ok (.iload 4, 2) := by decide +kernel
theorem dX8_found_16 : decode cX8_found 16 = .ok (.iconst 1, 1) := by decide +kernel
theorem dX8_found_17 : decode cX8_found 17 = .ok (.bipush 6, 2) := by decide +kernel
theorem dX8_found_19 : decode cX8_found 19 = .ok (.invokestatic 105, 3) := by decide +kernel
theorem dX8_found_22 : decode cX8_found 22 = .ok (.ifCond .ne 6, 3) := by decide +kernel
theorem dX8_found_25 : decode cX8_found 25 = .ok (.ldc 65, 2) := by decide +kernel
theorem dX8_found_27 : decode cX8_found 27 = .ok (.ireturn, 1) := by decide +kernel
theorem dX8_found_28 : decode cX8_found 28 = .ok (.aload_n 0, 1) := by decide +kernel
theorem dX8_found_29 : decode cX8_found 29 = .ok (.getfield 60, 3) := by decide +kernel
theorem dX8_found_32 : decode cX8_found 32 = .ok (.iload_n 1, 1) := by decide +kernel
theorem dX8_found_33 : decode cX8_found 33 = .ok (.aaload, 1) := by decide +kernel
theorem dX8_found_34 : decode cX8_found 34 = .ok (.iload_n 2, 1) := by decide +kernel
theorem dX8_found_35 : decode cX8_found 35 = .ok (.iload_n 3, 1) := by decide +kernel
theorem dX8_found_36 : decode cX8_found 36 = .ok (.iload 4, 2) := by decide +kernel
theorem dX8_found_38 : decode cX8_found 38 = .ok (.invokevirtual 225, 3) := by decide +kernel
theorem dX8_found_41 : decode cX8_found 41 = .ok (.istore 5, 2) := by decide +kernel
theorem dX8_found_43 : decode cX8_found 43 = .ok (.iload 5, 2) := by decide +kernel
theorem dX8_found_45 : decode cX8_found 45 = .ok (.ifCond .eq 8, 3) := by decide +kernel
theorem dX8_found_48 : decode cX8_found 48 = .ok (.iload 5, 2) := by decide +kernel
theorem dX8_found_50 : decode cX8_found 50 = .ok (.goto 16, 3) := by decide +kernel
theorem dX8_found_53 : decode cX8_found 53 = .ok (.aload_n 0, 1) := by decide +kernel
theorem dX8_found_54 : decode cX8_found 54 = .ok (.aload_n 0, 1) := by decide +kernel
theorem dX8_found_55 : decode cX8_found 55 = .ok (.getfield 60, 3) := by decide +kernel
theorem dX8_found_58 : decode cX8_found 58 = .ok (.iload_n 1, 1) := by decide +kernel
theorem dX8_found_59 : decode cX8_found 59 = .ok (.aaload, 1) := by decide +kernel
theorem dX8_found_60 : decode cX8_found 60 = .ok (.iload_n 3, 1) := by decide +kernel
theorem dX8_found_61 : decode cX8_found 61 = .ok (.iload 4, 2) := by decide +kernel
theorem dX8_found_63 : decode cX8_found 63 = .ok (.invokevirtual 229, 3) := by decide +kernel
theorem dX8_found_66 : decode cX8_found 66 = .ok (.ireturn, 1) := by decide +kernel
theorem dX8_film_0 : decode cX8_film 0 = .ok (.iload_n 1, 1) := by decide +kernel
theorem dX8_film_1 : decode cX8_film 1 = .ok (.iconst 1, 1) := by decide +kernel
theorem dX8_film_2 : decode cX8_film 2 = .ok (.bipush 6, 2) := by decide +kernel
theorem dX8_film_4 : decode cX8_film 4 = .ok (.invokestatic 105, 3) := by decide +kernel
theorem dX8_film_7 : decode cX8_film 7 = .ok (.ifCond .eq 17, 3) := by decide +kernel
theorem dX8_film_10 : decode cX8_film 10 = .ok (.iload_n 2, 1) := by decide +kernel
theorem dX8_film_11 : decode cX8_film 11 = .ok (.invokestatic 219, 3) := by decide +kernel
theorem dX8_film_14 : decode cX8_film 14 = .ok (.ifCond .eq 10, 3) := by decide +kernel
theorem dX8_film_17 : decode cX8_film 17 = .ok (.iload_n 3, 1) := by decide +kernel
theorem dX8_film_18 : decode cX8_film 18 = .ok (.invokestatic 222, 3) := by decide +kernel
theorem dX8_film_21 : decode cX8_film 21 = .ok (.ifCond .ne 6, 3) := by decide +kernel
theorem dX8_film_24 : decode cX8_film 24 = .ok (.ldc 65, 2) := by decide +kernel
theorem dX8_film_26 : decode cX8_film 26 = .ok (.ireturn, 1) := by decide +kernel
theorem dX8_film_27 : decode cX8_film 27 = .ok (.aload_n 0, 1) := by decide +kernel
theorem dX8_film_28 : decode cX8_film 28 = .ok (.getfield 60, 3) := by decide +kernel
theorem dX8_film_31 : decode cX8_film 31 = .ok (.iload_n 2, 1) := by decide +kernel
theorem dX8_film_32 : decode cX8_film 32 = .ok (.aaload, 1) := by decide +kernel
theorem dX8_film_33 : decode cX8_film 33 = .ok (.iload_n 3, 1) := by decide +kernel
theorem dX8_film_34 : decode cX8_film 34 = .ok (.iload 4, 2) := by decide +kernel
theorem dX8_film_36 : decode cX8_film 36 = .ok (.iload_n 1, 1) := by decide +kernel
theorem dX8_film_37 : decode cX8_film 37 = .ok (.invokevirtual 225, 3) := by decide +kernel
theorem dX8_film_40 : decode cX8_film 40 = .ok (.istore 5, 2) := by decide +kernel
theorem dX8_film_42 : decode cX8_film 42 = .ok (.iload 5, 2) := by decide +kernel
theorem dX8_film_44 : decode cX8_film 44 = .ok (.ifCond .eq 6, 3) := by decide +kernel
theorem dX8_film_47 : decode cX8_film 47 = .ok (.iload 5, 2) := by decide +kernel
theorem dX8_film_49 : decode cX8_film 49 = .ok (.ireturn, 1) := by decide +kernel
theorem dX8_film_50 : decode cX8_film 50 = .ok (.iconst 0, 1) := by decide +kernel
theorem dX8_film_51 : decode cX8_film 51 = .ok (.istore 6, 2) := by decide +kernel
theorem dX8_film_53 : decode cX8_film 53 = .ok (.iload 6, 2) := by decide +kernel
theorem dX8_film_55 : decode cX8_film 55 = .ok (.iload_n 1, 1) := by decide +kernel
theorem dX8_film_56 : decode cX8_film 56 = .ok (.if_icmp .ge 47, 3) := by decide +kernel
theorem dX8_film_59 : decode cX8_film 59 = .ok (.aload_n 0, 1) := by decide +kernel
theorem dX8_film_60 : decode cX8_film 60 = .ok (.getfield 33, 3) := by decide +kernel
theorem dX8_film_63 : decode cX8_film 63 = .ok (.aload_n 0, 1) := by decide +kernel
theorem dX8_film_64 : decode cX8_film 64 = .ok (.getfield 10, 3) := by decide +kernel
theorem dX8_film_67 : decode cX8_film 67 = .ok (.getfield 82, 3) := by decide +kernel
theorem dX8_film_70 : decode cX8_film 70 = .ok (.iload 6, 2) := by decide +kernel
theorem dX8_film_72 : decode cX8_film 72 = .ok (.invokevirtual 174, 3) := by decide +kernel
theorem dX8_film_75 : decode cX8_film 75 = .ok (.aload_n 0, 1) := by decide +kernel
theorem dX8_film_76 : decode cX8_film 76 = .ok (.getfield 60, 3) := by decide +kernel
theorem dX8_film_79 : decode cX8_film 79 = .ok (.iload_n 2, 1) := by decide +kernel
theorem dX8_film_80 : decode cX8_film 80 = .ok (.aaload, 1) := by decide +kernel
theorem dX8_film_81 : decode cX8_film 81 = .ok (.iload 4, 2) := by decide +kernel
theorem dX8_film_83 : decode cX8_film 83 = .ok (.iload 6, 2) := by decide +kernel
theorem dX8_film_85 : decode cX8_film 85 = .ok (.iadd, 1) := by decide +kernel
theorem dX8_film_86 : decode cX8_film 86 = .ok (.aload_n 0, 1) := by decide +kernel
theorem dX8_film_87 : decode cX8_film 87 = .ok (.getfield 33, 3) := by decide +kernel
theorem dX8_film_90 : decode cX8_film 90 = .ok (.getfield 134, 3) := by decide +kernel
theorem dX8_film_93 : decode cX8_film 93 = .ok (.i2l, 1) := by decide +kernel
theorem dX8_film_94 : decode cX8_film 94 = .ok (.invokevirtual 233, 3) := by decide +kernel
theorem dX8_film_97 : decode cX8_film 97 = .ok (.iinc 6 1, 3) := by decide +kernel
theorem dX8_film_100 : decode cX8_film 100 = .ok (.goto (-47), 3) := by decide +kernel
theorem dX8_film_103 : decode cX8_film 103 = .ok (.iload_n 1, 1) := by decide +kernel
theorem dX8_film_104 : decode cX8_film 104 = .ok (.ireturn, 1) := by decide +kernel
theorem dX8_sheet_0 : decode cX8_sheet 0 = .ok (.iload_n 1, 1) := by decide +kernel
theorem dX8_sheet_1 : decode cX8_sheet 1 = .ok (.invokestatic 219, 3) := by decide +kernel
theorem dX8_sheet_4 : decode cX8_sheet 4 = .ok (.ifCond .eq 16, 3) := by decide +kernel
theorem dX8_sheet_7 : decode cX8_sheet 7 = .ok (.iload_n 2, 1) := by decide +kernel
theorem dX8_sheet_8 : decode cX8_sheet 8 = .ok (.invokestatic 222, 3) := by decide +kernel
theorem dX8_sheet_11 : decode cX8_sheet 11 = .ok (.ifCond .eq 9, 3) := by decide +kernel
theorem dX8_sheet_14 : decode cX8_sheet 14 = .ok (.iload_n 3, 1) := by decide +kernel
theorem dX8_sheet_15 : decode cX8_sheet 15 = .ok (.bipush 24, 2) := by decide +kernel
theorem dX8_sheet_17 : decode cX8_sheet 17 = .ok (.if_icmp .le 6, 3) := by decide +kernel
theorem dX8_sheet_20 : decode cX8_sheet 20 = .ok (.ldc 65, 2) := by decide +kernel
theorem dX8_sheet_22 : decode cX8_sheet 22 = .ok (.ireturn, 1) := by decide +kernel
theorem dX8_sheet_23 : decode cX8_sheet 23 = .ok (.iload_n 3, 1) := by decide +kernel
theorem dX8_sheet_24 : decode cX8_sheet 24 = .ok (.ifCond .ge 6, 3) := by decide +kernel
theorem dX8_sheet_27 : decode cX8_sheet 27 = .ok (.ldc 237, 2) := by decide +kernel
theorem dX8_sheet_29 : decode cX8_sheet 29 = .ok (.ireturn, 1) := by decide +kernel
theorem dX8_sheet_30 : decode cX8_sheet 30 = .ok (.aload_n 0, 1) := by decide +kernel
theorem dX8_sheet_31 : decode cX8_sheet 31 = .ok (.getfield 60, 3) := by decide +kernel
theorem dX8_sheet_34 : decode cX8_sheet 34 = .ok (.iload_n 1, 1) := by decide +kernel
theorem dX8_sheet_35 : decode cX8_sheet 35 = .ok (.aaload, 1) := by decide +kernel
theorem dX8_sheet_36 : decode cX8_sheet 36 = .ok (.iload_n 2, 1) := by decide +kernel
theorem dX8_sheet_37 : decode cX8_sheet 37 = .ok (.iload_n 3, 1) := by decide +kernel
theorem dX8_sheet_38 : decode cX8_sheet 38 = .ok (.invokevirtual 238, 3) := by decide +kernel
theorem dX8_sheet_41 : decode cX8_sheet 41 = .ok (.iload_n 3, 1) := by decide +kernel
theorem dX8_sheet_42 : decode cX8_sheet 42 = .ok (.ireturn, 1) := by decide +kernel
theorem dX8_drop_0 : decode cX8_drop 0 = .ok (.iload_n 1, 1) := by decide +kernel
theorem dX8_drop_1 : decode cX8_drop 1 = .ok (.invokestatic 219, 3) := by decide +kernel
theorem dX8_drop_4 : decode cX8_drop 4 = .ok (.ifCond .ne 6, 3) := by decide +kernel
theorem dX8_drop_7 : decode cX8_drop 7 = .ok (.ldc 65, 2) := by decide +kernel
theorem dX8_drop_9 : decode cX8_drop 9 = .ok (.ireturn, 1) := by decide +kernel
theorem dX8_drop_10 : decode cX8_drop 10 = .ok (.aload_n 0, 1) := by decide +kernel
theorem dX8_drop_11 : decode cX8_drop 11 = .ok (.getfield 60, 3) := by decide +kernel
theorem dX8_drop_14 : decode cX8_drop 14 = .ok (.iload_n 1, 1) := by decide +kernel
theorem dX8_drop_15 : decode cX8_drop 15 = .ok (.aaload, 1) := by decide +kernel
theorem dX8_drop_16 : decode cX8_drop 16 = .ok (.getfield 242, 3) := by decide +kernel
theorem dX8_drop_19 : decode cX8_drop 19 = .ok (.ifCond .ne 6, 3) := by decide +kernel
theorem dX8_drop_22 : decode cX8_drop 22 = .ok (.ldc 245, 2) := by decide +kernel
theorem dX8_drop_24 : decode cX8_drop 24 = .ok (.ireturn, 1) := by decide +kernel
theorem dX8_drop_25 : decode cX8_drop 25 = .ok (.aload_n 0, 1) := by decide +kernel
theorem dX8_drop_26 : decode cX8_drop 26 = .ok (.getfield 60, 3) := by decide +kernel
theorem dX8_drop_29 : decode cX8_drop 29 = .ok (.iload_n 1, 1) := by decide +kernel
theorem dX8_drop_30 : decode cX8_drop 30 = .ok (.aaload, 1) := by decide +kernel
theorem dX8_drop_31 : decode cX8_drop 31 = .ok (.iconst 0, 1) := by decide +kernel
theorem dX8_drop_32 : decode cX8_drop 32 = .ok (.putfield 242, 3) := by decide +kernel
theorem dX8_drop_35 : decode cX8_drop 35 = .ok (.aload_n 0, 1) := by decide +kernel
theorem dX8_drop_36 : decode cX8_drop 36 = .ok (.getfield 60, 3) := by decide +kernel
theorem dX8_drop_39 : decode cX8_drop 39 = .ok (.iload_n 1, 1) := by decide +kernel
theorem dX8_drop_40 : decode cX8_drop 40 = .ok (.aaload, 1) := by decide +kernel
theorem dX8_drop_41 : decode cX8_drop 41 = .ok (.getfield 246, 3) := by decide +kernel
theorem dX8_drop_44 : decode cX8_drop 44 = .ok (.ireturn, 1) := by decide +kernel
theorem dX8_item_0 : decode cX8_item 0 = .ok (.iload_n 1, 1) := by decide +kernel
theorem dX8_item_1 : decode cX8_item 1 = .ok (.invokestatic 219, 3) := by decide +kernel
theorem dX8_item_4 : decode cX8_item 4 = .ok (.ifCond .eq 10, 3) := by decide +kernel
theorem dX8_item_7 : decode cX8_item 7 = .ok (.iload_n 2, 1) := by decide +kernel
theorem dX8_item_8 : decode cX8_item 8 = .ok (.invokestatic 222, 3) := by decide +kernel
theorem dX8_item_11 : decode cX8_item 11 = .ok (.ifCond .ne 6, 3) := by decide +kernel
theorem dX8_item_14 : decode cX8_item 14 = .ok (.ldc 65, 2) := by decide +kernel
theorem dX8_item_16 : decode cX8_item 16 = .ok (.ireturn, 1) := by decide +kernel
theorem dX8_item_17 : decode cX8_item 17 = .ok (.aload_n 0, 1) := by decide +kernel
theorem dX8_item_18 : decode cX8_item 18 = .ok (.getfield 60, 3) := by decide +kernel
theorem dX8_item_21 : decode cX8_item 21 = .ok (.iload_n 1, 1) := by decide +kernel
theorem dX8_item_22 : decode cX8_item 22 = .ok (.aaload, 1) := by decide +kernel
theorem dX8_item_23 : decode cX8_item 23 = .ok (.iload_n 2, 1) := by decide +kernel
theorem dX8_item_24 : decode cX8_item 24 = .ok (.iload_n 3, 1) := by decide +kernel
theorem dX8_item_25 : decode cX8_item 25 = .ok (.iconst 1, 1) := by decide +kernel
theorem dX8_item_26 : decode cX8_item 26 = .ok (.invokevirtual 225, 3) := by decide +kernel
theorem dX8_item_29 : decode cX8_item 29 = .ok (.istore 6, 2) := by decide +kernel
theorem dX8_item_31 : decode cX8_item 31 = .ok (.iload 6, 2) := by decide +kernel
theorem dX8_item_33 : decode cX8_item 33 = .ok (.ifCond .eq 6, 3) := by decide +kernel
theorem dX8_item_36 : decode cX8_item 36 = .ok (.iload 6, 2) := by decide +kernel
theorem dX8_item_38 : decode cX8_item 38 = .ok (.ireturn, 1) := by decide +kernel
theorem dX8_item_39 : decode cX8_item 39 = .ok (.aload_n 0, 1) := by decide +kernel
theorem dX8_item_40 : decode cX8_item 40 = .ok (.getfield 60, 3) := by decide +kernel
theorem dX8_item_43 : decode cX8_item 43 = .ok (.iload_n 1, 1) := by decide +kernel
theorem dX8_item_44 : decode cX8_item 44 = .ok (.aaload, 1) := by decide +kernel
theorem dX8_item_45 : decode cX8_item 45 = .ok (.iload_n 3, 1) := by decide +kernel
theorem dX8_item_46 : decode cX8_item 46 = .ok (.lload 4, 2) := by decide +kernel
theorem dX8_item_48 : decode cX8_item 48 = .ok (.invokevirtual 233, 3) := by decide +kernel
theorem dX8_item_51 : decode cX8_item 51 = .ok (.iconst 1, 1) := by decide +kernel
theorem dX8_item_52 : decode cX8_item 52 = .ok (.ireturn, 1) := by decide +kernel
theorem dX8_copy_0 : decode cX8_copy 0 = .ok (.iload_n 1, 1) := by decide +kernel
theorem dX8_copy_1 : decode cX8_copy 1 = .ok (.invokestatic 219, 3) := by decide +kernel
theorem dX8_copy_4 : decode cX8_copy 4 = .ok (.ifCond .eq 10, 3) := by decide +kernel
theorem dX8_copy_7 : decode cX8_copy 7 = .ok (.iload_n 3, 1) := by decide +kernel
theorem dX8_copy_8 : decode cX8_copy 8 = .ok (.invokestatic 219, 3) := by decide +kernel
theorem dX8_copy_11 : decode cX8_copy 11 = .ok (.ifCond .ne 6, 3) := by decide +kernel
theorem dX8_copy_14 : decode cX8_copy 14 = .ok (.ldc 65, 2) := by decide +kernel
theorem dX8_copy_16 : decode cX8_copy 16 = .ok (.ireturn, 1) := by decide +kernel
theorem dX8_copy_17 : decode cX8_copy 17 = .ok (.aload_n 0, 1) := by decide +kernel
theorem dX8_copy_18 : decode cX8_copy 18 = .ok (.getfield 60, 3) := by decide +kernel
theorem dX8_copy_21 : decode cX8_copy 21 = .ok (.iload_n 1, 1) := by decide +kernel
theorem dX8_copy_22 : decode cX8_copy 22 = .ok (.aaload, 1) := by decide +kernel
theorem dX8_copy_23 : decode cX8_copy 23 = .ok (.astore 6, 2) := by decide +kernel
theorem dX8_copy_25 : decode cX8_copy 25 = .ok (.aload_n 0, 1) := by decide +kernel
theorem dX8_copy_26 : decode cX8_copy 26 = .ok (.getfield 60, 3) := by decide +kernel
theorem dX8_copy_29 : decode cX8_copy 29 = .ok (.iload_n 3, 1) := by decide +kernel
theorem dX8_copy_30 : decode cX8_copy 30 = .ok (.aaload, 1) := by decide +kernel
theorem dX8_copy_31 : decode cX8_copy 31 = .ok (.astore 7, 2) := by decide +kernel
theorem dX8_copy_33 : decode cX8_copy 33 = .ok (.aload 6, 2) := by decide +kernel
theorem dX8_copy_35 : decode cX8_copy 35 = .ok (.getfield 242, 3) := by decide +kernel
theorem dX8_copy_38 : decode cX8_copy 38 = .ok (.ifCond .eq 11, 3) := by decide +kernel
theorem dX8_copy_41 : decode cX8_copy 41 = .ok (.aload 7, 2) := by decide +kernel
theorem dX8_copy_43 : decode cX8_copy 43 = .ok (.getfield 242, 3) := by decide +kernel
theorem dX8_copy_46 : decode cX8_copy 46 = .ok (.ifCond .ne 6, 3) := by decide +kernel
theorem dX8_copy_49 : decode cX8_copy 49 = .ok (.ldc 245, 2) := by decide +kernel
theorem dX8_copy_51 : decode cX8_copy 51 = .ok (.ireturn, 1) := by decide +kernel
theorem dX8_copy_52 : decode cX8_copy 52 = .ok (.aload 6, 2) := by decide +kernel
theorem dX8_copy_54 : decode cX8_copy 54 = .ok (.getfield 247, 3) := by decide +kernel
theorem dX8_copy_57 : decode cX8_copy 57 = .ok (.aload 7, 2) := by decide +kernel
theorem dX8_copy_59 : decode cX8_copy 59 = .ok (.getfield 247, 3) := by decide +kernel
theorem dX8_copy_62 : decode cX8_copy 62 = .ok (.if_icmp .eq 6, 3) := by decide +kernel
theorem dX8_copy_65 : decode cX8_copy 65 = .ok (.ldc 250, 2) := by decide +kernel
theorem dX8_copy_67 : decode cX8_copy 67 = .ok (.ireturn, 1) := by decide +kernel
theorem dX8_copy_68 : decode cX8_copy 68 = .ok (.aload 6, 2) := by decide +kernel
theorem dX8_copy_70 : decode cX8_copy 70 = .ok (.iload_n 2, 1) := by decide +kernel
theorem dX8_copy_71 : decode cX8_copy 71 = .ok (.iload 5, 2) := by decide +kernel
theorem dX8_copy_73 : decode cX8_copy 73 = .ok (.invokevirtual 251, 3) := by decide +kernel
theorem dX8_copy_76 : decode cX8_copy 76 = .ok (.ifCond .eq 15, 3) := by decide +kernel
theorem dX8_copy_79 : decode cX8_copy 79 = .ok (.aload 7, 2) := by decide +kernel
theorem dX8_copy_81 : decode cX8_copy 81 = .ok (.iload 4, 2) := by decide +kernel
theorem dX8_copy_83 : decode cX8_copy 83 = .ok (.iload 5, 2) := by decide +kernel
theorem dX8_copy_85 : decode cX8_copy 85 = .ok (.invokevirtual 251, 3) := by decide +kernel
theorem dX8_copy_88 : decode cX8_copy 88 = .ok (.ifCond .ne 6, 3) := by decide +kernel
theorem dX8_copy_91 : decode cX8_copy 91 = .ok (.ldc 254, 2) := by decide +kernel
theorem dX8_copy_93 : decode cX8_copy 93 = .ok (.ireturn, 1) := by decide +kernel
theorem dX8_copy_94 : decode cX8_copy 94 = .ok (.aload 6, 2) := by decide +kernel
theorem dX8_copy_96 : decode cX8_copy 96 = .ok (.getfield 255, 3) := by decide +kernel
theorem dX8_copy_99 : decode cX8_copy 99 = .ok (.iload_n 2, 1) := by decide +kernel
theorem dX8_copy_100 : decode cX8_copy 100 = .ok (.aload 7, 2) := by decide +kernel
theorem dX8_copy_102 : decode cX8_copy 102 = .ok (.getfield 255, 3) := by decide +kernel
theorem dX8_copy_105 : decode cX8_copy 105 = .ok (.iload 4, 2) := by decide +kernel
theorem dX8_copy_107 : decode cX8_copy 107 = .ok (.iload 5, 2) := by decide +kernel
theorem dX8_copy_109 : decode cX8_copy 109 = .ok (.invokestatic 259, 3) := by decide +kernel
theorem dX8_copy_112 : decode cX8_copy 112 = .ok (.iload 5, 2) := by decide +kernel
theorem dX8_copy_114 : decode cX8_copy 114 = .ok (.ireturn, 1) := by decide +kernel
theorem dX8_allCosts_0 : decode cX8_allCosts 0 = .ok (.iconst 0, 1) := by decide +kernel
theorem dX8_allCosts_1 : decode cX8_allCosts 1 = .ok (.istore_n 1, 1) := by decide +kernel
theorem dX8_allCosts_2 : decode cX8_allCosts 2 = .ok (.iconst 0, 1) := by decide +kernel
theorem dX8_allCosts_3 : decode cX8_allCosts 3 = .ok (.istore_n 2, 1) := by decide +kernel
theorem dX8_allCosts_4 : decode cX8_allCosts 4 = .ok (.iload_n 2, 1) := by decide +kernel
theorem dX8_allCosts_5 : decode cX8_allCosts 5 = .ok (.bipush 6, 2) := by decide +kernel
theorem dX8_allCosts_7 : decode cX8_allCosts 7 = .ok (.if_icmp .ge 34, 3) := by decide +kernel
theorem dX8_allCosts_10 : decode cX8_allCosts 10 = .ok (.aload_n 0, 1) := by decide +kernel
theorem dX8_allCosts_11 : decode cX8_allCosts 11 = .ok (.getfield 33, 3) := by decide +kernel
theorem dX8_allCosts_14 : decode cX8_allCosts 14 = .ok (.aload_n 0, 1) := by decide +kernel
theorem dX8_allCosts_15 : decode cX8_allCosts 15 = .ok (.getfield 10, 3) := by decide +kernel
theorem dX8_allCosts_18 : decode cX8_allCosts 18 = .ok (.getfield 82, 3) := by decide +kernel
theorem dX8_allCosts_21 : decode cX8_allCosts 21 = .ok (.iload_n 2, 1) := by decide +kernel
theorem dX8_allCosts_22 : decode cX8_allCosts 22 = .ok (.invokevirtual 174, 3) := by decide +kernel
theorem dX8_allCosts_25 : decode cX8_allCosts 25 = .ok (.iload_n 1, 1) := by decide +kernel
theorem dX8_allCosts_26 : decode cX8_allCosts 26 = .ok (.aload_n 0, 1) := by decide +kernel
theorem dX8_allCosts_27 : decode cX8_allCosts 27 = .ok (.getfield 33, 3) := by decide +kernel
theorem dX8_allCosts_30 : decode cX8_allCosts 30 = .ok (.getfield 137, 3) := by decide +kernel
theorem dX8_allCosts_33 : decode cX8_allCosts 33 = .ok (.iadd, 1) := by decide +kernel
theorem dX8_allCosts_34 : decode cX8_allCosts 34 = .ok (.istore_n 1, 1) := by decide +kernel
theorem dX8_allCosts_35 : decode cX8_allCosts 35 = .ok (.iinc 2 1, 3) := by decide +kernel
theorem dX8_allCosts_38 : decode cX8_allCosts 38 = .ok (.goto (-34), 3) := by decide +kernel
theorem dX8_allCosts_41 : decode cX8_allCosts 41 = .ok (.iload_n 1, 1) := by decide +kernel
theorem dX8_allCosts_42 : decode cX8_allCosts 42 = .ok (.ireturn, 1) := by decide +kernel
theorem dX8_blocksNotQuick_0 : decode cX8_blocksNotQuick 0 = .ok (.iconst 0, 1) := by decide +kernel
theorem dX8_blocksNotQuick_1 : decode cX8_blocksNotQuick 1 = .ok (.istore_n 1, 1) := by decide +kernel
theorem dX8_blocksNotQuick_2 : decode cX8_blocksNotQuick 2 = .ok (.iconst 0, 1) := by decide +kernel
theorem dX8_blocksNotQuick_3 : decode cX8_blocksNotQuick 3 = .ok (.istore_n 2, 1) := by decide +kernel
theorem dX8_blocksNotQuick_4 : decode cX8_blocksNotQuick 4 = .ok (.iload_n 2, 1) := by decide +kernel
theorem dX8_blocksNotQuick_5 : decode cX8_blocksNotQuick 5 = .ok (.bipush 6, 2) := by decide +kernel
theorem dX8_blocksNotQuick_7 : decode cX8_blocksNotQuick 7 = .ok (.if_icmp .ge 64, 3) := by decide +kernel
theorem dX8_blocksNotQuick_10 : decode cX8_blocksNotQuick 10 = .ok (.aload_n 0, 1) := by decide +kernel
theorem dX8_blocksNotQuick_11 : decode cX8_blocksNotQuick 11 = .ok (.getfield 33, 3) := by decide +kernel
theorem dX8_blocksNotQuick_14 : decode cX8_blocksNotQuick 14 = .ok (.aload_n 0, 1) := by decide +kernel
theorem dX8_blocksNotQuick_15 : decode cX8_blocksNotQuick 15 = .ok (.getfield 10, 3) := by decide +kernel
theorem dX8_blocksNotQuick_18 : decode cX8_blocksNotQuick 18 = .ok (.getfield 82, 3) := by decide +kernel
theorem dX8_blocksNotQuick_21 : decode cX8_blocksNotQuick 21 = .ok (.iload_n 2, 1) := by decide +kernel
theorem dX8_blocksNotQuick_22 : decode cX8_blocksNotQuick 22 = .ok (.invokevirtual 174, 3) := by decide +kernel
theorem dX8_blocksNotQuick_25 : decode cX8_blocksNotQuick 25 = .ok (.aload_n 0, 1) := by decide +kernel
theorem dX8_blocksNotQuick_26 : decode cX8_blocksNotQuick 26 = .ok (.getfield 33, 3) := by decide +kernel
theorem dX8_blocksNotQuick_29 : decode cX8_blocksNotQuick 29 = .ok (.getfield 134, 3) := by decide +kernel
theorem dX8_blocksNotQuick_32 : decode cX8_blocksNotQuick 32 = .ok (.istore_n 3, 1) := by decide +kernel
theorem dX8_blocksNotQuick_33 : decode cX8_blocksNotQuick 33 = .ok (.aload_n 0, 1) := by decide +kernel
theorem dX8_blocksNotQuick_34 : decode cX8_blocksNotQuick 34 = .ok (.getfield 33, 3) := by decide +kernel
theorem dX8_blocksNotQuick_37 : decode cX8_blocksNotQuick 37 = .ok (.aload_n 0, 1) := by decide +kernel
theorem dX8_blocksNotQuick_38 : decode cX8_blocksNotQuick 38 = .ok (.getfield 10, 3) := by decide +kernel
theorem dX8_blocksNotQuick_41 : decode cX8_blocksNotQuick 41 = .ok (.getfield 82, 3) := by decide +kernel
theorem dX8_blocksNotQuick_44 : decode cX8_blocksNotQuick 44 = .ok (.iload_n 2, 1) := by decide +kernel
theorem dX8_blocksNotQuick_45 : decode cX8_blocksNotQuick 45 = .ok (.invokevirtual 186, 3) := by decide +kernel
theorem dX8_blocksNotQuick_48 : decode cX8_blocksNotQuick 48 = .ok (.aload_n 0, 1) := by decide +kernel
theorem dX8_blocksNotQuick_49 : decode cX8_blocksNotQuick 49 = .ok (.getfield 33, 3) := by decide +kernel
theorem dX8_blocksNotQuick_52 : decode cX8_blocksNotQuick 52 = .ok (.getfield 134, 3) := by decide +kernel
theorem dX8_blocksNotQuick_55 : decode cX8_blocksNotQuick 55 = .ok (.iload_n 3, 1) := by decide +kernel
theorem dX8_blocksNotQuick_56 : decode cX8_blocksNotQuick 56 = .ok (.if_icmp .eq 9, 3) := by decide +kernel
theorem dX8_blocksNotQuick_59 : decode cX8_blocksNotQuick 59 = .ok (.iload_n 1, 1) := by decide +kernel
theorem dX8_blocksNotQuick_60 : decode cX8_blocksNotQuick 60 = .ok (.iconst 1, 1) := by decide +kernel
theorem dX8_blocksNotQuick_61 : decode cX8_blocksNotQuick 61 = .ok (.iload_n 2, 1) := by decide +kernel
theorem dX8_blocksNotQuick_62 : decode cX8_blocksNotQuick 62 = .ok (.ishl, 1) := by decide +kernel
theorem dX8_blocksNotQuick_63 : decode cX8_blocksNotQuick 63 = .ok (.ior, 1) := by decide +kernel
theorem dX8_blocksNotQuick_64 : decode cX8_blocksNotQuick 64 = .ok (.istore_n 1, 1) := by decide +kernel
theorem dX8_blocksNotQuick_65 : decode cX8_blocksNotQuick 65 = .ok (.iinc 2 1, 3) := by decide +kernel
theorem dX8_blocksNotQuick_68 : decode cX8_blocksNotQuick 68 = .ok (.goto (-64), 3) := by decide +kernel
theorem dX8_blocksNotQuick_71 : decode cX8_blocksNotQuick 71 = .ok (.iload_n 1, 1) := by decide +kernel
theorem dX8_blocksNotQuick_72 : decode cX8_blocksNotQuick 72 = .ok (.ireturn, 1) := by decide +kernel
theorem dX8_searched_0 : decode cX8_searched 0 = .ok (.iload_n 2, 1) := by decide +kernel
theorem dX8_searched_1 : decode cX8_searched 1 = .ok (.iconst 3, 1) := by decide +kernel
theorem dX8_searched_2 : decode cX8_searched 2 = .ok (.if_icmp .lt 41, 3) := by decide +kernel
theorem dX8_searched_5 : decode cX8_searched 5 = .ok (.aload_n 0, 1) := by decide +kernel
theorem dX8_searched_6 : decode cX8_searched 6 = .ok (.getfield 33, 3) := by decide +kernel
theorem dX8_searched_9 : decode cX8_searched 9 = .ok (.aload_n 0, 1) := by decide +kernel
theorem dX8_searched_10 : decode cX8_searched 10 = .ok (.getfield 10, 3) := by decide +kernel
theorem dX8_searched_13 : decode cX8_searched 13 = .ok (.getfield 82, 3) := by decide +kernel
theorem dX8_searched_16 : decode cX8_searched 16 = .ok (.iload_n 1, 1) := by decide +kernel
theorem dX8_searched_17 : decode cX8_searched 17 = .ok (.invokevirtual 265, 3) := by decide +kernel
theorem dX8_searched_20 : decode cX8_searched 20 = .ok (.iload_n 2, 1) := by decide +kernel
theorem dX8_searched_21 : decode cX8_searched 21 = .ok (.iconst 3, 1) := by decide +kernel
theorem dX8_searched_22 : decode cX8_searched 22 = .ok (.if_icmp .ne 13, 3) := by decide +kernel
theorem dX8_searched_25 : decode cX8_searched 25 = .ok (.aload_n 0, 1) := by decide +kernel
theorem dX8_searched_26 : decode cX8_searched 26 = .ok (.getfield 33, 3) := by decide +kernel
theorem dX8_searched_29 : decode cX8_searched 29 = .ok (.getfield 268, 3) := by decide +kernel
theorem dX8_searched_32 : decode cX8_searched 32 = .ok (.goto 10, 3) := by decide +kernel
theorem dX8_searched_35 : decode cX8_searched 35 = .ok (.aload_n 0, 1) := by decide +kernel
theorem dX8_searched_36 : decode cX8_searched 36 = .ok (.getfield 33, 3) := by decide +kernel
theorem dX8_searched_39 : decode cX8_searched 39 = .ok (.getfield 271, 3) := by decide +kernel
theorem dX8_searched_42 : decode cX8_searched 42 = .ok (.ireturn, 1) := by decide +kernel
theorem dX8_searched_43 : decode cX8_searched 43 = .ok (.aload_n 0, 1) := by decide +kernel
theorem dX8_searched_44 : decode cX8_searched 44 = .ok (.getfield 33, 3) := by decide +kernel
theorem dX8_searched_47 : decode cX8_searched 47 = .ok (.aload_n 0, 1) := by decide +kernel
theorem dX8_searched_48 : decode cX8_searched 48 = .ok (.getfield 10, 3) := by decide +kernel
theorem dX8_searched_51 : decode cX8_searched 51 = .ok (.getfield 82, 3) := by decide +kernel
theorem dX8_searched_54 : decode cX8_searched 54 = .ok (.iload_n 1, 1) := by decide +kernel
theorem dX8_searched_55 : decode cX8_searched 55 = .ok (.invokevirtual 174, 3) := by decide +kernel
theorem dX8_searched_58 : decode cX8_searched 58 = .ok (.iload_n 2, 1) := by decide +kernel
theorem dX8_searched_59 : decode cX8_searched 59 = .ok (.iconst 2, 1) := by decide +kernel
theorem dX8_searched_60 : decode cX8_searched 60 = .ok (.if_icmp .ne 11, 3) := by decide +kernel
theorem dX8_searched_63 : decode cX8_searched 63 = .ok (.aload_n 0, 1) := by decide +kernel
theorem dX8_searched_64 : decode cX8_searched 64 = .ok (.getfield 33, 3) := by decide +kernel
theorem dX8_searched_67 : decode cX8_searched 67 = .ok (.getfield 271, 3) := by decide +kernel
theorem dX8_searched_70 : decode cX8_searched 70 = .ok (.ireturn, 1) := by decide +kernel
theorem dX8_searched_71 : decode cX8_searched 71 = .ok (.iload_n 2, 1) := by decide +kernel
theorem dX8_searched_72 : decode cX8_searched 72 = .ok (.ifCond .ne 13, 3) := by decide +kernel
theorem dX8_searched_75 : decode cX8_searched 75 = .ok (.aload_n 0, 1) := by decide +kernel
theorem dX8_searched_76 : decode cX8_searched 76 = .ok (.getfield 33, 3) := by decide +kernel
theorem dX8_searched_79 : decode cX8_searched 79 = .ok (.getfield 134, 3) := by decide +kernel
theorem dX8_searched_82 : decode cX8_searched 82 = .ok (.goto 10, 3) := by decide +kernel
theorem dX8_searched_85 : decode cX8_searched 85 = .ok (.aload_n 0, 1) := by decide +kernel
theorem dX8_searched_86 : decode cX8_searched 86 = .ok (.getfield 33, 3) := by decide +kernel
theorem dX8_searched_89 : decode cX8_searched 89 = .ok (.getfield 137, 3) := by decide +kernel
theorem dX8_searched_92 : decode cX8_searched 92 = .ok (.ireturn, 1) := by decide +kernel
theorem dX8_oddsAbove_0 : decode cX8_oddsAbove 0 = .ok (.aload_n 0, 1) := by decide +kernel
theorem dX8_oddsAbove_1 : decode cX8_oddsAbove 1 = .ok (.getfield 33, 3) := by decide +kernel
theorem dX8_oddsAbove_4 : decode cX8_oddsAbove 4 = .ok (.aload_n 0, 1) := by decide +kernel
theorem dX8_oddsAbove_5 : decode cX8_oddsAbove 5 = .ok (.getfield 10, 3) := by decide +kernel
theorem dX8_oddsAbove_8 : decode cX8_oddsAbove 8 = .ok (.getfield 82, 3) := by decide +kernel
theorem dX8_oddsAbove_11 : decode cX8_oddsAbove 11 = .ok (.iconst 0, 1) := by decide +kernel
theorem dX8_oddsAbove_12 : decode cX8_oddsAbove 12 = .ok (.invokevirtual 174, 3) := by decide +kernel
theorem dX8_oddsAbove_15 : decode cX8_oddsAbove 15 = .ok (.aload_n 0, 1) := by decide +kernel
theorem dX8_oddsAbove_16 : decode cX8_oddsAbove 16 = .ok (.getfield 33, 3) := by decide +kernel
theorem dX8_oddsAbove_19 : decode cX8_oddsAbove 19 = .ok (.getfield 134, 3) := by decide +kernel
theorem dX8_oddsAbove_22 : decode cX8_oddsAbove 22 = .ok (.istore_n 3, 1) := by decide +kernel
theorem dX8_oddsAbove_23 : decode cX8_oddsAbove 23 = .ok (.iconst 0, 1) := by decide +kernel
theorem dX8_oddsAbove_24 : decode cX8_oddsAbove 24 = .ok (.istore 4, 2) := by decide +kernel
theorem dX8_oddsAbove_26 : decode cX8_oddsAbove 26 = .ok (.iconst 0, 1) := by decide +kernel
theorem dX8_oddsAbove_27 : decode cX8_oddsAbove 27 = .ok (.istore 5, 2) := by decide +kernel
theorem dX8_oddsAbove_29 : decode cX8_oddsAbove 29 = .ok (.iload 5, 2) := by decide +kernel
theorem dX8_oddsAbove_31 : decode cX8_oddsAbove 31 = .ok (.iconst 1, 1) := by decide +kernel
theorem dX8_oddsAbove_32 : decode cX8_oddsAbove 32 = .ok (.iload_n 1, 1) := by decide +kernel
theorem dX8_oddsAbove_33 : decode cX8_oddsAbove 33 = .ok (.ishl, 1) := by decide +kernel
theorem dX8_oddsAbove_34 : decode cX8_oddsAbove 34 = .ok (.if_icmp .ge 141, 3) := by decide +kernel
theorem dX8_oddsAbove_37 : decode cX8_oddsAbove 37 = .ok (.aload_n 0, 1) := by decide +kernel
theorem dX8_oddsAbove_38 : decode cX8_oddsAbove 38 = .ok (.getfield 54, 3) := by decide +kernel
theorem dX8_oddsAbove_41 : decode cX8_oddsAbove 41 = .ok (.aload_n 0, 1) := by decide +kernel
theorem dX8_oddsAbove_42 : decode cX8_oddsAbove 42 = .ok (.getfield 10, 3) := by decide +kernel
theorem dX8_oddsAbove_45 : decode cX8_oddsAbove 45 = .ok (.getfield 82, 3) := by decide +kernel
theorem dX8_oddsAbove_48 : decode cX8_oddsAbove 48 = .ok (.invokevirtual 274, 3) := by decide +kernel
theorem dX8_oddsAbove_51 : decode cX8_oddsAbove 51 = .ok (.iconst 1, 1) := by decide +kernel
theorem dX8_oddsAbove_52 : decode cX8_oddsAbove 52 = .ok (.istore 6, 2) := by decide +kernel
theorem dX8_oddsAbove_54 : decode cX8_oddsAbove 54 = .ok (.iconst 0, 1) := by decide +kernel
theorem dX8_oddsAbove_55 : decode cX8_oddsAbove 55 = .ok (.istore 7, 2) := by decide +kernel
theorem dX8_oddsAbove_57 : decode cX8_oddsAbove 57 = .ok (.iload 7, 2) := by decide +kernel
theorem dX8_oddsAbove_59 : decode cX8_oddsAbove 59 = .ok (.iload_n 1, 1) := by decide +kernel
theorem dX8_oddsAbove_60 : decode cX8_oddsAbove 60 = .ok (.if_icmp .ge 79, 3) := by decide +kernel
theorem dX8_oddsAbove_63 : decode cX8_oddsAbove 63 = .ok (.iload 5, 2) := by decide +kernel
theorem dX8_oddsAbove_65 : decode cX8_oddsAbove 65 = .ok (.iload 7, 2) := by decide +kernel
theorem dX8_oddsAbove_67 : decode cX8_oddsAbove 67 = .ok (.ishr, 1) := by decide +kernel
theorem dX8_oddsAbove_68 : decode cX8_oddsAbove 68 = .ok (.iconst 1, 1) := by decide +kernel
theorem dX8_oddsAbove_69 : decode cX8_oddsAbove 69 = .ok (.iand, 1) := by decide +kernel
theorem dX8_oddsAbove_70 : decode cX8_oddsAbove 70 = .ok (.iconst 1, 1) := by decide +kernel
theorem dX8_oddsAbove_71 : decode cX8_oddsAbove 71 = .ok (.if_icmp .ne 7, 3) := by decide +kernel
theorem dX8_oddsAbove_74 : decode cX8_oddsAbove 74 = .ok (.iconst 1, 1) := by decide +kernel
theorem dX8_oddsAbove_75 : decode cX8_oddsAbove 75 = .ok (.goto 4, 3) := by decide +kernel
theorem dX8_oddsAbove_78 : decode cX8_oddsAbove 78 = .ok (.iconst 0, 1) := by decide +kernel
theorem dX8_oddsAbove_79 : decode cX8_oddsAbove 79 = .ok (.istore 8, 2) := by decide +kernel
theorem dX8_oddsAbove_81 : decode cX8_oddsAbove 81 = .ok (.iload 6, 2) := by decide +kernel
theorem dX8_oddsAbove_83 : decode cX8_oddsAbove 83 = .ok (.iload 8, 2) := by decide +kernel
theorem dX8_oddsAbove_85 : decode cX8_oddsAbove 85 = .ok (.ifCond .eq 7, 3) := by decide +kernel
theorem dX8_oddsAbove_88 : decode cX8_oddsAbove 88 = .ok (.iload_n 2, 1) := by decide +kernel
theorem dX8_oddsAbove_89 : decode cX8_oddsAbove 89 = .ok (.goto 7, 3) := by decide +kernel
theorem dX8_oddsAbove_92 : decode cX8_oddsAbove 92 = .ok (.bipush 10, 2) := by decide +kernel
theorem dX8_oddsAbove_94 : decode cX8_oddsAbove 94 = .ok (.iload_n 2, 1) := by decide +kernel
theorem dX8_oddsAbove_95 : decode cX8_oddsAbove 95 = .ok (.isub, 1) := by decide +kernel
theorem dX8_oddsAbove_96 : decode cX8_oddsAbove 96 = .ok (.imul, 1) := by decide +kernel
theorem dX8_oddsAbove_97 : decode cX8_oddsAbove 97 = .ok (.istore 6, 2) := by decide +kernel
theorem dX8_oddsAbove_99 : decode cX8_oddsAbove 99 = .ok (.iload 8, 2) := by decide +kernel
theorem dX8_oddsAbove_101 : decode cX8_oddsAbove 101 = .ok (.ifCond .eq 32, 3) := by decide +kernel
theorem dX8_oddsAbove_104 : decode cX8_oddsAbove 104 = .ok (.aload_n 0, 1) := by decide +kernel
theorem dX8_oddsAbove_105 : decode cX8_oddsAbove 105 = .ok (.getfield 54, 3) := by decide +kernel
theorem dX8_oddsAbove_108 : decode cX8_oddsAbove 108 = .ok (.getfield 99, 3) := by decide +kernel
theorem dX8_oddsAbove_111 : decode cX8_oddsAbove 111 = .ok (.getfield 151, 3) := by decide +kernel
theorem dX8_oddsAbove_114 : decode cX8_oddsAbove 114 = .ok (.iload 7, 2) := by decide +kernel
theorem dX8_oddsAbove_116 : decode cX8_oddsAbove 116 = .ok (.bipush 9, 2) := by decide +kernel
theorem dX8_oddsAbove_118 : decode cX8_oddsAbove 118 = .ok (.aload_n 0, 1) := by decide +kernel
theorem dX8_oddsAbove_119 : decode cX8_oddsAbove 119 = .ok (.getfield 54, 3) := by decide +kernel
theorem dX8_oddsAbove_122 : decode cX8_oddsAbove 122 = .ok (.getfield 99, 3) := by decide +kernel
theorem dX8_oddsAbove_125 : decode cX8_oddsAbove 125 = .ok (.getfield 151, 3) := by decide +kernel
theorem dX8_oddsAbove_128 : decode cX8_oddsAbove 128 = .ok (.iload 7, 2) := by decide +kernel
theorem dX8_oddsAbove_130 : decode cX8_oddsAbove 130 = .ok (.iaload, 1) := by decide +kernel
theorem dX8_oddsAbove_131 : decode cX8_oddsAbove 131 = .ok (.isub, 1) := by decide +kernel
theorem dX8_oddsAbove_132 : decode cX8_oddsAbove 132 = .ok (.iastore, 1) := by decide +kernel
theorem dX8_oddsAbove_133 : decode cX8_oddsAbove 133 = .ok (.iinc 7 1, 3) := by decide +kernel
theorem dX8_oddsAbove_136 : decode cX8_oddsAbove 136 = .ok (.goto (-79), 3) := by decide +kernel
theorem dX8_oddsAbove_139 : decode cX8_oddsAbove 139 = .ok (.aload_n 0, 1) := by decide +kernel
theorem dX8_oddsAbove_140 : decode cX8_oddsAbove 140 = .ok (.getfield 33, 3) := by decide +kernel
theorem dX8_oddsAbove_143 : decode cX8_oddsAbove 143 = .ok (.aload_n 0, 1) := by decide +kernel
theorem dX8_oddsAbove_144 : decode cX8_oddsAbove 144 = .ok (.getfield 54, 3) := by decide +kernel
theorem dX8_oddsAbove_147 : decode cX8_oddsAbove 147 = .ok (.iconst 0, 1) := by decide +kernel
theorem dX8_oddsAbove_148 : decode cX8_oddsAbove 148 = .ok (.invokevirtual 174, 3) := by decide +kernel
theorem dX8_oddsAbove_151 : decode cX8_oddsAbove 151 = .ok (.aload_n 0, 1) := by decide +kernel
theorem dX8_oddsAbove_152 : decode cX8_oddsAbove 152 = .ok (.getfield 33, 3) := by decide +kernel
theorem dX8_oddsAbove_155 : decode cX8_oddsAbove 155 = .ok (.getfield 134, 3) := by decide +kernel
theorem dX8_oddsAbove_158 : decode cX8_oddsAbove 158 = .ok (.iload_n 3, 1) := by decide +kernel
theorem dX8_oddsAbove_159 : decode cX8_oddsAbove 159 = .ok (.if_icmp .eq 10, 3) := by decide +kernel
theorem dX8_oddsAbove_162 : decode cX8_oddsAbove 162 = .ok (.iload 4, 2) := by decide +kernel
theorem dX8_oddsAbove_164 : decode cX8_oddsAbove 164 = .ok (.iload 6, 2) := by decide +kernel
theorem dX8_oddsAbove_166 : decode cX8_oddsAbove 166 = .ok (.iadd, 1) := by decide +kernel
theorem dX8_oddsAbove_167 : decode cX8_oddsAbove 167 = .ok (.istore 4, 2) := by decide +kernel
theorem dX8_oddsAbove_169 : decode cX8_oddsAbove 169 = .ok (.iinc 5 1, 3) := by decide +kernel
theorem dX8_oddsAbove_172 : decode cX8_oddsAbove 172 = .ok (.goto (-143), 3) := by decide +kernel
theorem dX8_oddsAbove_175 : decode cX8_oddsAbove 175 = .ok (.iload 4, 2) := by decide +kernel
theorem dX8_oddsAbove_177 : decode cX8_oddsAbove 177 = .ok (.ireturn, 1) := by decide +kernel
theorem dX8_kindsOf_0 : decode cX8_kindsOf 0 = .ok (.iconst 0, 1) := by decide +kernel
theorem dX8_kindsOf_1 : decode cX8_kindsOf 1 = .ok (.istore 4, 2) := by decide +kernel
theorem dX8_kindsOf_3 : decode cX8_kindsOf 3 = .ok (.aload_n 0, 1) := by decide +kernel
theorem dX8_kindsOf_4 : decode cX8_kindsOf 4 = .ok (.getfield 54, 3) := by decide +kernel
theorem dX8_kindsOf_7 : decode cX8_kindsOf 7 = .ok (.aload_n 0, 1) := by decide +kernel
theorem dX8_kindsOf_8 : decode cX8_kindsOf 8 = .ok (.getfield 10, 3) := by decide +kernel
theorem dX8_kindsOf_11 : decode cX8_kindsOf 11 = .ok (.getfield 82, 3) := by decide +kernel
theorem dX8_kindsOf_14 : decode cX8_kindsOf 14 = .ok (.invokevirtual 274, 3) := by decide +kernel
theorem dX8_kindsOf_17 : decode cX8_kindsOf 17 = .ok (.iconst 0, 1) := by decide +kernel
theorem dX8_kindsOf_18 : decode cX8_kindsOf 18 = .ok (.istore 5, 2) := by decide +kernel
theorem dX8_kindsOf_20 : decode cX8_kindsOf 20 = .ok (.iload 5, 2) := by decide +kernel
theorem dX8_kindsOf_22 : decode cX8_kindsOf 22 = .ok (.iconst 5, 1) := by decide +kernel
theorem dX8_kindsOf_23 : decode cX8_kindsOf 23 = .ok (.if_icmp .ge 96, 3) := by decide +kernel
theorem dX8_kindsOf_26 : decode cX8_kindsOf 26 = .ok (.aload_n 0, 1) := by decide +kernel
theorem dX8_kindsOf_27 : decode cX8_kindsOf 27 = .ok (.getfield 54, 3) := by decide +kernel
theorem dX8_kindsOf_30 : decode cX8_kindsOf 30 = .ok (.iload 5, 2) := by decide +kernel
theorem dX8_kindsOf_32 : decode cX8_kindsOf 32 = .ok (.putfield 113, 3) := by decide +kernel
theorem dX8_kindsOf_35 : decode cX8_kindsOf 35 = .ok (.iconst 1, 1) := by decide +kernel
theorem dX8_kindsOf_36 : decode cX8_kindsOf 36 = .ok (.istore 6, 2) := by decide +kernel
theorem dX8_kindsOf_38 : decode cX8_kindsOf 38 = .ok (.iconst 0, 1) := by decide +kernel
theorem dX8_kindsOf_39 : decode cX8_kindsOf 39 = .ok (.istore 7, 2) := by decide +kernel
theorem dX8_kindsOf_41 : decode cX8_kindsOf 41 = .ok (.iload 7, 2) := by decide +kernel
theorem dX8_kindsOf_43 : decode cX8_kindsOf 43 = .ok (.iload_n 3, 1) := by decide +kernel
theorem dX8_kindsOf_44 : decode cX8_kindsOf 44 = .ok (.if_icmp .ge 55, 3) := by decide +kernel
theorem dX8_kindsOf_47 : decode cX8_kindsOf 47 = .ok (.iload 6, 2) := by decide +kernel
theorem dX8_kindsOf_49 : decode cX8_kindsOf 49 = .ok (.ifCond .eq 50, 3) := by decide +kernel
theorem dX8_kindsOf_52 : decode cX8_kindsOf 52 = .ok (.aload_n 0, 1) := by decide +kernel
theorem dX8_kindsOf_53 : decode cX8_kindsOf 53 = .ok (.getfield 33, 3) := by decide +kernel
theorem dX8_kindsOf_56 : decode cX8_kindsOf 56 = .ok (.aload_n 0, 1) := by decide +kernel
theorem dX8_kindsOf_57 : decode cX8_kindsOf 57 = .ok (.getfield 54, 3) := by decide +kernel
theorem dX8_kindsOf_60 : decode cX8_kindsOf 60 = .ok (.iload 7, 2) := by decide +kernel
theorem dX8_kindsOf_62 : decode cX8_kindsOf 62 = .ok (.invokevirtual 174, 3) := by decide +kernel
theorem dX8_kindsOf_65 : decode cX8_kindsOf 65 = .ok (.aload_n 1, 1) := by decide +kernel
theorem dX8_kindsOf_66 : decode cX8_kindsOf 66 = .ok (.getfield 255, 3) := by decide +kernel
theorem dX8_kindsOf_69 : decode cX8_kindsOf 69 = .ok (.iload_n 2, 1) := by decide +kernel
theorem dX8_kindsOf_70 : decode cX8_kindsOf 70 = .ok (.iload 7, 2) := by decide +kernel
theorem dX8_kindsOf_72 : decode cX8_kindsOf 72 = .ok (.iadd, 1) := by decide +kernel
theorem dX8_kindsOf_73 : decode cX8_kindsOf 73 = .ok (.laload, 1) := by decide +kernel
theorem dX8_kindsOf_74 : decode cX8_kindsOf 74 = .ok (.aload_n 0, 1) := by decide +kernel
theorem dX8_kindsOf_75 : decode cX8_kindsOf 75 = .ok (.getfield 33, 3) := by decide +kernel
theorem dX8_kindsOf_78 : decode cX8_kindsOf 78 = .ok (.getfield 134, 3) := by decide +kernel
theorem dX8_kindsOf_81 : decode cX8_kindsOf 81 = .ok (.i2l, 1) := by decide +kernel
theorem dX8_kindsOf_82 : decode cX8_kindsOf 82 = .ok (.lcmp, 1) := by decide +kernel
theorem dX8_kindsOf_83 : decode cX8_kindsOf 83 = .ok (.ifCond .ne 7, 3) := by decide +kernel
theorem dX8_kindsOf_86 : decode cX8_kindsOf 86 = .ok (.iconst 1, 1) := by decide +kernel
theorem dX8_kindsOf_87 : decode cX8_kindsOf 87 = .ok (.goto 4, 3) := by decide +kernel
theorem dX8_kindsOf_90 : decode cX8_kindsOf 90 = .ok (.iconst 0, 1) := by decide +kernel
theorem dX8_kindsOf_91 : decode cX8_kindsOf 91 = .ok (.istore 6, 2) := by decide +kernel
theorem dX8_kindsOf_93 : decode cX8_kindsOf 93 = .ok (.iinc 7 1, 3) := by decide +kernel
theorem dX8_kindsOf_96 : decode cX8_kindsOf 96 = .ok (.goto (-55), 3) := by decide +kernel
theorem dX8_kindsOf_99 : decode cX8_kindsOf 99 = .ok (.iload 6, 2) := by decide +kernel
theorem dX8_kindsOf_101 : decode cX8_kindsOf 101 = .ok (.ifCond .eq 12, 3) := by decide +kernel
theorem dX8_kindsOf_104 : decode cX8_kindsOf 104 = .ok (.iload 4, 2) := by decide +kernel
theorem dX8_kindsOf_106 : decode cX8_kindsOf 106 = .ok (.iconst 1, 1) := by decide +kernel
theorem dX8_kindsOf_107 : decode cX8_kindsOf 107 = .ok (.iload 5, 2) := by decide +kernel
theorem dX8_kindsOf_109 : decode cX8_kindsOf 109 = .ok (.ishl, 1) := by decide +kernel
theorem dX8_kindsOf_110 : decode cX8_kindsOf 110 = .ok (.ior, 1) := by decide +kernel
theorem dX8_kindsOf_111 : decode cX8_kindsOf 111 = .ok (.istore 4, 2) := by decide +kernel
theorem dX8_kindsOf_113 : decode cX8_kindsOf 113 = .ok (.iinc 5 1, 3) := by decide +kernel
theorem dX8_kindsOf_116 : decode cX8_kindsOf 116 = .ok (.goto (-96), 3) := by decide +kernel
theorem dX8_kindsOf_119 : decode cX8_kindsOf 119 = .ok (.iload 4, 2) := by decide +kernel
theorem dX8_kindsOf_121 : decode cX8_kindsOf 121 = .ok (.ireturn, 1) := by decide +kernel
theorem dX8_power_0 : decode cX8_power 0 = .ok (.iconst 1, 1) := by decide +kernel
theorem dX8_power_1 : decode cX8_power 1 = .ok (.istore_n 2, 1) := by decide +kernel
theorem dX8_power_2 : decode cX8_power 2 = .ok (.iconst 0, 1) := by decide +kernel
theorem dX8_power_3 : decode cX8_power 3 = .ok (.istore_n 3, 1) := by decide +kernel
theorem dX8_power_4 : decode cX8_power 4 = .ok (.iload_n 3, 1) := by decide +kernel
theorem dX8_power_5 : decode cX8_power 5 = .ok (.iload_n 1, 1) := by decide +kernel
theorem dX8_power_6 : decode cX8_power 6 = .ok (.if_icmp .ge 13, 3) := by decide +kernel
theorem dX8_power_9 : decode cX8_power 9 = .ok (.iload_n 2, 1) := by decide +kernel
theorem dX8_power_10 : decode cX8_power 10 = .ok (.iload_n 0, 1) := by decide +kernel
theorem dX8_power_11 : decode cX8_power 11 = .ok (.imul, 1) := by decide +kernel
theorem dX8_power_12 : decode cX8_power 12 = .ok (.istore_n 2, 1) := by decide +kernel
theorem dX8_power_13 : decode cX8_power 13 = .ok (.iinc 3 1, 3) := by decide +kernel
theorem dX8_power_16 : decode cX8_power 16 = .ok (.goto (-12), 3) := by decide +kernel
theorem dX8_power_19 : decode cX8_power 19 = .ok (.iload_n 2, 1) := by decide +kernel
theorem dX8_power_20 : decode cX8_power 20 = .ok (.ireturn, 1) := by decide +kernel
theorem dX8_commonDivisor_0 : decode cX8_commonDivisor 0 = .ok (.iconst 0, 1) := by decide +kernel
theorem dX8_commonDivisor_1 : decode cX8_commonDivisor 1 = .ok (.istore_n 2, 1) := by decide +kernel
theorem dX8_commonDivisor_2 : decode cX8_commonDivisor 2 = .ok (.iload_n 2, 1) := by decide +kernel
theorem dX8_commonDivisor_3 : decode cX8_commonDivisor 3 = .ok (.bipush 64, 2) := by decide +kernel
theorem dX8_commonDivisor_5 : decode cX8_commonDivisor 5 = .ok (.if_icmp .ge 21, 3) := by decide +kernel
theorem dX8_commonDivisor_8 : decode cX8_commonDivisor 8 = .ok (.iload_n 1, 1) := by decide +kernel
theorem dX8_commonDivisor_9 : decode cX8_commonDivisor 9 = .ok (.ifCond .eq 17, 3) := by decide +kernel
theorem dX8_commonDivisor_12 : decode cX8_commonDivisor 12 = .ok (.iload_n 0, 1) := by decide +kernel
theorem dX8_commonDivisor_13 : decode cX8_commonDivisor 13 = .ok (.iload_n 1, 1) := by decide +kernel
theorem dX8_commonDivisor_14 : decode cX8_commonDivisor 14 = .ok (.irem, 1) := by decide +kernel
theorem dX8_commonDivisor_15 : decode cX8_commonDivisor 15 = .ok (.istore_n 3, 1) := by decide +kernel
theorem dX8_commonDivisor_16 : decode cX8_commonDivisor 16 = .ok (.iload_n 1, 1) := by decide +kernel
theorem dX8_commonDivisor_17 : decode cX8_commonDivisor 17 = .ok (.istore_n 0, 1) := by decide +kernel
theorem dX8_commonDivisor_18 : decode cX8_commonDivisor 18 = .ok (.iload_n 3, 1) := by decide +kernel
theorem dX8_commonDivisor_19 : decode cX8_commonDivisor 19 = .ok (.istore_n 1, 1) := by decide +kernel
theorem dX8_commonDivisor_20 : decode cX8_commonDivisor 20 = .ok (.iinc 2 1, 3) := by decide +kernel
theorem dX8_commonDivisor_23 : decode cX8_commonDivisor 23 = .ok (.goto (-21), 3) := by decide +kernel
theorem dX8_commonDivisor_26 : decode cX8_commonDivisor 26 = .ok (.iload_n 0, 1) := by decide +kernel
theorem dX8_commonDivisor_27 : decode cX8_commonDivisor 27 = .ok (.ireturn, 1) := by decide +kernel
theorem dX8_isWithin_0 : decode cX8_isWithin 0 = .ok (.iload_n 0, 1) := by decide +kernel
theorem dX8_isWithin_1 : decode cX8_isWithin 1 = .ok (.iload_n 1, 1) := by decide +kernel
theorem dX8_isWithin_2 : decode cX8_isWithin 2 = .ok (.if_icmp .lt 12, 3) := by decide +kernel
theorem dX8_isWithin_5 : decode cX8_isWithin 5 = .ok (.iload_n 0, 1) := by decide +kernel
theorem dX8_isWithin_6 : decode cX8_isWithin 6 = .ok (.iload_n 2, 1) := by decide +kernel
theorem dX8_isWithin_7 : decode cX8_isWithin 7 = .ok (.if_icmp .gt 7, 3) := by decide +kernel
theorem dX8_isWithin_10 : decode cX8_isWithin 10 = .ok (.iconst 1, 1) := by decide +kernel
theorem dX8_isWithin_11 : decode cX8_isWithin 11 = .ok (.goto 4, 3) := by decide +kernel
theorem dX8_isWithin_14 : decode cX8_isWithin 14 = .ok (.iconst 0, 1) := by decide +kernel
theorem dX8_isWithin_15 : decode cX8_isWithin 15 = .ok (.ireturn, 1) := by decide +kernel
theorem dX8_isInPicture_0 : decode cX8_isInPicture 0 = .ok (.iload_n 0, 1) := by decide +kernel
theorem dX8_isInPicture_1 : decode cX8_isInPicture 1 = .ok (.iconst 0, 1) := by decide +kernel
theorem dX8_isInPicture_2 : decode cX8_isInPicture 2 = .ok (.bipush 11, 2) := by decide +kernel
theorem dX8_isInPicture_4 : decode cX8_isInPicture 4 = .ok (.invokestatic 105, 3) := by decide +kernel
theorem dX8_isInPicture_7 : decode cX8_isInPicture 7 = .ok (.ifCond .eq 17, 3) := by decide +kernel
theorem dX8_isInPicture_10 : decode cX8_isInPicture 10 = .ok (.iload_n 1, 1) := by decide +kernel
theorem dX8_isInPicture_11 : decode cX8_isInPicture 11 = .ok (.iconst 0, 1) := by decide +kernel
theorem dX8_isInPicture_12 : decode cX8_isInPicture 12 = .ok (.bipush 7, 2) := by decide +kernel
theorem dX8_isInPicture_14 : decode cX8_isInPicture 14 = .ok (.invokestatic 105, 3) := by decide +kernel
theorem dX8_isInPicture_17 : decode cX8_isInPicture 17 = .ok (.ifCond .eq 7, 3) := by decide +kernel
theorem dX8_isInPicture_20 : decode cX8_isInPicture 20 = .ok (.iconst 1, 1) := by decide +kernel
theorem dX8_isInPicture_21 : decode cX8_isInPicture 21 = .ok (.goto 4, 3) := by decide +kernel
theorem dX8_isInPicture_24 : decode cX8_isInPicture 24 = .ok (.iconst 0, 1) := by decide +kernel
theorem dX8_isInPicture_25 : decode cX8_isInPicture 25 = .ok (.ireturn, 1) := by decide +kernel
theorem dX8_isSheet_0 : decode cX8_isSheet 0 = .ok (.iload_n 0, 1) := by decide +kernel
theorem dX8_isSheet_1 : decode cX8_isSheet 1 = .ok (.iconst 0, 1) := by decide +kernel
theorem dX8_isSheet_2 : decode cX8_isSheet 2 = .ok (.iconst 3, 1) := by decide +kernel
theorem dX8_isSheet_3 : decode cX8_isSheet 3 = .ok (.invokestatic 105, 3) := by decide +kernel
theorem dX8_isSheet_6 : decode cX8_isSheet 6 = .ok (.ireturn, 1) := by decide +kernel
theorem dX8_isLane_0 : decode cX8_isLane 0 = .ok (.iload_n 0, 1) := by decide +kernel
theorem dX8_isLane_1 : decode cX8_isLane 1 = .ok (.iconst 0, 1) := by decide +kernel
theorem dX8_isLane_2 : decode cX8_isLane 2 = .ok (.iconst 3, 1) := by decide +kernel
theorem dX8_isLane_3 : decode cX8_isLane 3 = .ok (.invokestatic 105, 3) := by decide +kernel
theorem dX8_isLane_6 : decode cX8_isLane 6 = .ok (.ireturn, 1) := by decide +kernel
theorem dX8_xOf_0 : decode cX8_xOf 0 = .ok (.iload_n 0, 1) := by decide +kernel
theorem dX8_xOf_1 : decode cX8_xOf 1 = .ok (.bipush 7, 2) := by decide +kernel
theorem dX8_xOf_3 : decode cX8_xOf 3 = .ok (.irem, 1) := by decide +kernel
theorem dX8_xOf_4 : decode cX8_xOf 4 = .ok (.iconst 3, 1) := by decide +kernel
theorem dX8_xOf_5 : decode cX8_xOf 5 = .ok (.isub, 1) := by decide +kernel
theorem dX8_xOf_6 : decode cX8_xOf 6 = .ok (.ireturn, 1) := by decide +kernel
theorem dX8_yOf_0 : decode cX8_yOf 0 = .ok (.iload_n 0, 1) := by decide +kernel
theorem dX8_yOf_1 : decode cX8_yOf 1 = .ok (.bipush 7, 2) := by decide +kernel
theorem dX8_yOf_3 : decode cX8_yOf 3 = .ok (.idiv, 1) := by decide +kernel
theorem dX8_yOf_4 : decode cX8_yOf 4 = .ok (.iconst 3, 1) := by decide +kernel
theorem dX8_yOf_5 : decode cX8_yOf 5 = .ok (.isub, 1) := by decide +kernel
theorem dX8_yOf_6 : decode cX8_yOf 6 = .ok (.ireturn, 1) := by decide +kernel
theorem dX8_moveBy_0 : decode cX8_moveBy 0 = .ok (.bipush 7, 2) := by decide +kernel
theorem dX8_moveBy_2 : decode cX8_moveBy 2 = .ok (.iload_n 1, 1) := by decide +kernel
theorem dX8_moveBy_3 : decode cX8_moveBy 3 = .ok (.iconst 3, 1) := by decide +kernel
theorem dX8_moveBy_4 : decode cX8_moveBy 4 = .ok (.iadd, 1) := by decide +kernel
theorem dX8_moveBy_5 : decode cX8_moveBy 5 = .ok (.imul, 1) := by decide +kernel
theorem dX8_moveBy_6 : decode cX8_moveBy 6 = .ok (.iload_n 0, 1) := by decide +kernel
theorem dX8_moveBy_7 : decode cX8_moveBy 7 = .ok (.iadd, 1) := by decide +kernel
theorem dX8_moveBy_8 : decode cX8_moveBy 8 = .ok (.iconst 3, 1) := by decide +kernel
theorem dX8_moveBy_9 : decode cX8_moveBy 9 = .ok (.iadd, 1) := by decide +kernel
theorem dX8_moveBy_10 : decode cX8_moveBy 10 = .ok (.ireturn, 1) := by decide +kernel
theorem dX8_stepsOf_0 : decode cX8_stepsOf 0 = .ok (.iload_n 0, 1) := by decide +kernel
theorem dX8_stepsOf_1 : decode cX8_stepsOf 1 = .ok (.invokestatic 195, 3) := by decide +kernel
theorem dX8_stepsOf_4 : decode cX8_stepsOf 4 = .ok (.invokestatic 276, 3) := by decide +kernel
theorem dX8_stepsOf_7 : decode cX8_stepsOf 7 = .ok (.iload_n 0, 1) := by decide +kernel
theorem dX8_stepsOf_8 : decode cX8_stepsOf 8 = .ok (.invokestatic 199, 3) := by decide +kernel
theorem dX8_stepsOf_11 : decode cX8_stepsOf 11 = .ok (.invokestatic 276, 3) := by decide +kernel
theorem dX8_stepsOf_14 : decode cX8_stepsOf 14 = .ok (.iadd, 1) := by decide +kernel
theorem dX8_stepsOf_15 : decode cX8_stepsOf 15 = .ok (.ireturn, 1) := by decide +kernel
theorem dX8_firstColumn_0 : decode cX8_firstColumn 0 = .ok (.iload_n 0, 1) := by decide +kernel
theorem dX8_firstColumn_1 : decode cX8_firstColumn 1 = .ok (.iconst 3, 1) := by decide +kernel
theorem dX8_firstColumn_2 : decode cX8_firstColumn 2 = .ok (.irem, 1) := by decide +kernel
theorem dX8_firstColumn_3 : decode cX8_firstColumn 3 = .ok (.iconst 4, 1) := by decide +kernel
theorem dX8_firstColumn_4 : decode cX8_firstColumn 4 = .ok (.imul, 1) := by decide +kernel
theorem dX8_firstColumn_5 : decode cX8_firstColumn 5 = .ok (.ireturn, 1) := by decide +kernel
theorem dX8_firstRow_0 : decode cX8_firstRow 0 = .ok (.iload_n 0, 1) := by decide +kernel
theorem dX8_firstRow_1 : decode cX8_firstRow 1 = .ok (.iconst 3, 1) := by decide +kernel
theorem dX8_firstRow_2 : decode cX8_firstRow 2 = .ok (.idiv, 1) := by decide +kernel
theorem dX8_firstRow_3 : decode cX8_firstRow 3 = .ok (.iconst 4, 1) := by decide +kernel
theorem dX8_firstRow_4 : decode cX8_firstRow 4 = .ok (.imul, 1) := by decide +kernel
theorem dX8_firstRow_5 : decode cX8_firstRow 5 = .ok (.ireturn, 1) := by decide +kernel
theorem dX8_blockAt_0 : decode cX8_blockAt 0 = .ok (.iload_n 1, 1) := by decide +kernel
theorem dX8_blockAt_1 : decode cX8_blockAt 1 = .ok (.iconst 4, 1) := by decide +kernel
theorem dX8_blockAt_2 : decode cX8_blockAt 2 = .ok (.idiv, 1) := by decide +kernel
theorem dX8_blockAt_3 : decode cX8_blockAt 3 = .ok (.iconst 3, 1) := by decide +kernel
theorem dX8_blockAt_4 : decode cX8_blockAt 4 = .ok (.imul, 1) := by decide +kernel
theorem dX8_blockAt_5 : decode cX8_blockAt 5 = .ok (.iload_n 0, 1) := by decide +kernel
theorem dX8_blockAt_6 : decode cX8_blockAt 6 = .ok (.iconst 4, 1) := by decide +kernel
theorem dX8_blockAt_7 : decode cX8_blockAt 7 = .ok (.idiv, 1) := by decide +kernel
theorem dX8_blockAt_8 : decode cX8_blockAt 8 = .ok (.iadd, 1) := by decide +kernel
theorem dX8_blockAt_9 : decode cX8_blockAt 9 = .ok (.ireturn, 1) := by decide +kernel
