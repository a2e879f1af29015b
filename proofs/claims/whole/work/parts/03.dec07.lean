theorem dX0_init_0 : decode cX0_init 0 = .ok (.aload_n 0, 1) := by decide +kernel
theorem dX0_init_1 : decode cX0_init 1 = .ok (.invokespecial 3, 3) := by decide +kernel
theorem dX0_init_4 : decode cX0_init 4 = .ok (.aload_n 0, 1) := by decide +kernel
theorem dX0_init_5 : decode cX0_init 5 = .ok (.bipush 6, 2) := by decide +kernel
theorem dX0_init_7 : decode cX0_init 7 = .ok (.newarray .int, 2) := by decide +kernel
theorem dX0_init_9 : decode cX0_init 9 = .ok (.putfield 9, 3) := by decide +kernel
theorem dX0_init_12 : decode cX0_init 12 = .ok (.aload_n 0, 1) := by decide +kernel
theorem dX0_init_13 : decode cX0_init 13 = .ok (.iconst 3, 1) := by decide +kernel
theorem dX0_init_14 : decode cX0_init 14 = .ok (.newarray .int, 2) := by decide +kernel
theorem dX0_init_16 : decode cX0_init 16 = .ok (.putfield 15, 3) := by decide +kernel
theorem dX0_init_19 : decode cX0_init 19 = .ok (.return_, 1) := by decide +kernel
theorem dX0_fill_0 : decode cX0_fill 0 = .ok (.iconst 0, 1) := by decide +kernel
theorem dX0_fill_1 : decode cX0_fill 1 = .ok (.istore_n 3, 1) := by decide +kernel
theorem dX0_fill_2 : decode cX0_fill 2 = .ok (.iload_n 3, 1) := by decide +kernel
theorem dX0_fill_3 : decode cX0_fill 3 = .ok (.bipush 6, 2) := by decide +kernel
theorem dX0_fill_5 : decode cX0_fill 5 = .ok (.if_icmp .ge 25, 3) := by decide +kernel
theorem dX0_fill_8 : decode cX0_fill 8 = .ok (.aload_n 2, 1) := by decide +kernel
theorem dX0_fill_9 : decode cX0_fill 9 = .ok (.aload_n 1, 1) := by decide +kernel
theorem dX0_fill_10 : decode cX0_fill 10 = .ok (.iload_n 3, 1) := by decide +kernel
theorem dX0_fill_11 : decode cX0_fill 11 = .ok (.invokevirtual 18, 3) := by decide +kernel
theorem dX0_fill_14 : decode cX0_fill 14 = .ok (.aload_n 0, 1) := by decide +kernel
theorem dX0_fill_15 : decode cX0_fill 15 = .ok (.getfield 9, 3) := by decide +kernel
theorem dX0_fill_18 : decode cX0_fill 18 = .ok (.iload_n 3, 1) := by decide +kernel
theorem dX0_fill_19 : decode cX0_fill 19 = .ok (.aload_n 2, 1) := by decide +kernel
theorem dX0_fill_20 : decode cX0_fill 20 = .ok (.getfield 24, 3) := by decide +kernel
theorem dX0_fill_23 : decode cX0_fill 23 = .ok (.iastore, 1) := by decide +kernel
theorem dX0_fill_24 : decode cX0_fill 24 = .ok (.iinc 3 1, 3) := by decide +kernel
theorem dX0_fill_27 : decode cX0_fill 27 = .ok (.goto (-25), 3) := by decide +kernel
theorem dX0_fill_30 : decode cX0_fill 30 = .ok (.return_, 1) := by decide +kernel
theorem dX0_lacks_0 : decode cX0_lacks 0 = .ok (.iconst 0, 1) := by decide +kernel
theorem dX0_lacks_1 : decode cX0_lacks 1 = .ok (.istore_n 2, 1) := by decide +kernel
theorem dX0_lacks_2 : decode cX0_lacks 2 = .ok (.iconst 0, 1) := by decide +kernel
theorem dX0_lacks_3 : decode cX0_lacks 3 = .ok (.istore_n 3, 1) := by decide +kernel
theorem dX0_lacks_4 : decode cX0_lacks 4 = .ok (.iload_n 3, 1) := by decide +kernel
theorem dX0_lacks_5 : decode cX0_lacks 5 = .ok (.bipush 96, 2) := by decide +kernel
theorem dX0_lacks_7 : decode cX0_lacks 7 = .ok (.if_icmp .ge 75, 3) := by decide +kernel
theorem dX0_lacks_10 : decode cX0_lacks 10 = .ok (.iload_n 3, 1) := by decide +kernel
theorem dX0_lacks_11 : decode cX0_lacks 11 = .ok (.bipush 12, 2) := by decide +kernel
theorem dX0_lacks_13 : decode cX0_lacks 13 = .ok (.irem, 1) := by decide +kernel
theorem dX0_lacks_14 : decode cX0_lacks 14 = .ok (.istore 4, 2) := by decide +kernel
theorem dX0_lacks_16 : decode cX0_lacks 16 = .ok (.iload_n 3, 1) := by decide +kernel
theorem dX0_lacks_17 : decode cX0_lacks 17 = .ok (.bipush 12, 2) := by decide +kernel
theorem dX0_lacks_19 : decode cX0_lacks 19 = .ok (.idiv, 1) := by decide +kernel
theorem dX0_lacks_20 : decode cX0_lacks 20 = .ok (.istore 5, 2) := by decide +kernel
theorem dX0_lacks_22 : decode cX0_lacks 22 = .ok (.aload_n 0, 1) := by decide +kernel
theorem dX0_lacks_23 : decode cX0_lacks 23 = .ok (.getfield 9, 3) := by decide +kernel
theorem dX0_lacks_26 : decode cX0_lacks 26 = .ok (.iload 4, 2) := by decide +kernel
theorem dX0_lacks_28 : decode cX0_lacks 28 = .ok (.iload 5, 2) := by decide +kernel
theorem dX0_lacks_30 : decode cX0_lacks 30 = .ok (.invokestatic 28, 3) := by decide +kernel
theorem dX0_lacks_33 : decode cX0_lacks 33 = .ok (.iaload, 1) := by decide +kernel
theorem dX0_lacks_34 : decode cX0_lacks 34 = .ok (.istore 6, 2) := by decide +kernel
theorem dX0_lacks_36 : decode cX0_lacks 36 = .ok (.aload_n 1, 1) := by decide +kernel
theorem dX0_lacks_37 : decode cX0_lacks 37 = .ok (.getfield 32, 3) := by decide +kernel
theorem dX0_lacks_40 : decode cX0_lacks 40 = .ok (.iload 4, 2) := by decide +kernel
theorem dX0_lacks_42 : decode cX0_lacks 42 = .ok (.iload 6, 2) := by decide +kernel
theorem dX0_lacks_44 : decode cX0_lacks 44 = .ok (.invokestatic 38, 3) := by decide +kernel
theorem dX0_lacks_47 : decode cX0_lacks 47 = .ok (.iadd, 1) := by decide +kernel
theorem dX0_lacks_48 : decode cX0_lacks 48 = .ok (.iload 5, 2) := by decide +kernel
theorem dX0_lacks_50 : decode cX0_lacks 50 = .ok (.iload 6, 2) := by decide +kernel
theorem dX0_lacks_52 : decode cX0_lacks 52 = .ok (.invokestatic 42, 3) := by decide +kernel
theorem dX0_lacks_55 : decode cX0_lacks 55 = .ok (.iadd, 1) := by decide +kernel
theorem dX0_lacks_56 : decode cX0_lacks 56 = .ok (.invokevirtual 45, 3) := by decide +kernel
theorem dX0_lacks_59 : decode cX0_lacks 59 = .ok (.aload_n 1, 1) := by decide +kernel
theorem dX0_lacks_60 : decode cX0_lacks 60 = .ok (.getfield 50, 3) := by decide +kernel
theorem dX0_lacks_63 : decode cX0_lacks 63 = .ok (.iload 4, 2) := by decide +kernel
theorem dX0_lacks_65 : decode cX0_lacks 65 = .ok (.iload 5, 2) := by decide +kernel
theorem dX0_lacks_67 : decode cX0_lacks 67 = .ok (.invokevirtual 45, 3) := by decide +kernel
theorem dX0_lacks_70 : decode cX0_lacks 70 = .ok (.if_icmp .eq 6, 3) := by decide +kernel
theorem dX0_lacks_73 : decode cX0_lacks 73 = .ok (.iinc 2 1, 3) := by decide +kernel
theorem dX0_lacks_76 : decode cX0_lacks 76 = .ok (.iinc 3 1, 3) := by decide +kernel
theorem dX0_lacks_79 : decode cX0_lacks 79 = .ok (.goto (-75), 3) := by decide +kernel
theorem dX0_lacks_82 : decode cX0_lacks 82 = .ok (.iload_n 2, 1) := by decide +kernel
theorem dX0_lacks_83 : decode cX0_lacks 83 = .ok (.ireturn, 1) := by decide +kernel
theorem dX0_length_0 : decode cX0_length 0 = .ok (.iconst 0, 1) := by decide +kernel
theorem dX0_length_1 : decode cX0_length 1 = .ok (.istore_n 1, 1) := by decide +kernel
theorem dX0_length_2 : decode cX0_length 2 = .ok (.iconst 0, 1) := by decide +kernel
theorem dX0_length_3 : decode cX0_length 3 = .ok (.istore_n 2, 1) := by decide +kernel
theorem dX0_length_4 : decode cX0_length 4 = .ok (.iload_n 2, 1) := by decide +kernel
theorem dX0_length_5 : decode cX0_length 5 = .ok (.bipush 6, 2) := by decide +kernel
theorem dX0_length_7 : decode cX0_length 7 = .ok (.if_icmp .ge 53, 3) := by decide +kernel
theorem dX0_length_10 : decode cX0_length 10 = .ok (.iload_n 1, 1) := by decide +kernel
theorem dX0_length_11 : decode cX0_length 11 = .ok (.aload_n 0, 1) := by decide +kernel
theorem dX0_length_12 : decode cX0_length 12 = .ok (.getfield 9, 3) := by decide +kernel
theorem dX0_length_15 : decode cX0_length 15 = .ok (.iload_n 2, 1) := by decide +kernel
theorem dX0_length_16 : decode cX0_length 16 = .ok (.iaload, 1) := by decide +kernel
theorem dX0_length_17 : decode cX0_length 17 = .ok (.invokestatic 38, 3) := by decide +kernel
theorem dX0_length_20 : decode cX0_length 20 = .ok (.aload_n 0, 1) := by decide +kernel
theorem dX0_length_21 : decode cX0_length 21 = .ok (.iload_n 2, 1) := by decide +kernel
theorem dX0_length_22 : decode cX0_length 22 = .ok (.iconst 1, 1) := by decide +kernel
theorem dX0_length_23 : decode cX0_length 23 = .ok (.invokevirtual 53, 3) := by decide +kernel
theorem dX0_length_26 : decode cX0_length 26 = .ok (.isub, 1) := by decide +kernel
theorem dX0_length_27 : decode cX0_length 27 = .ok (.invokestatic 57, 3) := by decide +kernel
theorem dX0_length_30 : decode cX0_length 30 = .ok (.iadd, 1) := by decide +kernel
theorem dX0_length_31 : decode cX0_length 31 = .ok (.istore_n 1, 1) := by decide +kernel
theorem dX0_length_32 : decode cX0_length 32 = .ok (.iload_n 1, 1) := by decide +kernel
theorem dX0_length_33 : decode cX0_length 33 = .ok (.aload_n 0, 1) := by decide +kernel
theorem dX0_length_34 : decode cX0_length 34 = .ok (.getfield 9, 3) := by decide +kernel
theorem dX0_length_37 : decode cX0_length 37 = .ok (.iload_n 2, 1) := by decide +kernel
theorem dX0_length_38 : decode cX0_length 38 = .ok (.iaload, 1) := by decide +kernel
theorem dX0_length_39 : decode cX0_length 39 = .ok (.invokestatic 42, 3) := by decide +kernel
theorem dX0_length_42 : decode cX0_length 42 = .ok (.aload_n 0, 1) := by decide +kernel
theorem dX0_length_43 : decode cX0_length 43 = .ok (.iload_n 2, 1) := by decide +kernel
theorem dX0_length_44 : decode cX0_length 44 = .ok (.iconst 0, 1) := by decide +kernel
theorem dX0_length_45 : decode cX0_length 45 = .ok (.invokevirtual 53, 3) := by decide +kernel
theorem dX0_length_48 : decode cX0_length 48 = .ok (.isub, 1) := by decide +kernel
theorem dX0_length_49 : decode cX0_length 49 = .ok (.invokestatic 57, 3) := by decide +kernel
theorem dX0_length_52 : decode cX0_length 52 = .ok (.iadd, 1) := by decide +kernel
theorem dX0_length_53 : decode cX0_length 53 = .ok (.istore_n 1, 1) := by decide +kernel
theorem dX0_length_54 : decode cX0_length 54 = .ok (.iinc 2 1, 3) := by decide +kernel
theorem dX0_length_57 : decode cX0_length 57 = .ok (.goto (-53), 3) := by decide +kernel
theorem dX0_length_60 : decode cX0_length 60 = .ok (.iload_n 1, 1) := by decide +kernel
theorem dX0_length_61 : decode cX0_length 61 = .ok (.ireturn, 1) := by decide +kernel
theorem dX0_foretold_0 : decode cX0_foretold 0 = .ok (.iload_n 1, 1) := by decide +kernel
theorem dX0_foretold_1 : decode cX0_foretold 1 = .ok (.iconst 3, 1) := by decide +kernel
theorem dX0_foretold_2 : decode cX0_foretold 2 = .ok (.irem, 1) := by decide +kernel
theorem dX0_foretold_3 : decode cX0_foretold 3 = .ok (.ifCond .le 7, 3) := by decide +kernel
theorem dX0_foretold_6 : decode cX0_foretold 6 = .ok (.iconst 1, 1) := by decide +kernel
theorem dX0_foretold_7 : decode cX0_foretold 7 = .ok (.goto 4, 3) := by decide +kernel
theorem dX0_foretold_10 : decode cX0_foretold 10 = .ok (.iconst 0, 1) := by decide +kernel
theorem dX0_foretold_11 : decode cX0_foretold 11 = .ok (.istore_n 3, 1) := by decide +kernel
theorem dX0_foretold_12 : decode cX0_foretold 12 = .ok (.iload_n 1, 1) := by decide +kernel
theorem dX0_foretold_13 : decode cX0_foretold 13 = .ok (.iconst 3, 1) := by decide +kernel
theorem dX0_foretold_14 : decode cX0_foretold 14 = .ok (.if_icmp .lt 7, 3) := by decide +kernel
theorem dX0_foretold_17 : decode cX0_foretold 17 = .ok (.iconst 1, 1) := by decide +kernel
theorem dX0_foretold_18 : decode cX0_foretold 18 = .ok (.goto 4, 3) := by decide +kernel
theorem dX0_foretold_21 : decode cX0_foretold 21 = .ok (.iconst 0, 1) := by decide +kernel
theorem dX0_foretold_22 : decode cX0_foretold 22 = .ok (.istore 4, 2) := by decide +kernel
theorem dX0_foretold_24 : decode cX0_foretold 24 = .ok (.iload_n 1, 1) := by decide +kernel
theorem dX0_foretold_25 : decode cX0_foretold 25 = .ok (.iconst 3, 1) := by decide +kernel
theorem dX0_foretold_26 : decode cX0_foretold 26 = .ok (.irem, 1) := by decide +kernel
theorem dX0_foretold_27 : decode cX0_foretold 27 = .ok (.iconst 2, 1) := by decide +kernel
theorem dX0_foretold_28 : decode cX0_foretold 28 = .ok (.if_icmp .ge 7, 3) := by decide +kernel
theorem dX0_foretold_31 : decode cX0_foretold 31 = .ok (.iconst 1, 1) := by decide +kernel
theorem dX0_foretold_32 : decode cX0_foretold 32 = .ok (.goto 4, 3) := by decide +kernel
theorem dX0_foretold_35 : decode cX0_foretold 35 = .ok (.iconst 0, 1) := by decide +kernel
theorem dX0_foretold_36 : decode cX0_foretold 36 = .ok (.istore 5, 2) := by decide +kernel
theorem dX0_foretold_38 : decode cX0_foretold 38 = .ok (.iconst 0, 1) := by decide +kernel
theorem dX0_foretold_39 : decode cX0_foretold 39 = .ok (.istore 6, 2) := by decide +kernel
theorem dX0_foretold_41 : decode cX0_foretold 41 = .ok (.iload_n 3, 1) := by decide +kernel
theorem dX0_foretold_42 : decode cX0_foretold 42 = .ok (.ifCond .eq 21, 3) := by decide +kernel
theorem dX0_foretold_45 : decode cX0_foretold 45 = .ok (.aload_n 0, 1) := by decide +kernel
theorem dX0_foretold_46 : decode cX0_foretold 46 = .ok (.getfield 15, 3) := by decide +kernel
theorem dX0_foretold_49 : decode cX0_foretold 49 = .ok (.iload 6, 2) := by decide +kernel
theorem dX0_foretold_51 : decode cX0_foretold 51 = .ok (.aload_n 0, 1) := by decide +kernel
theorem dX0_foretold_52 : decode cX0_foretold 52 = .ok (.iload_n 1, 1) := by decide +kernel
theorem dX0_foretold_53 : decode cX0_foretold 53 = .ok (.iconst 1, 1) := by decide +kernel
theorem dX0_foretold_54 : decode cX0_foretold 54 = .ok (.isub, 1) := by decide +kernel
theorem dX0_foretold_55 : decode cX0_foretold 55 = .ok (.iload_n 2, 1) := by decide +kernel
theorem dX0_foretold_56 : decode cX0_foretold 56 = .ok (.invokevirtual 60, 3) := by decide +kernel
theorem dX0_foretold_59 : decode cX0_foretold 59 = .ok (.iastore, 1) := by decide +kernel
theorem dX0_foretold_60 : decode cX0_foretold 60 = .ok (.iinc 6 1, 3) := by decide +kernel
theorem dX0_foretold_63 : decode cX0_foretold 63 = .ok (.iload 4, 2) := by decide +kernel
theorem dX0_foretold_65 : decode cX0_foretold 65 = .ok (.ifCond .eq 21, 3) := by decide +kernel
theorem dX0_foretold_68 : decode cX0_foretold 68 = .ok (.aload_n 0, 1) := by decide +kernel
theorem dX0_foretold_69 : decode cX0_foretold 69 = .ok (.getfield 15, 3) := by decide +kernel
theorem dX0_foretold_72 : decode cX0_foretold 72 = .ok (.iload 6, 2) := by decide +kernel
theorem dX0_foretold_74 : decode cX0_foretold 74 = .ok (.aload_n 0, 1) := by decide +kernel
theorem dX0_foretold_75 : decode cX0_foretold 75 = .ok (.iload_n 1, 1) := by decide +kernel
theorem dX0_foretold_76 : decode cX0_foretold 76 = .ok (.iconst 3, 1) := by decide +kernel
theorem dX0_foretold_77 : decode cX0_foretold 77 = .ok (.isub, 1) := by decide +kernel
theorem dX0_foretold_78 : decode cX0_foretold 78 = .ok (.iload_n 2, 1) := by decide +kernel
theorem dX0_foretold_79 : decode cX0_foretold 79 = .ok (.invokevirtual 60, 3) := by decide +kernel
theorem dX0_foretold_82 : decode cX0_foretold 82 = .ok (.iastore, 1) := by decide +kernel
theorem dX0_foretold_83 : decode cX0_foretold 83 = .ok (.iinc 6 1, 3) := by decide +kernel
theorem dX0_foretold_86 : decode cX0_foretold 86 = .ok (.iload 4, 2) := by decide +kernel
theorem dX0_foretold_88 : decode cX0_foretold 88 = .ok (.ifCond .eq 28, 3) := by decide +kernel
theorem dX0_foretold_91 : decode cX0_foretold 91 = .ok (.iload 5, 2) := by decide +kernel
theorem dX0_foretold_93 : decode cX0_foretold 93 = .ok (.ifCond .eq 23, 3) := by decide +kernel
theorem dX0_foretold_96 : decode cX0_foretold 96 = .ok (.aload_n 0, 1) := by decide +kernel
theorem dX0_foretold_97 : decode cX0_foretold 97 = .ok (.getfield 15, 3) := by decide +kernel
theorem dX0_foretold_100 : decode cX0_foretold 100 = .ok (.iload 6, 2) := by decide +kernel
theorem dX0_foretold_102 : decode cX0_foretold 102 = .ok (.aload_n 0, 1) := by decide +kernel
theorem dX0_foretold_103 : decode cX0_foretold 103 = .ok (.iload_n 1, 1) := by decide +kernel
theorem dX0_foretold_104 : decode cX0_foretold 104 = .ok (.iconst 3, 1) := by decide +kernel
theorem dX0_foretold_105 : decode cX0_foretold 105 = .ok (.isub, 1) := by decide +kernel
theorem dX0_foretold_106 : decode cX0_foretold 106 = .ok (.iconst 1, 1) := by decide +kernel
theorem dX0_foretold_107 : decode cX0_foretold 107 = .ok (.iadd, 1) := by decide +kernel
theorem dX0_foretold_108 : decode cX0_foretold 108 = .ok (.iload_n 2, 1) := by decide +kernel
theorem dX0_foretold_109 : decode cX0_foretold 109 = .ok (.invokevirtual 60, 3) := by decide +kernel
theorem dX0_foretold_112 : decode cX0_foretold 112 = .ok (.iastore, 1) := by decide +kernel
theorem dX0_foretold_113 : decode cX0_foretold 113 = .ok (.iinc 6 1, 3) := by decide +kernel
theorem dX0_foretold_116 : decode cX0_foretold 116 = .ok (.aload_n 0, 1) := by decide +kernel
theorem dX0_foretold_117 : decode cX0_foretold 117 = .ok (.iload 6, 2) := by decide +kernel
theorem dX0_foretold_119 : decode cX0_foretold 119 = .ok (.invokevirtual 63, 3) := by decide +kernel
theorem dX0_foretold_122 : decode cX0_foretold 122 = .ok (.ireturn, 1) := by decide +kernel
theorem dX0_partOf_0 : decode cX0_partOf 0 = .ok (.iload_n 2, 1) := by decide +kernel
theorem dX0_partOf_1 : decode cX0_partOf 1 = .ok (.ifCond .eq 15, 3) := by decide +kernel
theorem dX0_partOf_4 : decode cX0_partOf 4 = .ok (.aload_n 0, 1) := by decide +kernel
theorem dX0_partOf_5 : decode cX0_partOf 5 = .ok (.getfield 9, 3) := by decide +kernel
theorem dX0_partOf_8 : decode cX0_partOf 8 = .ok (.iload_n 1, 1) := by decide +kernel
theorem dX0_partOf_9 : decode cX0_partOf 9 = .ok (.iaload, 1) := by decide +kernel
theorem dX0_partOf_10 : decode cX0_partOf 10 = .ok (.invokestatic 38, 3) := by decide +kernel
theorem dX0_partOf_13 : decode cX0_partOf 13 = .ok (.goto 12, 3) := by decide +kernel
theorem dX0_partOf_16 : decode cX0_partOf 16 = .ok (.aload_n 0, 1) := by decide +kernel
theorem dX0_partOf_17 : decode cX0_partOf 17 = .ok (.getfield 9, 3) := by decide +kernel
theorem dX0_partOf_20 : decode cX0_partOf 20 = .ok (.iload_n 1, 1) := by decide +kernel
theorem dX0_partOf_21 : decode cX0_partOf 21 = .ok (.iaload, 1) := by decide +kernel
theorem dX0_partOf_22 : decode cX0_partOf 22 = .ok (.invokestatic 42, 3) := by decide +kernel
theorem dX0_partOf_25 : decode cX0_partOf 25 = .ok (.ireturn, 1) := by decide +kernel
theorem dX0_middle_0 : decode cX0_middle 0 = .ok (.iload_n 1, 1) := by decide +kernel
theorem dX0_middle_1 : decode cX0_middle 1 = .ok (.tableswitch 52 0 2 #[27, 29, 36], 27) := by decide +kernel
theorem dX0_middle_28 : decode cX0_middle 28 = .ok (.iconst 0, 1) := by decide +kernel
theorem dX0_middle_29 : decode cX0_middle 29 = .ok (.ireturn, 1) := by decide +kernel
theorem dX0_middle_30 : decode cX0_middle 30 = .ok (.aload_n 0, 1) := by decide +kernel
theorem dX0_middle_31 : decode cX0_middle 31 = .ok (.getfield 15, 3) := by decide +kernel
theorem dX0_middle_34 : decode cX0_middle 34 = .ok (.iconst 0, 1) := by decide +kernel
theorem dX0_middle_35 : decode cX0_middle 35 = .ok (.iaload, 1) := by decide +kernel
theorem dX0_middle_36 : decode cX0_middle 36 = .ok (.ireturn, 1) := by decide +kernel
theorem dX0_middle_37 : decode cX0_middle 37 = .ok (.aload_n 0, 1) := by decide +kernel
theorem dX0_middle_38 : decode cX0_middle 38 = .ok (.getfield 15, 3) := by decide +kernel
theorem dX0_middle_41 : decode cX0_middle 41 = .ok (.iconst 0, 1) := by decide +kernel
theorem dX0_middle_42 : decode cX0_middle 42 = .ok (.iaload, 1) := by decide +kernel
theorem dX0_middle_43 : decode cX0_middle 43 = .ok (.aload_n 0, 1) := by decide +kernel
theorem dX0_middle_44 : decode cX0_middle 44 = .ok (.getfield 15, 3) := by decide +kernel
theorem dX0_middle_47 : decode cX0_middle 47 = .ok (.iconst 1, 1) := by decide +kernel
theorem dX0_middle_48 : decode cX0_middle 48 = .ok (.iaload, 1) := by decide +kernel
theorem dX0_middle_49 : decode cX0_middle 49 = .ok (.invokestatic 66, 3) := by decide +kernel
theorem dX0_middle_52 : decode cX0_middle 52 = .ok (.ireturn, 1) := by decide +kernel
theorem dX0_middle_53 : decode cX0_middle 53 = .ok (.aload_n 0, 1) := by decide +kernel
theorem dX0_middle_54 : decode cX0_middle 54 = .ok (.getfield 15, 3) := by decide +kernel
theorem dX0_middle_57 : decode cX0_middle 57 = .ok (.iconst 0, 1) := by decide +kernel
theorem dX0_middle_58 : decode cX0_middle 58 = .ok (.iaload, 1) := by decide +kernel
theorem dX0_middle_59 : decode cX0_middle 59 = .ok (.aload_n 0, 1) := by decide +kernel
theorem dX0_middle_60 : decode cX0_middle 60 = .ok (.getfield 15, 3) := by decide +kernel
theorem dX0_middle_63 : decode cX0_middle 63 = .ok (.iconst 1, 1) := by decide +kernel
theorem dX0_middle_64 : decode cX0_middle 64 = .ok (.iaload, 1) := by decide +kernel
theorem dX0_middle_65 : decode cX0_middle 65 = .ok (.invokestatic 66, 3) := by decide +kernel
theorem dX0_middle_68 : decode cX0_middle 68 = .ok (.istore_n 2, 1) := by decide +kernel
theorem dX0_middle_69 : decode cX0_middle 69 = .ok (.aload_n 0, 1) := by decide +kernel
theorem dX0_middle_70 : decode cX0_middle 70 = .ok (.getfield 15, 3) := by decide +kernel
theorem dX0_middle_73 : decode cX0_middle 73 = .ok (.iconst 0, 1) := by decide +kernel
theorem dX0_middle_74 : decode cX0_middle 74 = .ok (.iaload, 1) := by decide +kernel
theorem dX0_middle_75 : decode cX0_middle 75 = .ok (.aload_n 0, 1) := by decide +kernel
theorem dX0_middle_76 : decode cX0_middle 76 = .ok (.getfield 15, 3) := by decide +kernel
theorem dX0_middle_79 : decode cX0_middle 79 = .ok (.iconst 1, 1) := by decide +kernel
theorem dX0_middle_80 : decode cX0_middle 80 = .ok (.iaload, 1) := by decide +kernel
theorem dX0_middle_81 : decode cX0_middle 81 = .ok (.invokestatic 71, 3) := by decide +kernel
theorem dX0_middle_84 : decode cX0_middle 84 = .ok (.istore_n 3, 1) := by decide +kernel
theorem dX0_middle_85 : decode cX0_middle 85 = .ok (.iload_n 2, 1) := by decide +kernel
theorem dX0_middle_86 : decode cX0_middle 86 = .ok (.iload_n 3, 1) := by decide +kernel
theorem dX0_middle_87 : decode cX0_middle 87 = .ok (.aload_n 0, 1) := by decide +kernel
theorem dX0_middle_88 : decode cX0_middle 88 = .ok (.getfield 15, 3) := by decide +kernel
theorem dX0_middle_91 : decode cX0_middle 91 = .ok (.iconst 2, 1) := by decide +kernel
theorem dX0_middle_92 : decode cX0_middle 92 = .ok (.iaload, 1) := by decide +kernel
theorem dX0_middle_93 : decode cX0_middle 93 = .ok (.invokestatic 66, 3) := by decide +kernel
theorem dX0_middle_96 : decode cX0_middle 96 = .ok (.invokestatic 71, 3) := by decide +kernel
theorem dX0_middle_99 : decode cX0_middle 99 = .ok (.ireturn, 1) := by decide +kernel
theorem dX0_bitsOf_0 : decode cX0_bitsOf 0 = .ok (.iload_n 0, 1) := by decide +kernel
theorem dX0_bitsOf_1 : decode cX0_bitsOf 1 = .ok (.invokestatic 74, 3) := by decide +kernel
theorem dX0_bitsOf_4 : decode cX0_bitsOf 4 = .ok (.istore_n 1, 1) := by decide +kernel
theorem dX0_bitsOf_5 : decode cX0_bitsOf 5 = .ok (.iconst 1, 1) := by decide +kernel
theorem dX0_bitsOf_6 : decode cX0_bitsOf 6 = .ok (.istore_n 2, 1) := by decide +kernel
theorem dX0_bitsOf_7 : decode cX0_bitsOf 7 = .ok (.iconst 0, 1) := by decide +kernel
theorem dX0_bitsOf_8 : decode cX0_bitsOf 8 = .ok (.istore_n 3, 1) := by decide +kernel
theorem dX0_bitsOf_9 : decode cX0_bitsOf 9 = .ok (.iload_n 3, 1) := by decide +kernel
theorem dX0_bitsOf_10 : decode cX0_bitsOf 10 = .ok (.bipush 31, 2) := by decide +kernel
theorem dX0_bitsOf_12 : decode cX0_bitsOf 12 = .ok (.if_icmp .ge 18, 3) := by decide +kernel
theorem dX0_bitsOf_15 : decode cX0_bitsOf 15 = .ok (.iload_n 1, 1) := by decide +kernel
theorem dX0_bitsOf_16 : decode cX0_bitsOf 16 = .ok (.iload_n 3, 1) := by decide +kernel
theorem dX0_bitsOf_17 : decode cX0_bitsOf 17 = .ok (.ishr, 1) := by decide +kernel
theorem dX0_bitsOf_18 : decode cX0_bitsOf 18 = .ok (.ifCond .le 6, 3) := by decide +kernel
theorem dX0_bitsOf_21 : decode cX0_bitsOf 21 = .ok (.iinc 2 2, 3) := by decide +kernel
theorem dX0_bitsOf_24 : decode cX0_bitsOf 24 = .ok (.iinc 3 1, 3) := by decide +kernel
theorem dX0_bitsOf_27 : decode cX0_bitsOf 27 = .ok (.goto (-18), 3) := by decide +kernel
theorem dX0_bitsOf_30 : decode cX0_bitsOf 30 = .ok (.iload_n 2, 1) := by decide +kernel
theorem dX0_bitsOf_31 : decode cX0_bitsOf 31 = .ok (.ireturn, 1) := by decide +kernel
theorem dX1_init_0 : decode cX1_init 0 = .ok (.aload_n 0, 1) := by decide +kernel
theorem dX1_init_1 : decode cX1_init 1 = .ok (.invokespecial 3, 3) := by decide +kernel
theorem dX1_init_4 : decode cX1_init 4 = .ok (.aload_n 0, 1) := by decide +kernel
theorem dX1_init_5 : decode cX1_init 5 = .ok (.iconst 0, 1) := by decide +kernel
theorem dX1_init_6 : decode cX1_init 6 = .ok (.putfield 9, 3) := by decide +kernel
theorem dX1_init_9 : decode cX1_init 9 = .ok (.aload_n 0, 1) := by decide +kernel
theorem dX1_init_10 : decode cX1_init 10 = .ok (.iconst 0, 1) := by decide +kernel
theorem dX1_init_11 : decode cX1_init 11 = .ok (.putfield 15, 3) := by decide +kernel
theorem dX1_init_14 : decode cX1_init 14 = .ok (.return_, 1) := by decide +kernel
theorem dX1_look_0 : decode cX1_look 0 = .ok (.aload_n 0, 1) := by decide +kernel
theorem dX1_look_1 : decode cX1_look 1 = .ok (.ldc 18, 2) := by decide +kernel
theorem dX1_look_3 : decode cX1_look 3 = .ok (.putfield 15, 3) := by decide +kernel
theorem dX1_look_6 : decode cX1_look 6 = .ok (.iconst 0, 1) := by decide +kernel
theorem dX1_look_7 : decode cX1_look 7 = .ok (.istore 4, 2) := by decide +kernel
theorem dX1_look_9 : decode cX1_look 9 = .ok (.iload 4, 2) := by decide +kernel
theorem dX1_look_11 : decode cX1_look 11 = .ok (.bipush 9, 2) := by decide +kernel
theorem dX1_look_13 : decode cX1_look 13 = .ok (.if_icmp .ge 50, 3) := by decide +kernel
theorem dX1_look_16 : decode cX1_look 16 = .ok (.aload_n 1, 1) := by decide +kernel
theorem dX1_look_17 : decode cX1_look 17 = .ok (.iload_n 2, 1) := by decide +kernel
theorem dX1_look_18 : decode cX1_look 18 = .ok (.iload_n 3, 1) := by decide +kernel
theorem dX1_look_19 : decode cX1_look 19 = .ok (.iload 4, 2) := by decide +kernel
theorem dX1_look_21 : decode cX1_look 21 = .ok (.iconst 3, 1) := by decide +kernel
theorem dX1_look_22 : decode cX1_look 22 = .ok (.irem, 1) := by decide +kernel
theorem dX1_look_23 : decode cX1_look 23 = .ok (.iconst 1, 1) := by decide +kernel
theorem dX1_look_24 : decode cX1_look 24 = .ok (.isub, 1) := by decide +kernel
theorem dX1_look_25 : decode cX1_look 25 = .ok (.iload 4, 2) := by decide +kernel
theorem dX1_look_27 : decode cX1_look 27 = .ok (.iconst 3, 1) := by decide +kernel
theorem dX1_look_28 : decode cX1_look 28 = .ok (.idiv, 1) := by decide +kernel
theorem dX1_look_29 : decode cX1_look 29 = .ok (.iconst 1, 1) := by decide +kernel
theorem dX1_look_30 : decode cX1_look 30 = .ok (.isub, 1) := by decide +kernel
theorem dX1_look_31 : decode cX1_look 31 = .ok (.invokestatic 19, 3) := by decide +kernel
theorem dX1_look_34 : decode cX1_look 34 = .ok (.istore 5, 2) := by decide +kernel
theorem dX1_look_36 : decode cX1_look 36 = .ok (.iload 5, 2) := by decide +kernel
theorem dX1_look_38 : decode cX1_look 38 = .ok (.aload_n 0, 1) := by decide +kernel
theorem dX1_look_39 : decode cX1_look 39 = .ok (.getfield 15, 3) := by decide +kernel
theorem dX1_look_42 : decode cX1_look 42 = .ok (.if_icmp .ge 15, 3) := by decide +kernel
theorem dX1_look_45 : decode cX1_look 45 = .ok (.aload_n 0, 1) := by decide +kernel
theorem dX1_look_46 : decode cX1_look 46 = .ok (.iload 5, 2) := by decide +kernel
theorem dX1_look_48 : decode cX1_look 48 = .ok (.putfield 15, 3) := by decide +kernel
theorem dX1_look_51 : decode cX1_look 51 = .ok (.aload_n 0, 1) := by decide +kernel
theorem dX1_look_52 : decode cX1_look 52 = .ok (.iload 4, 2) := by decide +kernel
theorem dX1_look_54 : decode cX1_look 54 = .ok (.putfield 9, 3) := by decide +kernel
theorem dX1_look_57 : decode cX1_look 57 = .ok (.iinc 4 1, 3) := by decide +kernel
theorem dX1_look_60 : decode cX1_look 60 = .ok (.goto (-51), 3) := by decide +kernel
theorem dX1_look_63 : decode cX1_look 63 = .ok (.return_, 1) := by decide +kernel
theorem dX1_costBy_0 : decode cX1_costBy 0 = .ok (.iconst 0, 1) := by decide +kernel
theorem dX1_costBy_1 : decode cX1_costBy 1 = .ok (.istore 5, 2) := by decide +kernel
theorem dX1_costBy_3 : decode cX1_costBy 3 = .ok (.iconst 0, 1) := by decide +kernel
theorem dX1_costBy_4 : decode cX1_costBy 4 = .ok (.istore 6, 2) := by decide +kernel
theorem dX1_costBy_6 : decode cX1_costBy 6 = .ok (.iload 6, 2) := by decide +kernel
theorem dX1_costBy_8 : decode cX1_costBy 8 = .ok (.bipush 16, 2) := by decide +kernel
theorem dX1_costBy_10 : decode cX1_costBy 10 = .ok (.if_icmp .ge 79, 3) := by decide +kernel
theorem dX1_costBy_13 : decode cX1_costBy 13 = .ok (.iload_n 1, 1) := by decide +kernel
theorem dX1_costBy_14 : decode cX1_costBy 14 = .ok (.invokestatic 23, 3) := by decide +kernel
theorem dX1_costBy_17 : decode cX1_costBy 17 = .ok (.iload 6, 2) := by decide +kernel
theorem dX1_costBy_19 : decode cX1_costBy 19 = .ok (.iconst 4, 1) := by decide +kernel
theorem dX1_costBy_20 : decode cX1_costBy 20 = .ok (.irem, 1) := by decide +kernel
theorem dX1_costBy_21 : decode cX1_costBy 21 = .ok (.iadd, 1) := by decide +kernel
theorem dX1_costBy_22 : decode cX1_costBy 22 = .ok (.istore 7, 2) := by decide +kernel
theorem dX1_costBy_24 : decode cX1_costBy 24 = .ok (.iload_n 1, 1) := by decide +kernel
theorem dX1_costBy_25 : decode cX1_costBy 25 = .ok (.invokestatic 27, 3) := by decide +kernel
theorem dX1_costBy_28 : decode cX1_costBy 28 = .ok (.iload 6, 2) := by decide +kernel
theorem dX1_costBy_30 : decode cX1_costBy 30 = .ok (.iconst 4, 1) := by decide +kernel
theorem dX1_costBy_31 : decode cX1_costBy 31 = .ok (.idiv, 1) := by decide +kernel
theorem dX1_costBy_32 : decode cX1_costBy 32 = .ok (.iadd, 1) := by decide +kernel
theorem dX1_costBy_33 : decode cX1_costBy 33 = .ok (.istore 8, 2) := by decide +kernel
theorem dX1_costBy_35 : decode cX1_costBy 35 = .ok (.aload_n 0, 1) := by decide +kernel
theorem dX1_costBy_36 : decode cX1_costBy 36 = .ok (.getfield 30, 3) := by decide +kernel
theorem dX1_costBy_39 : decode cX1_costBy 39 = .ok (.iload 7, 2) := by decide +kernel
theorem dX1_costBy_41 : decode cX1_costBy 41 = .ok (.iload_n 2, 1) := by decide +kernel
theorem dX1_costBy_42 : decode cX1_costBy 42 = .ok (.invokestatic 36, 3) := by decide +kernel
theorem dX1_costBy_45 : decode cX1_costBy 45 = .ok (.iadd, 1) := by decide +kernel
theorem dX1_costBy_46 : decode cX1_costBy 46 = .ok (.iload 8, 2) := by decide +kernel
theorem dX1_costBy_48 : decode cX1_costBy 48 = .ok (.iload_n 2, 1) := by decide +kernel
theorem dX1_costBy_49 : decode cX1_costBy 49 = .ok (.invokestatic 39, 3) := by decide +kernel
theorem dX1_costBy_52 : decode cX1_costBy 52 = .ok (.iadd, 1) := by decide +kernel
theorem dX1_costBy_53 : decode cX1_costBy 53 = .ok (.iload_n 3, 1) := by decide +kernel
theorem dX1_costBy_54 : decode cX1_costBy 54 = .ok (.iload 4, 2) := by decide +kernel
theorem dX1_costBy_56 : decode cX1_costBy 56 = .ok (.invokestatic 42, 3) := by decide +kernel
theorem dX1_costBy_59 : decode cX1_costBy 59 = .ok (.istore 9, 2) := by decide +kernel
theorem dX1_costBy_61 : decode cX1_costBy 61 = .ok (.iload 5, 2) := by decide +kernel
theorem dX1_costBy_63 : decode cX1_costBy 63 = .ok (.aload_n 0, 1) := by decide +kernel
theorem dX1_costBy_64 : decode cX1_costBy 64 = .ok (.getfield 46, 3) := by decide +kernel
theorem dX1_costBy_67 : decode cX1_costBy 67 = .ok (.iload 7, 2) := by decide +kernel
theorem dX1_costBy_69 : decode cX1_costBy 69 = .ok (.iload 8, 2) := by decide +kernel
theorem dX1_costBy_71 : decode cX1_costBy 71 = .ok (.invokevirtual 49, 3) := by decide +kernel
theorem dX1_costBy_74 : decode cX1_costBy 74 = .ok (.iload 9, 2) := by decide +kernel
theorem dX1_costBy_76 : decode cX1_costBy 76 = .ok (.isub, 1) := by decide +kernel
theorem dX1_costBy_77 : decode cX1_costBy 77 = .ok (.invokestatic 55, 3) := by decide +kernel
theorem dX1_costBy_80 : decode cX1_costBy 80 = .ok (.iadd, 1) := by decide +kernel
theorem dX1_costBy_81 : decode cX1_costBy 81 = .ok (.istore 5, 2) := by decide +kernel
theorem dX1_costBy_83 : decode cX1_costBy 83 = .ok (.iinc 6 1, 3) := by decide +kernel
theorem dX1_costBy_86 : decode cX1_costBy 86 = .ok (.goto (-80), 3) := by decide +kernel
theorem dX1_costBy_89 : decode cX1_costBy 89 = .ok (.iload 5, 2) := by decide +kernel
theorem dX1_costBy_91 : decode cX1_costBy 91 = .ok (.ireturn, 1) := by decide +kernel
theorem dX1_between_0 : decode cX1_between 0 = .ok (.aload_n 0, 1) := by decide +kernel
theorem dX1_between_1 : decode cX1_between 1 = .ok (.iload_n 1, 1) := by decide +kernel
theorem dX1_between_2 : decode cX1_between 2 = .ok (.iload_n 2, 1) := by decide +kernel
theorem dX1_between_3 : decode cX1_between 3 = .ok (.invokevirtual 49, 3) := by decide +kernel
theorem dX1_between_6 : decode cX1_between 6 = .ok (.istore 5, 2) := by decide +kernel
theorem dX1_between_8 : decode cX1_between 8 = .ok (.iload_n 3, 1) := by decide +kernel
theorem dX1_between_9 : decode cX1_between 9 = .ok (.ifCond .ne 11, 3) := by decide +kernel
theorem dX1_between_12 : decode cX1_between 12 = .ok (.iload 4, 2) := by decide +kernel
theorem dX1_between_14 : decode cX1_between 14 = .ok (.ifCond .ne 6, 3) := by decide +kernel
theorem dX1_between_17 : decode cX1_between 17 = .ok (.iload 5, 2) := by decide +kernel
theorem dX1_between_19 : decode cX1_between 19 = .ok (.ireturn, 1) := by decide +kernel
theorem dX1_between_20 : decode cX1_between 20 = .ok (.iload_n 3, 1) := by decide +kernel
theorem dX1_between_21 : decode cX1_between 21 = .ok (.ifCond .eq 8, 3) := by decide +kernel
theorem dX1_between_24 : decode cX1_between 24 = .ok (.iload 4, 2) := by decide +kernel
theorem dX1_between_26 : decode cX1_between 26 = .ok (.ifCond .ne 20, 3) := by decide +kernel
theorem dX1_between_29 : decode cX1_between 29 = .ok (.iload 5, 2) := by decide +kernel
theorem dX1_between_31 : decode cX1_between 31 = .ok (.aload_n 0, 1) := by decide +kernel
theorem dX1_between_32 : decode cX1_between 32 = .ok (.iload_n 1, 1) := by decide +kernel
theorem dX1_between_33 : decode cX1_between 33 = .ok (.iload_n 3, 1) := by decide +kernel
theorem dX1_between_34 : decode cX1_between 34 = .ok (.iadd, 1) := by decide +kernel
theorem dX1_between_35 : decode cX1_between 35 = .ok (.iload_n 2, 1) := by decide +kernel
theorem dX1_between_36 : decode cX1_between 36 = .ok (.iload 4, 2) := by decide +kernel
theorem dX1_between_38 : decode cX1_between 38 = .ok (.iadd, 1) := by decide +kernel
theorem dX1_between_39 : decode cX1_between 39 = .ok (.invokevirtual 49, 3) := by decide +kernel
theorem dX1_between_42 : decode cX1_between 42 = .ok (.iadd, 1) := by decide +kernel
theorem dX1_between_43 : decode cX1_between 43 = .ok (.iconst 2, 1) := by decide +kernel
theorem dX1_between_44 : decode cX1_between 44 = .ok (.idiv, 1) := by decide +kernel
theorem dX1_between_45 : decode cX1_between 45 = .ok (.ireturn, 1) := by decide +kernel
theorem dX1_between_46 : decode cX1_between 46 = .ok (.iload 5, 2) := by decide +kernel
theorem dX1_between_48 : decode cX1_between 48 = .ok (.aload_n 0, 1) := by decide +kernel
theorem dX1_between_49 : decode cX1_between 49 = .ok (.iload_n 1, 1) := by decide +kernel
theorem dX1_between_50 : decode cX1_between 50 = .ok (.iload_n 3, 1) := by decide +kernel
theorem dX1_between_51 : decode cX1_between 51 = .ok (.iadd, 1) := by decide +kernel
theorem dX1_between_52 : decode cX1_between 52 = .ok (.iload_n 2, 1) := by decide +kernel
theorem dX1_between_53 : decode cX1_between 53 = .ok (.invokevirtual 49, 3) := by decide +kernel
theorem dX1_between_56 : decode cX1_between 56 = .ok (.iadd, 1) := by decide +kernel
theorem dX1_between_57 : decode cX1_between 57 = .ok (.aload_n 0, 1) := by decide +kernel
theorem dX1_between_58 : decode cX1_between 58 = .ok (.iload_n 1, 1) := by decide +kernel
theorem dX1_between_59 : decode cX1_between 59 = .ok (.iload_n 2, 1) := by decide +kernel
theorem dX1_between_60 : decode cX1_between 60 = .ok (.iload 4, 2) := by decide +kernel
theorem dX1_between_62 : decode cX1_between 62 = .ok (.iadd, 1) := by decide +kernel
theorem dX1_between_63 : decode cX1_between 63 = .ok (.invokevirtual 49, 3) := by decide +kernel
theorem dX1_between_66 : decode cX1_between 66 = .ok (.iadd, 1) := by decide +kernel
theorem dX1_between_67 : decode cX1_between 67 = .ok (.aload_n 0, 1) := by decide +kernel
theorem dX1_between_68 : decode cX1_between 68 = .ok (.iload_n 1, 1) := by decide +kernel
theorem dX1_between_69 : decode cX1_between 69 = .ok (.iload_n 3, 1) := by decide +kernel
theorem dX1_between_70 : decode cX1_between 70 = .ok (.iadd, 1) := by decide +kernel
theorem dX1_between_71 : decode cX1_between 71 = .ok (.iload_n 2, 1) := by decide +kernel
theorem dX1_between_72 : decode cX1_between 72 = .ok (.iload 4, 2) := by decide +kernel
theorem dX1_between_74 : decode cX1_between 74 = .ok (.iadd, 1) := by decide +kernel
theorem dX1_between_75 : decode cX1_between 75 = .ok (.invokevirtual 49, 3) := by decide +kernel
theorem dX1_between_78 : decode cX1_between 78 = .ok (.iadd, 1) := by decide +kernel
theorem dX1_between_79 : decode cX1_between 79 = .ok (.iconst 4, 1) := by decide +kernel
theorem dX1_between_80 : decode cX1_between 80 = .ok (.idiv, 1) := by decide +kernel
theorem dX1_between_81 : decode cX1_between 81 = .ok (.ireturn, 1) := by decide +kernel
theorem dX2_init_0 : decode cX2_init 0 = .ok (.aload_n 0, 1) := by decide +kernel
theorem dX2_init_1 : decode cX2_init 1 = .ok (.invokespecial 3, 3) := by decide +kernel
theorem dX2_init_4 : decode cX2_init 4 = .ok (.aload_n 0, 1) := by decide +kernel
theorem dX2_init_5 : decode cX2_init 5 = .ok (.bipush 96, 2) := by decide +kernel
theorem dX2_init_7 : decode cX2_init 7 = .ok (.newarray .int, 2) := by decide +kernel
theorem dX2_init_9 : decode cX2_init 9 = .ok (.putfield 9, 3) := by decide +kernel
theorem dX2_init_12 : decode cX2_init 12 = .ok (.return_, 1) := by decide +kernel
theorem dX2_at_0 : decode cX2_at 0 = .ok (.iconst 0, 1) := by decide +kernel
theorem dX2_at_1 : decode cX2_at 1 = .ok (.bipush 11, 2) := by decide +kernel
theorem dX2_at_3 : decode cX2_at 3 = .ok (.iload_n 1, 1) := by decide +kernel
theorem dX2_at_4 : decode cX2_at 4 = .ok (.invokestatic 15, 3) := by decide +kernel
theorem dX2_at_7 : decode cX2_at 7 = .ok (.invokestatic 21, 3) := by decide +kernel
theorem dX2_at_10 : decode cX2_at 10 = .ok (.istore_n 3, 1) := by decide +kernel
theorem dX2_at_11 : decode cX2_at 11 = .ok (.iconst 0, 1) := by decide +kernel
theorem dX2_at_12 : decode cX2_at 12 = .ok (.bipush 7, 2) := by decide +kernel
theorem dX2_at_14 : decode cX2_at 14 = .ok (.iload_n 2, 1) := by decide +kernel
theorem dX2_at_15 : decode cX2_at 15 = .ok (.invokestatic 15, 3) := by decide +kernel
theorem dX2_at_18 : decode cX2_at 18 = .ok (.invokestatic 21, 3) := by decide +kernel
theorem dX2_at_21 : decode cX2_at 21 = .ok (.istore 4, 2) := by decide +kernel
theorem dX2_at_23 : decode cX2_at 23 = .ok (.aload_n 0, 1) := by decide +kernel
theorem dX2_at_24 : decode cX2_at 24 = .ok (.getfield 9, 3) := by decide +kernel
theorem dX2_at_27 : decode cX2_at 27 = .ok (.iload 4, 2) := by decide +kernel
theorem dX2_at_29 : decode cX2_at 29 = .ok (.bipush 12, 2) := by decide +kernel
theorem dX2_at_31 : decode cX2_at 31 = .ok (.imul, 1) := by decide +kernel
theorem dX2_at_32 : decode cX2_at 32 = .ok (.iload_n 3, 1) := by decide +kernel
theorem dX2_at_33 : decode cX2_at 33 = .ok (.iadd, 1) := by decide +kernel
theorem dX2_at_34 : decode cX2_at 34 = .ok (.iaload, 1) := by decide +kernel
theorem dX2_at_35 : decode cX2_at 35 = .ok (.ireturn, 1) := by decide +kernel
theorem dX2_halfAt_0 : decode cX2_halfAt 0 = .ok (.iconst 2, 1) := by decide +kernel
theorem dX2_halfAt_1 : decode cX2_halfAt 1 = .ok (.iconst 0, 1) := by decide +kernel
theorem dX2_halfAt_2 : decode cX2_halfAt 2 = .ok (.iconst 5, 1) := by decide +kernel
theorem dX2_halfAt_3 : decode cX2_halfAt 3 = .ok (.iload_n 1, 1) := by decide +kernel
theorem dX2_halfAt_4 : decode cX2_halfAt 4 = .ok (.invokestatic 15, 3) := by decide +kernel
theorem dX2_halfAt_7 : decode cX2_halfAt 7 = .ok (.invokestatic 21, 3) := by decide +kernel
theorem dX2_halfAt_10 : decode cX2_halfAt 10 = .ok (.imul, 1) := by decide +kernel
theorem dX2_halfAt_11 : decode cX2_halfAt 11 = .ok (.istore_n 3, 1) := by decide +kernel
theorem dX2_halfAt_12 : decode cX2_halfAt 12 = .ok (.iconst 2, 1) := by decide +kernel
theorem dX2_halfAt_13 : decode cX2_halfAt 13 = .ok (.iconst 0, 1) := by decide +kernel
theorem dX2_halfAt_14 : decode cX2_halfAt 14 = .ok (.iconst 3, 1) := by decide +kernel
theorem dX2_halfAt_15 : decode cX2_halfAt 15 = .ok (.iload_n 2, 1) := by decide +kernel
theorem dX2_halfAt_16 : decode cX2_halfAt 16 = .ok (.invokestatic 15, 3) := by decide +kernel
theorem dX2_halfAt_19 : decode cX2_halfAt 19 = .ok (.invokestatic 21, 3) := by decide +kernel
theorem dX2_halfAt_22 : decode cX2_halfAt 22 = .ok (.imul, 1) := by decide +kernel
theorem dX2_halfAt_23 : decode cX2_halfAt 23 = .ok (.istore 4, 2) := by decide +kernel
theorem dX2_halfAt_25 : decode cX2_halfAt 25 = .ok (.iload 4, 2) := by decide +kernel
theorem dX2_halfAt_27 : decode cX2_halfAt 27 = .ok (.bipush 12, 2) := by decide +kernel
theorem dX2_halfAt_29 : decode cX2_halfAt 29 = .ok (.imul, 1) := by decide +kernel
theorem dX2_halfAt_30 : decode cX2_halfAt 30 = .ok (.iload_n 3, 1) := by decide +kernel
theorem dX2_halfAt_31 : decode cX2_halfAt 31 = .ok (.iadd, 1) := by decide +kernel
theorem dX2_halfAt_32 : decode cX2_halfAt 32 = .ok (.istore 5, 2) := by decide +kernel
theorem dX2_halfAt_34 : decode cX2_halfAt 34 = .ok (.aload_n 0, 1) := by decide +kernel
theorem dX2_halfAt_35 : decode cX2_halfAt 35 = .ok (.getfield 9, 3) := by decide +kernel
theorem dX2_halfAt_38 : decode cX2_halfAt 38 = .ok (.iload 5, 2) := by decide +kernel
theorem dX2_halfAt_40 : decode cX2_halfAt 40 = .ok (.iaload, 1) := by decide +kernel
theorem dX2_halfAt_41 : decode cX2_halfAt 41 = .ok (.aload_n 0, 1) := by decide +kernel
theorem dX2_halfAt_42 : decode cX2_halfAt 42 = .ok (.getfield 9, 3) := by decide +kernel
theorem dX2_halfAt_45 : decode cX2_halfAt 45 = .ok (.iload 5, 2) := by decide +kernel
theorem dX2_halfAt_47 : decode cX2_halfAt 47 = .ok (.iconst 1, 1) := by decide +kernel
theorem dX2_halfAt_48 : decode cX2_halfAt 48 = .ok (.iadd, 1) := by decide +kernel
theorem dX2_halfAt_49 : decode cX2_halfAt 49 = .ok (.iaload, 1) := by decide +kernel
theorem dX2_halfAt_50 : decode cX2_halfAt 50 = .ok (.iadd, 1) := by decide +kernel
theorem dX2_halfAt_51 : decode cX2_halfAt 51 = .ok (.aload_n 0, 1) := by decide +kernel
theorem dX2_halfAt_52 : decode cX2_halfAt 52 = .ok (.getfield 9, 3) := by decide +kernel
theorem dX2_halfAt_55 : decode cX2_halfAt 55 = .ok (.iload 5, 2) := by decide +kernel
theorem dX2_halfAt_57 : decode cX2_halfAt 57 = .ok (.bipush 12, 2) := by decide +kernel
theorem dX2_halfAt_59 : decode cX2_halfAt 59 = .ok (.iadd, 1) := by decide +kernel
theorem dX2_halfAt_60 : decode cX2_halfAt 60 = .ok (.iaload, 1) := by decide +kernel
theorem dX2_halfAt_61 : decode cX2_halfAt 61 = .ok (.iadd, 1) := by decide +kernel
theorem dX2_halfAt_62 : decode cX2_halfAt 62 = .ok (.aload_n 0, 1) := by decide +kernel
theorem dX2_halfAt_63 : decode cX2_halfAt 63 = .ok (.getfield 9, 3) := by decide +kernel
theorem dX2_halfAt_66 : decode cX2_halfAt 66 = .ok (.iload 5, 2) := by decide +kernel
theorem dX2_halfAt_68 : decode cX2_halfAt 68 = .ok (.bipush 12, 2) := by decide +kernel
theorem dX2_halfAt_70 : decode cX2_halfAt 70 = .ok (.iadd, 1) := by decide +kernel
theorem dX2_halfAt_71 : decode cX2_halfAt 71 = .ok (.iconst 1, 1) := by decide +kernel
theorem dX2_halfAt_72 : decode cX2_halfAt 72 = .ok (.iadd, 1) := by decide +kernel
theorem dX2_halfAt_73 : decode cX2_halfAt 73 = .ok (.iaload, 1) := by decide +kernel
theorem dX2_halfAt_74 : decode cX2_halfAt 74 = .ok (.iadd, 1) := by decide +kernel
theorem dX2_halfAt_75 : decode cX2_halfAt 75 = .ok (.iconst 4, 1) := by decide +kernel
theorem dX2_halfAt_76 : decode cX2_halfAt 76 = .ok (.idiv, 1) := by decide +kernel
theorem dX2_halfAt_77 : decode cX2_halfAt 77 = .ok (.ireturn, 1) := by decide +kernel
theorem dX2_othersThan_0 : decode cX2_othersThan 0 = .ok (.iconst 0, 1) := by decide +kernel
theorem dX2_othersThan_1 : decode cX2_othersThan 1 = .ok (.istore_n 2, 1) := by decide +kernel
theorem dX2_othersThan_2 : decode cX2_othersThan 2 = .ok (.iconst 0, 1) := by decide +kernel
theorem dX2_othersThan_3 : decode cX2_othersThan 3 = .ok (.istore_n 3, 1) := by decide +kernel
theorem dX2_othersThan_4 : decode cX2_othersThan 4 = .ok (.iload_n 3, 1) := by decide +kernel
theorem dX2_othersThan_5 : decode cX2_othersThan 5 = .ok (.bipush 96, 2) := by decide +kernel
theorem dX2_othersThan_7 : decode cX2_othersThan 7 = .ok (.if_icmp .ge 27, 3) := by decide +kernel
theorem dX2_othersThan_10 : decode cX2_othersThan 10 = .ok (.aload_n 0, 1) := by decide +kernel
theorem dX2_othersThan_11 : decode cX2_othersThan 11 = .ok (.getfield 9, 3) := by decide +kernel
theorem dX2_othersThan_14 : decode cX2_othersThan 14 = .ok (.iload_n 3, 1) := by decide +kernel
theorem dX2_othersThan_15 : decode cX2_othersThan 15 = .ok (.iaload, 1) := by decide +kernel
theorem dX2_othersThan_16 : decode cX2_othersThan 16 = .ok (.aload_n 1, 1) := by decide +kernel
theorem dX2_othersThan_17 : decode cX2_othersThan 17 = .ok (.getfield 9, 3) := by decide +kernel
theorem dX2_othersThan_20 : decode cX2_othersThan 20 = .ok (.iload_n 3, 1) := by decide +kernel
theorem dX2_othersThan_21 : decode cX2_othersThan 21 = .ok (.iaload, 1) := by decide +kernel
theorem dX2_othersThan_22 : decode cX2_othersThan 22 = .ok (.if_icmp .eq 6, 3) := by decide +kernel
theorem dX2_othersThan_25 : decode cX2_othersThan 25 = .ok (.iinc 2 1, 3) := by decide +kernel
theorem dX2_othersThan_28 : decode cX2_othersThan 28 = .ok (.iinc 3 1, 3) := by decide +kernel
theorem dX2_othersThan_31 : decode cX2_othersThan 31 = .ok (.goto (-27), 3) := by decide +kernel
theorem dX2_othersThan_34 : decode cX2_othersThan 34 = .ok (.iload_n 2, 1) := by decide +kernel
theorem dX2_othersThan_35 : decode cX2_othersThan 35 = .ok (.ireturn, 1) := by decide +kernel
theorem dX2_become_0 : decode cX2_become 0 = .ok (.aload_n 1, 1) := by decide +kernel
theorem dX2_become_1 : decode cX2_become 1 = .ok (.iconst 0, 1) := by decide +kernel
theorem dX2_become_2 : decode cX2_become 2 = .ok (.aload_n 0, 1) := by decide +kernel
theorem dX2_become_3 : decode cX2_become 3 = .ok (.getfield 9, 3) := by decide +kernel
theorem dX2_become_6 : decode cX2_become 6 = .ok (.iconst 0, 1) := by decide +kernel
theorem dX2_become_7 : decode cX2_become 7 = .ok (.bipush 96, 2) := by decide +kernel
theorem dX2_become_9 : decode cX2_become 9 = .ok (.invokestatic 24, 3) := by decide +kernel
theorem dX2_become_12 : decode cX2_become 12 = .ok (.return_, 1) := by decide +kernel
theorem dX3_init_0 : decode cX3_init 0 = .ok (.aload_n 0, 1) := by decide +kernel
theorem dX3_init_1 : decode cX3_init 1 = .ok (.invokespecial 3, 3) := by decide +kernel
theorem dX3_init_4 : decode cX3_init 4 = .ok (.aload_n 0, 1) := by decide +kernel
theorem dX3_init_5 : decode cX3_init 5 = .ok (.new 9, 3) := by decide +kernel
theorem dX3_init_8 : decode cX3_init 8 = .ok (.dup, 1) := by decide +kernel
theorem dX3_init_9 : decode cX3_init 9 = .ok (.invokespecial 11, 3) := by decide +kernel
theorem dX3_init_12 : decode cX3_init 12 = .ok (.putfield 12, 3) := by decide +kernel
theorem dX3_init_15 : decode cX3_init 15 = .ok (.aload_n 0, 1) := by decide +kernel
theorem dX3_init_16 : decode cX3_init 16 = .ok (.new 9, 3) := by decide +kernel
theorem dX3_init_19 : decode cX3_init 19 = .ok (.dup, 1) := by decide +kernel
theorem dX3_init_20 : decode cX3_init 20 = .ok (.invokespecial 11, 3) := by decide +kernel
theorem dX3_init_23 : decode cX3_init 23 = .ok (.putfield 18, 3) := by decide +kernel
theorem dX3_init_26 : decode cX3_init 26 = .ok (.aload_n 0, 1) := by decide +kernel
theorem dX3_init_27 : decode cX3_init 27 = .ok (.iconst 0, 1) := by decide +kernel
theorem dX3_init_28 : decode cX3_init 28 = .ok (.putfield 21, 3) := by decide +kernel
theorem dX3_init_31 : decode cX3_init 31 = .ok (.aload_n 0, 1) := by decide +kernel
theorem dX3_init_32 : decode cX3_init 32 = .ok (.iconst 1, 1) := by decide +kernel
theorem dX3_init_33 : decode cX3_init 33 = .ok (.putfield 25, 3) := by decide +kernel
theorem dX3_init_36 : decode cX3_init 36 = .ok (.return_, 1) := by decide +kernel
theorem dX3_become_0 : decode cX3_become 0 = .ok (.aload_n 0, 1) := by decide +kernel
theorem dX3_become_1 : decode cX3_become 1 = .ok (.getfield 12, 3) := by decide +kernel
theorem dX3_become_4 : decode cX3_become 4 = .ok (.aload_n 1, 1) := by decide +kernel
theorem dX3_become_5 : decode cX3_become 5 = .ok (.getfield 12, 3) := by decide +kernel
theorem dX3_become_8 : decode cX3_become 8 = .ok (.getfield 28, 3) := by decide +kernel
theorem dX3_become_11 : decode cX3_become 11 = .ok (.invokevirtual 32, 3) := by decide +kernel
theorem dX3_become_14 : decode cX3_become 14 = .ok (.aload_n 0, 1) := by decide +kernel
theorem dX3_become_15 : decode cX3_become 15 = .ok (.getfield 18, 3) := by decide +kernel
theorem dX3_become_18 : decode cX3_become 18 = .ok (.aload_n 1, 1) := by decide +kernel
theorem dX3_become_19 : decode cX3_become 19 = .ok (.getfield 18, 3) := by decide +kernel
theorem dX3_become_22 : decode cX3_become 22 = .ok (.getfield 28, 3) := by decide +kernel
theorem dX3_become_25 : decode cX3_become 25 = .ok (.invokevirtual 32, 3) := by decide +kernel
theorem dX3_become_28 : decode cX3_become 28 = .ok (.aload_n 0, 1) := by decide +kernel
theorem dX3_become_29 : decode cX3_become 29 = .ok (.aload_n 1, 1) := by decide +kernel
theorem dX3_become_30 : decode cX3_become 30 = .ok (.getfield 21, 3) := by decide +kernel
theorem dX3_become_33 : decode cX3_become 33 = .ok (.putfield 21, 3) := by decide +kernel
theorem dX3_become_36 : decode cX3_become 36 = .ok (.aload_n 0, 1) := by decide +kernel
theorem dX3_become_37 : decode cX3_become 37 = .ok (.aload_n 1, 1) := by decide +kernel
theorem dX3_become_38 : decode cX3_become 38 = .ok (.getfield 25, 3) := by decide +kernel
theorem dX3_become_41 : decode cX3_become 41 = .ok (.putfield 25, 3) := by decide +kernel
theorem dX3_become_44 : decode cX3_become 44 = .ok (.return_, 1) := by decide +kernel
theorem dX3_turn_0 : decode cX3_turn 0 = .ok (.aload_n 0, 1) := by decide +kernel
theorem dX3_turn_1 : decode cX3_turn 1 = .ok (.aload_n 0, 1) := by decide +kernel
theorem dX3_turn_2 : decode cX3_turn 2 = .ok (.getfield 25, 3) := by decide +kernel
theorem dX3_turn_5 : decode cX3_turn 5 = .ok (.ldc 36, 2) := by decide +kernel
theorem dX3_turn_7 : decode cX3_turn 7 = .ok (.imul, 1) := by decide +kernel
theorem dX3_turn_8 : decode cX3_turn 8 = .ok (.sipush 12345, 3) := by decide +kernel
theorem dX3_turn_11 : decode cX3_turn 11 = .ok (.iadd, 1) := by decide +kernel
theorem dX3_turn_12 : decode cX3_turn 12 = .ok (.ldc 37, 2) := by decide +kernel
theorem dX3_turn_14 : decode cX3_turn 14 = .ok (.iand, 1) := by decide +kernel
theorem dX3_turn_15 : decode cX3_turn 15 = .ok (.putfield 25, 3) := by decide +kernel
theorem dX3_turn_18 : decode cX3_turn 18 = .ok (.aload_n 0, 1) := by decide +kernel
theorem dX3_turn_19 : decode cX3_turn 19 = .ok (.getfield 25, 3) := by decide +kernel
theorem dX3_turn_22 : decode cX3_turn 22 = .ok (.ldc 38, 2) := by decide +kernel
theorem dX3_turn_24 : decode cX3_turn 24 = .ok (.idiv, 1) := by decide +kernel
theorem dX3_turn_25 : decode cX3_turn 25 = .ok (.istore_n 1, 1) := by decide +kernel
theorem dX3_turn_26 : decode cX3_turn 26 = .ok (.aload_n 0, 1) := by decide +kernel
theorem dX3_turn_27 : decode cX3_turn 27 = .ok (.getfield 18, 3) := by decide +kernel
theorem dX3_turn_30 : decode cX3_turn 30 = .ok (.getfield 28, 3) := by decide +kernel
theorem dX3_turn_33 : decode cX3_turn 33 = .ok (.iload_n 1, 1) := by decide +kernel
theorem dX3_turn_34 : decode cX3_turn 34 = .ok (.bipush 96, 2) := by decide +kernel
theorem dX3_turn_36 : decode cX3_turn 36 = .ok (.irem, 1) := by decide +kernel
theorem dX3_turn_37 : decode cX3_turn 37 = .ok (.iload_n 1, 1) := by decide +kernel
theorem dX3_turn_38 : decode cX3_turn 38 = .ok (.bipush 96, 2) := by decide +kernel
theorem dX3_turn_40 : decode cX3_turn 40 = .ok (.idiv, 1) := by decide +kernel
theorem dX3_turn_41 : decode cX3_turn 41 = .ok (.bipush 10, 2) := by decide +kernel
theorem dX3_turn_43 : decode cX3_turn 43 = .ok (.irem, 1) := by decide +kernel
theorem dX3_turn_44 : decode cX3_turn 44 = .ok (.iastore, 1) := by decide +kernel
theorem dX3_turn_45 : decode cX3_turn 45 = .ok (.return_, 1) := by decide +kernel
theorem dX4_init_0 : decode cX4_init 0 = .ok (.aload_n 0, 1) := by decide +kernel
theorem dX4_init_1 : decode cX4_init 1 = .ok (.invokespecial 3, 3) := by decide +kernel
theorem dX4_init_4 : decode cX4_init 4 = .ok (.aload_n 0, 1) := by decide +kernel
theorem dX4_init_5 : decode cX4_init 5 = .ok (.bipush 24, 2) := by decide +kernel
theorem dX4_init_7 : decode cX4_init 7 = .ok (.putfield 9, 3) := by decide +kernel
theorem dX4_init_10 : decode cX4_init 10 = .ok (.aload_n 0, 1) := by decide +kernel
theorem dX4_init_11 : decode cX4_init 11 = .ok (.iconst 0, 1) := by decide +kernel
theorem dX4_init_12 : decode cX4_init 12 = .ok (.putfield 15, 3) := by decide +kernel
theorem dX4_init_15 : decode cX4_init 15 = .ok (.aload_n 0, 1) := by decide +kernel
theorem dX4_init_16 : decode cX4_init 16 = .ok (.iconst 0, 1) := by decide +kernel
theorem dX4_init_17 : decode cX4_init 17 = .ok (.putfield 18, 3) := by decide +kernel
theorem dX4_init_20 : decode cX4_init 20 = .ok (.aload_n 0, 1) := by decide +kernel
theorem dX4_init_21 : decode cX4_init 21 = .ok (.iconst 0, 1) := by decide +kernel
theorem dX4_init_22 : decode cX4_init 22 = .ok (.putfield 21, 3) := by decide +kernel
theorem dX4_init_25 : decode cX4_init 25 = .ok (.return_, 1) := by decide +kernel
theorem dX4_best_0 : decode cX4_best 0 = .ok (.aload_n 0, 1) := by decide +kernel
theorem dX4_best_1 : decode cX4_best 1 = .ok (.aload_n 1, 1) := by decide +kernel
theorem dX4_best_2 : decode cX4_best 2 = .ok (.iload_n 2, 1) := by decide +kernel
theorem dX4_best_3 : decode cX4_best 3 = .ok (.bipush 24, 2) := by decide +kernel
theorem dX4_best_5 : decode cX4_best 5 = .ok (.iconst 3, 1) := by decide +kernel
theorem dX4_best_6 : decode cX4_best 6 = .ok (.iconst 0, 1) := by decide +kernel
theorem dX4_best_7 : decode cX4_best 7 = .ok (.invokevirtual 24, 3) := by decide +kernel
theorem dX4_best_10 : decode cX4_best 10 = .ok (.return_, 1) := by decide +kernel
theorem dX4_skim_0 : decode cX4_skim 0 = .ok (.aload_n 0, 1) := by decide +kernel
theorem dX4_skim_1 : decode cX4_skim 1 = .ok (.aload_n 1, 1) := by decide +kernel
theorem dX4_skim_2 : decode cX4_skim 2 = .ok (.iload_n 2, 1) := by decide +kernel
theorem dX4_skim_3 : decode cX4_skim 3 = .ok (.bipush 24, 2) := by decide +kernel
theorem dX4_skim_5 : decode cX4_skim 5 = .ok (.iconst 3, 1) := by decide +kernel
theorem dX4_skim_6 : decode cX4_skim 6 = .ok (.iconst 1, 1) := by decide +kernel
theorem dX4_skim_7 : decode cX4_skim 7 = .ok (.invokevirtual 24, 3) := by decide +kernel
theorem dX4_skim_10 : decode cX4_skim 10 = .ok (.return_, 1) := by decide +kernel
theorem dX4_quick_0 : decode cX4_quick 0 = .ok (.aload_n 1, 1) := by decide +kernel
theorem dX4_quick_1 : decode cX4_quick 1 = .ok (.iload_n 2, 1) := by decide +kernel
theorem dX4_quick_2 : decode cX4_quick 2 = .ok (.invokestatic 28, 3) := by decide +kernel
theorem dX4_quick_5 : decode cX4_quick 5 = .ok (.istore_n 3, 1) := by decide +kernel
theorem dX4_quick_6 : decode cX4_quick 6 = .ok (.aload_n 0, 1) := by decide +kernel
theorem dX4_quick_7 : decode cX4_quick 7 = .ok (.aload_n 1, 1) := by decide +kernel
theorem dX4_quick_8 : decode cX4_quick 8 = .ok (.iload_n 2, 1) := by decide +kernel
theorem dX4_quick_9 : decode cX4_quick 9 = .ok (.iconst 2, 1) := by decide +kernel
theorem dX4_quick_10 : decode cX4_quick 10 = .ok (.iload_n 3, 1) := by decide +kernel
theorem dX4_quick_11 : decode cX4_quick 11 = .ok (.invokestatic 32, 3) := by decide +kernel
theorem dX4_quick_14 : decode cX4_quick 14 = .ok (.imul, 1) := by decide +kernel
theorem dX4_quick_15 : decode cX4_quick 15 = .ok (.iconst 2, 1) := by decide +kernel
theorem dX4_quick_16 : decode cX4_quick 16 = .ok (.iload_n 3, 1) := by decide +kernel
theorem dX4_quick_17 : decode cX4_quick 17 = .ok (.invokestatic 36, 3) := by decide +kernel
theorem dX4_quick_20 : decode cX4_quick 20 = .ok (.imul, 1) := by decide +kernel
theorem dX4_quick_21 : decode cX4_quick 21 = .ok (.invokestatic 39, 3) := by decide +kernel
theorem dX4_quick_24 : decode cX4_quick 24 = .ok (.iconst 1, 1) := by decide +kernel
theorem dX4_quick_25 : decode cX4_quick 25 = .ok (.iconst 0, 1) := by decide +kernel
theorem dX4_quick_26 : decode cX4_quick 26 = .ok (.invokevirtual 24, 3) := by decide +kernel
theorem dX4_quick_29 : decode cX4_quick 29 = .ok (.return_, 1) := by decide +kernel
theorem dX4_pan_0 : decode cX4_pan 0 = .ok (.aload_n 0, 1) := by decide +kernel
theorem dX4_pan_1 : decode cX4_pan 1 = .ok (.ldc 43, 2) := by decide +kernel
theorem dX4_pan_3 : decode cX4_pan 3 = .ok (.putfield 15, 3) := by decide +kernel
theorem dX4_pan_6 : decode cX4_pan 6 = .ok (.iconst 0, 1) := by decide +kernel
theorem dX4_pan_7 : decode cX4_pan 7 = .ok (.istore_n 2, 1) := by decide +kernel
theorem dX4_pan_8 : decode cX4_pan 8 = .ok (.iload_n 2, 1) := by decide +kernel
theorem dX4_pan_9 : decode cX4_pan 9 = .ok (.bipush 49, 2) := by decide +kernel
theorem dX4_pan_11 : decode cX4_pan 11 = .ok (.if_icmp .ge 64, 3) := by decide +kernel
theorem dX4_pan_14 : decode cX4_pan 14 = .ok (.iconst 0, 1) := by decide +kernel
theorem dX4_pan_15 : decode cX4_pan 15 = .ok (.istore_n 3, 1) := by decide +kernel
theorem dX4_pan_16 : decode cX4_pan 16 = .ok (.iconst 0, 1) := by decide +kernel
theorem dX4_pan_17 : decode cX4_pan 17 = .ok (.istore 4, 2) := by decide +kernel
theorem dX4_pan_19 : decode cX4_pan 19 = .ok (.iload 4, 2) := by decide +kernel
theorem dX4_pan_21 : decode cX4_pan 21 = .ok (.bipush 6, 2) := by decide +kernel
theorem dX4_pan_23 : decode cX4_pan 23 = .ok (.if_icmp .ge 24, 3) := by decide +kernel
theorem dX4_pan_26 : decode cX4_pan 26 = .ok (.iload_n 3, 1) := by decide +kernel
theorem dX4_pan_27 : decode cX4_pan 27 = .ok (.aload_n 0, 1) := by decide +kernel
theorem dX4_pan_28 : decode cX4_pan 28 = .ok (.aload_n 1, 1) := by decide +kernel
theorem dX4_pan_29 : decode cX4_pan 29 = .ok (.iload 4, 2) := by decide +kernel
theorem dX4_pan_31 : decode cX4_pan 31 = .ok (.getstatic 44, 3) := by decide +kernel
theorem dX4_pan_34 : decode cX4_pan 34 = .ok (.iload_n 2, 1) := by decide +kernel
theorem dX4_pan_35 : decode cX4_pan 35 = .ok (.iaload, 1) := by decide +kernel
theorem dX4_pan_36 : decode cX4_pan 36 = .ok (.invokevirtual 48, 3) := by decide +kernel
theorem dX4_pan_39 : decode cX4_pan 39 = .ok (.iadd, 1) := by decide +kernel
theorem dX4_pan_40 : decode cX4_pan 40 = .ok (.istore_n 3, 1) := by decide +kernel
theorem dX4_pan_41 : decode cX4_pan 41 = .ok (.iinc 4 1, 3) := by decide +kernel
theorem dX4_pan_44 : decode cX4_pan 44 = .ok (.goto (-25), 3) := by decide +kernel
theorem dX4_pan_47 : decode cX4_pan 47 = .ok (.iload_n 3, 1) := by decide +kernel
theorem dX4_pan_48 : decode cX4_pan 48 = .ok (.aload_n 0, 1) := by decide +kernel
theorem dX4_pan_49 : decode cX4_pan 49 = .ok (.getfield 15, 3) := by decide +kernel
theorem dX4_pan_52 : decode cX4_pan 52 = .ok (.if_icmp .ge 17, 3) := by decide +kernel
theorem dX4_pan_55 : decode cX4_pan 55 = .ok (.aload_n 0, 1) := by decide +kernel
theorem dX4_pan_56 : decode cX4_pan 56 = .ok (.iload_n 3, 1) := by decide +kernel
theorem dX4_pan_57 : decode cX4_pan 57 = .ok (.putfield 15, 3) := by decide +kernel
theorem dX4_pan_60 : decode cX4_pan 60 = .ok (.aload_n 0, 1) := by decide +kernel
theorem dX4_pan_61 : decode cX4_pan 61 = .ok (.getstatic 44, 3) := by decide +kernel
theorem dX4_pan_64 : decode cX4_pan 64 = .ok (.iload_n 2, 1) := by decide +kernel
theorem dX4_pan_65 : decode cX4_pan 65 = .ok (.iaload, 1) := by decide +kernel
theorem dX4_pan_66 : decode cX4_pan 66 = .ok (.putfield 9, 3) := by decide +kernel
theorem dX4_pan_69 : decode cX4_pan 69 = .ok (.iinc 2 1, 3) := by decide +kernel
theorem dX4_pan_72 : decode cX4_pan 72 = .ok (.goto (-64), 3) := by decide +kernel
theorem dX4_pan_75 : decode cX4_pan 75 = .ok (.return_, 1) := by decide +kernel
theorem dX4_wholeCost_0 : decode cX4_wholeCost 0 = .ok (.aload_n 0, 1) := by decide +kernel
theorem dX4_wholeCost_1 : decode cX4_wholeCost 1 = .ok (.aload_n 1, 1) := by decide +kernel
theorem dX4_wholeCost_2 : decode cX4_wholeCost 2 = .ok (.iload_n 2, 1) := by decide +kernel
theorem dX4_wholeCost_3 : decode cX4_wholeCost 3 = .ok (.iload_n 3, 1) := by decide +kernel
theorem dX4_wholeCost_4 : decode cX4_wholeCost 4 = .ok (.ldc 43, 2) := by decide +kernel
theorem dX4_wholeCost_6 : decode cX4_wholeCost 6 = .ok (.invokevirtual 52, 3) := by decide +kernel
theorem dX4_wholeCost_9 : decode cX4_wholeCost 9 = .ok (.ireturn, 1) := by decide +kernel
theorem dX4_tryMoves_0 : decode cX4_tryMoves 0 = .ok (.aload_n 0, 1) := by decide +kernel
theorem dX4_tryMoves_1 : decode cX4_tryMoves 1 = .ok (.iload_n 3, 1) := by decide +kernel
theorem dX4_tryMoves_2 : decode cX4_tryMoves 2 = .ok (.putfield 9, 3) := by decide +kernel
theorem dX4_tryMoves_5 : decode cX4_tryMoves 5 = .ok (.aload_n 0, 1) := by decide +kernel
theorem dX4_tryMoves_6 : decode cX4_tryMoves 6 = .ok (.ldc 43, 2) := by decide +kernel
theorem dX4_tryMoves_8 : decode cX4_tryMoves 8 = .ok (.putfield 15, 3) := by decide +kernel
theorem dX4_tryMoves_11 : decode cX4_tryMoves 11 = .ok (.aload_n 0, 1) := by decide +kernel
theorem dX4_tryMoves_12 : decode cX4_tryMoves 12 = .ok (.iconst 0, 1) := by decide +kernel
theorem dX4_tryMoves_13 : decode cX4_tryMoves 13 = .ok (.putfield 18, 3) := by decide +kernel
theorem dX4_tryMoves_16 : decode cX4_tryMoves 16 = .ok (.aload_n 0, 1) := by decide +kernel
theorem dX4_tryMoves_17 : decode cX4_tryMoves 17 = .ok (.iconst 0, 1) := by decide +kernel
theorem dX4_tryMoves_18 : decode cX4_tryMoves 18 = .ok (.putfield 21, 3) := by decide +kernel
theorem dX4_tryMoves_21 : decode cX4_tryMoves 21 = .ok (.iconst 0, 1) := by decide +kernel
theorem dX4_tryMoves_22 : decode cX4_tryMoves 22 = .ok (.istore 6, 2) := by decide +kernel
theorem dX4_tryMoves_24 : decode cX4_tryMoves 24 = .ok (.iload 6, 2) := by decide +kernel
theorem dX4_tryMoves_26 : decode cX4_tryMoves 26 = .ok (.bipush 49, 2) := by decide +kernel
theorem dX4_tryMoves_28 : decode cX4_tryMoves 28 = .ok (.if_icmp .ge 98, 3) := by decide +kernel
theorem dX4_tryMoves_31 : decode cX4_tryMoves 31 = .ok (.getstatic 44, 3) := by decide +kernel
theorem dX4_tryMoves_34 : decode cX4_tryMoves 34 = .ok (.iload 6, 2) := by decide +kernel
theorem dX4_tryMoves_36 : decode cX4_tryMoves 36 = .ok (.iaload, 1) := by decide +kernel
theorem dX4_tryMoves_37 : decode cX4_tryMoves 37 = .ok (.istore 7, 2) := by decide +kernel
theorem dX4_tryMoves_39 : decode cX4_tryMoves 39 = .ok (.iload 7, 2) := by decide +kernel
theorem dX4_tryMoves_41 : decode cX4_tryMoves 41 = .ok (.iload_n 3, 1) := by decide +kernel
theorem dX4_tryMoves_42 : decode cX4_tryMoves 42 = .ok (.iload 4, 2) := by decide +kernel
theorem dX4_tryMoves_44 : decode cX4_tryMoves 44 = .ok (.invokestatic 56, 3) := by decide +kernel
theorem dX4_tryMoves_47 : decode cX4_tryMoves 47 = .ok (.ifCond .ne 6, 3) := by decide +kernel
theorem dX4_tryMoves_50 : decode cX4_tryMoves 50 = .ok (.goto 70, 3) := by decide +kernel
theorem dX4_tryMoves_53 : decode cX4_tryMoves 53 = .ok (.iload 5, 2) := by decide +kernel
theorem dX4_tryMoves_55 : decode cX4_tryMoves 55 = .ok (.ifCond .eq 30, 3) := by decide +kernel
theorem dX4_tryMoves_58 : decode cX4_tryMoves 58 = .ok (.aload_n 1, 1) := by decide +kernel
theorem dX4_tryMoves_59 : decode cX4_tryMoves 59 = .ok (.iload_n 2, 1) := by decide +kernel
theorem dX4_tryMoves_60 : decode cX4_tryMoves 60 = .ok (.iload 7, 2) := by decide +kernel
theorem dX4_tryMoves_62 : decode cX4_tryMoves 62 = .ok (.invokestatic 60, 3) := by decide +kernel
theorem dX4_tryMoves_65 : decode cX4_tryMoves 65 = .ok (.aload_n 0, 1) := by decide +kernel
theorem dX4_tryMoves_66 : decode cX4_tryMoves 66 = .ok (.getfield 15, 3) := by decide +kernel
theorem dX4_tryMoves_69 : decode cX4_tryMoves 69 = .ok (.if_icmp .lt 16, 3) := by decide +kernel
theorem dX4_tryMoves_72 : decode cX4_tryMoves 72 = .ok (.aload_n 0, 1) := by decide +kernel
theorem dX4_tryMoves_73 : decode cX4_tryMoves 73 = .ok (.dup, 1) := by decide +kernel
theorem dX4_tryMoves_74 : decode cX4_tryMoves 74 = .ok (.getfield 21, 3) := by decide +kernel
theorem dX4_tryMoves_77 : decode cX4_tryMoves 77 = .ok (.iconst 1, 1) := by decide +kernel
theorem dX4_tryMoves_78 : decode cX4_tryMoves 78 = .ok (.iadd, 1) := by decide +kernel
theorem dX4_tryMoves_79 : decode cX4_tryMoves 79 = .ok (.putfield 21, 3) := by decide +kernel
theorem dX4_tryMoves_82 : decode cX4_tryMoves 82 = .ok (.goto 38, 3) := by decide +kernel
theorem dX4_tryMoves_85 : decode cX4_tryMoves 85 = .ok (.aload_n 0, 1) := by decide +kernel
theorem dX4_tryMoves_86 : decode cX4_tryMoves 86 = .ok (.aload_n 1, 1) := by decide +kernel
theorem dX4_tryMoves_87 : decode cX4_tryMoves 87 = .ok (.iload_n 2, 1) := by decide +kernel
theorem dX4_tryMoves_88 : decode cX4_tryMoves 88 = .ok (.iload 7, 2) := by decide +kernel
theorem dX4_tryMoves_90 : decode cX4_tryMoves 90 = .ok (.aload_n 0, 1) := by decide +kernel
theorem dX4_tryMoves_91 : decode cX4_tryMoves 91 = .ok (.getfield 15, 3) := by decide +kernel
theorem dX4_tryMoves_94 : decode cX4_tryMoves 94 = .ok (.invokevirtual 52, 3) := by decide +kernel
theorem dX4_tryMoves_97 : decode cX4_tryMoves 97 = .ok (.istore 8, 2) := by decide +kernel
theorem dX4_tryMoves_99 : decode cX4_tryMoves 99 = .ok (.iload 8, 2) := by decide +kernel
theorem dX4_tryMoves_101 : decode cX4_tryMoves 101 = .ok (.aload_n 0, 1) := by decide +kernel
theorem dX4_tryMoves_102 : decode cX4_tryMoves 102 = .ok (.getfield 15, 3) := by decide +kernel
theorem dX4_tryMoves_105 : decode cX4_tryMoves 105 = .ok (.if_icmp .ge 15, 3) := by decide +kernel
theorem dX4_tryMoves_108 : decode cX4_tryMoves 108 = .ok (.aload_n 0, 1) := by decide +kernel
theorem dX4_tryMoves_109 : decode cX4_tryMoves 109 = .ok (.iload 8, 2) := by decide +kernel
theorem dX4_tryMoves_111 : decode cX4_tryMoves 111 = .ok (.putfield 15, 3) := by decide +kernel
theorem dX4_tryMoves_114 : decode cX4_tryMoves 114 = .ok (.aload_n 0, 1) := by decide +kernel
theorem dX4_tryMoves_115 : decode cX4_tryMoves 115 = .ok (.iload 7, 2) := by decide +kernel
theorem dX4_tryMoves_117 : decode cX4_tryMoves 117 = .ok (.putfield 9, 3) := by decide +kernel
theorem dX4_tryMoves_120 : decode cX4_tryMoves 120 = .ok (.iinc 6 1, 3) := by decide +kernel
theorem dX4_tryMoves_123 : decode cX4_tryMoves 123 = .ok (.goto (-99), 3) := by decide +kernel
theorem dX4_tryMoves_126 : decode cX4_tryMoves 126 = .ok (.return_, 1) := by decide +kernel
theorem dX4_costBelow_0 : decode cX4_costBelow 0 = .ok (.iload_n 3, 1) := by decide +kernel
theorem dX4_costBelow_1 : decode cX4_costBelow 1 = .ok (.invokestatic 32, 3) := by decide +kernel
theorem dX4_costBelow_4 : decode cX4_costBelow 4 = .ok (.istore 5, 2) := by decide +kernel
theorem dX4_costBelow_6 : decode cX4_costBelow 6 = .ok (.iload_n 3, 1) := by decide +kernel
theorem dX4_costBelow_7 : decode cX4_costBelow 7 = .ok (.invokestatic 36, 3) := by decide +kernel
theorem dX4_costBelow_10 : decode cX4_costBelow 10 = .ok (.istore 6, 2) := by decide +kernel
theorem dX4_costBelow_12 : decode cX4_costBelow 12 = .ok (.iload_n 2, 1) := by decide +kernel
theorem dX4_costBelow_13 : decode cX4_costBelow 13 = .ok (.invokestatic 63, 3) := by decide +kernel
theorem dX4_costBelow_16 : decode cX4_costBelow 16 = .ok (.istore 7, 2) := by decide +kernel
theorem dX4_costBelow_18 : decode cX4_costBelow 18 = .ok (.iload_n 2, 1) := by decide +kernel
theorem dX4_costBelow_19 : decode cX4_costBelow 19 = .ok (.invokestatic 66, 3) := by decide +kernel
theorem dX4_costBelow_22 : decode cX4_costBelow 22 = .ok (.istore 8, 2) := by decide +kernel
theorem dX4_costBelow_24 : decode cX4_costBelow 24 = .ok (.aload_n 1, 1) := by decide +kernel
theorem dX4_costBelow_25 : decode cX4_costBelow 25 = .ok (.getfield 69, 3) := by decide +kernel
theorem dX4_costBelow_28 : decode cX4_costBelow 28 = .ok (.iconst 3, 1) := by decide +kernel
theorem dX4_costBelow_29 : decode cX4_costBelow 29 = .ok (.if_icmp .ne 12, 3) := by decide +kernel
theorem dX4_costBelow_32 : decode cX4_costBelow 32 = .ok (.iconst 2, 1) := by decide +kernel
theorem dX4_costBelow_33 : decode cX4_costBelow 33 = .ok (.iload_n 3, 1) := by decide +kernel
theorem dX4_costBelow_34 : decode cX4_costBelow 34 = .ok (.invokestatic 74, 3) := by decide +kernel
theorem dX4_costBelow_37 : decode cX4_costBelow 37 = .ok (.imul, 1) := by decide +kernel
theorem dX4_costBelow_38 : decode cX4_costBelow 38 = .ok (.goto 4, 3) := by decide +kernel
theorem dX4_costBelow_41 : decode cX4_costBelow 41 = .ok (.iconst 0, 1) := by decide +kernel
theorem dX4_costBelow_42 : decode cX4_costBelow 42 = .ok (.istore 9, 2) := by decide +kernel
theorem dX4_costBelow_44 : decode cX4_costBelow 44 = .ok (.iconst 0, 1) := by decide +kernel
theorem dX4_costBelow_45 : decode cX4_costBelow 45 = .ok (.istore 10, 2) := by decide +kernel
theorem dX4_costBelow_47 : decode cX4_costBelow 47 = .ok (.iload 10, 2) := by decide +kernel
theorem dX4_costBelow_49 : decode cX4_costBelow 49 = .ok (.bipush 16, 2) := by decide +kernel
theorem dX4_costBelow_51 : decode cX4_costBelow 51 = .ok (.if_icmp .ge 94, 3) := by decide +kernel
theorem dX4_costBelow_54 : decode cX4_costBelow 54 = .ok (.iload 9, 2) := by decide +kernel
theorem dX4_costBelow_56 : decode cX4_costBelow 56 = .ok (.iload 4, 2) := by decide +kernel
theorem dX4_costBelow_58 : decode cX4_costBelow 58 = .ok (.if_icmp .ge 87, 3) := by decide +kernel
theorem dX4_costBelow_61 : decode cX4_costBelow 61 = .ok (.iload 7, 2) := by decide +kernel
theorem dX4_costBelow_63 : decode cX4_costBelow 63 = .ok (.iload 10, 2) := by decide +kernel
theorem dX4_costBelow_65 : decode cX4_costBelow 65 = .ok (.iconst 4, 1) := by decide +kernel
theorem dX4_costBelow_66 : decode cX4_costBelow 66 = .ok (.irem, 1) := by decide +kernel
theorem dX4_costBelow_67 : decode cX4_costBelow 67 = .ok (.iadd, 1) := by decide +kernel
theorem dX4_costBelow_68 : decode cX4_costBelow 68 = .ok (.istore 11, 2) := by decide +kernel
theorem dX4_costBelow_70 : decode cX4_costBelow 70 = .ok (.iload 8, 2) := by decide +kernel
theorem dX4_costBelow_72 : decode cX4_costBelow 72 = .ok (.iload 10, 2) := by decide +kernel
theorem dX4_costBelow_74 : decode cX4_costBelow 74 = .ok (.iconst 4, 1) := by decide +kernel
theorem dX4_costBelow_75 : decode cX4_costBelow 75 = .ok (.idiv, 1) := by decide +kernel
theorem dX4_costBelow_76 : decode cX4_costBelow 76 = .ok (.iadd, 1) := by decide +kernel
theorem dX4_costBelow_77 : decode cX4_costBelow 77 = .ok (.istore 12, 2) := by decide +kernel
theorem dX4_costBelow_79 : decode cX4_costBelow 79 = .ok (.aload_n 1, 1) := by decide +kernel
theorem dX4_costBelow_80 : decode cX4_costBelow 80 = .ok (.getfield 77, 3) := by decide +kernel
theorem dX4_costBelow_83 : decode cX4_costBelow 83 = .ok (.iload 11, 2) := by decide +kernel
theorem dX4_costBelow_85 : decode cX4_costBelow 85 = .ok (.iload 12, 2) := by decide +kernel
theorem dX4_costBelow_87 : decode cX4_costBelow 87 = .ok (.invokevirtual 81, 3) := by decide +kernel
theorem dX4_costBelow_90 : decode cX4_costBelow 90 = .ok (.aload_n 1, 1) := by decide +kernel
theorem dX4_costBelow_91 : decode cX4_costBelow 91 = .ok (.getfield 86, 3) := by decide +kernel
theorem dX4_costBelow_94 : decode cX4_costBelow 94 = .ok (.iload 11, 2) := by decide +kernel
theorem dX4_costBelow_96 : decode cX4_costBelow 96 = .ok (.iload 5, 2) := by decide +kernel
theorem dX4_costBelow_98 : decode cX4_costBelow 98 = .ok (.iadd, 1) := by decide +kernel
theorem dX4_costBelow_99 : decode cX4_costBelow 99 = .ok (.iload 12, 2) := by decide +kernel
theorem dX4_costBelow_101 : decode cX4_costBelow 101 = .ok (.iload 6, 2) := by decide +kernel
theorem dX4_costBelow_103 : decode cX4_costBelow 103 = .ok (.iadd, 1) := by decide +kernel
theorem dX4_costBelow_104 : decode cX4_costBelow 104 = .ok (.invokevirtual 81, 3) := by decide +kernel
theorem dX4_costBelow_107 : decode cX4_costBelow 107 = .ok (.isub, 1) := by decide +kernel
theorem dX4_costBelow_108 : decode cX4_costBelow 108 = .ok (.invokestatic 89, 3) := by decide +kernel
theorem dX4_costBelow_111 : decode cX4_costBelow 111 = .ok (.istore 13, 2) := by decide +kernel
theorem dX4_costBelow_113 : decode cX4_costBelow 113 = .ok (.iload 9, 2) := by decide +kernel
theorem dX4_costBelow_115 : decode cX4_costBelow 115 = .ok (.aload_n 1, 1) := by decide +kernel
theorem dX4_costBelow_116 : decode cX4_costBelow 116 = .ok (.getfield 69, 3) := by decide +kernel
theorem dX4_costBelow_119 : decode cX4_costBelow 119 = .ok (.iload 13, 2) := by decide +kernel
theorem dX4_costBelow_121 : decode cX4_costBelow 121 = .ok (.iload 10, 2) := by decide +kernel
theorem dX4_costBelow_123 : decode cX4_costBelow 123 = .ok (.invokestatic 94, 3) := by decide +kernel
theorem dX4_costBelow_126 : decode cX4_costBelow 126 = .ok (.iadd, 1) := by decide +kernel
theorem dX4_costBelow_127 : decode cX4_costBelow 127 = .ok (.istore 9, 2) := by decide +kernel
theorem dX4_costBelow_129 : decode cX4_costBelow 129 = .ok (.aload_n 0, 1) := by decide +kernel
theorem dX4_costBelow_130 : decode cX4_costBelow 130 = .ok (.dup, 1) := by decide +kernel
theorem dX4_costBelow_131 : decode cX4_costBelow 131 = .ok (.getfield 18, 3) := by decide +kernel
theorem dX4_costBelow_134 : decode cX4_costBelow 134 = .ok (.iconst 1, 1) := by decide +kernel
theorem dX4_costBelow_135 : decode cX4_costBelow 135 = .ok (.iadd, 1) := by decide +kernel
theorem dX4_costBelow_136 : decode cX4_costBelow 136 = .ok (.putfield 18, 3) := by decide +kernel
theorem dX4_costBelow_139 : decode cX4_costBelow 139 = .ok (.iinc 10 1, 3) := by decide +kernel
theorem dX4_costBelow_142 : decode cX4_costBelow 142 = .ok (.goto (-95), 3) := by decide +kernel
theorem dX4_costBelow_145 : decode cX4_costBelow 145 = .ok (.iload 9, 2) := by decide +kernel
theorem dX4_costBelow_147 : decode cX4_costBelow 147 = .ok (.ireturn, 1) := by decide +kernel
theorem dX4_dotCost_0 : decode cX4_dotCost 0 = .ok (.iload_n 0, 1) := by decide +kernel
theorem dX4_dotCost_1 : decode cX4_dotCost 1 = .ok (.tableswitch 59 1 4 #[31, 35, 59, 50], 31) := by decide +kernel
theorem dX4_dotCost_32 : decode cX4_dotCost 32 = .ok (.iload_n 1, 1) := by decide +kernel
theorem dX4_dotCost_33 : decode cX4_dotCost 33 = .ok (.iload_n 1, 1) := by decide +kernel
theorem dX4_dotCost_34 : decode cX4_dotCost 34 = .ok (.imul, 1) := by decide +kernel
theorem dX4_dotCost_35 : decode cX4_dotCost 35 = .ok (.ireturn, 1) := by decide +kernel
theorem dX4_dotCost_36 : decode cX4_dotCost 36 = .ok (.iload_n 2, 1) := by decide +kernel
theorem dX4_dotCost_37 : decode cX4_dotCost 37 = .ok (.invokestatic 98, 3) := by decide +kernel
theorem dX4_dotCost_40 : decode cX4_dotCost 40 = .ok (.ifCond .eq 9, 3) := by decide +kernel
theorem dX4_dotCost_43 : decode cX4_dotCost 43 = .ok (.iconst 2, 1) := by decide +kernel
theorem dX4_dotCost_44 : decode cX4_dotCost 44 = .ok (.iload_n 1, 1) := by decide +kernel
theorem dX4_dotCost_45 : decode cX4_dotCost 45 = .ok (.imul, 1) := by decide +kernel
theorem dX4_dotCost_46 : decode cX4_dotCost 46 = .ok (.goto 4, 3) := by decide +kernel
theorem dX4_dotCost_49 : decode cX4_dotCost 49 = .ok (.iload_n 1, 1) := by decide +kernel
theorem dX4_dotCost_50 : decode cX4_dotCost 50 = .ok (.ireturn, 1) := by decide +kernel
theorem dX4_dotCost_51 : decode cX4_dotCost 51 = .ok (.bipush 9, 2) := by decide +kernel
theorem dX4_dotCost_53 : decode cX4_dotCost 53 = .ok (.iload_n 1, 1) := by decide +kernel
theorem dX4_dotCost_54 : decode cX4_dotCost 54 = .ok (.iload_n 1, 1) := by decide +kernel
theorem dX4_dotCost_55 : decode cX4_dotCost 55 = .ok (.imul, 1) := by decide +kernel
theorem dX4_dotCost_56 : decode cX4_dotCost 56 = .ok (.invokestatic 102, 3) := by decide +kernel
theorem dX4_dotCost_59 : decode cX4_dotCost 59 = .ok (.ireturn, 1) := by decide +kernel
theorem dX4_dotCost_60 : decode cX4_dotCost 60 = .ok (.iload_n 1, 1) := by decide +kernel
theorem dX4_dotCost_61 : decode cX4_dotCost 61 = .ok (.ireturn, 1) := by decide +kernel
theorem dX4_isAtEdge_0 : decode cX4_isAtEdge 0 = .ok (.iload_n 0, 1) := by decide +kernel
theorem dX4_isAtEdge_1 : decode cX4_isAtEdge 1 = .ok (.iconst 4, 1) := by decide +kernel
theorem dX4_isAtEdge_2 : decode cX4_isAtEdge 2 = .ok (.irem, 1) := by decide +kernel
theorem dX4_isAtEdge_3 : decode cX4_isAtEdge 3 = .ok (.istore_n 1, 1) := by decide +kernel
theorem dX4_isAtEdge_4 : decode cX4_isAtEdge 4 = .ok (.iload_n 0, 1) := by decide +kernel
theorem dX4_isAtEdge_5 : decode cX4_isAtEdge 5 = .ok (.iconst 4, 1) := by decide +kernel
theorem dX4_isAtEdge_6 : decode cX4_isAtEdge 6 = .ok (.idiv, 1) := by decide +kernel
theorem dX4_isAtEdge_7 : decode cX4_isAtEdge 7 = .ok (.istore_n 2, 1) := by decide +kernel
theorem dX4_isAtEdge_8 : decode cX4_isAtEdge 8 = .ok (.iload_n 1, 1) := by decide +kernel
theorem dX4_isAtEdge_9 : decode cX4_isAtEdge 9 = .ok (.ifCond .eq 17, 3) := by decide +kernel
theorem dX4_isAtEdge_12 : decode cX4_isAtEdge 12 = .ok (.iload_n 1, 1) := by decide +kernel
theorem dX4_isAtEdge_13 : decode cX4_isAtEdge 13 = .ok (.iconst 3, 1) := by decide +kernel
theorem dX4_isAtEdge_14 : decode cX4_isAtEdge 14 = .ok (.if_icmp .eq 12, 3) := by decide +kernel
theorem dX4_isAtEdge_17 : decode cX4_isAtEdge 17 = .ok (.iload_n 2, 1) := by decide +kernel
theorem dX4_isAtEdge_18 : decode cX4_isAtEdge 18 = .ok (.ifCond .eq 8, 3) := by decide +kernel
theorem dX4_isAtEdge_21 : decode cX4_isAtEdge 21 = .ok (.iload_n 2, 1) := by decide +kernel
theorem dX4_isAtEdge_22 : decode cX4_isAtEdge 22 = .ok (.iconst 3, 1) := by decide +kernel
theorem dX4_isAtEdge_23 : decode cX4_isAtEdge 23 = .ok (.if_icmp .ne 7, 3) := by decide +kernel
theorem dX4_isAtEdge_26 : decode cX4_isAtEdge 26 = .ok (.iconst 1, 1) := by decide +kernel
theorem dX4_isAtEdge_27 : decode cX4_isAtEdge 27 = .ok (.goto 4, 3) := by decide +kernel
theorem dX4_isAtEdge_30 : decode cX4_isAtEdge 30 = .ok (.iconst 0, 1) := by decide +kernel
theorem dX4_isAtEdge_31 : decode cX4_isAtEdge 31 = .ok (.ireturn, 1) := by decide +kernel
theorem dX4_isNear_0 : decode cX4_isNear 0 = .ok (.iload_n 0, 1) := by decide +kernel
theorem dX4_isNear_1 : decode cX4_isNear 1 = .ok (.invokestatic 32, 3) := by decide +kernel
theorem dX4_isNear_4 : decode cX4_isNear 4 = .ok (.iload_n 1, 1) := by decide +kernel
theorem dX4_isNear_5 : decode cX4_isNear 5 = .ok (.invokestatic 32, 3) := by decide +kernel
theorem dX4_isNear_8 : decode cX4_isNear 8 = .ok (.isub, 1) := by decide +kernel
theorem dX4_isNear_9 : decode cX4_isNear 9 = .ok (.invokestatic 89, 3) := by decide +kernel
theorem dX4_isNear_12 : decode cX4_isNear 12 = .ok (.iload_n 2, 1) := by decide +kernel
theorem dX4_isNear_13 : decode cX4_isNear 13 = .ok (.if_icmp .gt 23, 3) := by decide +kernel
theorem dX4_isNear_16 : decode cX4_isNear 16 = .ok (.iload_n 0, 1) := by decide +kernel
theorem dX4_isNear_17 : decode cX4_isNear 17 = .ok (.invokestatic 36, 3) := by decide +kernel
theorem dX4_isNear_20 : decode cX4_isNear 20 = .ok (.iload_n 1, 1) := by decide +kernel
theorem dX4_isNear_21 : decode cX4_isNear 21 = .ok (.invokestatic 36, 3) := by decide +kernel
theorem dX4_isNear_24 : decode cX4_isNear 24 = .ok (.isub, 1) := by decide +kernel
theorem dX4_isNear_25 : decode cX4_isNear 25 = .ok (.invokestatic 89, 3) := by decide +kernel
theorem dX4_isNear_28 : decode cX4_isNear 28 = .ok (.iload_n 2, 1) := by decide +kernel
theorem dX4_isNear_29 : decode cX4_isNear 29 = .ok (.if_icmp .gt 7, 3) := by decide +kernel
theorem dX4_isNear_32 : decode cX4_isNear 32 = .ok (.iconst 1, 1) := by decide +kernel
theorem dX4_isNear_33 : decode cX4_isNear 33 = .ok (.goto 4, 3) := by decide +kernel
theorem dX4_isNear_36 : decode cX4_isNear 36 = .ok (.iconst 0, 1) := by decide +kernel
theorem dX4_isNear_37 : decode cX4_isNear 37 = .ok (.ireturn, 1) := by decide +kernel
theorem dX4_sumsApart_0 : decode cX4_sumsApart 0 = .ok (.aload_n 0, 1) := by decide +kernel
theorem dX4_sumsApart_1 : decode cX4_sumsApart 1 = .ok (.getfield 69, 3) := by decide +kernel
theorem dX4_sumsApart_4 : decode cX4_sumsApart 4 = .ok (.iconst 1, 1) := by decide +kernel
theorem dX4_sumsApart_5 : decode cX4_sumsApart 5 = .ok (.if_icmp .eq 11, 3) := by decide +kernel
theorem dX4_sumsApart_8 : decode cX4_sumsApart 8 = .ok (.aload_n 0, 1) := by decide +kernel
theorem dX4_sumsApart_9 : decode cX4_sumsApart 9 = .ok (.getfield 69, 3) := by decide +kernel
theorem dX4_sumsApart_12 : decode cX4_sumsApart 12 = .ok (.iconst 4, 1) := by decide +kernel
theorem dX4_sumsApart_13 : decode cX4_sumsApart 13 = .ok (.if_icmp .ne 5, 3) := by decide +kernel
theorem dX4_sumsApart_16 : decode cX4_sumsApart 16 = .ok (.iconst (-1), 1) := by decide +kernel
theorem dX4_sumsApart_17 : decode cX4_sumsApart 17 = .ok (.ireturn, 1) := by decide +kernel
theorem dX4_sumsApart_18 : decode cX4_sumsApart 18 = .ok (.iconst 0, 1) := by decide +kernel
theorem dX4_sumsApart_19 : decode cX4_sumsApart 19 = .ok (.istore_n 3, 1) := by decide +kernel
theorem dX4_sumsApart_20 : decode cX4_sumsApart 20 = .ok (.iconst 0, 1) := by decide +kernel
theorem dX4_sumsApart_21 : decode cX4_sumsApart 21 = .ok (.istore 4, 2) := by decide +kernel
theorem dX4_sumsApart_23 : decode cX4_sumsApart 23 = .ok (.iload 4, 2) := by decide +kernel
theorem dX4_sumsApart_25 : decode cX4_sumsApart 25 = .ok (.bipush 16, 2) := by decide +kernel
theorem dX4_sumsApart_27 : decode cX4_sumsApart 27 = .ok (.if_icmp .ge 67, 3) := by decide +kernel
theorem dX4_sumsApart_30 : decode cX4_sumsApart 30 = .ok (.iload_n 1, 1) := by decide +kernel
theorem dX4_sumsApart_31 : decode cX4_sumsApart 31 = .ok (.invokestatic 63, 3) := by decide +kernel
theorem dX4_sumsApart_34 : decode cX4_sumsApart 34 = .ok (.iload 4, 2) := by decide +kernel
theorem dX4_sumsApart_36 : decode cX4_sumsApart 36 = .ok (.iconst 4, 1) := by decide +kernel
theorem dX4_sumsApart_37 : decode cX4_sumsApart 37 = .ok (.irem, 1) := by decide +kernel
theorem dX4_sumsApart_38 : decode cX4_sumsApart 38 = .ok (.iadd, 1) := by decide +kernel
theorem dX4_sumsApart_39 : decode cX4_sumsApart 39 = .ok (.istore 5, 2) := by decide +kernel
theorem dX4_sumsApart_41 : decode cX4_sumsApart 41 = .ok (.iload_n 1, 1) := by decide +kernel
theorem dX4_sumsApart_42 : decode cX4_sumsApart 42 = .ok (.invokestatic 66, 3) := by decide +kernel
theorem dX4_sumsApart_45 : decode cX4_sumsApart 45 = .ok (.iload 4, 2) := by decide +kernel
theorem dX4_sumsApart_47 : decode cX4_sumsApart 47 = .ok (.iconst 4, 1) := by decide +kernel
theorem dX4_sumsApart_48 : decode cX4_sumsApart 48 = .ok (.idiv, 1) := by decide +kernel
theorem dX4_sumsApart_49 : decode cX4_sumsApart 49 = .ok (.iadd, 1) := by decide +kernel
theorem dX4_sumsApart_50 : decode cX4_sumsApart 50 = .ok (.istore 6, 2) := by decide +kernel
theorem dX4_sumsApart_52 : decode cX4_sumsApart 52 = .ok (.iload_n 3, 1) := by decide +kernel
theorem dX4_sumsApart_53 : decode cX4_sumsApart 53 = .ok (.aload_n 0, 1) := by decide +kernel
theorem dX4_sumsApart_54 : decode cX4_sumsApart 54 = .ok (.getfield 77, 3) := by decide +kernel
theorem dX4_sumsApart_57 : decode cX4_sumsApart 57 = .ok (.iload 5, 2) := by decide +kernel
theorem dX4_sumsApart_59 : decode cX4_sumsApart 59 = .ok (.iload 6, 2) := by decide +kernel
theorem dX4_sumsApart_61 : decode cX4_sumsApart 61 = .ok (.invokevirtual 81, 3) := by decide +kernel
theorem dX4_sumsApart_64 : decode cX4_sumsApart 64 = .ok (.aload_n 0, 1) := by decide +kernel
theorem dX4_sumsApart_65 : decode cX4_sumsApart 65 = .ok (.getfield 86, 3) := by decide +kernel
theorem dX4_sumsApart_68 : decode cX4_sumsApart 68 = .ok (.iload 5, 2) := by decide +kernel
theorem dX4_sumsApart_70 : decode cX4_sumsApart 70 = .ok (.iload_n 2, 1) := by decide +kernel
theorem dX4_sumsApart_71 : decode cX4_sumsApart 71 = .ok (.invokestatic 32, 3) := by decide +kernel
theorem dX4_sumsApart_74 : decode cX4_sumsApart 74 = .ok (.iadd, 1) := by decide +kernel
theorem dX4_sumsApart_75 : decode cX4_sumsApart 75 = .ok (.iload 6, 2) := by decide +kernel
theorem dX4_sumsApart_77 : decode cX4_sumsApart 77 = .ok (.iload_n 2, 1) := by decide +kernel
theorem dX4_sumsApart_78 : decode cX4_sumsApart 78 = .ok (.invokestatic 36, 3) := by decide +kernel
theorem dX4_sumsApart_81 : decode cX4_sumsApart 81 = .ok (.iadd, 1) := by decide +kernel
theorem dX4_sumsApart_82 : decode cX4_sumsApart 82 = .ok (.invokevirtual 81, 3) := by decide +kernel
theorem dX4_sumsApart_85 : decode cX4_sumsApart 85 = .ok (.isub, 1) := by decide +kernel
theorem dX4_sumsApart_86 : decode cX4_sumsApart 86 = .ok (.iadd, 1) := by decide +kernel
theorem dX4_sumsApart_87 : decode cX4_sumsApart 87 = .ok (.istore_n 3, 1) := by decide +kernel
theorem dX4_sumsApart_88 : decode cX4_sumsApart 88 = .ok (.iinc 4 1, 3) := by decide +kernel
theorem dX4_sumsApart_91 : decode cX4_sumsApart 91 = .ok (.goto (-68), 3) := by decide +kernel
theorem dX4_sumsApart_94 : decode cX4_sumsApart 94 = .ok (.iload_n 3, 1) := by decide +kernel
theorem dX4_sumsApart_95 : decode cX4_sumsApart 95 = .ok (.invokestatic 89, 3) := by decide +kernel
theorem dX4_sumsApart_98 : decode cX4_sumsApart 98 = .ok (.ireturn, 1) := by decide +kernel
theorem dX4_smallMove_0 : decode cX4_smallMove 0 = .ok (.ldc 43, 2) := by decide +kernel
theorem dX4_smallMove_2 : decode cX4_smallMove 2 = .ok (.istore_n 2, 1) := by decide +kernel
theorem dX4_smallMove_3 : decode cX4_smallMove 3 = .ok (.bipush 24, 2) := by decide +kernel
theorem dX4_smallMove_5 : decode cX4_smallMove 5 = .ok (.istore_n 3, 1) := by decide +kernel
theorem dX4_smallMove_6 : decode cX4_smallMove 6 = .ok (.iconst 0, 1) := by decide +kernel
theorem dX4_smallMove_7 : decode cX4_smallMove 7 = .ok (.istore 4, 2) := by decide +kernel
theorem dX4_smallMove_9 : decode cX4_smallMove 9 = .ok (.iload 4, 2) := by decide +kernel
theorem dX4_smallMove_11 : decode cX4_smallMove 11 = .ok (.bipush 49, 2) := by decide +kernel
theorem dX4_smallMove_13 : decode cX4_smallMove 13 = .ok (.if_icmp .ge 52, 3) := by decide +kernel
theorem dX4_smallMove_16 : decode cX4_smallMove 16 = .ok (.getstatic 44, 3) := by decide +kernel
theorem dX4_smallMove_19 : decode cX4_smallMove 19 = .ok (.iload 4, 2) := by decide +kernel
theorem dX4_smallMove_21 : decode cX4_smallMove 21 = .ok (.iaload, 1) := by decide +kernel
theorem dX4_smallMove_22 : decode cX4_smallMove 22 = .ok (.istore 5, 2) := by decide +kernel
theorem dX4_smallMove_24 : decode cX4_smallMove 24 = .ok (.iload 5, 2) := by decide +kernel
theorem dX4_smallMove_26 : decode cX4_smallMove 26 = .ok (.bipush 24, 2) := by decide +kernel
theorem dX4_smallMove_28 : decode cX4_smallMove 28 = .ok (.iconst 1, 1) := by decide +kernel
theorem dX4_smallMove_29 : decode cX4_smallMove 29 = .ok (.invokestatic 56, 3) := by decide +kernel
theorem dX4_smallMove_32 : decode cX4_smallMove 32 = .ok (.ifCond .ne 6, 3) := by decide +kernel
theorem dX4_smallMove_35 : decode cX4_smallMove 35 = .ok (.goto 24, 3) := by decide +kernel
theorem dX4_smallMove_38 : decode cX4_smallMove 38 = .ok (.aload_n 0, 1) := by decide +kernel
theorem dX4_smallMove_39 : decode cX4_smallMove 39 = .ok (.iload_n 1, 1) := by decide +kernel
theorem dX4_smallMove_40 : decode cX4_smallMove 40 = .ok (.iload 5, 2) := by decide +kernel
theorem dX4_smallMove_42 : decode cX4_smallMove 42 = .ok (.invokestatic 105, 3) := by decide +kernel
theorem dX4_smallMove_45 : decode cX4_smallMove 45 = .ok (.istore 6, 2) := by decide +kernel
theorem dX4_smallMove_47 : decode cX4_smallMove 47 = .ok (.iload 6, 2) := by decide +kernel
theorem dX4_smallMove_49 : decode cX4_smallMove 49 = .ok (.iload_n 2, 1) := by decide +kernel
theorem dX4_smallMove_50 : decode cX4_smallMove 50 = .ok (.if_icmp .ge 9, 3) := by decide +kernel
theorem dX4_smallMove_53 : decode cX4_smallMove 53 = .ok (.iload 6, 2) := by decide +kernel
theorem dX4_smallMove_55 : decode cX4_smallMove 55 = .ok (.istore_n 2, 1) := by decide +kernel
theorem dX4_smallMove_56 : decode cX4_smallMove 56 = .ok (.iload 5, 2) := by decide +kernel
theorem dX4_smallMove_58 : decode cX4_smallMove 58 = .ok (.istore_n 3, 1) := by decide +kernel
theorem dX4_smallMove_59 : decode cX4_smallMove 59 = .ok (.iinc 4 1, 3) := by decide +kernel
theorem dX4_smallMove_62 : decode cX4_smallMove 62 = .ok (.goto (-53), 3) := by decide +kernel
theorem dX4_smallMove_65 : decode cX4_smallMove 65 = .ok (.iload_n 3, 1) := by decide +kernel
theorem dX4_smallMove_66 : decode cX4_smallMove 66 = .ok (.ireturn, 1) := by decide +kernel
theorem dX4_smallCost_0 : decode cX4_smallCost 0 = .ok (.iconst 0, 1) := by decide +kernel
theorem dX4_smallCost_1 : decode cX4_smallCost 1 = .ok (.istore_n 3, 1) := by decide +kernel
theorem dX4_smallCost_2 : decode cX4_smallCost 2 = .ok (.iconst 0, 1) := by decide +kernel
theorem dX4_smallCost_3 : decode cX4_smallCost 3 = .ok (.istore 4, 2) := by decide +kernel
theorem dX4_smallCost_5 : decode cX4_smallCost 5 = .ok (.iload 4, 2) := by decide +kernel
theorem dX4_smallCost_7 : decode cX4_smallCost 7 = .ok (.iconst 4, 1) := by decide +kernel
theorem dX4_smallCost_8 : decode cX4_smallCost 8 = .ok (.if_icmp .ge 78, 3) := by decide +kernel
theorem dX4_smallCost_11 : decode cX4_smallCost 11 = .ok (.iload_n 1, 1) := by decide +kernel
theorem dX4_smallCost_12 : decode cX4_smallCost 12 = .ok (.invokestatic 63, 3) := by decide +kernel
theorem dX4_smallCost_15 : decode cX4_smallCost 15 = .ok (.iconst 2, 1) := by decide +kernel
theorem dX4_smallCost_16 : decode cX4_smallCost 16 = .ok (.idiv, 1) := by decide +kernel
theorem dX4_smallCost_17 : decode cX4_smallCost 17 = .ok (.iload 4, 2) := by decide +kernel
theorem dX4_smallCost_19 : decode cX4_smallCost 19 = .ok (.iconst 2, 1) := by decide +kernel
theorem dX4_smallCost_20 : decode cX4_smallCost 20 = .ok (.irem, 1) := by decide +kernel
theorem dX4_smallCost_21 : decode cX4_smallCost 21 = .ok (.iadd, 1) := by decide +kernel
theorem dX4_smallCost_22 : decode cX4_smallCost 22 = .ok (.istore 5, 2) := by decide +kernel
theorem dX4_smallCost_24 : decode cX4_smallCost 24 = .ok (.iload_n 1, 1) := by decide +kernel
theorem dX4_smallCost_25 : decode cX4_smallCost 25 = .ok (.invokestatic 66, 3) := by decide +kernel
theorem dX4_smallCost_28 : decode cX4_smallCost 28 = .ok (.iconst 2, 1) := by decide +kernel
theorem dX4_smallCost_29 : decode cX4_smallCost 29 = .ok (.idiv, 1) := by decide +kernel
theorem dX4_smallCost_30 : decode cX4_smallCost 30 = .ok (.iload 4, 2) := by decide +kernel
theorem dX4_smallCost_32 : decode cX4_smallCost 32 = .ok (.iconst 2, 1) := by decide +kernel
theorem dX4_smallCost_33 : decode cX4_smallCost 33 = .ok (.idiv, 1) := by decide +kernel
theorem dX4_smallCost_34 : decode cX4_smallCost 34 = .ok (.iadd, 1) := by decide +kernel
theorem dX4_smallCost_35 : decode cX4_smallCost 35 = .ok (.istore 6, 2) := by decide +kernel
theorem dX4_smallCost_37 : decode cX4_smallCost 37 = .ok (.aload_n 0, 1) := by decide +kernel
theorem dX4_smallCost_38 : decode cX4_smallCost 38 = .ok (.getfield 86, 3) := by decide +kernel
theorem dX4_smallCost_41 : decode cX4_smallCost 41 = .ok (.iload 5, 2) := by decide +kernel
theorem dX4_smallCost_43 : decode cX4_smallCost 43 = .ok (.iload_n 2, 1) := by decide +kernel
theorem dX4_smallCost_44 : decode cX4_smallCost 44 = .ok (.invokestatic 32, 3) := by decide +kernel
theorem dX4_smallCost_47 : decode cX4_smallCost 47 = .ok (.iadd, 1) := by decide +kernel
theorem dX4_smallCost_48 : decode cX4_smallCost 48 = .ok (.iload 6, 2) := by decide +kernel
theorem dX4_smallCost_50 : decode cX4_smallCost 50 = .ok (.iload_n 2, 1) := by decide +kernel
theorem dX4_smallCost_51 : decode cX4_smallCost 51 = .ok (.invokestatic 36, 3) := by decide +kernel
theorem dX4_smallCost_54 : decode cX4_smallCost 54 = .ok (.iadd, 1) := by decide +kernel
theorem dX4_smallCost_55 : decode cX4_smallCost 55 = .ok (.invokevirtual 108, 3) := by decide +kernel
theorem dX4_smallCost_58 : decode cX4_smallCost 58 = .ok (.istore 7, 2) := by decide +kernel
theorem dX4_smallCost_60 : decode cX4_smallCost 60 = .ok (.iload_n 3, 1) := by decide +kernel
theorem dX4_smallCost_61 : decode cX4_smallCost 61 = .ok (.aload_n 0, 1) := by decide +kernel
theorem dX4_smallCost_62 : decode cX4_smallCost 62 = .ok (.getfield 77, 3) := by decide +kernel
theorem dX4_smallCost_65 : decode cX4_smallCost 65 = .ok (.iload 5, 2) := by decide +kernel
theorem dX4_smallCost_67 : decode cX4_smallCost 67 = .ok (.iload 6, 2) := by decide +kernel
theorem dX4_smallCost_69 : decode cX4_smallCost 69 = .ok (.invokevirtual 108, 3) := by decide +kernel
theorem dX4_smallCost_72 : decode cX4_smallCost 72 = .ok (.iload 7, 2) := by decide +kernel
theorem dX4_smallCost_74 : decode cX4_smallCost 74 = .ok (.isub, 1) := by decide +kernel
theorem dX4_smallCost_75 : decode cX4_smallCost 75 = .ok (.invokestatic 89, 3) := by decide +kernel
theorem dX4_smallCost_78 : decode cX4_smallCost 78 = .ok (.iadd, 1) := by decide +kernel
theorem dX4_smallCost_79 : decode cX4_smallCost 79 = .ok (.istore_n 3, 1) := by decide +kernel
theorem dX4_smallCost_80 : decode cX4_smallCost 80 = .ok (.iinc 4 1, 3) := by decide +kernel
theorem dX4_smallCost_83 : decode cX4_smallCost 83 = .ok (.goto (-78), 3) := by decide +kernel
theorem dX4_smallCost_86 : decode cX4_smallCost 86 = .ok (.iload_n 3, 1) := by decide +kernel
theorem dX4_smallCost_87 : decode cX4_smallCost 87 = .ok (.ireturn, 1) := by decide +kernel
theorem dX5_init_0 : decode cX5_init 0 = .ok (.aload_n 0, 1) := by decide +kernel
theorem dX5_init_1 : decode cX5_init 1 = .ok (.invokespecial 3, 3) := by decide +kernel
theorem dX5_init_4 : decode cX5_init 4 = .ok (.aload_n 0, 1) := by decide +kernel
theorem dX5_init_5 : decode cX5_init 5 = .ok (.bipush 24, 2) := by decide +kernel
theorem dX5_init_7 : decode cX5_init 7 = .ok (.newarray .long, 2) := by decide +kernel
theorem dX5_init_9 : decode cX5_init 9 = .ok (.putfield 9, 3) := by decide +kernel
theorem dX5_init_12 : decode cX5_init 12 = .ok (.aload_n 0, 1) := by decide +kernel
theorem dX5_init_13 : decode cX5_init 13 = .ok (.iconst 0, 1) := by decide +kernel
theorem dX5_init_14 : decode cX5_init 14 = .ok (.putfield 15, 3) := by decide +kernel
theorem dX5_init_17 : decode cX5_init 17 = .ok (.aload_n 0, 1) := by decide +kernel
theorem dX5_init_18 : decode cX5_init 18 = .ok (.iconst 0, 1) := by decide +kernel
theorem dX5_init_19 : decode cX5_init 19 = .ok (.putfield 19, 3) := by decide +kernel
theorem dX5_init_22 : decode cX5_init 22 = .ok (.aload_n 0, 1) := by decide +kernel
theorem dX5_init_23 : decode cX5_init 23 = .ok (.iconst 0, 1) := by decide +kernel
theorem dX5_init_24 : decode cX5_init 24 = .ok (.putfield 23, 3) := by decide +kernel
theorem dX5_init_27 : decode cX5_init 27 = .ok (.return_, 1) := by decide +kernel
theorem dX5_begin_0 : decode cX5_begin 0 = .ok (.aload_n 0, 1) := by decide +kernel
theorem dX5_begin_1 : decode cX5_begin 1 = .ok (.iconst 1, 1) := by decide +kernel
theorem dX5_begin_2 : decode cX5_begin 2 = .ok (.putfield 15, 3) := by decide +kernel
theorem dX5_begin_5 : decode cX5_begin 5 = .ok (.aload_n 0, 1) := by decide +kernel
theorem dX5_begin_6 : decode cX5_begin 6 = .ok (.iload_n 1, 1) := by decide +kernel
theorem dX5_begin_7 : decode cX5_begin 7 = .ok (.putfield 19, 3) := by decide +kernel
theorem dX5_begin_10 : decode cX5_begin 10 = .ok (.aload_n 0, 1) := by decide +kernel
theorem dX5_begin_11 : decode cX5_begin 11 = .ok (.iload_n 2, 1) := by decide +kernel
theorem dX5_begin_12 : decode cX5_begin 12 = .ok (.putfield 23, 3) := by decide +kernel
theorem dX5_begin_15 : decode cX5_begin 15 = .ok (.iconst 0, 1) := by decide +kernel
theorem dX5_begin_16 : decode cX5_begin 16 = .ok (.istore_n 3, 1) := by decide +kernel
theorem dX5_begin_17 : decode cX5_begin 17 = .ok (.iload_n 3, 1) := by decide +kernel
theorem dX5_begin_18 : decode cX5_begin 18 = .ok (.bipush 24, 2) := by decide +kernel
theorem dX5_begin_20 : decode cX5_begin 20 = .ok (.if_icmp .ge 16, 3) := by decide +kernel
theorem dX5_begin_23 : decode cX5_begin 23 = .ok (.aload_n 0, 1) := by decide +kernel
theorem dX5_begin_24 : decode cX5_begin 24 = .ok (.getfield 9, 3) := by decide +kernel
theorem dX5_begin_27 : decode cX5_begin 27 = .ok (.iload_n 3, 1) := by decide +kernel
theorem dX5_begin_28 : decode cX5_begin 28 = .ok (.lconst 0, 1) := by decide +kernel
theorem dX5_begin_29 : decode cX5_begin 29 = .ok (.lastore, 1) := by decide +kernel
theorem dX5_begin_30 : decode cX5_begin 30 = .ok (.iinc 3 1, 3) := by decide +kernel
theorem dX5_begin_33 : decode cX5_begin 33 = .ok (.goto (-16), 3) := by decide +kernel
theorem dX5_begin_36 : decode cX5_begin 36 = .ok (.return_, 1) := by decide +kernel
theorem dX5_refusal_0 : decode cX5_refusal 0 = .ok (.aload_n 0, 1) := by decide +kernel
theorem dX5_refusal_1 : decode cX5_refusal 1 = .ok (.getfield 15, 3) := by decide +kernel
theorem dX5_refusal_4 : decode cX5_refusal 4 = .ok (.ifCond .ne 6, 3) := by decide +kernel
theorem dX5_refusal_7 : decode cX5_refusal 7 = .ok (.ldc 26, 2) := by decide +kernel
theorem dX5_refusal_9 : decode cX5_refusal 9 = .ok (.ireturn, 1) := by decide +kernel
theorem dX5_refusal_10 : decode cX5_refusal 10 = .ok (.aload_n 0, 1) := by decide +kernel
theorem dX5_refusal_11 : decode cX5_refusal 11 = .ok (.getfield 19, 3) := by decide +kernel
theorem dX5_refusal_14 : decode cX5_refusal 14 = .ok (.iload_n 1, 1) := by decide +kernel
theorem dX5_refusal_15 : decode cX5_refusal 15 = .ok (.if_icmp .eq 6, 3) := by decide +kernel
theorem dX5_refusal_18 : decode cX5_refusal 18 = .ok (.ldc 27, 2) := by decide +kernel
theorem dX5_refusal_20 : decode cX5_refusal 20 = .ok (.ireturn, 1) := by decide +kernel
theorem dX5_refusal_21 : decode cX5_refusal 21 = .ok (.aload_n 0, 1) := by decide +kernel
theorem dX5_refusal_22 : decode cX5_refusal 22 = .ok (.iload_n 2, 1) := by decide +kernel
theorem dX5_refusal_23 : decode cX5_refusal 23 = .ok (.iload_n 3, 1) := by decide +kernel
theorem dX5_refusal_24 : decode cX5_refusal 24 = .ok (.invokevirtual 28, 3) := by decide +kernel
theorem dX5_refusal_27 : decode cX5_refusal 27 = .ok (.ifCond .eq 7, 3) := by decide +kernel
theorem dX5_refusal_30 : decode cX5_refusal 30 = .ok (.iconst 0, 1) := by decide +kernel
theorem dX5_refusal_31 : decode cX5_refusal 31 = .ok (.goto 5, 3) := by decide +kernel
theorem dX5_refusal_34 : decode cX5_refusal 34 = .ok (.ldc 32, 2) := by decide +kernel
theorem dX5_refusal_36 : decode cX5_refusal 36 = .ok (.ireturn, 1) := by decide +kernel
theorem dX5_spans_0 : decode cX5_spans 0 = .ok (.iload_n 1, 1) := by decide +kernel
theorem dX5_spans_1 : decode cX5_spans 1 = .ok (.ifCond .lt 29, 3) := by decide +kernel
theorem dX5_spans_4 : decode cX5_spans 4 = .ok (.iload_n 2, 1) := by decide +kernel
theorem dX5_spans_5 : decode cX5_spans 5 = .ok (.ifCond .lt 25, 3) := by decide +kernel
theorem dX5_spans_8 : decode cX5_spans 8 = .ok (.iload_n 1, 1) := by decide +kernel
theorem dX5_spans_9 : decode cX5_spans 9 = .ok (.aload_n 0, 1) := by decide +kernel
theorem dX5_spans_10 : decode cX5_spans 10 = .ok (.getfield 23, 3) := by decide +kernel
theorem dX5_spans_13 : decode cX5_spans 13 = .ok (.if_icmp .gt 17, 3) := by decide +kernel
theorem dX5_spans_16 : decode cX5_spans 16 = .ok (.iload_n 2, 1) := by decide +kernel
theorem dX5_spans_17 : decode cX5_spans 17 = .ok (.aload_n 0, 1) := by decide +kernel
theorem dX5_spans_18 : decode cX5_spans 18 = .ok (.getfield 23, 3) := by decide +kernel
theorem dX5_spans_21 : decode cX5_spans 21 = .ok (.iload_n 1, 1) := by decide +kernel
theorem dX5_spans_22 : decode cX5_spans 22 = .ok (.isub, 1) := by decide +kernel
theorem dX5_spans_23 : decode cX5_spans 23 = .ok (.if_icmp .gt 7, 3) := by decide +kernel
theorem dX5_spans_26 : decode cX5_spans 26 = .ok (.iconst 1, 1) := by decide +kernel
theorem dX5_spans_27 : decode cX5_spans 27 = .ok (.goto 4, 3) := by decide +kernel
theorem dX5_spans_30 : decode cX5_spans 30 = .ok (.iconst 0, 1) := by decide +kernel
theorem dX5_spans_31 : decode cX5_spans 31 = .ok (.ireturn, 1) := by decide +kernel
theorem dX5_put_0 : decode cX5_put 0 = .ok (.aload_n 0, 1) := by decide +kernel
theorem dX5_put_1 : decode cX5_put 1 = .ok (.getfield 19, 3) := by decide +kernel
theorem dX5_put_4 : decode cX5_put 4 = .ok (.tableswitch 66 0 2 #[28, 41, 54], 28) := by decide +kernel
theorem dX5_put_32 : decode cX5_put 32 = .ok (.aload_n 0, 1) := by decide +kernel
theorem dX5_put_33 : decode cX5_put 33 = .ok (.getfield 9, 3) := by decide +kernel
theorem dX5_put_36 : decode cX5_put 36 = .ok (.iload_n 1, 1) := by decide +kernel
theorem dX5_put_37 : decode cX5_put 37 = .ok (.lload_n 2, 1) := by decide +kernel
theorem dX5_put_38 : decode cX5_put 38 = .ok (.l2i, 1) := by decide +kernel
theorem dX5_put_39 : decode cX5_put 39 = .ok (.i2b, 1) := by decide +kernel
theorem dX5_put_40 : decode cX5_put 40 = .ok (.i2l, 1) := by decide +kernel
theorem dX5_put_41 : decode cX5_put 41 = .ok (.lastore, 1) := by decide +kernel
theorem dX5_put_42 : decode cX5_put 42 = .ok (.goto 35, 3) := by decide +kernel
theorem dX5_put_45 : decode cX5_put 45 = .ok (.aload_n 0, 1) := by decide +kernel
theorem dX5_put_46 : decode cX5_put 46 = .ok (.getfield 9, 3) := by decide +kernel
theorem dX5_put_49 : decode cX5_put 49 = .ok (.iload_n 1, 1) := by decide +kernel
theorem dX5_put_50 : decode cX5_put 50 = .ok (.lload_n 2, 1) := by decide +kernel
theorem dX5_put_51 : decode cX5_put 51 = .ok (.l2i, 1) := by decide +kernel
theorem dX5_put_52 : decode cX5_put 52 = .ok (.i2s, 1) := by decide +kernel
theorem dX5_put_53 : decode cX5_put 53 = .ok (.i2l, 1) := by decide +kernel
theorem dX5_put_54 : decode cX5_put 54 = .ok (.lastore, 1) := by decide +kernel
theorem dX5_put_55 : decode cX5_put 55 = .ok (.goto 22, 3) := by decide +kernel
theorem dX5_put_58 : decode cX5_put 58 = .ok (.aload_n 0, 1) := by decide +kernel
theorem dX5_put_59 : decode cX5_put 59 = .ok (.getfield 9, 3) := by decide +kernel
theorem dX5_put_62 : decode cX5_put 62 = .ok (.iload_n 1, 1) := by decide +kernel
theorem dX5_put_63 : decode cX5_put 63 = .ok (.lload_n 2, 1) := by decide +kernel
theorem dX5_put_64 : decode cX5_put 64 = .ok (.l2i, 1) := by decide +kernel
theorem dX5_put_65 : decode cX5_put 65 = .ok (.i2l, 1) := by decide +kernel
theorem dX5_put_66 : decode cX5_put 66 = .ok (.lastore, 1) := by decide +kernel
theorem dX5_put_67 : decode cX5_put 67 = .ok (.goto 10, 3) := by decide +kernel
theorem dX5_put_70 : decode cX5_put 70 = .ok (.aload_n 0, 1) := by decide +kernel
theorem dX5_put_71 : decode cX5_put 71 = .ok (.getfield 9, 3) := by decide +kernel
theorem dX5_put_74 : decode cX5_put 74 = .ok (.iload_n 1, 1) := by decide +kernel
theorem dX5_put_75 : decode cX5_put 75 = .ok (.lload_n 2, 1) := by decide +kernel
theorem dX5_put_76 : decode cX5_put 76 = .ok (.lastore, 1) := by decide +kernel
theorem dX5_put_77 : decode cX5_put 77 = .ok (.return_, 1) := by decide +kernel
theorem dX6_init_0 : decode cX6_init 0 = .ok (.aload_n 0, 1) := by decide +kernel
theorem dX6_init_1 : decode cX6_init 1 = .ok (.invokespecial 3, 3) := by decide +kernel
theorem dX6_init_4 : decode cX6_init 4 = .ok (.aload_n 0, 1) := by decide +kernel
theorem dX6_init_5 : decode cX6_init 5 = .ok (.new 9, 3) := by decide +kernel
theorem dX6_init_8 : decode cX6_init 8 = .ok (.dup, 1) := by decide +kernel
theorem dX6_init_9 : decode cX6_init 9 = .ok (.invokespecial 11, 3) := by decide +kernel
theorem dX6_init_12 : decode cX6_init 12 = .ok (.putfield 12, 3) := by decide +kernel
theorem dX6_init_15 : decode cX6_init 15 = .ok (.aload_n 0, 1) := by decide +kernel
theorem dX6_init_16 : decode cX6_init 16 = .ok (.bipush 8, 2) := by decide +kernel
theorem dX6_init_18 : decode cX6_init 18 = .ok (.anewarray 9, 3) := by decide +kernel
theorem dX6_init_21 : decode cX6_init 21 = .ok (.putfield 18, 3) := by decide +kernel
theorem dX6_init_24 : decode cX6_init 24 = .ok (.aload_n 0, 1) := by decide +kernel
theorem dX6_init_25 : decode cX6_init 25 = .ok (.iconst 0, 1) := by decide +kernel
theorem dX6_init_26 : decode cX6_init 26 = .ok (.putfield 22, 3) := by decide +kernel
theorem dX6_init_29 : decode cX6_init 29 = .ok (.iconst 0, 1) := by decide +kernel
theorem dX6_init_30 : decode cX6_init 30 = .ok (.istore_n 1, 1) := by decide +kernel
theorem dX6_init_31 : decode cX6_init 31 = .ok (.iload_n 1, 1) := by decide +kernel
theorem dX6_init_32 : decode cX6_init 32 = .ok (.bipush 8, 2) := by decide +kernel
theorem dX6_init_34 : decode cX6_init 34 = .ok (.if_icmp .ge 22, 3) := by decide +kernel
theorem dX6_init_37 : decode cX6_init 37 = .ok (.aload_n 0, 1) := by decide +kernel
theorem dX6_init_38 : decode cX6_init 38 = .ok (.getfield 18, 3) := by decide +kernel
theorem dX6_init_41 : decode cX6_init 41 = .ok (.iload_n 1, 1) := by decide +kernel
theorem dX6_init_42 : decode cX6_init 42 = .ok (.new 9, 3) := by decide +kernel
theorem dX6_init_45 : decode cX6_init 45 = .ok (.dup, 1) := by decide +kernel
theorem dX6_init_46 : decode cX6_init 46 = .ok (.invokespecial 11, 3) := by decide +kernel
theorem dX6_init_49 : decode cX6_init 49 = .ok (.aastore, 1) := by decide +kernel
theorem dX6_init_50 : decode cX6_init 50 = .ok (.iinc 1 1, 3) := by decide +kernel
theorem dX6_init_53 : decode cX6_init 53 = .ok (.goto (-22), 3) := by decide +kernel
theorem dX6_init_56 : decode cX6_init 56 = .ok (.return_, 1) := by decide +kernel
theorem dX6_keep_0 : decode cX6_keep 0 = .ok (.aload_n 0, 1) := by decide +kernel
theorem dX6_keep_1 : decode cX6_keep 1 = .ok (.getfield 22, 3) := by decide +kernel
theorem dX6_keep_4 : decode cX6_keep 4 = .ok (.bipush 8, 2) := by decide +kernel
theorem dX6_keep_6 : decode cX6_keep 6 = .ok (.if_icmp .ne 7, 3) := by decide +kernel
theorem dX6_keep_9 : decode cX6_keep 9 = .ok (.aload_n 0, 1) := by decide +kernel
theorem dX6_keep_10 : decode cX6_keep 10 = .ok (.invokevirtual 26, 3) := by decide +kernel
theorem dX6_keep_13 : decode cX6_keep 13 = .ok (.aload_n 0, 1) := by decide +kernel
theorem dX6_keep_14 : decode cX6_keep 14 = .ok (.getfield 18, 3) := by decide +kernel
theorem dX6_keep_17 : decode cX6_keep 17 = .ok (.aload_n 0, 1) := by decide +kernel
theorem dX6_keep_18 : decode cX6_keep 18 = .ok (.getfield 22, 3) := by decide +kernel
theorem dX6_keep_21 : decode cX6_keep 21 = .ok (.aaload, 1) := by decide +kernel
theorem dX6_keep_22 : decode cX6_keep 22 = .ok (.aload_n 0, 1) := by decide +kernel
theorem dX6_keep_23 : decode cX6_keep 23 = .ok (.getfield 12, 3) := by decide +kernel
theorem dX6_keep_26 : decode cX6_keep 26 = .ok (.invokevirtual 29, 3) := by decide +kernel
theorem dX6_keep_29 : decode cX6_keep 29 = .ok (.aload_n 0, 1) := by decide +kernel
theorem dX6_keep_30 : decode cX6_keep 30 = .ok (.dup, 1) := by decide +kernel
theorem dX6_keep_31 : decode cX6_keep 31 = .ok (.getfield 22, 3) := by decide +kernel
theorem dX6_keep_34 : decode cX6_keep 34 = .ok (.iconst 1, 1) := by decide +kernel
theorem dX6_keep_35 : decode cX6_keep 35 = .ok (.iadd, 1) := by decide +kernel
theorem dX6_keep_36 : decode cX6_keep 36 = .ok (.putfield 22, 3) := by decide +kernel
theorem dX6_keep_39 : decode cX6_keep 39 = .ok (.return_, 1) := by decide +kernel
theorem dX6_loseOldest_0 : decode cX6_loseOldest 0 = .ok (.aload_n 0, 1) := by decide +kernel
theorem dX6_loseOldest_1 : decode cX6_loseOldest 1 = .ok (.getfield 18, 3) := by decide +kernel
theorem dX6_loseOldest_4 : decode cX6_loseOldest 4 = .ok (.iconst 0, 1) := by decide +kernel
theorem dX6_loseOldest_5 : decode cX6_loseOldest 5 = .ok (.aaload, 1) := by decide +kernel
theorem dX6_loseOldest_6 : decode cX6_loseOldest 6 = .ok (.astore_n 1, 1) := by decide +kernel
theorem dX6_loseOldest_7 : decode cX6_loseOldest 7 = .ok (.iconst 1, 1) := by decide +kernel
theorem dX6_loseOldest_8 : decode cX6_loseOldest 8 = .ok (.istore_n 2, 1) := by decide +kernel
theorem dX6_loseOldest_9 : decode cX6_loseOldest 9 = .ok (.iload_n 2, 1) := by decide +kernel
theorem dX6_loseOldest_10 : decode cX6_loseOldest 10 = .ok (.bipush 8, 2) := by decide +kernel
theorem dX6_loseOldest_12 : decode cX6_loseOldest 12 = .ok (.if_icmp .ge 23, 3) := by decide +kernel
theorem dX6_loseOldest_15 : decode cX6_loseOldest 15 = .ok (.aload_n 0, 1) := by decide +kernel
theorem dX6_loseOldest_16 : decode cX6_loseOldest 16 = .ok (.getfield 18, 3) := by decide +kernel
theorem dX6_loseOldest_19 : decode cX6_loseOldest 19 = .ok (.iload_n 2, 1) := by decide +kernel
theorem dX6_loseOldest_20 : decode cX6_loseOldest 20 = .ok (.iconst 1, 1) := by decide +kernel
theorem dX6_loseOldest_21 : decode cX6_loseOldest 21 = .ok (.isub, 1) := by decide +kernel
theorem dX6_loseOldest_22 : decode cX6_loseOldest 22 = .ok (.aload_n 0, 1) := by decide +kernel
theorem dX6_loseOldest_23 : decode cX6_loseOldest 23 = .ok (.getfield 18, 3) := by decide +kernel
theorem dX6_loseOldest_26 : decode cX6_loseOldest 26 = .ok (.iload_n 2, 1) := by decide +kernel
theorem dX6_loseOldest_27 : decode cX6_loseOldest 27 = .ok (.aaload, 1) := by decide +kernel
theorem dX6_loseOldest_28 : decode cX6_loseOldest 28 = .ok (.aastore, 1) := by decide +kernel
theorem dX6_loseOldest_29 : decode cX6_loseOldest 29 = .ok (.iinc 2 1, 3) := by decide +kernel
theorem dX6_loseOldest_32 : decode cX6_loseOldest 32 = .ok (.goto (-23), 3) := by decide +kernel
theorem dX6_loseOldest_35 : decode cX6_loseOldest 35 = .ok (.aload_n 0, 1) := by decide +kernel
theorem dX6_loseOldest_36 : decode cX6_loseOldest 36 = .ok (.getfield 18, 3) := by decide +kernel
theorem dX6_loseOldest_39 : decode cX6_loseOldest 39 = .ok (.bipush 7, 2) := by decide +kernel
theorem dX6_loseOldest_41 : decode cX6_loseOldest 41 = .ok (.aload_n 1, 1) := by decide +kernel
theorem dX6_loseOldest_42 : decode cX6_loseOldest 42 = .ok (.aastore, 1) := by decide +kernel
theorem dX6_loseOldest_43 : decode cX6_loseOldest 43 = .ok (.aload_n 0, 1) := by decide +kernel
theorem dX6_loseOldest_44 : decode cX6_loseOldest 44 = .ok (.bipush 7, 2) := by decide +kernel
theorem dX6_loseOldest_46 : decode cX6_loseOldest 46 = .ok (.putfield 22, 3) := by decide +kernel
theorem dX6_loseOldest_49 : decode cX6_loseOldest 49 = .ok (.return_, 1) := by decide +kernel
theorem dX6_goBack_0 : decode cX6_goBack 0 = .ok (.aload_n 0, 1) := by decide +kernel
theorem dX6_goBack_1 : decode cX6_goBack 1 = .ok (.getfield 22, 3) := by decide +kernel
theorem dX6_goBack_4 : decode cX6_goBack 4 = .ok (.ifCond .le 29, 3) := by decide +kernel
theorem dX6_goBack_7 : decode cX6_goBack 7 = .ok (.aload_n 0, 1) := by decide +kernel
theorem dX6_goBack_8 : decode cX6_goBack 8 = .ok (.dup, 1) := by decide +kernel
theorem dX6_goBack_9 : decode cX6_goBack 9 = .ok (.getfield 22, 3) := by decide +kernel
theorem dX6_goBack_12 : decode cX6_goBack 12 = .ok (.iconst 1, 1) := by decide +kernel
theorem dX6_goBack_13 : decode cX6_goBack 13 = .ok (.isub, 1) := by decide +kernel
theorem dX6_goBack_14 : decode cX6_goBack 14 = .ok (.putfield 22, 3) := by decide +kernel
theorem dX6_goBack_17 : decode cX6_goBack 17 = .ok (.aload_n 0, 1) := by decide +kernel
theorem dX6_goBack_18 : decode cX6_goBack 18 = .ok (.getfield 12, 3) := by decide +kernel
theorem dX6_goBack_21 : decode cX6_goBack 21 = .ok (.aload_n 0, 1) := by decide +kernel
theorem dX6_goBack_22 : decode cX6_goBack 22 = .ok (.getfield 18, 3) := by decide +kernel
theorem dX6_goBack_25 : decode cX6_goBack 25 = .ok (.aload_n 0, 1) := by decide +kernel
theorem dX6_goBack_26 : decode cX6_goBack 26 = .ok (.getfield 22, 3) := by decide +kernel
theorem dX6_goBack_29 : decode cX6_goBack 29 = .ok (.aaload, 1) := by decide +kernel
theorem dX6_goBack_30 : decode cX6_goBack 30 = .ok (.invokevirtual 29, 3) := by decide +kernel
theorem dX6_goBack_33 : decode cX6_goBack 33 = .ok (.return_, 1) := by decide +kernel
theorem dX6_become_0 : decode cX6_become 0 = .ok (.aload_n 0, 1) := by decide +kernel
theorem dX6_become_1 : decode cX6_become 1 = .ok (.getfield 12, 3) := by decide +kernel
theorem dX6_become_4 : decode cX6_become 4 = .ok (.aload_n 1, 1) := by decide +kernel
theorem dX6_become_5 : decode cX6_become 5 = .ok (.getfield 12, 3) := by decide +kernel
theorem dX6_become_8 : decode cX6_become 8 = .ok (.invokevirtual 29, 3) := by decide +kernel
theorem dX6_become_11 : decode cX6_become 11 = .ok (.aload_n 0, 1) := by decide +kernel
theorem dX6_become_12 : decode cX6_become 12 = .ok (.aload_n 1, 1) := by decide +kernel
theorem dX6_become_13 : decode cX6_become 13 = .ok (.getfield 22, 3) := by decide +kernel
theorem dX6_become_16 : decode cX6_become 16 = .ok (.putfield 22, 3) := by decide +kernel
theorem dX6_become_19 : decode cX6_become 19 = .ok (.iconst 0, 1) := by decide +kernel
theorem dX6_become_20 : decode cX6_become 20 = .ok (.istore_n 2, 1) := by decide +kernel
theorem dX6_become_21 : decode cX6_become 21 = .ok (.iload_n 2, 1) := by decide +kernel
theorem dX6_become_22 : decode cX6_become 22 = .ok (.aload_n 0, 1) := by decide +kernel
theorem dX6_become_23 : decode cX6_become 23 = .ok (.getfield 22, 3) := by decide +kernel
theorem dX6_become_26 : decode cX6_become 26 = .ok (.if_icmp .ge 24, 3) := by decide +kernel
theorem dX6_become_29 : decode cX6_become 29 = .ok (.aload_n 0, 1) := by decide +kernel
theorem dX6_become_30 : decode cX6_become 30 = .ok (.getfield 18, 3) := by decide +kernel
theorem dX6_become_33 : decode cX6_become 33 = .ok (.iload_n 2, 1) := by decide +kernel
theorem dX6_become_34 : decode cX6_become 34 = .ok (.aaload, 1) := by decide +kernel
theorem dX6_become_35 : decode cX6_become 35 = .ok (.aload_n 1, 1) := by decide +kernel
theorem dX6_become_36 : decode cX6_become 36 = .ok (.getfield 18, 3) := by decide +kernel
theorem dX6_become_39 : decode cX6_become 39 = .ok (.iload_n 2, 1) := by decide +kernel
theorem dX6_become_40 : decode cX6_become 40 = .ok (.aaload, 1) := by decide +kernel
theorem dX6_become_41 : decode cX6_become 41 = .ok (.invokevirtual 29, 3) := by decide +kernel
theorem dX6_become_44 : decode cX6_become 44 = .ok (.iinc 2 1, 3) := by decide +kernel
theorem dX6_become_47 : decode cX6_become 47 = .ok (.goto (-26), 3) := by decide +kernel
theorem dX6_become_50 : decode cX6_become 50 = .ok (.return_, 1) := by decide +kernel
theorem dX7_init_0 : decode cX7_init 0 = .ok (.aload_n 0, 1) := by decide +kernel
theorem dX7_init_1 : decode cX7_init 1 = .ok (.invokespecial 3, 3) := by decide +kernel
theorem dX7_init_4 : decode cX7_init 4 = .ok (.aload_n 0, 1) := by decide +kernel
theorem dX7_init_5 : decode cX7_init 5 = .ok (.bipush 120, 2) := by decide +kernel
theorem dX7_init_7 : decode cX7_init 7 = .ok (.newarray .int, 2) := by decide +kernel
theorem dX7_init_9 : decode cX7_init 9 = .ok (.putfield 9, 3) := by decide +kernel
theorem dX7_init_12 : decode cX7_init 12 = .ok (.aload_n 0, 1) := by decide +kernel
theorem dX7_init_13 : decode cX7_init 13 = .ok (.iconst 0, 1) := by decide +kernel
theorem dX7_init_14 : decode cX7_init 14 = .ok (.putfield 15, 3) := by decide +kernel
theorem dX7_init_17 : decode cX7_init 17 = .ok (.aload_n 0, 1) := by decide +kernel
theorem dX7_init_18 : decode cX7_init 18 = .ok (.bipush 96, 2) := by decide +kernel
theorem dX7_init_20 : decode cX7_init 20 = .ok (.newarray .int, 2) := by decide +kernel
theorem dX7_init_22 : decode cX7_init 22 = .ok (.putfield 19, 3) := by decide +kernel
theorem dX7_init_25 : decode cX7_init 25 = .ok (.aload_n 0, 1) := by decide +kernel
theorem dX7_init_26 : decode cX7_init 26 = .ok (.iconst 0, 1) := by decide +kernel
theorem dX7_init_27 : decode cX7_init 27 = .ok (.putfield 22, 3) := by decide +kernel
theorem dX7_init_30 : decode cX7_init 30 = .ok (.aload_n 0, 1) := by decide +kernel
theorem dX7_init_31 : decode cX7_init 31 = .ok (.iconst 0, 1) := by decide +kernel
theorem dX7_init_32 : decode cX7_init 32 = .ok (.putfield 25, 3) := by decide +kernel
theorem dX7_init_35 : decode cX7_init 35 = .ok (.return_, 1) := by decide +kernel
theorem dX7_add_0 : decode cX7_add 0 = .ok (.aload_n 0, 1) := by decide +kernel
theorem dX7_add_1 : decode cX7_add 1 = .ok (.getfield 15, 3) := by decide +kernel
theorem dX7_add_4 : decode cX7_add 4 = .ok (.bipush 120, 2) := by decide +kernel
theorem dX7_add_6 : decode cX7_add 6 = .ok (.if_icmp .lt 5, 3) := by decide +kernel
theorem dX7_add_9 : decode cX7_add 9 = .ok (.iconst 0, 1) := by decide +kernel
theorem dX7_add_10 : decode cX7_add 10 = .ok (.ireturn, 1) := by decide +kernel
theorem dX7_add_11 : decode cX7_add 11 = .ok (.aload_n 0, 1) := by decide +kernel
theorem dX7_add_12 : decode cX7_add 12 = .ok (.getfield 9, 3) := by decide +kernel
theorem dX7_add_15 : decode cX7_add 15 = .ok (.aload_n 0, 1) := by decide +kernel
theorem dX7_add_16 : decode cX7_add 16 = .ok (.getfield 15, 3) := by decide +kernel
theorem dX7_add_19 : decode cX7_add 19 = .ok (.iload_n 1, 1) := by decide +kernel
theorem dX7_add_20 : decode cX7_add 20 = .ok (.iastore, 1) := by decide +kernel
theorem dX7_add_21 : decode cX7_add 21 = .ok (.aload_n 0, 1) := by decide +kernel
theorem dX7_add_22 : decode cX7_add 22 = .ok (.dup, 1) := by decide +kernel
theorem dX7_add_23 : decode cX7_add 23 = .ok (.getfield 15, 3) := by decide +kernel
theorem dX7_add_26 : decode cX7_add 26 = .ok (.iconst 1, 1) := by decide +kernel
theorem dX7_add_27 : decode cX7_add 27 = .ok (.iadd, 1) := by decide +kernel
theorem dX7_add_28 : decode cX7_add 28 = .ok (.putfield 15, 3) := by decide +kernel
theorem dX7_add_31 : decode cX7_add 31 = .ok (.iconst 1, 1) := by decide +kernel
theorem dX7_add_32 : decode cX7_add 32 = .ok (.ireturn, 1) := by decide +kernel
theorem dX7_read_0 : decode cX7_read 0 = .ok (.aload_n 0, 1) := by decide +kernel
theorem dX7_read_1 : decode cX7_read 1 = .ok (.iconst 0, 1) := by decide +kernel
theorem dX7_read_2 : decode cX7_read 2 = .ok (.putfield 25, 3) := by decide +kernel
theorem dX7_read_5 : decode cX7_read 5 = .ok (.aload_n 0, 1) := by decide +kernel
theorem dX7_read_6 : decode cX7_read 6 = .ok (.iconst 0, 1) := by decide +kernel
theorem dX7_read_7 : decode cX7_read 7 = .ok (.putfield 22, 3) := by decide +kernel
theorem dX7_read_10 : decode cX7_read 10 = .ok (.iconst 0, 1) := by decide +kernel
theorem dX7_read_11 : decode cX7_read 11 = .ok (.istore_n 1, 1) := by decide +kernel
theorem dX7_read_12 : decode cX7_read 12 = .ok (.iconst 0, 1) := by decide +kernel
theorem dX7_read_13 : decode cX7_read 13 = .ok (.istore_n 2, 1) := by decide +kernel
theorem dX7_read_14 : decode cX7_read 14 = .ok (.iload_n 2, 1) := by decide +kernel
theorem dX7_read_15 : decode cX7_read 15 = .ok (.aload_n 0, 1) := by decide +kernel
theorem dX7_read_16 : decode cX7_read 16 = .ok (.getfield 15, 3) := by decide +kernel
theorem dX7_read_19 : decode cX7_read 19 = .ok (.if_icmp .ge 76, 3) := by decide +kernel
theorem dX7_read_22 : decode cX7_read 22 = .ok (.aload_n 0, 1) := by decide +kernel
theorem dX7_read_23 : decode cX7_read 23 = .ok (.getfield 9, 3) := by decide +kernel
theorem dX7_read_26 : decode cX7_read 26 = .ok (.iload_n 2, 1) := by decide +kernel
theorem dX7_read_27 : decode cX7_read 27 = .ok (.iaload, 1) := by decide +kernel
theorem dX7_read_28 : decode cX7_read 28 = .ok (.istore_n 3, 1) := by decide +kernel
theorem dX7_read_29 : decode cX7_read 29 = .ok (.iload_n 3, 1) := by decide +kernel
theorem dX7_read_30 : decode cX7_read 30 = .ok (.bipush 32, 2) := by decide +kernel
theorem dX7_read_32 : decode cX7_read 32 = .ok (.if_icmp .ne 6, 3) := by decide +kernel
theorem dX7_read_35 : decode cX7_read 35 = .ok (.goto 54, 3) := by decide +kernel
theorem dX7_read_38 : decode cX7_read 38 = .ok (.aload_n 0, 1) := by decide +kernel
theorem dX7_read_39 : decode cX7_read 39 = .ok (.iload_n 3, 1) := by decide +kernel
theorem dX7_read_40 : decode cX7_read 40 = .ok (.iload_n 1, 1) := by decide +kernel
theorem dX7_read_41 : decode cX7_read 41 = .ok (.invokevirtual 28, 3) := by decide +kernel
theorem dX7_read_44 : decode cX7_read 44 = .ok (.ifCond .ne 8, 3) := by decide +kernel
theorem dX7_read_47 : decode cX7_read 47 = .ok (.ldc 32, 2) := by decide +kernel
theorem dX7_read_49 : decode cX7_read 49 = .ok (.iload_n 2, 1) := by decide +kernel
theorem dX7_read_50 : decode cX7_read 50 = .ok (.isub, 1) := by decide +kernel
theorem dX7_read_51 : decode cX7_read 51 = .ok (.ireturn, 1) := by decide +kernel
theorem dX7_read_52 : decode cX7_read 52 = .ok (.aload_n 0, 1) := by decide +kernel
theorem dX7_read_53 : decode cX7_read 53 = .ok (.getfield 25, 3) := by decide +kernel
theorem dX7_read_56 : decode cX7_read 56 = .ok (.ifCond .ne 11, 3) := by decide +kernel
theorem dX7_read_59 : decode cX7_read 59 = .ok (.aload_n 0, 1) := by decide +kernel
theorem dX7_read_60 : decode cX7_read 60 = .ok (.iload_n 3, 1) := by decide +kernel
theorem dX7_read_61 : decode cX7_read 61 = .ok (.putfield 25, 3) := by decide +kernel
theorem dX7_read_64 : decode cX7_read 64 = .ok (.goto 25, 3) := by decide +kernel
theorem dX7_read_67 : decode cX7_read 67 = .ok (.iload_n 3, 1) := by decide +kernel
theorem dX7_read_68 : decode cX7_read 68 = .ok (.bipush 114, 2) := by decide +kernel
theorem dX7_read_70 : decode cX7_read 70 = .ok (.if_icmp .ne 8, 3) := by decide +kernel
theorem dX7_read_73 : decode cX7_read 73 = .ok (.iconst 1, 1) := by decide +kernel
theorem dX7_read_74 : decode cX7_read 74 = .ok (.istore_n 1, 1) := by decide +kernel
theorem dX7_read_75 : decode cX7_read 75 = .ok (.goto 14, 3) := by decide +kernel
theorem dX7_read_78 : decode cX7_read 78 = .ok (.aload_n 0, 1) := by decide +kernel
theorem dX7_read_79 : decode cX7_read 79 = .ok (.iload_n 3, 1) := by decide +kernel
theorem dX7_read_80 : decode cX7_read 80 = .ok (.bipush 48, 2) := by decide +kernel
theorem dX7_read_82 : decode cX7_read 82 = .ok (.isub, 1) := by decide +kernel
theorem dX7_read_83 : decode cX7_read 83 = .ok (.iload_n 1, 1) := by decide +kernel
theorem dX7_read_84 : decode cX7_read 84 = .ok (.invokevirtual 33, 3) := by decide +kernel
theorem dX7_read_87 : decode cX7_read 87 = .ok (.iconst 0, 1) := by decide +kernel
theorem dX7_read_88 : decode cX7_read 88 = .ok (.istore_n 1, 1) := by decide +kernel
theorem dX7_read_89 : decode cX7_read 89 = .ok (.iinc 2 1, 3) := by decide +kernel
theorem dX7_read_92 : decode cX7_read 92 = .ok (.goto (-78), 3) := by decide +kernel
theorem dX7_read_95 : decode cX7_read 95 = .ok (.aload_n 0, 1) := by decide +kernel
theorem dX7_read_96 : decode cX7_read 96 = .ok (.getfield 25, 3) := by decide +kernel
theorem dX7_read_99 : decode cX7_read 99 = .ok (.ifCond .eq 7, 3) := by decide +kernel
theorem dX7_read_102 : decode cX7_read 102 = .ok (.iload_n 1, 1) := by decide +kernel
theorem dX7_read_103 : decode cX7_read 103 = .ok (.ifCond .eq 11, 3) := by decide +kernel
theorem dX7_read_106 : decode cX7_read 106 = .ok (.ldc 32, 2) := by decide +kernel
theorem dX7_read_108 : decode cX7_read 108 = .ok (.aload_n 0, 1) := by decide +kernel
theorem dX7_read_109 : decode cX7_read 109 = .ok (.getfield 15, 3) := by decide +kernel
theorem dX7_read_112 : decode cX7_read 112 = .ok (.isub, 1) := by decide +kernel
theorem dX7_read_113 : decode cX7_read 113 = .ok (.ireturn, 1) := by decide +kernel
theorem dX7_read_114 : decode cX7_read 114 = .ok (.aload_n 0, 1) := by decide +kernel
theorem dX7_read_115 : decode cX7_read 115 = .ok (.getfield 22, 3) := by decide +kernel
theorem dX7_read_118 : decode cX7_read 118 = .ok (.istore_n 2, 1) := by decide +kernel
theorem dX7_read_119 : decode cX7_read 119 = .ok (.iload_n 2, 1) := by decide +kernel
theorem dX7_read_120 : decode cX7_read 120 = .ok (.bipush 96, 2) := by decide +kernel
theorem dX7_read_122 : decode cX7_read 122 = .ok (.if_icmp .ge 16, 3) := by decide +kernel
theorem dX7_read_125 : decode cX7_read 125 = .ok (.aload_n 0, 1) := by decide +kernel
theorem dX7_read_126 : decode cX7_read 126 = .ok (.getfield 19, 3) := by decide +kernel
theorem dX7_read_129 : decode cX7_read 129 = .ok (.iload_n 2, 1) := by decide +kernel
theorem dX7_read_130 : decode cX7_read 130 = .ok (.iconst 0, 1) := by decide +kernel
theorem dX7_read_131 : decode cX7_read 131 = .ok (.iastore, 1) := by decide +kernel
theorem dX7_read_132 : decode cX7_read 132 = .ok (.iinc 2 1, 3) := by decide +kernel
theorem dX7_read_135 : decode cX7_read 135 = .ok (.goto (-16), 3) := by decide +kernel
theorem dX7_read_138 : decode cX7_read 138 = .ok (.aload_n 0, 1) := by decide +kernel
theorem dX7_read_139 : decode cX7_read 139 = .ok (.getfield 22, 3) := by decide +kernel
theorem dX7_read_142 : decode cX7_read 142 = .ok (.ireturn, 1) := by decide +kernel
theorem dX7_canStand_0 : decode cX7_canStand 0 = .ok (.aload_n 0, 1) := by decide +kernel
theorem dX7_canStand_1 : decode cX7_canStand 1 = .ok (.getfield 25, 3) := by decide +kernel
theorem dX7_canStand_4 : decode cX7_canStand 4 = .ok (.ifCond .ne 27, 3) := by decide +kernel
theorem dX7_canStand_7 : decode cX7_canStand 7 = .ok (.iload_n 1, 1) := by decide +kernel
theorem dX7_canStand_8 : decode cX7_canStand 8 = .ok (.bipush 111, 2) := by decide +kernel
theorem dX7_canStand_10 : decode cX7_canStand 10 = .ok (.if_icmp .eq 15, 3) := by decide +kernel
theorem dX7_canStand_13 : decode cX7_canStand 13 = .ok (.iload_n 1, 1) := by decide +kernel
theorem dX7_canStand_14 : decode cX7_canStand 14 = .ok (.bipush 110, 2) := by decide +kernel
theorem dX7_canStand_16 : decode cX7_canStand 16 = .ok (.if_icmp .eq 9, 3) := by decide +kernel
theorem dX7_canStand_19 : decode cX7_canStand 19 = .ok (.iload_n 1, 1) := by decide +kernel
theorem dX7_canStand_20 : decode cX7_canStand 20 = .ok (.bipush 98, 2) := by decide +kernel
theorem dX7_canStand_22 : decode cX7_canStand 22 = .ok (.if_icmp .ne 7, 3) := by decide +kernel
theorem dX7_canStand_25 : decode cX7_canStand 25 = .ok (.iconst 1, 1) := by decide +kernel
theorem dX7_canStand_26 : decode cX7_canStand 26 = .ok (.goto 4, 3) := by decide +kernel
theorem dX7_canStand_29 : decode cX7_canStand 29 = .ok (.iconst 0, 1) := by decide +kernel
theorem dX7_canStand_30 : decode cX7_canStand 30 = .ok (.ireturn, 1) := by decide +kernel
theorem dX7_canStand_31 : decode cX7_canStand 31 = .ok (.iload_n 1, 1) := by decide +kernel
theorem dX7_canStand_32 : decode cX7_canStand 32 = .ok (.bipush 48, 2) := by decide +kernel
theorem dX7_canStand_34 : decode cX7_canStand 34 = .ok (.if_icmp .lt 13, 3) := by decide +kernel
theorem dX7_canStand_37 : decode cX7_canStand 37 = .ok (.iload_n 1, 1) := by decide +kernel
theorem dX7_canStand_38 : decode cX7_canStand 38 = .ok (.bipush 57, 2) := by decide +kernel
theorem dX7_canStand_40 : decode cX7_canStand 40 = .ok (.if_icmp .gt 7, 3) := by decide +kernel
theorem dX7_canStand_43 : decode cX7_canStand 43 = .ok (.iconst 1, 1) := by decide +kernel
theorem dX7_canStand_44 : decode cX7_canStand 44 = .ok (.goto 4, 3) := by decide +kernel
theorem dX7_canStand_47 : decode cX7_canStand 47 = .ok (.iconst 0, 1) := by decide +kernel
theorem dX7_canStand_48 : decode cX7_canStand 48 = .ok (.istore_n 3, 1) := by decide +kernel
theorem dX7_canStand_49 : decode cX7_canStand 49 = .ok (.aload_n 0, 1) := by decide +kernel
theorem dX7_canStand_50 : decode cX7_canStand 50 = .ok (.getfield 22, 3) := by decide +kernel
theorem dX7_canStand_53 : decode cX7_canStand 53 = .ok (.bipush 96, 2) := by decide +kernel
theorem dX7_canStand_55 : decode cX7_canStand 55 = .ok (.if_icmp .ge 21, 3) := by decide +kernel
theorem dX7_canStand_58 : decode cX7_canStand 58 = .ok (.iload_n 3, 1) := by decide +kernel
theorem dX7_canStand_59 : decode cX7_canStand 59 = .ok (.ifCond .ne 13, 3) := by decide +kernel
theorem dX7_canStand_62 : decode cX7_canStand 62 = .ok (.iload_n 1, 1) := by decide +kernel
theorem dX7_canStand_63 : decode cX7_canStand 63 = .ok (.bipush 114, 2) := by decide +kernel
theorem dX7_canStand_65 : decode cX7_canStand 65 = .ok (.if_icmp .ne 11, 3) := by decide +kernel
theorem dX7_canStand_68 : decode cX7_canStand 68 = .ok (.iload_n 2, 1) := by decide +kernel
theorem dX7_canStand_69 : decode cX7_canStand 69 = .ok (.ifCond .ne 7, 3) := by decide +kernel
theorem dX7_canStand_72 : decode cX7_canStand 72 = .ok (.iconst 1, 1) := by decide +kernel
theorem dX7_canStand_73 : decode cX7_canStand 73 = .ok (.goto 4, 3) := by decide +kernel
theorem dX7_canStand_76 : decode cX7_canStand 76 = .ok (.iconst 0, 1) := by decide +kernel
theorem dX7_canStand_77 : decode cX7_canStand 77 = .ok (.ireturn, 1) := by decide +kernel
theorem dX7_tell_0 : decode cX7_tell 0 = .ok (.iload_n 2, 1) := by decide +kernel
theorem dX7_tell_1 : decode cX7_tell 1 = .ok (.ifCond .eq 18, 3) := by decide +kernel
theorem dX7_tell_4 : decode cX7_tell 4 = .ok (.aload_n 0, 1) := by decide +kernel
theorem dX7_tell_5 : decode cX7_tell 5 = .ok (.getfield 22, 3) := by decide +kernel
theorem dX7_tell_8 : decode cX7_tell 8 = .ok (.bipush 12, 2) := by decide +kernel
theorem dX7_tell_10 : decode cX7_tell 10 = .ok (.idiv, 1) := by decide +kernel
theorem dX7_tell_11 : decode cX7_tell 11 = .ok (.iconst 1, 1) := by decide +kernel
theorem dX7_tell_12 : decode cX7_tell 12 = .ok (.iadd, 1) := by decide +kernel
theorem dX7_tell_13 : decode cX7_tell 13 = .ok (.bipush 12, 2) := by decide +kernel
theorem dX7_tell_15 : decode cX7_tell 15 = .ok (.imul, 1) := by decide +kernel
theorem dX7_tell_16 : decode cX7_tell 16 = .ok (.goto 9, 3) := by decide +kernel
theorem dX7_tell_19 : decode cX7_tell 19 = .ok (.aload_n 0, 1) := by decide +kernel
theorem dX7_tell_20 : decode cX7_tell 20 = .ok (.getfield 22, 3) := by decide +kernel
theorem dX7_tell_23 : decode cX7_tell 23 = .ok (.iconst 1, 1) := by decide +kernel
theorem dX7_tell_24 : decode cX7_tell 24 = .ok (.iadd, 1) := by decide +kernel
theorem dX7_tell_25 : decode cX7_tell 25 = .ok (.istore_n 3, 1) := by decide +kernel
theorem dX7_tell_26 : decode cX7_tell 26 = .ok (.aload_n 0, 1) := by decide +kernel
theorem dX7_tell_27 : decode cX7_tell 27 = .ok (.getfield 22, 3) := by decide +kernel
theorem dX7_tell_30 : decode cX7_tell 30 = .ok (.istore 4, 2) := by decide +kernel
theorem dX7_tell_32 : decode cX7_tell 32 = .ok (.iload 4, 2) := by decide +kernel
theorem dX7_tell_34 : decode cX7_tell 34 = .ok (.iload_n 3, 1) := by decide +kernel
theorem dX7_tell_35 : decode cX7_tell 35 = .ok (.if_icmp .ge 24, 3) := by decide +kernel
theorem dX7_tell_38 : decode cX7_tell 38 = .ok (.iload 4, 2) := by decide +kernel
theorem dX7_tell_40 : decode cX7_tell 40 = .ok (.bipush 96, 2) := by decide +kernel
theorem dX7_tell_42 : decode cX7_tell 42 = .ok (.if_icmp .ge 17, 3) := by decide +kernel
theorem dX7_tell_45 : decode cX7_tell 45 = .ok (.aload_n 0, 1) := by decide +kernel
theorem dX7_tell_46 : decode cX7_tell 46 = .ok (.getfield 19, 3) := by decide +kernel
theorem dX7_tell_49 : decode cX7_tell 49 = .ok (.iload 4, 2) := by decide +kernel
theorem dX7_tell_51 : decode cX7_tell 51 = .ok (.iload_n 1, 1) := by decide +kernel
theorem dX7_tell_52 : decode cX7_tell 52 = .ok (.iastore, 1) := by decide +kernel
theorem dX7_tell_53 : decode cX7_tell 53 = .ok (.iinc 4 1, 3) := by decide +kernel
theorem dX7_tell_56 : decode cX7_tell 56 = .ok (.goto (-24), 3) := by decide +kernel
theorem dX7_tell_59 : decode cX7_tell 59 = .ok (.aload_n 0, 1) := by decide +kernel
theorem dX7_tell_60 : decode cX7_tell 60 = .ok (.iload_n 3, 1) := by decide +kernel
theorem dX7_tell_61 : decode cX7_tell 61 = .ok (.putfield 22, 3) := by decide +kernel
theorem dX7_tell_64 : decode cX7_tell 64 = .ok (.return_, 1) := by decide +kernel
