theorem dX10_init_0 : decode cX10_init 0 = .ok (.aload_n 0, 1) := by decide +kernel
theorem dX10_init_1 : decode cX10_init 1 = .ok (.invokespecial 1, 3) := by decide +kernel
theorem dX10_init_4 : decode cX10_init 4 = .ok (.aload_n 0, 1) := by decide +kernel
theorem dX10_init_5 : decode cX10_init 5 = .ok (.sipush 373, 3) := by decide +kernel
theorem dX10_init_8 : decode cX10_init 8 = .ok (.newarray .int, 2) := by decide +kernel
theorem dX10_init_10 : decode cX10_init 10 = .ok (.putfield 7, 3) := by decide +kernel
theorem dX10_init_13 : decode cX10_init 13 = .ok (.aload_n 0, 1) := by decide +kernel
theorem dX10_init_14 : decode cX10_init 14 = .ok (.sipush 1492, 3) := by decide +kernel
theorem dX10_init_17 : decode cX10_init 17 = .ok (.newarray .int, 2) := by decide +kernel
theorem dX10_init_19 : decode cX10_init 19 = .ok (.putfield 13, 3) := by decide +kernel
theorem dX10_init_22 : decode cX10_init 22 = .ok (.aload_n 0, 1) := by decide +kernel
theorem dX10_init_23 : decode cX10_init 23 = .ok (.bipush 7, 2) := by decide +kernel
theorem dX10_init_25 : decode cX10_init 25 = .ok (.newarray .int, 2) := by decide +kernel
theorem dX10_init_27 : decode cX10_init 27 = .ok (.putfield 16, 3) := by decide +kernel
theorem dX10_init_30 : decode cX10_init 30 = .ok (.aload_n 0, 1) := by decide +kernel
theorem dX10_init_31 : decode cX10_init 31 = .ok (.bipush 7, 2) := by decide +kernel
theorem dX10_init_33 : decode cX10_init 33 = .ok (.newarray .int, 2) := by decide +kernel
theorem dX10_init_35 : decode cX10_init 35 = .ok (.putfield 19, 3) := by decide +kernel
theorem dX10_init_38 : decode cX10_init 38 = .ok (.aload_n 0, 1) := by decide +kernel
theorem dX10_init_39 : decode cX10_init 39 = .ok (.bipush 49, 2) := by decide +kernel
theorem dX10_init_41 : decode cX10_init 41 = .ok (.newarray .int, 2) := by decide +kernel
theorem dX10_init_43 : decode cX10_init 43 = .ok (.putfield 22, 3) := by decide +kernel
theorem dX10_init_46 : decode cX10_init 46 = .ok (.aload_n 0, 1) := by decide +kernel
theorem dX10_init_47 : decode cX10_init 47 = .ok (.bipush 16, 2) := by decide +kernel
theorem dX10_init_49 : decode cX10_init 49 = .ok (.newarray .int, 2) := by decide +kernel
theorem dX10_init_51 : decode cX10_init 51 = .ok (.putfield 25, 3) := by decide +kernel
theorem dX10_init_54 : decode cX10_init 54 = .ok (.aload_n 0, 1) := by decide +kernel
theorem dX10_init_55 : decode cX10_init 55 = .ok (.bipush 7, 2) := by decide +kernel
theorem dX10_init_57 : decode cX10_init 57 = .ok (.newarray .int, 2) := by decide +kernel
theorem dX10_init_59 : decode cX10_init 59 = .ok (.putfield 28, 3) := by decide +kernel
theorem dX10_init_62 : decode cX10_init 62 = .ok (.aload_n 0, 1) := by decide +kernel
theorem dX10_init_63 : decode cX10_init 63 = .ok (.bipush 8, 2) := by decide +kernel
theorem dX10_init_65 : decode cX10_init 65 = .ok (.newarray .int, 2) := by decide +kernel
theorem dX10_init_67 : decode cX10_init 67 = .ok (.putfield 31, 3) := by decide +kernel
theorem dX10_init_70 : decode cX10_init 70 = .ok (.aload_n 0, 1) := by decide +kernel
theorem dX10_init_71 : decode cX10_init 71 = .ok (.sipush 1274, 3) := by decide +kernel
theorem dX10_init_74 : decode cX10_init 74 = .ok (.newarray .int, 2) := by decide +kernel
theorem dX10_init_76 : decode cX10_init 76 = .ok (.putfield 34, 3) := by decide +kernel
theorem dX10_init_79 : decode cX10_init 79 = .ok (.aload_n 0, 1) := by decide +kernel
theorem dX10_init_80 : decode cX10_init 80 = .ok (.sipush 416, 3) := by decide +kernel
theorem dX10_init_83 : decode cX10_init 83 = .ok (.newarray .int, 2) := by decide +kernel
theorem dX10_init_85 : decode cX10_init 85 = .ok (.putfield 37, 3) := by decide +kernel
theorem dX10_init_88 : decode cX10_init 88 = .ok (.aload_n 0, 1) := by decide +kernel
theorem dX10_init_89 : decode cX10_init 89 = .ok (.bipush 26, 2) := by decide +kernel
theorem dX10_init_91 : decode cX10_init 91 = .ok (.newarray .int, 2) := by decide +kernel
theorem dX10_init_93 : decode cX10_init 93 = .ok (.putfield 40, 3) := by decide +kernel
theorem dX10_init_96 : decode cX10_init 96 = .ok (.aload_n 0, 1) := by decide +kernel
theorem dX10_init_97 : decode cX10_init 97 = .ok (.bipush 26, 2) := by decide +kernel
theorem dX10_init_99 : decode cX10_init 99 = .ok (.newarray .int, 2) := by decide +kernel
theorem dX10_init_101 : decode cX10_init 101 = .ok (.putfield 43, 3) := by decide +kernel
theorem dX10_init_104 : decode cX10_init 104 = .ok (.aload_n 0, 1) := by decide +kernel
theorem dX10_init_105 : decode cX10_init 105 = .ok (.bipush 26, 2) := by decide +kernel
theorem dX10_init_107 : decode cX10_init 107 = .ok (.newarray .int, 2) := by decide +kernel
theorem dX10_init_109 : decode cX10_init 109 = .ok (.putfield 46, 3) := by decide +kernel
theorem dX10_init_112 : decode cX10_init 112 = .ok (.aload_n 0, 1) := by decide +kernel
theorem dX10_init_113 : decode cX10_init 113 = .ok (.bipush 26, 2) := by decide +kernel
theorem dX10_init_115 : decode cX10_init 115 = .ok (.newarray .int, 2) := by decide +kernel
theorem dX10_init_117 : decode cX10_init 117 = .ok (.putfield 49, 3) := by decide +kernel
theorem dX10_init_120 : decode cX10_init 120 = .ok (.iconst 0, 1) := by decide +kernel
theorem dX10_init_121 : decode cX10_init 121 = .ok (.istore_n 1, 1) := by decide +kernel
theorem dX10_init_122 : decode cX10_init 122 = .ok (.iload_n 1, 1) := by decide +kernel
theorem dX10_init_123 : decode cX10_init 123 = .ok (.bipush 8, 2) := by decide +kernel
theorem dX10_init_125 : decode cX10_init 125 = .ok (.if_icmp .ge 18, 3) := by decide +kernel
theorem dX10_init_128 : decode cX10_init 128 = .ok (.aload_n 0, 1) := by decide +kernel
theorem dX10_init_129 : decode cX10_init 129 = .ok (.getfield 7, 3) := by decide +kernel
theorem dX10_init_132 : decode cX10_init 132 = .ok (.iconst 0, 1) := by decide +kernel
theorem dX10_init_133 : decode cX10_init 133 = .ok (.iload_n 1, 1) := by decide +kernel
theorem dX10_init_134 : decode cX10_init 134 = .ok (.iadd, 1) := by decide +kernel
theorem dX10_init_135 : decode cX10_init 135 = .ok (.iconst 1, 1) := by decide +kernel
theorem dX10_init_136 : decode cX10_init 136 = .ok (.iastore, 1) := by decide +kernel
theorem dX10_init_137 : decode cX10_init 137 = .ok (.iinc 1 1, 3) := by decide +kernel
theorem dX10_init_140 : decode cX10_init 140 = .ok (.goto (-18), 3) := by decide +kernel
theorem dX10_init_143 : decode cX10_init 143 = .ok (.iconst 0, 1) := by decide +kernel
theorem dX10_init_144 : decode cX10_init 144 = .ok (.istore_n 1, 1) := by decide +kernel
theorem dX10_init_145 : decode cX10_init 145 = .ok (.iload_n 1, 1) := by decide +kernel
theorem dX10_init_146 : decode cX10_init 146 = .ok (.bipush 49, 2) := by decide +kernel
theorem dX10_init_148 : decode cX10_init 148 = .ok (.if_icmp .ge 20, 3) := by decide +kernel
theorem dX10_init_151 : decode cX10_init 151 = .ok (.aload_n 0, 1) := by decide +kernel
theorem dX10_init_152 : decode cX10_init 152 = .ok (.getfield 7, 3) := by decide +kernel
theorem dX10_init_155 : decode cX10_init 155 = .ok (.sipush 257, 3) := by decide +kernel
theorem dX10_init_158 : decode cX10_init 158 = .ok (.iload_n 1, 1) := by decide +kernel
theorem dX10_init_159 : decode cX10_init 159 = .ok (.iadd, 1) := by decide +kernel
theorem dX10_init_160 : decode cX10_init 160 = .ok (.iconst (-1), 1) := by decide +kernel
theorem dX10_init_161 : decode cX10_init 161 = .ok (.iastore, 1) := by decide +kernel
theorem dX10_init_162 : decode cX10_init 162 = .ok (.iinc 1 1, 3) := by decide +kernel
theorem dX10_init_165 : decode cX10_init 165 = .ok (.goto (-20), 3) := by decide +kernel
theorem dX10_init_168 : decode cX10_init 168 = .ok (.return_, 1) := by decide +kernel
theorem dX10_thrown_0 : decode cX10_thrown 0 = .ok (.aload_n 0, 1) := by decide +kernel
theorem dX10_thrown_1 : decode cX10_thrown 1 = .ok (.getfield 52, 3) := by decide +kernel
theorem dX10_thrown_4 : decode cX10_thrown 4 = .ok (.ireturn, 1) := by decide +kernel
theorem dX10_in_0 : decode cX10_in 0 = .ok (.lload_n 0, 1) := by decide +kernel
theorem dX10_in_1 : decode cX10_in 1 = .ok (.lload_n 2, 1) := by decide +kernel
theorem dX10_in_2 : decode cX10_in 2 = .ok (.lcmp, 1) := by decide +kernel
theorem dX10_in_3 : decode cX10_in 3 = .ok (.ifCond .lt 14, 3) := by decide +kernel
theorem dX10_in_6 : decode cX10_in 6 = .ok (.lload_n 0, 1) := by decide +kernel
theorem dX10_in_7 : decode cX10_in 7 = .ok (.lload 4, 2) := by decide +kernel
theorem dX10_in_9 : decode cX10_in 9 = .ok (.lcmp, 1) := by decide +kernel
theorem dX10_in_10 : decode cX10_in 10 = .ok (.ifCond .gt 7, 3) := by decide +kernel
theorem dX10_in_13 : decode cX10_in 13 = .ok (.iconst 1, 1) := by decide +kernel
theorem dX10_in_14 : decode cX10_in 14 = .ok (.goto 4, 3) := by decide +kernel
theorem dX10_in_17 : decode cX10_in 17 = .ok (.iconst 0, 1) := by decide +kernel
theorem dX10_in_18 : decode cX10_in 18 = .ok (.ireturn, 1) := by decide +kernel
theorem dX10_goes_0 : decode cX10_goes 0 = .ok (.aload_n 0, 1) := by decide +kernel
theorem dX10_goes_1 : decode cX10_goes 1 = .ok (.iload_n 1, 1) := by decide +kernel
theorem dX10_goes_2 : decode cX10_goes 2 = .ok (.ifCond .ne 7, 3) := by decide +kernel
theorem dX10_goes_5 : decode cX10_goes 5 = .ok (.iconst 1, 1) := by decide +kernel
theorem dX10_goes_6 : decode cX10_goes 6 = .ok (.goto 20, 3) := by decide +kernel
theorem dX10_goes_9 : decode cX10_goes 9 = .ok (.iload_n 2, 1) := by decide +kernel
theorem dX10_goes_10 : decode cX10_goes 10 = .ok (.ifCond .ne 7, 3) := by decide +kernel
theorem dX10_goes_13 : decode cX10_goes 13 = .ok (.iconst 2, 1) := by decide +kernel
theorem dX10_goes_14 : decode cX10_goes 14 = .ok (.goto 12, 3) := by decide +kernel
theorem dX10_goes_17 : decode cX10_goes 17 = .ok (.iload_n 3, 1) := by decide +kernel
theorem dX10_goes_18 : decode cX10_goes 18 = .ok (.ifCond .ne 7, 3) := by decide +kernel
theorem dX10_goes_21 : decode cX10_goes 21 = .ok (.iconst 3, 1) := by decide +kernel
theorem dX10_goes_22 : decode cX10_goes 22 = .ok (.goto 4, 3) := by decide +kernel
theorem dX10_goes_25 : decode cX10_goes 25 = .ok (.iconst 0, 1) := by decide +kernel
theorem dX10_goes_26 : decode cX10_goes 26 = .ok (.putfield 52, 3) := by decide +kernel
theorem dX10_goes_29 : decode cX10_goes 29 = .ok (.aload_n 0, 1) := by decide +kernel
theorem dX10_goes_30 : decode cX10_goes 30 = .ok (.getfield 52, 3) := by decide +kernel
theorem dX10_goes_33 : decode cX10_goes 33 = .ok (.ifCond .ne 7, 3) := by decide +kernel
theorem dX10_goes_36 : decode cX10_goes 36 = .ok (.iconst 1, 1) := by decide +kernel
theorem dX10_goes_37 : decode cX10_goes 37 = .ok (.goto 4, 3) := by decide +kernel
theorem dX10_goes_40 : decode cX10_goes 40 = .ok (.iconst 0, 1) := by decide +kernel
theorem dX10_goes_41 : decode cX10_goes 41 = .ok (.ireturn, 1) := by decide +kernel
theorem dX10_save_0 : decode cX10_save 0 = .ok (.aload_n 0, 1) := by decide +kernel
theorem dX10_save_1 : decode cX10_save 1 = .ok (.getfield 56, 3) := by decide +kernel
theorem dX10_save_4 : decode cX10_save 4 = .ok (.iconst 4, 1) := by decide +kernel
theorem dX10_save_5 : decode cX10_save 5 = .ok (.if_icmp .ne 44, 3) := by decide +kernel
theorem dX10_save_8 : decode cX10_save 8 = .ok (.iconst 0, 1) := by decide +kernel
theorem dX10_save_9 : decode cX10_save 9 = .ok (.istore_n 1, 1) := by decide +kernel
theorem dX10_save_10 : decode cX10_save 10 = .ok (.iload_n 1, 1) := by decide +kernel
theorem dX10_save_11 : decode cX10_save 11 = .ok (.sipush 1119, 3) := by decide +kernel
theorem dX10_save_14 : decode cX10_save 14 = .ok (.if_icmp .ge 25, 3) := by decide +kernel
theorem dX10_save_17 : decode cX10_save 17 = .ok (.aload_n 0, 1) := by decide +kernel
theorem dX10_save_18 : decode cX10_save 18 = .ok (.getfield 13, 3) := by decide +kernel
theorem dX10_save_21 : decode cX10_save 21 = .ok (.iload_n 1, 1) := by decide +kernel
theorem dX10_save_22 : decode cX10_save 22 = .ok (.aload_n 0, 1) := by decide +kernel
theorem dX10_save_23 : decode cX10_save 23 = .ok (.getfield 13, 3) := by decide +kernel
theorem dX10_save_26 : decode cX10_save 26 = .ok (.iload_n 1, 1) := by decide +kernel
theorem dX10_save_27 : decode cX10_save 27 = .ok (.sipush 373, 3) := by decide +kernel
theorem dX10_save_30 : decode cX10_save 30 = .ok (.iadd, 1) := by decide +kernel
theorem dX10_save_31 : decode cX10_save 31 = .ok (.iaload, 1) := by decide +kernel
theorem dX10_save_32 : decode cX10_save 32 = .ok (.iastore, 1) := by decide +kernel
theorem dX10_save_33 : decode cX10_save 33 = .ok (.iinc 1 1, 3) := by decide +kernel
theorem dX10_save_36 : decode cX10_save 36 = .ok (.goto (-26), 3) := by decide +kernel
theorem dX10_save_39 : decode cX10_save 39 = .ok (.aload_n 0, 1) := by decide +kernel
theorem dX10_save_40 : decode cX10_save 40 = .ok (.dup, 1) := by decide +kernel
theorem dX10_save_41 : decode cX10_save 41 = .ok (.getfield 56, 3) := by decide +kernel
theorem dX10_save_44 : decode cX10_save 44 = .ok (.iconst 1, 1) := by decide +kernel
theorem dX10_save_45 : decode cX10_save 45 = .ok (.isub, 1) := by decide +kernel
theorem dX10_save_46 : decode cX10_save 46 = .ok (.putfield 56, 3) := by decide +kernel
theorem dX10_save_49 : decode cX10_save 49 = .ok (.iconst 0, 1) := by decide +kernel
theorem dX10_save_50 : decode cX10_save 50 = .ok (.istore_n 1, 1) := by decide +kernel
theorem dX10_save_51 : decode cX10_save 51 = .ok (.iload_n 1, 1) := by decide +kernel
theorem dX10_save_52 : decode cX10_save 52 = .ok (.sipush 373, 3) := by decide +kernel
theorem dX10_save_55 : decode cX10_save 55 = .ok (.if_icmp .ge 30, 3) := by decide +kernel
theorem dX10_save_58 : decode cX10_save 58 = .ok (.aload_n 0, 1) := by decide +kernel
theorem dX10_save_59 : decode cX10_save 59 = .ok (.getfield 13, 3) := by decide +kernel
theorem dX10_save_62 : decode cX10_save 62 = .ok (.sipush 373, 3) := by decide +kernel
theorem dX10_save_65 : decode cX10_save 65 = .ok (.aload_n 0, 1) := by decide +kernel
theorem dX10_save_66 : decode cX10_save 66 = .ok (.getfield 56, 3) := by decide +kernel
theorem dX10_save_69 : decode cX10_save 69 = .ok (.imul, 1) := by decide +kernel
theorem dX10_save_70 : decode cX10_save 70 = .ok (.iload_n 1, 1) := by decide +kernel
theorem dX10_save_71 : decode cX10_save 71 = .ok (.iadd, 1) := by decide +kernel
theorem dX10_save_72 : decode cX10_save 72 = .ok (.aload_n 0, 1) := by decide +kernel
theorem dX10_save_73 : decode cX10_save 73 = .ok (.getfield 7, 3) := by decide +kernel
theorem dX10_save_76 : decode cX10_save 76 = .ok (.iload_n 1, 1) := by decide +kernel
theorem dX10_save_77 : decode cX10_save 77 = .ok (.iaload, 1) := by decide +kernel
theorem dX10_save_78 : decode cX10_save 78 = .ok (.iastore, 1) := by decide +kernel
theorem dX10_save_79 : decode cX10_save 79 = .ok (.iinc 1 1, 3) := by decide +kernel
theorem dX10_save_82 : decode cX10_save 82 = .ok (.goto (-31), 3) := by decide +kernel
theorem dX10_save_85 : decode cX10_save 85 = .ok (.aload_n 0, 1) := by decide +kernel
theorem dX10_save_86 : decode cX10_save 86 = .ok (.dup, 1) := by decide +kernel
theorem dX10_save_87 : decode cX10_save 87 = .ok (.getfield 56, 3) := by decide +kernel
theorem dX10_save_90 : decode cX10_save 90 = .ok (.iconst 1, 1) := by decide +kernel
theorem dX10_save_91 : decode cX10_save 91 = .ok (.iadd, 1) := by decide +kernel
theorem dX10_save_92 : decode cX10_save 92 = .ok (.putfield 56, 3) := by decide +kernel
theorem dX10_save_95 : decode cX10_save 95 = .ok (.return_, 1) := by decide +kernel
theorem dX10_isLetter_0 : decode cX10_isLetter 0 = .ok (.iload_n 0, 1) := by decide +kernel
theorem dX10_isLetter_1 : decode cX10_isLetter 1 = .ok (.i2l, 1) := by decide +kernel
theorem dX10_isLetter_2 : decode cX10_isLetter 2 = .ok (.lconst 0, 1) := by decide +kernel
theorem dX10_isLetter_3 : decode cX10_isLetter 3 = .ok (.ldc2_w 59, 3) := by decide +kernel
theorem dX10_isLetter_6 : decode cX10_isLetter 6 = .ok (.invokestatic 61, 3) := by decide +kernel
theorem dX10_isLetter_9 : decode cX10_isLetter 9 = .ok (.ireturn, 1) := by decide +kernel
theorem dX10_isSquare_0 : decode cX10_isSquare 0 = .ok (.iload_n 0, 1) := by decide +kernel
theorem dX10_isSquare_1 : decode cX10_isSquare 1 = .ok (.i2l, 1) := by decide +kernel
theorem dX10_isSquare_2 : decode cX10_isSquare 2 = .ok (.lconst 0, 1) := by decide +kernel
theorem dX10_isSquare_3 : decode cX10_isSquare 3 = .ok (.ldc2_w 65, 3) := by decide +kernel
theorem dX10_isSquare_6 : decode cX10_isSquare 6 = .ok (.invokestatic 61, 3) := by decide +kernel
theorem dX10_isSquare_9 : decode cX10_isSquare 9 = .ok (.ifCond .eq 19, 3) := by decide +kernel
theorem dX10_isSquare_12 : decode cX10_isSquare 12 = .ok (.iload_n 1, 1) := by decide +kernel
theorem dX10_isSquare_13 : decode cX10_isSquare 13 = .ok (.i2l, 1) := by decide +kernel
theorem dX10_isSquare_14 : decode cX10_isSquare 14 = .ok (.lconst 0, 1) := by decide +kernel
theorem dX10_isSquare_15 : decode cX10_isSquare 15 = .ok (.ldc2_w 65, 3) := by decide +kernel
theorem dX10_isSquare_18 : decode cX10_isSquare 18 = .ok (.invokestatic 61, 3) := by decide +kernel
theorem dX10_isSquare_21 : decode cX10_isSquare 21 = .ok (.ifCond .eq 7, 3) := by decide +kernel
theorem dX10_isSquare_24 : decode cX10_isSquare 24 = .ok (.iconst 1, 1) := by decide +kernel
theorem dX10_isSquare_25 : decode cX10_isSquare 25 = .ok (.goto 4, 3) := by decide +kernel
theorem dX10_isSquare_28 : decode cX10_isSquare 28 = .ok (.iconst 0, 1) := by decide +kernel
theorem dX10_isSquare_29 : decode cX10_isSquare 29 = .ok (.ireturn, 1) := by decide +kernel
theorem dX10_isPlayer_0 : decode cX10_isPlayer 0 = .ok (.iload_n 0, 1) := by decide +kernel
theorem dX10_isPlayer_1 : decode cX10_isPlayer 1 = .ok (.i2l, 1) := by decide +kernel
theorem dX10_isPlayer_2 : decode cX10_isPlayer 2 = .ok (.lconst 0, 1) := by decide +kernel
theorem dX10_isPlayer_3 : decode cX10_isPlayer 3 = .ok (.lconst 1, 1) := by decide +kernel
theorem dX10_isPlayer_4 : decode cX10_isPlayer 4 = .ok (.invokestatic 61, 3) := by decide +kernel
theorem dX10_isPlayer_7 : decode cX10_isPlayer 7 = .ok (.ireturn, 1) := by decide +kernel
theorem dX10_type_0 : decode cX10_type 0 = .ok (.aload_n 0, 1) := by decide +kernel
theorem dX10_type_1 : decode cX10_type 1 = .ok (.iload_n 1, 1) := by decide +kernel
theorem dX10_type_2 : decode cX10_type 2 = .ok (.invokestatic 67, 3) := by decide +kernel
theorem dX10_type_5 : decode cX10_type 5 = .ok (.aload_n 0, 1) := by decide +kernel
theorem dX10_type_6 : decode cX10_type 6 = .ok (.getfield 71, 3) := by decide +kernel
theorem dX10_type_9 : decode cX10_type 9 = .ok (.bipush 7, 2) := by decide +kernel
theorem dX10_type_11 : decode cX10_type 11 = .ok (.if_icmp .ge 7, 3) := by decide +kernel
theorem dX10_type_14 : decode cX10_type 14 = .ok (.iconst 1, 1) := by decide +kernel
theorem dX10_type_15 : decode cX10_type 15 = .ok (.goto 4, 3) := by decide +kernel
theorem dX10_type_18 : decode cX10_type 18 = .ok (.iconst 0, 1) := by decide +kernel
theorem dX10_type_19 : decode cX10_type 19 = .ok (.iconst 1, 1) := by decide +kernel
theorem dX10_type_20 : decode cX10_type 20 = .ok (.invokevirtual 74, 3) := by decide +kernel
theorem dX10_type_23 : decode cX10_type 23 = .ok (.ifCond .ne 5, 3) := by decide +kernel
theorem dX10_type_26 : decode cX10_type 26 = .ok (.iconst 0, 1) := by decide +kernel
theorem dX10_type_27 : decode cX10_type 27 = .ok (.ireturn, 1) := by decide +kernel
theorem dX10_type_28 : decode cX10_type 28 = .ok (.aload_n 0, 1) := by decide +kernel
theorem dX10_type_29 : decode cX10_type 29 = .ok (.getfield 16, 3) := by decide +kernel
theorem dX10_type_32 : decode cX10_type 32 = .ok (.aload_n 0, 1) := by decide +kernel
theorem dX10_type_33 : decode cX10_type 33 = .ok (.getfield 71, 3) := by decide +kernel
theorem dX10_type_36 : decode cX10_type 36 = .ok (.iload_n 1, 1) := by decide +kernel
theorem dX10_type_37 : decode cX10_type 37 = .ok (.iastore, 1) := by decide +kernel
theorem dX10_type_38 : decode cX10_type 38 = .ok (.aload_n 0, 1) := by decide +kernel
theorem dX10_type_39 : decode cX10_type 39 = .ok (.dup, 1) := by decide +kernel
theorem dX10_type_40 : decode cX10_type 40 = .ok (.getfield 71, 3) := by decide +kernel
theorem dX10_type_43 : decode cX10_type 43 = .ok (.iconst 1, 1) := by decide +kernel
theorem dX10_type_44 : decode cX10_type 44 = .ok (.iadd, 1) := by decide +kernel
theorem dX10_type_45 : decode cX10_type 45 = .ok (.putfield 71, 3) := by decide +kernel
theorem dX10_type_48 : decode cX10_type 48 = .ok (.aload_n 0, 1) := by decide +kernel
theorem dX10_type_49 : decode cX10_type 49 = .ok (.getfield 71, 3) := by decide +kernel
theorem dX10_type_52 : decode cX10_type 52 = .ok (.ireturn, 1) := by decide +kernel
theorem dX10_clearText_0 : decode cX10_clearText 0 = .ok (.aload_n 0, 1) := by decide +kernel
theorem dX10_clearText_1 : decode cX10_clearText 1 = .ok (.iconst 0, 1) := by decide +kernel
theorem dX10_clearText_2 : decode cX10_clearText 2 = .ok (.putfield 52, 3) := by decide +kernel
theorem dX10_clearText_5 : decode cX10_clearText 5 = .ok (.aload_n 0, 1) := by decide +kernel
theorem dX10_clearText_6 : decode cX10_clearText 6 = .ok (.getfield 71, 3) := by decide +kernel
theorem dX10_clearText_9 : decode cX10_clearText 9 = .ok (.istore_n 1, 1) := by decide +kernel
theorem dX10_clearText_10 : decode cX10_clearText 10 = .ok (.aload_n 0, 1) := by decide +kernel
theorem dX10_clearText_11 : decode cX10_clearText 11 = .ok (.iconst 0, 1) := by decide +kernel
theorem dX10_clearText_12 : decode cX10_clearText 12 = .ok (.putfield 71, 3) := by decide +kernel
theorem dX10_clearText_15 : decode cX10_clearText 15 = .ok (.iload_n 1, 1) := by decide +kernel
theorem dX10_clearText_16 : decode cX10_clearText 16 = .ok (.ireturn, 1) := by decide +kernel
theorem dX10_takesText_0 : decode cX10_takesText 0 = .ok (.aload_n 0, 1) := by decide +kernel
theorem dX10_takesText_1 : decode cX10_takesText 1 = .ok (.aload_n 0, 1) := by decide +kernel
theorem dX10_takesText_2 : decode cX10_takesText 2 = .ok (.getfield 71, 3) := by decide +kernel
theorem dX10_takesText_5 : decode cX10_takesText 5 = .ok (.putfield 78, 3) := by decide +kernel
theorem dX10_takesText_8 : decode cX10_takesText 8 = .ok (.iconst 0, 1) := by decide +kernel
theorem dX10_takesText_9 : decode cX10_takesText 9 = .ok (.istore_n 1, 1) := by decide +kernel
theorem dX10_takesText_10 : decode cX10_takesText 10 = .ok (.iload_n 1, 1) := by decide +kernel
theorem dX10_takesText_11 : decode cX10_takesText 11 = .ok (.aload_n 0, 1) := by decide +kernel
theorem dX10_takesText_12 : decode cX10_takesText 12 = .ok (.getfield 71, 3) := by decide +kernel
theorem dX10_takesText_15 : decode cX10_takesText 15 = .ok (.if_icmp .ge 21, 3) := by decide +kernel
theorem dX10_takesText_18 : decode cX10_takesText 18 = .ok (.aload_n 0, 1) := by decide +kernel
theorem dX10_takesText_19 : decode cX10_takesText 19 = .ok (.getfield 19, 3) := by decide +kernel
theorem dX10_takesText_22 : decode cX10_takesText 22 = .ok (.iload_n 1, 1) := by decide +kernel
theorem dX10_takesText_23 : decode cX10_takesText 23 = .ok (.aload_n 0, 1) := by decide +kernel
theorem dX10_takesText_24 : decode cX10_takesText 24 = .ok (.getfield 16, 3) := by decide +kernel
theorem dX10_takesText_27 : decode cX10_takesText 27 = .ok (.iload_n 1, 1) := by decide +kernel
theorem dX10_takesText_28 : decode cX10_takesText 28 = .ok (.iaload, 1) := by decide +kernel
theorem dX10_takesText_29 : decode cX10_takesText 29 = .ok (.iastore, 1) := by decide +kernel
theorem dX10_takesText_30 : decode cX10_takesText 30 = .ok (.iinc 1 1, 3) := by decide +kernel
theorem dX10_takesText_33 : decode cX10_takesText 33 = .ok (.goto (-23), 3) := by decide +kernel
theorem dX10_takesText_36 : decode cX10_takesText 36 = .ok (.return_, 1) := by decide +kernel
theorem dX10_takesWord_0 : decode cX10_takesWord 0 = .ok (.aload_n 0, 1) := by decide +kernel
theorem dX10_takesWord_1 : decode cX10_takesWord 1 = .ok (.aload_n 0, 1) := by decide +kernel
theorem dX10_takesWord_2 : decode cX10_takesWord 2 = .ok (.getfield 7, 3) := by decide +kernel
theorem dX10_takesWord_5 : decode cX10_takesWord 5 = .ok (.bipush 17, 2) := by decide +kernel
theorem dX10_takesWord_7 : decode cX10_takesWord 7 = .ok (.bipush 8, 2) := by decide +kernel
theorem dX10_takesWord_9 : decode cX10_takesWord 9 = .ok (.iload_n 1, 1) := by decide +kernel
theorem dX10_takesWord_10 : decode cX10_takesWord 10 = .ok (.imul, 1) := by decide +kernel
theorem dX10_takesWord_11 : decode cX10_takesWord 11 = .ok (.iadd, 1) := by decide +kernel
theorem dX10_takesWord_12 : decode cX10_takesWord 12 = .ok (.iaload, 1) := by decide +kernel
theorem dX10_takesWord_13 : decode cX10_takesWord 13 = .ok (.putfield 78, 3) := by decide +kernel
theorem dX10_takesWord_16 : decode cX10_takesWord 16 = .ok (.iconst 0, 1) := by decide +kernel
theorem dX10_takesWord_17 : decode cX10_takesWord 17 = .ok (.istore_n 2, 1) := by decide +kernel
theorem dX10_takesWord_18 : decode cX10_takesWord 18 = .ok (.iload_n 2, 1) := by decide +kernel
theorem dX10_takesWord_19 : decode cX10_takesWord 19 = .ok (.aload_n 0, 1) := by decide +kernel
theorem dX10_takesWord_20 : decode cX10_takesWord 20 = .ok (.getfield 78, 3) := by decide +kernel
theorem dX10_takesWord_23 : decode cX10_takesWord 23 = .ok (.if_icmp .ge 31, 3) := by decide +kernel
theorem dX10_takesWord_26 : decode cX10_takesWord 26 = .ok (.aload_n 0, 1) := by decide +kernel
theorem dX10_takesWord_27 : decode cX10_takesWord 27 = .ok (.getfield 19, 3) := by decide +kernel
theorem dX10_takesWord_30 : decode cX10_takesWord 30 = .ok (.iload_n 2, 1) := by decide +kernel
theorem dX10_takesWord_31 : decode cX10_takesWord 31 = .ok (.aload_n 0, 1) := by decide +kernel
theorem dX10_takesWord_32 : decode cX10_takesWord 32 = .ok (.getfield 7, 3) := by decide +kernel
theorem dX10_takesWord_35 : decode cX10_takesWord 35 = .ok (.bipush 17, 2) := by decide +kernel
theorem dX10_takesWord_37 : decode cX10_takesWord 37 = .ok (.bipush 8, 2) := by decide +kernel
theorem dX10_takesWord_39 : decode cX10_takesWord 39 = .ok (.iload_n 1, 1) := by decide +kernel
theorem dX10_takesWord_40 : decode cX10_takesWord 40 = .ok (.imul, 1) := by decide +kernel
theorem dX10_takesWord_41 : decode cX10_takesWord 41 = .ok (.iadd, 1) := by decide +kernel
theorem dX10_takesWord_42 : decode cX10_takesWord 42 = .ok (.iconst 1, 1) := by decide +kernel
theorem dX10_takesWord_43 : decode cX10_takesWord 43 = .ok (.iadd, 1) := by decide +kernel
theorem dX10_takesWord_44 : decode cX10_takesWord 44 = .ok (.iload_n 2, 1) := by decide +kernel
theorem dX10_takesWord_45 : decode cX10_takesWord 45 = .ok (.iadd, 1) := by decide +kernel
theorem dX10_takesWord_46 : decode cX10_takesWord 46 = .ok (.iaload, 1) := by decide +kernel
theorem dX10_takesWord_47 : decode cX10_takesWord 47 = .ok (.iastore, 1) := by decide +kernel
theorem dX10_takesWord_48 : decode cX10_takesWord 48 = .ok (.iinc 2 1, 3) := by decide +kernel
theorem dX10_takesWord_51 : decode cX10_takesWord 51 = .ok (.goto (-33), 3) := by decide +kernel
theorem dX10_takesWord_54 : decode cX10_takesWord 54 = .ok (.return_, 1) := by decide +kernel
theorem dX10_against_0 : decode cX10_against 0 = .ok (.aload_n 0, 1) := by decide +kernel
theorem dX10_against_1 : decode cX10_against 1 = .ok (.getfield 7, 3) := by decide +kernel
theorem dX10_against_4 : decode cX10_against 4 = .ok (.bipush 17, 2) := by decide +kernel
theorem dX10_against_6 : decode cX10_against 6 = .ok (.bipush 8, 2) := by decide +kernel
theorem dX10_against_8 : decode cX10_against 8 = .ok (.iload_n 1, 1) := by decide +kernel
theorem dX10_against_9 : decode cX10_against 9 = .ok (.imul, 1) := by decide +kernel
theorem dX10_against_10 : decode cX10_against 10 = .ok (.iadd, 1) := by decide +kernel
theorem dX10_against_11 : decode cX10_against 11 = .ok (.iaload, 1) := by decide +kernel
theorem dX10_against_12 : decode cX10_against 12 = .ok (.istore_n 2, 1) := by decide +kernel
theorem dX10_against_13 : decode cX10_against 13 = .ok (.iconst 0, 1) := by decide +kernel
theorem dX10_against_14 : decode cX10_against 14 = .ok (.istore_n 3, 1) := by decide +kernel
theorem dX10_against_15 : decode cX10_against 15 = .ok (.iload_n 3, 1) := by decide +kernel
theorem dX10_against_16 : decode cX10_against 16 = .ok (.iload_n 2, 1) := by decide +kernel
theorem dX10_against_17 : decode cX10_against 17 = .ok (.if_icmp .ge 50, 3) := by decide +kernel
theorem dX10_against_20 : decode cX10_against 20 = .ok (.iload_n 3, 1) := by decide +kernel
theorem dX10_against_21 : decode cX10_against 21 = .ok (.aload_n 0, 1) := by decide +kernel
theorem dX10_against_22 : decode cX10_against 22 = .ok (.getfield 78, 3) := by decide +kernel
theorem dX10_against_25 : decode cX10_against 25 = .ok (.if_icmp .ge 42, 3) := by decide +kernel
theorem dX10_against_28 : decode cX10_against 28 = .ok (.aload_n 0, 1) := by decide +kernel
theorem dX10_against_29 : decode cX10_against 29 = .ok (.getfield 7, 3) := by decide +kernel
theorem dX10_against_32 : decode cX10_against 32 = .ok (.bipush 17, 2) := by decide +kernel
theorem dX10_against_34 : decode cX10_against 34 = .ok (.bipush 8, 2) := by decide +kernel
theorem dX10_against_36 : decode cX10_against 36 = .ok (.iload_n 1, 1) := by decide +kernel
theorem dX10_against_37 : decode cX10_against 37 = .ok (.imul, 1) := by decide +kernel
theorem dX10_against_38 : decode cX10_against 38 = .ok (.iadd, 1) := by decide +kernel
theorem dX10_against_39 : decode cX10_against 39 = .ok (.iconst 1, 1) := by decide +kernel
theorem dX10_against_40 : decode cX10_against 40 = .ok (.iadd, 1) := by decide +kernel
theorem dX10_against_41 : decode cX10_against 41 = .ok (.iload_n 3, 1) := by decide +kernel
theorem dX10_against_42 : decode cX10_against 42 = .ok (.iadd, 1) := by decide +kernel
theorem dX10_against_43 : decode cX10_against 43 = .ok (.iaload, 1) := by decide +kernel
theorem dX10_against_44 : decode cX10_against 44 = .ok (.aload_n 0, 1) := by decide +kernel
theorem dX10_against_45 : decode cX10_against 45 = .ok (.getfield 19, 3) := by decide +kernel
theorem dX10_against_48 : decode cX10_against 48 = .ok (.iload_n 3, 1) := by decide +kernel
theorem dX10_against_49 : decode cX10_against 49 = .ok (.iaload, 1) := by decide +kernel
theorem dX10_against_50 : decode cX10_against 50 = .ok (.isub, 1) := by decide +kernel
theorem dX10_against_51 : decode cX10_against 51 = .ok (.istore 4, 2) := by decide +kernel
theorem dX10_against_53 : decode cX10_against 53 = .ok (.iload 4, 2) := by decide +kernel
theorem dX10_against_55 : decode cX10_against 55 = .ok (.ifCond .eq 6, 3) := by decide +kernel
theorem dX10_against_58 : decode cX10_against 58 = .ok (.iload 4, 2) := by decide +kernel
theorem dX10_against_60 : decode cX10_against 60 = .ok (.ireturn, 1) := by decide +kernel
theorem dX10_against_61 : decode cX10_against 61 = .ok (.iinc 3 1, 3) := by decide +kernel
theorem dX10_against_64 : decode cX10_against 64 = .ok (.goto (-49), 3) := by decide +kernel
theorem dX10_against_67 : decode cX10_against 67 = .ok (.iload_n 2, 1) := by decide +kernel
theorem dX10_against_68 : decode cX10_against 68 = .ok (.aload_n 0, 1) := by decide +kernel
theorem dX10_against_69 : decode cX10_against 69 = .ok (.getfield 78, 3) := by decide +kernel
theorem dX10_against_72 : decode cX10_against 72 = .ok (.isub, 1) := by decide +kernel
theorem dX10_against_73 : decode cX10_against 73 = .ok (.ireturn, 1) := by decide +kernel
theorem dX10_foundAt_0 : decode cX10_foundAt 0 = .ok (.iconst 0, 1) := by decide +kernel
theorem dX10_foundAt_1 : decode cX10_foundAt 1 = .ok (.istore_n 1, 1) := by decide +kernel
theorem dX10_foundAt_2 : decode cX10_foundAt 2 = .ok (.iload_n 1, 1) := by decide +kernel
theorem dX10_foundAt_3 : decode cX10_foundAt 3 = .ok (.aload_n 0, 1) := by decide +kernel
theorem dX10_foundAt_4 : decode cX10_foundAt 4 = .ok (.getfield 7, 3) := by decide +kernel
theorem dX10_foundAt_7 : decode cX10_foundAt 7 = .ok (.bipush 16, 2) := by decide +kernel
theorem dX10_foundAt_9 : decode cX10_foundAt 9 = .ok (.iaload, 1) := by decide +kernel
theorem dX10_foundAt_10 : decode cX10_foundAt 10 = .ok (.if_icmp .ge 19, 3) := by decide +kernel
theorem dX10_foundAt_13 : decode cX10_foundAt 13 = .ok (.aload_n 0, 1) := by decide +kernel
theorem dX10_foundAt_14 : decode cX10_foundAt 14 = .ok (.iload_n 1, 1) := by decide +kernel
theorem dX10_foundAt_15 : decode cX10_foundAt 15 = .ok (.invokevirtual 81, 3) := by decide +kernel
theorem dX10_foundAt_18 : decode cX10_foundAt 18 = .ok (.ifCond .ne 5, 3) := by decide +kernel
theorem dX10_foundAt_21 : decode cX10_foundAt 21 = .ok (.iload_n 1, 1) := by decide +kernel
theorem dX10_foundAt_22 : decode cX10_foundAt 22 = .ok (.ireturn, 1) := by decide +kernel
theorem dX10_foundAt_23 : decode cX10_foundAt 23 = .ok (.iinc 1 1, 3) := by decide +kernel
theorem dX10_foundAt_26 : decode cX10_foundAt 26 = .ok (.goto (-24), 3) := by decide +kernel
theorem dX10_foundAt_29 : decode cX10_foundAt 29 = .ok (.iconst (-1), 1) := by decide +kernel
theorem dX10_foundAt_30 : decode cX10_foundAt 30 = .ok (.ireturn, 1) := by decide +kernel
theorem dX10_addWord_0 : decode cX10_addWord 0 = .ok (.aload_n 0, 1) := by decide +kernel
theorem dX10_addWord_1 : decode cX10_addWord 1 = .ok (.aload_n 0, 1) := by decide +kernel
theorem dX10_addWord_2 : decode cX10_addWord 2 = .ok (.getfield 71, 3) := by decide +kernel
theorem dX10_addWord_5 : decode cX10_addWord 5 = .ok (.iconst 2, 1) := by decide +kernel
theorem dX10_addWord_6 : decode cX10_addWord 6 = .ok (.if_icmp .lt 19, 3) := by decide +kernel
theorem dX10_addWord_9 : decode cX10_addWord 9 = .ok (.aload_n 0, 1) := by decide +kernel
theorem dX10_addWord_10 : decode cX10_addWord 10 = .ok (.getfield 7, 3) := by decide +kernel
theorem dX10_addWord_13 : decode cX10_addWord 13 = .ok (.bipush 16, 2) := by decide +kernel
theorem dX10_addWord_15 : decode cX10_addWord 15 = .ok (.iaload, 1) := by decide +kernel
theorem dX10_addWord_16 : decode cX10_addWord 16 = .ok (.bipush 30, 2) := by decide +kernel
theorem dX10_addWord_18 : decode cX10_addWord 18 = .ok (.if_icmp .ge 7, 3) := by decide +kernel
theorem dX10_addWord_21 : decode cX10_addWord 21 = .ok (.iconst 1, 1) := by decide +kernel
theorem dX10_addWord_22 : decode cX10_addWord 22 = .ok (.goto 4, 3) := by decide +kernel
theorem dX10_addWord_25 : decode cX10_addWord 25 = .ok (.iconst 0, 1) := by decide +kernel
theorem dX10_addWord_26 : decode cX10_addWord 26 = .ok (.iconst 1, 1) := by decide +kernel
theorem dX10_addWord_27 : decode cX10_addWord 27 = .ok (.iconst 1, 1) := by decide +kernel
theorem dX10_addWord_28 : decode cX10_addWord 28 = .ok (.invokevirtual 74, 3) := by decide +kernel
theorem dX10_addWord_31 : decode cX10_addWord 31 = .ok (.ifCond .ne 5, 3) := by decide +kernel
theorem dX10_addWord_34 : decode cX10_addWord 34 = .ok (.iconst 0, 1) := by decide +kernel
theorem dX10_addWord_35 : decode cX10_addWord 35 = .ok (.ireturn, 1) := by decide +kernel
theorem dX10_addWord_36 : decode cX10_addWord 36 = .ok (.aload_n 0, 1) := by decide +kernel
theorem dX10_addWord_37 : decode cX10_addWord 37 = .ok (.invokevirtual 85, 3) := by decide +kernel
theorem dX10_addWord_40 : decode cX10_addWord 40 = .ok (.aload_n 0, 1) := by decide +kernel
theorem dX10_addWord_41 : decode cX10_addWord 41 = .ok (.invokevirtual 88, 3) := by decide +kernel
theorem dX10_addWord_44 : decode cX10_addWord 44 = .ok (.aload_n 0, 1) := by decide +kernel
theorem dX10_addWord_45 : decode cX10_addWord 45 = .ok (.iconst 0, 1) := by decide +kernel
theorem dX10_addWord_46 : decode cX10_addWord 46 = .ok (.putfield 71, 3) := by decide +kernel
theorem dX10_addWord_49 : decode cX10_addWord 49 = .ok (.aload_n 0, 1) := by decide +kernel
theorem dX10_addWord_50 : decode cX10_addWord 50 = .ok (.invokevirtual 91, 3) := by decide +kernel
theorem dX10_addWord_53 : decode cX10_addWord 53 = .ok (.iconst (-1), 1) := by decide +kernel
theorem dX10_addWord_54 : decode cX10_addWord 54 = .ok (.if_icmp .eq 11, 3) := by decide +kernel
theorem dX10_addWord_57 : decode cX10_addWord 57 = .ok (.aload_n 0, 1) := by decide +kernel
theorem dX10_addWord_58 : decode cX10_addWord 58 = .ok (.getfield 7, 3) := by decide +kernel
theorem dX10_addWord_61 : decode cX10_addWord 61 = .ok (.bipush 16, 2) := by decide +kernel
theorem dX10_addWord_63 : decode cX10_addWord 63 = .ok (.iaload, 1) := by decide +kernel
theorem dX10_addWord_64 : decode cX10_addWord 64 = .ok (.ireturn, 1) := by decide +kernel
theorem dX10_addWord_65 : decode cX10_addWord 65 = .ok (.iconst 0, 1) := by decide +kernel
theorem dX10_addWord_66 : decode cX10_addWord 66 = .ok (.istore_n 1, 1) := by decide +kernel
theorem dX10_addWord_67 : decode cX10_addWord 67 = .ok (.iload_n 1, 1) := by decide +kernel
theorem dX10_addWord_68 : decode cX10_addWord 68 = .ok (.aload_n 0, 1) := by decide +kernel
theorem dX10_addWord_69 : decode cX10_addWord 69 = .ok (.getfield 7, 3) := by decide +kernel
theorem dX10_addWord_72 : decode cX10_addWord 72 = .ok (.bipush 16, 2) := by decide +kernel
theorem dX10_addWord_74 : decode cX10_addWord 74 = .ok (.iaload, 1) := by decide +kernel
theorem dX10_addWord_75 : decode cX10_addWord 75 = .ok (.if_icmp .ge 17, 3) := by decide +kernel
theorem dX10_addWord_78 : decode cX10_addWord 78 = .ok (.aload_n 0, 1) := by decide +kernel
theorem dX10_addWord_79 : decode cX10_addWord 79 = .ok (.iload_n 1, 1) := by decide +kernel
theorem dX10_addWord_80 : decode cX10_addWord 80 = .ok (.invokevirtual 81, 3) := by decide +kernel
theorem dX10_addWord_83 : decode cX10_addWord 83 = .ok (.ifCond .ge 9, 3) := by decide +kernel
theorem dX10_addWord_86 : decode cX10_addWord 86 = .ok (.iinc 1 1, 3) := by decide +kernel
theorem dX10_addWord_89 : decode cX10_addWord 89 = .ok (.goto (-22), 3) := by decide +kernel
theorem dX10_addWord_92 : decode cX10_addWord 92 = .ok (.bipush 17, 2) := by decide +kernel
theorem dX10_addWord_94 : decode cX10_addWord 94 = .ok (.bipush 8, 2) := by decide +kernel
theorem dX10_addWord_96 : decode cX10_addWord 96 = .ok (.aload_n 0, 1) := by decide +kernel
theorem dX10_addWord_97 : decode cX10_addWord 97 = .ok (.getfield 7, 3) := by decide +kernel
theorem dX10_addWord_100 : decode cX10_addWord 100 = .ok (.bipush 16, 2) := by decide +kernel
theorem dX10_addWord_102 : decode cX10_addWord 102 = .ok (.iaload, 1) := by decide +kernel
theorem dX10_addWord_103 : decode cX10_addWord 103 = .ok (.imul, 1) := by decide +kernel
theorem dX10_addWord_104 : decode cX10_addWord 104 = .ok (.iadd, 1) := by decide +kernel
theorem dX10_addWord_105 : decode cX10_addWord 105 = .ok (.bipush 7, 2) := by decide +kernel
theorem dX10_addWord_107 : decode cX10_addWord 107 = .ok (.iadd, 1) := by decide +kernel
theorem dX10_addWord_108 : decode cX10_addWord 108 = .ok (.istore_n 2, 1) := by decide +kernel
theorem dX10_addWord_109 : decode cX10_addWord 109 = .ok (.iload_n 2, 1) := by decide +kernel
theorem dX10_addWord_110 : decode cX10_addWord 110 = .ok (.bipush 17, 2) := by decide +kernel
theorem dX10_addWord_112 : decode cX10_addWord 112 = .ok (.bipush 8, 2) := by decide +kernel
theorem dX10_addWord_114 : decode cX10_addWord 114 = .ok (.iload_n 1, 1) := by decide +kernel
theorem dX10_addWord_115 : decode cX10_addWord 115 = .ok (.imul, 1) := by decide +kernel
theorem dX10_addWord_116 : decode cX10_addWord 116 = .ok (.iadd, 1) := by decide +kernel
theorem dX10_addWord_117 : decode cX10_addWord 117 = .ok (.bipush 8, 2) := by decide +kernel
theorem dX10_addWord_119 : decode cX10_addWord 119 = .ok (.iadd, 1) := by decide +kernel
theorem dX10_addWord_120 : decode cX10_addWord 120 = .ok (.if_icmp .lt 24, 3) := by decide +kernel
theorem dX10_addWord_123 : decode cX10_addWord 123 = .ok (.aload_n 0, 1) := by decide +kernel
theorem dX10_addWord_124 : decode cX10_addWord 124 = .ok (.getfield 7, 3) := by decide +kernel
theorem dX10_addWord_127 : decode cX10_addWord 127 = .ok (.iload_n 2, 1) := by decide +kernel
theorem dX10_addWord_128 : decode cX10_addWord 128 = .ok (.aload_n 0, 1) := by decide +kernel
theorem dX10_addWord_129 : decode cX10_addWord 129 = .ok (.getfield 7, 3) := by decide +kernel
theorem dX10_addWord_132 : decode cX10_addWord 132 = .ok (.iload_n 2, 1) := by decide +kernel
theorem dX10_addWord_133 : decode cX10_addWord 133 = .ok (.bipush 8, 2) := by decide +kernel
theorem dX10_addWord_135 : decode cX10_addWord 135 = .ok (.isub, 1) := by decide +kernel
theorem dX10_addWord_136 : decode cX10_addWord 136 = .ok (.iaload, 1) := by decide +kernel
theorem dX10_addWord_137 : decode cX10_addWord 137 = .ok (.iastore, 1) := by decide +kernel
theorem dX10_addWord_138 : decode cX10_addWord 138 = .ok (.iinc 2 (-1), 3) := by decide +kernel
theorem dX10_addWord_141 : decode cX10_addWord 141 = .ok (.goto (-32), 3) := by decide +kernel
theorem dX10_addWord_144 : decode cX10_addWord 144 = .ok (.aload_n 0, 1) := by decide +kernel
theorem dX10_addWord_145 : decode cX10_addWord 145 = .ok (.getfield 7, 3) := by decide +kernel
theorem dX10_addWord_148 : decode cX10_addWord 148 = .ok (.bipush 17, 2) := by decide +kernel
theorem dX10_addWord_150 : decode cX10_addWord 150 = .ok (.bipush 8, 2) := by decide +kernel
theorem dX10_addWord_152 : decode cX10_addWord 152 = .ok (.iload_n 1, 1) := by decide +kernel
theorem dX10_addWord_153 : decode cX10_addWord 153 = .ok (.imul, 1) := by decide +kernel
theorem dX10_addWord_154 : decode cX10_addWord 154 = .ok (.iadd, 1) := by decide +kernel
theorem dX10_addWord_155 : decode cX10_addWord 155 = .ok (.aload_n 0, 1) := by decide +kernel
theorem dX10_addWord_156 : decode cX10_addWord 156 = .ok (.getfield 78, 3) := by decide +kernel
theorem dX10_addWord_159 : decode cX10_addWord 159 = .ok (.iastore, 1) := by decide +kernel
theorem dX10_addWord_160 : decode cX10_addWord 160 = .ok (.iconst 0, 1) := by decide +kernel
theorem dX10_addWord_161 : decode cX10_addWord 161 = .ok (.istore_n 2, 1) := by decide +kernel
theorem dX10_addWord_162 : decode cX10_addWord 162 = .ok (.iload_n 2, 1) := by decide +kernel
theorem dX10_addWord_163 : decode cX10_addWord 163 = .ok (.bipush 7, 2) := by decide +kernel
theorem dX10_addWord_165 : decode cX10_addWord 165 = .ok (.if_icmp .ge 43, 3) := by decide +kernel
theorem dX10_addWord_168 : decode cX10_addWord 168 = .ok (.aload_n 0, 1) := by decide +kernel
theorem dX10_addWord_169 : decode cX10_addWord 169 = .ok (.getfield 7, 3) := by decide +kernel
theorem dX10_addWord_172 : decode cX10_addWord 172 = .ok (.bipush 17, 2) := by decide +kernel
theorem dX10_addWord_174 : decode cX10_addWord 174 = .ok (.bipush 8, 2) := by decide +kernel
theorem dX10_addWord_176 : decode cX10_addWord 176 = .ok (.iload_n 1, 1) := by decide +kernel
theorem dX10_addWord_177 : decode cX10_addWord 177 = .ok (.imul, 1) := by decide +kernel
theorem dX10_addWord_178 : decode cX10_addWord 178 = .ok (.iadd, 1) := by decide +kernel
theorem dX10_addWord_179 : decode cX10_addWord 179 = .ok (.iconst 1, 1) := by decide +kernel
theorem dX10_addWord_180 : decode cX10_addWord 180 = .ok (.iadd, 1) := by decide +kernel
theorem dX10_addWord_181 : decode cX10_addWord 181 = .ok (.iload_n 2, 1) := by decide +kernel
theorem dX10_addWord_182 : decode cX10_addWord 182 = .ok (.iadd, 1) := by decide +kernel
theorem dX10_addWord_183 : decode cX10_addWord 183 = .ok (.iload_n 2, 1) := by decide +kernel
theorem dX10_addWord_184 : decode cX10_addWord 184 = .ok (.aload_n 0, 1) := by decide +kernel
theorem dX10_addWord_185 : decode cX10_addWord 185 = .ok (.getfield 78, 3) := by decide +kernel
theorem dX10_addWord_188 : decode cX10_addWord 188 = .ok (.if_icmp .ge 12, 3) := by decide +kernel
theorem dX10_addWord_191 : decode cX10_addWord 191 = .ok (.aload_n 0, 1) := by decide +kernel
theorem dX10_addWord_192 : decode cX10_addWord 192 = .ok (.getfield 19, 3) := by decide +kernel
theorem dX10_addWord_195 : decode cX10_addWord 195 = .ok (.iload_n 2, 1) := by decide +kernel
theorem dX10_addWord_196 : decode cX10_addWord 196 = .ok (.iaload, 1) := by decide +kernel
theorem dX10_addWord_197 : decode cX10_addWord 197 = .ok (.goto 4, 3) := by decide +kernel
theorem dX10_addWord_200 : decode cX10_addWord 200 = .ok (.iconst 0, 1) := by decide +kernel
theorem dX10_addWord_201 : decode cX10_addWord 201 = .ok (.iastore, 1) := by decide +kernel
theorem dX10_addWord_202 : decode cX10_addWord 202 = .ok (.iinc 2 1, 3) := by decide +kernel
theorem dX10_addWord_205 : decode cX10_addWord 205 = .ok (.goto (-43), 3) := by decide +kernel
theorem dX10_addWord_208 : decode cX10_addWord 208 = .ok (.aload_n 0, 1) := by decide +kernel
theorem dX10_addWord_209 : decode cX10_addWord 209 = .ok (.getfield 7, 3) := by decide +kernel
theorem dX10_addWord_212 : decode cX10_addWord 212 = .ok (.bipush 16, 2) := by decide +kernel
theorem dX10_addWord_214 : decode cX10_addWord 214 = .ok (.dup2, 1) := by decide +kernel
theorem dX10_addWord_215 : decode cX10_addWord 215 = .ok (.iaload, 1) := by decide +kernel
theorem dX10_addWord_216 : decode cX10_addWord 216 = .ok (.iconst 1, 1) := by decide +kernel
theorem dX10_addWord_217 : decode cX10_addWord 217 = .ok (.iadd, 1) := by decide +kernel
theorem dX10_addWord_218 : decode cX10_addWord 218 = .ok (.iastore, 1) := by decide +kernel
theorem dX10_addWord_219 : decode cX10_addWord 219 = .ok (.aload_n 0, 1) := by decide +kernel
theorem dX10_addWord_220 : decode cX10_addWord 220 = .ok (.getfield 7, 3) := by decide +kernel
theorem dX10_addWord_223 : decode cX10_addWord 223 = .ok (.bipush 16, 2) := by decide +kernel
theorem dX10_addWord_225 : decode cX10_addWord 225 = .ok (.iaload, 1) := by decide +kernel
theorem dX10_addWord_226 : decode cX10_addWord 226 = .ok (.ireturn, 1) := by decide +kernel
theorem dX10_lookUp_0 : decode cX10_lookUp 0 = .ok (.aload_n 0, 1) := by decide +kernel
theorem dX10_lookUp_1 : decode cX10_lookUp 1 = .ok (.iconst 0, 1) := by decide +kernel
theorem dX10_lookUp_2 : decode cX10_lookUp 2 = .ok (.putfield 52, 3) := by decide +kernel
theorem dX10_lookUp_5 : decode cX10_lookUp 5 = .ok (.aload_n 0, 1) := by decide +kernel
theorem dX10_lookUp_6 : decode cX10_lookUp 6 = .ok (.invokevirtual 88, 3) := by decide +kernel
theorem dX10_lookUp_9 : decode cX10_lookUp 9 = .ok (.aload_n 0, 1) := by decide +kernel
theorem dX10_lookUp_10 : decode cX10_lookUp 10 = .ok (.invokevirtual 91, 3) := by decide +kernel
theorem dX10_lookUp_13 : decode cX10_lookUp 13 = .ok (.ireturn, 1) := by decide +kernel
theorem dX10_setLetter_0 : decode cX10_setLetter 0 = .ok (.aload_n 0, 1) := by decide +kernel
theorem dX10_setLetter_1 : decode cX10_setLetter 1 = .ok (.iload_n 1, 1) := by decide +kernel
theorem dX10_setLetter_2 : decode cX10_setLetter 2 = .ok (.invokestatic 67, 3) := by decide +kernel
theorem dX10_setLetter_5 : decode cX10_setLetter 5 = .ok (.ifCond .eq 33, 3) := by decide +kernel
theorem dX10_setLetter_8 : decode cX10_setLetter 8 = .ok (.iload_n 2, 1) := by decide +kernel
theorem dX10_setLetter_9 : decode cX10_setLetter 9 = .ok (.i2l, 1) := by decide +kernel
theorem dX10_setLetter_10 : decode cX10_setLetter 10 = .ok (.lconst 1, 1) := by decide +kernel
theorem dX10_setLetter_11 : decode cX10_setLetter 11 = .ok (.ldc2_w 95, 3) := by decide +kernel
theorem dX10_setLetter_14 : decode cX10_setLetter 14 = .ok (.invokestatic 61, 3) := by decide +kernel
theorem dX10_setLetter_17 : decode cX10_setLetter 17 = .ok (.ifCond .eq 21, 3) := by decide +kernel
theorem dX10_setLetter_20 : decode cX10_setLetter 20 = .ok (.iload_n 3, 1) := by decide +kernel
theorem dX10_setLetter_21 : decode cX10_setLetter 21 = .ok (.i2l, 1) := by decide +kernel
theorem dX10_setLetter_22 : decode cX10_setLetter 22 = .ok (.ldc2_w 97, 3) := by decide +kernel
theorem dX10_setLetter_25 : decode cX10_setLetter 25 = .ok (.ldc2_w 99, 3) := by decide +kernel
theorem dX10_setLetter_28 : decode cX10_setLetter 28 = .ok (.invokestatic 61, 3) := by decide +kernel
theorem dX10_setLetter_31 : decode cX10_setLetter 31 = .ok (.ifCond .eq 7, 3) := by decide +kernel
theorem dX10_setLetter_34 : decode cX10_setLetter 34 = .ok (.iconst 1, 1) := by decide +kernel
theorem dX10_setLetter_35 : decode cX10_setLetter 35 = .ok (.goto 4, 3) := by decide +kernel
theorem dX10_setLetter_38 : decode cX10_setLetter 38 = .ok (.iconst 0, 1) := by decide +kernel
theorem dX10_setLetter_39 : decode cX10_setLetter 39 = .ok (.iconst 1, 1) := by decide +kernel
theorem dX10_setLetter_40 : decode cX10_setLetter 40 = .ok (.iconst 1, 1) := by decide +kernel
theorem dX10_setLetter_41 : decode cX10_setLetter 41 = .ok (.invokevirtual 74, 3) := by decide +kernel
theorem dX10_setLetter_44 : decode cX10_setLetter 44 = .ok (.ifCond .ne 5, 3) := by decide +kernel
theorem dX10_setLetter_47 : decode cX10_setLetter 47 = .ok (.iconst 0, 1) := by decide +kernel
theorem dX10_setLetter_48 : decode cX10_setLetter 48 = .ok (.ireturn, 1) := by decide +kernel
theorem dX10_setLetter_49 : decode cX10_setLetter 49 = .ok (.aload_n 0, 1) := by decide +kernel
theorem dX10_setLetter_50 : decode cX10_setLetter 50 = .ok (.invokevirtual 85, 3) := by decide +kernel
theorem dX10_setLetter_53 : decode cX10_setLetter 53 = .ok (.aload_n 0, 1) := by decide +kernel
theorem dX10_setLetter_54 : decode cX10_setLetter 54 = .ok (.getfield 7, 3) := by decide +kernel
theorem dX10_setLetter_57 : decode cX10_setLetter 57 = .ok (.iconst 0, 1) := by decide +kernel
theorem dX10_setLetter_58 : decode cX10_setLetter 58 = .ok (.iload_n 1, 1) := by decide +kernel
theorem dX10_setLetter_59 : decode cX10_setLetter 59 = .ok (.iadd, 1) := by decide +kernel
theorem dX10_setLetter_60 : decode cX10_setLetter 60 = .ok (.iaload, 1) := by decide +kernel
theorem dX10_setLetter_61 : decode cX10_setLetter 61 = .ok (.istore 4, 2) := by decide +kernel
theorem dX10_setLetter_63 : decode cX10_setLetter 63 = .ok (.aload_n 0, 1) := by decide +kernel
theorem dX10_setLetter_64 : decode cX10_setLetter 64 = .ok (.getfield 7, 3) := by decide +kernel
theorem dX10_setLetter_67 : decode cX10_setLetter 67 = .ok (.iconst 0, 1) := by decide +kernel
theorem dX10_setLetter_68 : decode cX10_setLetter 68 = .ok (.iload_n 1, 1) := by decide +kernel
theorem dX10_setLetter_69 : decode cX10_setLetter 69 = .ok (.iadd, 1) := by decide +kernel
theorem dX10_setLetter_70 : decode cX10_setLetter 70 = .ok (.iload_n 2, 1) := by decide +kernel
theorem dX10_setLetter_71 : decode cX10_setLetter 71 = .ok (.iastore, 1) := by decide +kernel
theorem dX10_setLetter_72 : decode cX10_setLetter 72 = .ok (.aload_n 0, 1) := by decide +kernel
theorem dX10_setLetter_73 : decode cX10_setLetter 73 = .ok (.getfield 7, 3) := by decide +kernel
theorem dX10_setLetter_76 : decode cX10_setLetter 76 = .ok (.bipush 8, 2) := by decide +kernel
theorem dX10_setLetter_78 : decode cX10_setLetter 78 = .ok (.iload_n 1, 1) := by decide +kernel
theorem dX10_setLetter_79 : decode cX10_setLetter 79 = .ok (.iadd, 1) := by decide +kernel
theorem dX10_setLetter_80 : decode cX10_setLetter 80 = .ok (.iload_n 3, 1) := by decide +kernel
theorem dX10_setLetter_81 : decode cX10_setLetter 81 = .ok (.iastore, 1) := by decide +kernel
theorem dX10_setLetter_82 : decode cX10_setLetter 82 = .ok (.iload 4, 2) := by decide +kernel
theorem dX10_setLetter_84 : decode cX10_setLetter 84 = .ok (.ireturn, 1) := by decide +kernel
theorem dX10_setPremium_0 : decode cX10_setPremium 0 = .ok (.aload_n 0, 1) := by decide +kernel
theorem dX10_setPremium_1 : decode cX10_setPremium 1 = .ok (.iload_n 1, 1) := by decide +kernel
theorem dX10_setPremium_2 : decode cX10_setPremium 2 = .ok (.iload_n 2, 1) := by decide +kernel
theorem dX10_setPremium_3 : decode cX10_setPremium 3 = .ok (.invokestatic 101, 3) := by decide +kernel
theorem dX10_setPremium_6 : decode cX10_setPremium 6 = .ok (.iload_n 3, 1) := by decide +kernel
theorem dX10_setPremium_7 : decode cX10_setPremium 7 = .ok (.i2l, 1) := by decide +kernel
theorem dX10_setPremium_8 : decode cX10_setPremium 8 = .ok (.lconst 0, 1) := by decide +kernel
theorem dX10_setPremium_9 : decode cX10_setPremium 9 = .ok (.ldc2_w 105, 3) := by decide +kernel
theorem dX10_setPremium_12 : decode cX10_setPremium 12 = .ok (.invokestatic 61, 3) := by decide +kernel
theorem dX10_setPremium_15 : decode cX10_setPremium 15 = .ok (.iconst 1, 1) := by decide +kernel
theorem dX10_setPremium_16 : decode cX10_setPremium 16 = .ok (.invokevirtual 74, 3) := by decide +kernel
theorem dX10_setPremium_19 : decode cX10_setPremium 19 = .ok (.ifCond .ne 5, 3) := by decide +kernel
theorem dX10_setPremium_22 : decode cX10_setPremium 22 = .ok (.iconst 0, 1) := by decide +kernel
theorem dX10_setPremium_23 : decode cX10_setPremium 23 = .ok (.ireturn, 1) := by decide +kernel
theorem dX10_setPremium_24 : decode cX10_setPremium 24 = .ok (.aload_n 0, 1) := by decide +kernel
theorem dX10_setPremium_25 : decode cX10_setPremium 25 = .ok (.invokevirtual 85, 3) := by decide +kernel
theorem dX10_setPremium_28 : decode cX10_setPremium 28 = .ok (.aload_n 0, 1) := by decide +kernel
theorem dX10_setPremium_29 : decode cX10_setPremium 29 = .ok (.getfield 7, 3) := by decide +kernel
theorem dX10_setPremium_32 : decode cX10_setPremium 32 = .ok (.sipush 306, 3) := by decide +kernel
theorem dX10_setPremium_35 : decode cX10_setPremium 35 = .ok (.bipush 7, 2) := by decide +kernel
theorem dX10_setPremium_37 : decode cX10_setPremium 37 = .ok (.iload_n 1, 1) := by decide +kernel
theorem dX10_setPremium_38 : decode cX10_setPremium 38 = .ok (.imul, 1) := by decide +kernel
theorem dX10_setPremium_39 : decode cX10_setPremium 39 = .ok (.iadd, 1) := by decide +kernel
theorem dX10_setPremium_40 : decode cX10_setPremium 40 = .ok (.iload_n 2, 1) := by decide +kernel
theorem dX10_setPremium_41 : decode cX10_setPremium 41 = .ok (.iadd, 1) := by decide +kernel
theorem dX10_setPremium_42 : decode cX10_setPremium 42 = .ok (.iaload, 1) := by decide +kernel
theorem dX10_setPremium_43 : decode cX10_setPremium 43 = .ok (.istore 4, 2) := by decide +kernel
theorem dX10_setPremium_45 : decode cX10_setPremium 45 = .ok (.aload_n 0, 1) := by decide +kernel
theorem dX10_setPremium_46 : decode cX10_setPremium 46 = .ok (.getfield 7, 3) := by decide +kernel
theorem dX10_setPremium_49 : decode cX10_setPremium 49 = .ok (.sipush 306, 3) := by decide +kernel
theorem dX10_setPremium_52 : decode cX10_setPremium 52 = .ok (.bipush 7, 2) := by decide +kernel
theorem dX10_setPremium_54 : decode cX10_setPremium 54 = .ok (.iload_n 1, 1) := by decide +kernel
theorem dX10_setPremium_55 : decode cX10_setPremium 55 = .ok (.imul, 1) := by decide +kernel
theorem dX10_setPremium_56 : decode cX10_setPremium 56 = .ok (.iadd, 1) := by decide +kernel
theorem dX10_setPremium_57 : decode cX10_setPremium 57 = .ok (.iload_n 2, 1) := by decide +kernel
theorem dX10_setPremium_58 : decode cX10_setPremium 58 = .ok (.iadd, 1) := by decide +kernel
theorem dX10_setPremium_59 : decode cX10_setPremium 59 = .ok (.iload_n 3, 1) := by decide +kernel
theorem dX10_setPremium_60 : decode cX10_setPremium 60 = .ok (.iastore, 1) := by decide +kernel
theorem dX10_setPremium_61 : decode cX10_setPremium 61 = .ok (.iload 4, 2) := by decide +kernel
theorem dX10_setPremium_63 : decode cX10_setPremium 63 = .ok (.ireturn, 1) := by decide +kernel
theorem dX10_setRack_0 : decode cX10_setRack 0 = .ok (.aload_n 0, 1) := by decide +kernel
theorem dX10_setRack_1 : decode cX10_setRack 1 = .ok (.iload_n 1, 1) := by decide +kernel
theorem dX10_setRack_2 : decode cX10_setRack 2 = .ok (.invokestatic 107, 3) := by decide +kernel
theorem dX10_setRack_5 : decode cX10_setRack 5 = .ok (.aload_n 0, 1) := by decide +kernel
theorem dX10_setRack_6 : decode cX10_setRack 6 = .ok (.getfield 71, 3) := by decide +kernel
theorem dX10_setRack_9 : decode cX10_setRack 9 = .ok (.iconst 5, 1) := by decide +kernel
theorem dX10_setRack_10 : decode cX10_setRack 10 = .ok (.if_icmp .gt 7, 3) := by decide +kernel
theorem dX10_setRack_13 : decode cX10_setRack 13 = .ok (.iconst 1, 1) := by decide +kernel
theorem dX10_setRack_14 : decode cX10_setRack 14 = .ok (.goto 4, 3) := by decide +kernel
theorem dX10_setRack_17 : decode cX10_setRack 17 = .ok (.iconst 0, 1) := by decide +kernel
theorem dX10_setRack_18 : decode cX10_setRack 18 = .ok (.iconst 1, 1) := by decide +kernel
theorem dX10_setRack_19 : decode cX10_setRack 19 = .ok (.invokevirtual 74, 3) := by decide +kernel
theorem dX10_setRack_22 : decode cX10_setRack 22 = .ok (.ifCond .ne 5, 3) := by decide +kernel
theorem dX10_setRack_25 : decode cX10_setRack 25 = .ok (.iconst 0, 1) := by decide +kernel
theorem dX10_setRack_26 : decode cX10_setRack 26 = .ok (.ireturn, 1) := by decide +kernel
theorem dX10_setRack_27 : decode cX10_setRack 27 = .ok (.aload_n 0, 1) := by decide +kernel
theorem dX10_setRack_28 : decode cX10_setRack 28 = .ok (.invokevirtual 85, 3) := by decide +kernel
theorem dX10_setRack_31 : decode cX10_setRack 31 = .ok (.iconst 0, 1) := by decide +kernel
theorem dX10_setRack_32 : decode cX10_setRack 32 = .ok (.istore_n 2, 1) := by decide +kernel
theorem dX10_setRack_33 : decode cX10_setRack 33 = .ok (.iload_n 2, 1) := by decide +kernel
theorem dX10_setRack_34 : decode cX10_setRack 34 = .ok (.bipush 8, 2) := by decide +kernel
theorem dX10_setRack_36 : decode cX10_setRack 36 = .ok (.if_icmp .ge 25, 3) := by decide +kernel
theorem dX10_setRack_39 : decode cX10_setRack 39 = .ok (.aload_n 0, 1) := by decide +kernel
theorem dX10_setRack_40 : decode cX10_setRack 40 = .ok (.getfield 7, 3) := by decide +kernel
theorem dX10_setRack_43 : decode cX10_setRack 43 = .ok (.sipush 355, 3) := by decide +kernel
theorem dX10_setRack_46 : decode cX10_setRack 46 = .ok (.bipush 8, 2) := by decide +kernel
theorem dX10_setRack_48 : decode cX10_setRack 48 = .ok (.iload_n 1, 1) := by decide +kernel
theorem dX10_setRack_49 : decode cX10_setRack 49 = .ok (.imul, 1) := by decide +kernel
theorem dX10_setRack_50 : decode cX10_setRack 50 = .ok (.iadd, 1) := by decide +kernel
theorem dX10_setRack_51 : decode cX10_setRack 51 = .ok (.iload_n 2, 1) := by decide +kernel
theorem dX10_setRack_52 : decode cX10_setRack 52 = .ok (.iadd, 1) := by decide +kernel
theorem dX10_setRack_53 : decode cX10_setRack 53 = .ok (.iconst 0, 1) := by decide +kernel
theorem dX10_setRack_54 : decode cX10_setRack 54 = .ok (.iastore, 1) := by decide +kernel
theorem dX10_setRack_55 : decode cX10_setRack 55 = .ok (.iinc 2 1, 3) := by decide +kernel
theorem dX10_setRack_58 : decode cX10_setRack 58 = .ok (.goto (-25), 3) := by decide +kernel
theorem dX10_setRack_61 : decode cX10_setRack 61 = .ok (.iconst 0, 1) := by decide +kernel
theorem dX10_setRack_62 : decode cX10_setRack 62 = .ok (.istore_n 2, 1) := by decide +kernel
theorem dX10_setRack_63 : decode cX10_setRack 63 = .ok (.iload_n 2, 1) := by decide +kernel
theorem dX10_setRack_64 : decode cX10_setRack 64 = .ok (.aload_n 0, 1) := by decide +kernel
theorem dX10_setRack_65 : decode cX10_setRack 65 = .ok (.getfield 71, 3) := by decide +kernel
theorem dX10_setRack_68 : decode cX10_setRack 68 = .ok (.if_icmp .ge 33, 3) := by decide +kernel
theorem dX10_setRack_71 : decode cX10_setRack 71 = .ok (.aload_n 0, 1) := by decide +kernel
theorem dX10_setRack_72 : decode cX10_setRack 72 = .ok (.getfield 7, 3) := by decide +kernel
theorem dX10_setRack_75 : decode cX10_setRack 75 = .ok (.sipush 355, 3) := by decide +kernel
theorem dX10_setRack_78 : decode cX10_setRack 78 = .ok (.bipush 8, 2) := by decide +kernel
theorem dX10_setRack_80 : decode cX10_setRack 80 = .ok (.iload_n 1, 1) := by decide +kernel
theorem dX10_setRack_81 : decode cX10_setRack 81 = .ok (.imul, 1) := by decide +kernel
theorem dX10_setRack_82 : decode cX10_setRack 82 = .ok (.iadd, 1) := by decide +kernel
theorem dX10_setRack_83 : decode cX10_setRack 83 = .ok (.aload_n 0, 1) := by decide +kernel
theorem dX10_setRack_84 : decode cX10_setRack 84 = .ok (.getfield 16, 3) := by decide +kernel
theorem dX10_setRack_87 : decode cX10_setRack 87 = .ok (.iload_n 2, 1) := by decide +kernel
theorem dX10_setRack_88 : decode cX10_setRack 88 = .ok (.iaload, 1) := by decide +kernel
theorem dX10_setRack_89 : decode cX10_setRack 89 = .ok (.iadd, 1) := by decide +kernel
theorem dX10_setRack_90 : decode cX10_setRack 90 = .ok (.dup2, 1) := by decide +kernel
theorem dX10_setRack_91 : decode cX10_setRack 91 = .ok (.iaload, 1) := by decide +kernel
theorem dX10_setRack_92 : decode cX10_setRack 92 = .ok (.iconst 1, 1) := by decide +kernel
theorem dX10_setRack_93 : decode cX10_setRack 93 = .ok (.iadd, 1) := by decide +kernel
theorem dX10_setRack_94 : decode cX10_setRack 94 = .ok (.iastore, 1) := by decide +kernel
theorem dX10_setRack_95 : decode cX10_setRack 95 = .ok (.iinc 2 1, 3) := by decide +kernel
theorem dX10_setRack_98 : decode cX10_setRack 98 = .ok (.goto (-35), 3) := by decide +kernel
theorem dX10_setRack_101 : decode cX10_setRack 101 = .ok (.aload_n 0, 1) := by decide +kernel
theorem dX10_setRack_102 : decode cX10_setRack 102 = .ok (.getfield 71, 3) := by decide +kernel
theorem dX10_setRack_105 : decode cX10_setRack 105 = .ok (.istore_n 2, 1) := by decide +kernel
theorem dX10_setRack_106 : decode cX10_setRack 106 = .ok (.aload_n 0, 1) := by decide +kernel
theorem dX10_setRack_107 : decode cX10_setRack 107 = .ok (.iconst 0, 1) := by decide +kernel
theorem dX10_setRack_108 : decode cX10_setRack 108 = .ok (.putfield 71, 3) := by decide +kernel
theorem dX10_setRack_111 : decode cX10_setRack 111 = .ok (.iload_n 2, 1) := by decide +kernel
theorem dX10_setRack_112 : decode cX10_setRack 112 = .ok (.ireturn, 1) := by decide +kernel
theorem dX10_setTile_0 : decode cX10_setTile 0 = .ok (.aload_n 0, 1) := by decide +kernel
theorem dX10_setTile_1 : decode cX10_setTile 1 = .ok (.iload_n 1, 1) := by decide +kernel
theorem dX10_setTile_2 : decode cX10_setTile 2 = .ok (.iload_n 2, 1) := by decide +kernel
theorem dX10_setTile_3 : decode cX10_setTile 3 = .ok (.invokestatic 101, 3) := by decide +kernel
theorem dX10_setTile_6 : decode cX10_setTile 6 = .ok (.iload_n 3, 1) := by decide +kernel
theorem dX10_setTile_7 : decode cX10_setTile 7 = .ok (.iconst (-1), 1) := by decide +kernel
theorem dX10_setTile_8 : decode cX10_setTile 8 = .ok (.if_icmp .eq 10, 3) := by decide +kernel
theorem dX10_setTile_11 : decode cX10_setTile 11 = .ok (.iload_n 3, 1) := by decide +kernel
theorem dX10_setTile_12 : decode cX10_setTile 12 = .ok (.invokestatic 67, 3) := by decide +kernel
theorem dX10_setTile_15 : decode cX10_setTile 15 = .ok (.ifCond .eq 7, 3) := by decide +kernel
theorem dX10_setTile_18 : decode cX10_setTile 18 = .ok (.iconst 1, 1) := by decide +kernel
theorem dX10_setTile_19 : decode cX10_setTile 19 = .ok (.goto 4, 3) := by decide +kernel
theorem dX10_setTile_22 : decode cX10_setTile 22 = .ok (.iconst 0, 1) := by decide +kernel
theorem dX10_setTile_23 : decode cX10_setTile 23 = .ok (.iconst 1, 1) := by decide +kernel
theorem dX10_setTile_24 : decode cX10_setTile 24 = .ok (.invokevirtual 74, 3) := by decide +kernel
theorem dX10_setTile_27 : decode cX10_setTile 27 = .ok (.ifCond .ne 5, 3) := by decide +kernel
theorem dX10_setTile_30 : decode cX10_setTile 30 = .ok (.iconst 0, 1) := by decide +kernel
theorem dX10_setTile_31 : decode cX10_setTile 31 = .ok (.ireturn, 1) := by decide +kernel
theorem dX10_setTile_32 : decode cX10_setTile 32 = .ok (.aload_n 0, 1) := by decide +kernel
theorem dX10_setTile_33 : decode cX10_setTile 33 = .ok (.invokevirtual 85, 3) := by decide +kernel
theorem dX10_setTile_36 : decode cX10_setTile 36 = .ok (.aload_n 0, 1) := by decide +kernel
theorem dX10_setTile_37 : decode cX10_setTile 37 = .ok (.getfield 7, 3) := by decide +kernel
theorem dX10_setTile_40 : decode cX10_setTile 40 = .ok (.sipush 257, 3) := by decide +kernel
theorem dX10_setTile_43 : decode cX10_setTile 43 = .ok (.bipush 7, 2) := by decide +kernel
theorem dX10_setTile_45 : decode cX10_setTile 45 = .ok (.iload_n 1, 1) := by decide +kernel
theorem dX10_setTile_46 : decode cX10_setTile 46 = .ok (.imul, 1) := by decide +kernel
theorem dX10_setTile_47 : decode cX10_setTile 47 = .ok (.iadd, 1) := by decide +kernel
theorem dX10_setTile_48 : decode cX10_setTile 48 = .ok (.iload_n 2, 1) := by decide +kernel
theorem dX10_setTile_49 : decode cX10_setTile 49 = .ok (.iadd, 1) := by decide +kernel
theorem dX10_setTile_50 : decode cX10_setTile 50 = .ok (.iaload, 1) := by decide +kernel
theorem dX10_setTile_51 : decode cX10_setTile 51 = .ok (.istore 4, 2) := by decide +kernel
theorem dX10_setTile_53 : decode cX10_setTile 53 = .ok (.aload_n 0, 1) := by decide +kernel
theorem dX10_setTile_54 : decode cX10_setTile 54 = .ok (.getfield 7, 3) := by decide +kernel
theorem dX10_setTile_57 : decode cX10_setTile 57 = .ok (.sipush 257, 3) := by decide +kernel
theorem dX10_setTile_60 : decode cX10_setTile 60 = .ok (.bipush 7, 2) := by decide +kernel
theorem dX10_setTile_62 : decode cX10_setTile 62 = .ok (.iload_n 1, 1) := by decide +kernel
theorem dX10_setTile_63 : decode cX10_setTile 63 = .ok (.imul, 1) := by decide +kernel
theorem dX10_setTile_64 : decode cX10_setTile 64 = .ok (.iadd, 1) := by decide +kernel
theorem dX10_setTile_65 : decode cX10_setTile 65 = .ok (.iload_n 2, 1) := by decide +kernel
theorem dX10_setTile_66 : decode cX10_setTile 66 = .ok (.iadd, 1) := by decide +kernel
theorem dX10_setTile_67 : decode cX10_setTile 67 = .ok (.iload_n 3, 1) := by decide +kernel
theorem dX10_setTile_68 : decode cX10_setTile 68 = .ok (.iastore, 1) := by decide +kernel
theorem dX10_setTile_69 : decode cX10_setTile 69 = .ok (.iload 4, 2) := by decide +kernel
theorem dX10_setTile_71 : decode cX10_setTile 71 = .ok (.ireturn, 1) := by decide +kernel
theorem dX10_tileAt_0 : decode cX10_tileAt 0 = .ok (.aload_n 0, 1) := by decide +kernel
theorem dX10_tileAt_1 : decode cX10_tileAt 1 = .ok (.iload_n 1, 1) := by decide +kernel
theorem dX10_tileAt_2 : decode cX10_tileAt 2 = .ok (.iload_n 2, 1) := by decide +kernel
theorem dX10_tileAt_3 : decode cX10_tileAt 3 = .ok (.invokestatic 101, 3) := by decide +kernel
theorem dX10_tileAt_6 : decode cX10_tileAt 6 = .ok (.iconst 1, 1) := by decide +kernel
theorem dX10_tileAt_7 : decode cX10_tileAt 7 = .ok (.iconst 1, 1) := by decide +kernel
theorem dX10_tileAt_8 : decode cX10_tileAt 8 = .ok (.invokevirtual 74, 3) := by decide +kernel
theorem dX10_tileAt_11 : decode cX10_tileAt 11 = .ok (.ifCond .eq 21, 3) := by decide +kernel
theorem dX10_tileAt_14 : decode cX10_tileAt 14 = .ok (.aload_n 0, 1) := by decide +kernel
theorem dX10_tileAt_15 : decode cX10_tileAt 15 = .ok (.getfield 7, 3) := by decide +kernel
theorem dX10_tileAt_18 : decode cX10_tileAt 18 = .ok (.sipush 257, 3) := by decide +kernel
theorem dX10_tileAt_21 : decode cX10_tileAt 21 = .ok (.bipush 7, 2) := by decide +kernel
theorem dX10_tileAt_23 : decode cX10_tileAt 23 = .ok (.iload_n 1, 1) := by decide +kernel
theorem dX10_tileAt_24 : decode cX10_tileAt 24 = .ok (.imul, 1) := by decide +kernel
theorem dX10_tileAt_25 : decode cX10_tileAt 25 = .ok (.iadd, 1) := by decide +kernel
theorem dX10_tileAt_26 : decode cX10_tileAt 26 = .ok (.iload_n 2, 1) := by decide +kernel
theorem dX10_tileAt_27 : decode cX10_tileAt 27 = .ok (.iadd, 1) := by decide +kernel
theorem dX10_tileAt_28 : decode cX10_tileAt 28 = .ok (.iaload, 1) := by decide +kernel
theorem dX10_tileAt_29 : decode cX10_tileAt 29 = .ok (.goto 4, 3) := by decide +kernel
theorem dX10_tileAt_32 : decode cX10_tileAt 32 = .ok (.iconst 0, 1) := by decide +kernel
theorem dX10_tileAt_33 : decode cX10_tileAt 33 = .ok (.ireturn, 1) := by decide +kernel
theorem dX10_onRack_0 : decode cX10_onRack 0 = .ok (.aload_n 0, 1) := by decide +kernel
theorem dX10_onRack_1 : decode cX10_onRack 1 = .ok (.iload_n 1, 1) := by decide +kernel
theorem dX10_onRack_2 : decode cX10_onRack 2 = .ok (.invokestatic 107, 3) := by decide +kernel
theorem dX10_onRack_5 : decode cX10_onRack 5 = .ok (.iload_n 2, 1) := by decide +kernel
theorem dX10_onRack_6 : decode cX10_onRack 6 = .ok (.invokestatic 67, 3) := by decide +kernel
theorem dX10_onRack_9 : decode cX10_onRack 9 = .ok (.iconst 1, 1) := by decide +kernel
theorem dX10_onRack_10 : decode cX10_onRack 10 = .ok (.invokevirtual 74, 3) := by decide +kernel
theorem dX10_onRack_13 : decode cX10_onRack 13 = .ok (.ifCond .eq 21, 3) := by decide +kernel
theorem dX10_onRack_16 : decode cX10_onRack 16 = .ok (.aload_n 0, 1) := by decide +kernel
theorem dX10_onRack_17 : decode cX10_onRack 17 = .ok (.getfield 7, 3) := by decide +kernel
theorem dX10_onRack_20 : decode cX10_onRack 20 = .ok (.sipush 355, 3) := by decide +kernel
theorem dX10_onRack_23 : decode cX10_onRack 23 = .ok (.bipush 8, 2) := by decide +kernel
theorem dX10_onRack_25 : decode cX10_onRack 25 = .ok (.iload_n 1, 1) := by decide +kernel
theorem dX10_onRack_26 : decode cX10_onRack 26 = .ok (.imul, 1) := by decide +kernel
theorem dX10_onRack_27 : decode cX10_onRack 27 = .ok (.iadd, 1) := by decide +kernel
theorem dX10_onRack_28 : decode cX10_onRack 28 = .ok (.iload_n 2, 1) := by decide +kernel
theorem dX10_onRack_29 : decode cX10_onRack 29 = .ok (.iadd, 1) := by decide +kernel
theorem dX10_onRack_30 : decode cX10_onRack 30 = .ok (.iaload, 1) := by decide +kernel
theorem dX10_onRack_31 : decode cX10_onRack 31 = .ok (.goto 4, 3) := by decide +kernel
theorem dX10_onRack_34 : decode cX10_onRack 34 = .ok (.iconst 0, 1) := by decide +kernel
theorem dX10_onRack_35 : decode cX10_onRack 35 = .ok (.ireturn, 1) := by decide +kernel
theorem dX10_score_0 : decode cX10_score 0 = .ok (.aload_n 0, 1) := by decide +kernel
theorem dX10_score_1 : decode cX10_score 1 = .ok (.iload_n 1, 1) := by decide +kernel
theorem dX10_score_2 : decode cX10_score 2 = .ok (.invokestatic 107, 3) := by decide +kernel
theorem dX10_score_5 : decode cX10_score 5 = .ok (.iconst 1, 1) := by decide +kernel
theorem dX10_score_6 : decode cX10_score 6 = .ok (.iconst 1, 1) := by decide +kernel
theorem dX10_score_7 : decode cX10_score 7 = .ok (.invokevirtual 74, 3) := by decide +kernel
theorem dX10_score_10 : decode cX10_score 10 = .ok (.ifCond .eq 16, 3) := by decide +kernel
theorem dX10_score_13 : decode cX10_score 13 = .ok (.aload_n 0, 1) := by decide +kernel
theorem dX10_score_14 : decode cX10_score 14 = .ok (.getfield 7, 3) := by decide +kernel
theorem dX10_score_17 : decode cX10_score 17 = .ok (.sipush 371, 3) := by decide +kernel
theorem dX10_score_20 : decode cX10_score 20 = .ok (.iload_n 1, 1) := by decide +kernel
theorem dX10_score_21 : decode cX10_score 21 = .ok (.iadd, 1) := by decide +kernel
theorem dX10_score_22 : decode cX10_score 22 = .ok (.iaload, 1) := by decide +kernel
theorem dX10_score_23 : decode cX10_score 23 = .ok (.goto 4, 3) := by decide +kernel
theorem dX10_score_26 : decode cX10_score 26 = .ok (.iconst 0, 1) := by decide +kernel
theorem dX10_score_27 : decode cX10_score 27 = .ok (.ireturn, 1) := by decide +kernel
theorem dX10_laysNow_0 : decode cX10_laysNow 0 = .ok (.iconst 0, 1) := by decide +kernel
theorem dX10_laysNow_1 : decode cX10_laysNow 1 = .ok (.istore_n 1, 1) := by decide +kernel
theorem dX10_laysNow_2 : decode cX10_laysNow 2 = .ok (.iload_n 1, 1) := by decide +kernel
theorem dX10_laysNow_3 : decode cX10_laysNow 3 = .ok (.bipush 49, 2) := by decide +kernel
theorem dX10_laysNow_5 : decode cX10_laysNow 5 = .ok (.if_icmp .ge 25, 3) := by decide +kernel
theorem dX10_laysNow_8 : decode cX10_laysNow 8 = .ok (.aload_n 0, 1) := by decide +kernel
theorem dX10_laysNow_9 : decode cX10_laysNow 9 = .ok (.getfield 22, 3) := by decide +kernel
theorem dX10_laysNow_12 : decode cX10_laysNow 12 = .ok (.iload_n 1, 1) := by decide +kernel
theorem dX10_laysNow_13 : decode cX10_laysNow 13 = .ok (.aload_n 0, 1) := by decide +kernel
theorem dX10_laysNow_14 : decode cX10_laysNow 14 = .ok (.getfield 7, 3) := by decide +kernel
theorem dX10_laysNow_17 : decode cX10_laysNow 17 = .ok (.sipush 257, 3) := by decide +kernel
theorem dX10_laysNow_20 : decode cX10_laysNow 20 = .ok (.iload_n 1, 1) := by decide +kernel
theorem dX10_laysNow_21 : decode cX10_laysNow 21 = .ok (.iadd, 1) := by decide +kernel
theorem dX10_laysNow_22 : decode cX10_laysNow 22 = .ok (.iaload, 1) := by decide +kernel
theorem dX10_laysNow_23 : decode cX10_laysNow 23 = .ok (.iastore, 1) := by decide +kernel
theorem dX10_laysNow_24 : decode cX10_laysNow 24 = .ok (.iinc 1 1, 3) := by decide +kernel
theorem dX10_laysNow_27 : decode cX10_laysNow 27 = .ok (.goto (-25), 3) := by decide +kernel
theorem dX10_laysNow_30 : decode cX10_laysNow 30 = .ok (.iconst 0, 1) := by decide +kernel
theorem dX10_laysNow_31 : decode cX10_laysNow 31 = .ok (.istore_n 1, 1) := by decide +kernel
theorem dX10_laysNow_32 : decode cX10_laysNow 32 = .ok (.iload_n 1, 1) := by decide +kernel
theorem dX10_laysNow_33 : decode cX10_laysNow 33 = .ok (.bipush 16, 2) := by decide +kernel
theorem dX10_laysNow_35 : decode cX10_laysNow 35 = .ok (.if_icmp .ge 25, 3) := by decide +kernel
theorem dX10_laysNow_38 : decode cX10_laysNow 38 = .ok (.aload_n 0, 1) := by decide +kernel
theorem dX10_laysNow_39 : decode cX10_laysNow 39 = .ok (.getfield 25, 3) := by decide +kernel
theorem dX10_laysNow_42 : decode cX10_laysNow 42 = .ok (.iload_n 1, 1) := by decide +kernel
theorem dX10_laysNow_43 : decode cX10_laysNow 43 = .ok (.aload_n 0, 1) := by decide +kernel
theorem dX10_laysNow_44 : decode cX10_laysNow 44 = .ok (.getfield 7, 3) := by decide +kernel
theorem dX10_laysNow_47 : decode cX10_laysNow 47 = .ok (.sipush 355, 3) := by decide +kernel
theorem dX10_laysNow_50 : decode cX10_laysNow 50 = .ok (.iload_n 1, 1) := by decide +kernel
theorem dX10_laysNow_51 : decode cX10_laysNow 51 = .ok (.iadd, 1) := by decide +kernel
theorem dX10_laysNow_52 : decode cX10_laysNow 52 = .ok (.iaload, 1) := by decide +kernel
theorem dX10_laysNow_53 : decode cX10_laysNow 53 = .ok (.iastore, 1) := by decide +kernel
theorem dX10_laysNow_54 : decode cX10_laysNow 54 = .ok (.iinc 1 1, 3) := by decide +kernel
theorem dX10_laysNow_57 : decode cX10_laysNow 57 = .ok (.goto (-25), 3) := by decide +kernel
theorem dX10_laysNow_60 : decode cX10_laysNow 60 = .ok (.return_, 1) := by decide +kernel
theorem dX10_hasTile_0 : decode cX10_hasTile 0 = .ok (.iload_n 1, 1) := by decide +kernel
theorem dX10_hasTile_1 : decode cX10_hasTile 1 = .ok (.iload_n 2, 1) := by decide +kernel
theorem dX10_hasTile_2 : decode cX10_hasTile 2 = .ok (.invokestatic 101, 3) := by decide +kernel
theorem dX10_hasTile_5 : decode cX10_hasTile 5 = .ok (.ifCond .eq 22, 3) := by decide +kernel
theorem dX10_hasTile_8 : decode cX10_hasTile 8 = .ok (.aload_n 0, 1) := by decide +kernel
theorem dX10_hasTile_9 : decode cX10_hasTile 9 = .ok (.getfield 22, 3) := by decide +kernel
theorem dX10_hasTile_12 : decode cX10_hasTile 12 = .ok (.bipush 7, 2) := by decide +kernel
theorem dX10_hasTile_14 : decode cX10_hasTile 14 = .ok (.iload_n 1, 1) := by decide +kernel
theorem dX10_hasTile_15 : decode cX10_hasTile 15 = .ok (.imul, 1) := by decide +kernel
theorem dX10_hasTile_16 : decode cX10_hasTile 16 = .ok (.iload_n 2, 1) := by decide +kernel
theorem dX10_hasTile_17 : decode cX10_hasTile 17 = .ok (.iadd, 1) := by decide +kernel
theorem dX10_hasTile_18 : decode cX10_hasTile 18 = .ok (.iaload, 1) := by decide +kernel
theorem dX10_hasTile_19 : decode cX10_hasTile 19 = .ok (.iconst (-1), 1) := by decide +kernel
theorem dX10_hasTile_20 : decode cX10_hasTile 20 = .ok (.if_icmp .eq 7, 3) := by decide +kernel
theorem dX10_hasTile_23 : decode cX10_hasTile 23 = .ok (.iconst 1, 1) := by decide +kernel
theorem dX10_hasTile_24 : decode cX10_hasTile 24 = .ok (.goto 4, 3) := by decide +kernel
theorem dX10_hasTile_27 : decode cX10_hasTile 27 = .ok (.iconst 0, 1) := by decide +kernel
theorem dX10_hasTile_28 : decode cX10_hasTile 28 = .ok (.ireturn, 1) := by decide +kernel
theorem dX10_isBare_0 : decode cX10_isBare 0 = .ok (.iconst 1, 1) := by decide +kernel
theorem dX10_isBare_1 : decode cX10_isBare 1 = .ok (.istore_n 1, 1) := by decide +kernel
theorem dX10_isBare_2 : decode cX10_isBare 2 = .ok (.iconst 0, 1) := by decide +kernel
theorem dX10_isBare_3 : decode cX10_isBare 3 = .ok (.istore_n 2, 1) := by decide +kernel
theorem dX10_isBare_4 : decode cX10_isBare 4 = .ok (.iload_n 2, 1) := by decide +kernel
theorem dX10_isBare_5 : decode cX10_isBare 5 = .ok (.bipush 49, 2) := by decide +kernel
theorem dX10_isBare_7 : decode cX10_isBare 7 = .ok (.if_icmp .ge 29, 3) := by decide +kernel
theorem dX10_isBare_10 : decode cX10_isBare 10 = .ok (.iload_n 1, 1) := by decide +kernel
theorem dX10_isBare_11 : decode cX10_isBare 11 = .ok (.ifCond .eq 17, 3) := by decide +kernel
theorem dX10_isBare_14 : decode cX10_isBare 14 = .ok (.aload_n 0, 1) := by decide +kernel
theorem dX10_isBare_15 : decode cX10_isBare 15 = .ok (.getfield 22, 3) := by decide +kernel
theorem dX10_isBare_18 : decode cX10_isBare 18 = .ok (.iload_n 2, 1) := by decide +kernel
theorem dX10_isBare_19 : decode cX10_isBare 19 = .ok (.iaload, 1) := by decide +kernel
theorem dX10_isBare_20 : decode cX10_isBare 20 = .ok (.iconst (-1), 1) := by decide +kernel
theorem dX10_isBare_21 : decode cX10_isBare 21 = .ok (.if_icmp .ne 7, 3) := by decide +kernel
theorem dX10_isBare_24 : decode cX10_isBare 24 = .ok (.iconst 1, 1) := by decide +kernel
theorem dX10_isBare_25 : decode cX10_isBare 25 = .ok (.goto 4, 3) := by decide +kernel
theorem dX10_isBare_28 : decode cX10_isBare 28 = .ok (.iconst 0, 1) := by decide +kernel
theorem dX10_isBare_29 : decode cX10_isBare 29 = .ok (.istore_n 1, 1) := by decide +kernel
theorem dX10_isBare_30 : decode cX10_isBare 30 = .ok (.iinc 2 1, 3) := by decide +kernel
theorem dX10_isBare_33 : decode cX10_isBare 33 = .ok (.goto (-29), 3) := by decide +kernel
theorem dX10_isBare_36 : decode cX10_isBare 36 = .ok (.iload_n 1, 1) := by decide +kernel
theorem dX10_isBare_37 : decode cX10_isBare 37 = .ok (.ireturn, 1) := by decide +kernel
theorem dX10_findsCross_0 : decode cX10_findsCross 0 = .ok (.iload_n 3, 1) := by decide +kernel
theorem dX10_findsCross_1 : decode cX10_findsCross 1 = .ok (.ifCond .ne 7, 3) := by decide +kernel
theorem dX10_findsCross_4 : decode cX10_findsCross 4 = .ok (.iconst 1, 1) := by decide +kernel
theorem dX10_findsCross_5 : decode cX10_findsCross 5 = .ok (.goto 4, 3) := by decide +kernel
theorem dX10_findsCross_8 : decode cX10_findsCross 8 = .ok (.iconst 0, 1) := by decide +kernel
theorem dX10_findsCross_9 : decode cX10_findsCross 9 = .ok (.istore 4, 2) := by decide +kernel
theorem dX10_findsCross_11 : decode cX10_findsCross 11 = .ok (.iconst 1, 1) := by decide +kernel
theorem dX10_findsCross_12 : decode cX10_findsCross 12 = .ok (.iload 4, 2) := by decide +kernel
theorem dX10_findsCross_14 : decode cX10_findsCross 14 = .ok (.isub, 1) := by decide +kernel
theorem dX10_findsCross_15 : decode cX10_findsCross 15 = .ok (.istore 5, 2) := by decide +kernel
theorem dX10_findsCross_17 : decode cX10_findsCross 17 = .ok (.aload_n 0, 1) := by decide +kernel
theorem dX10_findsCross_18 : decode cX10_findsCross 18 = .ok (.iload_n 1, 1) := by decide +kernel
theorem dX10_findsCross_19 : decode cX10_findsCross 19 = .ok (.putfield 110, 3) := by decide +kernel
theorem dX10_findsCross_22 : decode cX10_findsCross 22 = .ok (.aload_n 0, 1) := by decide +kernel
theorem dX10_findsCross_23 : decode cX10_findsCross 23 = .ok (.iload_n 2, 1) := by decide +kernel
theorem dX10_findsCross_24 : decode cX10_findsCross 24 = .ok (.putfield 113, 3) := by decide +kernel
theorem dX10_findsCross_27 : decode cX10_findsCross 27 = .ok (.aload_n 0, 1) := by decide +kernel
theorem dX10_findsCross_28 : decode cX10_findsCross 28 = .ok (.aload_n 0, 1) := by decide +kernel
theorem dX10_findsCross_29 : decode cX10_findsCross 29 = .ok (.getfield 110, 3) := by decide +kernel
theorem dX10_findsCross_32 : decode cX10_findsCross 32 = .ok (.iload 4, 2) := by decide +kernel
theorem dX10_findsCross_34 : decode cX10_findsCross 34 = .ok (.isub, 1) := by decide +kernel
theorem dX10_findsCross_35 : decode cX10_findsCross 35 = .ok (.aload_n 0, 1) := by decide +kernel
theorem dX10_findsCross_36 : decode cX10_findsCross 36 = .ok (.getfield 113, 3) := by decide +kernel
theorem dX10_findsCross_39 : decode cX10_findsCross 39 = .ok (.iload 5, 2) := by decide +kernel
theorem dX10_findsCross_41 : decode cX10_findsCross 41 = .ok (.isub, 1) := by decide +kernel
theorem dX10_findsCross_42 : decode cX10_findsCross 42 = .ok (.invokevirtual 116, 3) := by decide +kernel
theorem dX10_findsCross_45 : decode cX10_findsCross 45 = .ok (.ifCond .eq 28, 3) := by decide +kernel
theorem dX10_findsCross_48 : decode cX10_findsCross 48 = .ok (.aload_n 0, 1) := by decide +kernel
theorem dX10_findsCross_49 : decode cX10_findsCross 49 = .ok (.dup, 1) := by decide +kernel
theorem dX10_findsCross_50 : decode cX10_findsCross 50 = .ok (.getfield 110, 3) := by decide +kernel
theorem dX10_findsCross_53 : decode cX10_findsCross 53 = .ok (.iload 4, 2) := by decide +kernel
theorem dX10_findsCross_55 : decode cX10_findsCross 55 = .ok (.isub, 1) := by decide +kernel
theorem dX10_findsCross_56 : decode cX10_findsCross 56 = .ok (.putfield 110, 3) := by decide +kernel
theorem dX10_findsCross_59 : decode cX10_findsCross 59 = .ok (.aload_n 0, 1) := by decide +kernel
theorem dX10_findsCross_60 : decode cX10_findsCross 60 = .ok (.dup, 1) := by decide +kernel
theorem dX10_findsCross_61 : decode cX10_findsCross 61 = .ok (.getfield 113, 3) := by decide +kernel
theorem dX10_findsCross_64 : decode cX10_findsCross 64 = .ok (.iload 5, 2) := by decide +kernel
theorem dX10_findsCross_66 : decode cX10_findsCross 66 = .ok (.isub, 1) := by decide +kernel
theorem dX10_findsCross_67 : decode cX10_findsCross 67 = .ok (.putfield 113, 3) := by decide +kernel
theorem dX10_findsCross_70 : decode cX10_findsCross 70 = .ok (.goto (-43), 3) := by decide +kernel
theorem dX10_findsCross_73 : decode cX10_findsCross 73 = .ok (.iload_n 1, 1) := by decide +kernel
theorem dX10_findsCross_74 : decode cX10_findsCross 74 = .ok (.istore 6, 2) := by decide +kernel
theorem dX10_findsCross_76 : decode cX10_findsCross 76 = .ok (.iload_n 2, 1) := by decide +kernel
theorem dX10_findsCross_77 : decode cX10_findsCross 77 = .ok (.istore 7, 2) := by decide +kernel
theorem dX10_findsCross_79 : decode cX10_findsCross 79 = .ok (.aload_n 0, 1) := by decide +kernel
theorem dX10_findsCross_80 : decode cX10_findsCross 80 = .ok (.iload 6, 2) := by decide +kernel
theorem dX10_findsCross_82 : decode cX10_findsCross 82 = .ok (.iload 4, 2) := by decide +kernel
theorem dX10_findsCross_84 : decode cX10_findsCross 84 = .ok (.iadd, 1) := by decide +kernel
theorem dX10_findsCross_85 : decode cX10_findsCross 85 = .ok (.iload 7, 2) := by decide +kernel
theorem dX10_findsCross_87 : decode cX10_findsCross 87 = .ok (.iload 5, 2) := by decide +kernel
theorem dX10_findsCross_89 : decode cX10_findsCross 89 = .ok (.iadd, 1) := by decide +kernel
theorem dX10_findsCross_90 : decode cX10_findsCross 90 = .ok (.invokevirtual 116, 3) := by decide +kernel
theorem dX10_findsCross_93 : decode cX10_findsCross 93 = .ok (.ifCond .eq 20, 3) := by decide +kernel
theorem dX10_findsCross_96 : decode cX10_findsCross 96 = .ok (.iload 6, 2) := by decide +kernel
theorem dX10_findsCross_98 : decode cX10_findsCross 98 = .ok (.iload 4, 2) := by decide +kernel
theorem dX10_findsCross_100 : decode cX10_findsCross 100 = .ok (.iadd, 1) := by decide +kernel
theorem dX10_findsCross_101 : decode cX10_findsCross 101 = .ok (.istore 6, 2) := by decide +kernel
theorem dX10_findsCross_103 : decode cX10_findsCross 103 = .ok (.iload 7, 2) := by decide +kernel
theorem dX10_findsCross_105 : decode cX10_findsCross 105 = .ok (.iload 5, 2) := by decide +kernel
theorem dX10_findsCross_107 : decode cX10_findsCross 107 = .ok (.iadd, 1) := by decide +kernel
theorem dX10_findsCross_108 : decode cX10_findsCross 108 = .ok (.istore 7, 2) := by decide +kernel
theorem dX10_findsCross_110 : decode cX10_findsCross 110 = .ok (.goto (-31), 3) := by decide +kernel
theorem dX10_findsCross_113 : decode cX10_findsCross 113 = .ok (.aload_n 0, 1) := by decide +kernel
theorem dX10_findsCross_114 : decode cX10_findsCross 114 = .ok (.iload 6, 2) := by decide +kernel
theorem dX10_findsCross_116 : decode cX10_findsCross 116 = .ok (.aload_n 0, 1) := by decide +kernel
theorem dX10_findsCross_117 : decode cX10_findsCross 117 = .ok (.getfield 110, 3) := by decide +kernel
theorem dX10_findsCross_120 : decode cX10_findsCross 120 = .ok (.isub, 1) := by decide +kernel
theorem dX10_findsCross_121 : decode cX10_findsCross 121 = .ok (.iload 7, 2) := by decide +kernel
theorem dX10_findsCross_123 : decode cX10_findsCross 123 = .ok (.iadd, 1) := by decide +kernel
theorem dX10_findsCross_124 : decode cX10_findsCross 124 = .ok (.aload_n 0, 1) := by decide +kernel
theorem dX10_findsCross_125 : decode cX10_findsCross 125 = .ok (.getfield 113, 3) := by decide +kernel
theorem dX10_findsCross_128 : decode cX10_findsCross 128 = .ok (.isub, 1) := by decide +kernel
theorem dX10_findsCross_129 : decode cX10_findsCross 129 = .ok (.iconst 1, 1) := by decide +kernel
theorem dX10_findsCross_130 : decode cX10_findsCross 130 = .ok (.iadd, 1) := by decide +kernel
theorem dX10_findsCross_131 : decode cX10_findsCross 131 = .ok (.putfield 119, 3) := by decide +kernel
theorem dX10_findsCross_134 : decode cX10_findsCross 134 = .ok (.return_, 1) := by decide +kernel
theorem dX10_takesCross_0 : decode cX10_takesCross 0 = .ok (.aload_n 0, 1) := by decide +kernel
theorem dX10_takesCross_1 : decode cX10_takesCross 1 = .ok (.aload_n 0, 1) := by decide +kernel
theorem dX10_takesCross_2 : decode cX10_takesCross 2 = .ok (.getfield 119, 3) := by decide +kernel
theorem dX10_takesCross_5 : decode cX10_takesCross 5 = .ok (.putfield 78, 3) := by decide +kernel
theorem dX10_takesCross_8 : decode cX10_takesCross 8 = .ok (.iconst 0, 1) := by decide +kernel
theorem dX10_takesCross_9 : decode cX10_takesCross 9 = .ok (.istore_n 3, 1) := by decide +kernel
theorem dX10_takesCross_10 : decode cX10_takesCross 10 = .ok (.iload_n 3, 1) := by decide +kernel
theorem dX10_takesCross_11 : decode cX10_takesCross 11 = .ok (.aload_n 0, 1) := by decide +kernel
theorem dX10_takesCross_12 : decode cX10_takesCross 12 = .ok (.getfield 119, 3) := by decide +kernel
theorem dX10_takesCross_15 : decode cX10_takesCross 15 = .ok (.if_icmp .ge 71, 3) := by decide +kernel
theorem dX10_takesCross_18 : decode cX10_takesCross 18 = .ok (.bipush 7, 2) := by decide +kernel
theorem dX10_takesCross_20 : decode cX10_takesCross 20 = .ok (.aload_n 0, 1) := by decide +kernel
theorem dX10_takesCross_21 : decode cX10_takesCross 21 = .ok (.getfield 110, 3) := by decide +kernel
theorem dX10_takesCross_24 : decode cX10_takesCross 24 = .ok (.iload_n 1, 1) := by decide +kernel
theorem dX10_takesCross_25 : decode cX10_takesCross 25 = .ok (.ifCond .ne 7, 3) := by decide +kernel
theorem dX10_takesCross_28 : decode cX10_takesCross 28 = .ok (.iload_n 3, 1) := by decide +kernel
theorem dX10_takesCross_29 : decode cX10_takesCross 29 = .ok (.goto 4, 3) := by decide +kernel
theorem dX10_takesCross_32 : decode cX10_takesCross 32 = .ok (.iconst 0, 1) := by decide +kernel
theorem dX10_takesCross_33 : decode cX10_takesCross 33 = .ok (.iadd, 1) := by decide +kernel
theorem dX10_takesCross_34 : decode cX10_takesCross 34 = .ok (.imul, 1) := by decide +kernel
theorem dX10_takesCross_35 : decode cX10_takesCross 35 = .ok (.aload_n 0, 1) := by decide +kernel
theorem dX10_takesCross_36 : decode cX10_takesCross 36 = .ok (.getfield 113, 3) := by decide +kernel
theorem dX10_takesCross_39 : decode cX10_takesCross 39 = .ok (.iadd, 1) := by decide +kernel
theorem dX10_takesCross_40 : decode cX10_takesCross 40 = .ok (.iload_n 1, 1) := by decide +kernel
theorem dX10_takesCross_41 : decode cX10_takesCross 41 = .ok (.ifCond .ne 7, 3) := by decide +kernel
theorem dX10_takesCross_44 : decode cX10_takesCross 44 = .ok (.iconst 0, 1) := by decide +kernel
theorem dX10_takesCross_45 : decode cX10_takesCross 45 = .ok (.goto 4, 3) := by decide +kernel
theorem dX10_takesCross_48 : decode cX10_takesCross 48 = .ok (.iload_n 3, 1) := by decide +kernel
theorem dX10_takesCross_49 : decode cX10_takesCross 49 = .ok (.iadd, 1) := by decide +kernel
theorem dX10_takesCross_50 : decode cX10_takesCross 50 = .ok (.istore 4, 2) := by decide +kernel
theorem dX10_takesCross_52 : decode cX10_takesCross 52 = .ok (.aload_n 0, 1) := by decide +kernel
theorem dX10_takesCross_53 : decode cX10_takesCross 53 = .ok (.getfield 19, 3) := by decide +kernel
theorem dX10_takesCross_56 : decode cX10_takesCross 56 = .ok (.iload_n 3, 1) := by decide +kernel
theorem dX10_takesCross_57 : decode cX10_takesCross 57 = .ok (.aload_n 0, 1) := by decide +kernel
theorem dX10_takesCross_58 : decode cX10_takesCross 58 = .ok (.getfield 22, 3) := by decide +kernel
theorem dX10_takesCross_61 : decode cX10_takesCross 61 = .ok (.iload 4, 2) := by decide +kernel
theorem dX10_takesCross_63 : decode cX10_takesCross 63 = .ok (.iaload, 1) := by decide +kernel
theorem dX10_takesCross_64 : decode cX10_takesCross 64 = .ok (.iconst (-1), 1) := by decide +kernel
theorem dX10_takesCross_65 : decode cX10_takesCross 65 = .ok (.if_icmp .ne 7, 3) := by decide +kernel
theorem dX10_takesCross_68 : decode cX10_takesCross 68 = .ok (.iload_n 2, 1) := by decide +kernel
theorem dX10_takesCross_69 : decode cX10_takesCross 69 = .ok (.goto 10, 3) := by decide +kernel
theorem dX10_takesCross_72 : decode cX10_takesCross 72 = .ok (.aload_n 0, 1) := by decide +kernel
theorem dX10_takesCross_73 : decode cX10_takesCross 73 = .ok (.getfield 22, 3) := by decide +kernel
theorem dX10_takesCross_76 : decode cX10_takesCross 76 = .ok (.iload 4, 2) := by decide +kernel
theorem dX10_takesCross_78 : decode cX10_takesCross 78 = .ok (.iaload, 1) := by decide +kernel
theorem dX10_takesCross_79 : decode cX10_takesCross 79 = .ok (.iastore, 1) := by decide +kernel
theorem dX10_takesCross_80 : decode cX10_takesCross 80 = .ok (.iinc 3 1, 3) := by decide +kernel
theorem dX10_takesCross_83 : decode cX10_takesCross 83 = .ok (.goto (-73), 3) := by decide +kernel
theorem dX10_takesCross_86 : decode cX10_takesCross 86 = .ok (.return_, 1) := by decide +kernel
theorem dX10_crossOf_0 : decode cX10_crossOf 0 = .ok (.aload_n 0, 1) := by decide +kernel
theorem dX10_crossOf_1 : decode cX10_crossOf 1 = .ok (.iload_n 1, 1) := by decide +kernel
theorem dX10_crossOf_2 : decode cX10_crossOf 2 = .ok (.iload_n 2, 1) := by decide +kernel
theorem dX10_crossOf_3 : decode cX10_crossOf 3 = .ok (.iload_n 3, 1) := by decide +kernel
theorem dX10_crossOf_4 : decode cX10_crossOf 4 = .ok (.invokevirtual 122, 3) := by decide +kernel
theorem dX10_crossOf_7 : decode cX10_crossOf 7 = .ok (.iconst 0, 1) := by decide +kernel
theorem dX10_crossOf_8 : decode cX10_crossOf 8 = .ok (.istore 4, 2) := by decide +kernel
theorem dX10_crossOf_10 : decode cX10_crossOf 10 = .ok (.iconst 0, 1) := by decide +kernel
theorem dX10_crossOf_11 : decode cX10_crossOf 11 = .ok (.istore 5, 2) := by decide +kernel
theorem dX10_crossOf_13 : decode cX10_crossOf 13 = .ok (.iload 5, 2) := by decide +kernel
theorem dX10_crossOf_15 : decode cX10_crossOf 15 = .ok (.bipush 8, 2) := by decide +kernel
theorem dX10_crossOf_17 : decode cX10_crossOf 17 = .ok (.if_icmp .ge 45, 3) := by decide +kernel
theorem dX10_crossOf_20 : decode cX10_crossOf 20 = .ok (.aload_n 0, 1) := by decide +kernel
theorem dX10_crossOf_21 : decode cX10_crossOf 21 = .ok (.getfield 119, 3) := by decide +kernel
theorem dX10_crossOf_24 : decode cX10_crossOf 24 = .ok (.iconst 1, 1) := by decide +kernel
theorem dX10_crossOf_25 : decode cX10_crossOf 25 = .ok (.if_icmp .le 37, 3) := by decide +kernel
theorem dX10_crossOf_28 : decode cX10_crossOf 28 = .ok (.aload_n 0, 1) := by decide +kernel
theorem dX10_crossOf_29 : decode cX10_crossOf 29 = .ok (.iload_n 3, 1) := by decide +kernel
theorem dX10_crossOf_30 : decode cX10_crossOf 30 = .ok (.iload 5, 2) := by decide +kernel
theorem dX10_crossOf_32 : decode cX10_crossOf 32 = .ok (.invokevirtual 126, 3) := by decide +kernel
theorem dX10_crossOf_35 : decode cX10_crossOf 35 = .ok (.iload 4, 2) := by decide +kernel
theorem dX10_crossOf_37 : decode cX10_crossOf 37 = .ok (.aload_n 0, 1) := by decide +kernel
theorem dX10_crossOf_38 : decode cX10_crossOf 38 = .ok (.invokevirtual 91, 3) := by decide +kernel
theorem dX10_crossOf_41 : decode cX10_crossOf 41 = .ok (.iconst (-1), 1) := by decide +kernel
theorem dX10_crossOf_42 : decode cX10_crossOf 42 = .ok (.if_icmp .ne 7, 3) := by decide +kernel
theorem dX10_crossOf_45 : decode cX10_crossOf 45 = .ok (.iconst 0, 1) := by decide +kernel
theorem dX10_crossOf_46 : decode cX10_crossOf 46 = .ok (.goto 7, 3) := by decide +kernel
theorem dX10_crossOf_49 : decode cX10_crossOf 49 = .ok (.iconst 1, 1) := by decide +kernel
theorem dX10_crossOf_50 : decode cX10_crossOf 50 = .ok (.iload 5, 2) := by decide +kernel
theorem dX10_crossOf_52 : decode cX10_crossOf 52 = .ok (.ishl, 1) := by decide +kernel
theorem dX10_crossOf_53 : decode cX10_crossOf 53 = .ok (.ior, 1) := by decide +kernel
theorem dX10_crossOf_54 : decode cX10_crossOf 54 = .ok (.istore 4, 2) := by decide +kernel
theorem dX10_crossOf_56 : decode cX10_crossOf 56 = .ok (.iinc 5 1, 3) := by decide +kernel
theorem dX10_crossOf_59 : decode cX10_crossOf 59 = .ok (.goto (-46), 3) := by decide +kernel
theorem dX10_crossOf_62 : decode cX10_crossOf 62 = .ok (.aload_n 0, 1) := by decide +kernel
theorem dX10_crossOf_63 : decode cX10_crossOf 63 = .ok (.getfield 119, 3) := by decide +kernel
theorem dX10_crossOf_66 : decode cX10_crossOf 66 = .ok (.iconst 1, 1) := by decide +kernel
theorem dX10_crossOf_67 : decode cX10_crossOf 67 = .ok (.if_icmp .le 8, 3) := by decide +kernel
theorem dX10_crossOf_70 : decode cX10_crossOf 70 = .ok (.iload 4, 2) := by decide +kernel
theorem dX10_crossOf_72 : decode cX10_crossOf 72 = .ok (.goto 6, 3) := by decide +kernel
theorem dX10_crossOf_75 : decode cX10_crossOf 75 = .ok (.sipush 255, 3) := by decide +kernel
theorem dX10_crossOf_78 : decode cX10_crossOf 78 = .ok (.ireturn, 1) := by decide +kernel
theorem dX10_crossSet_0 : decode cX10_crossSet 0 = .ok (.aload_n 0, 1) := by decide +kernel
theorem dX10_crossSet_1 : decode cX10_crossSet 1 = .ok (.iload_n 1, 1) := by decide +kernel
theorem dX10_crossSet_2 : decode cX10_crossSet 2 = .ok (.iload_n 2, 1) := by decide +kernel
theorem dX10_crossSet_3 : decode cX10_crossSet 3 = .ok (.invokestatic 101, 3) := by decide +kernel
theorem dX10_crossSet_6 : decode cX10_crossSet 6 = .ok (.iload_n 3, 1) := by decide +kernel
theorem dX10_crossSet_7 : decode cX10_crossSet 7 = .ok (.i2l, 1) := by decide +kernel
theorem dX10_crossSet_8 : decode cX10_crossSet 8 = .ok (.lconst 0, 1) := by decide +kernel
theorem dX10_crossSet_9 : decode cX10_crossSet 9 = .ok (.lconst 1, 1) := by decide +kernel
theorem dX10_crossSet_10 : decode cX10_crossSet 10 = .ok (.invokestatic 61, 3) := by decide +kernel
theorem dX10_crossSet_13 : decode cX10_crossSet 13 = .ok (.iconst 1, 1) := by decide +kernel
theorem dX10_crossSet_14 : decode cX10_crossSet 14 = .ok (.invokevirtual 74, 3) := by decide +kernel
theorem dX10_crossSet_17 : decode cX10_crossSet 17 = .ok (.ifCond .ne 5, 3) := by decide +kernel
theorem dX10_crossSet_20 : decode cX10_crossSet 20 = .ok (.iconst 0, 1) := by decide +kernel
theorem dX10_crossSet_21 : decode cX10_crossSet 21 = .ok (.ireturn, 1) := by decide +kernel
theorem dX10_crossSet_22 : decode cX10_crossSet 22 = .ok (.aload_n 0, 1) := by decide +kernel
theorem dX10_crossSet_23 : decode cX10_crossSet 23 = .ok (.invokevirtual 130, 3) := by decide +kernel
theorem dX10_crossSet_26 : decode cX10_crossSet 26 = .ok (.aload_n 0, 1) := by decide +kernel
theorem dX10_crossSet_27 : decode cX10_crossSet 27 = .ok (.iload_n 1, 1) := by decide +kernel
theorem dX10_crossSet_28 : decode cX10_crossSet 28 = .ok (.iload_n 2, 1) := by decide +kernel
theorem dX10_crossSet_29 : decode cX10_crossSet 29 = .ok (.invokevirtual 116, 3) := by decide +kernel
theorem dX10_crossSet_32 : decode cX10_crossSet 32 = .ok (.ifCond .eq 7, 3) := by decide +kernel
theorem dX10_crossSet_35 : decode cX10_crossSet 35 = .ok (.iconst 0, 1) := by decide +kernel
theorem dX10_crossSet_36 : decode cX10_crossSet 36 = .ok (.goto 10, 3) := by decide +kernel
theorem dX10_crossSet_39 : decode cX10_crossSet 39 = .ok (.aload_n 0, 1) := by decide +kernel
theorem dX10_crossSet_40 : decode cX10_crossSet 40 = .ok (.iload_n 1, 1) := by decide +kernel
theorem dX10_crossSet_41 : decode cX10_crossSet 41 = .ok (.iload_n 2, 1) := by decide +kernel
theorem dX10_crossSet_42 : decode cX10_crossSet 42 = .ok (.iload_n 3, 1) := by decide +kernel
theorem dX10_crossSet_43 : decode cX10_crossSet 43 = .ok (.invokevirtual 133, 3) := by decide +kernel
theorem dX10_crossSet_46 : decode cX10_crossSet 46 = .ok (.ireturn, 1) := by decide +kernel
theorem dX10_isAnchorNow_0 : decode cX10_isAnchorNow 0 = .ok (.aload_n 0, 1) := by decide +kernel
theorem dX10_isAnchorNow_1 : decode cX10_isAnchorNow 1 = .ok (.invokevirtual 137, 3) := by decide +kernel
theorem dX10_isAnchorNow_4 : decode cX10_isAnchorNow 4 = .ok (.ifCond .eq 19, 3) := by decide +kernel
theorem dX10_isAnchorNow_7 : decode cX10_isAnchorNow 7 = .ok (.iload_n 1, 1) := by decide +kernel
theorem dX10_isAnchorNow_8 : decode cX10_isAnchorNow 8 = .ok (.iconst 3, 1) := by decide +kernel
theorem dX10_isAnchorNow_9 : decode cX10_isAnchorNow 9 = .ok (.if_icmp .ne 12, 3) := by decide +kernel
theorem dX10_isAnchorNow_12 : decode cX10_isAnchorNow 12 = .ok (.iload_n 2, 1) := by decide +kernel
theorem dX10_isAnchorNow_13 : decode cX10_isAnchorNow 13 = .ok (.iconst 3, 1) := by decide +kernel
theorem dX10_isAnchorNow_14 : decode cX10_isAnchorNow 14 = .ok (.if_icmp .ne 7, 3) := by decide +kernel
theorem dX10_isAnchorNow_17 : decode cX10_isAnchorNow 17 = .ok (.iconst 1, 1) := by decide +kernel
theorem dX10_isAnchorNow_18 : decode cX10_isAnchorNow 18 = .ok (.goto 4, 3) := by decide +kernel
theorem dX10_isAnchorNow_21 : decode cX10_isAnchorNow 21 = .ok (.iconst 0, 1) := by decide +kernel
theorem dX10_isAnchorNow_22 : decode cX10_isAnchorNow 22 = .ok (.ireturn, 1) := by decide +kernel
theorem dX10_isAnchorNow_23 : decode cX10_isAnchorNow 23 = .ok (.aload_n 0, 1) := by decide +kernel
theorem dX10_isAnchorNow_24 : decode cX10_isAnchorNow 24 = .ok (.iload_n 1, 1) := by decide +kernel
theorem dX10_isAnchorNow_25 : decode cX10_isAnchorNow 25 = .ok (.iload_n 2, 1) := by decide +kernel
theorem dX10_isAnchorNow_26 : decode cX10_isAnchorNow 26 = .ok (.invokevirtual 116, 3) := by decide +kernel
theorem dX10_isAnchorNow_29 : decode cX10_isAnchorNow 29 = .ok (.ifCond .ne 51, 3) := by decide +kernel
theorem dX10_isAnchorNow_32 : decode cX10_isAnchorNow 32 = .ok (.aload_n 0, 1) := by decide +kernel
theorem dX10_isAnchorNow_33 : decode cX10_isAnchorNow 33 = .ok (.iload_n 1, 1) := by decide +kernel
theorem dX10_isAnchorNow_34 : decode cX10_isAnchorNow 34 = .ok (.iconst 1, 1) := by decide +kernel
theorem dX10_isAnchorNow_35 : decode cX10_isAnchorNow 35 = .ok (.isub, 1) := by decide +kernel
theorem dX10_isAnchorNow_36 : decode cX10_isAnchorNow 36 = .ok (.iload_n 2, 1) := by decide +kernel
theorem dX10_isAnchorNow_37 : decode cX10_isAnchorNow 37 = .ok (.invokevirtual 116, 3) := by decide +kernel
theorem dX10_isAnchorNow_40 : decode cX10_isAnchorNow 40 = .ok (.ifCond .ne 36, 3) := by decide +kernel
theorem dX10_isAnchorNow_43 : decode cX10_isAnchorNow 43 = .ok (.aload_n 0, 1) := by decide +kernel
theorem dX10_isAnchorNow_44 : decode cX10_isAnchorNow 44 = .ok (.iload_n 1, 1) := by decide +kernel
theorem dX10_isAnchorNow_45 : decode cX10_isAnchorNow 45 = .ok (.iconst 1, 1) := by decide +kernel
theorem dX10_isAnchorNow_46 : decode cX10_isAnchorNow 46 = .ok (.iadd, 1) := by decide +kernel
theorem dX10_isAnchorNow_47 : decode cX10_isAnchorNow 47 = .ok (.iload_n 2, 1) := by decide +kernel
theorem dX10_isAnchorNow_48 : decode cX10_isAnchorNow 48 = .ok (.invokevirtual 116, 3) := by decide +kernel
theorem dX10_isAnchorNow_51 : decode cX10_isAnchorNow 51 = .ok (.ifCond .ne 25, 3) := by decide +kernel
theorem dX10_isAnchorNow_54 : decode cX10_isAnchorNow 54 = .ok (.aload_n 0, 1) := by decide +kernel
theorem dX10_isAnchorNow_55 : decode cX10_isAnchorNow 55 = .ok (.iload_n 1, 1) := by decide +kernel
theorem dX10_isAnchorNow_56 : decode cX10_isAnchorNow 56 = .ok (.iload_n 2, 1) := by decide +kernel
theorem dX10_isAnchorNow_57 : decode cX10_isAnchorNow 57 = .ok (.iconst 1, 1) := by decide +kernel
theorem dX10_isAnchorNow_58 : decode cX10_isAnchorNow 58 = .ok (.isub, 1) := by decide +kernel
theorem dX10_isAnchorNow_59 : decode cX10_isAnchorNow 59 = .ok (.invokevirtual 116, 3) := by decide +kernel
theorem dX10_isAnchorNow_62 : decode cX10_isAnchorNow 62 = .ok (.ifCond .ne 14, 3) := by decide +kernel
theorem dX10_isAnchorNow_65 : decode cX10_isAnchorNow 65 = .ok (.aload_n 0, 1) := by decide +kernel
theorem dX10_isAnchorNow_66 : decode cX10_isAnchorNow 66 = .ok (.iload_n 1, 1) := by decide +kernel
theorem dX10_isAnchorNow_67 : decode cX10_isAnchorNow 67 = .ok (.iload_n 2, 1) := by decide +kernel
theorem dX10_isAnchorNow_68 : decode cX10_isAnchorNow 68 = .ok (.iconst 1, 1) := by decide +kernel
theorem dX10_isAnchorNow_69 : decode cX10_isAnchorNow 69 = .ok (.iadd, 1) := by decide +kernel
theorem dX10_isAnchorNow_70 : decode cX10_isAnchorNow 70 = .ok (.invokevirtual 116, 3) := by decide +kernel
theorem dX10_isAnchorNow_73 : decode cX10_isAnchorNow 73 = .ok (.ifCond .eq 7, 3) := by decide +kernel
theorem dX10_isAnchorNow_76 : decode cX10_isAnchorNow 76 = .ok (.iconst 1, 1) := by decide +kernel
theorem dX10_isAnchorNow_77 : decode cX10_isAnchorNow 77 = .ok (.goto 4, 3) := by decide +kernel
theorem dX10_isAnchorNow_80 : decode cX10_isAnchorNow 80 = .ok (.iconst 0, 1) := by decide +kernel
theorem dX10_isAnchorNow_81 : decode cX10_isAnchorNow 81 = .ok (.ireturn, 1) := by decide +kernel
theorem dX10_anchorsNow_0 : decode cX10_anchorsNow 0 = .ok (.iconst 0, 1) := by decide +kernel
theorem dX10_anchorsNow_1 : decode cX10_anchorsNow 1 = .ok (.istore_n 1, 1) := by decide +kernel
theorem dX10_anchorsNow_2 : decode cX10_anchorsNow 2 = .ok (.iconst 0, 1) := by decide +kernel
theorem dX10_anchorsNow_3 : decode cX10_anchorsNow 3 = .ok (.istore_n 2, 1) := by decide +kernel
theorem dX10_anchorsNow_4 : decode cX10_anchorsNow 4 = .ok (.iload_n 2, 1) := by decide +kernel
theorem dX10_anchorsNow_5 : decode cX10_anchorsNow 5 = .ok (.bipush 49, 2) := by decide +kernel
theorem dX10_anchorsNow_7 : decode cX10_anchorsNow 7 = .ok (.if_icmp .ge 32, 3) := by decide +kernel
theorem dX10_anchorsNow_10 : decode cX10_anchorsNow 10 = .ok (.iload_n 1, 1) := by decide +kernel
theorem dX10_anchorsNow_11 : decode cX10_anchorsNow 11 = .ok (.aload_n 0, 1) := by decide +kernel
theorem dX10_anchorsNow_12 : decode cX10_anchorsNow 12 = .ok (.iload_n 2, 1) := by decide +kernel
theorem dX10_anchorsNow_13 : decode cX10_anchorsNow 13 = .ok (.bipush 7, 2) := by decide +kernel
theorem dX10_anchorsNow_15 : decode cX10_anchorsNow 15 = .ok (.idiv, 1) := by decide +kernel
theorem dX10_anchorsNow_16 : decode cX10_anchorsNow 16 = .ok (.iload_n 2, 1) := by decide +kernel
theorem dX10_anchorsNow_17 : decode cX10_anchorsNow 17 = .ok (.bipush 7, 2) := by decide +kernel
theorem dX10_anchorsNow_19 : decode cX10_anchorsNow 19 = .ok (.irem, 1) := by decide +kernel
theorem dX10_anchorsNow_20 : decode cX10_anchorsNow 20 = .ok (.invokevirtual 141, 3) := by decide +kernel
theorem dX10_anchorsNow_23 : decode cX10_anchorsNow 23 = .ok (.ifCond .eq 7, 3) := by decide +kernel
theorem dX10_anchorsNow_26 : decode cX10_anchorsNow 26 = .ok (.iconst 1, 1) := by decide +kernel
theorem dX10_anchorsNow_27 : decode cX10_anchorsNow 27 = .ok (.goto 4, 3) := by decide +kernel
theorem dX10_anchorsNow_30 : decode cX10_anchorsNow 30 = .ok (.iconst 0, 1) := by decide +kernel
theorem dX10_anchorsNow_31 : decode cX10_anchorsNow 31 = .ok (.iadd, 1) := by decide +kernel
theorem dX10_anchorsNow_32 : decode cX10_anchorsNow 32 = .ok (.istore_n 1, 1) := by decide +kernel
theorem dX10_anchorsNow_33 : decode cX10_anchorsNow 33 = .ok (.iinc 2 1, 3) := by decide +kernel
theorem dX10_anchorsNow_36 : decode cX10_anchorsNow 36 = .ok (.goto (-32), 3) := by decide +kernel
theorem dX10_anchorsNow_39 : decode cX10_anchorsNow 39 = .ok (.iload_n 1, 1) := by decide +kernel
theorem dX10_anchorsNow_40 : decode cX10_anchorsNow 40 = .ok (.ireturn, 1) := by decide +kernel
theorem dX10_anchors_0 : decode cX10_anchors 0 = .ok (.aload_n 0, 1) := by decide +kernel
theorem dX10_anchors_1 : decode cX10_anchors 1 = .ok (.iconst 0, 1) := by decide +kernel
theorem dX10_anchors_2 : decode cX10_anchors 2 = .ok (.putfield 52, 3) := by decide +kernel
theorem dX10_anchors_5 : decode cX10_anchors 5 = .ok (.aload_n 0, 1) := by decide +kernel
theorem dX10_anchors_6 : decode cX10_anchors 6 = .ok (.invokevirtual 130, 3) := by decide +kernel
theorem dX10_anchors_9 : decode cX10_anchors 9 = .ok (.aload_n 0, 1) := by decide +kernel
theorem dX10_anchors_10 : decode cX10_anchors 10 = .ok (.invokevirtual 144, 3) := by decide +kernel
theorem dX10_anchors_13 : decode cX10_anchors 13 = .ok (.ireturn, 1) := by decide +kernel
theorem dX10_isAnchor_0 : decode cX10_isAnchor 0 = .ok (.aload_n 0, 1) := by decide +kernel
theorem dX10_isAnchor_1 : decode cX10_isAnchor 1 = .ok (.invokevirtual 130, 3) := by decide +kernel
theorem dX10_isAnchor_4 : decode cX10_isAnchor 4 = .ok (.aload_n 0, 1) := by decide +kernel
theorem dX10_isAnchor_5 : decode cX10_isAnchor 5 = .ok (.iload_n 1, 1) := by decide +kernel
theorem dX10_isAnchor_6 : decode cX10_isAnchor 6 = .ok (.iload_n 2, 1) := by decide +kernel
theorem dX10_isAnchor_7 : decode cX10_isAnchor 7 = .ok (.invokestatic 101, 3) := by decide +kernel
theorem dX10_isAnchor_10 : decode cX10_isAnchor 10 = .ok (.iconst 1, 1) := by decide +kernel
theorem dX10_isAnchor_11 : decode cX10_isAnchor 11 = .ok (.iconst 1, 1) := by decide +kernel
theorem dX10_isAnchor_12 : decode cX10_isAnchor 12 = .ok (.invokevirtual 74, 3) := by decide +kernel
theorem dX10_isAnchor_15 : decode cX10_isAnchor 15 = .ok (.ifCond .eq 16, 3) := by decide +kernel
theorem dX10_isAnchor_18 : decode cX10_isAnchor 18 = .ok (.aload_n 0, 1) := by decide +kernel
theorem dX10_isAnchor_19 : decode cX10_isAnchor 19 = .ok (.iload_n 1, 1) := by decide +kernel
theorem dX10_isAnchor_20 : decode cX10_isAnchor 20 = .ok (.iload_n 2, 1) := by decide +kernel
theorem dX10_isAnchor_21 : decode cX10_isAnchor 21 = .ok (.invokevirtual 141, 3) := by decide +kernel
theorem dX10_isAnchor_24 : decode cX10_isAnchor 24 = .ok (.ifCond .eq 7, 3) := by decide +kernel
theorem dX10_isAnchor_27 : decode cX10_isAnchor 27 = .ok (.iconst 1, 1) := by decide +kernel
theorem dX10_isAnchor_28 : decode cX10_isAnchor 28 = .ok (.goto 4, 3) := by decide +kernel
theorem dX10_isAnchor_31 : decode cX10_isAnchor 31 = .ok (.iconst 0, 1) := by decide +kernel
theorem dX10_isAnchor_32 : decode cX10_isAnchor 32 = .ok (.ireturn, 1) := by decide +kernel
theorem dX10_laysWord_0 : decode cX10_laysWord 0 = .ok (.aload_n 0, 1) := by decide +kernel
theorem dX10_laysWord_1 : decode cX10_laysWord 1 = .ok (.aload_n 0, 1) := by decide +kernel
theorem dX10_laysWord_2 : decode cX10_laysWord 2 = .ok (.getfield 78, 3) := by decide +kernel
theorem dX10_laysWord_5 : decode cX10_laysWord 5 = .ok (.putfield 147, 3) := by decide +kernel
theorem dX10_laysWord_8 : decode cX10_laysWord 8 = .ok (.iconst 0, 1) := by decide +kernel
theorem dX10_laysWord_9 : decode cX10_laysWord 9 = .ok (.istore_n 1, 1) := by decide +kernel
theorem dX10_laysWord_10 : decode cX10_laysWord 10 = .ok (.iload_n 1, 1) := by decide +kernel
theorem dX10_laysWord_11 : decode cX10_laysWord 11 = .ok (.aload_n 0, 1) := by decide +kernel
theorem dX10_laysWord_12 : decode cX10_laysWord 12 = .ok (.getfield 78, 3) := by decide +kernel
theorem dX10_laysWord_15 : decode cX10_laysWord 15 = .ok (.if_icmp .ge 21, 3) := by decide +kernel
theorem dX10_laysWord_18 : decode cX10_laysWord 18 = .ok (.aload_n 0, 1) := by decide +kernel
theorem dX10_laysWord_19 : decode cX10_laysWord 19 = .ok (.getfield 28, 3) := by decide +kernel
theorem dX10_laysWord_22 : decode cX10_laysWord 22 = .ok (.iload_n 1, 1) := by decide +kernel
theorem dX10_laysWord_23 : decode cX10_laysWord 23 = .ok (.aload_n 0, 1) := by decide +kernel
theorem dX10_laysWord_24 : decode cX10_laysWord 24 = .ok (.getfield 19, 3) := by decide +kernel
theorem dX10_laysWord_27 : decode cX10_laysWord 27 = .ok (.iload_n 1, 1) := by decide +kernel
theorem dX10_laysWord_28 : decode cX10_laysWord 28 = .ok (.iaload, 1) := by decide +kernel
theorem dX10_laysWord_29 : decode cX10_laysWord 29 = .ok (.iastore, 1) := by decide +kernel
theorem dX10_laysWord_30 : decode cX10_laysWord 30 = .ok (.iinc 1 1, 3) := by decide +kernel
theorem dX10_laysWord_33 : decode cX10_laysWord 33 = .ok (.goto (-23), 3) := by decide +kernel
theorem dX10_laysWord_36 : decode cX10_laysWord 36 = .ok (.return_, 1) := by decide +kernel
theorem dX10_squareOf_0 : decode cX10_squareOf 0 = .ok (.bipush 7, 2) := by decide +kernel
theorem dX10_squareOf_2 : decode cX10_squareOf 2 = .ok (.iload_n 1, 1) := by decide +kernel
theorem dX10_squareOf_3 : decode cX10_squareOf 3 = .ok (.iload_n 0, 1) := by decide +kernel
theorem dX10_squareOf_4 : decode cX10_squareOf 4 = .ok (.iconst 1, 1) := by decide +kernel
theorem dX10_squareOf_5 : decode cX10_squareOf 5 = .ok (.if_icmp .ne 7, 3) := by decide +kernel
theorem dX10_squareOf_8 : decode cX10_squareOf 8 = .ok (.iload_n 3, 1) := by decide +kernel
theorem dX10_squareOf_9 : decode cX10_squareOf 9 = .ok (.goto 4, 3) := by decide +kernel
theorem dX10_squareOf_12 : decode cX10_squareOf 12 = .ok (.iconst 0, 1) := by decide +kernel
theorem dX10_squareOf_13 : decode cX10_squareOf 13 = .ok (.iadd, 1) := by decide +kernel
theorem dX10_squareOf_14 : decode cX10_squareOf 14 = .ok (.imul, 1) := by decide +kernel
theorem dX10_squareOf_15 : decode cX10_squareOf 15 = .ok (.iload_n 2, 1) := by decide +kernel
theorem dX10_squareOf_16 : decode cX10_squareOf 16 = .ok (.iadd, 1) := by decide +kernel
theorem dX10_squareOf_17 : decode cX10_squareOf 17 = .ok (.iload_n 0, 1) := by decide +kernel
theorem dX10_squareOf_18 : decode cX10_squareOf 18 = .ok (.ifCond .ne 7, 3) := by decide +kernel
theorem dX10_squareOf_21 : decode cX10_squareOf 21 = .ok (.iload_n 3, 1) := by decide +kernel
theorem dX10_squareOf_22 : decode cX10_squareOf 22 = .ok (.goto 4, 3) := by decide +kernel
theorem dX10_squareOf_25 : decode cX10_squareOf 25 = .ok (.iconst 0, 1) := by decide +kernel
theorem dX10_squareOf_26 : decode cX10_squareOf 26 = .ok (.iadd, 1) := by decide +kernel
theorem dX10_squareOf_27 : decode cX10_squareOf 27 = .ok (.ireturn, 1) := by decide +kernel
theorem dX10_isTouching_0 : decode cX10_isTouching 0 = .ok (.iconst 0, 1) := by decide +kernel
theorem dX10_isTouching_1 : decode cX10_isTouching 1 = .ok (.istore 4, 2) := by decide +kernel
theorem dX10_isTouching_3 : decode cX10_isTouching 3 = .ok (.iconst 0, 1) := by decide +kernel
theorem dX10_isTouching_4 : decode cX10_isTouching 4 = .ok (.istore 5, 2) := by decide +kernel
theorem dX10_isTouching_6 : decode cX10_isTouching 6 = .ok (.iload 5, 2) := by decide +kernel
theorem dX10_isTouching_8 : decode cX10_isTouching 8 = .ok (.aload_n 0, 1) := by decide +kernel
theorem dX10_isTouching_9 : decode cX10_isTouching 9 = .ok (.getfield 147, 3) := by decide +kernel
theorem dX10_isTouching_12 : decode cX10_isTouching 12 = .ok (.if_icmp .ge 137, 3) := by decide +kernel
theorem dX10_isTouching_15 : decode cX10_isTouching 15 = .ok (.iload_n 2, 1) := by decide +kernel
theorem dX10_isTouching_16 : decode cX10_isTouching 16 = .ok (.iload_n 1, 1) := by decide +kernel
theorem dX10_isTouching_17 : decode cX10_isTouching 17 = .ok (.iconst 1, 1) := by decide +kernel
theorem dX10_isTouching_18 : decode cX10_isTouching 18 = .ok (.if_icmp .ne 8, 3) := by decide +kernel
theorem dX10_isTouching_21 : decode cX10_isTouching 21 = .ok (.iload 5, 2) := by decide +kernel
theorem dX10_isTouching_23 : decode cX10_isTouching 23 = .ok (.goto 4, 3) := by decide +kernel
theorem dX10_isTouching_26 : decode cX10_isTouching 26 = .ok (.iconst 0, 1) := by decide +kernel
theorem dX10_isTouching_27 : decode cX10_isTouching 27 = .ok (.iadd, 1) := by decide +kernel
theorem dX10_isTouching_28 : decode cX10_isTouching 28 = .ok (.istore 6, 2) := by decide +kernel
theorem dX10_isTouching_30 : decode cX10_isTouching 30 = .ok (.iload_n 3, 1) := by decide +kernel
theorem dX10_isTouching_31 : decode cX10_isTouching 31 = .ok (.iload_n 1, 1) := by decide +kernel
theorem dX10_isTouching_32 : decode cX10_isTouching 32 = .ok (.ifCond .ne 8, 3) := by decide +kernel
theorem dX10_isTouching_35 : decode cX10_isTouching 35 = .ok (.iload 5, 2) := by decide +kernel
theorem dX10_isTouching_37 : decode cX10_isTouching 37 = .ok (.goto 4, 3) := by decide +kernel
theorem dX10_isTouching_40 : decode cX10_isTouching 40 = .ok (.iconst 0, 1) := by decide +kernel
theorem dX10_isTouching_41 : decode cX10_isTouching 41 = .ok (.iadd, 1) := by decide +kernel
theorem dX10_isTouching_42 : decode cX10_isTouching 42 = .ok (.istore 7, 2) := by decide +kernel
theorem dX10_isTouching_44 : decode cX10_isTouching 44 = .ok (.iload_n 1, 1) := by decide +kernel
theorem dX10_isTouching_45 : decode cX10_isTouching 45 = .ok (.ifCond .ne 37, 3) := by decide +kernel
theorem dX10_isTouching_48 : decode cX10_isTouching 48 = .ok (.aload_n 0, 1) := by decide +kernel
theorem dX10_isTouching_49 : decode cX10_isTouching 49 = .ok (.iload 6, 2) := by decide +kernel
theorem dX10_isTouching_51 : decode cX10_isTouching 51 = .ok (.iconst 1, 1) := by decide +kernel
theorem dX10_isTouching_52 : decode cX10_isTouching 52 = .ok (.isub, 1) := by decide +kernel
theorem dX10_isTouching_53 : decode cX10_isTouching 53 = .ok (.iload 7, 2) := by decide +kernel
theorem dX10_isTouching_55 : decode cX10_isTouching 55 = .ok (.invokevirtual 116, 3) := by decide +kernel
theorem dX10_isTouching_58 : decode cX10_isTouching 58 = .ok (.ifCond .ne 16, 3) := by decide +kernel
theorem dX10_isTouching_61 : decode cX10_isTouching 61 = .ok (.aload_n 0, 1) := by decide +kernel
theorem dX10_isTouching_62 : decode cX10_isTouching 62 = .ok (.iload 6, 2) := by decide +kernel
theorem dX10_isTouching_64 : decode cX10_isTouching 64 = .ok (.iconst 1, 1) := by decide +kernel
theorem dX10_isTouching_65 : decode cX10_isTouching 65 = .ok (.iadd, 1) := by decide +kernel
theorem dX10_isTouching_66 : decode cX10_isTouching 66 = .ok (.iload 7, 2) := by decide +kernel
theorem dX10_isTouching_68 : decode cX10_isTouching 68 = .ok (.invokevirtual 116, 3) := by decide +kernel
theorem dX10_isTouching_71 : decode cX10_isTouching 71 = .ok (.ifCond .eq 7, 3) := by decide +kernel
theorem dX10_isTouching_74 : decode cX10_isTouching 74 = .ok (.iconst 1, 1) := by decide +kernel
theorem dX10_isTouching_75 : decode cX10_isTouching 75 = .ok (.goto 38, 3) := by decide +kernel
theorem dX10_isTouching_78 : decode cX10_isTouching 78 = .ok (.iconst 0, 1) := by decide +kernel
theorem dX10_isTouching_79 : decode cX10_isTouching 79 = .ok (.goto 34, 3) := by decide +kernel
theorem dX10_isTouching_82 : decode cX10_isTouching 82 = .ok (.aload_n 0, 1) := by decide +kernel
theorem dX10_isTouching_83 : decode cX10_isTouching 83 = .ok (.iload 6, 2) := by decide +kernel
theorem dX10_isTouching_85 : decode cX10_isTouching 85 = .ok (.iload 7, 2) := by decide +kernel
theorem dX10_isTouching_87 : decode cX10_isTouching 87 = .ok (.iconst 1, 1) := by decide +kernel
theorem dX10_isTouching_88 : decode cX10_isTouching 88 = .ok (.isub, 1) := by decide +kernel
theorem dX10_isTouching_89 : decode cX10_isTouching 89 = .ok (.invokevirtual 116, 3) := by decide +kernel
theorem dX10_isTouching_92 : decode cX10_isTouching 92 = .ok (.ifCond .ne 16, 3) := by decide +kernel
theorem dX10_isTouching_95 : decode cX10_isTouching 95 = .ok (.aload_n 0, 1) := by decide +kernel
theorem dX10_isTouching_96 : decode cX10_isTouching 96 = .ok (.iload 6, 2) := by decide +kernel
theorem dX10_isTouching_98 : decode cX10_isTouching 98 = .ok (.iload 7, 2) := by decide +kernel
theorem dX10_isTouching_100 : decode cX10_isTouching 100 = .ok (.iconst 1, 1) := by decide +kernel
theorem dX10_isTouching_101 : decode cX10_isTouching 101 = .ok (.iadd, 1) := by decide +kernel
theorem dX10_isTouching_102 : decode cX10_isTouching 102 = .ok (.invokevirtual 116, 3) := by decide +kernel
theorem dX10_isTouching_105 : decode cX10_isTouching 105 = .ok (.ifCond .eq 7, 3) := by decide +kernel
theorem dX10_isTouching_108 : decode cX10_isTouching 108 = .ok (.iconst 1, 1) := by decide +kernel
theorem dX10_isTouching_109 : decode cX10_isTouching 109 = .ok (.goto 4, 3) := by decide +kernel
theorem dX10_isTouching_112 : decode cX10_isTouching 112 = .ok (.iconst 0, 1) := by decide +kernel
theorem dX10_isTouching_113 : decode cX10_isTouching 113 = .ok (.istore 8, 2) := by decide +kernel
theorem dX10_isTouching_115 : decode cX10_isTouching 115 = .ok (.iload 4, 2) := by decide +kernel
theorem dX10_isTouching_117 : decode cX10_isTouching 117 = .ok (.ifCond .ne 19, 3) := by decide +kernel
theorem dX10_isTouching_120 : decode cX10_isTouching 120 = .ok (.aload_n 0, 1) := by decide +kernel
theorem dX10_isTouching_121 : decode cX10_isTouching 121 = .ok (.iload 6, 2) := by decide +kernel
theorem dX10_isTouching_123 : decode cX10_isTouching 123 = .ok (.iload 7, 2) := by decide +kernel
theorem dX10_isTouching_125 : decode cX10_isTouching 125 = .ok (.invokevirtual 116, 3) := by decide +kernel
theorem dX10_isTouching_128 : decode cX10_isTouching 128 = .ok (.ifCond .ne 8, 3) := by decide +kernel
theorem dX10_isTouching_131 : decode cX10_isTouching 131 = .ok (.iload 8, 2) := by decide +kernel
theorem dX10_isTouching_133 : decode cX10_isTouching 133 = .ok (.ifCond .eq 7, 3) := by decide +kernel
theorem dX10_isTouching_136 : decode cX10_isTouching 136 = .ok (.iconst 1, 1) := by decide +kernel
theorem dX10_isTouching_137 : decode cX10_isTouching 137 = .ok (.goto 4, 3) := by decide +kernel
theorem dX10_isTouching_140 : decode cX10_isTouching 140 = .ok (.iconst 0, 1) := by decide +kernel
theorem dX10_isTouching_141 : decode cX10_isTouching 141 = .ok (.istore 4, 2) := by decide +kernel
theorem dX10_isTouching_143 : decode cX10_isTouching 143 = .ok (.iinc 5 1, 3) := by decide +kernel
theorem dX10_isTouching_146 : decode cX10_isTouching 146 = .ok (.goto (-140), 3) := by decide +kernel
theorem dX10_isTouching_149 : decode cX10_isTouching 149 = .ok (.iload 4, 2) := by decide +kernel
theorem dX10_isTouching_151 : decode cX10_isTouching 151 = .ok (.ireturn, 1) := by decide +kernel
theorem dX10_coversCentre_0 : decode cX10_coversCentre 0 = .ok (.iconst 0, 1) := by decide +kernel
theorem dX10_coversCentre_1 : decode cX10_coversCentre 1 = .ok (.istore 4, 2) := by decide +kernel
theorem dX10_coversCentre_3 : decode cX10_coversCentre 3 = .ok (.iconst 0, 1) := by decide +kernel
theorem dX10_coversCentre_4 : decode cX10_coversCentre 4 = .ok (.istore 5, 2) := by decide +kernel
theorem dX10_coversCentre_6 : decode cX10_coversCentre 6 = .ok (.iload 5, 2) := by decide +kernel
theorem dX10_coversCentre_8 : decode cX10_coversCentre 8 = .ok (.aload_n 0, 1) := by decide +kernel
theorem dX10_coversCentre_9 : decode cX10_coversCentre 9 = .ok (.getfield 147, 3) := by decide +kernel
theorem dX10_coversCentre_12 : decode cX10_coversCentre 12 = .ok (.if_icmp .ge 34, 3) := by decide +kernel
theorem dX10_coversCentre_15 : decode cX10_coversCentre 15 = .ok (.iload 4, 2) := by decide +kernel
theorem dX10_coversCentre_17 : decode cX10_coversCentre 17 = .ok (.ifCond .ne 16, 3) := by decide +kernel
theorem dX10_coversCentre_20 : decode cX10_coversCentre 20 = .ok (.iload_n 1, 1) := by decide +kernel
theorem dX10_coversCentre_21 : decode cX10_coversCentre 21 = .ok (.iload_n 2, 1) := by decide +kernel
theorem dX10_coversCentre_22 : decode cX10_coversCentre 22 = .ok (.iload_n 3, 1) := by decide +kernel
theorem dX10_coversCentre_23 : decode cX10_coversCentre 23 = .ok (.iload 5, 2) := by decide +kernel
theorem dX10_coversCentre_25 : decode cX10_coversCentre 25 = .ok (.invokestatic 150, 3) := by decide +kernel
theorem dX10_coversCentre_28 : decode cX10_coversCentre 28 = .ok (.bipush 24, 2) := by decide +kernel
theorem dX10_coversCentre_30 : decode cX10_coversCentre 30 = .ok (.if_icmp .ne 7, 3) := by decide +kernel
theorem dX10_coversCentre_33 : decode cX10_coversCentre 33 = .ok (.iconst 1, 1) := by decide +kernel
theorem dX10_coversCentre_34 : decode cX10_coversCentre 34 = .ok (.goto 4, 3) := by decide +kernel
theorem dX10_coversCentre_37 : decode cX10_coversCentre 37 = .ok (.iconst 0, 1) := by decide +kernel
theorem dX10_coversCentre_38 : decode cX10_coversCentre 38 = .ok (.istore 4, 2) := by decide +kernel
theorem dX10_coversCentre_40 : decode cX10_coversCentre 40 = .ok (.iinc 5 1, 3) := by decide +kernel
theorem dX10_coversCentre_43 : decode cX10_coversCentre 43 = .ok (.goto (-37), 3) := by decide +kernel
theorem dX10_coversCentre_46 : decode cX10_coversCentre 46 = .ok (.iload 4, 2) := by decide +kernel
theorem dX10_coversCentre_48 : decode cX10_coversCentre 48 = .ok (.ireturn, 1) := by decide +kernel
theorem dX10_reason_0 : decode cX10_reason 0 = .ok (.aload_n 0, 1) := by decide +kernel
theorem dX10_reason_1 : decode cX10_reason 1 = .ok (.invokevirtual 154, 3) := by decide +kernel
theorem dX10_reason_4 : decode cX10_reason 4 = .ok (.aload_n 0, 1) := by decide +kernel
theorem dX10_reason_5 : decode cX10_reason 5 = .ok (.invokevirtual 91, 3) := by decide +kernel
theorem dX10_reason_8 : decode cX10_reason 8 = .ok (.iconst (-1), 1) := by decide +kernel
theorem dX10_reason_9 : decode cX10_reason 9 = .ok (.if_icmp .ne 5, 3) := by decide +kernel
theorem dX10_reason_12 : decode cX10_reason 12 = .ok (.iconst 1, 1) := by decide +kernel
theorem dX10_reason_13 : decode cX10_reason 13 = .ok (.ireturn, 1) := by decide +kernel
theorem dX10_reason_14 : decode cX10_reason 14 = .ok (.iload_n 2, 1) := by decide +kernel
theorem dX10_reason_15 : decode cX10_reason 15 = .ok (.ifCond .ne 8, 3) := by decide +kernel
theorem dX10_reason_18 : decode cX10_reason 18 = .ok (.iload 4, 2) := by decide +kernel
theorem dX10_reason_20 : decode cX10_reason 20 = .ok (.goto 4, 3) := by decide +kernel
theorem dX10_reason_23 : decode cX10_reason 23 = .ok (.iload_n 3, 1) := by decide +kernel
theorem dX10_reason_24 : decode cX10_reason 24 = .ok (.aload_n 0, 1) := by decide +kernel
theorem dX10_reason_25 : decode cX10_reason 25 = .ok (.getfield 147, 3) := by decide +kernel
theorem dX10_reason_28 : decode cX10_reason 28 = .ok (.iadd, 1) := by decide +kernel
theorem dX10_reason_29 : decode cX10_reason 29 = .ok (.bipush 7, 2) := by decide +kernel
theorem dX10_reason_31 : decode cX10_reason 31 = .ok (.if_icmp .le 5, 3) := by decide +kernel
theorem dX10_reason_34 : decode cX10_reason 34 = .ok (.iconst 2, 1) := by decide +kernel
theorem dX10_reason_35 : decode cX10_reason 35 = .ok (.ireturn, 1) := by decide +kernel
theorem dX10_reason_36 : decode cX10_reason 36 = .ok (.iload_n 2, 1) := by decide +kernel
theorem dX10_reason_37 : decode cX10_reason 37 = .ok (.istore 5, 2) := by decide +kernel
theorem dX10_reason_39 : decode cX10_reason 39 = .ok (.iconst 1, 1) := by decide +kernel
theorem dX10_reason_40 : decode cX10_reason 40 = .ok (.iload_n 2, 1) := by decide +kernel
theorem dX10_reason_41 : decode cX10_reason 41 = .ok (.isub, 1) := by decide +kernel
theorem dX10_reason_42 : decode cX10_reason 42 = .ok (.istore 6, 2) := by decide +kernel
theorem dX10_reason_44 : decode cX10_reason 44 = .ok (.aload_n 0, 1) := by decide +kernel
theorem dX10_reason_45 : decode cX10_reason 45 = .ok (.iload_n 3, 1) := by decide +kernel
theorem dX10_reason_46 : decode cX10_reason 46 = .ok (.iload 5, 2) := by decide +kernel
theorem dX10_reason_48 : decode cX10_reason 48 = .ok (.isub, 1) := by decide +kernel
theorem dX10_reason_49 : decode cX10_reason 49 = .ok (.iload 4, 2) := by decide +kernel
theorem dX10_reason_51 : decode cX10_reason 51 = .ok (.iload 6, 2) := by decide +kernel
theorem dX10_reason_53 : decode cX10_reason 53 = .ok (.isub, 1) := by decide +kernel
theorem dX10_reason_54 : decode cX10_reason 54 = .ok (.invokevirtual 116, 3) := by decide +kernel
theorem dX10_reason_57 : decode cX10_reason 57 = .ok (.ifCond .ne 29, 3) := by decide +kernel
theorem dX10_reason_60 : decode cX10_reason 60 = .ok (.aload_n 0, 1) := by decide +kernel
theorem dX10_reason_61 : decode cX10_reason 61 = .ok (.iload_n 3, 1) := by decide +kernel
theorem dX10_reason_62 : decode cX10_reason 62 = .ok (.iload 5, 2) := by decide +kernel
theorem dX10_reason_64 : decode cX10_reason 64 = .ok (.aload_n 0, 1) := by decide +kernel
theorem dX10_reason_65 : decode cX10_reason 65 = .ok (.getfield 147, 3) := by decide +kernel
theorem dX10_reason_68 : decode cX10_reason 68 = .ok (.imul, 1) := by decide +kernel
theorem dX10_reason_69 : decode cX10_reason 69 = .ok (.iadd, 1) := by decide +kernel
theorem dX10_reason_70 : decode cX10_reason 70 = .ok (.iload 4, 2) := by decide +kernel
theorem dX10_reason_72 : decode cX10_reason 72 = .ok (.iload 6, 2) := by decide +kernel
theorem dX10_reason_74 : decode cX10_reason 74 = .ok (.aload_n 0, 1) := by decide +kernel
theorem dX10_reason_75 : decode cX10_reason 75 = .ok (.getfield 147, 3) := by decide +kernel
theorem dX10_reason_78 : decode cX10_reason 78 = .ok (.imul, 1) := by decide +kernel
theorem dX10_reason_79 : decode cX10_reason 79 = .ok (.iadd, 1) := by decide +kernel
theorem dX10_reason_80 : decode cX10_reason 80 = .ok (.invokevirtual 116, 3) := by decide +kernel
theorem dX10_reason_83 : decode cX10_reason 83 = .ok (.ifCond .eq 5, 3) := by decide +kernel
theorem dX10_reason_86 : decode cX10_reason 86 = .ok (.iconst 3, 1) := by decide +kernel
theorem dX10_reason_87 : decode cX10_reason 87 = .ok (.ireturn, 1) := by decide +kernel
theorem dX10_reason_88 : decode cX10_reason 88 = .ok (.iconst 0, 1) := by decide +kernel
theorem dX10_reason_89 : decode cX10_reason 89 = .ok (.istore 7, 2) := by decide +kernel
theorem dX10_reason_91 : decode cX10_reason 91 = .ok (.iload 7, 2) := by decide +kernel
theorem dX10_reason_93 : decode cX10_reason 93 = .ok (.bipush 8, 2) := by decide +kernel
theorem dX10_reason_95 : decode cX10_reason 95 = .ok (.if_icmp .ge 17, 3) := by decide +kernel
theorem dX10_reason_98 : decode cX10_reason 98 = .ok (.aload_n 0, 1) := by decide +kernel
theorem dX10_reason_99 : decode cX10_reason 99 = .ok (.getfield 31, 3) := by decide +kernel
theorem dX10_reason_102 : decode cX10_reason 102 = .ok (.iload 7, 2) := by decide +kernel
theorem dX10_reason_104 : decode cX10_reason 104 = .ok (.iconst 0, 1) := by decide +kernel
theorem dX10_reason_105 : decode cX10_reason 105 = .ok (.iastore, 1) := by decide +kernel
theorem dX10_reason_106 : decode cX10_reason 106 = .ok (.iinc 7 1, 3) := by decide +kernel
theorem dX10_reason_109 : decode cX10_reason 109 = .ok (.goto (-18), 3) := by decide +kernel
theorem dX10_reason_112 : decode cX10_reason 112 = .ok (.iconst 0, 1) := by decide +kernel
theorem dX10_reason_113 : decode cX10_reason 113 = .ok (.istore 7, 2) := by decide +kernel
theorem dX10_reason_115 : decode cX10_reason 115 = .ok (.iconst 0, 1) := by decide +kernel
theorem dX10_reason_116 : decode cX10_reason 116 = .ok (.istore 8, 2) := by decide +kernel
theorem dX10_reason_118 : decode cX10_reason 118 = .ok (.iload 8, 2) := by decide +kernel
theorem dX10_reason_120 : decode cX10_reason 120 = .ok (.aload_n 0, 1) := by decide +kernel
theorem dX10_reason_121 : decode cX10_reason 121 = .ok (.getfield 147, 3) := by decide +kernel
theorem dX10_reason_124 : decode cX10_reason 124 = .ok (.if_icmp .ge 87, 3) := by decide +kernel
theorem dX10_reason_127 : decode cX10_reason 127 = .ok (.aload_n 0, 1) := by decide +kernel
theorem dX10_reason_128 : decode cX10_reason 128 = .ok (.getfield 22, 3) := by decide +kernel
theorem dX10_reason_131 : decode cX10_reason 131 = .ok (.iload_n 2, 1) := by decide +kernel
theorem dX10_reason_132 : decode cX10_reason 132 = .ok (.iload_n 3, 1) := by decide +kernel
theorem dX10_reason_133 : decode cX10_reason 133 = .ok (.iload 4, 2) := by decide +kernel
theorem dX10_reason_135 : decode cX10_reason 135 = .ok (.iload 8, 2) := by decide +kernel
theorem dX10_reason_137 : decode cX10_reason 137 = .ok (.invokestatic 150, 3) := by decide +kernel
theorem dX10_reason_140 : decode cX10_reason 140 = .ok (.iaload, 1) := by decide +kernel
theorem dX10_reason_141 : decode cX10_reason 141 = .ok (.istore 9, 2) := by decide +kernel
theorem dX10_reason_143 : decode cX10_reason 143 = .ok (.iload 9, 2) := by decide +kernel
theorem dX10_reason_145 : decode cX10_reason 145 = .ok (.iconst (-1), 1) := by decide +kernel
theorem dX10_reason_146 : decode cX10_reason 146 = .ok (.if_icmp .eq 17, 3) := by decide +kernel
theorem dX10_reason_149 : decode cX10_reason 149 = .ok (.iload 9, 2) := by decide +kernel
theorem dX10_reason_151 : decode cX10_reason 151 = .ok (.aload_n 0, 1) := by decide +kernel
theorem dX10_reason_152 : decode cX10_reason 152 = .ok (.getfield 28, 3) := by decide +kernel
theorem dX10_reason_155 : decode cX10_reason 155 = .ok (.iload 8, 2) := by decide +kernel
theorem dX10_reason_157 : decode cX10_reason 157 = .ok (.iaload, 1) := by decide +kernel
theorem dX10_reason_158 : decode cX10_reason 158 = .ok (.if_icmp .eq 5, 3) := by decide +kernel
theorem dX10_reason_161 : decode cX10_reason 161 = .ok (.iconst 4, 1) := by decide +kernel
theorem dX10_reason_162 : decode cX10_reason 162 = .ok (.ireturn, 1) := by decide +kernel
theorem dX10_reason_163 : decode cX10_reason 163 = .ok (.aload_n 0, 1) := by decide +kernel
theorem dX10_reason_164 : decode cX10_reason 164 = .ok (.getfield 31, 3) := by decide +kernel
theorem dX10_reason_167 : decode cX10_reason 167 = .ok (.aload_n 0, 1) := by decide +kernel
theorem dX10_reason_168 : decode cX10_reason 168 = .ok (.getfield 28, 3) := by decide +kernel
theorem dX10_reason_171 : decode cX10_reason 171 = .ok (.iload 8, 2) := by decide +kernel
theorem dX10_reason_173 : decode cX10_reason 173 = .ok (.iaload, 1) := by decide +kernel
theorem dX10_reason_174 : decode cX10_reason 174 = .ok (.dup2, 1) := by decide +kernel
theorem dX10_reason_175 : decode cX10_reason 175 = .ok (.iaload, 1) := by decide +kernel
theorem dX10_reason_176 : decode cX10_reason 176 = .ok (.iload 9, 2) := by decide +kernel
theorem dX10_reason_178 : decode cX10_reason 178 = .ok (.iconst (-1), 1) := by decide +kernel
theorem dX10_reason_179 : decode cX10_reason 179 = .ok (.if_icmp .ne 7, 3) := by decide +kernel
theorem dX10_reason_182 : decode cX10_reason 182 = .ok (.iconst 1, 1) := by decide +kernel
theorem dX10_reason_183 : decode cX10_reason 183 = .ok (.goto 4, 3) := by decide +kernel
theorem dX10_reason_186 : decode cX10_reason 186 = .ok (.iconst 0, 1) := by decide +kernel
theorem dX10_reason_187 : decode cX10_reason 187 = .ok (.iadd, 1) := by decide +kernel
theorem dX10_reason_188 : decode cX10_reason 188 = .ok (.iastore, 1) := by decide +kernel
theorem dX10_reason_189 : decode cX10_reason 189 = .ok (.iload 7, 2) := by decide +kernel
theorem dX10_reason_191 : decode cX10_reason 191 = .ok (.iload 9, 2) := by decide +kernel
theorem dX10_reason_193 : decode cX10_reason 193 = .ok (.iconst (-1), 1) := by decide +kernel
theorem dX10_reason_194 : decode cX10_reason 194 = .ok (.if_icmp .ne 7, 3) := by decide +kernel
theorem dX10_reason_197 : decode cX10_reason 197 = .ok (.iconst 1, 1) := by decide +kernel
theorem dX10_reason_198 : decode cX10_reason 198 = .ok (.goto 4, 3) := by decide +kernel
theorem dX10_reason_201 : decode cX10_reason 201 = .ok (.iconst 0, 1) := by decide +kernel
theorem dX10_reason_202 : decode cX10_reason 202 = .ok (.iadd, 1) := by decide +kernel
theorem dX10_reason_203 : decode cX10_reason 203 = .ok (.istore 7, 2) := by decide +kernel
theorem dX10_reason_205 : decode cX10_reason 205 = .ok (.iinc 8 1, 3) := by decide +kernel
theorem dX10_reason_208 : decode cX10_reason 208 = .ok (.goto (-90), 3) := by decide +kernel
theorem dX10_reason_211 : decode cX10_reason 211 = .ok (.iload 7, 2) := by decide +kernel
theorem dX10_reason_213 : decode cX10_reason 213 = .ok (.ifCond .ne 5, 3) := by decide +kernel
theorem dX10_reason_216 : decode cX10_reason 216 = .ok (.iconst 5, 1) := by decide +kernel
theorem dX10_reason_217 : decode cX10_reason 217 = .ok (.ireturn, 1) := by decide +kernel
theorem dX10_reason_218 : decode cX10_reason 218 = .ok (.iconst 0, 1) := by decide +kernel
theorem dX10_reason_219 : decode cX10_reason 219 = .ok (.istore 8, 2) := by decide +kernel
theorem dX10_reason_221 : decode cX10_reason 221 = .ok (.iload 8, 2) := by decide +kernel
theorem dX10_reason_223 : decode cX10_reason 223 = .ok (.bipush 8, 2) := by decide +kernel
theorem dX10_reason_225 : decode cX10_reason 225 = .ok (.if_icmp .ge 34, 3) := by decide +kernel
theorem dX10_reason_228 : decode cX10_reason 228 = .ok (.aload_n 0, 1) := by decide +kernel
theorem dX10_reason_229 : decode cX10_reason 229 = .ok (.getfield 31, 3) := by decide +kernel
theorem dX10_reason_232 : decode cX10_reason 232 = .ok (.iload 8, 2) := by decide +kernel
theorem dX10_reason_234 : decode cX10_reason 234 = .ok (.iaload, 1) := by decide +kernel
theorem dX10_reason_235 : decode cX10_reason 235 = .ok (.aload_n 0, 1) := by decide +kernel
theorem dX10_reason_236 : decode cX10_reason 236 = .ok (.getfield 25, 3) := by decide +kernel
theorem dX10_reason_239 : decode cX10_reason 239 = .ok (.bipush 8, 2) := by decide +kernel
theorem dX10_reason_241 : decode cX10_reason 241 = .ok (.iload_n 1, 1) := by decide +kernel
theorem dX10_reason_242 : decode cX10_reason 242 = .ok (.imul, 1) := by decide +kernel
theorem dX10_reason_243 : decode cX10_reason 243 = .ok (.iload 8, 2) := by decide +kernel
theorem dX10_reason_245 : decode cX10_reason 245 = .ok (.iadd, 1) := by decide +kernel
theorem dX10_reason_246 : decode cX10_reason 246 = .ok (.iaload, 1) := by decide +kernel
theorem dX10_reason_247 : decode cX10_reason 247 = .ok (.if_icmp .le 6, 3) := by decide +kernel
theorem dX10_reason_250 : decode cX10_reason 250 = .ok (.bipush 6, 2) := by decide +kernel
theorem dX10_reason_252 : decode cX10_reason 252 = .ok (.ireturn, 1) := by decide +kernel
theorem dX10_reason_253 : decode cX10_reason 253 = .ok (.iinc 8 1, 3) := by decide +kernel
theorem dX10_reason_256 : decode cX10_reason 256 = .ok (.goto (-35), 3) := by decide +kernel
theorem dX10_reason_259 : decode cX10_reason 259 = .ok (.aload_n 0, 1) := by decide +kernel
theorem dX10_reason_260 : decode cX10_reason 260 = .ok (.invokevirtual 137, 3) := by decide +kernel
theorem dX10_reason_263 : decode cX10_reason 263 = .ok (.ifCond .eq 17, 3) := by decide +kernel
theorem dX10_reason_266 : decode cX10_reason 266 = .ok (.aload_n 0, 1) := by decide +kernel
theorem dX10_reason_267 : decode cX10_reason 267 = .ok (.iload_n 2, 1) := by decide +kernel
theorem dX10_reason_268 : decode cX10_reason 268 = .ok (.iload_n 3, 1) := by decide +kernel
theorem dX10_reason_269 : decode cX10_reason 269 = .ok (.iload 4, 2) := by decide +kernel
theorem dX10_reason_271 : decode cX10_reason 271 = .ok (.invokevirtual 157, 3) := by decide +kernel
theorem dX10_reason_274 : decode cX10_reason 274 = .ok (.ifCond .ne 20, 3) := by decide +kernel
theorem dX10_reason_277 : decode cX10_reason 277 = .ok (.goto 14, 3) := by decide +kernel
theorem dX10_reason_280 : decode cX10_reason 280 = .ok (.aload_n 0, 1) := by decide +kernel
theorem dX10_reason_281 : decode cX10_reason 281 = .ok (.iload_n 2, 1) := by decide +kernel
theorem dX10_reason_282 : decode cX10_reason 282 = .ok (.iload_n 3, 1) := by decide +kernel
theorem dX10_reason_283 : decode cX10_reason 283 = .ok (.iload 4, 2) := by decide +kernel
theorem dX10_reason_285 : decode cX10_reason 285 = .ok (.invokevirtual 161, 3) := by decide +kernel
theorem dX10_reason_288 : decode cX10_reason 288 = .ok (.ifCond .ne 6, 3) := by decide +kernel
theorem dX10_reason_291 : decode cX10_reason 291 = .ok (.bipush 7, 2) := by decide +kernel
theorem dX10_reason_293 : decode cX10_reason 293 = .ok (.ireturn, 1) := by decide +kernel
theorem dX10_reason_294 : decode cX10_reason 294 = .ok (.iconst 0, 1) := by decide +kernel
theorem dX10_reason_295 : decode cX10_reason 295 = .ok (.istore 8, 2) := by decide +kernel
theorem dX10_reason_297 : decode cX10_reason 297 = .ok (.iload 8, 2) := by decide +kernel
theorem dX10_reason_299 : decode cX10_reason 299 = .ok (.aload_n 0, 1) := by decide +kernel
theorem dX10_reason_300 : decode cX10_reason 300 = .ok (.getfield 147, 3) := by decide +kernel
theorem dX10_reason_303 : decode cX10_reason 303 = .ok (.if_icmp .ge 77, 3) := by decide +kernel
theorem dX10_reason_306 : decode cX10_reason 306 = .ok (.iload_n 2, 1) := by decide +kernel
theorem dX10_reason_307 : decode cX10_reason 307 = .ok (.iload_n 3, 1) := by decide +kernel
theorem dX10_reason_308 : decode cX10_reason 308 = .ok (.iload 4, 2) := by decide +kernel
theorem dX10_reason_310 : decode cX10_reason 310 = .ok (.iload 8, 2) := by decide +kernel
theorem dX10_reason_312 : decode cX10_reason 312 = .ok (.invokestatic 150, 3) := by decide +kernel
theorem dX10_reason_315 : decode cX10_reason 315 = .ok (.istore 9, 2) := by decide +kernel
theorem dX10_reason_317 : decode cX10_reason 317 = .ok (.aload_n 0, 1) := by decide +kernel
theorem dX10_reason_318 : decode cX10_reason 318 = .ok (.getfield 22, 3) := by decide +kernel
theorem dX10_reason_321 : decode cX10_reason 321 = .ok (.iload 9, 2) := by decide +kernel
theorem dX10_reason_323 : decode cX10_reason 323 = .ok (.iaload, 1) := by decide +kernel
theorem dX10_reason_324 : decode cX10_reason 324 = .ok (.iconst (-1), 1) := by decide +kernel
theorem dX10_reason_325 : decode cX10_reason 325 = .ok (.if_icmp .ne 49, 3) := by decide +kernel
theorem dX10_reason_328 : decode cX10_reason 328 = .ok (.aload_n 0, 1) := by decide +kernel
theorem dX10_reason_329 : decode cX10_reason 329 = .ok (.iload 9, 2) := by decide +kernel
theorem dX10_reason_331 : decode cX10_reason 331 = .ok (.bipush 7, 2) := by decide +kernel
theorem dX10_reason_333 : decode cX10_reason 333 = .ok (.idiv, 1) := by decide +kernel
theorem dX10_reason_334 : decode cX10_reason 334 = .ok (.iload 9, 2) := by decide +kernel
theorem dX10_reason_336 : decode cX10_reason 336 = .ok (.bipush 7, 2) := by decide +kernel
theorem dX10_reason_338 : decode cX10_reason 338 = .ok (.irem, 1) := by decide +kernel
theorem dX10_reason_339 : decode cX10_reason 339 = .ok (.iload_n 2, 1) := by decide +kernel
theorem dX10_reason_340 : decode cX10_reason 340 = .ok (.invokevirtual 122, 3) := by decide +kernel
theorem dX10_reason_343 : decode cX10_reason 343 = .ok (.aload_n 0, 1) := by decide +kernel
theorem dX10_reason_344 : decode cX10_reason 344 = .ok (.iload_n 2, 1) := by decide +kernel
theorem dX10_reason_345 : decode cX10_reason 345 = .ok (.aload_n 0, 1) := by decide +kernel
theorem dX10_reason_346 : decode cX10_reason 346 = .ok (.getfield 28, 3) := by decide +kernel
theorem dX10_reason_349 : decode cX10_reason 349 = .ok (.iload 8, 2) := by decide +kernel
theorem dX10_reason_351 : decode cX10_reason 351 = .ok (.iaload, 1) := by decide +kernel
theorem dX10_reason_352 : decode cX10_reason 352 = .ok (.invokevirtual 126, 3) := by decide +kernel
theorem dX10_reason_355 : decode cX10_reason 355 = .ok (.aload_n 0, 1) := by decide +kernel
theorem dX10_reason_356 : decode cX10_reason 356 = .ok (.getfield 119, 3) := by decide +kernel
theorem dX10_reason_359 : decode cX10_reason 359 = .ok (.iconst 1, 1) := by decide +kernel
theorem dX10_reason_360 : decode cX10_reason 360 = .ok (.if_icmp .le 14, 3) := by decide +kernel
theorem dX10_reason_363 : decode cX10_reason 363 = .ok (.aload_n 0, 1) := by decide +kernel
theorem dX10_reason_364 : decode cX10_reason 364 = .ok (.invokevirtual 91, 3) := by decide +kernel
theorem dX10_reason_367 : decode cX10_reason 367 = .ok (.iconst (-1), 1) := by decide +kernel
theorem dX10_reason_368 : decode cX10_reason 368 = .ok (.if_icmp .ne 6, 3) := by decide +kernel
theorem dX10_reason_371 : decode cX10_reason 371 = .ok (.bipush 8, 2) := by decide +kernel
theorem dX10_reason_373 : decode cX10_reason 373 = .ok (.ireturn, 1) := by decide +kernel
theorem dX10_reason_374 : decode cX10_reason 374 = .ok (.iinc 8 1, 3) := by decide +kernel
theorem dX10_reason_377 : decode cX10_reason 377 = .ok (.goto (-80), 3) := by decide +kernel
theorem dX10_reason_380 : decode cX10_reason 380 = .ok (.iconst 0, 1) := by decide +kernel
theorem dX10_reason_381 : decode cX10_reason 381 = .ok (.ireturn, 1) := by decide +kernel
theorem dX10_letterTimes_0 : decode cX10_letterTimes 0 = .ok (.iload_n 0, 1) := by decide +kernel
theorem dX10_letterTimes_1 : decode cX10_letterTimes 1 = .ok (.iconst 1, 1) := by decide +kernel
theorem dX10_letterTimes_2 : decode cX10_letterTimes 2 = .ok (.if_icmp .ne 7, 3) := by decide +kernel
theorem dX10_letterTimes_5 : decode cX10_letterTimes 5 = .ok (.iconst 2, 1) := by decide +kernel
theorem dX10_letterTimes_6 : decode cX10_letterTimes 6 = .ok (.goto 13, 3) := by decide +kernel
theorem dX10_letterTimes_9 : decode cX10_letterTimes 9 = .ok (.iload_n 0, 1) := by decide +kernel
theorem dX10_letterTimes_10 : decode cX10_letterTimes 10 = .ok (.iconst 2, 1) := by decide +kernel
theorem dX10_letterTimes_11 : decode cX10_letterTimes 11 = .ok (.if_icmp .ne 7, 3) := by decide +kernel
theorem dX10_letterTimes_14 : decode cX10_letterTimes 14 = .ok (.iconst 3, 1) := by decide +kernel
theorem dX10_letterTimes_15 : decode cX10_letterTimes 15 = .ok (.goto 4, 3) := by decide +kernel
theorem dX10_letterTimes_18 : decode cX10_letterTimes 18 = .ok (.iconst 1, 1) := by decide +kernel
theorem dX10_letterTimes_19 : decode cX10_letterTimes 19 = .ok (.ireturn, 1) := by decide +kernel
theorem dX10_wordTimes_0 : decode cX10_wordTimes 0 = .ok (.iload_n 0, 1) := by decide +kernel
theorem dX10_wordTimes_1 : decode cX10_wordTimes 1 = .ok (.iconst 3, 1) := by decide +kernel
theorem dX10_wordTimes_2 : decode cX10_wordTimes 2 = .ok (.if_icmp .ne 7, 3) := by decide +kernel
theorem dX10_wordTimes_5 : decode cX10_wordTimes 5 = .ok (.iconst 2, 1) := by decide +kernel
theorem dX10_wordTimes_6 : decode cX10_wordTimes 6 = .ok (.goto 13, 3) := by decide +kernel
theorem dX10_wordTimes_9 : decode cX10_wordTimes 9 = .ok (.iload_n 0, 1) := by decide +kernel
theorem dX10_wordTimes_10 : decode cX10_wordTimes 10 = .ok (.iconst 4, 1) := by decide +kernel
theorem dX10_wordTimes_11 : decode cX10_wordTimes 11 = .ok (.if_icmp .ne 7, 3) := by decide +kernel
theorem dX10_wordTimes_14 : decode cX10_wordTimes 14 = .ok (.iconst 3, 1) := by decide +kernel
theorem dX10_wordTimes_15 : decode cX10_wordTimes 15 = .ok (.goto 4, 3) := by decide +kernel
theorem dX10_wordTimes_18 : decode cX10_wordTimes 18 = .ok (.iconst 1, 1) := by decide +kernel
theorem dX10_wordTimes_19 : decode cX10_wordTimes 19 = .ok (.ireturn, 1) := by decide +kernel
theorem dX10_crossPoints_0 : decode cX10_crossPoints 0 = .ok (.aload_n 0, 1) := by decide +kernel
theorem dX10_crossPoints_1 : decode cX10_crossPoints 1 = .ok (.getfield 7, 3) := by decide +kernel
theorem dX10_crossPoints_4 : decode cX10_crossPoints 4 = .ok (.iconst 0, 1) := by decide +kernel
theorem dX10_crossPoints_5 : decode cX10_crossPoints 5 = .ok (.iload_n 1, 1) := by decide +kernel
theorem dX10_crossPoints_6 : decode cX10_crossPoints 6 = .ok (.iadd, 1) := by decide +kernel
theorem dX10_crossPoints_7 : decode cX10_crossPoints 7 = .ok (.iaload, 1) := by decide +kernel
theorem dX10_crossPoints_8 : decode cX10_crossPoints 8 = .ok (.iload_n 2, 1) := by decide +kernel
theorem dX10_crossPoints_9 : decode cX10_crossPoints 9 = .ok (.invokestatic 164, 3) := by decide +kernel
theorem dX10_crossPoints_12 : decode cX10_crossPoints 12 = .ok (.iconst 1, 1) := by decide +kernel
theorem dX10_crossPoints_13 : decode cX10_crossPoints 13 = .ok (.isub, 1) := by decide +kernel
theorem dX10_crossPoints_14 : decode cX10_crossPoints 14 = .ok (.imul, 1) := by decide +kernel
theorem dX10_crossPoints_15 : decode cX10_crossPoints 15 = .ok (.istore_n 3, 1) := by decide +kernel
theorem dX10_crossPoints_16 : decode cX10_crossPoints 16 = .ok (.iconst 0, 1) := by decide +kernel
theorem dX10_crossPoints_17 : decode cX10_crossPoints 17 = .ok (.istore 4, 2) := by decide +kernel
theorem dX10_crossPoints_19 : decode cX10_crossPoints 19 = .ok (.iload 4, 2) := by decide +kernel
theorem dX10_crossPoints_21 : decode cX10_crossPoints 21 = .ok (.aload_n 0, 1) := by decide +kernel
theorem dX10_crossPoints_22 : decode cX10_crossPoints 22 = .ok (.getfield 78, 3) := by decide +kernel
theorem dX10_crossPoints_25 : decode cX10_crossPoints 25 = .ok (.if_icmp .ge 26, 3) := by decide +kernel
theorem dX10_crossPoints_28 : decode cX10_crossPoints 28 = .ok (.iload_n 3, 1) := by decide +kernel
theorem dX10_crossPoints_29 : decode cX10_crossPoints 29 = .ok (.aload_n 0, 1) := by decide +kernel
theorem dX10_crossPoints_30 : decode cX10_crossPoints 30 = .ok (.getfield 7, 3) := by decide +kernel
theorem dX10_crossPoints_33 : decode cX10_crossPoints 33 = .ok (.iconst 0, 1) := by decide +kernel
theorem dX10_crossPoints_34 : decode cX10_crossPoints 34 = .ok (.aload_n 0, 1) := by decide +kernel
theorem dX10_crossPoints_35 : decode cX10_crossPoints 35 = .ok (.getfield 19, 3) := by decide +kernel
theorem dX10_crossPoints_38 : decode cX10_crossPoints 38 = .ok (.iload 4, 2) := by decide +kernel
theorem dX10_crossPoints_40 : decode cX10_crossPoints 40 = .ok (.iaload, 1) := by decide +kernel
theorem dX10_crossPoints_41 : decode cX10_crossPoints 41 = .ok (.iadd, 1) := by decide +kernel
theorem dX10_crossPoints_42 : decode cX10_crossPoints 42 = .ok (.iaload, 1) := by decide +kernel
theorem dX10_crossPoints_43 : decode cX10_crossPoints 43 = .ok (.iadd, 1) := by decide +kernel
theorem dX10_crossPoints_44 : decode cX10_crossPoints 44 = .ok (.istore_n 3, 1) := by decide +kernel
theorem dX10_crossPoints_45 : decode cX10_crossPoints 45 = .ok (.iinc 4 1, 3) := by decide +kernel
theorem dX10_crossPoints_48 : decode cX10_crossPoints 48 = .ok (.goto (-29), 3) := by decide +kernel
theorem dX10_crossPoints_51 : decode cX10_crossPoints 51 = .ok (.iload_n 3, 1) := by decide +kernel
theorem dX10_crossPoints_52 : decode cX10_crossPoints 52 = .ok (.iload_n 2, 1) := by decide +kernel
theorem dX10_crossPoints_53 : decode cX10_crossPoints 53 = .ok (.invokestatic 167, 3) := by decide +kernel
theorem dX10_crossPoints_56 : decode cX10_crossPoints 56 = .ok (.imul, 1) := by decide +kernel
theorem dX10_crossPoints_57 : decode cX10_crossPoints 57 = .ok (.ireturn, 1) := by decide +kernel
theorem dX10_scoreOf_0 : decode cX10_scoreOf 0 = .ok (.iconst 0, 1) := by decide +kernel
theorem dX10_scoreOf_1 : decode cX10_scoreOf 1 = .ok (.istore 4, 2) := by decide +kernel
theorem dX10_scoreOf_3 : decode cX10_scoreOf 3 = .ok (.iconst 1, 1) := by decide +kernel
theorem dX10_scoreOf_4 : decode cX10_scoreOf 4 = .ok (.istore 5, 2) := by decide +kernel
theorem dX10_scoreOf_6 : decode cX10_scoreOf 6 = .ok (.iconst 0, 1) := by decide +kernel
theorem dX10_scoreOf_7 : decode cX10_scoreOf 7 = .ok (.istore 6, 2) := by decide +kernel
theorem dX10_scoreOf_9 : decode cX10_scoreOf 9 = .ok (.iconst 0, 1) := by decide +kernel
theorem dX10_scoreOf_10 : decode cX10_scoreOf 10 = .ok (.istore 7, 2) := by decide +kernel
theorem dX10_scoreOf_12 : decode cX10_scoreOf 12 = .ok (.iconst 0, 1) := by decide +kernel
theorem dX10_scoreOf_13 : decode cX10_scoreOf 13 = .ok (.istore 8, 2) := by decide +kernel
theorem dX10_scoreOf_15 : decode cX10_scoreOf 15 = .ok (.iload 8, 2) := by decide +kernel
theorem dX10_scoreOf_17 : decode cX10_scoreOf 17 = .ok (.aload_n 0, 1) := by decide +kernel
theorem dX10_scoreOf_18 : decode cX10_scoreOf 18 = .ok (.getfield 147, 3) := by decide +kernel
theorem dX10_scoreOf_21 : decode cX10_scoreOf 21 = .ok (.if_icmp .ge 153, 3) := by decide +kernel
theorem dX10_scoreOf_24 : decode cX10_scoreOf 24 = .ok (.iload_n 1, 1) := by decide +kernel
theorem dX10_scoreOf_25 : decode cX10_scoreOf 25 = .ok (.iload_n 2, 1) := by decide +kernel
theorem dX10_scoreOf_26 : decode cX10_scoreOf 26 = .ok (.iload_n 3, 1) := by decide +kernel
theorem dX10_scoreOf_27 : decode cX10_scoreOf 27 = .ok (.iload 8, 2) := by decide +kernel
theorem dX10_scoreOf_29 : decode cX10_scoreOf 29 = .ok (.invokestatic 150, 3) := by decide +kernel
theorem dX10_scoreOf_32 : decode cX10_scoreOf 32 = .ok (.istore 9, 2) := by decide +kernel
theorem dX10_scoreOf_34 : decode cX10_scoreOf 34 = .ok (.aload_n 0, 1) := by decide +kernel
theorem dX10_scoreOf_35 : decode cX10_scoreOf 35 = .ok (.getfield 22, 3) := by decide +kernel
theorem dX10_scoreOf_38 : decode cX10_scoreOf 38 = .ok (.iload 9, 2) := by decide +kernel
theorem dX10_scoreOf_40 : decode cX10_scoreOf 40 = .ok (.iaload, 1) := by decide +kernel
theorem dX10_scoreOf_41 : decode cX10_scoreOf 41 = .ok (.iconst (-1), 1) := by decide +kernel
theorem dX10_scoreOf_42 : decode cX10_scoreOf 42 = .ok (.if_icmp .ne 17, 3) := by decide +kernel
theorem dX10_scoreOf_45 : decode cX10_scoreOf 45 = .ok (.aload_n 0, 1) := by decide +kernel
theorem dX10_scoreOf_46 : decode cX10_scoreOf 46 = .ok (.getfield 7, 3) := by decide +kernel
theorem dX10_scoreOf_49 : decode cX10_scoreOf 49 = .ok (.sipush 306, 3) := by decide +kernel
theorem dX10_scoreOf_52 : decode cX10_scoreOf 52 = .ok (.iload 9, 2) := by decide +kernel
theorem dX10_scoreOf_54 : decode cX10_scoreOf 54 = .ok (.iadd, 1) := by decide +kernel
theorem dX10_scoreOf_55 : decode cX10_scoreOf 55 = .ok (.iaload, 1) := by decide +kernel
theorem dX10_scoreOf_56 : decode cX10_scoreOf 56 = .ok (.goto 4, 3) := by decide +kernel
theorem dX10_scoreOf_59 : decode cX10_scoreOf 59 = .ok (.iconst 0, 1) := by decide +kernel
theorem dX10_scoreOf_60 : decode cX10_scoreOf 60 = .ok (.istore 10, 2) := by decide +kernel
theorem dX10_scoreOf_62 : decode cX10_scoreOf 62 = .ok (.iload 4, 2) := by decide +kernel
theorem dX10_scoreOf_64 : decode cX10_scoreOf 64 = .ok (.aload_n 0, 1) := by decide +kernel
theorem dX10_scoreOf_65 : decode cX10_scoreOf 65 = .ok (.getfield 7, 3) := by decide +kernel
theorem dX10_scoreOf_68 : decode cX10_scoreOf 68 = .ok (.iconst 0, 1) := by decide +kernel
theorem dX10_scoreOf_69 : decode cX10_scoreOf 69 = .ok (.aload_n 0, 1) := by decide +kernel
theorem dX10_scoreOf_70 : decode cX10_scoreOf 70 = .ok (.getfield 28, 3) := by decide +kernel
theorem dX10_scoreOf_73 : decode cX10_scoreOf 73 = .ok (.iload 8, 2) := by decide +kernel
theorem dX10_scoreOf_75 : decode cX10_scoreOf 75 = .ok (.iaload, 1) := by decide +kernel
theorem dX10_scoreOf_76 : decode cX10_scoreOf 76 = .ok (.iadd, 1) := by decide +kernel
theorem dX10_scoreOf_77 : decode cX10_scoreOf 77 = .ok (.iaload, 1) := by decide +kernel
theorem dX10_scoreOf_78 : decode cX10_scoreOf 78 = .ok (.iload 10, 2) := by decide +kernel
theorem dX10_scoreOf_80 : decode cX10_scoreOf 80 = .ok (.invokestatic 164, 3) := by decide +kernel
theorem dX10_scoreOf_83 : decode cX10_scoreOf 83 = .ok (.imul, 1) := by decide +kernel
theorem dX10_scoreOf_84 : decode cX10_scoreOf 84 = .ok (.iadd, 1) := by decide +kernel
theorem dX10_scoreOf_85 : decode cX10_scoreOf 85 = .ok (.istore 4, 2) := by decide +kernel
theorem dX10_scoreOf_87 : decode cX10_scoreOf 87 = .ok (.iload 5, 2) := by decide +kernel
theorem dX10_scoreOf_89 : decode cX10_scoreOf 89 = .ok (.iload 10, 2) := by decide +kernel
theorem dX10_scoreOf_91 : decode cX10_scoreOf 91 = .ok (.invokestatic 167, 3) := by decide +kernel
theorem dX10_scoreOf_94 : decode cX10_scoreOf 94 = .ok (.imul, 1) := by decide +kernel
theorem dX10_scoreOf_95 : decode cX10_scoreOf 95 = .ok (.istore 5, 2) := by decide +kernel
theorem dX10_scoreOf_97 : decode cX10_scoreOf 97 = .ok (.aload_n 0, 1) := by decide +kernel
theorem dX10_scoreOf_98 : decode cX10_scoreOf 98 = .ok (.getfield 22, 3) := by decide +kernel
theorem dX10_scoreOf_101 : decode cX10_scoreOf 101 = .ok (.iload 9, 2) := by decide +kernel
theorem dX10_scoreOf_103 : decode cX10_scoreOf 103 = .ok (.iaload, 1) := by decide +kernel
theorem dX10_scoreOf_104 : decode cX10_scoreOf 104 = .ok (.iconst (-1), 1) := by decide +kernel
theorem dX10_scoreOf_105 : decode cX10_scoreOf 105 = .ok (.if_icmp .ne 63, 3) := by decide +kernel
theorem dX10_scoreOf_108 : decode cX10_scoreOf 108 = .ok (.iinc 7 1, 3) := by decide +kernel
theorem dX10_scoreOf_111 : decode cX10_scoreOf 111 = .ok (.aload_n 0, 1) := by decide +kernel
theorem dX10_scoreOf_112 : decode cX10_scoreOf 112 = .ok (.iload 9, 2) := by decide +kernel
theorem dX10_scoreOf_114 : decode cX10_scoreOf 114 = .ok (.bipush 7, 2) := by decide +kernel
theorem dX10_scoreOf_116 : decode cX10_scoreOf 116 = .ok (.idiv, 1) := by decide +kernel
theorem dX10_scoreOf_117 : decode cX10_scoreOf 117 = .ok (.iload 9, 2) := by decide +kernel
theorem dX10_scoreOf_119 : decode cX10_scoreOf 119 = .ok (.bipush 7, 2) := by decide +kernel
theorem dX10_scoreOf_121 : decode cX10_scoreOf 121 = .ok (.irem, 1) := by decide +kernel
theorem dX10_scoreOf_122 : decode cX10_scoreOf 122 = .ok (.iload_n 1, 1) := by decide +kernel
theorem dX10_scoreOf_123 : decode cX10_scoreOf 123 = .ok (.invokevirtual 122, 3) := by decide +kernel
theorem dX10_scoreOf_126 : decode cX10_scoreOf 126 = .ok (.aload_n 0, 1) := by decide +kernel
theorem dX10_scoreOf_127 : decode cX10_scoreOf 127 = .ok (.iload_n 1, 1) := by decide +kernel
theorem dX10_scoreOf_128 : decode cX10_scoreOf 128 = .ok (.aload_n 0, 1) := by decide +kernel
theorem dX10_scoreOf_129 : decode cX10_scoreOf 129 = .ok (.getfield 28, 3) := by decide +kernel
theorem dX10_scoreOf_132 : decode cX10_scoreOf 132 = .ok (.iload 8, 2) := by decide +kernel
theorem dX10_scoreOf_134 : decode cX10_scoreOf 134 = .ok (.iaload, 1) := by decide +kernel
theorem dX10_scoreOf_135 : decode cX10_scoreOf 135 = .ok (.invokevirtual 126, 3) := by decide +kernel
theorem dX10_scoreOf_138 : decode cX10_scoreOf 138 = .ok (.iload 6, 2) := by decide +kernel
theorem dX10_scoreOf_140 : decode cX10_scoreOf 140 = .ok (.aload_n 0, 1) := by decide +kernel
theorem dX10_scoreOf_141 : decode cX10_scoreOf 141 = .ok (.getfield 119, 3) := by decide +kernel
theorem dX10_scoreOf_144 : decode cX10_scoreOf 144 = .ok (.iconst 1, 1) := by decide +kernel
theorem dX10_scoreOf_145 : decode cX10_scoreOf 145 = .ok (.if_icmp .le 19, 3) := by decide +kernel
theorem dX10_scoreOf_148 : decode cX10_scoreOf 148 = .ok (.aload_n 0, 1) := by decide +kernel
theorem dX10_scoreOf_149 : decode cX10_scoreOf 149 = .ok (.aload_n 0, 1) := by decide +kernel
theorem dX10_scoreOf_150 : decode cX10_scoreOf 150 = .ok (.getfield 28, 3) := by decide +kernel
theorem dX10_scoreOf_153 : decode cX10_scoreOf 153 = .ok (.iload 8, 2) := by decide +kernel
theorem dX10_scoreOf_155 : decode cX10_scoreOf 155 = .ok (.iaload, 1) := by decide +kernel
theorem dX10_scoreOf_156 : decode cX10_scoreOf 156 = .ok (.iload 10, 2) := by decide +kernel
theorem dX10_scoreOf_158 : decode cX10_scoreOf 158 = .ok (.invokevirtual 170, 3) := by decide +kernel
theorem dX10_scoreOf_161 : decode cX10_scoreOf 161 = .ok (.goto 4, 3) := by decide +kernel
theorem dX10_scoreOf_164 : decode cX10_scoreOf 164 = .ok (.iconst 0, 1) := by decide +kernel
theorem dX10_scoreOf_165 : decode cX10_scoreOf 165 = .ok (.iadd, 1) := by decide +kernel
theorem dX10_scoreOf_166 : decode cX10_scoreOf 166 = .ok (.istore 6, 2) := by decide +kernel
theorem dX10_scoreOf_168 : decode cX10_scoreOf 168 = .ok (.iinc 8 1, 3) := by decide +kernel
theorem dX10_scoreOf_171 : decode cX10_scoreOf 171 = .ok (.goto (-156), 3) := by decide +kernel
theorem dX10_scoreOf_174 : decode cX10_scoreOf 174 = .ok (.iload 4, 2) := by decide +kernel
theorem dX10_scoreOf_176 : decode cX10_scoreOf 176 = .ok (.iload 5, 2) := by decide +kernel
theorem dX10_scoreOf_178 : decode cX10_scoreOf 178 = .ok (.imul, 1) := by decide +kernel
theorem dX10_scoreOf_179 : decode cX10_scoreOf 179 = .ok (.iload 6, 2) := by decide +kernel
theorem dX10_scoreOf_181 : decode cX10_scoreOf 181 = .ok (.iadd, 1) := by decide +kernel
theorem dX10_scoreOf_182 : decode cX10_scoreOf 182 = .ok (.iload 7, 2) := by decide +kernel
theorem dX10_scoreOf_184 : decode cX10_scoreOf 184 = .ok (.iconst 5, 1) := by decide +kernel
theorem dX10_scoreOf_185 : decode cX10_scoreOf 185 = .ok (.if_icmp .ne 8, 3) := by decide +kernel
theorem dX10_scoreOf_188 : decode cX10_scoreOf 188 = .ok (.bipush 20, 2) := by decide +kernel
theorem dX10_scoreOf_190 : decode cX10_scoreOf 190 = .ok (.goto 4, 3) := by decide +kernel
theorem dX10_scoreOf_193 : decode cX10_scoreOf 193 = .ok (.iconst 0, 1) := by decide +kernel
theorem dX10_scoreOf_194 : decode cX10_scoreOf 194 = .ok (.iadd, 1) := by decide +kernel
theorem dX10_scoreOf_195 : decode cX10_scoreOf 195 = .ok (.ireturn, 1) := by decide +kernel
theorem dX10_lays_0 : decode cX10_lays 0 = .ok (.iconst 0, 1) := by decide +kernel
theorem dX10_lays_1 : decode cX10_lays 1 = .ok (.istore 5, 2) := by decide +kernel
theorem dX10_lays_3 : decode cX10_lays 3 = .ok (.iload 5, 2) := by decide +kernel
theorem dX10_lays_5 : decode cX10_lays 5 = .ok (.aload_n 0, 1) := by decide +kernel
theorem dX10_lays_6 : decode cX10_lays 6 = .ok (.getfield 147, 3) := by decide +kernel
theorem dX10_lays_9 : decode cX10_lays 9 = .ok (.if_icmp .ge 70, 3) := by decide +kernel
theorem dX10_lays_12 : decode cX10_lays 12 = .ok (.iload_n 2, 1) := by decide +kernel
theorem dX10_lays_13 : decode cX10_lays 13 = .ok (.iload_n 3, 1) := by decide +kernel
theorem dX10_lays_14 : decode cX10_lays 14 = .ok (.iload 4, 2) := by decide +kernel
theorem dX10_lays_16 : decode cX10_lays 16 = .ok (.iload 5, 2) := by decide +kernel
theorem dX10_lays_18 : decode cX10_lays 18 = .ok (.invokestatic 150, 3) := by decide +kernel
theorem dX10_lays_21 : decode cX10_lays 21 = .ok (.istore 6, 2) := by decide +kernel
theorem dX10_lays_23 : decode cX10_lays 23 = .ok (.aload_n 0, 1) := by decide +kernel
theorem dX10_lays_24 : decode cX10_lays 24 = .ok (.getfield 25, 3) := by decide +kernel
theorem dX10_lays_27 : decode cX10_lays 27 = .ok (.bipush 8, 2) := by decide +kernel
theorem dX10_lays_29 : decode cX10_lays 29 = .ok (.iload_n 1, 1) := by decide +kernel
theorem dX10_lays_30 : decode cX10_lays 30 = .ok (.imul, 1) := by decide +kernel
theorem dX10_lays_31 : decode cX10_lays 31 = .ok (.aload_n 0, 1) := by decide +kernel
theorem dX10_lays_32 : decode cX10_lays 32 = .ok (.getfield 28, 3) := by decide +kernel
theorem dX10_lays_35 : decode cX10_lays 35 = .ok (.iload 5, 2) := by decide +kernel
theorem dX10_lays_37 : decode cX10_lays 37 = .ok (.iaload, 1) := by decide +kernel
theorem dX10_lays_38 : decode cX10_lays 38 = .ok (.iadd, 1) := by decide +kernel
theorem dX10_lays_39 : decode cX10_lays 39 = .ok (.dup2, 1) := by decide +kernel
theorem dX10_lays_40 : decode cX10_lays 40 = .ok (.iaload, 1) := by decide +kernel
theorem dX10_lays_41 : decode cX10_lays 41 = .ok (.aload_n 0, 1) := by decide +kernel
theorem dX10_lays_42 : decode cX10_lays 42 = .ok (.getfield 22, 3) := by decide +kernel
theorem dX10_lays_45 : decode cX10_lays 45 = .ok (.iload 6, 2) := by decide +kernel
theorem dX10_lays_47 : decode cX10_lays 47 = .ok (.iaload, 1) := by decide +kernel
theorem dX10_lays_48 : decode cX10_lays 48 = .ok (.iconst (-1), 1) := by decide +kernel
theorem dX10_lays_49 : decode cX10_lays 49 = .ok (.if_icmp .ne 7, 3) := by decide +kernel
theorem dX10_lays_52 : decode cX10_lays 52 = .ok (.iconst 1, 1) := by decide +kernel
theorem dX10_lays_53 : decode cX10_lays 53 = .ok (.goto 4, 3) := by decide +kernel
theorem dX10_lays_56 : decode cX10_lays 56 = .ok (.iconst 0, 1) := by decide +kernel
theorem dX10_lays_57 : decode cX10_lays 57 = .ok (.isub, 1) := by decide +kernel
theorem dX10_lays_58 : decode cX10_lays 58 = .ok (.iastore, 1) := by decide +kernel
theorem dX10_lays_59 : decode cX10_lays 59 = .ok (.aload_n 0, 1) := by decide +kernel
theorem dX10_lays_60 : decode cX10_lays 60 = .ok (.getfield 22, 3) := by decide +kernel
theorem dX10_lays_63 : decode cX10_lays 63 = .ok (.iload 6, 2) := by decide +kernel
theorem dX10_lays_65 : decode cX10_lays 65 = .ok (.aload_n 0, 1) := by decide +kernel
theorem dX10_lays_66 : decode cX10_lays 66 = .ok (.getfield 28, 3) := by decide +kernel
theorem dX10_lays_69 : decode cX10_lays 69 = .ok (.iload 5, 2) := by decide +kernel
theorem dX10_lays_71 : decode cX10_lays 71 = .ok (.iaload, 1) := by decide +kernel
theorem dX10_lays_72 : decode cX10_lays 72 = .ok (.iastore, 1) := by decide +kernel
theorem dX10_lays_73 : decode cX10_lays 73 = .ok (.iinc 5 1, 3) := by decide +kernel
theorem dX10_lays_76 : decode cX10_lays 76 = .ok (.goto (-73), 3) := by decide +kernel
theorem dX10_lays_79 : decode cX10_lays 79 = .ok (.return_, 1) := by decide +kernel
theorem dX10_keepsBoard_0 : decode cX10_keepsBoard 0 = .ok (.iconst 0, 1) := by decide +kernel
theorem dX10_keepsBoard_1 : decode cX10_keepsBoard 1 = .ok (.istore_n 1, 1) := by decide +kernel
theorem dX10_keepsBoard_2 : decode cX10_keepsBoard 2 = .ok (.iload_n 1, 1) := by decide +kernel
theorem dX10_keepsBoard_3 : decode cX10_keepsBoard 3 = .ok (.bipush 49, 2) := by decide +kernel
theorem dX10_keepsBoard_5 : decode cX10_keepsBoard 5 = .ok (.if_icmp .ge 25, 3) := by decide +kernel
theorem dX10_keepsBoard_8 : decode cX10_keepsBoard 8 = .ok (.aload_n 0, 1) := by decide +kernel
theorem dX10_keepsBoard_9 : decode cX10_keepsBoard 9 = .ok (.getfield 7, 3) := by decide +kernel
theorem dX10_keepsBoard_12 : decode cX10_keepsBoard 12 = .ok (.sipush 257, 3) := by decide +kernel
theorem dX10_keepsBoard_15 : decode cX10_keepsBoard 15 = .ok (.iload_n 1, 1) := by decide +kernel
theorem dX10_keepsBoard_16 : decode cX10_keepsBoard 16 = .ok (.iadd, 1) := by decide +kernel
theorem dX10_keepsBoard_17 : decode cX10_keepsBoard 17 = .ok (.aload_n 0, 1) := by decide +kernel
theorem dX10_keepsBoard_18 : decode cX10_keepsBoard 18 = .ok (.getfield 22, 3) := by decide +kernel
theorem dX10_keepsBoard_21 : decode cX10_keepsBoard 21 = .ok (.iload_n 1, 1) := by decide +kernel
theorem dX10_keepsBoard_22 : decode cX10_keepsBoard 22 = .ok (.iaload, 1) := by decide +kernel
theorem dX10_keepsBoard_23 : decode cX10_keepsBoard 23 = .ok (.iastore, 1) := by decide +kernel
theorem dX10_keepsBoard_24 : decode cX10_keepsBoard 24 = .ok (.iinc 1 1, 3) := by decide +kernel
theorem dX10_keepsBoard_27 : decode cX10_keepsBoard 27 = .ok (.goto (-25), 3) := by decide +kernel
theorem dX10_keepsBoard_30 : decode cX10_keepsBoard 30 = .ok (.iconst 0, 1) := by decide +kernel
theorem dX10_keepsBoard_31 : decode cX10_keepsBoard 31 = .ok (.istore_n 1, 1) := by decide +kernel
theorem dX10_keepsBoard_32 : decode cX10_keepsBoard 32 = .ok (.iload_n 1, 1) := by decide +kernel
theorem dX10_keepsBoard_33 : decode cX10_keepsBoard 33 = .ok (.bipush 16, 2) := by decide +kernel
theorem dX10_keepsBoard_35 : decode cX10_keepsBoard 35 = .ok (.if_icmp .ge 25, 3) := by decide +kernel
theorem dX10_keepsBoard_38 : decode cX10_keepsBoard 38 = .ok (.aload_n 0, 1) := by decide +kernel
theorem dX10_keepsBoard_39 : decode cX10_keepsBoard 39 = .ok (.getfield 7, 3) := by decide +kernel
theorem dX10_keepsBoard_42 : decode cX10_keepsBoard 42 = .ok (.sipush 355, 3) := by decide +kernel
theorem dX10_keepsBoard_45 : decode cX10_keepsBoard 45 = .ok (.iload_n 1, 1) := by decide +kernel
theorem dX10_keepsBoard_46 : decode cX10_keepsBoard 46 = .ok (.iadd, 1) := by decide +kernel
theorem dX10_keepsBoard_47 : decode cX10_keepsBoard 47 = .ok (.aload_n 0, 1) := by decide +kernel
theorem dX10_keepsBoard_48 : decode cX10_keepsBoard 48 = .ok (.getfield 25, 3) := by decide +kernel
theorem dX10_keepsBoard_51 : decode cX10_keepsBoard 51 = .ok (.iload_n 1, 1) := by decide +kernel
theorem dX10_keepsBoard_52 : decode cX10_keepsBoard 52 = .ok (.iaload, 1) := by decide +kernel
theorem dX10_keepsBoard_53 : decode cX10_keepsBoard 53 = .ok (.iastore, 1) := by decide +kernel
theorem dX10_keepsBoard_54 : decode cX10_keepsBoard 54 = .ok (.iinc 1 1, 3) := by decide +kernel
theorem dX10_keepsBoard_57 : decode cX10_keepsBoard 57 = .ok (.goto (-25), 3) := by decide +kernel
theorem dX10_keepsBoard_60 : decode cX10_keepsBoard 60 = .ok (.return_, 1) := by decide +kernel
theorem dX10_check_0 : decode cX10_check 0 = .ok (.aload_n 0, 1) := by decide +kernel
theorem dX10_check_1 : decode cX10_check 1 = .ok (.iload_n 1, 1) := by decide +kernel
theorem dX10_check_2 : decode cX10_check 2 = .ok (.invokestatic 107, 3) := by decide +kernel
theorem dX10_check_5 : decode cX10_check 5 = .ok (.ifCond .eq 16, 3) := by decide +kernel
theorem dX10_check_8 : decode cX10_check 8 = .ok (.iload_n 3, 1) := by decide +kernel
theorem dX10_check_9 : decode cX10_check 9 = .ok (.iload 4, 2) := by decide +kernel
theorem dX10_check_11 : decode cX10_check 11 = .ok (.invokestatic 101, 3) := by decide +kernel
theorem dX10_check_14 : decode cX10_check 14 = .ok (.ifCond .eq 7, 3) := by decide +kernel
theorem dX10_check_17 : decode cX10_check 17 = .ok (.iconst 1, 1) := by decide +kernel
theorem dX10_check_18 : decode cX10_check 18 = .ok (.goto 4, 3) := by decide +kernel
theorem dX10_check_21 : decode cX10_check 21 = .ok (.iconst 0, 1) := by decide +kernel
theorem dX10_check_22 : decode cX10_check 22 = .ok (.iload_n 2, 1) := by decide +kernel
theorem dX10_check_23 : decode cX10_check 23 = .ok (.i2l, 1) := by decide +kernel
theorem dX10_check_24 : decode cX10_check 24 = .ok (.lconst 0, 1) := by decide +kernel
theorem dX10_check_25 : decode cX10_check 25 = .ok (.lconst 1, 1) := by decide +kernel
theorem dX10_check_26 : decode cX10_check 26 = .ok (.invokestatic 61, 3) := by decide +kernel
theorem dX10_check_29 : decode cX10_check 29 = .ok (.iconst 1, 1) := by decide +kernel
theorem dX10_check_30 : decode cX10_check 30 = .ok (.invokevirtual 74, 3) := by decide +kernel
theorem dX10_check_33 : decode cX10_check 33 = .ok (.ifCond .ne 5, 3) := by decide +kernel
theorem dX10_check_36 : decode cX10_check 36 = .ok (.iconst 0, 1) := by decide +kernel
theorem dX10_check_37 : decode cX10_check 37 = .ok (.ireturn, 1) := by decide +kernel
theorem dX10_check_38 : decode cX10_check 38 = .ok (.aload_n 0, 1) := by decide +kernel
theorem dX10_check_39 : decode cX10_check 39 = .ok (.invokevirtual 130, 3) := by decide +kernel
theorem dX10_check_42 : decode cX10_check 42 = .ok (.aload_n 0, 1) := by decide +kernel
theorem dX10_check_43 : decode cX10_check 43 = .ok (.invokevirtual 88, 3) := by decide +kernel
theorem dX10_check_46 : decode cX10_check 46 = .ok (.aload_n 0, 1) := by decide +kernel
theorem dX10_check_47 : decode cX10_check 47 = .ok (.iload_n 1, 1) := by decide +kernel
theorem dX10_check_48 : decode cX10_check 48 = .ok (.iload_n 2, 1) := by decide +kernel
theorem dX10_check_49 : decode cX10_check 49 = .ok (.iload_n 3, 1) := by decide +kernel
theorem dX10_check_50 : decode cX10_check 50 = .ok (.iload 4, 2) := by decide +kernel
theorem dX10_check_52 : decode cX10_check 52 = .ok (.invokevirtual 174, 3) := by decide +kernel
theorem dX10_check_55 : decode cX10_check 55 = .ok (.ireturn, 1) := by decide +kernel
theorem dX10_play_0 : decode cX10_play 0 = .ok (.iload_n 1, 1) := by decide +kernel
theorem dX10_play_1 : decode cX10_play 1 = .ok (.invokestatic 107, 3) := by decide +kernel
theorem dX10_play_4 : decode cX10_play 4 = .ok (.ifCond .eq 16, 3) := by decide +kernel
theorem dX10_play_7 : decode cX10_play 7 = .ok (.iload_n 3, 1) := by decide +kernel
theorem dX10_play_8 : decode cX10_play 8 = .ok (.iload 4, 2) := by decide +kernel
theorem dX10_play_10 : decode cX10_play 10 = .ok (.invokestatic 101, 3) := by decide +kernel
theorem dX10_play_13 : decode cX10_play 13 = .ok (.ifCond .eq 7, 3) := by decide +kernel
theorem dX10_play_16 : decode cX10_play 16 = .ok (.iconst 1, 1) := by decide +kernel
theorem dX10_play_17 : decode cX10_play 17 = .ok (.goto 4, 3) := by decide +kernel
theorem dX10_play_20 : decode cX10_play 20 = .ok (.iconst 0, 1) := by decide +kernel
theorem dX10_play_21 : decode cX10_play 21 = .ok (.istore 5, 2) := by decide +kernel
theorem dX10_play_23 : decode cX10_play 23 = .ok (.iconst 0, 1) := by decide +kernel
theorem dX10_play_24 : decode cX10_play 24 = .ok (.istore 6, 2) := by decide +kernel
theorem dX10_play_26 : decode cX10_play 26 = .ok (.iload 5, 2) := by decide +kernel
theorem dX10_play_28 : decode cX10_play 28 = .ok (.ifCond .eq 32, 3) := by decide +kernel
theorem dX10_play_31 : decode cX10_play 31 = .ok (.iload_n 2, 1) := by decide +kernel
theorem dX10_play_32 : decode cX10_play 32 = .ok (.i2l, 1) := by decide +kernel
theorem dX10_play_33 : decode cX10_play 33 = .ok (.lconst 0, 1) := by decide +kernel
theorem dX10_play_34 : decode cX10_play 34 = .ok (.lconst 1, 1) := by decide +kernel
theorem dX10_play_35 : decode cX10_play 35 = .ok (.invokestatic 61, 3) := by decide +kernel
theorem dX10_play_38 : decode cX10_play 38 = .ok (.ifCond .eq 22, 3) := by decide +kernel
theorem dX10_play_41 : decode cX10_play 41 = .ok (.aload_n 0, 1) := by decide +kernel
theorem dX10_play_42 : decode cX10_play 42 = .ok (.invokevirtual 130, 3) := by decide +kernel
theorem dX10_play_45 : decode cX10_play 45 = .ok (.aload_n 0, 1) := by decide +kernel
theorem dX10_play_46 : decode cX10_play 46 = .ok (.invokevirtual 88, 3) := by decide +kernel
theorem dX10_play_49 : decode cX10_play 49 = .ok (.aload_n 0, 1) := by decide +kernel
theorem dX10_play_50 : decode cX10_play 50 = .ok (.iload_n 1, 1) := by decide +kernel
theorem dX10_play_51 : decode cX10_play 51 = .ok (.iload_n 2, 1) := by decide +kernel
theorem dX10_play_52 : decode cX10_play 52 = .ok (.iload_n 3, 1) := by decide +kernel
theorem dX10_play_53 : decode cX10_play 53 = .ok (.iload 4, 2) := by decide +kernel
theorem dX10_play_55 : decode cX10_play 55 = .ok (.invokevirtual 174, 3) := by decide +kernel
theorem dX10_play_58 : decode cX10_play 58 = .ok (.istore 6, 2) := by decide +kernel
theorem dX10_play_60 : decode cX10_play 60 = .ok (.aload_n 0, 1) := by decide +kernel
theorem dX10_play_61 : decode cX10_play 61 = .ok (.iload 5, 2) := by decide +kernel
theorem dX10_play_63 : decode cX10_play 63 = .ok (.iload_n 2, 1) := by decide +kernel
theorem dX10_play_64 : decode cX10_play 64 = .ok (.i2l, 1) := by decide +kernel
theorem dX10_play_65 : decode cX10_play 65 = .ok (.lconst 0, 1) := by decide +kernel
theorem dX10_play_66 : decode cX10_play 66 = .ok (.lconst 1, 1) := by decide +kernel
theorem dX10_play_67 : decode cX10_play 67 = .ok (.invokestatic 61, 3) := by decide +kernel
theorem dX10_play_70 : decode cX10_play 70 = .ok (.iload 6, 2) := by decide +kernel
theorem dX10_play_72 : decode cX10_play 72 = .ok (.ifCond .ne 7, 3) := by decide +kernel
theorem dX10_play_75 : decode cX10_play 75 = .ok (.iconst 1, 1) := by decide +kernel
theorem dX10_play_76 : decode cX10_play 76 = .ok (.goto 4, 3) := by decide +kernel
theorem dX10_play_79 : decode cX10_play 79 = .ok (.iconst 0, 1) := by decide +kernel
theorem dX10_play_80 : decode cX10_play 80 = .ok (.invokevirtual 74, 3) := by decide +kernel
theorem dX10_play_83 : decode cX10_play 83 = .ok (.ifCond .ne 5, 3) := by decide +kernel
theorem dX10_play_86 : decode cX10_play 86 = .ok (.iconst 0, 1) := by decide +kernel
theorem dX10_play_87 : decode cX10_play 87 = .ok (.ireturn, 1) := by decide +kernel
theorem dX10_play_88 : decode cX10_play 88 = .ok (.aload_n 0, 1) := by decide +kernel
theorem dX10_play_89 : decode cX10_play 89 = .ok (.invokevirtual 85, 3) := by decide +kernel
theorem dX10_play_92 : decode cX10_play 92 = .ok (.aload_n 0, 1) := by decide +kernel
theorem dX10_play_93 : decode cX10_play 93 = .ok (.iconst 0, 1) := by decide +kernel
theorem dX10_play_94 : decode cX10_play 94 = .ok (.putfield 71, 3) := by decide +kernel
theorem dX10_play_97 : decode cX10_play 97 = .ok (.aload_n 0, 1) := by decide +kernel
theorem dX10_play_98 : decode cX10_play 98 = .ok (.iload_n 1, 1) := by decide +kernel
theorem dX10_play_99 : decode cX10_play 99 = .ok (.iload_n 2, 1) := by decide +kernel
theorem dX10_play_100 : decode cX10_play 100 = .ok (.iload_n 3, 1) := by decide +kernel
theorem dX10_play_101 : decode cX10_play 101 = .ok (.iload 4, 2) := by decide +kernel
theorem dX10_play_103 : decode cX10_play 103 = .ok (.invokevirtual 177, 3) := by decide +kernel
theorem dX10_play_106 : decode cX10_play 106 = .ok (.ireturn, 1) := by decide +kernel
theorem dX10_makes_0 : decode cX10_makes 0 = .ok (.aload_n 0, 1) := by decide +kernel
theorem dX10_makes_1 : decode cX10_makes 1 = .ok (.iload_n 2, 1) := by decide +kernel
theorem dX10_makes_2 : decode cX10_makes 2 = .ok (.iload_n 3, 1) := by decide +kernel
theorem dX10_makes_3 : decode cX10_makes 3 = .ok (.iload 4, 2) := by decide +kernel
theorem dX10_makes_5 : decode cX10_makes 5 = .ok (.invokevirtual 180, 3) := by decide +kernel
theorem dX10_makes_8 : decode cX10_makes 8 = .ok (.istore 5, 2) := by decide +kernel
theorem dX10_makes_10 : decode cX10_makes 10 = .ok (.aload_n 0, 1) := by decide +kernel
theorem dX10_makes_11 : decode cX10_makes 11 = .ok (.iload_n 1, 1) := by decide +kernel
theorem dX10_makes_12 : decode cX10_makes 12 = .ok (.iload_n 2, 1) := by decide +kernel
theorem dX10_makes_13 : decode cX10_makes 13 = .ok (.iload_n 3, 1) := by decide +kernel
theorem dX10_makes_14 : decode cX10_makes 14 = .ok (.iload 4, 2) := by decide +kernel
theorem dX10_makes_16 : decode cX10_makes 16 = .ok (.invokevirtual 183, 3) := by decide +kernel
theorem dX10_makes_19 : decode cX10_makes 19 = .ok (.aload_n 0, 1) := by decide +kernel
theorem dX10_makes_20 : decode cX10_makes 20 = .ok (.invokevirtual 187, 3) := by decide +kernel
theorem dX10_makes_23 : decode cX10_makes 23 = .ok (.aload_n 0, 1) := by decide +kernel
theorem dX10_makes_24 : decode cX10_makes 24 = .ok (.getfield 7, 3) := by decide +kernel
theorem dX10_makes_27 : decode cX10_makes 27 = .ok (.sipush 371, 3) := by decide +kernel
theorem dX10_makes_30 : decode cX10_makes 30 = .ok (.iload_n 1, 1) := by decide +kernel
theorem dX10_makes_31 : decode cX10_makes 31 = .ok (.iadd, 1) := by decide +kernel
theorem dX10_makes_32 : decode cX10_makes 32 = .ok (.dup2, 1) := by decide +kernel
theorem dX10_makes_33 : decode cX10_makes 33 = .ok (.iaload, 1) := by decide +kernel
theorem dX10_makes_34 : decode cX10_makes 34 = .ok (.iload 5, 2) := by decide +kernel
theorem dX10_makes_36 : decode cX10_makes 36 = .ok (.iadd, 1) := by decide +kernel
theorem dX10_makes_37 : decode cX10_makes 37 = .ok (.iastore, 1) := by decide +kernel
theorem dX10_makes_38 : decode cX10_makes 38 = .ok (.iload 5, 2) := by decide +kernel
theorem dX10_makes_40 : decode cX10_makes 40 = .ok (.ireturn, 1) := by decide +kernel
theorem dX10_mayPlay_0 : decode cX10_mayPlay 0 = .ok (.iload_n 2, 1) := by decide +kernel
theorem dX10_mayPlay_1 : decode cX10_mayPlay 1 = .ok (.bipush 30, 2) := by decide +kernel
theorem dX10_mayPlay_3 : decode cX10_mayPlay 3 = .ok (.irem, 1) := by decide +kernel
theorem dX10_mayPlay_4 : decode cX10_mayPlay 4 = .ok (.istore_n 3, 1) := by decide +kernel
theorem dX10_mayPlay_5 : decode cX10_mayPlay 5 = .ok (.iload_n 3, 1) := by decide +kernel
theorem dX10_mayPlay_6 : decode cX10_mayPlay 6 = .ok (.aload_n 0, 1) := by decide +kernel
theorem dX10_mayPlay_7 : decode cX10_mayPlay 7 = .ok (.getfield 7, 3) := by decide +kernel
theorem dX10_mayPlay_10 : decode cX10_mayPlay 10 = .ok (.bipush 16, 2) := by decide +kernel
theorem dX10_mayPlay_12 : decode cX10_mayPlay 12 = .ok (.iaload, 1) := by decide +kernel
theorem dX10_mayPlay_13 : decode cX10_mayPlay 13 = .ok (.if_icmp .lt 5, 3) := by decide +kernel
theorem dX10_mayPlay_16 : decode cX10_mayPlay 16 = .ok (.iconst 0, 1) := by decide +kernel
theorem dX10_mayPlay_17 : decode cX10_mayPlay 17 = .ok (.ireturn, 1) := by decide +kernel
theorem dX10_mayPlay_18 : decode cX10_mayPlay 18 = .ok (.aload_n 0, 1) := by decide +kernel
theorem dX10_mayPlay_19 : decode cX10_mayPlay 19 = .ok (.iload_n 3, 1) := by decide +kernel
theorem dX10_mayPlay_20 : decode cX10_mayPlay 20 = .ok (.invokevirtual 190, 3) := by decide +kernel
theorem dX10_mayPlay_23 : decode cX10_mayPlay 23 = .ok (.iload_n 2, 1) := by decide +kernel
theorem dX10_mayPlay_24 : decode cX10_mayPlay 24 = .ok (.bipush 30, 2) := by decide +kernel
theorem dX10_mayPlay_26 : decode cX10_mayPlay 26 = .ok (.idiv, 1) := by decide +kernel
theorem dX10_mayPlay_27 : decode cX10_mayPlay 27 = .ok (.bipush 49, 2) := by decide +kernel
theorem dX10_mayPlay_29 : decode cX10_mayPlay 29 = .ok (.irem, 1) := by decide +kernel
theorem dX10_mayPlay_30 : decode cX10_mayPlay 30 = .ok (.istore 4, 2) := by decide +kernel
theorem dX10_mayPlay_32 : decode cX10_mayPlay 32 = .ok (.aload_n 0, 1) := by decide +kernel
theorem dX10_mayPlay_33 : decode cX10_mayPlay 33 = .ok (.iload_n 1, 1) := by decide +kernel
theorem dX10_mayPlay_34 : decode cX10_mayPlay 34 = .ok (.iload_n 2, 1) := by decide +kernel
theorem dX10_mayPlay_35 : decode cX10_mayPlay 35 = .ok (.bipush 30, 2) := by decide +kernel
theorem dX10_mayPlay_37 : decode cX10_mayPlay 37 = .ok (.idiv, 1) := by decide +kernel
theorem dX10_mayPlay_38 : decode cX10_mayPlay 38 = .ok (.bipush 49, 2) := by decide +kernel
theorem dX10_mayPlay_40 : decode cX10_mayPlay 40 = .ok (.idiv, 1) := by decide +kernel
theorem dX10_mayPlay_41 : decode cX10_mayPlay 41 = .ok (.iload 4, 2) := by decide +kernel
theorem dX10_mayPlay_43 : decode cX10_mayPlay 43 = .ok (.bipush 7, 2) := by decide +kernel
theorem dX10_mayPlay_45 : decode cX10_mayPlay 45 = .ok (.idiv, 1) := by decide +kernel
theorem dX10_mayPlay_46 : decode cX10_mayPlay 46 = .ok (.iload 4, 2) := by decide +kernel
theorem dX10_mayPlay_48 : decode cX10_mayPlay 48 = .ok (.bipush 7, 2) := by decide +kernel
theorem dX10_mayPlay_50 : decode cX10_mayPlay 50 = .ok (.irem, 1) := by decide +kernel
theorem dX10_mayPlay_51 : decode cX10_mayPlay 51 = .ok (.invokevirtual 174, 3) := by decide +kernel
theorem dX10_mayPlay_54 : decode cX10_mayPlay 54 = .ok (.ifCond .ne 7, 3) := by decide +kernel
theorem dX10_mayPlay_57 : decode cX10_mayPlay 57 = .ok (.iconst 1, 1) := by decide +kernel
theorem dX10_mayPlay_58 : decode cX10_mayPlay 58 = .ok (.goto 4, 3) := by decide +kernel
theorem dX10_mayPlay_61 : decode cX10_mayPlay 61 = .ok (.iconst 0, 1) := by decide +kernel
theorem dX10_mayPlay_62 : decode cX10_mayPlay 62 = .ok (.ireturn, 1) := by decide +kernel
theorem dX10_scoreBy_0 : decode cX10_scoreBy 0 = .ok (.iload_n 1, 1) := by decide +kernel
theorem dX10_scoreBy_1 : decode cX10_scoreBy 1 = .ok (.bipush 30, 2) := by decide +kernel
theorem dX10_scoreBy_3 : decode cX10_scoreBy 3 = .ok (.idiv, 1) := by decide +kernel
theorem dX10_scoreBy_4 : decode cX10_scoreBy 4 = .ok (.bipush 49, 2) := by decide +kernel
theorem dX10_scoreBy_6 : decode cX10_scoreBy 6 = .ok (.irem, 1) := by decide +kernel
theorem dX10_scoreBy_7 : decode cX10_scoreBy 7 = .ok (.istore_n 2, 1) := by decide +kernel
theorem dX10_scoreBy_8 : decode cX10_scoreBy 8 = .ok (.aload_n 0, 1) := by decide +kernel
theorem dX10_scoreBy_9 : decode cX10_scoreBy 9 = .ok (.iload_n 1, 1) := by decide +kernel
theorem dX10_scoreBy_10 : decode cX10_scoreBy 10 = .ok (.bipush 30, 2) := by decide +kernel
theorem dX10_scoreBy_12 : decode cX10_scoreBy 12 = .ok (.idiv, 1) := by decide +kernel
theorem dX10_scoreBy_13 : decode cX10_scoreBy 13 = .ok (.bipush 49, 2) := by decide +kernel
theorem dX10_scoreBy_15 : decode cX10_scoreBy 15 = .ok (.idiv, 1) := by decide +kernel
theorem dX10_scoreBy_16 : decode cX10_scoreBy 16 = .ok (.iload_n 2, 1) := by decide +kernel
theorem dX10_scoreBy_17 : decode cX10_scoreBy 17 = .ok (.bipush 7, 2) := by decide +kernel
theorem dX10_scoreBy_19 : decode cX10_scoreBy 19 = .ok (.idiv, 1) := by decide +kernel
theorem dX10_scoreBy_20 : decode cX10_scoreBy 20 = .ok (.iload_n 2, 1) := by decide +kernel
theorem dX10_scoreBy_21 : decode cX10_scoreBy 21 = .ok (.bipush 7, 2) := by decide +kernel
theorem dX10_scoreBy_23 : decode cX10_scoreBy 23 = .ok (.irem, 1) := by decide +kernel
theorem dX10_scoreBy_24 : decode cX10_scoreBy 24 = .ok (.invokevirtual 180, 3) := by decide +kernel
theorem dX10_scoreBy_27 : decode cX10_scoreBy 27 = .ok (.ireturn, 1) := by decide +kernel
theorem dX10_laysBy_0 : decode cX10_laysBy 0 = .ok (.iload_n 2, 1) := by decide +kernel
theorem dX10_laysBy_1 : decode cX10_laysBy 1 = .ok (.bipush 30, 2) := by decide +kernel
theorem dX10_laysBy_3 : decode cX10_laysBy 3 = .ok (.idiv, 1) := by decide +kernel
theorem dX10_laysBy_4 : decode cX10_laysBy 4 = .ok (.bipush 49, 2) := by decide +kernel
theorem dX10_laysBy_6 : decode cX10_laysBy 6 = .ok (.irem, 1) := by decide +kernel
theorem dX10_laysBy_7 : decode cX10_laysBy 7 = .ok (.istore_n 3, 1) := by decide +kernel
theorem dX10_laysBy_8 : decode cX10_laysBy 8 = .ok (.aload_n 0, 1) := by decide +kernel
theorem dX10_laysBy_9 : decode cX10_laysBy 9 = .ok (.iload_n 1, 1) := by decide +kernel
theorem dX10_laysBy_10 : decode cX10_laysBy 10 = .ok (.iload_n 2, 1) := by decide +kernel
theorem dX10_laysBy_11 : decode cX10_laysBy 11 = .ok (.bipush 30, 2) := by decide +kernel
theorem dX10_laysBy_13 : decode cX10_laysBy 13 = .ok (.idiv, 1) := by decide +kernel
theorem dX10_laysBy_14 : decode cX10_laysBy 14 = .ok (.bipush 49, 2) := by decide +kernel
theorem dX10_laysBy_16 : decode cX10_laysBy 16 = .ok (.idiv, 1) := by decide +kernel
theorem dX10_laysBy_17 : decode cX10_laysBy 17 = .ok (.iload_n 3, 1) := by decide +kernel
theorem dX10_laysBy_18 : decode cX10_laysBy 18 = .ok (.bipush 7, 2) := by decide +kernel
theorem dX10_laysBy_20 : decode cX10_laysBy 20 = .ok (.idiv, 1) := by decide +kernel
theorem dX10_laysBy_21 : decode cX10_laysBy 21 = .ok (.iload_n 3, 1) := by decide +kernel
theorem dX10_laysBy_22 : decode cX10_laysBy 22 = .ok (.bipush 7, 2) := by decide +kernel
theorem dX10_laysBy_24 : decode cX10_laysBy 24 = .ok (.irem, 1) := by decide +kernel
theorem dX10_laysBy_25 : decode cX10_laysBy 25 = .ok (.invokevirtual 183, 3) := by decide +kernel
theorem dX10_laysBy_28 : decode cX10_laysBy 28 = .ok (.return_, 1) := by decide +kernel
theorem dX10_leaveOf_0 : decode cX10_leaveOf 0 = .ok (.iconst 0, 1) := by decide +kernel
theorem dX10_leaveOf_1 : decode cX10_leaveOf 1 = .ok (.istore_n 2, 1) := by decide +kernel
theorem dX10_leaveOf_2 : decode cX10_leaveOf 2 = .ok (.iconst 0, 1) := by decide +kernel
theorem dX10_leaveOf_3 : decode cX10_leaveOf 3 = .ok (.istore_n 3, 1) := by decide +kernel
theorem dX10_leaveOf_4 : decode cX10_leaveOf 4 = .ok (.iload_n 3, 1) := by decide +kernel
theorem dX10_leaveOf_5 : decode cX10_leaveOf 5 = .ok (.bipush 8, 2) := by decide +kernel
theorem dX10_leaveOf_7 : decode cX10_leaveOf 7 = .ok (.if_icmp .ge 40, 3) := by decide +kernel
theorem dX10_leaveOf_10 : decode cX10_leaveOf 10 = .ok (.iload_n 2, 1) := by decide +kernel
theorem dX10_leaveOf_11 : decode cX10_leaveOf 11 = .ok (.aload_n 0, 1) := by decide +kernel
theorem dX10_leaveOf_12 : decode cX10_leaveOf 12 = .ok (.getfield 25, 3) := by decide +kernel
theorem dX10_leaveOf_15 : decode cX10_leaveOf 15 = .ok (.bipush 8, 2) := by decide +kernel
theorem dX10_leaveOf_17 : decode cX10_leaveOf 17 = .ok (.iload_n 1, 1) := by decide +kernel
theorem dX10_leaveOf_18 : decode cX10_leaveOf 18 = .ok (.imul, 1) := by decide +kernel
theorem dX10_leaveOf_19 : decode cX10_leaveOf 19 = .ok (.iload_n 3, 1) := by decide +kernel
theorem dX10_leaveOf_20 : decode cX10_leaveOf 20 = .ok (.iadd, 1) := by decide +kernel
theorem dX10_leaveOf_21 : decode cX10_leaveOf 21 = .ok (.iaload, 1) := by decide +kernel
theorem dX10_leaveOf_22 : decode cX10_leaveOf 22 = .ok (.aload_n 0, 1) := by decide +kernel
theorem dX10_leaveOf_23 : decode cX10_leaveOf 23 = .ok (.getfield 31, 3) := by decide +kernel
theorem dX10_leaveOf_26 : decode cX10_leaveOf 26 = .ok (.iload_n 3, 1) := by decide +kernel
theorem dX10_leaveOf_27 : decode cX10_leaveOf 27 = .ok (.iaload, 1) := by decide +kernel
theorem dX10_leaveOf_28 : decode cX10_leaveOf 28 = .ok (.isub, 1) := by decide +kernel
theorem dX10_leaveOf_29 : decode cX10_leaveOf 29 = .ok (.aload_n 0, 1) := by decide +kernel
theorem dX10_leaveOf_30 : decode cX10_leaveOf 30 = .ok (.getfield 7, 3) := by decide +kernel
theorem dX10_leaveOf_33 : decode cX10_leaveOf 33 = .ok (.bipush 8, 2) := by decide +kernel
theorem dX10_leaveOf_35 : decode cX10_leaveOf 35 = .ok (.iload_n 3, 1) := by decide +kernel
theorem dX10_leaveOf_36 : decode cX10_leaveOf 36 = .ok (.iadd, 1) := by decide +kernel
theorem dX10_leaveOf_37 : decode cX10_leaveOf 37 = .ok (.iaload, 1) := by decide +kernel
theorem dX10_leaveOf_38 : decode cX10_leaveOf 38 = .ok (.imul, 1) := by decide +kernel
theorem dX10_leaveOf_39 : decode cX10_leaveOf 39 = .ok (.iadd, 1) := by decide +kernel
theorem dX10_leaveOf_40 : decode cX10_leaveOf 40 = .ok (.istore_n 2, 1) := by decide +kernel
theorem dX10_leaveOf_41 : decode cX10_leaveOf 41 = .ok (.iinc 3 1, 3) := by decide +kernel
theorem dX10_leaveOf_44 : decode cX10_leaveOf 44 = .ok (.goto (-40), 3) := by decide +kernel
theorem dX10_leaveOf_47 : decode cX10_leaveOf 47 = .ok (.iload_n 2, 1) := by decide +kernel
theorem dX10_leaveOf_48 : decode cX10_leaveOf 48 = .ok (.ireturn, 1) := by decide +kernel
theorem dX10_playsOf_0 : decode cX10_playsOf 0 = .ok (.iconst 0, 1) := by decide +kernel
theorem dX10_playsOf_1 : decode cX10_playsOf 1 = .ok (.istore_n 2, 1) := by decide +kernel
theorem dX10_playsOf_2 : decode cX10_playsOf 2 = .ok (.iconst 0, 1) := by decide +kernel
theorem dX10_playsOf_3 : decode cX10_playsOf 3 = .ok (.istore_n 3, 1) := by decide +kernel
theorem dX10_playsOf_4 : decode cX10_playsOf 4 = .ok (.iload_n 3, 1) := by decide +kernel
theorem dX10_playsOf_5 : decode cX10_playsOf 5 = .ok (.sipush 2940, 3) := by decide +kernel
theorem dX10_playsOf_8 : decode cX10_playsOf 8 = .ok (.if_icmp .ge 26, 3) := by decide +kernel
theorem dX10_playsOf_11 : decode cX10_playsOf 11 = .ok (.iload_n 2, 1) := by decide +kernel
theorem dX10_playsOf_12 : decode cX10_playsOf 12 = .ok (.aload_n 0, 1) := by decide +kernel
theorem dX10_playsOf_13 : decode cX10_playsOf 13 = .ok (.iload_n 1, 1) := by decide +kernel
theorem dX10_playsOf_14 : decode cX10_playsOf 14 = .ok (.iload_n 3, 1) := by decide +kernel
theorem dX10_playsOf_15 : decode cX10_playsOf 15 = .ok (.invokevirtual 194, 3) := by decide +kernel
theorem dX10_playsOf_18 : decode cX10_playsOf 18 = .ok (.ifCond .eq 7, 3) := by decide +kernel
theorem dX10_playsOf_21 : decode cX10_playsOf 21 = .ok (.iconst 1, 1) := by decide +kernel
theorem dX10_playsOf_22 : decode cX10_playsOf 22 = .ok (.goto 4, 3) := by decide +kernel
theorem dX10_playsOf_25 : decode cX10_playsOf 25 = .ok (.iconst 0, 1) := by decide +kernel
theorem dX10_playsOf_26 : decode cX10_playsOf 26 = .ok (.iadd, 1) := by decide +kernel
theorem dX10_playsOf_27 : decode cX10_playsOf 27 = .ok (.istore_n 2, 1) := by decide +kernel
theorem dX10_playsOf_28 : decode cX10_playsOf 28 = .ok (.iinc 3 1, 3) := by decide +kernel
theorem dX10_playsOf_31 : decode cX10_playsOf 31 = .ok (.goto (-27), 3) := by decide +kernel
theorem dX10_playsOf_34 : decode cX10_playsOf 34 = .ok (.iload_n 2, 1) := by decide +kernel
theorem dX10_playsOf_35 : decode cX10_playsOf 35 = .ok (.ireturn, 1) := by decide +kernel
theorem dX10_plays_0 : decode cX10_plays 0 = .ok (.aload_n 0, 1) := by decide +kernel
theorem dX10_plays_1 : decode cX10_plays 1 = .ok (.invokevirtual 130, 3) := by decide +kernel
theorem dX10_plays_4 : decode cX10_plays 4 = .ok (.aload_n 0, 1) := by decide +kernel
theorem dX10_plays_5 : decode cX10_plays 5 = .ok (.iload_n 1, 1) := by decide +kernel
theorem dX10_plays_6 : decode cX10_plays 6 = .ok (.invokestatic 107, 3) := by decide +kernel
theorem dX10_plays_9 : decode cX10_plays 9 = .ok (.iconst 1, 1) := by decide +kernel
theorem dX10_plays_10 : decode cX10_plays 10 = .ok (.iconst 1, 1) := by decide +kernel
theorem dX10_plays_11 : decode cX10_plays 11 = .ok (.invokevirtual 74, 3) := by decide +kernel
theorem dX10_plays_14 : decode cX10_plays 14 = .ok (.ifCond .eq 11, 3) := by decide +kernel
theorem dX10_plays_17 : decode cX10_plays 17 = .ok (.aload_n 0, 1) := by decide +kernel
theorem dX10_plays_18 : decode cX10_plays 18 = .ok (.iload_n 1, 1) := by decide +kernel
theorem dX10_plays_19 : decode cX10_plays 19 = .ok (.invokevirtual 197, 3) := by decide +kernel
theorem dX10_plays_22 : decode cX10_plays 22 = .ok (.goto 4, 3) := by decide +kernel
theorem dX10_plays_25 : decode cX10_plays 25 = .ok (.iconst 0, 1) := by decide +kernel
theorem dX10_plays_26 : decode cX10_plays 26 = .ok (.ireturn, 1) := by decide +kernel
theorem dX10_codeAt_0 : decode cX10_codeAt 0 = .ok (.iconst 0, 1) := by decide +kernel
theorem dX10_codeAt_1 : decode cX10_codeAt 1 = .ok (.istore_n 3, 1) := by decide +kernel
theorem dX10_codeAt_2 : decode cX10_codeAt 2 = .ok (.iconst 0, 1) := by decide +kernel
theorem dX10_codeAt_3 : decode cX10_codeAt 3 = .ok (.istore 4, 2) := by decide +kernel
theorem dX10_codeAt_5 : decode cX10_codeAt 5 = .ok (.iload 4, 2) := by decide +kernel
theorem dX10_codeAt_7 : decode cX10_codeAt 7 = .ok (.sipush 2940, 3) := by decide +kernel
theorem dX10_codeAt_10 : decode cX10_codeAt 10 = .ok (.if_icmp .ge 34, 3) := by decide +kernel
theorem dX10_codeAt_13 : decode cX10_codeAt 13 = .ok (.iload_n 2, 1) := by decide +kernel
theorem dX10_codeAt_14 : decode cX10_codeAt 14 = .ok (.ifCond .lt 30, 3) := by decide +kernel
theorem dX10_codeAt_17 : decode cX10_codeAt 17 = .ok (.aload_n 0, 1) := by decide +kernel
theorem dX10_codeAt_18 : decode cX10_codeAt 18 = .ok (.iload_n 1, 1) := by decide +kernel
theorem dX10_codeAt_19 : decode cX10_codeAt 19 = .ok (.iload 4, 2) := by decide +kernel
theorem dX10_codeAt_21 : decode cX10_codeAt 21 = .ok (.invokevirtual 194, 3) := by decide +kernel
theorem dX10_codeAt_24 : decode cX10_codeAt 24 = .ok (.ifCond .eq 14, 3) := by decide +kernel
theorem dX10_codeAt_27 : decode cX10_codeAt 27 = .ok (.iload_n 3, 1) := by decide +kernel
theorem dX10_codeAt_28 : decode cX10_codeAt 28 = .ok (.iload_n 2, 1) := by decide +kernel
theorem dX10_codeAt_29 : decode cX10_codeAt 29 = .ok (.if_icmp .ne 6, 3) := by decide +kernel
theorem dX10_codeAt_32 : decode cX10_codeAt 32 = .ok (.iload 4, 2) := by decide +kernel
theorem dX10_codeAt_34 : decode cX10_codeAt 34 = .ok (.ireturn, 1) := by decide +kernel
theorem dX10_codeAt_35 : decode cX10_codeAt 35 = .ok (.iinc 3 1, 3) := by decide +kernel
theorem dX10_codeAt_38 : decode cX10_codeAt 38 = .ok (.iinc 4 1, 3) := by decide +kernel
theorem dX10_codeAt_41 : decode cX10_codeAt 41 = .ok (.goto (-36), 3) := by decide +kernel
theorem dX10_codeAt_44 : decode cX10_codeAt 44 = .ok (.iconst (-1), 1) := by decide +kernel
theorem dX10_codeAt_45 : decode cX10_codeAt 45 = .ok (.ireturn, 1) := by decide +kernel
theorem dX10_playAt_0 : decode cX10_playAt 0 = .ok (.aload_n 0, 1) := by decide +kernel
theorem dX10_playAt_1 : decode cX10_playAt 1 = .ok (.invokevirtual 130, 3) := by decide +kernel
theorem dX10_playAt_4 : decode cX10_playAt 4 = .ok (.iload_n 1, 1) := by decide +kernel
theorem dX10_playAt_5 : decode cX10_playAt 5 = .ok (.invokestatic 107, 3) := by decide +kernel
theorem dX10_playAt_8 : decode cX10_playAt 8 = .ok (.ifCond .eq 12, 3) := by decide +kernel
theorem dX10_playAt_11 : decode cX10_playAt 11 = .ok (.aload_n 0, 1) := by decide +kernel
theorem dX10_playAt_12 : decode cX10_playAt 12 = .ok (.iload_n 1, 1) := by decide +kernel
theorem dX10_playAt_13 : decode cX10_playAt 13 = .ok (.iload_n 2, 1) := by decide +kernel
theorem dX10_playAt_14 : decode cX10_playAt 14 = .ok (.invokevirtual 200, 3) := by decide +kernel
theorem dX10_playAt_17 : decode cX10_playAt 17 = .ok (.goto 4, 3) := by decide +kernel
theorem dX10_playAt_20 : decode cX10_playAt 20 = .ok (.iconst (-1), 1) := by decide +kernel
theorem dX10_playAt_21 : decode cX10_playAt 21 = .ok (.istore 4, 2) := by decide +kernel
theorem dX10_playAt_23 : decode cX10_playAt 23 = .ok (.aload_n 0, 1) := by decide +kernel
theorem dX10_playAt_24 : decode cX10_playAt 24 = .ok (.iload 4, 2) := by decide +kernel
theorem dX10_playAt_26 : decode cX10_playAt 26 = .ok (.iconst (-1), 1) := by decide +kernel
theorem dX10_playAt_27 : decode cX10_playAt 27 = .ok (.if_icmp .eq 7, 3) := by decide +kernel
theorem dX10_playAt_30 : decode cX10_playAt 30 = .ok (.iconst 1, 1) := by decide +kernel
theorem dX10_playAt_31 : decode cX10_playAt 31 = .ok (.goto 4, 3) := by decide +kernel
theorem dX10_playAt_34 : decode cX10_playAt 34 = .ok (.iconst 0, 1) := by decide +kernel
theorem dX10_playAt_35 : decode cX10_playAt 35 = .ok (.iload_n 3, 1) := by decide +kernel
theorem dX10_playAt_36 : decode cX10_playAt 36 = .ok (.i2l, 1) := by decide +kernel
theorem dX10_playAt_37 : decode cX10_playAt 37 = .ok (.lconst 0, 1) := by decide +kernel
theorem dX10_playAt_38 : decode cX10_playAt 38 = .ok (.ldc2_w 203, 3) := by decide +kernel
theorem dX10_playAt_41 : decode cX10_playAt 41 = .ok (.invokestatic 61, 3) := by decide +kernel
theorem dX10_playAt_44 : decode cX10_playAt 44 = .ok (.iconst 1, 1) := by decide +kernel
theorem dX10_playAt_45 : decode cX10_playAt 45 = .ok (.invokevirtual 74, 3) := by decide +kernel
theorem dX10_playAt_48 : decode cX10_playAt 48 = .ok (.ifCond .ne 5, 3) := by decide +kernel
theorem dX10_playAt_51 : decode cX10_playAt 51 = .ok (.iconst 0, 1) := by decide +kernel
theorem dX10_playAt_52 : decode cX10_playAt 52 = .ok (.ireturn, 1) := by decide +kernel
theorem dX10_playAt_53 : decode cX10_playAt 53 = .ok (.iload 4, 2) := by decide +kernel
theorem dX10_playAt_55 : decode cX10_playAt 55 = .ok (.bipush 30, 2) := by decide +kernel
theorem dX10_playAt_57 : decode cX10_playAt 57 = .ok (.idiv, 1) := by decide +kernel
theorem dX10_playAt_58 : decode cX10_playAt 58 = .ok (.bipush 49, 2) := by decide +kernel
theorem dX10_playAt_60 : decode cX10_playAt 60 = .ok (.irem, 1) := by decide +kernel
theorem dX10_playAt_61 : decode cX10_playAt 61 = .ok (.istore 5, 2) := by decide +kernel
theorem dX10_playAt_63 : decode cX10_playAt 63 = .ok (.aload_n 0, 1) := by decide +kernel
theorem dX10_playAt_64 : decode cX10_playAt 64 = .ok (.iload 4, 2) := by decide +kernel
theorem dX10_playAt_66 : decode cX10_playAt 66 = .ok (.invokevirtual 205, 3) := by decide +kernel
theorem dX10_playAt_69 : decode cX10_playAt 69 = .ok (.istore 6, 2) := by decide +kernel
theorem dX10_playAt_71 : decode cX10_playAt 71 = .ok (.iload_n 3, 1) := by decide +kernel
theorem dX10_playAt_72 : decode cX10_playAt 72 = .ok (.tableswitch 66 0 4 #[36, 45, 51, 57, 63], 36) := by decide +kernel
theorem dX10_playAt_108 : decode cX10_playAt 108 = .ok (.iload 4, 2) := by decide +kernel
theorem dX10_playAt_110 : decode cX10_playAt 110 = .ok (.bipush 30, 2) := by decide +kernel
theorem dX10_playAt_112 : decode cX10_playAt 112 = .ok (.idiv, 1) := by decide +kernel
theorem dX10_playAt_113 : decode cX10_playAt 113 = .ok (.bipush 49, 2) := by decide +kernel
theorem dX10_playAt_115 : decode cX10_playAt 115 = .ok (.idiv, 1) := by decide +kernel
theorem dX10_playAt_116 : decode cX10_playAt 116 = .ok (.ireturn, 1) := by decide +kernel
theorem dX10_playAt_117 : decode cX10_playAt 117 = .ok (.iload 5, 2) := by decide +kernel
theorem dX10_playAt_119 : decode cX10_playAt 119 = .ok (.bipush 7, 2) := by decide +kernel
theorem dX10_playAt_121 : decode cX10_playAt 121 = .ok (.idiv, 1) := by decide +kernel
theorem dX10_playAt_122 : decode cX10_playAt 122 = .ok (.ireturn, 1) := by decide +kernel
theorem dX10_playAt_123 : decode cX10_playAt 123 = .ok (.iload 5, 2) := by decide +kernel
theorem dX10_playAt_125 : decode cX10_playAt 125 = .ok (.bipush 7, 2) := by decide +kernel
theorem dX10_playAt_127 : decode cX10_playAt 127 = .ok (.irem, 1) := by decide +kernel
theorem dX10_playAt_128 : decode cX10_playAt 128 = .ok (.ireturn, 1) := by decide +kernel
theorem dX10_playAt_129 : decode cX10_playAt 129 = .ok (.iload 4, 2) := by decide +kernel
theorem dX10_playAt_131 : decode cX10_playAt 131 = .ok (.bipush 30, 2) := by decide +kernel
theorem dX10_playAt_133 : decode cX10_playAt 133 = .ok (.irem, 1) := by decide +kernel
theorem dX10_playAt_134 : decode cX10_playAt 134 = .ok (.ireturn, 1) := by decide +kernel
theorem dX10_playAt_135 : decode cX10_playAt 135 = .ok (.iload 6, 2) := by decide +kernel
theorem dX10_playAt_137 : decode cX10_playAt 137 = .ok (.ireturn, 1) := by decide +kernel
theorem dX10_playAt_138 : decode cX10_playAt 138 = .ok (.iload 6, 2) := by decide +kernel
theorem dX10_playAt_140 : decode cX10_playAt 140 = .ok (.aload_n 0, 1) := by decide +kernel
theorem dX10_playAt_141 : decode cX10_playAt 141 = .ok (.iload_n 1, 1) := by decide +kernel
theorem dX10_playAt_142 : decode cX10_playAt 142 = .ok (.invokevirtual 208, 3) := by decide +kernel
theorem dX10_playAt_145 : decode cX10_playAt 145 = .ok (.iadd, 1) := by decide +kernel
theorem dX10_playAt_146 : decode cX10_playAt 146 = .ok (.ireturn, 1) := by decide +kernel
theorem dX10_findsBest_0 : decode cX10_findsBest 0 = .ok (.aload_n 0, 1) := by decide +kernel
theorem dX10_findsBest_1 : decode cX10_findsBest 1 = .ok (.iconst (-1), 1) := by decide +kernel
theorem dX10_findsBest_2 : decode cX10_findsBest 2 = .ok (.putfield 211, 3) := by decide +kernel
theorem dX10_findsBest_5 : decode cX10_findsBest 5 = .ok (.aload_n 0, 1) := by decide +kernel
theorem dX10_findsBest_6 : decode cX10_findsBest 6 = .ok (.iconst (-1), 1) := by decide +kernel
theorem dX10_findsBest_7 : decode cX10_findsBest 7 = .ok (.putfield 214, 3) := by decide +kernel
theorem dX10_findsBest_10 : decode cX10_findsBest 10 = .ok (.iconst 0, 1) := by decide +kernel
theorem dX10_findsBest_11 : decode cX10_findsBest 11 = .ok (.istore_n 2, 1) := by decide +kernel
theorem dX10_findsBest_12 : decode cX10_findsBest 12 = .ok (.iconst 0, 1) := by decide +kernel
theorem dX10_findsBest_13 : decode cX10_findsBest 13 = .ok (.istore_n 3, 1) := by decide +kernel
theorem dX10_findsBest_14 : decode cX10_findsBest 14 = .ok (.iconst 0, 1) := by decide +kernel
theorem dX10_findsBest_15 : decode cX10_findsBest 15 = .ok (.istore 4, 2) := by decide +kernel
theorem dX10_findsBest_17 : decode cX10_findsBest 17 = .ok (.iload 4, 2) := by decide +kernel
theorem dX10_findsBest_19 : decode cX10_findsBest 19 = .ok (.sipush 2940, 3) := by decide +kernel
theorem dX10_findsBest_22 : decode cX10_findsBest 22 = .ok (.if_icmp .ge 64, 3) := by decide +kernel
theorem dX10_findsBest_25 : decode cX10_findsBest 25 = .ok (.aload_n 0, 1) := by decide +kernel
theorem dX10_findsBest_26 : decode cX10_findsBest 26 = .ok (.iload_n 1, 1) := by decide +kernel
theorem dX10_findsBest_27 : decode cX10_findsBest 27 = .ok (.iload 4, 2) := by decide +kernel
theorem dX10_findsBest_29 : decode cX10_findsBest 29 = .ok (.invokevirtual 194, 3) := by decide +kernel
theorem dX10_findsBest_32 : decode cX10_findsBest 32 = .ok (.ifCond .eq 48, 3) := by decide +kernel
theorem dX10_findsBest_35 : decode cX10_findsBest 35 = .ok (.aload_n 0, 1) := by decide +kernel
theorem dX10_findsBest_36 : decode cX10_findsBest 36 = .ok (.iload 4, 2) := by decide +kernel
theorem dX10_findsBest_38 : decode cX10_findsBest 38 = .ok (.invokevirtual 205, 3) := by decide +kernel
theorem dX10_findsBest_41 : decode cX10_findsBest 41 = .ok (.aload_n 0, 1) := by decide +kernel
theorem dX10_findsBest_42 : decode cX10_findsBest 42 = .ok (.iload_n 1, 1) := by decide +kernel
theorem dX10_findsBest_43 : decode cX10_findsBest 43 = .ok (.invokevirtual 208, 3) := by decide +kernel
theorem dX10_findsBest_46 : decode cX10_findsBest 46 = .ok (.iadd, 1) := by decide +kernel
theorem dX10_findsBest_47 : decode cX10_findsBest 47 = .ok (.istore 5, 2) := by decide +kernel
theorem dX10_findsBest_49 : decode cX10_findsBest 49 = .ok (.aload_n 0, 1) := by decide +kernel
theorem dX10_findsBest_50 : decode cX10_findsBest 50 = .ok (.getfield 211, 3) := by decide +kernel
theorem dX10_findsBest_53 : decode cX10_findsBest 53 = .ok (.iconst (-1), 1) := by decide +kernel
theorem dX10_findsBest_54 : decode cX10_findsBest 54 = .ok (.if_icmp .eq 9, 3) := by decide +kernel
theorem dX10_findsBest_57 : decode cX10_findsBest 57 = .ok (.iload 5, 2) := by decide +kernel
theorem dX10_findsBest_59 : decode cX10_findsBest 59 = .ok (.iload_n 2, 1) := by decide +kernel
theorem dX10_findsBest_60 : decode cX10_findsBest 60 = .ok (.if_icmp .le 17, 3) := by decide +kernel
theorem dX10_findsBest_63 : decode cX10_findsBest 63 = .ok (.aload_n 0, 1) := by decide +kernel
theorem dX10_findsBest_64 : decode cX10_findsBest 64 = .ok (.iload_n 3, 1) := by decide +kernel
theorem dX10_findsBest_65 : decode cX10_findsBest 65 = .ok (.putfield 211, 3) := by decide +kernel
theorem dX10_findsBest_68 : decode cX10_findsBest 68 = .ok (.aload_n 0, 1) := by decide +kernel
theorem dX10_findsBest_69 : decode cX10_findsBest 69 = .ok (.iload 4, 2) := by decide +kernel
theorem dX10_findsBest_71 : decode cX10_findsBest 71 = .ok (.putfield 214, 3) := by decide +kernel
theorem dX10_findsBest_74 : decode cX10_findsBest 74 = .ok (.iload 5, 2) := by decide +kernel
theorem dX10_findsBest_76 : decode cX10_findsBest 76 = .ok (.istore_n 2, 1) := by decide +kernel
theorem dX10_findsBest_77 : decode cX10_findsBest 77 = .ok (.iinc 3 1, 3) := by decide +kernel
theorem dX10_findsBest_80 : decode cX10_findsBest 80 = .ok (.iinc 4 1, 3) := by decide +kernel
theorem dX10_findsBest_83 : decode cX10_findsBest 83 = .ok (.goto (-66), 3) := by decide +kernel
theorem dX10_findsBest_86 : decode cX10_findsBest 86 = .ok (.return_, 1) := by decide +kernel
theorem dX10_bestPlay_0 : decode cX10_bestPlay 0 = .ok (.aload_n 0, 1) := by decide +kernel
theorem dX10_bestPlay_1 : decode cX10_bestPlay 1 = .ok (.iload_n 1, 1) := by decide +kernel
theorem dX10_bestPlay_2 : decode cX10_bestPlay 2 = .ok (.invokestatic 107, 3) := by decide +kernel
theorem dX10_bestPlay_5 : decode cX10_bestPlay 5 = .ok (.iconst 1, 1) := by decide +kernel
theorem dX10_bestPlay_6 : decode cX10_bestPlay 6 = .ok (.iconst 1, 1) := by decide +kernel
theorem dX10_bestPlay_7 : decode cX10_bestPlay 7 = .ok (.invokevirtual 74, 3) := by decide +kernel
theorem dX10_bestPlay_10 : decode cX10_bestPlay 10 = .ok (.ifCond .ne 5, 3) := by decide +kernel
theorem dX10_bestPlay_13 : decode cX10_bestPlay 13 = .ok (.iconst 0, 1) := by decide +kernel
theorem dX10_bestPlay_14 : decode cX10_bestPlay 14 = .ok (.ireturn, 1) := by decide +kernel
theorem dX10_bestPlay_15 : decode cX10_bestPlay 15 = .ok (.aload_n 0, 1) := by decide +kernel
theorem dX10_bestPlay_16 : decode cX10_bestPlay 16 = .ok (.invokevirtual 130, 3) := by decide +kernel
theorem dX10_bestPlay_19 : decode cX10_bestPlay 19 = .ok (.aload_n 0, 1) := by decide +kernel
theorem dX10_bestPlay_20 : decode cX10_bestPlay 20 = .ok (.iload_n 1, 1) := by decide +kernel
theorem dX10_bestPlay_21 : decode cX10_bestPlay 21 = .ok (.invokevirtual 217, 3) := by decide +kernel
theorem dX10_bestPlay_24 : decode cX10_bestPlay 24 = .ok (.aload_n 0, 1) := by decide +kernel
theorem dX10_bestPlay_25 : decode cX10_bestPlay 25 = .ok (.getfield 211, 3) := by decide +kernel
theorem dX10_bestPlay_28 : decode cX10_bestPlay 28 = .ok (.ireturn, 1) := by decide +kernel
theorem dX10_playBest_0 : decode cX10_playBest 0 = .ok (.aload_n 0, 1) := by decide +kernel
theorem dX10_playBest_1 : decode cX10_playBest 1 = .ok (.invokevirtual 130, 3) := by decide +kernel
theorem dX10_playBest_4 : decode cX10_playBest 4 = .ok (.iload_n 1, 1) := by decide +kernel
theorem dX10_playBest_5 : decode cX10_playBest 5 = .ok (.invokestatic 107, 3) := by decide +kernel
theorem dX10_playBest_8 : decode cX10_playBest 8 = .ok (.ifCond .eq 8, 3) := by decide +kernel
theorem dX10_playBest_11 : decode cX10_playBest 11 = .ok (.aload_n 0, 1) := by decide +kernel
theorem dX10_playBest_12 : decode cX10_playBest 12 = .ok (.iload_n 1, 1) := by decide +kernel
theorem dX10_playBest_13 : decode cX10_playBest 13 = .ok (.invokevirtual 217, 3) := by decide +kernel
theorem dX10_playBest_16 : decode cX10_playBest 16 = .ok (.aload_n 0, 1) := by decide +kernel
theorem dX10_playBest_17 : decode cX10_playBest 17 = .ok (.iload_n 1, 1) := by decide +kernel
theorem dX10_playBest_18 : decode cX10_playBest 18 = .ok (.invokestatic 107, 3) := by decide +kernel
theorem dX10_playBest_21 : decode cX10_playBest 21 = .ok (.aload_n 0, 1) := by decide +kernel
theorem dX10_playBest_22 : decode cX10_playBest 22 = .ok (.getfield 211, 3) := by decide +kernel
theorem dX10_playBest_25 : decode cX10_playBest 25 = .ok (.iconst (-1), 1) := by decide +kernel
theorem dX10_playBest_26 : decode cX10_playBest 26 = .ok (.if_icmp .eq 7, 3) := by decide +kernel
theorem dX10_playBest_29 : decode cX10_playBest 29 = .ok (.iconst 1, 1) := by decide +kernel
theorem dX10_playBest_30 : decode cX10_playBest 30 = .ok (.goto 4, 3) := by decide +kernel
theorem dX10_playBest_33 : decode cX10_playBest 33 = .ok (.iconst 0, 1) := by decide +kernel
theorem dX10_playBest_34 : decode cX10_playBest 34 = .ok (.iconst 1, 1) := by decide +kernel
theorem dX10_playBest_35 : decode cX10_playBest 35 = .ok (.invokevirtual 74, 3) := by decide +kernel
theorem dX10_playBest_38 : decode cX10_playBest 38 = .ok (.ifCond .ne 5, 3) := by decide +kernel
theorem dX10_playBest_41 : decode cX10_playBest 41 = .ok (.iconst 0, 1) := by decide +kernel
theorem dX10_playBest_42 : decode cX10_playBest 42 = .ok (.ireturn, 1) := by decide +kernel
theorem dX10_playBest_43 : decode cX10_playBest 43 = .ok (.aload_n 0, 1) := by decide +kernel
theorem dX10_playBest_44 : decode cX10_playBest 44 = .ok (.invokevirtual 85, 3) := by decide +kernel
theorem dX10_playBest_47 : decode cX10_playBest 47 = .ok (.aload_n 0, 1) := by decide +kernel
theorem dX10_playBest_48 : decode cX10_playBest 48 = .ok (.iload_n 1, 1) := by decide +kernel
theorem dX10_playBest_49 : decode cX10_playBest 49 = .ok (.aload_n 0, 1) := by decide +kernel
theorem dX10_playBest_50 : decode cX10_playBest 50 = .ok (.getfield 214, 3) := by decide +kernel
theorem dX10_playBest_53 : decode cX10_playBest 53 = .ok (.invokevirtual 194, 3) := by decide +kernel
theorem dX10_playBest_56 : decode cX10_playBest 56 = .ok (.istore_n 2, 1) := by decide +kernel
theorem dX10_playBest_57 : decode cX10_playBest 57 = .ok (.aload_n 0, 1) := by decide +kernel
theorem dX10_playBest_58 : decode cX10_playBest 58 = .ok (.getfield 214, 3) := by decide +kernel
theorem dX10_playBest_61 : decode cX10_playBest 61 = .ok (.bipush 30, 2) := by decide +kernel
theorem dX10_playBest_63 : decode cX10_playBest 63 = .ok (.idiv, 1) := by decide +kernel
theorem dX10_playBest_64 : decode cX10_playBest 64 = .ok (.bipush 49, 2) := by decide +kernel
theorem dX10_playBest_66 : decode cX10_playBest 66 = .ok (.irem, 1) := by decide +kernel
theorem dX10_playBest_67 : decode cX10_playBest 67 = .ok (.istore_n 3, 1) := by decide +kernel
theorem dX10_playBest_68 : decode cX10_playBest 68 = .ok (.aload_n 0, 1) := by decide +kernel
theorem dX10_playBest_69 : decode cX10_playBest 69 = .ok (.iload_n 1, 1) := by decide +kernel
theorem dX10_playBest_70 : decode cX10_playBest 70 = .ok (.aload_n 0, 1) := by decide +kernel
theorem dX10_playBest_71 : decode cX10_playBest 71 = .ok (.getfield 214, 3) := by decide +kernel
theorem dX10_playBest_74 : decode cX10_playBest 74 = .ok (.bipush 30, 2) := by decide +kernel
theorem dX10_playBest_76 : decode cX10_playBest 76 = .ok (.idiv, 1) := by decide +kernel
theorem dX10_playBest_77 : decode cX10_playBest 77 = .ok (.bipush 49, 2) := by decide +kernel
theorem dX10_playBest_79 : decode cX10_playBest 79 = .ok (.idiv, 1) := by decide +kernel
theorem dX10_playBest_80 : decode cX10_playBest 80 = .ok (.iload_n 3, 1) := by decide +kernel
theorem dX10_playBest_81 : decode cX10_playBest 81 = .ok (.bipush 7, 2) := by decide +kernel
theorem dX10_playBest_83 : decode cX10_playBest 83 = .ok (.idiv, 1) := by decide +kernel
theorem dX10_playBest_84 : decode cX10_playBest 84 = .ok (.iload_n 3, 1) := by decide +kernel
theorem dX10_playBest_85 : decode cX10_playBest 85 = .ok (.bipush 7, 2) := by decide +kernel
theorem dX10_playBest_87 : decode cX10_playBest 87 = .ok (.irem, 1) := by decide +kernel
theorem dX10_playBest_88 : decode cX10_playBest 88 = .ok (.invokevirtual 177, 3) := by decide +kernel
theorem dX10_playBest_91 : decode cX10_playBest 91 = .ok (.ireturn, 1) := by decide +kernel
theorem dX10_sumOn_0 : decode cX10_sumOn 0 = .ok (.iconst 0, 1) := by decide +kernel
theorem dX10_sumOn_1 : decode cX10_sumOn 1 = .ok (.istore_n 2, 1) := by decide +kernel
theorem dX10_sumOn_2 : decode cX10_sumOn 2 = .ok (.iconst 0, 1) := by decide +kernel
theorem dX10_sumOn_3 : decode cX10_sumOn 3 = .ok (.istore_n 3, 1) := by decide +kernel
theorem dX10_sumOn_4 : decode cX10_sumOn 4 = .ok (.iload_n 3, 1) := by decide +kernel
theorem dX10_sumOn_5 : decode cX10_sumOn 5 = .ok (.bipush 8, 2) := by decide +kernel
theorem dX10_sumOn_7 : decode cX10_sumOn 7 = .ok (.if_icmp .ge 32, 3) := by decide +kernel
theorem dX10_sumOn_10 : decode cX10_sumOn 10 = .ok (.iload_n 2, 1) := by decide +kernel
theorem dX10_sumOn_11 : decode cX10_sumOn 11 = .ok (.aload_n 0, 1) := by decide +kernel
theorem dX10_sumOn_12 : decode cX10_sumOn 12 = .ok (.getfield 25, 3) := by decide +kernel
theorem dX10_sumOn_15 : decode cX10_sumOn 15 = .ok (.bipush 8, 2) := by decide +kernel
theorem dX10_sumOn_17 : decode cX10_sumOn 17 = .ok (.iload_n 1, 1) := by decide +kernel
theorem dX10_sumOn_18 : decode cX10_sumOn 18 = .ok (.imul, 1) := by decide +kernel
theorem dX10_sumOn_19 : decode cX10_sumOn 19 = .ok (.iload_n 3, 1) := by decide +kernel
theorem dX10_sumOn_20 : decode cX10_sumOn 20 = .ok (.iadd, 1) := by decide +kernel
theorem dX10_sumOn_21 : decode cX10_sumOn 21 = .ok (.iaload, 1) := by decide +kernel
theorem dX10_sumOn_22 : decode cX10_sumOn 22 = .ok (.aload_n 0, 1) := by decide +kernel
theorem dX10_sumOn_23 : decode cX10_sumOn 23 = .ok (.getfield 7, 3) := by decide +kernel
theorem dX10_sumOn_26 : decode cX10_sumOn 26 = .ok (.iconst 0, 1) := by decide +kernel
theorem dX10_sumOn_27 : decode cX10_sumOn 27 = .ok (.iload_n 3, 1) := by decide +kernel
theorem dX10_sumOn_28 : decode cX10_sumOn 28 = .ok (.iadd, 1) := by decide +kernel
theorem dX10_sumOn_29 : decode cX10_sumOn 29 = .ok (.iaload, 1) := by decide +kernel
theorem dX10_sumOn_30 : decode cX10_sumOn 30 = .ok (.imul, 1) := by decide +kernel
theorem dX10_sumOn_31 : decode cX10_sumOn 31 = .ok (.iadd, 1) := by decide +kernel
theorem dX10_sumOn_32 : decode cX10_sumOn 32 = .ok (.istore_n 2, 1) := by decide +kernel
theorem dX10_sumOn_33 : decode cX10_sumOn 33 = .ok (.iinc 3 1, 3) := by decide +kernel
theorem dX10_sumOn_36 : decode cX10_sumOn 36 = .ok (.goto (-32), 3) := by decide +kernel
theorem dX10_sumOn_39 : decode cX10_sumOn 39 = .ok (.iload_n 2, 1) := by decide +kernel
theorem dX10_sumOn_40 : decode cX10_sumOn 40 = .ok (.ireturn, 1) := by decide +kernel
theorem dX10_isOut_0 : decode cX10_isOut 0 = .ok (.aload_n 0, 1) := by decide +kernel
theorem dX10_isOut_1 : decode cX10_isOut 1 = .ok (.iload_n 1, 1) := by decide +kernel
theorem dX10_isOut_2 : decode cX10_isOut 2 = .ok (.invokevirtual 220, 3) := by decide +kernel
theorem dX10_isOut_5 : decode cX10_isOut 5 = .ok (.ifCond .ne 7, 3) := by decide +kernel
theorem dX10_isOut_8 : decode cX10_isOut 8 = .ok (.iconst 1, 1) := by decide +kernel
theorem dX10_isOut_9 : decode cX10_isOut 9 = .ok (.goto 4, 3) := by decide +kernel
theorem dX10_isOut_12 : decode cX10_isOut 12 = .ok (.iconst 0, 1) := by decide +kernel
theorem dX10_isOut_13 : decode cX10_isOut 13 = .ok (.ireturn, 1) := by decide +kernel
theorem dX10_enters_0 : decode cX10_enters 0 = .ok (.aload_n 0, 1) := by decide +kernel
theorem dX10_enters_1 : decode cX10_enters 1 = .ok (.dup, 1) := by decide +kernel
theorem dX10_enters_2 : decode cX10_enters 2 = .ok (.getfield 223, 3) := by decide +kernel
theorem dX10_enters_5 : decode cX10_enters 5 = .ok (.iconst 1, 1) := by decide +kernel
theorem dX10_enters_6 : decode cX10_enters 6 = .ok (.iadd, 1) := by decide +kernel
theorem dX10_enters_7 : decode cX10_enters 7 = .ok (.putfield 223, 3) := by decide +kernel
theorem dX10_enters_10 : decode cX10_enters 10 = .ok (.iconst 0, 1) := by decide +kernel
theorem dX10_enters_11 : decode cX10_enters 11 = .ok (.istore 4, 2) := by decide +kernel
theorem dX10_enters_13 : decode cX10_enters 13 = .ok (.iload 4, 2) := by decide +kernel
theorem dX10_enters_15 : decode cX10_enters 15 = .ok (.bipush 49, 2) := by decide +kernel
theorem dX10_enters_17 : decode cX10_enters 17 = .ok (.if_icmp .ge 28, 3) := by decide +kernel
theorem dX10_enters_20 : decode cX10_enters 20 = .ok (.aload_n 0, 1) := by decide +kernel
theorem dX10_enters_21 : decode cX10_enters 21 = .ok (.getfield 34, 3) := by decide +kernel
theorem dX10_enters_24 : decode cX10_enters 24 = .ok (.bipush 49, 2) := by decide +kernel
theorem dX10_enters_26 : decode cX10_enters 26 = .ok (.iload_n 1, 1) := by decide +kernel
theorem dX10_enters_27 : decode cX10_enters 27 = .ok (.imul, 1) := by decide +kernel
theorem dX10_enters_28 : decode cX10_enters 28 = .ok (.iload 4, 2) := by decide +kernel
theorem dX10_enters_30 : decode cX10_enters 30 = .ok (.iadd, 1) := by decide +kernel
theorem dX10_enters_31 : decode cX10_enters 31 = .ok (.aload_n 0, 1) := by decide +kernel
theorem dX10_enters_32 : decode cX10_enters 32 = .ok (.getfield 22, 3) := by decide +kernel
theorem dX10_enters_35 : decode cX10_enters 35 = .ok (.iload 4, 2) := by decide +kernel
theorem dX10_enters_37 : decode cX10_enters 37 = .ok (.iaload, 1) := by decide +kernel
theorem dX10_enters_38 : decode cX10_enters 38 = .ok (.iastore, 1) := by decide +kernel
theorem dX10_enters_39 : decode cX10_enters 39 = .ok (.iinc 4 1, 3) := by decide +kernel
theorem dX10_enters_42 : decode cX10_enters 42 = .ok (.goto (-29), 3) := by decide +kernel
theorem dX10_enters_45 : decode cX10_enters 45 = .ok (.iconst 0, 1) := by decide +kernel
theorem dX10_enters_46 : decode cX10_enters 46 = .ok (.istore 4, 2) := by decide +kernel
theorem dX10_enters_48 : decode cX10_enters 48 = .ok (.iload 4, 2) := by decide +kernel
theorem dX10_enters_50 : decode cX10_enters 50 = .ok (.bipush 16, 2) := by decide +kernel
theorem dX10_enters_52 : decode cX10_enters 52 = .ok (.if_icmp .ge 28, 3) := by decide +kernel
theorem dX10_enters_55 : decode cX10_enters 55 = .ok (.aload_n 0, 1) := by decide +kernel
theorem dX10_enters_56 : decode cX10_enters 56 = .ok (.getfield 37, 3) := by decide +kernel
theorem dX10_enters_59 : decode cX10_enters 59 = .ok (.bipush 16, 2) := by decide +kernel
theorem dX10_enters_61 : decode cX10_enters 61 = .ok (.iload_n 1, 1) := by decide +kernel
theorem dX10_enters_62 : decode cX10_enters 62 = .ok (.imul, 1) := by decide +kernel
theorem dX10_enters_63 : decode cX10_enters 63 = .ok (.iload 4, 2) := by decide +kernel
theorem dX10_enters_65 : decode cX10_enters 65 = .ok (.iadd, 1) := by decide +kernel
theorem dX10_enters_66 : decode cX10_enters 66 = .ok (.aload_n 0, 1) := by decide +kernel
theorem dX10_enters_67 : decode cX10_enters 67 = .ok (.getfield 25, 3) := by decide +kernel
theorem dX10_enters_70 : decode cX10_enters 70 = .ok (.iload 4, 2) := by decide +kernel
theorem dX10_enters_72 : decode cX10_enters 72 = .ok (.iaload, 1) := by decide +kernel
theorem dX10_enters_73 : decode cX10_enters 73 = .ok (.iastore, 1) := by decide +kernel
theorem dX10_enters_74 : decode cX10_enters 74 = .ok (.iinc 4 1, 3) := by decide +kernel
theorem dX10_enters_77 : decode cX10_enters 77 = .ok (.goto (-29), 3) := by decide +kernel
theorem dX10_enters_80 : decode cX10_enters 80 = .ok (.aload_n 0, 1) := by decide +kernel
theorem dX10_enters_81 : decode cX10_enters 81 = .ok (.getfield 40, 3) := by decide +kernel
theorem dX10_enters_84 : decode cX10_enters 84 = .ok (.iload_n 1, 1) := by decide +kernel
theorem dX10_enters_85 : decode cX10_enters 85 = .ok (.iload_n 2, 1) := by decide +kernel
theorem dX10_enters_86 : decode cX10_enters 86 = .ok (.iastore, 1) := by decide +kernel
theorem dX10_enters_87 : decode cX10_enters 87 = .ok (.aload_n 0, 1) := by decide +kernel
theorem dX10_enters_88 : decode cX10_enters 88 = .ok (.getfield 43, 3) := by decide +kernel
theorem dX10_enters_91 : decode cX10_enters 91 = .ok (.iload_n 1, 1) := by decide +kernel
theorem dX10_enters_92 : decode cX10_enters 92 = .ok (.iconst 0, 1) := by decide +kernel
theorem dX10_enters_93 : decode cX10_enters 93 = .ok (.iastore, 1) := by decide +kernel
theorem dX10_enters_94 : decode cX10_enters 94 = .ok (.aload_n 0, 1) := by decide +kernel
theorem dX10_enters_95 : decode cX10_enters 95 = .ok (.getfield 46, 3) := by decide +kernel
theorem dX10_enters_98 : decode cX10_enters 98 = .ok (.iload_n 1, 1) := by decide +kernel
theorem dX10_enters_99 : decode cX10_enters 99 = .ok (.ldc 226, 2) := by decide +kernel
theorem dX10_enters_101 : decode cX10_enters 101 = .ok (.iastore, 1) := by decide +kernel
theorem dX10_enters_102 : decode cX10_enters 102 = .ok (.aload_n 0, 1) := by decide +kernel
theorem dX10_enters_103 : decode cX10_enters 103 = .ok (.getfield 49, 3) := by decide +kernel
theorem dX10_enters_106 : decode cX10_enters 106 = .ok (.iload_n 1, 1) := by decide +kernel
theorem dX10_enters_107 : decode cX10_enters 107 = .ok (.iload_n 3, 1) := by decide +kernel
theorem dX10_enters_108 : decode cX10_enters 108 = .ok (.iastore, 1) := by decide +kernel
theorem dX10_enters_109 : decode cX10_enters 109 = .ok (.return_, 1) := by decide +kernel
theorem dX10_takesBack_0 : decode cX10_takesBack 0 = .ok (.iconst 0, 1) := by decide +kernel
theorem dX10_takesBack_1 : decode cX10_takesBack 1 = .ok (.istore_n 2, 1) := by decide +kernel
theorem dX10_takesBack_2 : decode cX10_takesBack 2 = .ok (.iload_n 2, 1) := by decide +kernel
theorem dX10_takesBack_3 : decode cX10_takesBack 3 = .ok (.bipush 49, 2) := by decide +kernel
theorem dX10_takesBack_5 : decode cX10_takesBack 5 = .ok (.if_icmp .ge 26, 3) := by decide +kernel
theorem dX10_takesBack_8 : decode cX10_takesBack 8 = .ok (.aload_n 0, 1) := by decide +kernel
theorem dX10_takesBack_9 : decode cX10_takesBack 9 = .ok (.getfield 22, 3) := by decide +kernel
theorem dX10_takesBack_12 : decode cX10_takesBack 12 = .ok (.iload_n 2, 1) := by decide +kernel
theorem dX10_takesBack_13 : decode cX10_takesBack 13 = .ok (.aload_n 0, 1) := by decide +kernel
theorem dX10_takesBack_14 : decode cX10_takesBack 14 = .ok (.getfield 34, 3) := by decide +kernel
theorem dX10_takesBack_17 : decode cX10_takesBack 17 = .ok (.bipush 49, 2) := by decide +kernel
theorem dX10_takesBack_19 : decode cX10_takesBack 19 = .ok (.iload_n 1, 1) := by decide +kernel
theorem dX10_takesBack_20 : decode cX10_takesBack 20 = .ok (.imul, 1) := by decide +kernel
theorem dX10_takesBack_21 : decode cX10_takesBack 21 = .ok (.iload_n 2, 1) := by decide +kernel
theorem dX10_takesBack_22 : decode cX10_takesBack 22 = .ok (.iadd, 1) := by decide +kernel
theorem dX10_takesBack_23 : decode cX10_takesBack 23 = .ok (.iaload, 1) := by decide +kernel
theorem dX10_takesBack_24 : decode cX10_takesBack 24 = .ok (.iastore, 1) := by decide +kernel
theorem dX10_takesBack_25 : decode cX10_takesBack 25 = .ok (.iinc 2 1, 3) := by decide +kernel
theorem dX10_takesBack_28 : decode cX10_takesBack 28 = .ok (.goto (-26), 3) := by decide +kernel
theorem dX10_takesBack_31 : decode cX10_takesBack 31 = .ok (.iconst 0, 1) := by decide +kernel
theorem dX10_takesBack_32 : decode cX10_takesBack 32 = .ok (.istore_n 2, 1) := by decide +kernel
theorem dX10_takesBack_33 : decode cX10_takesBack 33 = .ok (.iload_n 2, 1) := by decide +kernel
theorem dX10_takesBack_34 : decode cX10_takesBack 34 = .ok (.bipush 16, 2) := by decide +kernel
theorem dX10_takesBack_36 : decode cX10_takesBack 36 = .ok (.if_icmp .ge 26, 3) := by decide +kernel
theorem dX10_takesBack_39 : decode cX10_takesBack 39 = .ok (.aload_n 0, 1) := by decide +kernel
theorem dX10_takesBack_40 : decode cX10_takesBack 40 = .ok (.getfield 25, 3) := by decide +kernel
theorem dX10_takesBack_43 : decode cX10_takesBack 43 = .ok (.iload_n 2, 1) := by decide +kernel
theorem dX10_takesBack_44 : decode cX10_takesBack 44 = .ok (.aload_n 0, 1) := by decide +kernel
theorem dX10_takesBack_45 : decode cX10_takesBack 45 = .ok (.getfield 37, 3) := by decide +kernel
theorem dX10_takesBack_48 : decode cX10_takesBack 48 = .ok (.bipush 16, 2) := by decide +kernel
theorem dX10_takesBack_50 : decode cX10_takesBack 50 = .ok (.iload_n 1, 1) := by decide +kernel
theorem dX10_takesBack_51 : decode cX10_takesBack 51 = .ok (.imul, 1) := by decide +kernel
theorem dX10_takesBack_52 : decode cX10_takesBack 52 = .ok (.iload_n 2, 1) := by decide +kernel
theorem dX10_takesBack_53 : decode cX10_takesBack 53 = .ok (.iadd, 1) := by decide +kernel
theorem dX10_takesBack_54 : decode cX10_takesBack 54 = .ok (.iaload, 1) := by decide +kernel
theorem dX10_takesBack_55 : decode cX10_takesBack 55 = .ok (.iastore, 1) := by decide +kernel
theorem dX10_takesBack_56 : decode cX10_takesBack 56 = .ok (.iinc 2 1, 3) := by decide +kernel
theorem dX10_takesBack_59 : decode cX10_takesBack 59 = .ok (.goto (-26), 3) := by decide +kernel
theorem dX10_takesBack_62 : decode cX10_takesBack 62 = .ok (.return_, 1) := by decide +kernel
theorem dX10_betters_0 : decode cX10_betters 0 = .ok (.aload_n 0, 1) := by decide +kernel
theorem dX10_betters_1 : decode cX10_betters 1 = .ok (.getfield 46, 3) := by decide +kernel
theorem dX10_betters_4 : decode cX10_betters 4 = .ok (.iload_n 1, 1) := by decide +kernel
theorem dX10_betters_5 : decode cX10_betters 5 = .ok (.iload_n 2, 1) := by decide +kernel
theorem dX10_betters_6 : decode cX10_betters 6 = .ok (.aload_n 0, 1) := by decide +kernel
theorem dX10_betters_7 : decode cX10_betters 7 = .ok (.getfield 46, 3) := by decide +kernel
theorem dX10_betters_10 : decode cX10_betters 10 = .ok (.iload_n 1, 1) := by decide +kernel
theorem dX10_betters_11 : decode cX10_betters 11 = .ok (.iaload, 1) := by decide +kernel
theorem dX10_betters_12 : decode cX10_betters 12 = .ok (.if_icmp .le 7, 3) := by decide +kernel
theorem dX10_betters_15 : decode cX10_betters 15 = .ok (.iload_n 2, 1) := by decide +kernel
theorem dX10_betters_16 : decode cX10_betters 16 = .ok (.goto 9, 3) := by decide +kernel
theorem dX10_betters_19 : decode cX10_betters 19 = .ok (.aload_n 0, 1) := by decide +kernel
theorem dX10_betters_20 : decode cX10_betters 20 = .ok (.getfield 46, 3) := by decide +kernel
theorem dX10_betters_23 : decode cX10_betters 23 = .ok (.iload_n 1, 1) := by decide +kernel
theorem dX10_betters_24 : decode cX10_betters 24 = .ok (.iaload, 1) := by decide +kernel
theorem dX10_betters_25 : decode cX10_betters 25 = .ok (.iastore, 1) := by decide +kernel
theorem dX10_betters_26 : decode cX10_betters 26 = .ok (.return_, 1) := by decide +kernel
theorem dX10_searched_0 : decode cX10_searched 0 = .ok (.aload_n 0, 1) := by decide +kernel
theorem dX10_searched_1 : decode cX10_searched 1 = .ok (.iconst 0, 1) := by decide +kernel
theorem dX10_searched_2 : decode cX10_searched 2 = .ok (.putfield 223, 3) := by decide +kernel
theorem dX10_searched_5 : decode cX10_searched 5 = .ok (.aload_n 0, 1) := by decide +kernel
theorem dX10_searched_6 : decode cX10_searched 6 = .ok (.iload_n 1, 1) := by decide +kernel
theorem dX10_searched_7 : decode cX10_searched 7 = .ok (.invokevirtual 227, 3) := by decide +kernel
theorem dX10_searched_10 : decode cX10_searched 10 = .ok (.ifCond .ne 13, 3) := by decide +kernel
theorem dX10_searched_13 : decode cX10_searched 13 = .ok (.aload_n 0, 1) := by decide +kernel
theorem dX10_searched_14 : decode cX10_searched 14 = .ok (.iconst 1, 1) := by decide +kernel
theorem dX10_searched_15 : decode cX10_searched 15 = .ok (.iload_n 1, 1) := by decide +kernel
theorem dX10_searched_16 : decode cX10_searched 16 = .ok (.isub, 1) := by decide +kernel
theorem dX10_searched_17 : decode cX10_searched 17 = .ok (.invokevirtual 227, 3) := by decide +kernel
theorem dX10_searched_20 : decode cX10_searched 20 = .ok (.ifCond .eq 32, 3) := by decide +kernel
theorem dX10_searched_23 : decode cX10_searched 23 = .ok (.aload_n 0, 1) := by decide +kernel
theorem dX10_searched_24 : decode cX10_searched 24 = .ok (.iload_n 1, 1) := by decide +kernel
theorem dX10_searched_25 : decode cX10_searched 25 = .ok (.invokevirtual 227, 3) := by decide +kernel
theorem dX10_searched_28 : decode cX10_searched 28 = .ok (.ifCond .eq 15, 3) := by decide +kernel
theorem dX10_searched_31 : decode cX10_searched 31 = .ok (.iconst 2, 1) := by decide +kernel
theorem dX10_searched_32 : decode cX10_searched 32 = .ok (.aload_n 0, 1) := by decide +kernel
theorem dX10_searched_33 : decode cX10_searched 33 = .ok (.iconst 1, 1) := by decide +kernel
theorem dX10_searched_34 : decode cX10_searched 34 = .ok (.iload_n 1, 1) := by decide +kernel
theorem dX10_searched_35 : decode cX10_searched 35 = .ok (.isub, 1) := by decide +kernel
theorem dX10_searched_36 : decode cX10_searched 36 = .ok (.invokevirtual 220, 3) := by decide +kernel
theorem dX10_searched_39 : decode cX10_searched 39 = .ok (.imul, 1) := by decide +kernel
theorem dX10_searched_40 : decode cX10_searched 40 = .ok (.goto 11, 3) := by decide +kernel
theorem dX10_searched_43 : decode cX10_searched 43 = .ok (.bipush (-2), 2) := by decide +kernel
theorem dX10_searched_45 : decode cX10_searched 45 = .ok (.aload_n 0, 1) := by decide +kernel
theorem dX10_searched_46 : decode cX10_searched 46 = .ok (.iload_n 1, 1) := by decide +kernel
theorem dX10_searched_47 : decode cX10_searched 47 = .ok (.invokevirtual 220, 3) := by decide +kernel
theorem dX10_searched_50 : decode cX10_searched 50 = .ok (.imul, 1) := by decide +kernel
theorem dX10_searched_51 : decode cX10_searched 51 = .ok (.ireturn, 1) := by decide +kernel
theorem dX10_searched_52 : decode cX10_searched 52 = .ok (.aload_n 0, 1) := by decide +kernel
theorem dX10_searched_53 : decode cX10_searched 53 = .ok (.iconst 0, 1) := by decide +kernel
theorem dX10_searched_54 : decode cX10_searched 54 = .ok (.iconst 0, 1) := by decide +kernel
theorem dX10_searched_55 : decode cX10_searched 55 = .ok (.iconst 0, 1) := by decide +kernel
theorem dX10_searched_56 : decode cX10_searched 56 = .ok (.invokevirtual 230, 3) := by decide +kernel
theorem dX10_searched_59 : decode cX10_searched 59 = .ok (.iconst 0, 1) := by decide +kernel
theorem dX10_searched_60 : decode cX10_searched 60 = .ok (.istore_n 2, 1) := by decide +kernel
theorem dX10_searched_61 : decode cX10_searched 61 = .ok (.aload_n 0, 1) := by decide +kernel
theorem dX10_searched_62 : decode cX10_searched 62 = .ok (.getfield 223, 3) := by decide +kernel
theorem dX10_searched_65 : decode cX10_searched 65 = .ok (.sipush 400, 3) := by decide +kernel
theorem dX10_searched_68 : decode cX10_searched 68 = .ok (.if_icmp .gt 231, 3) := by decide +kernel
theorem dX10_searched_71 : decode cX10_searched 71 = .ok (.iload_n 2, 1) := by decide +kernel
theorem dX10_searched_72 : decode cX10_searched 72 = .ok (.iconst 2, 1) := by decide +kernel
theorem dX10_searched_73 : decode cX10_searched 73 = .ok (.irem, 1) := by decide +kernel
theorem dX10_searched_74 : decode cX10_searched 74 = .ok (.ifCond .ne 7, 3) := by decide +kernel
theorem dX10_searched_77 : decode cX10_searched 77 = .ok (.iload_n 1, 1) := by decide +kernel
theorem dX10_searched_78 : decode cX10_searched 78 = .ok (.goto 6, 3) := by decide +kernel
theorem dX10_searched_81 : decode cX10_searched 81 = .ok (.iconst 1, 1) := by decide +kernel
theorem dX10_searched_82 : decode cX10_searched 82 = .ok (.iload_n 1, 1) := by decide +kernel
theorem dX10_searched_83 : decode cX10_searched 83 = .ok (.isub, 1) := by decide +kernel
theorem dX10_searched_84 : decode cX10_searched 84 = .ok (.istore_n 3, 1) := by decide +kernel
theorem dX10_searched_85 : decode cX10_searched 85 = .ok (.aload_n 0, 1) := by decide +kernel
theorem dX10_searched_86 : decode cX10_searched 86 = .ok (.getfield 43, 3) := by decide +kernel
theorem dX10_searched_89 : decode cX10_searched 89 = .ok (.iload_n 2, 1) := by decide +kernel
theorem dX10_searched_90 : decode cX10_searched 90 = .ok (.iaload, 1) := by decide +kernel
theorem dX10_searched_91 : decode cX10_searched 91 = .ok (.istore 4, 2) := by decide +kernel
theorem dX10_searched_93 : decode cX10_searched 93 = .ok (.aload_n 0, 1) := by decide +kernel
theorem dX10_searched_94 : decode cX10_searched 94 = .ok (.getfield 43, 3) := by decide +kernel
theorem dX10_searched_97 : decode cX10_searched 97 = .ok (.iload_n 2, 1) := by decide +kernel
theorem dX10_searched_98 : decode cX10_searched 98 = .ok (.dup2, 1) := by decide +kernel
theorem dX10_searched_99 : decode cX10_searched 99 = .ok (.iaload, 1) := by decide +kernel
theorem dX10_searched_100 : decode cX10_searched 100 = .ok (.iconst 1, 1) := by decide +kernel
theorem dX10_searched_101 : decode cX10_searched 101 = .ok (.iadd, 1) := by decide +kernel
theorem dX10_searched_102 : decode cX10_searched 102 = .ok (.iastore, 1) := by decide +kernel
theorem dX10_searched_103 : decode cX10_searched 103 = .ok (.iload 4, 2) := by decide +kernel
theorem dX10_searched_105 : decode cX10_searched 105 = .ok (.sipush 2940, 3) := by decide +kernel
theorem dX10_searched_108 : decode cX10_searched 108 = .ok (.if_icmp .le 47, 3) := by decide +kernel
theorem dX10_searched_111 : decode cX10_searched 111 = .ok (.iload_n 2, 1) := by decide +kernel
theorem dX10_searched_112 : decode cX10_searched 112 = .ok (.ifCond .ne 10, 3) := by decide +kernel
theorem dX10_searched_115 : decode cX10_searched 115 = .ok (.aload_n 0, 1) := by decide +kernel
theorem dX10_searched_116 : decode cX10_searched 116 = .ok (.getfield 46, 3) := by decide +kernel
theorem dX10_searched_119 : decode cX10_searched 119 = .ok (.iconst 0, 1) := by decide +kernel
theorem dX10_searched_120 : decode cX10_searched 120 = .ok (.iaload, 1) := by decide +kernel
theorem dX10_searched_121 : decode cX10_searched 121 = .ok (.ireturn, 1) := by decide +kernel
theorem dX10_searched_122 : decode cX10_searched 122 = .ok (.iinc 2 (-1), 3) := by decide +kernel
theorem dX10_searched_125 : decode cX10_searched 125 = .ok (.aload_n 0, 1) := by decide +kernel
theorem dX10_searched_126 : decode cX10_searched 126 = .ok (.iload_n 2, 1) := by decide +kernel
theorem dX10_searched_127 : decode cX10_searched 127 = .ok (.aload_n 0, 1) := by decide +kernel
theorem dX10_searched_128 : decode cX10_searched 128 = .ok (.getfield 49, 3) := by decide +kernel
theorem dX10_searched_131 : decode cX10_searched 131 = .ok (.iload_n 2, 1) := by decide +kernel
theorem dX10_searched_132 : decode cX10_searched 132 = .ok (.iconst 1, 1) := by decide +kernel
theorem dX10_searched_133 : decode cX10_searched 133 = .ok (.iadd, 1) := by decide +kernel
theorem dX10_searched_134 : decode cX10_searched 134 = .ok (.iaload, 1) := by decide +kernel
theorem dX10_searched_135 : decode cX10_searched 135 = .ok (.aload_n 0, 1) := by decide +kernel
theorem dX10_searched_136 : decode cX10_searched 136 = .ok (.getfield 46, 3) := by decide +kernel
theorem dX10_searched_139 : decode cX10_searched 139 = .ok (.iload_n 2, 1) := by decide +kernel
theorem dX10_searched_140 : decode cX10_searched 140 = .ok (.iconst 1, 1) := by decide +kernel
theorem dX10_searched_141 : decode cX10_searched 141 = .ok (.iadd, 1) := by decide +kernel
theorem dX10_searched_142 : decode cX10_searched 142 = .ok (.iaload, 1) := by decide +kernel
theorem dX10_searched_143 : decode cX10_searched 143 = .ok (.isub, 1) := by decide +kernel
theorem dX10_searched_144 : decode cX10_searched 144 = .ok (.invokevirtual 233, 3) := by decide +kernel
theorem dX10_searched_147 : decode cX10_searched 147 = .ok (.aload_n 0, 1) := by decide +kernel
theorem dX10_searched_148 : decode cX10_searched 148 = .ok (.iload_n 2, 1) := by decide +kernel
theorem dX10_searched_149 : decode cX10_searched 149 = .ok (.invokevirtual 236, 3) := by decide +kernel
theorem dX10_searched_152 : decode cX10_searched 152 = .ok (.goto 144, 3) := by decide +kernel
theorem dX10_searched_155 : decode cX10_searched 155 = .ok (.iload 4, 2) := by decide +kernel
theorem dX10_searched_157 : decode cX10_searched 157 = .ok (.sipush 2940, 3) := by decide +kernel
theorem dX10_searched_160 : decode cX10_searched 160 = .ok (.if_icmp .ne 57, 3) := by decide +kernel
theorem dX10_searched_163 : decode cX10_searched 163 = .ok (.aload_n 0, 1) := by decide +kernel
theorem dX10_searched_164 : decode cX10_searched 164 = .ok (.getfield 40, 3) := by decide +kernel
theorem dX10_searched_167 : decode cX10_searched 167 = .ok (.iload_n 2, 1) := by decide +kernel
theorem dX10_searched_168 : decode cX10_searched 168 = .ok (.iaload, 1) := by decide +kernel
theorem dX10_searched_169 : decode cX10_searched 169 = .ok (.iconst 1, 1) := by decide +kernel
theorem dX10_searched_170 : decode cX10_searched 170 = .ok (.if_icmp .ne 34, 3) := by decide +kernel
theorem dX10_searched_173 : decode cX10_searched 173 = .ok (.aload_n 0, 1) := by decide +kernel
theorem dX10_searched_174 : decode cX10_searched 174 = .ok (.dup, 1) := by decide +kernel
theorem dX10_searched_175 : decode cX10_searched 175 = .ok (.getfield 223, 3) := by decide +kernel
theorem dX10_searched_178 : decode cX10_searched 178 = .ok (.iconst 1, 1) := by decide +kernel
theorem dX10_searched_179 : decode cX10_searched 179 = .ok (.iadd, 1) := by decide +kernel
theorem dX10_searched_180 : decode cX10_searched 180 = .ok (.putfield 223, 3) := by decide +kernel
theorem dX10_searched_183 : decode cX10_searched 183 = .ok (.aload_n 0, 1) := by decide +kernel
theorem dX10_searched_184 : decode cX10_searched 184 = .ok (.iload_n 2, 1) := by decide +kernel
theorem dX10_searched_185 : decode cX10_searched 185 = .ok (.aload_n 0, 1) := by decide +kernel
theorem dX10_searched_186 : decode cX10_searched 186 = .ok (.iconst 1, 1) := by decide +kernel
theorem dX10_searched_187 : decode cX10_searched 187 = .ok (.iload_n 3, 1) := by decide +kernel
theorem dX10_searched_188 : decode cX10_searched 188 = .ok (.isub, 1) := by decide +kernel
theorem dX10_searched_189 : decode cX10_searched 189 = .ok (.invokevirtual 220, 3) := by decide +kernel
theorem dX10_searched_192 : decode cX10_searched 192 = .ok (.aload_n 0, 1) := by decide +kernel
theorem dX10_searched_193 : decode cX10_searched 193 = .ok (.iload_n 3, 1) := by decide +kernel
theorem dX10_searched_194 : decode cX10_searched 194 = .ok (.invokevirtual 220, 3) := by decide +kernel
theorem dX10_searched_197 : decode cX10_searched 197 = .ok (.isub, 1) := by decide +kernel
theorem dX10_searched_198 : decode cX10_searched 198 = .ok (.invokevirtual 233, 3) := by decide +kernel
theorem dX10_searched_201 : decode cX10_searched 201 = .ok (.goto 95, 3) := by decide +kernel
theorem dX10_searched_204 : decode cX10_searched 204 = .ok (.iinc 2 1, 3) := by decide +kernel
theorem dX10_searched_207 : decode cX10_searched 207 = .ok (.aload_n 0, 1) := by decide +kernel
theorem dX10_searched_208 : decode cX10_searched 208 = .ok (.iload_n 2, 1) := by decide +kernel
theorem dX10_searched_209 : decode cX10_searched 209 = .ok (.iconst 1, 1) := by decide +kernel
theorem dX10_searched_210 : decode cX10_searched 210 = .ok (.iconst 0, 1) := by decide +kernel
theorem dX10_searched_211 : decode cX10_searched 211 = .ok (.invokevirtual 230, 3) := by decide +kernel
theorem dX10_searched_214 : decode cX10_searched 214 = .ok (.goto 82, 3) := by decide +kernel
theorem dX10_searched_217 : decode cX10_searched 217 = .ok (.aload_n 0, 1) := by decide +kernel
theorem dX10_searched_218 : decode cX10_searched 218 = .ok (.iload_n 3, 1) := by decide +kernel
theorem dX10_searched_219 : decode cX10_searched 219 = .ok (.iload 4, 2) := by decide +kernel
theorem dX10_searched_221 : decode cX10_searched 221 = .ok (.invokevirtual 194, 3) := by decide +kernel
theorem dX10_searched_224 : decode cX10_searched 224 = .ok (.ifCond .eq 72, 3) := by decide +kernel
theorem dX10_searched_227 : decode cX10_searched 227 = .ok (.aload_n 0, 1) := by decide +kernel
theorem dX10_searched_228 : decode cX10_searched 228 = .ok (.iload 4, 2) := by decide +kernel
theorem dX10_searched_230 : decode cX10_searched 230 = .ok (.invokevirtual 205, 3) := by decide +kernel
theorem dX10_searched_233 : decode cX10_searched 233 = .ok (.istore 5, 2) := by decide +kernel
theorem dX10_searched_235 : decode cX10_searched 235 = .ok (.aload_n 0, 1) := by decide +kernel
theorem dX10_searched_236 : decode cX10_searched 236 = .ok (.iload_n 3, 1) := by decide +kernel
theorem dX10_searched_237 : decode cX10_searched 237 = .ok (.iload 4, 2) := by decide +kernel
theorem dX10_searched_239 : decode cX10_searched 239 = .ok (.invokevirtual 239, 3) := by decide +kernel
theorem dX10_searched_242 : decode cX10_searched 242 = .ok (.aload_n 0, 1) := by decide +kernel
theorem dX10_searched_243 : decode cX10_searched 243 = .ok (.iload_n 3, 1) := by decide +kernel
theorem dX10_searched_244 : decode cX10_searched 244 = .ok (.invokevirtual 227, 3) := by decide +kernel
theorem dX10_searched_247 : decode cX10_searched 247 = .ok (.ifCond .eq 38, 3) := by decide +kernel
theorem dX10_searched_250 : decode cX10_searched 250 = .ok (.aload_n 0, 1) := by decide +kernel
theorem dX10_searched_251 : decode cX10_searched 251 = .ok (.dup, 1) := by decide +kernel
theorem dX10_searched_252 : decode cX10_searched 252 = .ok (.getfield 223, 3) := by decide +kernel
theorem dX10_searched_255 : decode cX10_searched 255 = .ok (.iconst 1, 1) := by decide +kernel
theorem dX10_searched_256 : decode cX10_searched 256 = .ok (.iadd, 1) := by decide +kernel
theorem dX10_searched_257 : decode cX10_searched 257 = .ok (.putfield 223, 3) := by decide +kernel
theorem dX10_searched_260 : decode cX10_searched 260 = .ok (.aload_n 0, 1) := by decide +kernel
theorem dX10_searched_261 : decode cX10_searched 261 = .ok (.iload_n 2, 1) := by decide +kernel
theorem dX10_searched_262 : decode cX10_searched 262 = .ok (.iload 5, 2) := by decide +kernel
theorem dX10_searched_264 : decode cX10_searched 264 = .ok (.iconst 2, 1) := by decide +kernel
theorem dX10_searched_265 : decode cX10_searched 265 = .ok (.aload_n 0, 1) := by decide +kernel
theorem dX10_searched_266 : decode cX10_searched 266 = .ok (.iconst 1, 1) := by decide +kernel
theorem dX10_searched_267 : decode cX10_searched 267 = .ok (.iload_n 3, 1) := by decide +kernel
theorem dX10_searched_268 : decode cX10_searched 268 = .ok (.isub, 1) := by decide +kernel
theorem dX10_searched_269 : decode cX10_searched 269 = .ok (.invokevirtual 220, 3) := by decide +kernel
theorem dX10_searched_272 : decode cX10_searched 272 = .ok (.imul, 1) := by decide +kernel
theorem dX10_searched_273 : decode cX10_searched 273 = .ok (.iadd, 1) := by decide +kernel
theorem dX10_searched_274 : decode cX10_searched 274 = .ok (.invokevirtual 233, 3) := by decide +kernel
theorem dX10_searched_277 : decode cX10_searched 277 = .ok (.aload_n 0, 1) := by decide +kernel
theorem dX10_searched_278 : decode cX10_searched 278 = .ok (.iload_n 2, 1) := by decide +kernel
theorem dX10_searched_279 : decode cX10_searched 279 = .ok (.invokevirtual 236, 3) := by decide +kernel
theorem dX10_searched_282 : decode cX10_searched 282 = .ok (.goto 14, 3) := by decide +kernel
theorem dX10_searched_285 : decode cX10_searched 285 = .ok (.iinc 2 1, 3) := by decide +kernel
theorem dX10_searched_288 : decode cX10_searched 288 = .ok (.aload_n 0, 1) := by decide +kernel
theorem dX10_searched_289 : decode cX10_searched 289 = .ok (.iload_n 2, 1) := by decide +kernel
theorem dX10_searched_290 : decode cX10_searched 290 = .ok (.iconst 0, 1) := by decide +kernel
theorem dX10_searched_291 : decode cX10_searched 291 = .ok (.iload 5, 2) := by decide +kernel
theorem dX10_searched_293 : decode cX10_searched 293 = .ok (.invokevirtual 230, 3) := by decide +kernel
theorem dX10_searched_296 : decode cX10_searched 296 = .ok (.goto (-235), 3) := by decide +kernel
theorem dX10_searched_299 : decode cX10_searched 299 = .ok (.iconst 0, 1) := by decide +kernel
theorem dX10_searched_300 : decode cX10_searched 300 = .ok (.ireturn, 1) := by decide +kernel
theorem dX10_endgame_0 : decode cX10_endgame 0 = .ok (.aload_n 0, 1) := by decide +kernel
theorem dX10_endgame_1 : decode cX10_endgame 1 = .ok (.iload_n 1, 1) := by decide +kernel
theorem dX10_endgame_2 : decode cX10_endgame 2 = .ok (.invokestatic 107, 3) := by decide +kernel
theorem dX10_endgame_5 : decode cX10_endgame 5 = .ok (.iconst 1, 1) := by decide +kernel
theorem dX10_endgame_6 : decode cX10_endgame 6 = .ok (.iconst 1, 1) := by decide +kernel
theorem dX10_endgame_7 : decode cX10_endgame 7 = .ok (.invokevirtual 74, 3) := by decide +kernel
theorem dX10_endgame_10 : decode cX10_endgame 10 = .ok (.ifCond .ne 5, 3) := by decide +kernel
theorem dX10_endgame_13 : decode cX10_endgame 13 = .ok (.iconst 0, 1) := by decide +kernel
theorem dX10_endgame_14 : decode cX10_endgame 14 = .ok (.ireturn, 1) := by decide +kernel
theorem dX10_endgame_15 : decode cX10_endgame 15 = .ok (.aload_n 0, 1) := by decide +kernel
theorem dX10_endgame_16 : decode cX10_endgame 16 = .ok (.invokevirtual 130, 3) := by decide +kernel
theorem dX10_endgame_19 : decode cX10_endgame 19 = .ok (.aload_n 0, 1) := by decide +kernel
theorem dX10_endgame_20 : decode cX10_endgame 20 = .ok (.iload_n 1, 1) := by decide +kernel
theorem dX10_endgame_21 : decode cX10_endgame 21 = .ok (.invokevirtual 242, 3) := by decide +kernel
theorem dX10_endgame_24 : decode cX10_endgame 24 = .ok (.istore_n 2, 1) := by decide +kernel
theorem dX10_endgame_25 : decode cX10_endgame 25 = .ok (.aload_n 0, 1) := by decide +kernel
theorem dX10_endgame_26 : decode cX10_endgame 26 = .ok (.iconst 1, 1) := by decide +kernel
theorem dX10_endgame_27 : decode cX10_endgame 27 = .ok (.aload_n 0, 1) := by decide +kernel
theorem dX10_endgame_28 : decode cX10_endgame 28 = .ok (.getfield 223, 3) := by decide +kernel
theorem dX10_endgame_31 : decode cX10_endgame 31 = .ok (.sipush 400, 3) := by decide +kernel
theorem dX10_endgame_34 : decode cX10_endgame 34 = .ok (.if_icmp .gt 7, 3) := by decide +kernel
theorem dX10_endgame_37 : decode cX10_endgame 37 = .ok (.iconst 1, 1) := by decide +kernel
theorem dX10_endgame_38 : decode cX10_endgame 38 = .ok (.goto 4, 3) := by decide +kernel
theorem dX10_endgame_41 : decode cX10_endgame 41 = .ok (.iconst 0, 1) := by decide +kernel
theorem dX10_endgame_42 : decode cX10_endgame 42 = .ok (.iconst 1, 1) := by decide +kernel
theorem dX10_endgame_43 : decode cX10_endgame 43 = .ok (.invokevirtual 74, 3) := by decide +kernel
theorem dX10_endgame_46 : decode cX10_endgame 46 = .ok (.ifCond .eq 7, 3) := by decide +kernel
theorem dX10_endgame_49 : decode cX10_endgame 49 = .ok (.iload_n 2, 1) := by decide +kernel
theorem dX10_endgame_50 : decode cX10_endgame 50 = .ok (.goto 4, 3) := by decide +kernel
theorem dX10_endgame_53 : decode cX10_endgame 53 = .ok (.iconst 0, 1) := by decide +kernel
theorem dX10_endgame_54 : decode cX10_endgame 54 = .ok (.ireturn, 1) := by decide +kernel
theorem dX10_undo_0 : decode cX10_undo 0 = .ok (.aload_n 0, 1) := by decide +kernel
theorem dX10_undo_1 : decode cX10_undo 1 = .ok (.aload_n 0, 1) := by decide +kernel
theorem dX10_undo_2 : decode cX10_undo 2 = .ok (.getfield 56, 3) := by decide +kernel
theorem dX10_undo_5 : decode cX10_undo 5 = .ok (.ifCond .le 7, 3) := by decide +kernel
theorem dX10_undo_8 : decode cX10_undo 8 = .ok (.iconst 1, 1) := by decide +kernel
theorem dX10_undo_9 : decode cX10_undo 9 = .ok (.goto 4, 3) := by decide +kernel
theorem dX10_undo_12 : decode cX10_undo 12 = .ok (.iconst 0, 1) := by decide +kernel
theorem dX10_undo_13 : decode cX10_undo 13 = .ok (.iconst 1, 1) := by decide +kernel
theorem dX10_undo_14 : decode cX10_undo 14 = .ok (.iconst 1, 1) := by decide +kernel
theorem dX10_undo_15 : decode cX10_undo 15 = .ok (.invokevirtual 74, 3) := by decide +kernel
theorem dX10_undo_18 : decode cX10_undo 18 = .ok (.ifCond .ne 5, 3) := by decide +kernel
theorem dX10_undo_21 : decode cX10_undo 21 = .ok (.iconst 0, 1) := by decide +kernel
theorem dX10_undo_22 : decode cX10_undo 22 = .ok (.ireturn, 1) := by decide +kernel
theorem dX10_undo_23 : decode cX10_undo 23 = .ok (.aload_n 0, 1) := by decide +kernel
theorem dX10_undo_24 : decode cX10_undo 24 = .ok (.dup, 1) := by decide +kernel
theorem dX10_undo_25 : decode cX10_undo 25 = .ok (.getfield 56, 3) := by decide +kernel
theorem dX10_undo_28 : decode cX10_undo 28 = .ok (.iconst 1, 1) := by decide +kernel
theorem dX10_undo_29 : decode cX10_undo 29 = .ok (.isub, 1) := by decide +kernel
theorem dX10_undo_30 : decode cX10_undo 30 = .ok (.putfield 56, 3) := by decide +kernel
theorem dX10_undo_33 : decode cX10_undo 33 = .ok (.iconst 0, 1) := by decide +kernel
theorem dX10_undo_34 : decode cX10_undo 34 = .ok (.istore_n 1, 1) := by decide +kernel
theorem dX10_undo_35 : decode cX10_undo 35 = .ok (.iload_n 1, 1) := by decide +kernel
theorem dX10_undo_36 : decode cX10_undo 36 = .ok (.sipush 373, 3) := by decide +kernel
theorem dX10_undo_39 : decode cX10_undo 39 = .ok (.if_icmp .ge 30, 3) := by decide +kernel
theorem dX10_undo_42 : decode cX10_undo 42 = .ok (.aload_n 0, 1) := by decide +kernel
theorem dX10_undo_43 : decode cX10_undo 43 = .ok (.getfield 7, 3) := by decide +kernel
theorem dX10_undo_46 : decode cX10_undo 46 = .ok (.iload_n 1, 1) := by decide +kernel
theorem dX10_undo_47 : decode cX10_undo 47 = .ok (.aload_n 0, 1) := by decide +kernel
theorem dX10_undo_48 : decode cX10_undo 48 = .ok (.getfield 13, 3) := by decide +kernel
theorem dX10_undo_51 : decode cX10_undo 51 = .ok (.sipush 373, 3) := by decide +kernel
theorem dX10_undo_54 : decode cX10_undo 54 = .ok (.aload_n 0, 1) := by decide +kernel
theorem dX10_undo_55 : decode cX10_undo 55 = .ok (.getfield 56, 3) := by decide +kernel
theorem dX10_undo_58 : decode cX10_undo 58 = .ok (.imul, 1) := by decide +kernel
theorem dX10_undo_59 : decode cX10_undo 59 = .ok (.iload_n 1, 1) := by decide +kernel
theorem dX10_undo_60 : decode cX10_undo 60 = .ok (.iadd, 1) := by decide +kernel
theorem dX10_undo_61 : decode cX10_undo 61 = .ok (.iaload, 1) := by decide +kernel
theorem dX10_undo_62 : decode cX10_undo 62 = .ok (.iastore, 1) := by decide +kernel
theorem dX10_undo_63 : decode cX10_undo 63 = .ok (.iinc 1 1, 3) := by decide +kernel
theorem dX10_undo_66 : decode cX10_undo 66 = .ok (.goto (-31), 3) := by decide +kernel
theorem dX10_undo_69 : decode cX10_undo 69 = .ok (.aload_n 0, 1) := by decide +kernel
theorem dX10_undo_70 : decode cX10_undo 70 = .ok (.getfield 56, 3) := by decide +kernel
theorem dX10_undo_73 : decode cX10_undo 73 = .ok (.ireturn, 1) := by decide +kernel
theorem dX10_digest_0 : decode cX10_digest 0 = .ok (.aload_n 0, 1) := by decide +kernel
theorem dX10_digest_1 : decode cX10_digest 1 = .ok (.iconst 0, 1) := by decide +kernel
theorem dX10_digest_2 : decode cX10_digest 2 = .ok (.putfield 52, 3) := by decide +kernel
theorem dX10_digest_5 : decode cX10_digest 5 = .ok (.ldc2_w 245, 3) := by decide +kernel
theorem dX10_digest_8 : decode cX10_digest 8 = .ok (.aload_n 0, 1) := by decide +kernel
theorem dX10_digest_9 : decode cX10_digest 9 = .ok (.getfield 71, 3) := by decide +kernel
theorem dX10_digest_12 : decode cX10_digest 12 = .ok (.i2l, 1) := by decide +kernel
theorem dX10_digest_13 : decode cX10_digest 13 = .ok (.ladd, 1) := by decide +kernel
theorem dX10_digest_14 : decode cX10_digest 14 = .ok (.lstore_n 1, 1) := by decide +kernel
theorem dX10_digest_15 : decode cX10_digest 15 = .ok (.iconst 0, 1) := by decide +kernel
theorem dX10_digest_16 : decode cX10_digest 16 = .ok (.istore_n 3, 1) := by decide +kernel
theorem dX10_digest_17 : decode cX10_digest 17 = .ok (.iload_n 3, 1) := by decide +kernel
theorem dX10_digest_18 : decode cX10_digest 18 = .ok (.aload_n 0, 1) := by decide +kernel
theorem dX10_digest_19 : decode cX10_digest 19 = .ok (.getfield 71, 3) := by decide +kernel
theorem dX10_digest_22 : decode cX10_digest 22 = .ok (.if_icmp .ge 23, 3) := by decide +kernel
theorem dX10_digest_25 : decode cX10_digest 25 = .ok (.ldc2_w 247, 3) := by decide +kernel
theorem dX10_digest_28 : decode cX10_digest 28 = .ok (.lload_n 1, 1) := by decide +kernel
theorem dX10_digest_29 : decode cX10_digest 29 = .ok (.lmul, 1) := by decide +kernel
theorem dX10_digest_30 : decode cX10_digest 30 = .ok (.aload_n 0, 1) := by decide +kernel
theorem dX10_digest_31 : decode cX10_digest 31 = .ok (.getfield 16, 3) := by decide +kernel
theorem dX10_digest_34 : decode cX10_digest 34 = .ok (.iload_n 3, 1) := by decide +kernel
theorem dX10_digest_35 : decode cX10_digest 35 = .ok (.iaload, 1) := by decide +kernel
theorem dX10_digest_36 : decode cX10_digest 36 = .ok (.i2l, 1) := by decide +kernel
theorem dX10_digest_37 : decode cX10_digest 37 = .ok (.ladd, 1) := by decide +kernel
theorem dX10_digest_38 : decode cX10_digest 38 = .ok (.lstore_n 1, 1) := by decide +kernel
theorem dX10_digest_39 : decode cX10_digest 39 = .ok (.iinc 3 1, 3) := by decide +kernel
theorem dX10_digest_42 : decode cX10_digest 42 = .ok (.goto (-25), 3) := by decide +kernel
theorem dX10_digest_45 : decode cX10_digest 45 = .ok (.iconst 0, 1) := by decide +kernel
theorem dX10_digest_46 : decode cX10_digest 46 = .ok (.istore_n 3, 1) := by decide +kernel
theorem dX10_digest_47 : decode cX10_digest 47 = .ok (.iload_n 3, 1) := by decide +kernel
theorem dX10_digest_48 : decode cX10_digest 48 = .ok (.bipush 8, 2) := by decide +kernel
theorem dX10_digest_50 : decode cX10_digest 50 = .ok (.if_icmp .ge 40, 3) := by decide +kernel
theorem dX10_digest_53 : decode cX10_digest 53 = .ok (.ldc2_w 247, 3) := by decide +kernel
theorem dX10_digest_56 : decode cX10_digest 56 = .ok (.ldc2_w 247, 3) := by decide +kernel
theorem dX10_digest_59 : decode cX10_digest 59 = .ok (.lload_n 1, 1) := by decide +kernel
theorem dX10_digest_60 : decode cX10_digest 60 = .ok (.lmul, 1) := by decide +kernel
theorem dX10_digest_61 : decode cX10_digest 61 = .ok (.aload_n 0, 1) := by decide +kernel
theorem dX10_digest_62 : decode cX10_digest 62 = .ok (.getfield 7, 3) := by decide +kernel
theorem dX10_digest_65 : decode cX10_digest 65 = .ok (.iconst 0, 1) := by decide +kernel
theorem dX10_digest_66 : decode cX10_digest 66 = .ok (.iload_n 3, 1) := by decide +kernel
theorem dX10_digest_67 : decode cX10_digest 67 = .ok (.iadd, 1) := by decide +kernel
theorem dX10_digest_68 : decode cX10_digest 68 = .ok (.iaload, 1) := by decide +kernel
theorem dX10_digest_69 : decode cX10_digest 69 = .ok (.i2l, 1) := by decide +kernel
theorem dX10_digest_70 : decode cX10_digest 70 = .ok (.ladd, 1) := by decide +kernel
theorem dX10_digest_71 : decode cX10_digest 71 = .ok (.lmul, 1) := by decide +kernel
theorem dX10_digest_72 : decode cX10_digest 72 = .ok (.aload_n 0, 1) := by decide +kernel
theorem dX10_digest_73 : decode cX10_digest 73 = .ok (.getfield 7, 3) := by decide +kernel
theorem dX10_digest_76 : decode cX10_digest 76 = .ok (.bipush 8, 2) := by decide +kernel
theorem dX10_digest_78 : decode cX10_digest 78 = .ok (.iload_n 3, 1) := by decide +kernel
theorem dX10_digest_79 : decode cX10_digest 79 = .ok (.iadd, 1) := by decide +kernel
theorem dX10_digest_80 : decode cX10_digest 80 = .ok (.iaload, 1) := by decide +kernel
theorem dX10_digest_81 : decode cX10_digest 81 = .ok (.i2l, 1) := by decide +kernel
theorem dX10_digest_82 : decode cX10_digest 82 = .ok (.ladd, 1) := by decide +kernel
theorem dX10_digest_83 : decode cX10_digest 83 = .ok (.lstore_n 1, 1) := by decide +kernel
theorem dX10_digest_84 : decode cX10_digest 84 = .ok (.iinc 3 1, 3) := by decide +kernel
theorem dX10_digest_87 : decode cX10_digest 87 = .ok (.goto (-40), 3) := by decide +kernel
theorem dX10_digest_90 : decode cX10_digest 90 = .ok (.ldc2_w 247, 3) := by decide +kernel
theorem dX10_digest_93 : decode cX10_digest 93 = .ok (.lload_n 1, 1) := by decide +kernel
theorem dX10_digest_94 : decode cX10_digest 94 = .ok (.lmul, 1) := by decide +kernel
theorem dX10_digest_95 : decode cX10_digest 95 = .ok (.aload_n 0, 1) := by decide +kernel
theorem dX10_digest_96 : decode cX10_digest 96 = .ok (.getfield 7, 3) := by decide +kernel
theorem dX10_digest_99 : decode cX10_digest 99 = .ok (.bipush 16, 2) := by decide +kernel
theorem dX10_digest_101 : decode cX10_digest 101 = .ok (.iaload, 1) := by decide +kernel
theorem dX10_digest_102 : decode cX10_digest 102 = .ok (.i2l, 1) := by decide +kernel
theorem dX10_digest_103 : decode cX10_digest 103 = .ok (.ladd, 1) := by decide +kernel
theorem dX10_digest_104 : decode cX10_digest 104 = .ok (.lstore_n 1, 1) := by decide +kernel
theorem dX10_digest_105 : decode cX10_digest 105 = .ok (.iconst 0, 1) := by decide +kernel
theorem dX10_digest_106 : decode cX10_digest 106 = .ok (.istore_n 3, 1) := by decide +kernel
theorem dX10_digest_107 : decode cX10_digest 107 = .ok (.iload_n 3, 1) := by decide +kernel
theorem dX10_digest_108 : decode cX10_digest 108 = .ok (.aload_n 0, 1) := by decide +kernel
theorem dX10_digest_109 : decode cX10_digest 109 = .ok (.getfield 7, 3) := by decide +kernel
theorem dX10_digest_112 : decode cX10_digest 112 = .ok (.bipush 16, 2) := by decide +kernel
theorem dX10_digest_114 : decode cX10_digest 114 = .ok (.iaload, 1) := by decide +kernel
theorem dX10_digest_115 : decode cX10_digest 115 = .ok (.if_icmp .ge 58, 3) := by decide +kernel
theorem dX10_digest_118 : decode cX10_digest 118 = .ok (.iconst 0, 1) := by decide +kernel
theorem dX10_digest_119 : decode cX10_digest 119 = .ok (.istore 4, 2) := by decide +kernel
theorem dX10_digest_121 : decode cX10_digest 121 = .ok (.iload 4, 2) := by decide +kernel
theorem dX10_digest_123 : decode cX10_digest 123 = .ok (.aload_n 0, 1) := by decide +kernel
theorem dX10_digest_124 : decode cX10_digest 124 = .ok (.getfield 7, 3) := by decide +kernel
theorem dX10_digest_127 : decode cX10_digest 127 = .ok (.bipush 17, 2) := by decide +kernel
theorem dX10_digest_129 : decode cX10_digest 129 = .ok (.bipush 8, 2) := by decide +kernel
theorem dX10_digest_131 : decode cX10_digest 131 = .ok (.iload_n 3, 1) := by decide +kernel
theorem dX10_digest_132 : decode cX10_digest 132 = .ok (.imul, 1) := by decide +kernel
theorem dX10_digest_133 : decode cX10_digest 133 = .ok (.iadd, 1) := by decide +kernel
theorem dX10_digest_134 : decode cX10_digest 134 = .ok (.iaload, 1) := by decide +kernel
theorem dX10_digest_135 : decode cX10_digest 135 = .ok (.if_icmp .gt 32, 3) := by decide +kernel
theorem dX10_digest_138 : decode cX10_digest 138 = .ok (.ldc2_w 247, 3) := by decide +kernel
theorem dX10_digest_141 : decode cX10_digest 141 = .ok (.lload_n 1, 1) := by decide +kernel
theorem dX10_digest_142 : decode cX10_digest 142 = .ok (.lmul, 1) := by decide +kernel
theorem dX10_digest_143 : decode cX10_digest 143 = .ok (.aload_n 0, 1) := by decide +kernel
theorem dX10_digest_144 : decode cX10_digest 144 = .ok (.getfield 7, 3) := by decide +kernel
theorem dX10_digest_147 : decode cX10_digest 147 = .ok (.bipush 17, 2) := by decide +kernel
theorem dX10_digest_149 : decode cX10_digest 149 = .ok (.bipush 8, 2) := by decide +kernel
theorem dX10_digest_151 : decode cX10_digest 151 = .ok (.iload_n 3, 1) := by decide +kernel
theorem dX10_digest_152 : decode cX10_digest 152 = .ok (.imul, 1) := by decide +kernel
theorem dX10_digest_153 : decode cX10_digest 153 = .ok (.iadd, 1) := by decide +kernel
theorem dX10_digest_154 : decode cX10_digest 154 = .ok (.iload 4, 2) := by decide +kernel
theorem dX10_digest_156 : decode cX10_digest 156 = .ok (.iadd, 1) := by decide +kernel
theorem dX10_digest_157 : decode cX10_digest 157 = .ok (.iaload, 1) := by decide +kernel
theorem dX10_digest_158 : decode cX10_digest 158 = .ok (.i2l, 1) := by decide +kernel
theorem dX10_digest_159 : decode cX10_digest 159 = .ok (.ladd, 1) := by decide +kernel
theorem dX10_digest_160 : decode cX10_digest 160 = .ok (.lstore_n 1, 1) := by decide +kernel
theorem dX10_digest_161 : decode cX10_digest 161 = .ok (.iinc 4 1, 3) := by decide +kernel
theorem dX10_digest_164 : decode cX10_digest 164 = .ok (.goto (-43), 3) := by decide +kernel
theorem dX10_digest_167 : decode cX10_digest 167 = .ok (.iinc 3 1, 3) := by decide +kernel
theorem dX10_digest_170 : decode cX10_digest 170 = .ok (.goto (-63), 3) := by decide +kernel
theorem dX10_digest_173 : decode cX10_digest 173 = .ok (.iconst 0, 1) := by decide +kernel
theorem dX10_digest_174 : decode cX10_digest 174 = .ok (.istore_n 3, 1) := by decide +kernel
theorem dX10_digest_175 : decode cX10_digest 175 = .ok (.iload_n 3, 1) := by decide +kernel
theorem dX10_digest_176 : decode cX10_digest 176 = .ok (.bipush 49, 2) := by decide +kernel
theorem dX10_digest_178 : decode cX10_digest 178 = .ok (.if_icmp .ge 43, 3) := by decide +kernel
theorem dX10_digest_181 : decode cX10_digest 181 = .ok (.ldc2_w 247, 3) := by decide +kernel
theorem dX10_digest_184 : decode cX10_digest 184 = .ok (.ldc2_w 247, 3) := by decide +kernel
theorem dX10_digest_187 : decode cX10_digest 187 = .ok (.lload_n 1, 1) := by decide +kernel
theorem dX10_digest_188 : decode cX10_digest 188 = .ok (.lmul, 1) := by decide +kernel
theorem dX10_digest_189 : decode cX10_digest 189 = .ok (.aload_n 0, 1) := by decide +kernel
theorem dX10_digest_190 : decode cX10_digest 190 = .ok (.getfield 7, 3) := by decide +kernel
theorem dX10_digest_193 : decode cX10_digest 193 = .ok (.sipush 257, 3) := by decide +kernel
theorem dX10_digest_196 : decode cX10_digest 196 = .ok (.iload_n 3, 1) := by decide +kernel
theorem dX10_digest_197 : decode cX10_digest 197 = .ok (.iadd, 1) := by decide +kernel
theorem dX10_digest_198 : decode cX10_digest 198 = .ok (.iaload, 1) := by decide +kernel
theorem dX10_digest_199 : decode cX10_digest 199 = .ok (.i2l, 1) := by decide +kernel
theorem dX10_digest_200 : decode cX10_digest 200 = .ok (.ladd, 1) := by decide +kernel
theorem dX10_digest_201 : decode cX10_digest 201 = .ok (.lmul, 1) := by decide +kernel
theorem dX10_digest_202 : decode cX10_digest 202 = .ok (.aload_n 0, 1) := by decide +kernel
theorem dX10_digest_203 : decode cX10_digest 203 = .ok (.getfield 7, 3) := by decide +kernel
theorem dX10_digest_206 : decode cX10_digest 206 = .ok (.sipush 306, 3) := by decide +kernel
theorem dX10_digest_209 : decode cX10_digest 209 = .ok (.iload_n 3, 1) := by decide +kernel
theorem dX10_digest_210 : decode cX10_digest 210 = .ok (.iadd, 1) := by decide +kernel
theorem dX10_digest_211 : decode cX10_digest 211 = .ok (.iaload, 1) := by decide +kernel
theorem dX10_digest_212 : decode cX10_digest 212 = .ok (.i2l, 1) := by decide +kernel
theorem dX10_digest_213 : decode cX10_digest 213 = .ok (.ladd, 1) := by decide +kernel
theorem dX10_digest_214 : decode cX10_digest 214 = .ok (.lstore_n 1, 1) := by decide +kernel
theorem dX10_digest_215 : decode cX10_digest 215 = .ok (.iinc 3 1, 3) := by decide +kernel
theorem dX10_digest_218 : decode cX10_digest 218 = .ok (.goto (-43), 3) := by decide +kernel
theorem dX10_digest_221 : decode cX10_digest 221 = .ok (.aload_n 0, 1) := by decide +kernel
theorem dX10_digest_222 : decode cX10_digest 222 = .ok (.invokevirtual 130, 3) := by decide +kernel
theorem dX10_digest_225 : decode cX10_digest 225 = .ok (.iconst 0, 1) := by decide +kernel
theorem dX10_digest_226 : decode cX10_digest 226 = .ok (.istore_n 3, 1) := by decide +kernel
theorem dX10_digest_227 : decode cX10_digest 227 = .ok (.iload_n 3, 1) := by decide +kernel
theorem dX10_digest_228 : decode cX10_digest 228 = .ok (.iconst 2, 1) := by decide +kernel
theorem dX10_digest_229 : decode cX10_digest 229 = .ok (.if_icmp .ge 78, 3) := by decide +kernel
theorem dX10_digest_232 : decode cX10_digest 232 = .ok (.iconst 0, 1) := by decide +kernel
theorem dX10_digest_233 : decode cX10_digest 233 = .ok (.istore 4, 2) := by decide +kernel
theorem dX10_digest_235 : decode cX10_digest 235 = .ok (.iload 4, 2) := by decide +kernel
theorem dX10_digest_237 : decode cX10_digest 237 = .ok (.bipush 8, 2) := by decide +kernel
theorem dX10_digest_239 : decode cX10_digest 239 = .ok (.if_icmp .ge 33, 3) := by decide +kernel
theorem dX10_digest_242 : decode cX10_digest 242 = .ok (.ldc2_w 247, 3) := by decide +kernel
theorem dX10_digest_245 : decode cX10_digest 245 = .ok (.lload_n 1, 1) := by decide +kernel
theorem dX10_digest_246 : decode cX10_digest 246 = .ok (.lmul, 1) := by decide +kernel
theorem dX10_digest_247 : decode cX10_digest 247 = .ok (.aload_n 0, 1) := by decide +kernel
theorem dX10_digest_248 : decode cX10_digest 248 = .ok (.getfield 7, 3) := by decide +kernel
theorem dX10_digest_251 : decode cX10_digest 251 = .ok (.sipush 355, 3) := by decide +kernel
theorem dX10_digest_254 : decode cX10_digest 254 = .ok (.bipush 8, 2) := by decide +kernel
theorem dX10_digest_256 : decode cX10_digest 256 = .ok (.iload_n 3, 1) := by decide +kernel
theorem dX10_digest_257 : decode cX10_digest 257 = .ok (.imul, 1) := by decide +kernel
theorem dX10_digest_258 : decode cX10_digest 258 = .ok (.iadd, 1) := by decide +kernel
theorem dX10_digest_259 : decode cX10_digest 259 = .ok (.iload 4, 2) := by decide +kernel
theorem dX10_digest_261 : decode cX10_digest 261 = .ok (.iadd, 1) := by decide +kernel
theorem dX10_digest_262 : decode cX10_digest 262 = .ok (.iaload, 1) := by decide +kernel
theorem dX10_digest_263 : decode cX10_digest 263 = .ok (.i2l, 1) := by decide +kernel
theorem dX10_digest_264 : decode cX10_digest 264 = .ok (.ladd, 1) := by decide +kernel
theorem dX10_digest_265 : decode cX10_digest 265 = .ok (.lstore_n 1, 1) := by decide +kernel
theorem dX10_digest_266 : decode cX10_digest 266 = .ok (.iinc 4 1, 3) := by decide +kernel
theorem dX10_digest_269 : decode cX10_digest 269 = .ok (.goto (-34), 3) := by decide +kernel
theorem dX10_digest_272 : decode cX10_digest 272 = .ok (.ldc2_w 247, 3) := by decide +kernel
theorem dX10_digest_275 : decode cX10_digest 275 = .ok (.ldc2_w 247, 3) := by decide +kernel
theorem dX10_digest_278 : decode cX10_digest 278 = .ok (.lload_n 1, 1) := by decide +kernel
theorem dX10_digest_279 : decode cX10_digest 279 = .ok (.lmul, 1) := by decide +kernel
theorem dX10_digest_280 : decode cX10_digest 280 = .ok (.aload_n 0, 1) := by decide +kernel
theorem dX10_digest_281 : decode cX10_digest 281 = .ok (.getfield 7, 3) := by decide +kernel
theorem dX10_digest_284 : decode cX10_digest 284 = .ok (.sipush 371, 3) := by decide +kernel
theorem dX10_digest_287 : decode cX10_digest 287 = .ok (.iload_n 3, 1) := by decide +kernel
theorem dX10_digest_288 : decode cX10_digest 288 = .ok (.iadd, 1) := by decide +kernel
theorem dX10_digest_289 : decode cX10_digest 289 = .ok (.iaload, 1) := by decide +kernel
theorem dX10_digest_290 : decode cX10_digest 290 = .ok (.i2l, 1) := by decide +kernel
theorem dX10_digest_291 : decode cX10_digest 291 = .ok (.ladd, 1) := by decide +kernel
theorem dX10_digest_292 : decode cX10_digest 292 = .ok (.lmul, 1) := by decide +kernel
theorem dX10_digest_293 : decode cX10_digest 293 = .ok (.aload_n 0, 1) := by decide +kernel
theorem dX10_digest_294 : decode cX10_digest 294 = .ok (.iload_n 3, 1) := by decide +kernel
theorem dX10_digest_295 : decode cX10_digest 295 = .ok (.invokevirtual 197, 3) := by decide +kernel
theorem dX10_digest_298 : decode cX10_digest 298 = .ok (.i2l, 1) := by decide +kernel
theorem dX10_digest_299 : decode cX10_digest 299 = .ok (.ladd, 1) := by decide +kernel
theorem dX10_digest_300 : decode cX10_digest 300 = .ok (.lstore_n 1, 1) := by decide +kernel
theorem dX10_digest_301 : decode cX10_digest 301 = .ok (.iinc 3 1, 3) := by decide +kernel
theorem dX10_digest_304 : decode cX10_digest 304 = .ok (.goto (-77), 3) := by decide +kernel
theorem dX10_digest_307 : decode cX10_digest 307 = .ok (.ldc2_w 247, 3) := by decide +kernel
theorem dX10_digest_310 : decode cX10_digest 310 = .ok (.ldc2_w 247, 3) := by decide +kernel
theorem dX10_digest_313 : decode cX10_digest 313 = .ok (.lload_n 1, 1) := by decide +kernel
theorem dX10_digest_314 : decode cX10_digest 314 = .ok (.lmul, 1) := by decide +kernel
theorem dX10_digest_315 : decode cX10_digest 315 = .ok (.aload_n 0, 1) := by decide +kernel
theorem dX10_digest_316 : decode cX10_digest 316 = .ok (.invokevirtual 144, 3) := by decide +kernel
theorem dX10_digest_319 : decode cX10_digest 319 = .ok (.i2l, 1) := by decide +kernel
theorem dX10_digest_320 : decode cX10_digest 320 = .ok (.ladd, 1) := by decide +kernel
theorem dX10_digest_321 : decode cX10_digest 321 = .ok (.lmul, 1) := by decide +kernel
theorem dX10_digest_322 : decode cX10_digest 322 = .ok (.aload_n 0, 1) := by decide +kernel
theorem dX10_digest_323 : decode cX10_digest 323 = .ok (.getfield 56, 3) := by decide +kernel
theorem dX10_digest_326 : decode cX10_digest 326 = .ok (.i2l, 1) := by decide +kernel
theorem dX10_digest_327 : decode cX10_digest 327 = .ok (.ladd, 1) := by decide +kernel
theorem dX10_digest_328 : decode cX10_digest 328 = .ok (.lreturn, 1) := by decide +kernel
