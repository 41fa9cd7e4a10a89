theorem dX10_init_0 : decode cX10_init 0 = .ok (.aload_n 0, 1) := by decide +kernel
theorem dX10_init_1 : decode cX10_init 1 = .ok (.invokespecial 1, 3) := by decide +kernel
theorem dX10_init_4 : decode cX10_init 4 = .ok (.aload_n 0, 1) := by decide +kernel
theorem dX10_init_5 : decode cX10_init 5 = .ok (.sipush 300, 3) := by decide +kernel
theorem dX10_init_8 : decode cX10_init 8 = .ok (.newarray .int, 2) := by decide +kernel
theorem dX10_init_10 : decode cX10_init 10 = .ok (.putfield 7, 3) := by decide +kernel
theorem dX10_init_13 : decode cX10_init 13 = .ok (.aload_n 0, 1) := by decide +kernel
theorem dX10_init_14 : decode cX10_init 14 = .ok (.bipush 8, 2) := by decide +kernel
theorem dX10_init_16 : decode cX10_init 16 = .ok (.newarray .int, 2) := by decide +kernel
theorem dX10_init_18 : decode cX10_init 18 = .ok (.putfield 13, 3) := by decide +kernel
theorem dX10_init_21 : decode cX10_init 21 = .ok (.aload_n 0, 1) := by decide +kernel
theorem dX10_init_22 : decode cX10_init 22 = .ok (.bipush 8, 2) := by decide +kernel
theorem dX10_init_24 : decode cX10_init 24 = .ok (.newarray .int, 2) := by decide +kernel
theorem dX10_init_26 : decode cX10_init 26 = .ok (.putfield 16, 3) := by decide +kernel
theorem dX10_init_29 : decode cX10_init 29 = .ok (.aload_n 0, 1) := by decide +kernel
theorem dX10_init_30 : decode cX10_init 30 = .ok (.bipush 8, 2) := by decide +kernel
theorem dX10_init_32 : decode cX10_init 32 = .ok (.newarray .int, 2) := by decide +kernel
theorem dX10_init_34 : decode cX10_init 34 = .ok (.putfield 19, 3) := by decide +kernel
theorem dX10_init_37 : decode cX10_init 37 = .ok (.aload_n 0, 1) := by decide +kernel
theorem dX10_init_38 : decode cX10_init 38 = .ok (.iconst 4, 1) := by decide +kernel
theorem dX10_init_39 : decode cX10_init 39 = .ok (.newarray .int, 2) := by decide +kernel
theorem dX10_init_41 : decode cX10_init 41 = .ok (.putfield 22, 3) := by decide +kernel
theorem dX10_init_44 : decode cX10_init 44 = .ok (.aload_n 0, 1) := by decide +kernel
theorem dX10_init_45 : decode cX10_init 45 = .ok (.iconst 4, 1) := by decide +kernel
theorem dX10_init_46 : decode cX10_init 46 = .ok (.newarray .int, 2) := by decide +kernel
theorem dX10_init_48 : decode cX10_init 48 = .ok (.putfield 25, 3) := by decide +kernel
theorem dX10_init_51 : decode cX10_init 51 = .ok (.aload_n 0, 1) := by decide +kernel
theorem dX10_init_52 : decode cX10_init 52 = .ok (.iconst 4, 1) := by decide +kernel
theorem dX10_init_53 : decode cX10_init 53 = .ok (.newarray .int, 2) := by decide +kernel
theorem dX10_init_55 : decode cX10_init 55 = .ok (.putfield 28, 3) := by decide +kernel
theorem dX10_init_58 : decode cX10_init 58 = .ok (.aload_n 0, 1) := by decide +kernel
theorem dX10_init_59 : decode cX10_init 59 = .ok (.bipush 8, 2) := by decide +kernel
theorem dX10_init_61 : decode cX10_init 61 = .ok (.newarray .int, 2) := by decide +kernel
theorem dX10_init_63 : decode cX10_init 63 = .ok (.putfield 31, 3) := by decide +kernel
theorem dX10_init_66 : decode cX10_init 66 = .ok (.aload_n 0, 1) := by decide +kernel
theorem dX10_init_67 : decode cX10_init 67 = .ok (.bipush 8, 2) := by decide +kernel
theorem dX10_init_69 : decode cX10_init 69 = .ok (.newarray .int, 2) := by decide +kernel
theorem dX10_init_71 : decode cX10_init 71 = .ok (.putfield 34, 3) := by decide +kernel
theorem dX10_init_74 : decode cX10_init 74 = .ok (.aload_n 0, 1) := by decide +kernel
theorem dX10_init_75 : decode cX10_init 75 = .ok (.bipush 10, 2) := by decide +kernel
theorem dX10_init_77 : decode cX10_init 77 = .ok (.newarray .int, 2) := by decide +kernel
theorem dX10_init_79 : decode cX10_init 79 = .ok (.putfield 37, 3) := by decide +kernel
theorem dX10_init_82 : decode cX10_init 82 = .ok (.aload_n 0, 1) := by decide +kernel
theorem dX10_init_83 : decode cX10_init 83 = .ok (.bipush 10, 2) := by decide +kernel
theorem dX10_init_85 : decode cX10_init 85 = .ok (.newarray .int, 2) := by decide +kernel
theorem dX10_init_87 : decode cX10_init 87 = .ok (.putfield 40, 3) := by decide +kernel
theorem dX10_init_90 : decode cX10_init 90 = .ok (.aload_n 0, 1) := by decide +kernel
theorem dX10_init_91 : decode cX10_init 91 = .ok (.bipush 80, 2) := by decide +kernel
theorem dX10_init_93 : decode cX10_init 93 = .ok (.newarray .int, 2) := by decide +kernel
theorem dX10_init_95 : decode cX10_init 95 = .ok (.putfield 43, 3) := by decide +kernel
theorem dX10_init_98 : decode cX10_init 98 = .ok (.aload_n 0, 1) := by decide +kernel
theorem dX10_init_99 : decode cX10_init 99 = .ok (.bipush 52, 2) := by decide +kernel
theorem dX10_init_101 : decode cX10_init 101 = .ok (.newarray .int, 2) := by decide +kernel
theorem dX10_init_103 : decode cX10_init 103 = .ok (.putfield 46, 3) := by decide +kernel
theorem dX10_init_106 : decode cX10_init 106 = .ok (.aload_n 0, 1) := by decide +kernel
theorem dX10_init_107 : decode cX10_init 107 = .ok (.bipush 6, 2) := by decide +kernel
theorem dX10_init_109 : decode cX10_init 109 = .ok (.newarray .int, 2) := by decide +kernel
theorem dX10_init_111 : decode cX10_init 111 = .ok (.putfield 49, 3) := by decide +kernel
theorem dX10_init_114 : decode cX10_init 114 = .ok (.aload_n 0, 1) := by decide +kernel
theorem dX10_init_115 : decode cX10_init 115 = .ok (.sipush 1024, 3) := by decide +kernel
theorem dX10_init_118 : decode cX10_init 118 = .ok (.newarray .int, 2) := by decide +kernel
theorem dX10_init_120 : decode cX10_init 120 = .ok (.putfield 52, 3) := by decide +kernel
theorem dX10_init_123 : decode cX10_init 123 = .ok (.aload_n 0, 1) := by decide +kernel
theorem dX10_init_124 : decode cX10_init 124 = .ok (.bipush 8, 2) := by decide +kernel
theorem dX10_init_126 : decode cX10_init 126 = .ok (.newarray .int, 2) := by decide +kernel
theorem dX10_init_128 : decode cX10_init 128 = .ok (.putfield 55, 3) := by decide +kernel
theorem dX10_init_131 : decode cX10_init 131 = .ok (.aload_n 0, 1) := by decide +kernel
theorem dX10_init_132 : decode cX10_init 132 = .ok (.bipush 8, 2) := by decide +kernel
theorem dX10_init_134 : decode cX10_init 134 = .ok (.newarray .int, 2) := by decide +kernel
theorem dX10_init_136 : decode cX10_init 136 = .ok (.putfield 58, 3) := by decide +kernel
theorem dX10_init_139 : decode cX10_init 139 = .ok (.aload_n 0, 1) := by decide +kernel
theorem dX10_init_140 : decode cX10_init 140 = .ok (.iconst 4, 1) := by decide +kernel
theorem dX10_init_141 : decode cX10_init 141 = .ok (.newarray .int, 2) := by decide +kernel
theorem dX10_init_143 : decode cX10_init 143 = .ok (.putfield 61, 3) := by decide +kernel
theorem dX10_init_146 : decode cX10_init 146 = .ok (.aload_n 0, 1) := by decide +kernel
theorem dX10_init_147 : decode cX10_init 147 = .ok (.bipush 8, 2) := by decide +kernel
theorem dX10_init_149 : decode cX10_init 149 = .ok (.newarray .int, 2) := by decide +kernel
theorem dX10_init_151 : decode cX10_init 151 = .ok (.putfield 64, 3) := by decide +kernel
theorem dX10_init_154 : decode cX10_init 154 = .ok (.return_, 1) := by decide +kernel
theorem dX10_in_0 : decode cX10_in 0 = .ok (.lload_n 0, 1) := by decide +kernel
theorem dX10_in_1 : decode cX10_in 1 = .ok (.lload_n 2, 1) := by decide +kernel
theorem dX10_in_2 : decode cX10_in 2 = .ok (.lcmp, 1) := by decide +kernel
theorem dX10_in_3 : decode cX10_in 3 = .ok (.ifCond .lt 14, 3) := by decide +kernel
theorem dX10_in_6 : decode cX10_in 6 = .ok (.lload_n 0, 1) := by decide +kernel
theorem dX10_in_7 : decode cX10_in 7 = .ok (.lload 4, 2) := by decide +kernel
theorem dX10_in_9 : decode cX10_in 9 = .ok (.lcmp, 1) := by decide +kernel
theorem dX10_in_10 : decode cX10_in 10 = .ok (.ifCond .gt 7, 3) := by decide +kernel
theorem dX10_in_13 : decode cX10_in 13 = .ok (.iconst 1, 1) := by decide +kernel
theorem dX10_in_14 : decode cX10_in 14 = .ok (.goto 4, 3) := by decide +kernel
theorem dX10_in_17 : decode cX10_in 17 = .ok (.iconst 0, 1) := by decide +kernel
theorem dX10_in_18 : decode cX10_in 18 = .ok (.ireturn, 1) := by decide +kernel
theorem dX10_isPiece_0 : decode cX10_isPiece 0 = .ok (.iload_n 1, 1) := by decide +kernel
theorem dX10_isPiece_1 : decode cX10_isPiece 1 = .ok (.i2l, 1) := by decide +kernel
theorem dX10_isPiece_2 : decode cX10_isPiece 2 = .ok (.lconst 0, 1) := by decide +kernel
theorem dX10_isPiece_3 : decode cX10_isPiece 3 = .ok (.aload_n 0, 1) := by decide +kernel
theorem dX10_isPiece_4 : decode cX10_isPiece 4 = .ok (.getfield 67, 3) := by decide +kernel
theorem dX10_isPiece_7 : decode cX10_isPiece 7 = .ok (.iconst 1, 1) := by decide +kernel
theorem dX10_isPiece_8 : decode cX10_isPiece 8 = .ok (.isub, 1) := by decide +kernel
theorem dX10_isPiece_9 : decode cX10_isPiece 9 = .ok (.i2l, 1) := by decide +kernel
theorem dX10_isPiece_10 : decode cX10_isPiece 10 = .ok (.invokestatic 71, 3) := by decide +kernel
theorem dX10_isPiece_13 : decode cX10_isPiece 13 = .ok (.ireturn, 1) := by decide +kernel
theorem dX10_isFamily_0 : decode cX10_isFamily 0 = .ok (.iload_n 1, 1) := by decide +kernel
theorem dX10_isFamily_1 : decode cX10_isFamily 1 = .ok (.i2l, 1) := by decide +kernel
theorem dX10_isFamily_2 : decode cX10_isFamily 2 = .ok (.lconst 0, 1) := by decide +kernel
theorem dX10_isFamily_3 : decode cX10_isFamily 3 = .ok (.aload_n 0, 1) := by decide +kernel
theorem dX10_isFamily_4 : decode cX10_isFamily 4 = .ok (.getfield 75, 3) := by decide +kernel
theorem dX10_isFamily_7 : decode cX10_isFamily 7 = .ok (.iconst 1, 1) := by decide +kernel
theorem dX10_isFamily_8 : decode cX10_isFamily 8 = .ok (.isub, 1) := by decide +kernel
theorem dX10_isFamily_9 : decode cX10_isFamily 9 = .ok (.i2l, 1) := by decide +kernel
theorem dX10_isFamily_10 : decode cX10_isFamily 10 = .ok (.invokestatic 71, 3) := by decide +kernel
theorem dX10_isFamily_13 : decode cX10_isFamily 13 = .ok (.ireturn, 1) := by decide +kernel
theorem dX10_type_0 : decode cX10_type 0 = .ok (.iload_n 3, 1) := by decide +kernel
theorem dX10_type_1 : decode cX10_type 1 = .ok (.i2l, 1) := by decide +kernel
theorem dX10_type_2 : decode cX10_type 2 = .ok (.lconst 1, 1) := by decide +kernel
theorem dX10_type_3 : decode cX10_type 3 = .ok (.ldc2_w 78, 3) := by decide +kernel
theorem dX10_type_6 : decode cX10_type 6 = .ok (.invokestatic 71, 3) := by decide +kernel
theorem dX10_type_9 : decode cX10_type 9 = .ok (.ifCond .ne 5, 3) := by decide +kernel
theorem dX10_type_12 : decode cX10_type 12 = .ok (.iconst (-1), 1) := by decide +kernel
theorem dX10_type_13 : decode cX10_type 13 = .ok (.ireturn, 1) := by decide +kernel
theorem dX10_type_14 : decode cX10_type 14 = .ok (.aload_n 0, 1) := by decide +kernel
theorem dX10_type_15 : decode cX10_type 15 = .ok (.getfield 80, 3) := by decide +kernel
theorem dX10_type_18 : decode cX10_type 18 = .ok (.iload_n 3, 1) := by decide +kernel
theorem dX10_type_19 : decode cX10_type 19 = .ok (.iadd, 1) := by decide +kernel
theorem dX10_type_20 : decode cX10_type 20 = .ok (.sipush 300, 3) := by decide +kernel
theorem dX10_type_23 : decode cX10_type 23 = .ok (.if_icmp .le 6, 3) := by decide +kernel
theorem dX10_type_26 : decode cX10_type 26 = .ok (.bipush (-3), 2) := by decide +kernel
theorem dX10_type_28 : decode cX10_type 28 = .ok (.ireturn, 1) := by decide +kernel
theorem dX10_type_29 : decode cX10_type 29 = .ok (.iload_n 3, 1) := by decide +kernel
theorem dX10_type_30 : decode cX10_type 30 = .ok (.iconst 1, 1) := by decide +kernel
theorem dX10_type_31 : decode cX10_type 31 = .ok (.isub, 1) := by decide +kernel
theorem dX10_type_32 : decode cX10_type 32 = .ok (.istore 4, 2) := by decide +kernel
theorem dX10_type_34 : decode cX10_type 34 = .ok (.iload 4, 2) := by decide +kernel
theorem dX10_type_36 : decode cX10_type 36 = .ok (.ifCond .lt 40, 3) := by decide +kernel
theorem dX10_type_39 : decode cX10_type 39 = .ok (.aload_n 0, 1) := by decide +kernel
theorem dX10_type_40 : decode cX10_type 40 = .ok (.getfield 7, 3) := by decide +kernel
theorem dX10_type_43 : decode cX10_type 43 = .ok (.aload_n 0, 1) := by decide +kernel
theorem dX10_type_44 : decode cX10_type 44 = .ok (.getfield 80, 3) := by decide +kernel
theorem dX10_type_47 : decode cX10_type 47 = .ok (.lload_n 1, 1) := by decide +kernel
theorem dX10_type_48 : decode cX10_type 48 = .ok (.bipush 8, 2) := by decide +kernel
theorem dX10_type_50 : decode cX10_type 50 = .ok (.iload 4, 2) := by decide +kernel
theorem dX10_type_52 : decode cX10_type 52 = .ok (.imul, 1) := by decide +kernel
theorem dX10_type_53 : decode cX10_type 53 = .ok (.lshr, 1) := by decide +kernel
theorem dX10_type_54 : decode cX10_type 54 = .ok (.ldc2_w 83, 3) := by decide +kernel
theorem dX10_type_57 : decode cX10_type 57 = .ok (.land, 1) := by decide +kernel
theorem dX10_type_58 : decode cX10_type 58 = .ok (.l2i, 1) := by decide +kernel
theorem dX10_type_59 : decode cX10_type 59 = .ok (.iastore, 1) := by decide +kernel
theorem dX10_type_60 : decode cX10_type 60 = .ok (.aload_n 0, 1) := by decide +kernel
theorem dX10_type_61 : decode cX10_type 61 = .ok (.dup, 1) := by decide +kernel
theorem dX10_type_62 : decode cX10_type 62 = .ok (.getfield 80, 3) := by decide +kernel
theorem dX10_type_65 : decode cX10_type 65 = .ok (.iconst 1, 1) := by decide +kernel
theorem dX10_type_66 : decode cX10_type 66 = .ok (.iadd, 1) := by decide +kernel
theorem dX10_type_67 : decode cX10_type 67 = .ok (.putfield 80, 3) := by decide +kernel
theorem dX10_type_70 : decode cX10_type 70 = .ok (.iinc 4 (-1), 3) := by decide +kernel
theorem dX10_type_73 : decode cX10_type 73 = .ok (.goto (-39), 3) := by decide +kernel
theorem dX10_type_76 : decode cX10_type 76 = .ok (.aload_n 0, 1) := by decide +kernel
theorem dX10_type_77 : decode cX10_type 77 = .ok (.getfield 80, 3) := by decide +kernel
theorem dX10_type_80 : decode cX10_type 80 = .ok (.ireturn, 1) := by decide +kernel
theorem dX10_clear_0 : decode cX10_clear 0 = .ok (.aload_n 0, 1) := by decide +kernel
theorem dX10_clear_1 : decode cX10_clear 1 = .ok (.getfield 80, 3) := by decide +kernel
theorem dX10_clear_4 : decode cX10_clear 4 = .ok (.istore_n 1, 1) := by decide +kernel
theorem dX10_clear_5 : decode cX10_clear 5 = .ok (.aload_n 0, 1) := by decide +kernel
theorem dX10_clear_6 : decode cX10_clear 6 = .ok (.iconst 0, 1) := by decide +kernel
theorem dX10_clear_7 : decode cX10_clear 7 = .ok (.putfield 80, 3) := by decide +kernel
theorem dX10_clear_10 : decode cX10_clear 10 = .ok (.iload_n 1, 1) := by decide +kernel
theorem dX10_clear_11 : decode cX10_clear 11 = .ok (.ireturn, 1) := by decide +kernel
theorem dX10_isLetter_0 : decode cX10_isLetter 0 = .ok (.iload_n 0, 1) := by decide +kernel
theorem dX10_isLetter_1 : decode cX10_isLetter 1 = .ok (.bipush 96, 2) := by decide +kernel
theorem dX10_isLetter_3 : decode cX10_isLetter 3 = .ok (.if_icmp .le 13, 3) := by decide +kernel
theorem dX10_isLetter_6 : decode cX10_isLetter 6 = .ok (.iload_n 0, 1) := by decide +kernel
theorem dX10_isLetter_7 : decode cX10_isLetter 7 = .ok (.bipush 123, 2) := by decide +kernel
theorem dX10_isLetter_9 : decode cX10_isLetter 9 = .ok (.if_icmp .ge 7, 3) := by decide +kernel
theorem dX10_isLetter_12 : decode cX10_isLetter 12 = .ok (.iconst 1, 1) := by decide +kernel
theorem dX10_isLetter_13 : decode cX10_isLetter 13 = .ok (.goto 4, 3) := by decide +kernel
theorem dX10_isLetter_16 : decode cX10_isLetter 16 = .ok (.iconst 0, 1) := by decide +kernel
theorem dX10_isLetter_17 : decode cX10_isLetter 17 = .ok (.ireturn, 1) := by decide +kernel
theorem dX10_isFigure_0 : decode cX10_isFigure 0 = .ok (.iload_n 0, 1) := by decide +kernel
theorem dX10_isFigure_1 : decode cX10_isFigure 1 = .ok (.bipush 47, 2) := by decide +kernel
theorem dX10_isFigure_3 : decode cX10_isFigure 3 = .ok (.if_icmp .le 13, 3) := by decide +kernel
theorem dX10_isFigure_6 : decode cX10_isFigure 6 = .ok (.iload_n 0, 1) := by decide +kernel
theorem dX10_isFigure_7 : decode cX10_isFigure 7 = .ok (.bipush 58, 2) := by decide +kernel
theorem dX10_isFigure_9 : decode cX10_isFigure 9 = .ok (.if_icmp .ge 7, 3) := by decide +kernel
theorem dX10_isFigure_12 : decode cX10_isFigure 12 = .ok (.iconst 1, 1) := by decide +kernel
theorem dX10_isFigure_13 : decode cX10_isFigure 13 = .ok (.goto 4, 3) := by decide +kernel
theorem dX10_isFigure_16 : decode cX10_isFigure 16 = .ok (.iconst 0, 1) := by decide +kernel
theorem dX10_isFigure_17 : decode cX10_isFigure 17 = .ok (.ireturn, 1) := by decide +kernel
theorem dX10_next_0 : decode cX10_next 0 = .ok (.aload_n 0, 1) := by decide +kernel
theorem dX10_next_1 : decode cX10_next 1 = .ok (.getfield 85, 3) := by decide +kernel
theorem dX10_next_4 : decode cX10_next 4 = .ok (.aload_n 0, 1) := by decide +kernel
theorem dX10_next_5 : decode cX10_next 5 = .ok (.getfield 80, 3) := by decide +kernel
theorem dX10_next_8 : decode cX10_next 8 = .ok (.if_icmp .ge 30, 3) := by decide +kernel
theorem dX10_next_11 : decode cX10_next 11 = .ok (.aload_n 0, 1) := by decide +kernel
theorem dX10_next_12 : decode cX10_next 12 = .ok (.getfield 7, 3) := by decide +kernel
theorem dX10_next_15 : decode cX10_next 15 = .ok (.aload_n 0, 1) := by decide +kernel
theorem dX10_next_16 : decode cX10_next 16 = .ok (.getfield 85, 3) := by decide +kernel
theorem dX10_next_19 : decode cX10_next 19 = .ok (.iaload, 1) := by decide +kernel
theorem dX10_next_20 : decode cX10_next 20 = .ok (.bipush 32, 2) := by decide +kernel
theorem dX10_next_22 : decode cX10_next 22 = .ok (.if_icmp .ne 16, 3) := by decide +kernel
theorem dX10_next_25 : decode cX10_next 25 = .ok (.aload_n 0, 1) := by decide +kernel
theorem dX10_next_26 : decode cX10_next 26 = .ok (.dup, 1) := by decide +kernel
theorem dX10_next_27 : decode cX10_next 27 = .ok (.getfield 85, 3) := by decide +kernel
theorem dX10_next_30 : decode cX10_next 30 = .ok (.iconst 1, 1) := by decide +kernel
theorem dX10_next_31 : decode cX10_next 31 = .ok (.iadd, 1) := by decide +kernel
theorem dX10_next_32 : decode cX10_next 32 = .ok (.putfield 85, 3) := by decide +kernel
theorem dX10_next_35 : decode cX10_next 35 = .ok (.goto (-35), 3) := by decide +kernel
theorem dX10_next_38 : decode cX10_next 38 = .ok (.aload_n 0, 1) := by decide +kernel
theorem dX10_next_39 : decode cX10_next 39 = .ok (.aload_n 0, 1) := by decide +kernel
theorem dX10_next_40 : decode cX10_next 40 = .ok (.getfield 85, 3) := by decide +kernel
theorem dX10_next_43 : decode cX10_next 43 = .ok (.putfield 88, 3) := by decide +kernel
theorem dX10_next_46 : decode cX10_next 46 = .ok (.aload_n 0, 1) := by decide +kernel
theorem dX10_next_47 : decode cX10_next 47 = .ok (.lconst 0, 1) := by decide +kernel
theorem dX10_next_48 : decode cX10_next 48 = .ok (.putfield 91, 3) := by decide +kernel
theorem dX10_next_51 : decode cX10_next 51 = .ok (.aload_n 0, 1) := by decide +kernel
theorem dX10_next_52 : decode cX10_next 52 = .ok (.getfield 85, 3) := by decide +kernel
theorem dX10_next_55 : decode cX10_next 55 = .ok (.aload_n 0, 1) := by decide +kernel
theorem dX10_next_56 : decode cX10_next 56 = .ok (.getfield 80, 3) := by decide +kernel
theorem dX10_next_59 : decode cX10_next 59 = .ok (.if_icmp .ge 15, 3) := by decide +kernel
theorem dX10_next_62 : decode cX10_next 62 = .ok (.aload_n 0, 1) := by decide +kernel
theorem dX10_next_63 : decode cX10_next 63 = .ok (.getfield 7, 3) := by decide +kernel
theorem dX10_next_66 : decode cX10_next 66 = .ok (.aload_n 0, 1) := by decide +kernel
theorem dX10_next_67 : decode cX10_next 67 = .ok (.getfield 85, 3) := by decide +kernel
theorem dX10_next_70 : decode cX10_next 70 = .ok (.iaload, 1) := by decide +kernel
theorem dX10_next_71 : decode cX10_next 71 = .ok (.goto 4, 3) := by decide +kernel
theorem dX10_next_74 : decode cX10_next 74 = .ok (.iconst (-1), 1) := by decide +kernel
theorem dX10_next_75 : decode cX10_next 75 = .ok (.istore_n 1, 1) := by decide +kernel
theorem dX10_next_76 : decode cX10_next 76 = .ok (.aload_n 0, 1) := by decide +kernel
theorem dX10_next_77 : decode cX10_next 77 = .ok (.iload_n 1, 1) := by decide +kernel
theorem dX10_next_78 : decode cX10_next 78 = .ok (.ifCond .ge 7, 3) := by decide +kernel
theorem dX10_next_81 : decode cX10_next 81 = .ok (.iconst 0, 1) := by decide +kernel
theorem dX10_next_82 : decode cX10_next 82 = .ok (.goto 36, 3) := by decide +kernel
theorem dX10_next_85 : decode cX10_next 85 = .ok (.iload_n 1, 1) := by decide +kernel
theorem dX10_next_86 : decode cX10_next 86 = .ok (.invokestatic 95, 3) := by decide +kernel
theorem dX10_next_89 : decode cX10_next 89 = .ok (.ifCond .eq 7, 3) := by decide +kernel
theorem dX10_next_92 : decode cX10_next 92 = .ok (.iconst 1, 1) := by decide +kernel
theorem dX10_next_93 : decode cX10_next 93 = .ok (.goto 25, 3) := by decide +kernel
theorem dX10_next_96 : decode cX10_next 96 = .ok (.iload_n 1, 1) := by decide +kernel
theorem dX10_next_97 : decode cX10_next 97 = .ok (.invokestatic 99, 3) := by decide +kernel
theorem dX10_next_100 : decode cX10_next 100 = .ok (.ifCond .eq 7, 3) := by decide +kernel
theorem dX10_next_103 : decode cX10_next 103 = .ok (.iconst 2, 1) := by decide +kernel
theorem dX10_next_104 : decode cX10_next 104 = .ok (.goto 14, 3) := by decide +kernel
theorem dX10_next_107 : decode cX10_next 107 = .ok (.iload_n 1, 1) := by decide +kernel
theorem dX10_next_108 : decode cX10_next 108 = .ok (.bipush 59, 2) := by decide +kernel
theorem dX10_next_110 : decode cX10_next 110 = .ok (.if_icmp .ne 7, 3) := by decide +kernel
theorem dX10_next_113 : decode cX10_next 113 = .ok (.iconst 3, 1) := by decide +kernel
theorem dX10_next_114 : decode cX10_next 114 = .ok (.goto 4, 3) := by decide +kernel
theorem dX10_next_117 : decode cX10_next 117 = .ok (.iconst 4, 1) := by decide +kernel
theorem dX10_next_118 : decode cX10_next 118 = .ok (.putfield 102, 3) := by decide +kernel
theorem dX10_next_121 : decode cX10_next 121 = .ok (.aload_n 0, 1) := by decide +kernel
theorem dX10_next_122 : decode cX10_next 122 = .ok (.dup, 1) := by decide +kernel
theorem dX10_next_123 : decode cX10_next 123 = .ok (.getfield 85, 3) := by decide +kernel
theorem dX10_next_126 : decode cX10_next 126 = .ok (.aload_n 0, 1) := by decide +kernel
theorem dX10_next_127 : decode cX10_next 127 = .ok (.getfield 102, 3) := by decide +kernel
theorem dX10_next_130 : decode cX10_next 130 = .ok (.iconst 3, 1) := by decide +kernel
theorem dX10_next_131 : decode cX10_next 131 = .ok (.if_icmp .ne 7, 3) := by decide +kernel
theorem dX10_next_134 : decode cX10_next 134 = .ok (.iconst 1, 1) := by decide +kernel
theorem dX10_next_135 : decode cX10_next 135 = .ok (.goto 4, 3) := by decide +kernel
theorem dX10_next_138 : decode cX10_next 138 = .ok (.iconst 0, 1) := by decide +kernel
theorem dX10_next_139 : decode cX10_next 139 = .ok (.iadd, 1) := by decide +kernel
theorem dX10_next_140 : decode cX10_next 140 = .ok (.putfield 85, 3) := by decide +kernel
theorem dX10_next_143 : decode cX10_next 143 = .ok (.aload_n 0, 1) := by decide +kernel
theorem dX10_next_144 : decode cX10_next 144 = .ok (.getfield 102, 3) := by decide +kernel
theorem dX10_next_147 : decode cX10_next 147 = .ok (.iconst 1, 1) := by decide +kernel
theorem dX10_next_148 : decode cX10_next 148 = .ok (.if_icmp .ne 89, 3) := by decide +kernel
theorem dX10_next_151 : decode cX10_next 151 = .ok (.aload_n 0, 1) := by decide +kernel
theorem dX10_next_152 : decode cX10_next 152 = .ok (.getfield 85, 3) := by decide +kernel
theorem dX10_next_155 : decode cX10_next 155 = .ok (.aload_n 0, 1) := by decide +kernel
theorem dX10_next_156 : decode cX10_next 156 = .ok (.getfield 80, 3) := by decide +kernel
theorem dX10_next_159 : decode cX10_next 159 = .ok (.if_icmp .ge 78, 3) := by decide +kernel
theorem dX10_next_162 : decode cX10_next 162 = .ok (.aload_n 0, 1) := by decide +kernel
theorem dX10_next_163 : decode cX10_next 163 = .ok (.getfield 7, 3) := by decide +kernel
theorem dX10_next_166 : decode cX10_next 166 = .ok (.aload_n 0, 1) := by decide +kernel
theorem dX10_next_167 : decode cX10_next 167 = .ok (.getfield 85, 3) := by decide +kernel
theorem dX10_next_170 : decode cX10_next 170 = .ok (.iaload, 1) := by decide +kernel
theorem dX10_next_171 : decode cX10_next 171 = .ok (.invokestatic 95, 3) := by decide +kernel
theorem dX10_next_174 : decode cX10_next 174 = .ok (.ifCond .eq 63, 3) := by decide +kernel
theorem dX10_next_177 : decode cX10_next 177 = .ok (.aload_n 0, 1) := by decide +kernel
theorem dX10_next_178 : decode cX10_next 178 = .ok (.aload_n 0, 1) := by decide +kernel
theorem dX10_next_179 : decode cX10_next 179 = .ok (.getfield 85, 3) := by decide +kernel
theorem dX10_next_182 : decode cX10_next 182 = .ok (.aload_n 0, 1) := by decide +kernel
theorem dX10_next_183 : decode cX10_next 183 = .ok (.getfield 88, 3) := by decide +kernel
theorem dX10_next_186 : decode cX10_next 186 = .ok (.isub, 1) := by decide +kernel
theorem dX10_next_187 : decode cX10_next 187 = .ok (.bipush 7, 2) := by decide +kernel
theorem dX10_next_189 : decode cX10_next 189 = .ok (.if_icmp .ge 29, 3) := by decide +kernel
theorem dX10_next_192 : decode cX10_next 192 = .ok (.ldc2_w 105, 3) := by decide +kernel
theorem dX10_next_195 : decode cX10_next 195 = .ok (.aload_n 0, 1) := by decide +kernel
theorem dX10_next_196 : decode cX10_next 196 = .ok (.getfield 91, 3) := by decide +kernel
theorem dX10_next_199 : decode cX10_next 199 = .ok (.lmul, 1) := by decide +kernel
theorem dX10_next_200 : decode cX10_next 200 = .ok (.aload_n 0, 1) := by decide +kernel
theorem dX10_next_201 : decode cX10_next 201 = .ok (.getfield 7, 3) := by decide +kernel
theorem dX10_next_204 : decode cX10_next 204 = .ok (.aload_n 0, 1) := by decide +kernel
theorem dX10_next_205 : decode cX10_next 205 = .ok (.getfield 85, 3) := by decide +kernel
theorem dX10_next_208 : decode cX10_next 208 = .ok (.iaload, 1) := by decide +kernel
theorem dX10_next_209 : decode cX10_next 209 = .ok (.i2l, 1) := by decide +kernel
theorem dX10_next_210 : decode cX10_next 210 = .ok (.ladd, 1) := by decide +kernel
theorem dX10_next_211 : decode cX10_next 211 = .ok (.ldc2_w 107, 3) := by decide +kernel
theorem dX10_next_214 : decode cX10_next 214 = .ok (.lsub, 1) := by decide +kernel
theorem dX10_next_215 : decode cX10_next 215 = .ok (.goto 6, 3) := by decide +kernel
theorem dX10_next_218 : decode cX10_next 218 = .ok (.ldc2_w 109, 3) := by decide +kernel
theorem dX10_next_221 : decode cX10_next 221 = .ok (.putfield 91, 3) := by decide +kernel
theorem dX10_next_224 : decode cX10_next 224 = .ok (.aload_n 0, 1) := by decide +kernel
theorem dX10_next_225 : decode cX10_next 225 = .ok (.dup, 1) := by decide +kernel
theorem dX10_next_226 : decode cX10_next 226 = .ok (.getfield 85, 3) := by decide +kernel
theorem dX10_next_229 : decode cX10_next 229 = .ok (.iconst 1, 1) := by decide +kernel
theorem dX10_next_230 : decode cX10_next 230 = .ok (.iadd, 1) := by decide +kernel
theorem dX10_next_231 : decode cX10_next 231 = .ok (.putfield 85, 3) := by decide +kernel
theorem dX10_next_234 : decode cX10_next 234 = .ok (.goto (-91), 3) := by decide +kernel
theorem dX10_next_237 : decode cX10_next 237 = .ok (.aload_n 0, 1) := by decide +kernel
theorem dX10_next_238 : decode cX10_next 238 = .ok (.getfield 102, 3) := by decide +kernel
theorem dX10_next_241 : decode cX10_next 241 = .ok (.iconst 2, 1) := by decide +kernel
theorem dX10_next_242 : decode cX10_next 242 = .ok (.if_icmp .ne 88, 3) := by decide +kernel
theorem dX10_next_245 : decode cX10_next 245 = .ok (.aload_n 0, 1) := by decide +kernel
theorem dX10_next_246 : decode cX10_next 246 = .ok (.getfield 85, 3) := by decide +kernel
theorem dX10_next_249 : decode cX10_next 249 = .ok (.aload_n 0, 1) := by decide +kernel
theorem dX10_next_250 : decode cX10_next 250 = .ok (.getfield 80, 3) := by decide +kernel
theorem dX10_next_253 : decode cX10_next 253 = .ok (.if_icmp .ge 77, 3) := by decide +kernel
theorem dX10_next_256 : decode cX10_next 256 = .ok (.aload_n 0, 1) := by decide +kernel
theorem dX10_next_257 : decode cX10_next 257 = .ok (.getfield 7, 3) := by decide +kernel
theorem dX10_next_260 : decode cX10_next 260 = .ok (.aload_n 0, 1) := by decide +kernel
theorem dX10_next_261 : decode cX10_next 261 = .ok (.getfield 85, 3) := by decide +kernel
theorem dX10_next_264 : decode cX10_next 264 = .ok (.iaload, 1) := by decide +kernel
theorem dX10_next_265 : decode cX10_next 265 = .ok (.invokestatic 99, 3) := by decide +kernel
theorem dX10_next_268 : decode cX10_next 268 = .ok (.ifCond .eq 62, 3) := by decide +kernel
theorem dX10_next_271 : decode cX10_next 271 = .ok (.aload_n 0, 1) := by decide +kernel
theorem dX10_next_272 : decode cX10_next 272 = .ok (.aload_n 0, 1) := by decide +kernel
theorem dX10_next_273 : decode cX10_next 273 = .ok (.getfield 85, 3) := by decide +kernel
theorem dX10_next_276 : decode cX10_next 276 = .ok (.aload_n 0, 1) := by decide +kernel
theorem dX10_next_277 : decode cX10_next 277 = .ok (.getfield 88, 3) := by decide +kernel
theorem dX10_next_280 : decode cX10_next 280 = .ok (.isub, 1) := by decide +kernel
theorem dX10_next_281 : decode cX10_next 281 = .ok (.iconst 2, 1) := by decide +kernel
theorem dX10_next_282 : decode cX10_next 282 = .ok (.if_icmp .ge 29, 3) := by decide +kernel
theorem dX10_next_285 : decode cX10_next 285 = .ok (.ldc2_w 111, 3) := by decide +kernel
theorem dX10_next_288 : decode cX10_next 288 = .ok (.aload_n 0, 1) := by decide +kernel
theorem dX10_next_289 : decode cX10_next 289 = .ok (.getfield 91, 3) := by decide +kernel
theorem dX10_next_292 : decode cX10_next 292 = .ok (.lmul, 1) := by decide +kernel
theorem dX10_next_293 : decode cX10_next 293 = .ok (.aload_n 0, 1) := by decide +kernel
theorem dX10_next_294 : decode cX10_next 294 = .ok (.getfield 7, 3) := by decide +kernel
theorem dX10_next_297 : decode cX10_next 297 = .ok (.aload_n 0, 1) := by decide +kernel
theorem dX10_next_298 : decode cX10_next 298 = .ok (.getfield 85, 3) := by decide +kernel
theorem dX10_next_301 : decode cX10_next 301 = .ok (.iaload, 1) := by decide +kernel
theorem dX10_next_302 : decode cX10_next 302 = .ok (.i2l, 1) := by decide +kernel
theorem dX10_next_303 : decode cX10_next 303 = .ok (.ladd, 1) := by decide +kernel
theorem dX10_next_304 : decode cX10_next 304 = .ok (.ldc2_w 113, 3) := by decide +kernel
theorem dX10_next_307 : decode cX10_next 307 = .ok (.lsub, 1) := by decide +kernel
theorem dX10_next_308 : decode cX10_next 308 = .ok (.goto 6, 3) := by decide +kernel
theorem dX10_next_311 : decode cX10_next 311 = .ok (.ldc2_w 115, 3) := by decide +kernel
theorem dX10_next_314 : decode cX10_next 314 = .ok (.putfield 91, 3) := by decide +kernel
theorem dX10_next_317 : decode cX10_next 317 = .ok (.aload_n 0, 1) := by decide +kernel
theorem dX10_next_318 : decode cX10_next 318 = .ok (.dup, 1) := by decide +kernel
theorem dX10_next_319 : decode cX10_next 319 = .ok (.getfield 85, 3) := by decide +kernel
theorem dX10_next_322 : decode cX10_next 322 = .ok (.iconst 1, 1) := by decide +kernel
theorem dX10_next_323 : decode cX10_next 323 = .ok (.iadd, 1) := by decide +kernel
theorem dX10_next_324 : decode cX10_next 324 = .ok (.putfield 85, 3) := by decide +kernel
theorem dX10_next_327 : decode cX10_next 327 = .ok (.goto (-90), 3) := by decide +kernel
theorem dX10_next_330 : decode cX10_next 330 = .ok (.aload_n 0, 1) := by decide +kernel
theorem dX10_next_331 : decode cX10_next 331 = .ok (.getfield 102, 3) := by decide +kernel
theorem dX10_next_334 : decode cX10_next 334 = .ok (.iconst 2, 1) := by decide +kernel
theorem dX10_next_335 : decode cX10_next 335 = .ok (.if_icmp .ne 35, 3) := by decide +kernel
theorem dX10_next_338 : decode cX10_next 338 = .ok (.aload_n 0, 1) := by decide +kernel
theorem dX10_next_339 : decode cX10_next 339 = .ok (.getfield 7, 3) := by decide +kernel
theorem dX10_next_342 : decode cX10_next 342 = .ok (.aload_n 0, 1) := by decide +kernel
theorem dX10_next_343 : decode cX10_next 343 = .ok (.getfield 88, 3) := by decide +kernel
theorem dX10_next_346 : decode cX10_next 346 = .ok (.iaload, 1) := by decide +kernel
theorem dX10_next_347 : decode cX10_next 347 = .ok (.bipush 48, 2) := by decide +kernel
theorem dX10_next_349 : decode cX10_next 349 = .ok (.if_icmp .ne 21, 3) := by decide +kernel
theorem dX10_next_352 : decode cX10_next 352 = .ok (.aload_n 0, 1) := by decide +kernel
theorem dX10_next_353 : decode cX10_next 353 = .ok (.getfield 85, 3) := by decide +kernel
theorem dX10_next_356 : decode cX10_next 356 = .ok (.aload_n 0, 1) := by decide +kernel
theorem dX10_next_357 : decode cX10_next 357 = .ok (.getfield 88, 3) := by decide +kernel
theorem dX10_next_360 : decode cX10_next 360 = .ok (.isub, 1) := by decide +kernel
theorem dX10_next_361 : decode cX10_next 361 = .ok (.iconst 1, 1) := by decide +kernel
theorem dX10_next_362 : decode cX10_next 362 = .ok (.if_icmp .le 8, 3) := by decide +kernel
theorem dX10_next_365 : decode cX10_next 365 = .ok (.aload_n 0, 1) := by decide +kernel
theorem dX10_next_366 : decode cX10_next 366 = .ok (.iconst 4, 1) := by decide +kernel
theorem dX10_next_367 : decode cX10_next 367 = .ok (.putfield 102, 3) := by decide +kernel
theorem dX10_next_370 : decode cX10_next 370 = .ok (.return_, 1) := by decide +kernel
theorem dX10_takes_0 : decode cX10_takes 0 = .ok (.aload_n 0, 1) := by decide +kernel
theorem dX10_takes_1 : decode cX10_takes 1 = .ok (.invokevirtual 117, 3) := by decide +kernel
theorem dX10_takes_4 : decode cX10_takes 4 = .ok (.aload_n 0, 1) := by decide +kernel
theorem dX10_takes_5 : decode cX10_takes 5 = .ok (.getfield 102, 3) := by decide +kernel
theorem dX10_takes_8 : decode cX10_takes 8 = .ok (.iconst 2, 1) := by decide +kernel
theorem dX10_takes_9 : decode cX10_takes 9 = .ok (.if_icmp .ne 21, 3) := by decide +kernel
theorem dX10_takes_12 : decode cX10_takes 12 = .ok (.aload_n 0, 1) := by decide +kernel
theorem dX10_takes_13 : decode cX10_takes 13 = .ok (.getfield 91, 3) := by decide +kernel
theorem dX10_takes_16 : decode cX10_takes 16 = .ok (.iload_n 1, 1) := by decide +kernel
theorem dX10_takes_17 : decode cX10_takes 17 = .ok (.i2l, 1) := by decide +kernel
theorem dX10_takes_18 : decode cX10_takes 18 = .ok (.iload_n 2, 1) := by decide +kernel
theorem dX10_takes_19 : decode cX10_takes 19 = .ok (.i2l, 1) := by decide +kernel
theorem dX10_takes_20 : decode cX10_takes 20 = .ok (.invokestatic 71, 3) := by decide +kernel
theorem dX10_takes_23 : decode cX10_takes 23 = .ok (.ifCond .eq 7, 3) := by decide +kernel
theorem dX10_takes_26 : decode cX10_takes 26 = .ok (.iconst 1, 1) := by decide +kernel
theorem dX10_takes_27 : decode cX10_takes 27 = .ok (.goto 4, 3) := by decide +kernel
theorem dX10_takes_30 : decode cX10_takes 30 = .ok (.iconst 0, 1) := by decide +kernel
theorem dX10_takes_31 : decode cX10_takes 31 = .ok (.ireturn, 1) := by decide +kernel
theorem dX10_stops_0 : decode cX10_stops 0 = .ok (.aload_n 0, 1) := by decide +kernel
theorem dX10_stops_1 : decode cX10_stops 1 = .ok (.invokevirtual 117, 3) := by decide +kernel
theorem dX10_stops_4 : decode cX10_stops 4 = .ok (.aload_n 0, 1) := by decide +kernel
theorem dX10_stops_5 : decode cX10_stops 5 = .ok (.getfield 102, 3) := by decide +kernel
theorem dX10_stops_8 : decode cX10_stops 8 = .ok (.iconst 3, 1) := by decide +kernel
theorem dX10_stops_9 : decode cX10_stops 9 = .ok (.if_icmp .ne 7, 3) := by decide +kernel
theorem dX10_stops_12 : decode cX10_stops 12 = .ok (.iconst 1, 1) := by decide +kernel
theorem dX10_stops_13 : decode cX10_stops 13 = .ok (.goto 4, 3) := by decide +kernel
theorem dX10_stops_16 : decode cX10_stops 16 = .ok (.iconst 0, 1) := by decide +kernel
theorem dX10_stops_17 : decode cX10_stops 17 = .ok (.ireturn, 1) := by decide +kernel
theorem dX10_takesPiece_0 : decode cX10_takesPiece 0 = .ok (.iconst 5, 1) := by decide +kernel
theorem dX10_takesPiece_1 : decode cX10_takesPiece 1 = .ok (.aload_n 0, 1) := by decide +kernel
theorem dX10_takesPiece_2 : decode cX10_takesPiece 2 = .ok (.getfield 120, 3) := by decide +kernel
theorem dX10_takesPiece_5 : decode cX10_takesPiece 5 = .ok (.imul, 1) := by decide +kernel
theorem dX10_takesPiece_6 : decode cX10_takesPiece 6 = .ok (.istore_n 1, 1) := by decide +kernel
theorem dX10_takesPiece_7 : decode cX10_takesPiece 7 = .ok (.aload_n 0, 1) := by decide +kernel
theorem dX10_takesPiece_8 : decode cX10_takesPiece 8 = .ok (.getfield 120, 3) := by decide +kernel
theorem dX10_takesPiece_11 : decode cX10_takesPiece 11 = .ok (.bipush 8, 2) := by decide +kernel
theorem dX10_takesPiece_13 : decode cX10_takesPiece 13 = .ok (.if_icmp .eq 12, 3) := by decide +kernel
theorem dX10_takesPiece_16 : decode cX10_takesPiece 16 = .ok (.aload_n 0, 1) := by decide +kernel
theorem dX10_takesPiece_17 : decode cX10_takesPiece 17 = .ok (.iconst 0, 1) := by decide +kernel
theorem dX10_takesPiece_18 : decode cX10_takesPiece 18 = .ok (.iconst 5, 1) := by decide +kernel
theorem dX10_takesPiece_19 : decode cX10_takesPiece 19 = .ok (.invokevirtual 123, 3) := by decide +kernel
theorem dX10_takesPiece_22 : decode cX10_takesPiece 22 = .ok (.ifCond .ne 5, 3) := by decide +kernel
theorem dX10_takesPiece_25 : decode cX10_takesPiece 25 = .ok (.iconst 0, 1) := by decide +kernel
theorem dX10_takesPiece_26 : decode cX10_takesPiece 26 = .ok (.ireturn, 1) := by decide +kernel
theorem dX10_takesPiece_27 : decode cX10_takesPiece 27 = .ok (.aload_n 0, 1) := by decide +kernel
theorem dX10_takesPiece_28 : decode cX10_takesPiece 28 = .ok (.getfield 46, 3) := by decide +kernel
theorem dX10_takesPiece_31 : decode cX10_takesPiece 31 = .ok (.iload_n 1, 1) := by decide +kernel
theorem dX10_takesPiece_32 : decode cX10_takesPiece 32 = .ok (.aload_n 0, 1) := by decide +kernel
theorem dX10_takesPiece_33 : decode cX10_takesPiece 33 = .ok (.getfield 91, 3) := by decide +kernel
theorem dX10_takesPiece_36 : decode cX10_takesPiece 36 = .ok (.l2i, 1) := by decide +kernel
theorem dX10_takesPiece_37 : decode cX10_takesPiece 37 = .ok (.iastore, 1) := by decide +kernel
theorem dX10_takesPiece_38 : decode cX10_takesPiece 38 = .ok (.aload_n 0, 1) := by decide +kernel
theorem dX10_takesPiece_39 : decode cX10_takesPiece 39 = .ok (.iconst 0, 1) := by decide +kernel
theorem dX10_takesPiece_40 : decode cX10_takesPiece 40 = .ok (.iconst 5, 1) := by decide +kernel
theorem dX10_takesPiece_41 : decode cX10_takesPiece 41 = .ok (.invokevirtual 123, 3) := by decide +kernel
theorem dX10_takesPiece_44 : decode cX10_takesPiece 44 = .ok (.ifCond .eq 18, 3) := by decide +kernel
theorem dX10_takesPiece_47 : decode cX10_takesPiece 47 = .ok (.aload_n 0, 1) := by decide +kernel
theorem dX10_takesPiece_48 : decode cX10_takesPiece 48 = .ok (.getfield 91, 3) := by decide +kernel
theorem dX10_takesPiece_51 : decode cX10_takesPiece 51 = .ok (.aload_n 0, 1) := by decide +kernel
theorem dX10_takesPiece_52 : decode cX10_takesPiece 52 = .ok (.getfield 46, 3) := by decide +kernel
theorem dX10_takesPiece_55 : decode cX10_takesPiece 55 = .ok (.iload_n 1, 1) := by decide +kernel
theorem dX10_takesPiece_56 : decode cX10_takesPiece 56 = .ok (.iaload, 1) := by decide +kernel
theorem dX10_takesPiece_57 : decode cX10_takesPiece 57 = .ok (.i2l, 1) := by decide +kernel
theorem dX10_takesPiece_58 : decode cX10_takesPiece 58 = .ok (.lcmp, 1) := by decide +kernel
theorem dX10_takesPiece_59 : decode cX10_takesPiece 59 = .ok (.ifCond .ne 5, 3) := by decide +kernel
theorem dX10_takesPiece_62 : decode cX10_takesPiece 62 = .ok (.iconst 0, 1) := by decide +kernel
theorem dX10_takesPiece_63 : decode cX10_takesPiece 63 = .ok (.ireturn, 1) := by decide +kernel
theorem dX10_takesPiece_64 : decode cX10_takesPiece 64 = .ok (.aload_n 0, 1) := by decide +kernel
theorem dX10_takesPiece_65 : decode cX10_takesPiece 65 = .ok (.getfield 46, 3) := by decide +kernel
theorem dX10_takesPiece_68 : decode cX10_takesPiece 68 = .ok (.iload_n 1, 1) := by decide +kernel
theorem dX10_takesPiece_69 : decode cX10_takesPiece 69 = .ok (.iconst 1, 1) := by decide +kernel
theorem dX10_takesPiece_70 : decode cX10_takesPiece 70 = .ok (.iadd, 1) := by decide +kernel
theorem dX10_takesPiece_71 : decode cX10_takesPiece 71 = .ok (.aload_n 0, 1) := by decide +kernel
theorem dX10_takesPiece_72 : decode cX10_takesPiece 72 = .ok (.getfield 91, 3) := by decide +kernel
theorem dX10_takesPiece_75 : decode cX10_takesPiece 75 = .ok (.l2i, 1) := by decide +kernel
theorem dX10_takesPiece_76 : decode cX10_takesPiece 76 = .ok (.iastore, 1) := by decide +kernel
theorem dX10_takesPiece_77 : decode cX10_takesPiece 77 = .ok (.aload_n 0, 1) := by decide +kernel
theorem dX10_takesPiece_78 : decode cX10_takesPiece 78 = .ok (.iconst 1, 1) := by decide +kernel
theorem dX10_takesPiece_79 : decode cX10_takesPiece 79 = .ok (.bipush 30, 2) := by decide +kernel
theorem dX10_takesPiece_81 : decode cX10_takesPiece 81 = .ok (.invokevirtual 123, 3) := by decide +kernel
theorem dX10_takesPiece_84 : decode cX10_takesPiece 84 = .ok (.ifCond .ne 5, 3) := by decide +kernel
theorem dX10_takesPiece_87 : decode cX10_takesPiece 87 = .ok (.iconst 0, 1) := by decide +kernel
theorem dX10_takesPiece_88 : decode cX10_takesPiece 88 = .ok (.ireturn, 1) := by decide +kernel
theorem dX10_takesPiece_89 : decode cX10_takesPiece 89 = .ok (.aload_n 0, 1) := by decide +kernel
theorem dX10_takesPiece_90 : decode cX10_takesPiece 90 = .ok (.getfield 46, 3) := by decide +kernel
theorem dX10_takesPiece_93 : decode cX10_takesPiece 93 = .ok (.iload_n 1, 1) := by decide +kernel
theorem dX10_takesPiece_94 : decode cX10_takesPiece 94 = .ok (.iconst 2, 1) := by decide +kernel
theorem dX10_takesPiece_95 : decode cX10_takesPiece 95 = .ok (.iadd, 1) := by decide +kernel
theorem dX10_takesPiece_96 : decode cX10_takesPiece 96 = .ok (.aload_n 0, 1) := by decide +kernel
theorem dX10_takesPiece_97 : decode cX10_takesPiece 97 = .ok (.getfield 91, 3) := by decide +kernel
theorem dX10_takesPiece_100 : decode cX10_takesPiece 100 = .ok (.l2i, 1) := by decide +kernel
theorem dX10_takesPiece_101 : decode cX10_takesPiece 101 = .ok (.iastore, 1) := by decide +kernel
theorem dX10_takesPiece_102 : decode cX10_takesPiece 102 = .ok (.aload_n 0, 1) := by decide +kernel
theorem dX10_takesPiece_103 : decode cX10_takesPiece 103 = .ok (.getfield 46, 3) := by decide +kernel
theorem dX10_takesPiece_106 : decode cX10_takesPiece 106 = .ok (.iload_n 1, 1) := by decide +kernel
theorem dX10_takesPiece_107 : decode cX10_takesPiece 107 = .ok (.iconst 3, 1) := by decide +kernel
theorem dX10_takesPiece_108 : decode cX10_takesPiece 108 = .ok (.iadd, 1) := by decide +kernel
theorem dX10_takesPiece_109 : decode cX10_takesPiece 109 = .ok (.bipush (-9), 2) := by decide +kernel
theorem dX10_takesPiece_111 : decode cX10_takesPiece 111 = .ok (.iastore, 1) := by decide +kernel
theorem dX10_takesPiece_112 : decode cX10_takesPiece 112 = .ok (.aload_n 0, 1) := by decide +kernel
theorem dX10_takesPiece_113 : decode cX10_takesPiece 113 = .ok (.getfield 46, 3) := by decide +kernel
theorem dX10_takesPiece_116 : decode cX10_takesPiece 116 = .ok (.iload_n 1, 1) := by decide +kernel
theorem dX10_takesPiece_117 : decode cX10_takesPiece 117 = .ok (.iconst 4, 1) := by decide +kernel
theorem dX10_takesPiece_118 : decode cX10_takesPiece 118 = .ok (.iadd, 1) := by decide +kernel
theorem dX10_takesPiece_119 : decode cX10_takesPiece 119 = .ok (.iconst 0, 1) := by decide +kernel
theorem dX10_takesPiece_120 : decode cX10_takesPiece 120 = .ok (.iastore, 1) := by decide +kernel
theorem dX10_takesPiece_121 : decode cX10_takesPiece 121 = .ok (.aload_n 0, 1) := by decide +kernel
theorem dX10_takesPiece_122 : decode cX10_takesPiece 122 = .ok (.dup, 1) := by decide +kernel
theorem dX10_takesPiece_123 : decode cX10_takesPiece 123 = .ok (.getfield 120, 3) := by decide +kernel
theorem dX10_takesPiece_126 : decode cX10_takesPiece 126 = .ok (.iconst 1, 1) := by decide +kernel
theorem dX10_takesPiece_127 : decode cX10_takesPiece 127 = .ok (.iadd, 1) := by decide +kernel
theorem dX10_takesPiece_128 : decode cX10_takesPiece 128 = .ok (.putfield 120, 3) := by decide +kernel
theorem dX10_takesPiece_131 : decode cX10_takesPiece 131 = .ok (.aload_n 0, 1) := by decide +kernel
theorem dX10_takesPiece_132 : decode cX10_takesPiece 132 = .ok (.invokevirtual 127, 3) := by decide +kernel
theorem dX10_takesPiece_135 : decode cX10_takesPiece 135 = .ok (.ireturn, 1) := by decide +kernel
theorem dX10_takesFamily_0 : decode cX10_takesFamily 0 = .ok (.bipush 40, 2) := by decide +kernel
theorem dX10_takesFamily_2 : decode cX10_takesFamily 2 = .ok (.iconst 3, 1) := by decide +kernel
theorem dX10_takesFamily_3 : decode cX10_takesFamily 3 = .ok (.aload_n 0, 1) := by decide +kernel
theorem dX10_takesFamily_4 : decode cX10_takesFamily 4 = .ok (.getfield 131, 3) := by decide +kernel
theorem dX10_takesFamily_7 : decode cX10_takesFamily 7 = .ok (.imul, 1) := by decide +kernel
theorem dX10_takesFamily_8 : decode cX10_takesFamily 8 = .ok (.iadd, 1) := by decide +kernel
theorem dX10_takesFamily_9 : decode cX10_takesFamily 9 = .ok (.istore_n 1, 1) := by decide +kernel
theorem dX10_takesFamily_10 : decode cX10_takesFamily 10 = .ok (.aload_n 0, 1) := by decide +kernel
theorem dX10_takesFamily_11 : decode cX10_takesFamily 11 = .ok (.getfield 131, 3) := by decide +kernel
theorem dX10_takesFamily_14 : decode cX10_takesFamily 14 = .ok (.iconst 4, 1) := by decide +kernel
theorem dX10_takesFamily_15 : decode cX10_takesFamily 15 = .ok (.if_icmp .eq 12, 3) := by decide +kernel
theorem dX10_takesFamily_18 : decode cX10_takesFamily 18 = .ok (.aload_n 0, 1) := by decide +kernel
theorem dX10_takesFamily_19 : decode cX10_takesFamily 19 = .ok (.iconst 0, 1) := by decide +kernel
theorem dX10_takesFamily_20 : decode cX10_takesFamily 20 = .ok (.iconst 5, 1) := by decide +kernel
theorem dX10_takesFamily_21 : decode cX10_takesFamily 21 = .ok (.invokevirtual 123, 3) := by decide +kernel
theorem dX10_takesFamily_24 : decode cX10_takesFamily 24 = .ok (.ifCond .ne 5, 3) := by decide +kernel
theorem dX10_takesFamily_27 : decode cX10_takesFamily 27 = .ok (.iconst 0, 1) := by decide +kernel
theorem dX10_takesFamily_28 : decode cX10_takesFamily 28 = .ok (.ireturn, 1) := by decide +kernel
theorem dX10_takesFamily_29 : decode cX10_takesFamily 29 = .ok (.aload_n 0, 1) := by decide +kernel
theorem dX10_takesFamily_30 : decode cX10_takesFamily 30 = .ok (.getfield 46, 3) := by decide +kernel
theorem dX10_takesFamily_33 : decode cX10_takesFamily 33 = .ok (.iload_n 1, 1) := by decide +kernel
theorem dX10_takesFamily_34 : decode cX10_takesFamily 34 = .ok (.aload_n 0, 1) := by decide +kernel
theorem dX10_takesFamily_35 : decode cX10_takesFamily 35 = .ok (.getfield 91, 3) := by decide +kernel
theorem dX10_takesFamily_38 : decode cX10_takesFamily 38 = .ok (.l2i, 1) := by decide +kernel
theorem dX10_takesFamily_39 : decode cX10_takesFamily 39 = .ok (.iastore, 1) := by decide +kernel
theorem dX10_takesFamily_40 : decode cX10_takesFamily 40 = .ok (.aload_n 0, 1) := by decide +kernel
theorem dX10_takesFamily_41 : decode cX10_takesFamily 41 = .ok (.iconst 0, 1) := by decide +kernel
theorem dX10_takesFamily_42 : decode cX10_takesFamily 42 = .ok (.iconst 5, 1) := by decide +kernel
theorem dX10_takesFamily_43 : decode cX10_takesFamily 43 = .ok (.invokevirtual 123, 3) := by decide +kernel
theorem dX10_takesFamily_46 : decode cX10_takesFamily 46 = .ok (.ifCond .ne 5, 3) := by decide +kernel
theorem dX10_takesFamily_49 : decode cX10_takesFamily 49 = .ok (.iconst 0, 1) := by decide +kernel
theorem dX10_takesFamily_50 : decode cX10_takesFamily 50 = .ok (.ireturn, 1) := by decide +kernel
theorem dX10_takesFamily_51 : decode cX10_takesFamily 51 = .ok (.aload_n 0, 1) := by decide +kernel
theorem dX10_takesFamily_52 : decode cX10_takesFamily 52 = .ok (.getfield 46, 3) := by decide +kernel
theorem dX10_takesFamily_55 : decode cX10_takesFamily 55 = .ok (.iload_n 1, 1) := by decide +kernel
theorem dX10_takesFamily_56 : decode cX10_takesFamily 56 = .ok (.iconst 1, 1) := by decide +kernel
theorem dX10_takesFamily_57 : decode cX10_takesFamily 57 = .ok (.iadd, 1) := by decide +kernel
theorem dX10_takesFamily_58 : decode cX10_takesFamily 58 = .ok (.aload_n 0, 1) := by decide +kernel
theorem dX10_takesFamily_59 : decode cX10_takesFamily 59 = .ok (.getfield 91, 3) := by decide +kernel
theorem dX10_takesFamily_62 : decode cX10_takesFamily 62 = .ok (.l2i, 1) := by decide +kernel
theorem dX10_takesFamily_63 : decode cX10_takesFamily 63 = .ok (.iastore, 1) := by decide +kernel
theorem dX10_takesFamily_64 : decode cX10_takesFamily 64 = .ok (.aload_n 0, 1) := by decide +kernel
theorem dX10_takesFamily_65 : decode cX10_takesFamily 65 = .ok (.iconst 1, 1) := by decide +kernel
theorem dX10_takesFamily_66 : decode cX10_takesFamily 66 = .ok (.bipush 9, 2) := by decide +kernel
theorem dX10_takesFamily_68 : decode cX10_takesFamily 68 = .ok (.invokevirtual 123, 3) := by decide +kernel
theorem dX10_takesFamily_71 : decode cX10_takesFamily 71 = .ok (.ifCond .ne 5, 3) := by decide +kernel
theorem dX10_takesFamily_74 : decode cX10_takesFamily 74 = .ok (.iconst 0, 1) := by decide +kernel
theorem dX10_takesFamily_75 : decode cX10_takesFamily 75 = .ok (.ireturn, 1) := by decide +kernel
theorem dX10_takesFamily_76 : decode cX10_takesFamily 76 = .ok (.aload_n 0, 1) := by decide +kernel
theorem dX10_takesFamily_77 : decode cX10_takesFamily 77 = .ok (.getfield 46, 3) := by decide +kernel
theorem dX10_takesFamily_80 : decode cX10_takesFamily 80 = .ok (.iload_n 1, 1) := by decide +kernel
theorem dX10_takesFamily_81 : decode cX10_takesFamily 81 = .ok (.iconst 2, 1) := by decide +kernel
theorem dX10_takesFamily_82 : decode cX10_takesFamily 82 = .ok (.iadd, 1) := by decide +kernel
theorem dX10_takesFamily_83 : decode cX10_takesFamily 83 = .ok (.aload_n 0, 1) := by decide +kernel
theorem dX10_takesFamily_84 : decode cX10_takesFamily 84 = .ok (.getfield 91, 3) := by decide +kernel
theorem dX10_takesFamily_87 : decode cX10_takesFamily 87 = .ok (.l2i, 1) := by decide +kernel
theorem dX10_takesFamily_88 : decode cX10_takesFamily 88 = .ok (.iastore, 1) := by decide +kernel
theorem dX10_takesFamily_89 : decode cX10_takesFamily 89 = .ok (.aload_n 0, 1) := by decide +kernel
theorem dX10_takesFamily_90 : decode cX10_takesFamily 90 = .ok (.dup, 1) := by decide +kernel
theorem dX10_takesFamily_91 : decode cX10_takesFamily 91 = .ok (.getfield 131, 3) := by decide +kernel
theorem dX10_takesFamily_94 : decode cX10_takesFamily 94 = .ok (.iconst 1, 1) := by decide +kernel
theorem dX10_takesFamily_95 : decode cX10_takesFamily 95 = .ok (.iadd, 1) := by decide +kernel
theorem dX10_takesFamily_96 : decode cX10_takesFamily 96 = .ok (.putfield 131, 3) := by decide +kernel
theorem dX10_takesFamily_99 : decode cX10_takesFamily 99 = .ok (.aload_n 0, 1) := by decide +kernel
theorem dX10_takesFamily_100 : decode cX10_takesFamily 100 = .ok (.invokevirtual 127, 3) := by decide +kernel
theorem dX10_takesFamily_103 : decode cX10_takesFamily 103 = .ok (.ireturn, 1) := by decide +kernel
theorem dX10_takesTold_0 : decode cX10_takesTold 0 = .ok (.aload_n 0, 1) := by decide +kernel
theorem dX10_takesTold_1 : decode cX10_takesTold 1 = .ok (.iconst 0, 1) := by decide +kernel
theorem dX10_takesTold_2 : decode cX10_takesTold 2 = .ok (.aload_n 0, 1) := by decide +kernel
theorem dX10_takesTold_3 : decode cX10_takesTold 3 = .ok (.getfield 120, 3) := by decide +kernel
theorem dX10_takesTold_6 : decode cX10_takesTold 6 = .ok (.iconst 1, 1) := by decide +kernel
theorem dX10_takesTold_7 : decode cX10_takesTold 7 = .ok (.isub, 1) := by decide +kernel
theorem dX10_takesTold_8 : decode cX10_takesTold 8 = .ok (.invokevirtual 123, 3) := by decide +kernel
theorem dX10_takesTold_11 : decode cX10_takesTold 11 = .ok (.ifCond .ne 5, 3) := by decide +kernel
theorem dX10_takesTold_14 : decode cX10_takesTold 14 = .ok (.iconst 0, 1) := by decide +kernel
theorem dX10_takesTold_15 : decode cX10_takesTold 15 = .ok (.ireturn, 1) := by decide +kernel
theorem dX10_takesTold_16 : decode cX10_takesTold 16 = .ok (.iconst 5, 1) := by decide +kernel
theorem dX10_takesTold_17 : decode cX10_takesTold 17 = .ok (.aload_n 0, 1) := by decide +kernel
theorem dX10_takesTold_18 : decode cX10_takesTold 18 = .ok (.getfield 91, 3) := by decide +kernel
theorem dX10_takesTold_21 : decode cX10_takesTold 21 = .ok (.l2i, 1) := by decide +kernel
theorem dX10_takesTold_22 : decode cX10_takesTold 22 = .ok (.imul, 1) := by decide +kernel
theorem dX10_takesTold_23 : decode cX10_takesTold 23 = .ok (.istore_n 3, 1) := by decide +kernel
theorem dX10_takesTold_24 : decode cX10_takesTold 24 = .ok (.lload_n 1, 1) := by decide +kernel
theorem dX10_takesTold_25 : decode cX10_takesTold 25 = .ok (.ldc2_w 134, 3) := by decide +kernel
theorem dX10_takesTold_28 : decode cX10_takesTold 28 = .ok (.lcmp, 1) := by decide +kernel
theorem dX10_takesTold_29 : decode cX10_takesTold 29 = .ok (.ifCond .ne 18, 3) := by decide +kernel
theorem dX10_takesTold_32 : decode cX10_takesTold 32 = .ok (.aload_n 0, 1) := by decide +kernel
theorem dX10_takesTold_33 : decode cX10_takesTold 33 = .ok (.getfield 46, 3) := by decide +kernel
theorem dX10_takesTold_36 : decode cX10_takesTold 36 = .ok (.iload_n 3, 1) := by decide +kernel
theorem dX10_takesTold_37 : decode cX10_takesTold 37 = .ok (.iconst 3, 1) := by decide +kernel
theorem dX10_takesTold_38 : decode cX10_takesTold 38 = .ok (.iadd, 1) := by decide +kernel
theorem dX10_takesTold_39 : decode cX10_takesTold 39 = .ok (.bipush (-5), 2) := by decide +kernel
theorem dX10_takesTold_41 : decode cX10_takesTold 41 = .ok (.iastore, 1) := by decide +kernel
theorem dX10_takesTold_42 : decode cX10_takesTold 42 = .ok (.aload_n 0, 1) := by decide +kernel
theorem dX10_takesTold_43 : decode cX10_takesTold 43 = .ok (.invokevirtual 127, 3) := by decide +kernel
theorem dX10_takesTold_46 : decode cX10_takesTold 46 = .ok (.ireturn, 1) := by decide +kernel
theorem dX10_takesTold_47 : decode cX10_takesTold 47 = .ok (.aload_n 0, 1) := by decide +kernel
theorem dX10_takesTold_48 : decode cX10_takesTold 48 = .ok (.iconst 0, 1) := by decide +kernel
theorem dX10_takesTold_49 : decode cX10_takesTold 49 = .ok (.lload_n 1, 1) := by decide +kernel
theorem dX10_takesTold_50 : decode cX10_takesTold 50 = .ok (.ldc2_w 136, 3) := by decide +kernel
theorem dX10_takesTold_53 : decode cX10_takesTold 53 = .ok (.lcmp, 1) := by decide +kernel
theorem dX10_takesTold_54 : decode cX10_takesTold 54 = .ok (.ifCond .ne 12, 3) := by decide +kernel
theorem dX10_takesTold_57 : decode cX10_takesTold 57 = .ok (.aload_n 0, 1) := by decide +kernel
theorem dX10_takesTold_58 : decode cX10_takesTold 58 = .ok (.getfield 131, 3) := by decide +kernel
theorem dX10_takesTold_61 : decode cX10_takesTold 61 = .ok (.iconst 1, 1) := by decide +kernel
theorem dX10_takesTold_62 : decode cX10_takesTold 62 = .ok (.isub, 1) := by decide +kernel
theorem dX10_takesTold_63 : decode cX10_takesTold 63 = .ok (.goto 5, 3) := by decide +kernel
theorem dX10_takesTold_66 : decode cX10_takesTold 66 = .ok (.bipush 9, 2) := by decide +kernel
theorem dX10_takesTold_68 : decode cX10_takesTold 68 = .ok (.invokevirtual 123, 3) := by decide +kernel
theorem dX10_takesTold_71 : decode cX10_takesTold 71 = .ok (.ifCond .ne 5, 3) := by decide +kernel
theorem dX10_takesTold_74 : decode cX10_takesTold 74 = .ok (.iconst 0, 1) := by decide +kernel
theorem dX10_takesTold_75 : decode cX10_takesTold 75 = .ok (.ireturn, 1) := by decide +kernel
theorem dX10_takesTold_76 : decode cX10_takesTold 76 = .ok (.aload_n 0, 1) := by decide +kernel
theorem dX10_takesTold_77 : decode cX10_takesTold 77 = .ok (.getfield 46, 3) := by decide +kernel
theorem dX10_takesTold_80 : decode cX10_takesTold 80 = .ok (.lload_n 1, 1) := by decide +kernel
theorem dX10_takesTold_81 : decode cX10_takesTold 81 = .ok (.ldc2_w 136, 3) := by decide +kernel
theorem dX10_takesTold_84 : decode cX10_takesTold 84 = .ok (.lcmp, 1) := by decide +kernel
theorem dX10_takesTold_85 : decode cX10_takesTold 85 = .ok (.ifCond .ne 9, 3) := by decide +kernel
theorem dX10_takesTold_88 : decode cX10_takesTold 88 = .ok (.iload_n 3, 1) := by decide +kernel
theorem dX10_takesTold_89 : decode cX10_takesTold 89 = .ok (.iconst 3, 1) := by decide +kernel
theorem dX10_takesTold_90 : decode cX10_takesTold 90 = .ok (.iadd, 1) := by decide +kernel
theorem dX10_takesTold_91 : decode cX10_takesTold 91 = .ok (.goto 6, 3) := by decide +kernel
theorem dX10_takesTold_94 : decode cX10_takesTold 94 = .ok (.iload_n 3, 1) := by decide +kernel
theorem dX10_takesTold_95 : decode cX10_takesTold 95 = .ok (.iconst 4, 1) := by decide +kernel
theorem dX10_takesTold_96 : decode cX10_takesTold 96 = .ok (.iadd, 1) := by decide +kernel
theorem dX10_takesTold_97 : decode cX10_takesTold 97 = .ok (.aload_n 0, 1) := by decide +kernel
theorem dX10_takesTold_98 : decode cX10_takesTold 98 = .ok (.getfield 91, 3) := by decide +kernel
theorem dX10_takesTold_101 : decode cX10_takesTold 101 = .ok (.l2i, 1) := by decide +kernel
theorem dX10_takesTold_102 : decode cX10_takesTold 102 = .ok (.iastore, 1) := by decide +kernel
theorem dX10_takesTold_103 : decode cX10_takesTold 103 = .ok (.aload_n 0, 1) := by decide +kernel
theorem dX10_takesTold_104 : decode cX10_takesTold 104 = .ok (.invokevirtual 127, 3) := by decide +kernel
theorem dX10_takesTold_107 : decode cX10_takesTold 107 = .ok (.ireturn, 1) := by decide +kernel
theorem dX10_takesAll_0 : decode cX10_takesAll 0 = .ok (.aload_n 0, 1) := by decide +kernel
theorem dX10_takesAll_1 : decode cX10_takesAll 1 = .ok (.iconst 0, 1) := by decide +kernel
theorem dX10_takesAll_2 : decode cX10_takesAll 2 = .ok (.putfield 85, 3) := by decide +kernel
theorem dX10_takesAll_5 : decode cX10_takesAll 5 = .ok (.aload_n 0, 1) := by decide +kernel
theorem dX10_takesAll_6 : decode cX10_takesAll 6 = .ok (.iconst 0, 1) := by decide +kernel
theorem dX10_takesAll_7 : decode cX10_takesAll 7 = .ok (.putfield 120, 3) := by decide +kernel
theorem dX10_takesAll_10 : decode cX10_takesAll 10 = .ok (.aload_n 0, 1) := by decide +kernel
theorem dX10_takesAll_11 : decode cX10_takesAll 11 = .ok (.iconst 0, 1) := by decide +kernel
theorem dX10_takesAll_12 : decode cX10_takesAll 12 = .ok (.putfield 131, 3) := by decide +kernel
theorem dX10_takesAll_15 : decode cX10_takesAll 15 = .ok (.iconst 0, 1) := by decide +kernel
theorem dX10_takesAll_16 : decode cX10_takesAll 16 = .ok (.istore_n 1, 1) := by decide +kernel
theorem dX10_takesAll_17 : decode cX10_takesAll 17 = .ok (.aload_n 0, 1) := by decide +kernel
theorem dX10_takesAll_18 : decode cX10_takesAll 18 = .ok (.invokevirtual 117, 3) := by decide +kernel
theorem dX10_takesAll_21 : decode cX10_takesAll 21 = .ok (.aload_n 0, 1) := by decide +kernel
theorem dX10_takesAll_22 : decode cX10_takesAll 22 = .ok (.getfield 102, 3) := by decide +kernel
theorem dX10_takesAll_25 : decode cX10_takesAll 25 = .ok (.ifCond .eq 108, 3) := by decide +kernel
theorem dX10_takesAll_28 : decode cX10_takesAll 28 = .ok (.aload_n 0, 1) := by decide +kernel
theorem dX10_takesAll_29 : decode cX10_takesAll 29 = .ok (.getfield 102, 3) := by decide +kernel
theorem dX10_takesAll_32 : decode cX10_takesAll 32 = .ok (.iconst 1, 1) := by decide +kernel
theorem dX10_takesAll_33 : decode cX10_takesAll 33 = .ok (.if_icmp .ne 10, 3) := by decide +kernel
theorem dX10_takesAll_36 : decode cX10_takesAll 36 = .ok (.aload_n 0, 1) := by decide +kernel
theorem dX10_takesAll_37 : decode cX10_takesAll 37 = .ok (.getfield 91, 3) := by decide +kernel
theorem dX10_takesAll_40 : decode cX10_takesAll 40 = .ok (.goto 6, 3) := by decide +kernel
theorem dX10_takesAll_43 : decode cX10_takesAll 43 = .ok (.ldc2_w 109, 3) := by decide +kernel
theorem dX10_takesAll_46 : decode cX10_takesAll 46 = .ok (.lstore_n 2, 1) := by decide +kernel
theorem dX10_takesAll_47 : decode cX10_takesAll 47 = .ok (.lload_n 2, 1) := by decide +kernel
theorem dX10_takesAll_48 : decode cX10_takesAll 48 = .ok (.ldc2_w 138, 3) := by decide +kernel
theorem dX10_takesAll_51 : decode cX10_takesAll 51 = .ok (.lcmp, 1) := by decide +kernel
theorem dX10_takesAll_52 : decode cX10_takesAll 52 = .ok (.ifCond .ne 10, 3) := by decide +kernel
theorem dX10_takesAll_55 : decode cX10_takesAll 55 = .ok (.aload_n 0, 1) := by decide +kernel
theorem dX10_takesAll_56 : decode cX10_takesAll 56 = .ok (.invokevirtual 140, 3) := by decide +kernel
theorem dX10_takesAll_59 : decode cX10_takesAll 59 = .ok (.goto 55, 3) := by decide +kernel
theorem dX10_takesAll_62 : decode cX10_takesAll 62 = .ok (.lload_n 2, 1) := by decide +kernel
theorem dX10_takesAll_63 : decode cX10_takesAll 63 = .ok (.ldc2_w 143, 3) := by decide +kernel
theorem dX10_takesAll_66 : decode cX10_takesAll 66 = .ok (.lcmp, 1) := by decide +kernel
theorem dX10_takesAll_67 : decode cX10_takesAll 67 = .ok (.ifCond .ne 10, 3) := by decide +kernel
theorem dX10_takesAll_70 : decode cX10_takesAll 70 = .ok (.aload_n 0, 1) := by decide +kernel
theorem dX10_takesAll_71 : decode cX10_takesAll 71 = .ok (.invokevirtual 145, 3) := by decide +kernel
theorem dX10_takesAll_74 : decode cX10_takesAll 74 = .ok (.goto 40, 3) := by decide +kernel
theorem dX10_takesAll_77 : decode cX10_takesAll 77 = .ok (.lload_n 2, 1) := by decide +kernel
theorem dX10_takesAll_78 : decode cX10_takesAll 78 = .ok (.ldc2_w 136, 3) := by decide +kernel
theorem dX10_takesAll_81 : decode cX10_takesAll 81 = .ok (.lcmp, 1) := by decide +kernel
theorem dX10_takesAll_82 : decode cX10_takesAll 82 = .ok (.ifCond .eq 19, 3) := by decide +kernel
theorem dX10_takesAll_85 : decode cX10_takesAll 85 = .ok (.lload_n 2, 1) := by decide +kernel
theorem dX10_takesAll_86 : decode cX10_takesAll 86 = .ok (.ldc2_w 134, 3) := by decide +kernel
theorem dX10_takesAll_89 : decode cX10_takesAll 89 = .ok (.lcmp, 1) := by decide +kernel
theorem dX10_takesAll_90 : decode cX10_takesAll 90 = .ok (.ifCond .eq 11, 3) := by decide +kernel
theorem dX10_takesAll_93 : decode cX10_takesAll 93 = .ok (.lload_n 2, 1) := by decide +kernel
theorem dX10_takesAll_94 : decode cX10_takesAll 94 = .ok (.ldc2_w 148, 3) := by decide +kernel
theorem dX10_takesAll_97 : decode cX10_takesAll 97 = .ok (.lcmp, 1) := by decide +kernel
theorem dX10_takesAll_98 : decode cX10_takesAll 98 = .ok (.ifCond .ne 15, 3) := by decide +kernel
theorem dX10_takesAll_101 : decode cX10_takesAll 101 = .ok (.aload_n 0, 1) := by decide +kernel
theorem dX10_takesAll_102 : decode cX10_takesAll 102 = .ok (.lload_n 2, 1) := by decide +kernel
theorem dX10_takesAll_103 : decode cX10_takesAll 103 = .ok (.invokevirtual 150, 3) := by decide +kernel
theorem dX10_takesAll_106 : decode cX10_takesAll 106 = .ok (.ifCond .eq 7, 3) := by decide +kernel
theorem dX10_takesAll_109 : decode cX10_takesAll 109 = .ok (.iconst 1, 1) := by decide +kernel
theorem dX10_takesAll_110 : decode cX10_takesAll 110 = .ok (.goto 4, 3) := by decide +kernel
theorem dX10_takesAll_113 : decode cX10_takesAll 113 = .ok (.iconst 0, 1) := by decide +kernel
theorem dX10_takesAll_114 : decode cX10_takesAll 114 = .ok (.istore 4, 2) := by decide +kernel
theorem dX10_takesAll_116 : decode cX10_takesAll 116 = .ok (.iload 4, 2) := by decide +kernel
theorem dX10_takesAll_118 : decode cX10_takesAll 118 = .ok (.ifCond .ne 5, 3) := by decide +kernel
theorem dX10_takesAll_121 : decode cX10_takesAll 121 = .ok (.iconst (-1), 1) := by decide +kernel
theorem dX10_takesAll_122 : decode cX10_takesAll 122 = .ok (.ireturn, 1) := by decide +kernel
theorem dX10_takesAll_123 : decode cX10_takesAll 123 = .ok (.iinc 1 1, 3) := by decide +kernel
theorem dX10_takesAll_126 : decode cX10_takesAll 126 = .ok (.aload_n 0, 1) := by decide +kernel
theorem dX10_takesAll_127 : decode cX10_takesAll 127 = .ok (.invokevirtual 117, 3) := by decide +kernel
theorem dX10_takesAll_130 : decode cX10_takesAll 130 = .ok (.goto (-109), 3) := by decide +kernel
theorem dX10_takesAll_133 : decode cX10_takesAll 133 = .ok (.iload_n 1, 1) := by decide +kernel
theorem dX10_takesAll_134 : decode cX10_takesAll 134 = .ok (.ireturn, 1) := by decide +kernel
theorem dX10_town_0 : decode cX10_town 0 = .ok (.aload_n 0, 1) := by decide +kernel
theorem dX10_town_1 : decode cX10_town 1 = .ok (.invokevirtual 154, 3) := by decide +kernel
theorem dX10_town_4 : decode cX10_town 4 = .ok (.istore_n 1, 1) := by decide +kernel
theorem dX10_town_5 : decode cX10_town 5 = .ok (.iload_n 1, 1) := by decide +kernel
theorem dX10_town_6 : decode cX10_town 6 = .ok (.ifCond .ge 11, 3) := by decide +kernel
theorem dX10_town_9 : decode cX10_town 9 = .ok (.bipush (-10), 2) := by decide +kernel
theorem dX10_town_11 : decode cX10_town 11 = .ok (.aload_n 0, 1) := by decide +kernel
theorem dX10_town_12 : decode cX10_town 12 = .ok (.getfield 88, 3) := by decide +kernel
theorem dX10_town_15 : decode cX10_town 15 = .ok (.isub, 1) := by decide +kernel
theorem dX10_town_16 : decode cX10_town 16 = .ok (.ireturn, 1) := by decide +kernel
theorem dX10_town_17 : decode cX10_town 17 = .ok (.aload_n 0, 1) := by decide +kernel
theorem dX10_town_18 : decode cX10_town 18 = .ok (.aload_n 0, 1) := by decide +kernel
theorem dX10_town_19 : decode cX10_town 19 = .ok (.getfield 120, 3) := by decide +kernel
theorem dX10_town_22 : decode cX10_town 22 = .ok (.putfield 67, 3) := by decide +kernel
theorem dX10_town_25 : decode cX10_town 25 = .ok (.aload_n 0, 1) := by decide +kernel
theorem dX10_town_26 : decode cX10_town 26 = .ok (.aload_n 0, 1) := by decide +kernel
theorem dX10_town_27 : decode cX10_town 27 = .ok (.getfield 131, 3) := by decide +kernel
theorem dX10_town_30 : decode cX10_town 30 = .ok (.putfield 75, 3) := by decide +kernel
theorem dX10_town_33 : decode cX10_town 33 = .ok (.iconst 0, 1) := by decide +kernel
theorem dX10_town_34 : decode cX10_town 34 = .ok (.istore_n 2, 1) := by decide +kernel
theorem dX10_town_35 : decode cX10_town 35 = .ok (.iload_n 2, 1) := by decide +kernel
theorem dX10_town_36 : decode cX10_town 36 = .ok (.aload_n 0, 1) := by decide +kernel
theorem dX10_town_37 : decode cX10_town 37 = .ok (.getfield 67, 3) := by decide +kernel
theorem dX10_town_40 : decode cX10_town 40 = .ok (.if_icmp .ge 87, 3) := by decide +kernel
theorem dX10_town_43 : decode cX10_town 43 = .ok (.aload_n 0, 1) := by decide +kernel
theorem dX10_town_44 : decode cX10_town 44 = .ok (.getfield 13, 3) := by decide +kernel
theorem dX10_town_47 : decode cX10_town 47 = .ok (.iload_n 2, 1) := by decide +kernel
theorem dX10_town_48 : decode cX10_town 48 = .ok (.aload_n 0, 1) := by decide +kernel
theorem dX10_town_49 : decode cX10_town 49 = .ok (.getfield 46, 3) := by decide +kernel
theorem dX10_town_52 : decode cX10_town 52 = .ok (.iconst 5, 1) := by decide +kernel
theorem dX10_town_53 : decode cX10_town 53 = .ok (.iload_n 2, 1) := by decide +kernel
theorem dX10_town_54 : decode cX10_town 54 = .ok (.imul, 1) := by decide +kernel
theorem dX10_town_55 : decode cX10_town 55 = .ok (.iaload, 1) := by decide +kernel
theorem dX10_town_56 : decode cX10_town 56 = .ok (.iastore, 1) := by decide +kernel
theorem dX10_town_57 : decode cX10_town 57 = .ok (.aload_n 0, 1) := by decide +kernel
theorem dX10_town_58 : decode cX10_town 58 = .ok (.getfield 16, 3) := by decide +kernel
theorem dX10_town_61 : decode cX10_town 61 = .ok (.iload_n 2, 1) := by decide +kernel
theorem dX10_town_62 : decode cX10_town 62 = .ok (.aload_n 0, 1) := by decide +kernel
theorem dX10_town_63 : decode cX10_town 63 = .ok (.getfield 46, 3) := by decide +kernel
theorem dX10_town_66 : decode cX10_town 66 = .ok (.iconst 5, 1) := by decide +kernel
theorem dX10_town_67 : decode cX10_town 67 = .ok (.iload_n 2, 1) := by decide +kernel
theorem dX10_town_68 : decode cX10_town 68 = .ok (.imul, 1) := by decide +kernel
theorem dX10_town_69 : decode cX10_town 69 = .ok (.iconst 1, 1) := by decide +kernel
theorem dX10_town_70 : decode cX10_town 70 = .ok (.iadd, 1) := by decide +kernel
theorem dX10_town_71 : decode cX10_town 71 = .ok (.iaload, 1) := by decide +kernel
theorem dX10_town_72 : decode cX10_town 72 = .ok (.iastore, 1) := by decide +kernel
theorem dX10_town_73 : decode cX10_town 73 = .ok (.aload_n 0, 1) := by decide +kernel
theorem dX10_town_74 : decode cX10_town 74 = .ok (.getfield 19, 3) := by decide +kernel
theorem dX10_town_77 : decode cX10_town 77 = .ok (.iload_n 2, 1) := by decide +kernel
theorem dX10_town_78 : decode cX10_town 78 = .ok (.aload_n 0, 1) := by decide +kernel
theorem dX10_town_79 : decode cX10_town 79 = .ok (.getfield 46, 3) := by decide +kernel
theorem dX10_town_82 : decode cX10_town 82 = .ok (.iconst 5, 1) := by decide +kernel
theorem dX10_town_83 : decode cX10_town 83 = .ok (.iload_n 2, 1) := by decide +kernel
theorem dX10_town_84 : decode cX10_town 84 = .ok (.imul, 1) := by decide +kernel
theorem dX10_town_85 : decode cX10_town 85 = .ok (.iconst 2, 1) := by decide +kernel
theorem dX10_town_86 : decode cX10_town 86 = .ok (.iadd, 1) := by decide +kernel
theorem dX10_town_87 : decode cX10_town 87 = .ok (.iaload, 1) := by decide +kernel
theorem dX10_town_88 : decode cX10_town 88 = .ok (.iastore, 1) := by decide +kernel
theorem dX10_town_89 : decode cX10_town 89 = .ok (.aload_n 0, 1) := by decide +kernel
theorem dX10_town_90 : decode cX10_town 90 = .ok (.getfield 31, 3) := by decide +kernel
theorem dX10_town_93 : decode cX10_town 93 = .ok (.iload_n 2, 1) := by decide +kernel
theorem dX10_town_94 : decode cX10_town 94 = .ok (.aload_n 0, 1) := by decide +kernel
theorem dX10_town_95 : decode cX10_town 95 = .ok (.getfield 46, 3) := by decide +kernel
theorem dX10_town_98 : decode cX10_town 98 = .ok (.iconst 5, 1) := by decide +kernel
theorem dX10_town_99 : decode cX10_town 99 = .ok (.iload_n 2, 1) := by decide +kernel
theorem dX10_town_100 : decode cX10_town 100 = .ok (.imul, 1) := by decide +kernel
theorem dX10_town_101 : decode cX10_town 101 = .ok (.iconst 3, 1) := by decide +kernel
theorem dX10_town_102 : decode cX10_town 102 = .ok (.iadd, 1) := by decide +kernel
theorem dX10_town_103 : decode cX10_town 103 = .ok (.iaload, 1) := by decide +kernel
theorem dX10_town_104 : decode cX10_town 104 = .ok (.iastore, 1) := by decide +kernel
theorem dX10_town_105 : decode cX10_town 105 = .ok (.aload_n 0, 1) := by decide +kernel
theorem dX10_town_106 : decode cX10_town 106 = .ok (.getfield 34, 3) := by decide +kernel
theorem dX10_town_109 : decode cX10_town 109 = .ok (.iload_n 2, 1) := by decide +kernel
theorem dX10_town_110 : decode cX10_town 110 = .ok (.aload_n 0, 1) := by decide +kernel
theorem dX10_town_111 : decode cX10_town 111 = .ok (.getfield 46, 3) := by decide +kernel
theorem dX10_town_114 : decode cX10_town 114 = .ok (.iconst 5, 1) := by decide +kernel
theorem dX10_town_115 : decode cX10_town 115 = .ok (.iload_n 2, 1) := by decide +kernel
theorem dX10_town_116 : decode cX10_town 116 = .ok (.imul, 1) := by decide +kernel
theorem dX10_town_117 : decode cX10_town 117 = .ok (.iconst 4, 1) := by decide +kernel
theorem dX10_town_118 : decode cX10_town 118 = .ok (.iadd, 1) := by decide +kernel
theorem dX10_town_119 : decode cX10_town 119 = .ok (.iaload, 1) := by decide +kernel
theorem dX10_town_120 : decode cX10_town 120 = .ok (.iastore, 1) := by decide +kernel
theorem dX10_town_121 : decode cX10_town 121 = .ok (.iinc 2 1, 3) := by decide +kernel
theorem dX10_town_124 : decode cX10_town 124 = .ok (.goto (-89), 3) := by decide +kernel
theorem dX10_town_127 : decode cX10_town 127 = .ok (.iconst 0, 1) := by decide +kernel
theorem dX10_town_128 : decode cX10_town 128 = .ok (.istore_n 2, 1) := by decide +kernel
theorem dX10_town_129 : decode cX10_town 129 = .ok (.iload_n 2, 1) := by decide +kernel
theorem dX10_town_130 : decode cX10_town 130 = .ok (.aload_n 0, 1) := by decide +kernel
theorem dX10_town_131 : decode cX10_town 131 = .ok (.getfield 75, 3) := by decide +kernel
theorem dX10_town_134 : decode cX10_town 134 = .ok (.if_icmp .ge 60, 3) := by decide +kernel
theorem dX10_town_137 : decode cX10_town 137 = .ok (.aload_n 0, 1) := by decide +kernel
theorem dX10_town_138 : decode cX10_town 138 = .ok (.getfield 22, 3) := by decide +kernel
theorem dX10_town_141 : decode cX10_town 141 = .ok (.iload_n 2, 1) := by decide +kernel
theorem dX10_town_142 : decode cX10_town 142 = .ok (.aload_n 0, 1) := by decide +kernel
theorem dX10_town_143 : decode cX10_town 143 = .ok (.getfield 46, 3) := by decide +kernel
theorem dX10_town_146 : decode cX10_town 146 = .ok (.bipush 40, 2) := by decide +kernel
theorem dX10_town_148 : decode cX10_town 148 = .ok (.iconst 3, 1) := by decide +kernel
theorem dX10_town_149 : decode cX10_town 149 = .ok (.iload_n 2, 1) := by decide +kernel
theorem dX10_town_150 : decode cX10_town 150 = .ok (.imul, 1) := by decide +kernel
theorem dX10_town_151 : decode cX10_town 151 = .ok (.iadd, 1) := by decide +kernel
theorem dX10_town_152 : decode cX10_town 152 = .ok (.iaload, 1) := by decide +kernel
theorem dX10_town_153 : decode cX10_town 153 = .ok (.iastore, 1) := by decide +kernel
theorem dX10_town_154 : decode cX10_town 154 = .ok (.aload_n 0, 1) := by decide +kernel
theorem dX10_town_155 : decode cX10_town 155 = .ok (.getfield 25, 3) := by decide +kernel
theorem dX10_town_158 : decode cX10_town 158 = .ok (.iload_n 2, 1) := by decide +kernel
theorem dX10_town_159 : decode cX10_town 159 = .ok (.aload_n 0, 1) := by decide +kernel
theorem dX10_town_160 : decode cX10_town 160 = .ok (.getfield 46, 3) := by decide +kernel
theorem dX10_town_163 : decode cX10_town 163 = .ok (.bipush 41, 2) := by decide +kernel
theorem dX10_town_165 : decode cX10_town 165 = .ok (.iconst 3, 1) := by decide +kernel
theorem dX10_town_166 : decode cX10_town 166 = .ok (.iload_n 2, 1) := by decide +kernel
theorem dX10_town_167 : decode cX10_town 167 = .ok (.imul, 1) := by decide +kernel
theorem dX10_town_168 : decode cX10_town 168 = .ok (.iadd, 1) := by decide +kernel
theorem dX10_town_169 : decode cX10_town 169 = .ok (.iaload, 1) := by decide +kernel
theorem dX10_town_170 : decode cX10_town 170 = .ok (.iastore, 1) := by decide +kernel
theorem dX10_town_171 : decode cX10_town 171 = .ok (.aload_n 0, 1) := by decide +kernel
theorem dX10_town_172 : decode cX10_town 172 = .ok (.getfield 28, 3) := by decide +kernel
theorem dX10_town_175 : decode cX10_town 175 = .ok (.iload_n 2, 1) := by decide +kernel
theorem dX10_town_176 : decode cX10_town 176 = .ok (.aload_n 0, 1) := by decide +kernel
theorem dX10_town_177 : decode cX10_town 177 = .ok (.getfield 46, 3) := by decide +kernel
theorem dX10_town_180 : decode cX10_town 180 = .ok (.bipush 42, 2) := by decide +kernel
theorem dX10_town_182 : decode cX10_town 182 = .ok (.iconst 3, 1) := by decide +kernel
theorem dX10_town_183 : decode cX10_town 183 = .ok (.iload_n 2, 1) := by decide +kernel
theorem dX10_town_184 : decode cX10_town 184 = .ok (.imul, 1) := by decide +kernel
theorem dX10_town_185 : decode cX10_town 185 = .ok (.iadd, 1) := by decide +kernel
theorem dX10_town_186 : decode cX10_town 186 = .ok (.iaload, 1) := by decide +kernel
theorem dX10_town_187 : decode cX10_town 187 = .ok (.iastore, 1) := by decide +kernel
theorem dX10_town_188 : decode cX10_town 188 = .ok (.iinc 2 1, 3) := by decide +kernel
theorem dX10_town_191 : decode cX10_town 191 = .ok (.goto (-62), 3) := by decide +kernel
theorem dX10_town_194 : decode cX10_town 194 = .ok (.aload_n 0, 1) := by decide +kernel
theorem dX10_town_195 : decode cX10_town 195 = .ok (.iconst 0, 1) := by decide +kernel
theorem dX10_town_196 : decode cX10_town 196 = .ok (.putfield 158, 3) := by decide +kernel
theorem dX10_town_199 : decode cX10_town 199 = .ok (.aload_n 0, 1) := by decide +kernel
theorem dX10_town_200 : decode cX10_town 200 = .ok (.iconst 0, 1) := by decide +kernel
theorem dX10_town_201 : decode cX10_town 201 = .ok (.putfield 80, 3) := by decide +kernel
theorem dX10_town_204 : decode cX10_town 204 = .ok (.aload_n 0, 1) := by decide +kernel
theorem dX10_town_205 : decode cX10_town 205 = .ok (.getfield 43, 3) := by decide +kernel
theorem dX10_town_208 : decode cX10_town 208 = .ok (.iconst 0, 1) := by decide +kernel
theorem dX10_town_209 : decode cX10_town 209 = .ok (.iconst 0, 1) := by decide +kernel
theorem dX10_town_210 : decode cX10_town 210 = .ok (.iastore, 1) := by decide +kernel
theorem dX10_town_211 : decode cX10_town 211 = .ok (.aload_n 0, 1) := by decide +kernel
theorem dX10_town_212 : decode cX10_town 212 = .ok (.getfield 43, 3) := by decide +kernel
theorem dX10_town_215 : decode cX10_town 215 = .ok (.bipush 40, 2) := by decide +kernel
theorem dX10_town_217 : decode cX10_town 217 = .ok (.iconst 0, 1) := by decide +kernel
theorem dX10_town_218 : decode cX10_town 218 = .ok (.iastore, 1) := by decide +kernel
theorem dX10_town_219 : decode cX10_town 219 = .ok (.iload_n 1, 1) := by decide +kernel
theorem dX10_town_220 : decode cX10_town 220 = .ok (.ireturn, 1) := by decide +kernel
theorem dX10_isStone_0 : decode cX10_isStone 0 = .ok (.aload_n 0, 1) := by decide +kernel
theorem dX10_isStone_1 : decode cX10_isStone 1 = .ok (.getfield 31, 3) := by decide +kernel
theorem dX10_isStone_4 : decode cX10_isStone 4 = .ok (.iload_n 1, 1) := by decide +kernel
theorem dX10_isStone_5 : decode cX10_isStone 5 = .ok (.iaload, 1) := by decide +kernel
theorem dX10_isStone_6 : decode cX10_isStone 6 = .ok (.bipush (-5), 2) := by decide +kernel
theorem dX10_isStone_8 : decode cX10_isStone 8 = .ok (.if_icmp .ne 7, 3) := by decide +kernel
theorem dX10_isStone_11 : decode cX10_isStone 11 = .ok (.iconst 1, 1) := by decide +kernel
theorem dX10_isStone_12 : decode cX10_isStone 12 = .ok (.goto 4, 3) := by decide +kernel
theorem dX10_isStone_15 : decode cX10_isStone 15 = .ok (.iconst 0, 1) := by decide +kernel
theorem dX10_isStone_16 : decode cX10_isStone 16 = .ok (.ireturn, 1) := by decide +kernel
theorem dX10_ownerOf_0 : decode cX10_ownerOf 0 = .ok (.aload_n 0, 1) := by decide +kernel
theorem dX10_ownerOf_1 : decode cX10_ownerOf 1 = .ok (.getfield 31, 3) := by decide +kernel
theorem dX10_ownerOf_4 : decode cX10_ownerOf 4 = .ok (.iload_n 1, 1) := by decide +kernel
theorem dX10_ownerOf_5 : decode cX10_ownerOf 5 = .ok (.iaload, 1) := by decide +kernel
theorem dX10_ownerOf_6 : decode cX10_ownerOf 6 = .ok (.ifCond .ge 8, 3) := by decide +kernel
theorem dX10_ownerOf_9 : decode cX10_ownerOf 9 = .ok (.bipush (-9), 2) := by decide +kernel
theorem dX10_ownerOf_11 : decode cX10_ownerOf 11 = .ok (.goto 9, 3) := by decide +kernel
theorem dX10_ownerOf_14 : decode cX10_ownerOf 14 = .ok (.aload_n 0, 1) := by decide +kernel
theorem dX10_ownerOf_15 : decode cX10_ownerOf 15 = .ok (.getfield 31, 3) := by decide +kernel
theorem dX10_ownerOf_18 : decode cX10_ownerOf 18 = .ok (.iload_n 1, 1) := by decide +kernel
theorem dX10_ownerOf_19 : decode cX10_ownerOf 19 = .ok (.iaload, 1) := by decide +kernel
theorem dX10_ownerOf_20 : decode cX10_ownerOf 20 = .ok (.ireturn, 1) := by decide +kernel
theorem dX10_piece_0 : decode cX10_piece 0 = .ok (.aload_n 0, 1) := by decide +kernel
theorem dX10_piece_1 : decode cX10_piece 1 = .ok (.iload_n 1, 1) := by decide +kernel
theorem dX10_piece_2 : decode cX10_piece 2 = .ok (.invokevirtual 161, 3) := by decide +kernel
theorem dX10_piece_5 : decode cX10_piece 5 = .ok (.ifCond .eq 15, 3) := by decide +kernel
theorem dX10_piece_8 : decode cX10_piece 8 = .ok (.iload_n 2, 1) := by decide +kernel
theorem dX10_piece_9 : decode cX10_piece 9 = .ok (.i2l, 1) := by decide +kernel
theorem dX10_piece_10 : decode cX10_piece 10 = .ok (.lconst 0, 1) := by decide +kernel
theorem dX10_piece_11 : decode cX10_piece 11 = .ok (.ldc2_w 164, 3) := by decide +kernel
theorem dX10_piece_14 : decode cX10_piece 14 = .ok (.invokestatic 71, 3) := by decide +kernel
theorem dX10_piece_17 : decode cX10_piece 17 = .ok (.ifCond .ne 5, 3) := by decide +kernel
theorem dX10_piece_20 : decode cX10_piece 20 = .ok (.iconst (-1), 1) := by decide +kernel
theorem dX10_piece_21 : decode cX10_piece 21 = .ok (.ireturn, 1) := by decide +kernel
theorem dX10_piece_22 : decode cX10_piece 22 = .ok (.iload_n 2, 1) := by decide +kernel
theorem dX10_piece_23 : decode cX10_piece 23 = .ok (.ifCond .ne 12, 3) := by decide +kernel
theorem dX10_piece_26 : decode cX10_piece 26 = .ok (.aload_n 0, 1) := by decide +kernel
theorem dX10_piece_27 : decode cX10_piece 27 = .ok (.getfield 13, 3) := by decide +kernel
theorem dX10_piece_30 : decode cX10_piece 30 = .ok (.iload_n 1, 1) := by decide +kernel
theorem dX10_piece_31 : decode cX10_piece 31 = .ok (.iaload, 1) := by decide +kernel
theorem dX10_piece_32 : decode cX10_piece 32 = .ok (.goto 71, 3) := by decide +kernel
theorem dX10_piece_35 : decode cX10_piece 35 = .ok (.iload_n 2, 1) := by decide +kernel
theorem dX10_piece_36 : decode cX10_piece 36 = .ok (.iconst 1, 1) := by decide +kernel
theorem dX10_piece_37 : decode cX10_piece 37 = .ok (.if_icmp .ne 12, 3) := by decide +kernel
theorem dX10_piece_40 : decode cX10_piece 40 = .ok (.aload_n 0, 1) := by decide +kernel
theorem dX10_piece_41 : decode cX10_piece 41 = .ok (.getfield 16, 3) := by decide +kernel
theorem dX10_piece_44 : decode cX10_piece 44 = .ok (.iload_n 1, 1) := by decide +kernel
theorem dX10_piece_45 : decode cX10_piece 45 = .ok (.iaload, 1) := by decide +kernel
theorem dX10_piece_46 : decode cX10_piece 46 = .ok (.goto 57, 3) := by decide +kernel
theorem dX10_piece_49 : decode cX10_piece 49 = .ok (.iload_n 2, 1) := by decide +kernel
theorem dX10_piece_50 : decode cX10_piece 50 = .ok (.iconst 2, 1) := by decide +kernel
theorem dX10_piece_51 : decode cX10_piece 51 = .ok (.if_icmp .ne 12, 3) := by decide +kernel
theorem dX10_piece_54 : decode cX10_piece 54 = .ok (.aload_n 0, 1) := by decide +kernel
theorem dX10_piece_55 : decode cX10_piece 55 = .ok (.getfield 19, 3) := by decide +kernel
theorem dX10_piece_58 : decode cX10_piece 58 = .ok (.iload_n 1, 1) := by decide +kernel
theorem dX10_piece_59 : decode cX10_piece 59 = .ok (.iaload, 1) := by decide +kernel
theorem dX10_piece_60 : decode cX10_piece 60 = .ok (.goto 43, 3) := by decide +kernel
theorem dX10_piece_63 : decode cX10_piece 63 = .ok (.iload_n 2, 1) := by decide +kernel
theorem dX10_piece_64 : decode cX10_piece 64 = .ok (.iconst 3, 1) := by decide +kernel
theorem dX10_piece_65 : decode cX10_piece 65 = .ok (.if_icmp .ne 11, 3) := by decide +kernel
theorem dX10_piece_68 : decode cX10_piece 68 = .ok (.aload_n 0, 1) := by decide +kernel
theorem dX10_piece_69 : decode cX10_piece 69 = .ok (.iload_n 1, 1) := by decide +kernel
theorem dX10_piece_70 : decode cX10_piece 70 = .ok (.invokevirtual 166, 3) := by decide +kernel
theorem dX10_piece_73 : decode cX10_piece 73 = .ok (.goto 30, 3) := by decide +kernel
theorem dX10_piece_76 : decode cX10_piece 76 = .ok (.iload_n 2, 1) := by decide +kernel
theorem dX10_piece_77 : decode cX10_piece 77 = .ok (.iconst 4, 1) := by decide +kernel
theorem dX10_piece_78 : decode cX10_piece 78 = .ok (.if_icmp .ne 19, 3) := by decide +kernel
theorem dX10_piece_81 : decode cX10_piece 81 = .ok (.aload_n 0, 1) := by decide +kernel
theorem dX10_piece_82 : decode cX10_piece 82 = .ok (.iload_n 1, 1) := by decide +kernel
theorem dX10_piece_83 : decode cX10_piece 83 = .ok (.invokevirtual 170, 3) := by decide +kernel
theorem dX10_piece_86 : decode cX10_piece 86 = .ok (.ifCond .eq 7, 3) := by decide +kernel
theorem dX10_piece_89 : decode cX10_piece 89 = .ok (.iconst 1, 1) := by decide +kernel
theorem dX10_piece_90 : decode cX10_piece 90 = .ok (.goto 13, 3) := by decide +kernel
theorem dX10_piece_93 : decode cX10_piece 93 = .ok (.iconst 0, 1) := by decide +kernel
theorem dX10_piece_94 : decode cX10_piece 94 = .ok (.goto 9, 3) := by decide +kernel
theorem dX10_piece_97 : decode cX10_piece 97 = .ok (.aload_n 0, 1) := by decide +kernel
theorem dX10_piece_98 : decode cX10_piece 98 = .ok (.getfield 34, 3) := by decide +kernel
theorem dX10_piece_101 : decode cX10_piece 101 = .ok (.iload_n 1, 1) := by decide +kernel
theorem dX10_piece_102 : decode cX10_piece 102 = .ok (.iaload, 1) := by decide +kernel
theorem dX10_piece_103 : decode cX10_piece 103 = .ok (.ireturn, 1) := by decide +kernel
theorem dX10_ownBy_0 : decode cX10_ownBy 0 = .ok (.iconst 0, 1) := by decide +kernel
theorem dX10_ownBy_1 : decode cX10_ownBy 1 = .ok (.istore_n 3, 1) := by decide +kernel
theorem dX10_ownBy_2 : decode cX10_ownBy 2 = .ok (.iconst 0, 1) := by decide +kernel
theorem dX10_ownBy_3 : decode cX10_ownBy 3 = .ok (.istore 4, 2) := by decide +kernel
theorem dX10_ownBy_5 : decode cX10_ownBy 5 = .ok (.iload 4, 2) := by decide +kernel
theorem dX10_ownBy_7 : decode cX10_ownBy 7 = .ok (.aload_n 0, 1) := by decide +kernel
theorem dX10_ownBy_8 : decode cX10_ownBy 8 = .ok (.getfield 67, 3) := by decide +kernel
theorem dX10_ownBy_11 : decode cX10_ownBy 11 = .ok (.if_icmp .ge 28, 3) := by decide +kernel
theorem dX10_ownBy_14 : decode cX10_ownBy 14 = .ok (.iload_n 3, 1) := by decide +kernel
theorem dX10_ownBy_15 : decode cX10_ownBy 15 = .ok (.aload_n 1, 1) := by decide +kernel
theorem dX10_ownBy_16 : decode cX10_ownBy 16 = .ok (.iload 4, 2) := by decide +kernel
theorem dX10_ownBy_18 : decode cX10_ownBy 18 = .ok (.iaload, 1) := by decide +kernel
theorem dX10_ownBy_19 : decode cX10_ownBy 19 = .ok (.iload_n 2, 1) := by decide +kernel
theorem dX10_ownBy_20 : decode cX10_ownBy 20 = .ok (.if_icmp .ne 10, 3) := by decide +kernel
theorem dX10_ownBy_23 : decode cX10_ownBy 23 = .ok (.iconst 1, 1) := by decide +kernel
theorem dX10_ownBy_24 : decode cX10_ownBy 24 = .ok (.iload 4, 2) := by decide +kernel
theorem dX10_ownBy_26 : decode cX10_ownBy 26 = .ok (.ishl, 1) := by decide +kernel
theorem dX10_ownBy_27 : decode cX10_ownBy 27 = .ok (.goto 4, 3) := by decide +kernel
theorem dX10_ownBy_30 : decode cX10_ownBy 30 = .ok (.iconst 0, 1) := by decide +kernel
theorem dX10_ownBy_31 : decode cX10_ownBy 31 = .ok (.ior, 1) := by decide +kernel
theorem dX10_ownBy_32 : decode cX10_ownBy 32 = .ok (.istore_n 3, 1) := by decide +kernel
theorem dX10_ownBy_33 : decode cX10_ownBy 33 = .ok (.iinc 4 1, 3) := by decide +kernel
theorem dX10_ownBy_36 : decode cX10_ownBy 36 = .ok (.goto (-31), 3) := by decide +kernel
theorem dX10_ownBy_39 : decode cX10_ownBy 39 = .ok (.iload_n 3, 1) := by decide +kernel
theorem dX10_ownBy_40 : decode cX10_ownBy 40 = .ok (.ireturn, 1) := by decide +kernel
theorem dX10_many_0 : decode cX10_many 0 = .ok (.iconst 0, 1) := by decide +kernel
theorem dX10_many_1 : decode cX10_many 1 = .ok (.istore_n 1, 1) := by decide +kernel
theorem dX10_many_2 : decode cX10_many 2 = .ok (.iload_n 0, 1) := by decide +kernel
theorem dX10_many_3 : decode cX10_many 3 = .ok (.istore_n 2, 1) := by decide +kernel
theorem dX10_many_4 : decode cX10_many 4 = .ok (.iload_n 2, 1) := by decide +kernel
theorem dX10_many_5 : decode cX10_many 5 = .ok (.ifCond .eq 15, 3) := by decide +kernel
theorem dX10_many_8 : decode cX10_many 8 = .ok (.iinc 1 1, 3) := by decide +kernel
theorem dX10_many_11 : decode cX10_many 11 = .ok (.iload_n 2, 1) := by decide +kernel
theorem dX10_many_12 : decode cX10_many 12 = .ok (.iload_n 2, 1) := by decide +kernel
theorem dX10_many_13 : decode cX10_many 13 = .ok (.iconst 1, 1) := by decide +kernel
theorem dX10_many_14 : decode cX10_many 14 = .ok (.isub, 1) := by decide +kernel
theorem dX10_many_15 : decode cX10_many 15 = .ok (.iand, 1) := by decide +kernel
theorem dX10_many_16 : decode cX10_many 16 = .ok (.istore_n 2, 1) := by decide +kernel
theorem dX10_many_17 : decode cX10_many 17 = .ok (.goto (-13), 3) := by decide +kernel
theorem dX10_many_20 : decode cX10_many 20 = .ok (.iload_n 1, 1) := by decide +kernel
theorem dX10_many_21 : decode cX10_many 21 = .ok (.ireturn, 1) := by decide +kernel
theorem dX10_family_0 : decode cX10_family 0 = .ok (.aload_n 0, 1) := by decide +kernel
theorem dX10_family_1 : decode cX10_family 1 = .ok (.iload_n 1, 1) := by decide +kernel
theorem dX10_family_2 : decode cX10_family 2 = .ok (.invokevirtual 173, 3) := by decide +kernel
theorem dX10_family_5 : decode cX10_family 5 = .ok (.ifCond .eq 15, 3) := by decide +kernel
theorem dX10_family_8 : decode cX10_family 8 = .ok (.iload_n 2, 1) := by decide +kernel
theorem dX10_family_9 : decode cX10_family 9 = .ok (.i2l, 1) := by decide +kernel
theorem dX10_family_10 : decode cX10_family 10 = .ok (.lconst 0, 1) := by decide +kernel
theorem dX10_family_11 : decode cX10_family 11 = .ok (.ldc2_w 176, 3) := by decide +kernel
theorem dX10_family_14 : decode cX10_family 14 = .ok (.invokestatic 71, 3) := by decide +kernel
theorem dX10_family_17 : decode cX10_family 17 = .ok (.ifCond .ne 5, 3) := by decide +kernel
theorem dX10_family_20 : decode cX10_family 20 = .ok (.iconst (-1), 1) := by decide +kernel
theorem dX10_family_21 : decode cX10_family 21 = .ok (.ireturn, 1) := by decide +kernel
theorem dX10_family_22 : decode cX10_family 22 = .ok (.iload_n 2, 1) := by decide +kernel
theorem dX10_family_23 : decode cX10_family 23 = .ok (.ifCond .ne 12, 3) := by decide +kernel
theorem dX10_family_26 : decode cX10_family 26 = .ok (.aload_n 0, 1) := by decide +kernel
theorem dX10_family_27 : decode cX10_family 27 = .ok (.getfield 22, 3) := by decide +kernel
theorem dX10_family_30 : decode cX10_family 30 = .ok (.iload_n 1, 1) := by decide +kernel
theorem dX10_family_31 : decode cX10_family 31 = .ok (.iaload, 1) := by decide +kernel
theorem dX10_family_32 : decode cX10_family 32 = .ok (.goto 43, 3) := by decide +kernel
theorem dX10_family_35 : decode cX10_family 35 = .ok (.iload_n 2, 1) := by decide +kernel
theorem dX10_family_36 : decode cX10_family 36 = .ok (.iconst 1, 1) := by decide +kernel
theorem dX10_family_37 : decode cX10_family 37 = .ok (.if_icmp .ne 12, 3) := by decide +kernel
theorem dX10_family_40 : decode cX10_family 40 = .ok (.aload_n 0, 1) := by decide +kernel
theorem dX10_family_41 : decode cX10_family 41 = .ok (.getfield 25, 3) := by decide +kernel
theorem dX10_family_44 : decode cX10_family 44 = .ok (.iload_n 1, 1) := by decide +kernel
theorem dX10_family_45 : decode cX10_family 45 = .ok (.iaload, 1) := by decide +kernel
theorem dX10_family_46 : decode cX10_family 46 = .ok (.goto 29, 3) := by decide +kernel
theorem dX10_family_49 : decode cX10_family 49 = .ok (.iload_n 2, 1) := by decide +kernel
theorem dX10_family_50 : decode cX10_family 50 = .ok (.iconst 2, 1) := by decide +kernel
theorem dX10_family_51 : decode cX10_family 51 = .ok (.if_icmp .ne 12, 3) := by decide +kernel
theorem dX10_family_54 : decode cX10_family 54 = .ok (.aload_n 0, 1) := by decide +kernel
theorem dX10_family_55 : decode cX10_family 55 = .ok (.getfield 28, 3) := by decide +kernel
theorem dX10_family_58 : decode cX10_family 58 = .ok (.iload_n 1, 1) := by decide +kernel
theorem dX10_family_59 : decode cX10_family 59 = .ok (.iaload, 1) := by decide +kernel
theorem dX10_family_60 : decode cX10_family 60 = .ok (.goto 15, 3) := by decide +kernel
theorem dX10_family_63 : decode cX10_family 63 = .ok (.aload_n 0, 1) := by decide +kernel
theorem dX10_family_64 : decode cX10_family 64 = .ok (.aload_n 0, 1) := by decide +kernel
theorem dX10_family_65 : decode cX10_family 65 = .ok (.getfield 31, 3) := by decide +kernel
theorem dX10_family_68 : decode cX10_family 68 = .ok (.iload_n 1, 1) := by decide +kernel
theorem dX10_family_69 : decode cX10_family 69 = .ok (.invokevirtual 178, 3) := by decide +kernel
theorem dX10_family_72 : decode cX10_family 72 = .ok (.invokestatic 182, 3) := by decide +kernel
theorem dX10_family_75 : decode cX10_family 75 = .ok (.ireturn, 1) := by decide +kernel
theorem dX10_pave_0 : decode cX10_pave 0 = .ok (.aload_n 0, 1) := by decide +kernel
theorem dX10_pave_1 : decode cX10_pave 1 = .ok (.iload_n 1, 1) := by decide +kernel
theorem dX10_pave_2 : decode cX10_pave 2 = .ok (.invokevirtual 161, 3) := by decide +kernel
theorem dX10_pave_5 : decode cX10_pave 5 = .ok (.ifCond .eq 11, 3) := by decide +kernel
theorem dX10_pave_8 : decode cX10_pave 8 = .ok (.aload_n 0, 1) := by decide +kernel
theorem dX10_pave_9 : decode cX10_pave 9 = .ok (.iload_n 2, 1) := by decide +kernel
theorem dX10_pave_10 : decode cX10_pave 10 = .ok (.invokevirtual 173, 3) := by decide +kernel
theorem dX10_pave_13 : decode cX10_pave 13 = .ok (.ifCond .ne 5, 3) := by decide +kernel
theorem dX10_pave_16 : decode cX10_pave 16 = .ok (.iconst (-1), 1) := by decide +kernel
theorem dX10_pave_17 : decode cX10_pave 17 = .ok (.ireturn, 1) := by decide +kernel
theorem dX10_pave_18 : decode cX10_pave 18 = .ok (.aload_n 0, 1) := by decide +kernel
theorem dX10_pave_19 : decode cX10_pave 19 = .ok (.iload_n 1, 1) := by decide +kernel
theorem dX10_pave_20 : decode cX10_pave 20 = .ok (.invokevirtual 170, 3) := by decide +kernel
theorem dX10_pave_23 : decode cX10_pave 23 = .ok (.ifCond .eq 6, 3) := by decide +kernel
theorem dX10_pave_26 : decode cX10_pave 26 = .ok (.bipush (-2), 2) := by decide +kernel
theorem dX10_pave_28 : decode cX10_pave 28 = .ok (.ireturn, 1) := by decide +kernel
theorem dX10_pave_29 : decode cX10_pave 29 = .ok (.aload_n 0, 1) := by decide +kernel
theorem dX10_pave_30 : decode cX10_pave 30 = .ok (.getfield 31, 3) := by decide +kernel
theorem dX10_pave_33 : decode cX10_pave 33 = .ok (.iload_n 1, 1) := by decide +kernel
theorem dX10_pave_34 : decode cX10_pave 34 = .ok (.iaload, 1) := by decide +kernel
theorem dX10_pave_35 : decode cX10_pave 35 = .ok (.istore_n 3, 1) := by decide +kernel
theorem dX10_pave_36 : decode cX10_pave 36 = .ok (.aload_n 0, 1) := by decide +kernel
theorem dX10_pave_37 : decode cX10_pave 37 = .ok (.getfield 31, 3) := by decide +kernel
theorem dX10_pave_40 : decode cX10_pave 40 = .ok (.iload_n 1, 1) := by decide +kernel
theorem dX10_pave_41 : decode cX10_pave 41 = .ok (.iload_n 2, 1) := by decide +kernel
theorem dX10_pave_42 : decode cX10_pave 42 = .ok (.iastore, 1) := by decide +kernel
theorem dX10_pave_43 : decode cX10_pave 43 = .ok (.iload_n 3, 1) := by decide +kernel
theorem dX10_pave_44 : decode cX10_pave 44 = .ok (.ireturn, 1) := by decide +kernel
theorem dX10_free_0 : decode cX10_free 0 = .ok (.aload_n 0, 1) := by decide +kernel
theorem dX10_free_1 : decode cX10_free 1 = .ok (.iload_n 1, 1) := by decide +kernel
theorem dX10_free_2 : decode cX10_free 2 = .ok (.invokevirtual 161, 3) := by decide +kernel
theorem dX10_free_5 : decode cX10_free 5 = .ok (.ifCond .ne 5, 3) := by decide +kernel
theorem dX10_free_8 : decode cX10_free 8 = .ok (.iconst (-1), 1) := by decide +kernel
theorem dX10_free_9 : decode cX10_free 9 = .ok (.ireturn, 1) := by decide +kernel
theorem dX10_free_10 : decode cX10_free 10 = .ok (.aload_n 0, 1) := by decide +kernel
theorem dX10_free_11 : decode cX10_free 11 = .ok (.getfield 31, 3) := by decide +kernel
theorem dX10_free_14 : decode cX10_free 14 = .ok (.iload_n 1, 1) := by decide +kernel
theorem dX10_free_15 : decode cX10_free 15 = .ok (.iaload, 1) := by decide +kernel
theorem dX10_free_16 : decode cX10_free 16 = .ok (.ifCond .ge 6, 3) := by decide +kernel
theorem dX10_free_19 : decode cX10_free 19 = .ok (.bipush (-2), 2) := by decide +kernel
theorem dX10_free_21 : decode cX10_free 21 = .ok (.ireturn, 1) := by decide +kernel
theorem dX10_free_22 : decode cX10_free 22 = .ok (.aload_n 0, 1) := by decide +kernel
theorem dX10_free_23 : decode cX10_free 23 = .ok (.getfield 31, 3) := by decide +kernel
theorem dX10_free_26 : decode cX10_free 26 = .ok (.iload_n 1, 1) := by decide +kernel
theorem dX10_free_27 : decode cX10_free 27 = .ok (.iaload, 1) := by decide +kernel
theorem dX10_free_28 : decode cX10_free 28 = .ok (.istore_n 2, 1) := by decide +kernel
theorem dX10_free_29 : decode cX10_free 29 = .ok (.aload_n 0, 1) := by decide +kernel
theorem dX10_free_30 : decode cX10_free 30 = .ok (.getfield 31, 3) := by decide +kernel
theorem dX10_free_33 : decode cX10_free 33 = .ok (.iload_n 1, 1) := by decide +kernel
theorem dX10_free_34 : decode cX10_free 34 = .ok (.bipush (-9), 2) := by decide +kernel
theorem dX10_free_36 : decode cX10_free 36 = .ok (.iastore, 1) := by decide +kernel
theorem dX10_free_37 : decode cX10_free 37 = .ok (.iload_n 2, 1) := by decide +kernel
theorem dX10_free_38 : decode cX10_free 38 = .ok (.ireturn, 1) := by decide +kernel
theorem dX10_stone_0 : decode cX10_stone 0 = .ok (.aload_n 0, 1) := by decide +kernel
theorem dX10_stone_1 : decode cX10_stone 1 = .ok (.iload_n 1, 1) := by decide +kernel
theorem dX10_stone_2 : decode cX10_stone 2 = .ok (.invokevirtual 161, 3) := by decide +kernel
theorem dX10_stone_5 : decode cX10_stone 5 = .ok (.ifCond .eq 13, 3) := by decide +kernel
theorem dX10_stone_8 : decode cX10_stone 8 = .ok (.iload_n 2, 1) := by decide +kernel
theorem dX10_stone_9 : decode cX10_stone 9 = .ok (.i2l, 1) := by decide +kernel
theorem dX10_stone_10 : decode cX10_stone 10 = .ok (.lconst 0, 1) := by decide +kernel
theorem dX10_stone_11 : decode cX10_stone 11 = .ok (.lconst 1, 1) := by decide +kernel
theorem dX10_stone_12 : decode cX10_stone 12 = .ok (.invokestatic 71, 3) := by decide +kernel
theorem dX10_stone_15 : decode cX10_stone 15 = .ok (.ifCond .ne 5, 3) := by decide +kernel
theorem dX10_stone_18 : decode cX10_stone 18 = .ok (.iconst (-1), 1) := by decide +kernel
theorem dX10_stone_19 : decode cX10_stone 19 = .ok (.ireturn, 1) := by decide +kernel
theorem dX10_stone_20 : decode cX10_stone 20 = .ok (.aload_n 0, 1) := by decide +kernel
theorem dX10_stone_21 : decode cX10_stone 21 = .ok (.iload_n 1, 1) := by decide +kernel
theorem dX10_stone_22 : decode cX10_stone 22 = .ok (.invokevirtual 170, 3) := by decide +kernel
theorem dX10_stone_25 : decode cX10_stone 25 = .ok (.ifCond .eq 7, 3) := by decide +kernel
theorem dX10_stone_28 : decode cX10_stone 28 = .ok (.iconst 1, 1) := by decide +kernel
theorem dX10_stone_29 : decode cX10_stone 29 = .ok (.goto 4, 3) := by decide +kernel
theorem dX10_stone_32 : decode cX10_stone 32 = .ok (.iconst 0, 1) := by decide +kernel
theorem dX10_stone_33 : decode cX10_stone 33 = .ok (.istore_n 3, 1) := by decide +kernel
theorem dX10_stone_34 : decode cX10_stone 34 = .ok (.iload_n 2, 1) := by decide +kernel
theorem dX10_stone_35 : decode cX10_stone 35 = .ok (.iconst 1, 1) := by decide +kernel
theorem dX10_stone_36 : decode cX10_stone 36 = .ok (.if_icmp .ne 14, 3) := by decide +kernel
theorem dX10_stone_39 : decode cX10_stone 39 = .ok (.aload_n 0, 1) := by decide +kernel
theorem dX10_stone_40 : decode cX10_stone 40 = .ok (.getfield 31, 3) := by decide +kernel
theorem dX10_stone_43 : decode cX10_stone 43 = .ok (.iload_n 1, 1) := by decide +kernel
theorem dX10_stone_44 : decode cX10_stone 44 = .ok (.bipush (-5), 2) := by decide +kernel
theorem dX10_stone_46 : decode cX10_stone 46 = .ok (.iastore, 1) := by decide +kernel
theorem dX10_stone_47 : decode cX10_stone 47 = .ok (.goto 16, 3) := by decide +kernel
theorem dX10_stone_50 : decode cX10_stone 50 = .ok (.iload_n 3, 1) := by decide +kernel
theorem dX10_stone_51 : decode cX10_stone 51 = .ok (.iconst 1, 1) := by decide +kernel
theorem dX10_stone_52 : decode cX10_stone 52 = .ok (.if_icmp .ne 11, 3) := by decide +kernel
theorem dX10_stone_55 : decode cX10_stone 55 = .ok (.aload_n 0, 1) := by decide +kernel
theorem dX10_stone_56 : decode cX10_stone 56 = .ok (.getfield 31, 3) := by decide +kernel
theorem dX10_stone_59 : decode cX10_stone 59 = .ok (.iload_n 1, 1) := by decide +kernel
theorem dX10_stone_60 : decode cX10_stone 60 = .ok (.bipush (-9), 2) := by decide +kernel
theorem dX10_stone_62 : decode cX10_stone 62 = .ok (.iastore, 1) := by decide +kernel
theorem dX10_stone_63 : decode cX10_stone 63 = .ok (.iload_n 3, 1) := by decide +kernel
theorem dX10_stone_64 : decode cX10_stone 64 = .ok (.ireturn, 1) := by decide +kernel
theorem dX10_flood_0 : decode cX10_flood 0 = .ok (.aload_n 0, 1) := by decide +kernel
theorem dX10_flood_1 : decode cX10_flood 1 = .ok (.iload_n 1, 1) := by decide +kernel
theorem dX10_flood_2 : decode cX10_flood 2 = .ok (.invokevirtual 161, 3) := by decide +kernel
theorem dX10_flood_5 : decode cX10_flood 5 = .ok (.ifCond .eq 15, 3) := by decide +kernel
theorem dX10_flood_8 : decode cX10_flood 8 = .ok (.iload_n 2, 1) := by decide +kernel
theorem dX10_flood_9 : decode cX10_flood 9 = .ok (.i2l, 1) := by decide +kernel
theorem dX10_flood_10 : decode cX10_flood 10 = .ok (.lconst 0, 1) := by decide +kernel
theorem dX10_flood_11 : decode cX10_flood 11 = .ok (.ldc2_w 185, 3) := by decide +kernel
theorem dX10_flood_14 : decode cX10_flood 14 = .ok (.invokestatic 71, 3) := by decide +kernel
theorem dX10_flood_17 : decode cX10_flood 17 = .ok (.ifCond .ne 5, 3) := by decide +kernel
theorem dX10_flood_20 : decode cX10_flood 20 = .ok (.iconst (-1), 1) := by decide +kernel
theorem dX10_flood_21 : decode cX10_flood 21 = .ok (.ireturn, 1) := by decide +kernel
theorem dX10_flood_22 : decode cX10_flood 22 = .ok (.aload_n 0, 1) := by decide +kernel
theorem dX10_flood_23 : decode cX10_flood 23 = .ok (.getfield 34, 3) := by decide +kernel
theorem dX10_flood_26 : decode cX10_flood 26 = .ok (.iload_n 1, 1) := by decide +kernel
theorem dX10_flood_27 : decode cX10_flood 27 = .ok (.iaload, 1) := by decide +kernel
theorem dX10_flood_28 : decode cX10_flood 28 = .ok (.istore_n 3, 1) := by decide +kernel
theorem dX10_flood_29 : decode cX10_flood 29 = .ok (.aload_n 0, 1) := by decide +kernel
theorem dX10_flood_30 : decode cX10_flood 30 = .ok (.getfield 34, 3) := by decide +kernel
theorem dX10_flood_33 : decode cX10_flood 33 = .ok (.iload_n 1, 1) := by decide +kernel
theorem dX10_flood_34 : decode cX10_flood 34 = .ok (.iload_n 2, 1) := by decide +kernel
theorem dX10_flood_35 : decode cX10_flood 35 = .ok (.iastore, 1) := by decide +kernel
theorem dX10_flood_36 : decode cX10_flood 36 = .ok (.iload_n 3, 1) := by decide +kernel
theorem dX10_flood_37 : decode cX10_flood 37 = .ok (.ireturn, 1) := by decide +kernel
theorem dX10_measures_0 : decode cX10_measures 0 = .ok (.iconst 0, 1) := by decide +kernel
theorem dX10_measures_1 : decode cX10_measures 1 = .ok (.istore_n 3, 1) := by decide +kernel
theorem dX10_measures_2 : decode cX10_measures 2 = .ok (.iload_n 3, 1) := by decide +kernel
theorem dX10_measures_3 : decode cX10_measures 3 = .ok (.bipush 6, 2) := by decide +kernel
theorem dX10_measures_5 : decode cX10_measures 5 = .ok (.if_icmp .ge 26, 3) := by decide +kernel
theorem dX10_measures_8 : decode cX10_measures 8 = .ok (.aload_n 0, 1) := by decide +kernel
theorem dX10_measures_9 : decode cX10_measures 9 = .ok (.getfield 49, 3) := by decide +kernel
theorem dX10_measures_12 : decode cX10_measures 12 = .ok (.iload_n 3, 1) := by decide +kernel
theorem dX10_measures_13 : decode cX10_measures 13 = .ok (.iload_n 3, 1) := by decide +kernel
theorem dX10_measures_14 : decode cX10_measures 14 = .ok (.iload_n 1, 1) := by decide +kernel
theorem dX10_measures_15 : decode cX10_measures 15 = .ok (.if_icmp .ne 7, 3) := by decide +kernel
theorem dX10_measures_18 : decode cX10_measures 18 = .ok (.iconst 0, 1) := by decide +kernel
theorem dX10_measures_19 : decode cX10_measures 19 = .ok (.goto 5, 3) := by decide +kernel
theorem dX10_measures_22 : decode cX10_measures 22 = .ok (.ldc 187, 2) := by decide +kernel
theorem dX10_measures_24 : decode cX10_measures 24 = .ok (.iastore, 1) := by decide +kernel
theorem dX10_measures_25 : decode cX10_measures 25 = .ok (.iinc 3 1, 3) := by decide +kernel
theorem dX10_measures_28 : decode cX10_measures 28 = .ok (.goto (-26), 3) := by decide +kernel
theorem dX10_measures_31 : decode cX10_measures 31 = .ok (.iconst 1, 1) := by decide +kernel
theorem dX10_measures_32 : decode cX10_measures 32 = .ok (.istore_n 3, 1) := by decide +kernel
theorem dX10_measures_33 : decode cX10_measures 33 = .ok (.iload_n 3, 1) := by decide +kernel
theorem dX10_measures_34 : decode cX10_measures 34 = .ok (.bipush 6, 2) := by decide +kernel
theorem dX10_measures_36 : decode cX10_measures 36 = .ok (.if_icmp .ge 200, 3) := by decide +kernel
theorem dX10_measures_39 : decode cX10_measures 39 = .ok (.iconst 0, 1) := by decide +kernel
theorem dX10_measures_40 : decode cX10_measures 40 = .ok (.istore 4, 2) := by decide +kernel
theorem dX10_measures_42 : decode cX10_measures 42 = .ok (.iload 4, 2) := by decide +kernel
theorem dX10_measures_44 : decode cX10_measures 44 = .ok (.aload_n 0, 1) := by decide +kernel
theorem dX10_measures_45 : decode cX10_measures 45 = .ok (.getfield 67, 3) := by decide +kernel
theorem dX10_measures_48 : decode cX10_measures 48 = .ok (.if_icmp .ge 182, 3) := by decide +kernel
theorem dX10_measures_51 : decode cX10_measures 51 = .ok (.iload_n 2, 1) := by decide +kernel
theorem dX10_measures_52 : decode cX10_measures 52 = .ok (.iload 4, 2) := by decide +kernel
theorem dX10_measures_54 : decode cX10_measures 54 = .ok (.ishr, 1) := by decide +kernel
theorem dX10_measures_55 : decode cX10_measures 55 = .ok (.iconst 1, 1) := by decide +kernel
theorem dX10_measures_56 : decode cX10_measures 56 = .ok (.iand, 1) := by decide +kernel
theorem dX10_measures_57 : decode cX10_measures 57 = .ok (.iconst 1, 1) := by decide +kernel
theorem dX10_measures_58 : decode cX10_measures 58 = .ok (.if_icmp .ne 8, 3) := by decide +kernel
theorem dX10_measures_61 : decode cX10_measures 61 = .ok (.ldc 187, 2) := by decide +kernel
theorem dX10_measures_63 : decode cX10_measures 63 = .ok (.goto 15, 3) := by decide +kernel
theorem dX10_measures_66 : decode cX10_measures 66 = .ok (.bipush 16, 2) := by decide +kernel
theorem dX10_measures_68 : decode cX10_measures 68 = .ok (.aload_n 0, 1) := by decide +kernel
theorem dX10_measures_69 : decode cX10_measures 69 = .ok (.getfield 19, 3) := by decide +kernel
theorem dX10_measures_72 : decode cX10_measures 72 = .ok (.iload 4, 2) := by decide +kernel
theorem dX10_measures_74 : decode cX10_measures 74 = .ok (.iaload, 1) := by decide +kernel
theorem dX10_measures_75 : decode cX10_measures 75 = .ok (.imul, 1) := by decide +kernel
theorem dX10_measures_76 : decode cX10_measures 76 = .ok (.iconst 1, 1) := by decide +kernel
theorem dX10_measures_77 : decode cX10_measures 77 = .ok (.iadd, 1) := by decide +kernel
theorem dX10_measures_78 : decode cX10_measures 78 = .ok (.istore 5, 2) := by decide +kernel
theorem dX10_measures_80 : decode cX10_measures 80 = .ok (.aload_n 0, 1) := by decide +kernel
theorem dX10_measures_81 : decode cX10_measures 81 = .ok (.getfield 49, 3) := by decide +kernel
theorem dX10_measures_84 : decode cX10_measures 84 = .ok (.aload_n 0, 1) := by decide +kernel
theorem dX10_measures_85 : decode cX10_measures 85 = .ok (.getfield 13, 3) := by decide +kernel
theorem dX10_measures_88 : decode cX10_measures 88 = .ok (.iload 4, 2) := by decide +kernel
theorem dX10_measures_90 : decode cX10_measures 90 = .ok (.iaload, 1) := by decide +kernel
theorem dX10_measures_91 : decode cX10_measures 91 = .ok (.aload_n 0, 1) := by decide +kernel
theorem dX10_measures_92 : decode cX10_measures 92 = .ok (.getfield 49, 3) := by decide +kernel
theorem dX10_measures_95 : decode cX10_measures 95 = .ok (.aload_n 0, 1) := by decide +kernel
theorem dX10_measures_96 : decode cX10_measures 96 = .ok (.getfield 16, 3) := by decide +kernel
theorem dX10_measures_99 : decode cX10_measures 99 = .ok (.iload 4, 2) := by decide +kernel
theorem dX10_measures_101 : decode cX10_measures 101 = .ok (.iaload, 1) := by decide +kernel
theorem dX10_measures_102 : decode cX10_measures 102 = .ok (.iaload, 1) := by decide +kernel
theorem dX10_measures_103 : decode cX10_measures 103 = .ok (.iload 5, 2) := by decide +kernel
theorem dX10_measures_105 : decode cX10_measures 105 = .ok (.iadd, 1) := by decide +kernel
theorem dX10_measures_106 : decode cX10_measures 106 = .ok (.aload_n 0, 1) := by decide +kernel
theorem dX10_measures_107 : decode cX10_measures 107 = .ok (.getfield 49, 3) := by decide +kernel
theorem dX10_measures_110 : decode cX10_measures 110 = .ok (.aload_n 0, 1) := by decide +kernel
theorem dX10_measures_111 : decode cX10_measures 111 = .ok (.getfield 13, 3) := by decide +kernel
theorem dX10_measures_114 : decode cX10_measures 114 = .ok (.iload 4, 2) := by decide +kernel
theorem dX10_measures_116 : decode cX10_measures 116 = .ok (.iaload, 1) := by decide +kernel
theorem dX10_measures_117 : decode cX10_measures 117 = .ok (.iaload, 1) := by decide +kernel
theorem dX10_measures_118 : decode cX10_measures 118 = .ok (.if_icmp .ge 21, 3) := by decide +kernel
theorem dX10_measures_121 : decode cX10_measures 121 = .ok (.aload_n 0, 1) := by decide +kernel
theorem dX10_measures_122 : decode cX10_measures 122 = .ok (.getfield 49, 3) := by decide +kernel
theorem dX10_measures_125 : decode cX10_measures 125 = .ok (.aload_n 0, 1) := by decide +kernel
theorem dX10_measures_126 : decode cX10_measures 126 = .ok (.getfield 16, 3) := by decide +kernel
theorem dX10_measures_129 : decode cX10_measures 129 = .ok (.iload 4, 2) := by decide +kernel
theorem dX10_measures_131 : decode cX10_measures 131 = .ok (.iaload, 1) := by decide +kernel
theorem dX10_measures_132 : decode cX10_measures 132 = .ok (.iaload, 1) := by decide +kernel
theorem dX10_measures_133 : decode cX10_measures 133 = .ok (.iload 5, 2) := by decide +kernel
theorem dX10_measures_135 : decode cX10_measures 135 = .ok (.iadd, 1) := by decide +kernel
theorem dX10_measures_136 : decode cX10_measures 136 = .ok (.goto 15, 3) := by decide +kernel
theorem dX10_measures_139 : decode cX10_measures 139 = .ok (.aload_n 0, 1) := by decide +kernel
theorem dX10_measures_140 : decode cX10_measures 140 = .ok (.getfield 49, 3) := by decide +kernel
theorem dX10_measures_143 : decode cX10_measures 143 = .ok (.aload_n 0, 1) := by decide +kernel
theorem dX10_measures_144 : decode cX10_measures 144 = .ok (.getfield 13, 3) := by decide +kernel
theorem dX10_measures_147 : decode cX10_measures 147 = .ok (.iload 4, 2) := by decide +kernel
theorem dX10_measures_149 : decode cX10_measures 149 = .ok (.iaload, 1) := by decide +kernel
theorem dX10_measures_150 : decode cX10_measures 150 = .ok (.iaload, 1) := by decide +kernel
theorem dX10_measures_151 : decode cX10_measures 151 = .ok (.iastore, 1) := by decide +kernel
theorem dX10_measures_152 : decode cX10_measures 152 = .ok (.aload_n 0, 1) := by decide +kernel
theorem dX10_measures_153 : decode cX10_measures 153 = .ok (.getfield 49, 3) := by decide +kernel
theorem dX10_measures_156 : decode cX10_measures 156 = .ok (.aload_n 0, 1) := by decide +kernel
theorem dX10_measures_157 : decode cX10_measures 157 = .ok (.getfield 16, 3) := by decide +kernel
theorem dX10_measures_160 : decode cX10_measures 160 = .ok (.iload 4, 2) := by decide +kernel
theorem dX10_measures_162 : decode cX10_measures 162 = .ok (.iaload, 1) := by decide +kernel
theorem dX10_measures_163 : decode cX10_measures 163 = .ok (.aload_n 0, 1) := by decide +kernel
theorem dX10_measures_164 : decode cX10_measures 164 = .ok (.getfield 49, 3) := by decide +kernel
theorem dX10_measures_167 : decode cX10_measures 167 = .ok (.aload_n 0, 1) := by decide +kernel
theorem dX10_measures_168 : decode cX10_measures 168 = .ok (.getfield 13, 3) := by decide +kernel
theorem dX10_measures_171 : decode cX10_measures 171 = .ok (.iload 4, 2) := by decide +kernel
theorem dX10_measures_173 : decode cX10_measures 173 = .ok (.iaload, 1) := by decide +kernel
theorem dX10_measures_174 : decode cX10_measures 174 = .ok (.iaload, 1) := by decide +kernel
theorem dX10_measures_175 : decode cX10_measures 175 = .ok (.iload 5, 2) := by decide +kernel
theorem dX10_measures_177 : decode cX10_measures 177 = .ok (.iadd, 1) := by decide +kernel
theorem dX10_measures_178 : decode cX10_measures 178 = .ok (.aload_n 0, 1) := by decide +kernel
theorem dX10_measures_179 : decode cX10_measures 179 = .ok (.getfield 49, 3) := by decide +kernel
theorem dX10_measures_182 : decode cX10_measures 182 = .ok (.aload_n 0, 1) := by decide +kernel
theorem dX10_measures_183 : decode cX10_measures 183 = .ok (.getfield 16, 3) := by decide +kernel
theorem dX10_measures_186 : decode cX10_measures 186 = .ok (.iload 4, 2) := by decide +kernel
theorem dX10_measures_188 : decode cX10_measures 188 = .ok (.iaload, 1) := by decide +kernel
theorem dX10_measures_189 : decode cX10_measures 189 = .ok (.iaload, 1) := by decide +kernel
theorem dX10_measures_190 : decode cX10_measures 190 = .ok (.if_icmp .ge 21, 3) := by decide +kernel
theorem dX10_measures_193 : decode cX10_measures 193 = .ok (.aload_n 0, 1) := by decide +kernel
theorem dX10_measures_194 : decode cX10_measures 194 = .ok (.getfield 49, 3) := by decide +kernel
theorem dX10_measures_197 : decode cX10_measures 197 = .ok (.aload_n 0, 1) := by decide +kernel
theorem dX10_measures_198 : decode cX10_measures 198 = .ok (.getfield 13, 3) := by decide +kernel
theorem dX10_measures_201 : decode cX10_measures 201 = .ok (.iload 4, 2) := by decide +kernel
theorem dX10_measures_203 : decode cX10_measures 203 = .ok (.iaload, 1) := by decide +kernel
theorem dX10_measures_204 : decode cX10_measures 204 = .ok (.iaload, 1) := by decide +kernel
theorem dX10_measures_205 : decode cX10_measures 205 = .ok (.iload 5, 2) := by decide +kernel
theorem dX10_measures_207 : decode cX10_measures 207 = .ok (.iadd, 1) := by decide +kernel
theorem dX10_measures_208 : decode cX10_measures 208 = .ok (.goto 15, 3) := by decide +kernel
theorem dX10_measures_211 : decode cX10_measures 211 = .ok (.aload_n 0, 1) := by decide +kernel
theorem dX10_measures_212 : decode cX10_measures 212 = .ok (.getfield 49, 3) := by decide +kernel
theorem dX10_measures_215 : decode cX10_measures 215 = .ok (.aload_n 0, 1) := by decide +kernel
theorem dX10_measures_216 : decode cX10_measures 216 = .ok (.getfield 16, 3) := by decide +kernel
theorem dX10_measures_219 : decode cX10_measures 219 = .ok (.iload 4, 2) := by decide +kernel
theorem dX10_measures_221 : decode cX10_measures 221 = .ok (.iaload, 1) := by decide +kernel
theorem dX10_measures_222 : decode cX10_measures 222 = .ok (.iaload, 1) := by decide +kernel
theorem dX10_measures_223 : decode cX10_measures 223 = .ok (.iastore, 1) := by decide +kernel
theorem dX10_measures_224 : decode cX10_measures 224 = .ok (.iinc 4 1, 3) := by decide +kernel
theorem dX10_measures_227 : decode cX10_measures 227 = .ok (.goto (-185), 3) := by decide +kernel
theorem dX10_measures_230 : decode cX10_measures 230 = .ok (.iinc 3 1, 3) := by decide +kernel
theorem dX10_measures_233 : decode cX10_measures 233 = .ok (.goto (-200), 3) := by decide +kernel
theorem dX10_measures_236 : decode cX10_measures 236 = .ok (.return_, 1) := by decide +kernel
theorem dX10_wayOf_0 : decode cX10_wayOf 0 = .ok (.aload_n 0, 1) := by decide +kernel
theorem dX10_wayOf_1 : decode cX10_wayOf 1 = .ok (.aload_n 0, 1) := by decide +kernel
theorem dX10_wayOf_2 : decode cX10_wayOf 2 = .ok (.getfield 25, 3) := by decide +kernel
theorem dX10_wayOf_5 : decode cX10_wayOf 5 = .ok (.iload_n 1, 1) := by decide +kernel
theorem dX10_wayOf_6 : decode cX10_wayOf 6 = .ok (.iaload, 1) := by decide +kernel
theorem dX10_wayOf_7 : decode cX10_wayOf 7 = .ok (.iload_n 2, 1) := by decide +kernel
theorem dX10_wayOf_8 : decode cX10_wayOf 8 = .ok (.invokevirtual 188, 3) := by decide +kernel
theorem dX10_wayOf_11 : decode cX10_wayOf 11 = .ok (.aload_n 0, 1) := by decide +kernel
theorem dX10_wayOf_12 : decode cX10_wayOf 12 = .ok (.getfield 49, 3) := by decide +kernel
theorem dX10_wayOf_15 : decode cX10_wayOf 15 = .ok (.aload_n 0, 1) := by decide +kernel
theorem dX10_wayOf_16 : decode cX10_wayOf 16 = .ok (.getfield 22, 3) := by decide +kernel
theorem dX10_wayOf_19 : decode cX10_wayOf 19 = .ok (.iload_n 1, 1) := by decide +kernel
theorem dX10_wayOf_20 : decode cX10_wayOf 20 = .ok (.iaload, 1) := by decide +kernel
theorem dX10_wayOf_21 : decode cX10_wayOf 21 = .ok (.iaload, 1) := by decide +kernel
theorem dX10_wayOf_22 : decode cX10_wayOf 22 = .ok (.ldc 187, 2) := by decide +kernel
theorem dX10_wayOf_24 : decode cX10_wayOf 24 = .ok (.if_icmp .lt 8, 3) := by decide +kernel
theorem dX10_wayOf_27 : decode cX10_wayOf 27 = .ok (.bipush (-9), 2) := by decide +kernel
theorem dX10_wayOf_29 : decode cX10_wayOf 29 = .ok (.goto 17, 3) := by decide +kernel
theorem dX10_wayOf_32 : decode cX10_wayOf 32 = .ok (.aload_n 0, 1) := by decide +kernel
theorem dX10_wayOf_33 : decode cX10_wayOf 33 = .ok (.getfield 49, 3) := by decide +kernel
theorem dX10_wayOf_36 : decode cX10_wayOf 36 = .ok (.aload_n 0, 1) := by decide +kernel
theorem dX10_wayOf_37 : decode cX10_wayOf 37 = .ok (.getfield 22, 3) := by decide +kernel
theorem dX10_wayOf_40 : decode cX10_wayOf 40 = .ok (.iload_n 1, 1) := by decide +kernel
theorem dX10_wayOf_41 : decode cX10_wayOf 41 = .ok (.iaload, 1) := by decide +kernel
theorem dX10_wayOf_42 : decode cX10_wayOf 42 = .ok (.iaload, 1) := by decide +kernel
theorem dX10_wayOf_43 : decode cX10_wayOf 43 = .ok (.bipush 16, 2) := by decide +kernel
theorem dX10_wayOf_45 : decode cX10_wayOf 45 = .ok (.idiv, 1) := by decide +kernel
theorem dX10_wayOf_46 : decode cX10_wayOf 46 = .ok (.ireturn, 1) := by decide +kernel
theorem dX10_way_0 : decode cX10_way 0 = .ok (.aload_n 0, 1) := by decide +kernel
theorem dX10_way_1 : decode cX10_way 1 = .ok (.iload_n 1, 1) := by decide +kernel
theorem dX10_way_2 : decode cX10_way 2 = .ok (.invokevirtual 173, 3) := by decide +kernel
theorem dX10_way_5 : decode cX10_way 5 = .ok (.ifCond .eq 20, 3) := by decide +kernel
theorem dX10_way_8 : decode cX10_way 8 = .ok (.aload_n 0, 1) := by decide +kernel
theorem dX10_way_9 : decode cX10_way 9 = .ok (.iload_n 1, 1) := by decide +kernel
theorem dX10_way_10 : decode cX10_way 10 = .ok (.aload_n 0, 1) := by decide +kernel
theorem dX10_way_11 : decode cX10_way 11 = .ok (.aload_n 0, 1) := by decide +kernel
theorem dX10_way_12 : decode cX10_way 12 = .ok (.getfield 31, 3) := by decide +kernel
theorem dX10_way_15 : decode cX10_way 15 = .ok (.iload_n 1, 1) := by decide +kernel
theorem dX10_way_16 : decode cX10_way 16 = .ok (.invokevirtual 178, 3) := by decide +kernel
theorem dX10_way_19 : decode cX10_way 19 = .ok (.invokevirtual 192, 3) := by decide +kernel
theorem dX10_way_22 : decode cX10_way 22 = .ok (.goto 4, 3) := by decide +kernel
theorem dX10_way_25 : decode cX10_way 25 = .ok (.iconst (-1), 1) := by decide +kernel
theorem dX10_way_26 : decode cX10_way 26 = .ok (.ireturn, 1) := by decide +kernel
theorem dX10_place_0 : decode cX10_place 0 = .ok (.aload_n 0, 1) := by decide +kernel
theorem dX10_place_1 : decode cX10_place 1 = .ok (.iload_n 1, 1) := by decide +kernel
theorem dX10_place_2 : decode cX10_place 2 = .ok (.invokevirtual 173, 3) := by decide +kernel
theorem dX10_place_5 : decode cX10_place 5 = .ok (.ifCond .eq 7, 3) := by decide +kernel
theorem dX10_place_8 : decode cX10_place 8 = .ok (.iload_n 2, 1) := by decide +kernel
theorem dX10_place_9 : decode cX10_place 9 = .ok (.ifCond .ge 5, 3) := by decide +kernel
theorem dX10_place_12 : decode cX10_place 12 = .ok (.iconst (-1), 1) := by decide +kernel
theorem dX10_place_13 : decode cX10_place 13 = .ok (.ireturn, 1) := by decide +kernel
theorem dX10_place_14 : decode cX10_place 14 = .ok (.aload_n 0, 1) := by decide +kernel
theorem dX10_place_15 : decode cX10_place 15 = .ok (.aload_n 0, 1) := by decide +kernel
theorem dX10_place_16 : decode cX10_place 16 = .ok (.getfield 31, 3) := by decide +kernel
theorem dX10_place_19 : decode cX10_place 19 = .ok (.iload_n 1, 1) := by decide +kernel
theorem dX10_place_20 : decode cX10_place 20 = .ok (.invokevirtual 178, 3) := by decide +kernel
theorem dX10_place_23 : decode cX10_place 23 = .ok (.istore_n 3, 1) := by decide +kernel
theorem dX10_place_24 : decode cX10_place 24 = .ok (.aload_n 0, 1) := by decide +kernel
theorem dX10_place_25 : decode cX10_place 25 = .ok (.iload_n 1, 1) := by decide +kernel
theorem dX10_place_26 : decode cX10_place 26 = .ok (.iload_n 3, 1) := by decide +kernel
theorem dX10_place_27 : decode cX10_place 27 = .ok (.invokevirtual 192, 3) := by decide +kernel
theorem dX10_place_30 : decode cX10_place 30 = .ok (.bipush (-9), 2) := by decide +kernel
theorem dX10_place_32 : decode cX10_place 32 = .ok (.if_icmp .ne 6, 3) := by decide +kernel
theorem dX10_place_35 : decode cX10_place 35 = .ok (.bipush (-9), 2) := by decide +kernel
theorem dX10_place_37 : decode cX10_place 37 = .ok (.ireturn, 1) := by decide +kernel
theorem dX10_place_38 : decode cX10_place 38 = .ok (.aload_n 0, 1) := by decide +kernel
theorem dX10_place_39 : decode cX10_place 39 = .ok (.getfield 22, 3) := by decide +kernel
theorem dX10_place_42 : decode cX10_place 42 = .ok (.iload_n 1, 1) := by decide +kernel
theorem dX10_place_43 : decode cX10_place 43 = .ok (.iaload, 1) := by decide +kernel
theorem dX10_place_44 : decode cX10_place 44 = .ok (.istore 4, 2) := by decide +kernel
theorem dX10_place_46 : decode cX10_place 46 = .ok (.iconst 0, 1) := by decide +kernel
theorem dX10_place_47 : decode cX10_place 47 = .ok (.istore 5, 2) := by decide +kernel
theorem dX10_place_49 : decode cX10_place 49 = .ok (.iload 5, 2) := by decide +kernel
theorem dX10_place_51 : decode cX10_place 51 = .ok (.iload_n 2, 1) := by decide +kernel
theorem dX10_place_52 : decode cX10_place 52 = .ok (.if_icmp .ge 170, 3) := by decide +kernel
theorem dX10_place_55 : decode cX10_place 55 = .ok (.aload_n 0, 1) := by decide +kernel
theorem dX10_place_56 : decode cX10_place 56 = .ok (.getfield 49, 3) := by decide +kernel
theorem dX10_place_59 : decode cX10_place 59 = .ok (.iload 4, 2) := by decide +kernel
theorem dX10_place_61 : decode cX10_place 61 = .ok (.iaload, 1) := by decide +kernel
theorem dX10_place_62 : decode cX10_place 62 = .ok (.ifCond .ne 6, 3) := by decide +kernel
theorem dX10_place_65 : decode cX10_place 65 = .ok (.bipush (-5), 2) := by decide +kernel
theorem dX10_place_67 : decode cX10_place 67 = .ok (.ireturn, 1) := by decide +kernel
theorem dX10_place_68 : decode cX10_place 68 = .ok (.bipush 6, 2) := by decide +kernel
theorem dX10_place_70 : decode cX10_place 70 = .ok (.istore 6, 2) := by decide +kernel
theorem dX10_place_72 : decode cX10_place 72 = .ok (.iconst 0, 1) := by decide +kernel
theorem dX10_place_73 : decode cX10_place 73 = .ok (.istore 7, 2) := by decide +kernel
theorem dX10_place_75 : decode cX10_place 75 = .ok (.iload 7, 2) := by decide +kernel
theorem dX10_place_77 : decode cX10_place 77 = .ok (.aload_n 0, 1) := by decide +kernel
theorem dX10_place_78 : decode cX10_place 78 = .ok (.getfield 67, 3) := by decide +kernel
theorem dX10_place_81 : decode cX10_place 81 = .ok (.if_icmp .ge 131, 3) := by decide +kernel
theorem dX10_place_84 : decode cX10_place 84 = .ok (.aload_n 0, 1) := by decide +kernel
theorem dX10_place_85 : decode cX10_place 85 = .ok (.getfield 13, 3) := by decide +kernel
theorem dX10_place_88 : decode cX10_place 88 = .ok (.iload 7, 2) := by decide +kernel
theorem dX10_place_90 : decode cX10_place 90 = .ok (.iaload, 1) := by decide +kernel
theorem dX10_place_91 : decode cX10_place 91 = .ok (.iload 4, 2) := by decide +kernel
theorem dX10_place_93 : decode cX10_place 93 = .ok (.if_icmp .ne 13, 3) := by decide +kernel
theorem dX10_place_96 : decode cX10_place 96 = .ok (.aload_n 0, 1) := by decide +kernel
theorem dX10_place_97 : decode cX10_place 97 = .ok (.getfield 16, 3) := by decide +kernel
theorem dX10_place_100 : decode cX10_place 100 = .ok (.iload 7, 2) := by decide +kernel
theorem dX10_place_102 : decode cX10_place 102 = .ok (.iaload, 1) := by decide +kernel
theorem dX10_place_103 : decode cX10_place 103 = .ok (.goto 27, 3) := by decide +kernel
theorem dX10_place_106 : decode cX10_place 106 = .ok (.aload_n 0, 1) := by decide +kernel
theorem dX10_place_107 : decode cX10_place 107 = .ok (.getfield 16, 3) := by decide +kernel
theorem dX10_place_110 : decode cX10_place 110 = .ok (.iload 7, 2) := by decide +kernel
theorem dX10_place_112 : decode cX10_place 112 = .ok (.iaload, 1) := by decide +kernel
theorem dX10_place_113 : decode cX10_place 113 = .ok (.iload 4, 2) := by decide +kernel
theorem dX10_place_115 : decode cX10_place 115 = .ok (.if_icmp .ne 13, 3) := by decide +kernel
theorem dX10_place_118 : decode cX10_place 118 = .ok (.aload_n 0, 1) := by decide +kernel
theorem dX10_place_119 : decode cX10_place 119 = .ok (.getfield 13, 3) := by decide +kernel
theorem dX10_place_122 : decode cX10_place 122 = .ok (.iload 7, 2) := by decide +kernel
theorem dX10_place_124 : decode cX10_place 124 = .ok (.iaload, 1) := by decide +kernel
theorem dX10_place_125 : decode cX10_place 125 = .ok (.goto 5, 3) := by decide +kernel
theorem dX10_place_128 : decode cX10_place 128 = .ok (.bipush (-9), 2) := by decide +kernel
theorem dX10_place_130 : decode cX10_place 130 = .ok (.istore 8, 2) := by decide +kernel
theorem dX10_place_132 : decode cX10_place 132 = .ok (.iload 8, 2) := by decide +kernel
theorem dX10_place_134 : decode cX10_place 134 = .ok (.bipush (-9), 2) := by decide +kernel
theorem dX10_place_136 : decode cX10_place 136 = .ok (.if_icmp .eq 46, 3) := by decide +kernel
theorem dX10_place_139 : decode cX10_place 139 = .ok (.iload_n 3, 1) := by decide +kernel
theorem dX10_place_140 : decode cX10_place 140 = .ok (.iload 7, 2) := by decide +kernel
theorem dX10_place_142 : decode cX10_place 142 = .ok (.ishr, 1) := by decide +kernel
theorem dX10_place_143 : decode cX10_place 143 = .ok (.iconst 1, 1) := by decide +kernel
theorem dX10_place_144 : decode cX10_place 144 = .ok (.iand, 1) := by decide +kernel
theorem dX10_place_145 : decode cX10_place 145 = .ok (.ifCond .ne 37, 3) := by decide +kernel
theorem dX10_place_148 : decode cX10_place 148 = .ok (.aload_n 0, 1) := by decide +kernel
theorem dX10_place_149 : decode cX10_place 149 = .ok (.getfield 49, 3) := by decide +kernel
theorem dX10_place_152 : decode cX10_place 152 = .ok (.iload 8, 2) := by decide +kernel
theorem dX10_place_154 : decode cX10_place 154 = .ok (.iaload, 1) := by decide +kernel
theorem dX10_place_155 : decode cX10_place 155 = .ok (.bipush 16, 2) := by decide +kernel
theorem dX10_place_157 : decode cX10_place 157 = .ok (.aload_n 0, 1) := by decide +kernel
theorem dX10_place_158 : decode cX10_place 158 = .ok (.getfield 19, 3) := by decide +kernel
theorem dX10_place_161 : decode cX10_place 161 = .ok (.iload 7, 2) := by decide +kernel
theorem dX10_place_163 : decode cX10_place 163 = .ok (.iaload, 1) := by decide +kernel
theorem dX10_place_164 : decode cX10_place 164 = .ok (.imul, 1) := by decide +kernel
theorem dX10_place_165 : decode cX10_place 165 = .ok (.iadd, 1) := by decide +kernel
theorem dX10_place_166 : decode cX10_place 166 = .ok (.iconst 1, 1) := by decide +kernel
theorem dX10_place_167 : decode cX10_place 167 = .ok (.iadd, 1) := by decide +kernel
theorem dX10_place_168 : decode cX10_place 168 = .ok (.aload_n 0, 1) := by decide +kernel
theorem dX10_place_169 : decode cX10_place 169 = .ok (.getfield 49, 3) := by decide +kernel
theorem dX10_place_172 : decode cX10_place 172 = .ok (.iload 4, 2) := by decide +kernel
theorem dX10_place_174 : decode cX10_place 174 = .ok (.iaload, 1) := by decide +kernel
theorem dX10_place_175 : decode cX10_place 175 = .ok (.if_icmp .ne 7, 3) := by decide +kernel
theorem dX10_place_178 : decode cX10_place 178 = .ok (.iconst 1, 1) := by decide +kernel
theorem dX10_place_179 : decode cX10_place 179 = .ok (.goto 4, 3) := by decide +kernel
theorem dX10_place_182 : decode cX10_place 182 = .ok (.iconst 0, 1) := by decide +kernel
theorem dX10_place_183 : decode cX10_place 183 = .ok (.istore 9, 2) := by decide +kernel
theorem dX10_place_185 : decode cX10_place 185 = .ok (.iload 9, 2) := by decide +kernel
theorem dX10_place_187 : decode cX10_place 187 = .ok (.ifCond .eq 15, 3) := by decide +kernel
theorem dX10_place_190 : decode cX10_place 190 = .ok (.iload 8, 2) := by decide +kernel
theorem dX10_place_192 : decode cX10_place 192 = .ok (.iload 6, 2) := by decide +kernel
theorem dX10_place_194 : decode cX10_place 194 = .ok (.if_icmp .ge 8, 3) := by decide +kernel
theorem dX10_place_197 : decode cX10_place 197 = .ok (.iload 8, 2) := by decide +kernel
theorem dX10_place_199 : decode cX10_place 199 = .ok (.goto 5, 3) := by decide +kernel
theorem dX10_place_202 : decode cX10_place 202 = .ok (.iload 6, 2) := by decide +kernel
theorem dX10_place_204 : decode cX10_place 204 = .ok (.istore 6, 2) := by decide +kernel
theorem dX10_place_206 : decode cX10_place 206 = .ok (.iinc 7 1, 3) := by decide +kernel
theorem dX10_place_209 : decode cX10_place 209 = .ok (.goto (-134), 3) := by decide +kernel
theorem dX10_place_212 : decode cX10_place 212 = .ok (.iload 6, 2) := by decide +kernel
theorem dX10_place_214 : decode cX10_place 214 = .ok (.istore 4, 2) := by decide +kernel
theorem dX10_place_216 : decode cX10_place 216 = .ok (.iinc 5 1, 3) := by decide +kernel
theorem dX10_place_219 : decode cX10_place 219 = .ok (.goto (-170), 3) := by decide +kernel
theorem dX10_place_222 : decode cX10_place 222 = .ok (.iload 4, 2) := by decide +kernel
theorem dX10_place_224 : decode cX10_place 224 = .ok (.ireturn, 1) := by decide +kernel
theorem dX10_pole_0 : decode cX10_pole 0 = .ok (.aload_n 0, 1) := by decide +kernel
theorem dX10_pole_1 : decode cX10_pole 1 = .ok (.iload_n 1, 1) := by decide +kernel
theorem dX10_pole_2 : decode cX10_pole 2 = .ok (.invokevirtual 173, 3) := by decide +kernel
theorem dX10_pole_5 : decode cX10_pole 5 = .ok (.ifCond .eq 15, 3) := by decide +kernel
theorem dX10_pole_8 : decode cX10_pole 8 = .ok (.iload_n 2, 1) := by decide +kernel
theorem dX10_pole_9 : decode cX10_pole 9 = .ok (.i2l, 1) := by decide +kernel
theorem dX10_pole_10 : decode cX10_pole 10 = .ok (.lconst 0, 1) := by decide +kernel
theorem dX10_pole_11 : decode cX10_pole 11 = .ok (.ldc2_w 196, 3) := by decide +kernel
theorem dX10_pole_14 : decode cX10_pole 14 = .ok (.invokestatic 71, 3) := by decide +kernel
theorem dX10_pole_17 : decode cX10_pole 17 = .ok (.ifCond .ne 5, 3) := by decide +kernel
theorem dX10_pole_20 : decode cX10_pole 20 = .ok (.iconst (-1), 1) := by decide +kernel
theorem dX10_pole_21 : decode cX10_pole 21 = .ok (.ireturn, 1) := by decide +kernel
theorem dX10_pole_22 : decode cX10_pole 22 = .ok (.aload_n 0, 1) := by decide +kernel
theorem dX10_pole_23 : decode cX10_pole 23 = .ok (.aload_n 0, 1) := by decide +kernel
theorem dX10_pole_24 : decode cX10_pole 24 = .ok (.getfield 31, 3) := by decide +kernel
theorem dX10_pole_27 : decode cX10_pole 27 = .ok (.iload_n 1, 1) := by decide +kernel
theorem dX10_pole_28 : decode cX10_pole 28 = .ok (.invokevirtual 178, 3) := by decide +kernel
theorem dX10_pole_31 : decode cX10_pole 31 = .ok (.istore_n 3, 1) := by decide +kernel
theorem dX10_pole_32 : decode cX10_pole 32 = .ok (.iconst 0, 1) := by decide +kernel
theorem dX10_pole_33 : decode cX10_pole 33 = .ok (.istore 4, 2) := by decide +kernel
theorem dX10_pole_35 : decode cX10_pole 35 = .ok (.iload 4, 2) := by decide +kernel
theorem dX10_pole_37 : decode cX10_pole 37 = .ok (.aload_n 0, 1) := by decide +kernel
theorem dX10_pole_38 : decode cX10_pole 38 = .ok (.getfield 67, 3) := by decide +kernel
theorem dX10_pole_41 : decode cX10_pole 41 = .ok (.if_icmp .ge 33, 3) := by decide +kernel
theorem dX10_pole_44 : decode cX10_pole 44 = .ok (.iload_n 3, 1) := by decide +kernel
theorem dX10_pole_45 : decode cX10_pole 45 = .ok (.aload_n 0, 1) := by decide +kernel
theorem dX10_pole_46 : decode cX10_pole 46 = .ok (.getfield 19, 3) := by decide +kernel
theorem dX10_pole_49 : decode cX10_pole 49 = .ok (.iload 4, 2) := by decide +kernel
theorem dX10_pole_51 : decode cX10_pole 51 = .ok (.iaload, 1) := by decide +kernel
theorem dX10_pole_52 : decode cX10_pole 52 = .ok (.iload_n 2, 1) := by decide +kernel
theorem dX10_pole_53 : decode cX10_pole 53 = .ok (.if_icmp .gt 12, 3) := by decide +kernel
theorem dX10_pole_56 : decode cX10_pole 56 = .ok (.iconst 1, 1) := by decide +kernel
theorem dX10_pole_57 : decode cX10_pole 57 = .ok (.iload 4, 2) := by decide +kernel
theorem dX10_pole_59 : decode cX10_pole 59 = .ok (.ishl, 1) := by decide +kernel
theorem dX10_pole_60 : decode cX10_pole 60 = .ok (.iconst (-1), 1) := by decide +kernel
theorem dX10_pole_61 : decode cX10_pole 61 = .ok (.ixor, 1) := by decide +kernel
theorem dX10_pole_62 : decode cX10_pole 62 = .ok (.goto 4, 3) := by decide +kernel
theorem dX10_pole_65 : decode cX10_pole 65 = .ok (.iconst (-1), 1) := by decide +kernel
theorem dX10_pole_66 : decode cX10_pole 66 = .ok (.iand, 1) := by decide +kernel
theorem dX10_pole_67 : decode cX10_pole 67 = .ok (.istore_n 3, 1) := by decide +kernel
theorem dX10_pole_68 : decode cX10_pole 68 = .ok (.iinc 4 1, 3) := by decide +kernel
theorem dX10_pole_71 : decode cX10_pole 71 = .ok (.goto (-36), 3) := by decide +kernel
theorem dX10_pole_74 : decode cX10_pole 74 = .ok (.aload_n 0, 1) := by decide +kernel
theorem dX10_pole_75 : decode cX10_pole 75 = .ok (.iload_n 1, 1) := by decide +kernel
theorem dX10_pole_76 : decode cX10_pole 76 = .ok (.iload_n 3, 1) := by decide +kernel
theorem dX10_pole_77 : decode cX10_pole 77 = .ok (.invokevirtual 192, 3) := by decide +kernel
theorem dX10_pole_80 : decode cX10_pole 80 = .ok (.ireturn, 1) := by decide +kernel
theorem dX10_costBy_0 : decode cX10_costBy 0 = .ok (.aload_n 0, 1) := by decide +kernel
theorem dX10_costBy_1 : decode cX10_costBy 1 = .ok (.iload_n 2, 1) := by decide +kernel
theorem dX10_costBy_2 : decode cX10_costBy 2 = .ok (.aload_n 0, 1) := by decide +kernel
theorem dX10_costBy_3 : decode cX10_costBy 3 = .ok (.aload_n 1, 1) := by decide +kernel
theorem dX10_costBy_4 : decode cX10_costBy 4 = .ok (.iload_n 2, 1) := by decide +kernel
theorem dX10_costBy_5 : decode cX10_costBy 5 = .ok (.invokevirtual 178, 3) := by decide +kernel
theorem dX10_costBy_8 : decode cX10_costBy 8 = .ok (.invokevirtual 192, 3) := by decide +kernel
theorem dX10_costBy_11 : decode cX10_costBy 11 = .ok (.istore_n 3, 1) := by decide +kernel
theorem dX10_costBy_12 : decode cX10_costBy 12 = .ok (.iload_n 3, 1) := by decide +kernel
theorem dX10_costBy_13 : decode cX10_costBy 13 = .ok (.bipush (-9), 2) := by decide +kernel
theorem dX10_costBy_15 : decode cX10_costBy 15 = .ok (.if_icmp .ne 8, 3) := by decide +kernel
theorem dX10_costBy_18 : decode cX10_costBy 18 = .ok (.bipush (-9), 2) := by decide +kernel
theorem dX10_costBy_20 : decode cX10_costBy 20 = .ok (.goto 11, 3) := by decide +kernel
theorem dX10_costBy_23 : decode cX10_costBy 23 = .ok (.iload_n 3, 1) := by decide +kernel
theorem dX10_costBy_24 : decode cX10_costBy 24 = .ok (.aload_n 0, 1) := by decide +kernel
theorem dX10_costBy_25 : decode cX10_costBy 25 = .ok (.getfield 28, 3) := by decide +kernel
theorem dX10_costBy_28 : decode cX10_costBy 28 = .ok (.iload_n 2, 1) := by decide +kernel
theorem dX10_costBy_29 : decode cX10_costBy 29 = .ok (.iaload, 1) := by decide +kernel
theorem dX10_costBy_30 : decode cX10_costBy 30 = .ok (.imul, 1) := by decide +kernel
theorem dX10_costBy_31 : decode cX10_costBy 31 = .ok (.ireturn, 1) := by decide +kernel
theorem dX10_judge_0 : decode cX10_judge 0 = .ok (.iload_n 1, 1) := by decide +kernel
theorem dX10_judge_1 : decode cX10_judge 1 = .ok (.i2l, 1) := by decide +kernel
theorem dX10_judge_2 : decode cX10_judge 2 = .ok (.lconst 0, 1) := by decide +kernel
theorem dX10_judge_3 : decode cX10_judge 3 = .ok (.ldc2_w 198, 3) := by decide +kernel
theorem dX10_judge_6 : decode cX10_judge 6 = .ok (.invokestatic 71, 3) := by decide +kernel
theorem dX10_judge_9 : decode cX10_judge 9 = .ok (.ifCond .ne 5, 3) := by decide +kernel
theorem dX10_judge_12 : decode cX10_judge 12 = .ok (.iconst (-1), 1) := by decide +kernel
theorem dX10_judge_13 : decode cX10_judge 13 = .ok (.ireturn, 1) := by decide +kernel
theorem dX10_judge_14 : decode cX10_judge 14 = .ok (.iconst 0, 1) := by decide +kernel
theorem dX10_judge_15 : decode cX10_judge 15 = .ok (.istore_n 2, 1) := by decide +kernel
theorem dX10_judge_16 : decode cX10_judge 16 = .ok (.iconst 0, 1) := by decide +kernel
theorem dX10_judge_17 : decode cX10_judge 17 = .ok (.istore_n 3, 1) := by decide +kernel
theorem dX10_judge_18 : decode cX10_judge 18 = .ok (.iconst 0, 1) := by decide +kernel
theorem dX10_judge_19 : decode cX10_judge 19 = .ok (.istore 4, 2) := by decide +kernel
theorem dX10_judge_21 : decode cX10_judge 21 = .ok (.iconst 0, 1) := by decide +kernel
theorem dX10_judge_22 : decode cX10_judge 22 = .ok (.istore 5, 2) := by decide +kernel
theorem dX10_judge_24 : decode cX10_judge 24 = .ok (.iload 5, 2) := by decide +kernel
theorem dX10_judge_26 : decode cX10_judge 26 = .ok (.aload_n 0, 1) := by decide +kernel
theorem dX10_judge_27 : decode cX10_judge 27 = .ok (.getfield 75, 3) := by decide +kernel
theorem dX10_judge_30 : decode cX10_judge 30 = .ok (.if_icmp .ge 73, 3) := by decide +kernel
theorem dX10_judge_33 : decode cX10_judge 33 = .ok (.aload_n 0, 1) := by decide +kernel
theorem dX10_judge_34 : decode cX10_judge 34 = .ok (.iload 5, 2) := by decide +kernel
theorem dX10_judge_36 : decode cX10_judge 36 = .ok (.aload_n 0, 1) := by decide +kernel
theorem dX10_judge_37 : decode cX10_judge 37 = .ok (.aload_n 0, 1) := by decide +kernel
theorem dX10_judge_38 : decode cX10_judge 38 = .ok (.getfield 31, 3) := by decide +kernel
theorem dX10_judge_41 : decode cX10_judge 41 = .ok (.iload 5, 2) := by decide +kernel
theorem dX10_judge_43 : decode cX10_judge 43 = .ok (.invokevirtual 178, 3) := by decide +kernel
theorem dX10_judge_46 : decode cX10_judge 46 = .ok (.invokevirtual 192, 3) := by decide +kernel
theorem dX10_judge_49 : decode cX10_judge 49 = .ok (.istore 6, 2) := by decide +kernel
theorem dX10_judge_51 : decode cX10_judge 51 = .ok (.iload 4, 2) := by decide +kernel
theorem dX10_judge_53 : decode cX10_judge 53 = .ok (.iload 6, 2) := by decide +kernel
theorem dX10_judge_55 : decode cX10_judge 55 = .ok (.bipush (-9), 2) := by decide +kernel
theorem dX10_judge_57 : decode cX10_judge 57 = .ok (.if_icmp .ne 10, 3) := by decide +kernel
theorem dX10_judge_60 : decode cX10_judge 60 = .ok (.iconst 1, 1) := by decide +kernel
theorem dX10_judge_61 : decode cX10_judge 61 = .ok (.iload 5, 2) := by decide +kernel
theorem dX10_judge_63 : decode cX10_judge 63 = .ok (.ishl, 1) := by decide +kernel
theorem dX10_judge_64 : decode cX10_judge 64 = .ok (.goto 4, 3) := by decide +kernel
theorem dX10_judge_67 : decode cX10_judge 67 = .ok (.iconst 0, 1) := by decide +kernel
theorem dX10_judge_68 : decode cX10_judge 68 = .ok (.ior, 1) := by decide +kernel
theorem dX10_judge_69 : decode cX10_judge 69 = .ok (.istore 4, 2) := by decide +kernel
theorem dX10_judge_71 : decode cX10_judge 71 = .ok (.iload_n 2, 1) := by decide +kernel
theorem dX10_judge_72 : decode cX10_judge 72 = .ok (.iload 6, 2) := by decide +kernel
theorem dX10_judge_74 : decode cX10_judge 74 = .ok (.aload_n 0, 1) := by decide +kernel
theorem dX10_judge_75 : decode cX10_judge 75 = .ok (.getfield 28, 3) := by decide +kernel
theorem dX10_judge_78 : decode cX10_judge 78 = .ok (.iload 5, 2) := by decide +kernel
theorem dX10_judge_80 : decode cX10_judge 80 = .ok (.iaload, 1) := by decide +kernel
theorem dX10_judge_81 : decode cX10_judge 81 = .ok (.imul, 1) := by decide +kernel
theorem dX10_judge_82 : decode cX10_judge 82 = .ok (.iadd, 1) := by decide +kernel
theorem dX10_judge_83 : decode cX10_judge 83 = .ok (.istore_n 2, 1) := by decide +kernel
theorem dX10_judge_84 : decode cX10_judge 84 = .ok (.iload 6, 2) := by decide +kernel
theorem dX10_judge_86 : decode cX10_judge 86 = .ok (.iload_n 3, 1) := by decide +kernel
theorem dX10_judge_87 : decode cX10_judge 87 = .ok (.if_icmp .le 8, 3) := by decide +kernel
theorem dX10_judge_90 : decode cX10_judge 90 = .ok (.iload 6, 2) := by decide +kernel
theorem dX10_judge_92 : decode cX10_judge 92 = .ok (.goto 4, 3) := by decide +kernel
theorem dX10_judge_95 : decode cX10_judge 95 = .ok (.iload_n 3, 1) := by decide +kernel
theorem dX10_judge_96 : decode cX10_judge 96 = .ok (.istore_n 3, 1) := by decide +kernel
theorem dX10_judge_97 : decode cX10_judge 97 = .ok (.iinc 5 1, 3) := by decide +kernel
theorem dX10_judge_100 : decode cX10_judge 100 = .ok (.goto (-76), 3) := by decide +kernel
theorem dX10_judge_103 : decode cX10_judge 103 = .ok (.iload_n 1, 1) := by decide +kernel
theorem dX10_judge_104 : decode cX10_judge 104 = .ok (.iconst 2, 1) := by decide +kernel
theorem dX10_judge_105 : decode cX10_judge 105 = .ok (.if_icmp .ne 8, 3) := by decide +kernel
theorem dX10_judge_108 : decode cX10_judge 108 = .ok (.iload 4, 2) := by decide +kernel
theorem dX10_judge_110 : decode cX10_judge 110 = .ok (.goto 22, 3) := by decide +kernel
theorem dX10_judge_113 : decode cX10_judge 113 = .ok (.iload 4, 2) := by decide +kernel
theorem dX10_judge_115 : decode cX10_judge 115 = .ok (.ifCond .eq 8, 3) := by decide +kernel
theorem dX10_judge_118 : decode cX10_judge 118 = .ok (.bipush (-9), 2) := by decide +kernel
theorem dX10_judge_120 : decode cX10_judge 120 = .ok (.goto 12, 3) := by decide +kernel
theorem dX10_judge_123 : decode cX10_judge 123 = .ok (.iload_n 1, 1) := by decide +kernel
theorem dX10_judge_124 : decode cX10_judge 124 = .ok (.ifCond .ne 7, 3) := by decide +kernel
theorem dX10_judge_127 : decode cX10_judge 127 = .ok (.iload_n 2, 1) := by decide +kernel
theorem dX10_judge_128 : decode cX10_judge 128 = .ok (.goto 4, 3) := by decide +kernel
theorem dX10_judge_131 : decode cX10_judge 131 = .ok (.iload_n 3, 1) := by decide +kernel
theorem dX10_judge_132 : decode cX10_judge 132 = .ok (.ireturn, 1) := by decide +kernel
theorem dX10_tells_0 : decode cX10_tells 0 = .ok (.iconst 0, 1) := by decide +kernel
theorem dX10_tells_1 : decode cX10_tells 1 = .ok (.istore_n 1, 1) := by decide +kernel
theorem dX10_tells_2 : decode cX10_tells 2 = .ok (.iload_n 1, 1) := by decide +kernel
theorem dX10_tells_3 : decode cX10_tells 3 = .ok (.aload_n 0, 1) := by decide +kernel
theorem dX10_tells_4 : decode cX10_tells 4 = .ok (.getfield 75, 3) := by decide +kernel
theorem dX10_tells_7 : decode cX10_tells 7 = .ok (.if_icmp .ge 45, 3) := by decide +kernel
theorem dX10_tells_10 : decode cX10_tells 10 = .ok (.iconst 0, 1) := by decide +kernel
theorem dX10_tells_11 : decode cX10_tells 11 = .ok (.istore_n 2, 1) := by decide +kernel
theorem dX10_tells_12 : decode cX10_tells 12 = .ok (.iload_n 2, 1) := by decide +kernel
theorem dX10_tells_13 : decode cX10_tells 13 = .ok (.iconst 1, 1) := by decide +kernel
theorem dX10_tells_14 : decode cX10_tells 14 = .ok (.aload_n 0, 1) := by decide +kernel
theorem dX10_tells_15 : decode cX10_tells 15 = .ok (.getfield 67, 3) := by decide +kernel
theorem dX10_tells_18 : decode cX10_tells 18 = .ok (.ishl, 1) := by decide +kernel
theorem dX10_tells_19 : decode cX10_tells 19 = .ok (.if_icmp .ge 27, 3) := by decide +kernel
theorem dX10_tells_22 : decode cX10_tells 22 = .ok (.aload_n 0, 1) := by decide +kernel
theorem dX10_tells_23 : decode cX10_tells 23 = .ok (.getfield 52, 3) := by decide +kernel
theorem dX10_tells_26 : decode cX10_tells 26 = .ok (.sipush 256, 3) := by decide +kernel
theorem dX10_tells_29 : decode cX10_tells 29 = .ok (.iload_n 1, 1) := by decide +kernel
theorem dX10_tells_30 : decode cX10_tells 30 = .ok (.imul, 1) := by decide +kernel
theorem dX10_tells_31 : decode cX10_tells 31 = .ok (.iload_n 2, 1) := by decide +kernel
theorem dX10_tells_32 : decode cX10_tells 32 = .ok (.iadd, 1) := by decide +kernel
theorem dX10_tells_33 : decode cX10_tells 33 = .ok (.aload_n 0, 1) := by decide +kernel
theorem dX10_tells_34 : decode cX10_tells 34 = .ok (.iload_n 1, 1) := by decide +kernel
theorem dX10_tells_35 : decode cX10_tells 35 = .ok (.iload_n 2, 1) := by decide +kernel
theorem dX10_tells_36 : decode cX10_tells 36 = .ok (.invokevirtual 192, 3) := by decide +kernel
theorem dX10_tells_39 : decode cX10_tells 39 = .ok (.iastore, 1) := by decide +kernel
theorem dX10_tells_40 : decode cX10_tells 40 = .ok (.iinc 2 1, 3) := by decide +kernel
theorem dX10_tells_43 : decode cX10_tells 43 = .ok (.goto (-31), 3) := by decide +kernel
theorem dX10_tells_46 : decode cX10_tells 46 = .ok (.iinc 1 1, 3) := by decide +kernel
theorem dX10_tells_49 : decode cX10_tells 49 = .ok (.goto (-47), 3) := by decide +kernel
theorem dX10_tells_52 : decode cX10_tells 52 = .ok (.return_, 1) := by decide +kernel
theorem dX10_bestOfOne_0 : decode cX10_bestOfOne 0 = .ok (.aload_n 0, 1) := by decide +kernel
theorem dX10_bestOfOne_1 : decode cX10_bestOfOne 1 = .ok (.invokevirtual 200, 3) := by decide +kernel
theorem dX10_bestOfOne_4 : decode cX10_bestOfOne 4 = .ok (.bipush (-9), 2) := by decide +kernel
theorem dX10_bestOfOne_6 : decode cX10_bestOfOne 6 = .ok (.istore_n 2, 1) := by decide +kernel
theorem dX10_bestOfOne_7 : decode cX10_bestOfOne 7 = .ok (.iconst 1, 1) := by decide +kernel
theorem dX10_bestOfOne_8 : decode cX10_bestOfOne 8 = .ok (.istore_n 3, 1) := by decide +kernel
theorem dX10_bestOfOne_9 : decode cX10_bestOfOne 9 = .ok (.iconst 0, 1) := by decide +kernel
theorem dX10_bestOfOne_10 : decode cX10_bestOfOne 10 = .ok (.istore 4, 2) := by decide +kernel
theorem dX10_bestOfOne_12 : decode cX10_bestOfOne 12 = .ok (.iload 4, 2) := by decide +kernel
theorem dX10_bestOfOne_14 : decode cX10_bestOfOne 14 = .ok (.aload_n 0, 1) := by decide +kernel
theorem dX10_bestOfOne_15 : decode cX10_bestOfOne 15 = .ok (.getfield 75, 3) := by decide +kernel
theorem dX10_bestOfOne_18 : decode cX10_bestOfOne 18 = .ok (.if_icmp .ge 16, 3) := by decide +kernel
theorem dX10_bestOfOne_21 : decode cX10_bestOfOne 21 = .ok (.iload_n 3, 1) := by decide +kernel
theorem dX10_bestOfOne_22 : decode cX10_bestOfOne 22 = .ok (.aload_n 0, 1) := by decide +kernel
theorem dX10_bestOfOne_23 : decode cX10_bestOfOne 23 = .ok (.getfield 67, 3) := by decide +kernel
theorem dX10_bestOfOne_26 : decode cX10_bestOfOne 26 = .ok (.imul, 1) := by decide +kernel
theorem dX10_bestOfOne_27 : decode cX10_bestOfOne 27 = .ok (.istore_n 3, 1) := by decide +kernel
theorem dX10_bestOfOne_28 : decode cX10_bestOfOne 28 = .ok (.iinc 4 1, 3) := by decide +kernel
theorem dX10_bestOfOne_31 : decode cX10_bestOfOne 31 = .ok (.goto (-19), 3) := by decide +kernel
theorem dX10_bestOfOne_34 : decode cX10_bestOfOne 34 = .ok (.iconst 0, 1) := by decide +kernel
theorem dX10_bestOfOne_35 : decode cX10_bestOfOne 35 = .ok (.istore 4, 2) := by decide +kernel
theorem dX10_bestOfOne_37 : decode cX10_bestOfOne 37 = .ok (.iload 4, 2) := by decide +kernel
theorem dX10_bestOfOne_39 : decode cX10_bestOfOne 39 = .ok (.iload_n 3, 1) := by decide +kernel
theorem dX10_bestOfOne_40 : decode cX10_bestOfOne 40 = .ok (.if_icmp .ge 231, 3) := by decide +kernel
theorem dX10_bestOfOne_43 : decode cX10_bestOfOne 43 = .ok (.iload_n 3, 1) := by decide +kernel
theorem dX10_bestOfOne_44 : decode cX10_bestOfOne 44 = .ok (.istore 5, 2) := by decide +kernel
theorem dX10_bestOfOne_46 : decode cX10_bestOfOne 46 = .ok (.iconst 0, 1) := by decide +kernel
theorem dX10_bestOfOne_47 : decode cX10_bestOfOne 47 = .ok (.istore 6, 2) := by decide +kernel
theorem dX10_bestOfOne_49 : decode cX10_bestOfOne 49 = .ok (.iconst 0, 1) := by decide +kernel
theorem dX10_bestOfOne_50 : decode cX10_bestOfOne 50 = .ok (.istore 7, 2) := by decide +kernel
theorem dX10_bestOfOne_52 : decode cX10_bestOfOne 52 = .ok (.iconst 1, 1) := by decide +kernel
theorem dX10_bestOfOne_53 : decode cX10_bestOfOne 53 = .ok (.istore 8, 2) := by decide +kernel
theorem dX10_bestOfOne_55 : decode cX10_bestOfOne 55 = .ok (.iconst 0, 1) := by decide +kernel
theorem dX10_bestOfOne_56 : decode cX10_bestOfOne 56 = .ok (.istore 9, 2) := by decide +kernel
theorem dX10_bestOfOne_58 : decode cX10_bestOfOne 58 = .ok (.iload 9, 2) := by decide +kernel
theorem dX10_bestOfOne_60 : decode cX10_bestOfOne 60 = .ok (.aload_n 0, 1) := by decide +kernel
theorem dX10_bestOfOne_61 : decode cX10_bestOfOne 61 = .ok (.getfield 75, 3) := by decide +kernel
theorem dX10_bestOfOne_64 : decode cX10_bestOfOne 64 = .ok (.if_icmp .ge 131, 3) := by decide +kernel
theorem dX10_bestOfOne_67 : decode cX10_bestOfOne 67 = .ok (.iload 8, 2) := by decide +kernel
theorem dX10_bestOfOne_69 : decode cX10_bestOfOne 69 = .ok (.ifCond .eq 126, 3) := by decide +kernel
theorem dX10_bestOfOne_72 : decode cX10_bestOfOne 72 = .ok (.iload 5, 2) := by decide +kernel
theorem dX10_bestOfOne_74 : decode cX10_bestOfOne 74 = .ok (.aload_n 0, 1) := by decide +kernel
theorem dX10_bestOfOne_75 : decode cX10_bestOfOne 75 = .ok (.getfield 67, 3) := by decide +kernel
theorem dX10_bestOfOne_78 : decode cX10_bestOfOne 78 = .ok (.idiv, 1) := by decide +kernel
theorem dX10_bestOfOne_79 : decode cX10_bestOfOne 79 = .ok (.istore 5, 2) := by decide +kernel
theorem dX10_bestOfOne_81 : decode cX10_bestOfOne 81 = .ok (.iload 4, 2) := by decide +kernel
theorem dX10_bestOfOne_83 : decode cX10_bestOfOne 83 = .ok (.iload 5, 2) := by decide +kernel
theorem dX10_bestOfOne_85 : decode cX10_bestOfOne 85 = .ok (.idiv, 1) := by decide +kernel
theorem dX10_bestOfOne_86 : decode cX10_bestOfOne 86 = .ok (.aload_n 0, 1) := by decide +kernel
theorem dX10_bestOfOne_87 : decode cX10_bestOfOne 87 = .ok (.getfield 67, 3) := by decide +kernel
theorem dX10_bestOfOne_90 : decode cX10_bestOfOne 90 = .ok (.irem, 1) := by decide +kernel
theorem dX10_bestOfOne_91 : decode cX10_bestOfOne 91 = .ok (.istore 10, 2) := by decide +kernel
theorem dX10_bestOfOne_93 : decode cX10_bestOfOne 93 = .ok (.aload_n 0, 1) := by decide +kernel
theorem dX10_bestOfOne_94 : decode cX10_bestOfOne 94 = .ok (.getfield 52, 3) := by decide +kernel
theorem dX10_bestOfOne_97 : decode cX10_bestOfOne 97 = .ok (.sipush 256, 3) := by decide +kernel
theorem dX10_bestOfOne_100 : decode cX10_bestOfOne 100 = .ok (.iload 9, 2) := by decide +kernel
theorem dX10_bestOfOne_102 : decode cX10_bestOfOne 102 = .ok (.imul, 1) := by decide +kernel
theorem dX10_bestOfOne_103 : decode cX10_bestOfOne 103 = .ok (.iconst 1, 1) := by decide +kernel
theorem dX10_bestOfOne_104 : decode cX10_bestOfOne 104 = .ok (.iload 10, 2) := by decide +kernel
theorem dX10_bestOfOne_106 : decode cX10_bestOfOne 106 = .ok (.ishl, 1) := by decide +kernel
theorem dX10_bestOfOne_107 : decode cX10_bestOfOne 107 = .ok (.iadd, 1) := by decide +kernel
theorem dX10_bestOfOne_108 : decode cX10_bestOfOne 108 = .ok (.iaload, 1) := by decide +kernel
theorem dX10_bestOfOne_109 : decode cX10_bestOfOne 109 = .ok (.istore 11, 2) := by decide +kernel
theorem dX10_bestOfOne_111 : decode cX10_bestOfOne 111 = .ok (.aload_n 0, 1) := by decide +kernel
theorem dX10_bestOfOne_112 : decode cX10_bestOfOne 112 = .ok (.iload 10, 2) := by decide +kernel
theorem dX10_bestOfOne_114 : decode cX10_bestOfOne 114 = .ok (.invokevirtual 170, 3) := by decide +kernel
theorem dX10_bestOfOne_117 : decode cX10_bestOfOne 117 = .ok (.ifCond .ne 24, 3) := by decide +kernel
theorem dX10_bestOfOne_120 : decode cX10_bestOfOne 120 = .ok (.iload 6, 2) := by decide +kernel
theorem dX10_bestOfOne_122 : decode cX10_bestOfOne 122 = .ok (.iload 10, 2) := by decide +kernel
theorem dX10_bestOfOne_124 : decode cX10_bestOfOne 124 = .ok (.ishr, 1) := by decide +kernel
theorem dX10_bestOfOne_125 : decode cX10_bestOfOne 125 = .ok (.iconst 1, 1) := by decide +kernel
theorem dX10_bestOfOne_126 : decode cX10_bestOfOne 126 = .ok (.iand, 1) := by decide +kernel
theorem dX10_bestOfOne_127 : decode cX10_bestOfOne 127 = .ok (.ifCond .ne 14, 3) := by decide +kernel
theorem dX10_bestOfOne_130 : decode cX10_bestOfOne 130 = .ok (.iload 11, 2) := by decide +kernel
theorem dX10_bestOfOne_132 : decode cX10_bestOfOne 132 = .ok (.bipush (-9), 2) := by decide +kernel
theorem dX10_bestOfOne_134 : decode cX10_bestOfOne 134 = .ok (.if_icmp .eq 7, 3) := by decide +kernel
theorem dX10_bestOfOne_137 : decode cX10_bestOfOne 137 = .ok (.iconst 1, 1) := by decide +kernel
theorem dX10_bestOfOne_138 : decode cX10_bestOfOne 138 = .ok (.goto 4, 3) := by decide +kernel
theorem dX10_bestOfOne_141 : decode cX10_bestOfOne 141 = .ok (.iconst 0, 1) := by decide +kernel
theorem dX10_bestOfOne_142 : decode cX10_bestOfOne 142 = .ok (.istore 8, 2) := by decide +kernel
theorem dX10_bestOfOne_144 : decode cX10_bestOfOne 144 = .ok (.iload 6, 2) := by decide +kernel
theorem dX10_bestOfOne_146 : decode cX10_bestOfOne 146 = .ok (.iconst 1, 1) := by decide +kernel
theorem dX10_bestOfOne_147 : decode cX10_bestOfOne 147 = .ok (.iload 10, 2) := by decide +kernel
theorem dX10_bestOfOne_149 : decode cX10_bestOfOne 149 = .ok (.ishl, 1) := by decide +kernel
theorem dX10_bestOfOne_150 : decode cX10_bestOfOne 150 = .ok (.ior, 1) := by decide +kernel
theorem dX10_bestOfOne_151 : decode cX10_bestOfOne 151 = .ok (.istore 6, 2) := by decide +kernel
theorem dX10_bestOfOne_153 : decode cX10_bestOfOne 153 = .ok (.iload_n 1, 1) := by decide +kernel
theorem dX10_bestOfOne_154 : decode cX10_bestOfOne 154 = .ok (.ifCond .ne 19, 3) := by decide +kernel
theorem dX10_bestOfOne_157 : decode cX10_bestOfOne 157 = .ok (.iload 7, 2) := by decide +kernel
theorem dX10_bestOfOne_159 : decode cX10_bestOfOne 159 = .ok (.iload 11, 2) := by decide +kernel
theorem dX10_bestOfOne_161 : decode cX10_bestOfOne 161 = .ok (.aload_n 0, 1) := by decide +kernel
theorem dX10_bestOfOne_162 : decode cX10_bestOfOne 162 = .ok (.getfield 28, 3) := by decide +kernel
theorem dX10_bestOfOne_165 : decode cX10_bestOfOne 165 = .ok (.iload 9, 2) := by decide +kernel
theorem dX10_bestOfOne_167 : decode cX10_bestOfOne 167 = .ok (.iaload, 1) := by decide +kernel
theorem dX10_bestOfOne_168 : decode cX10_bestOfOne 168 = .ok (.imul, 1) := by decide +kernel
theorem dX10_bestOfOne_169 : decode cX10_bestOfOne 169 = .ok (.iadd, 1) := by decide +kernel
theorem dX10_bestOfOne_170 : decode cX10_bestOfOne 170 = .ok (.goto 17, 3) := by decide +kernel
theorem dX10_bestOfOne_173 : decode cX10_bestOfOne 173 = .ok (.iload 11, 2) := by decide +kernel
theorem dX10_bestOfOne_175 : decode cX10_bestOfOne 175 = .ok (.iload 7, 2) := by decide +kernel
theorem dX10_bestOfOne_177 : decode cX10_bestOfOne 177 = .ok (.if_icmp .le 8, 3) := by decide +kernel
theorem dX10_bestOfOne_180 : decode cX10_bestOfOne 180 = .ok (.iload 11, 2) := by decide +kernel
theorem dX10_bestOfOne_182 : decode cX10_bestOfOne 182 = .ok (.goto 5, 3) := by decide +kernel
theorem dX10_bestOfOne_185 : decode cX10_bestOfOne 185 = .ok (.iload 7, 2) := by decide +kernel
theorem dX10_bestOfOne_187 : decode cX10_bestOfOne 187 = .ok (.istore 7, 2) := by decide +kernel
theorem dX10_bestOfOne_189 : decode cX10_bestOfOne 189 = .ok (.iinc 9 1, 3) := by decide +kernel
theorem dX10_bestOfOne_192 : decode cX10_bestOfOne 192 = .ok (.goto (-134), 3) := by decide +kernel
theorem dX10_bestOfOne_195 : decode cX10_bestOfOne 195 = .ok (.iload 8, 2) := by decide +kernel
theorem dX10_bestOfOne_197 : decode cX10_bestOfOne 197 = .ok (.ifCond .eq 68, 3) := by decide +kernel
theorem dX10_bestOfOne_200 : decode cX10_bestOfOne 200 = .ok (.iload_n 2, 1) := by decide +kernel
theorem dX10_bestOfOne_201 : decode cX10_bestOfOne 201 = .ok (.bipush (-9), 2) := by decide +kernel
theorem dX10_bestOfOne_203 : decode cX10_bestOfOne 203 = .ok (.if_icmp .eq 12, 3) := by decide +kernel
theorem dX10_bestOfOne_206 : decode cX10_bestOfOne 206 = .ok (.iload 7, 2) := by decide +kernel
theorem dX10_bestOfOne_208 : decode cX10_bestOfOne 208 = .ok (.iload_n 2, 1) := by decide +kernel
theorem dX10_bestOfOne_209 : decode cX10_bestOfOne 209 = .ok (.if_icmp .lt 6, 3) := by decide +kernel
theorem dX10_bestOfOne_212 : decode cX10_bestOfOne 212 = .ok (.goto 53, 3) := by decide +kernel
theorem dX10_bestOfOne_215 : decode cX10_bestOfOne 215 = .ok (.iload 7, 2) := by decide +kernel
theorem dX10_bestOfOne_217 : decode cX10_bestOfOne 217 = .ok (.istore_n 2, 1) := by decide +kernel
theorem dX10_bestOfOne_218 : decode cX10_bestOfOne 218 = .ok (.iload_n 3, 1) := by decide +kernel
theorem dX10_bestOfOne_219 : decode cX10_bestOfOne 219 = .ok (.istore 5, 2) := by decide +kernel
theorem dX10_bestOfOne_221 : decode cX10_bestOfOne 221 = .ok (.iconst 0, 1) := by decide +kernel
theorem dX10_bestOfOne_222 : decode cX10_bestOfOne 222 = .ok (.istore 9, 2) := by decide +kernel
theorem dX10_bestOfOne_224 : decode cX10_bestOfOne 224 = .ok (.iload 9, 2) := by decide +kernel
theorem dX10_bestOfOne_226 : decode cX10_bestOfOne 226 = .ok (.aload_n 0, 1) := by decide +kernel
theorem dX10_bestOfOne_227 : decode cX10_bestOfOne 227 = .ok (.getfield 75, 3) := by decide +kernel
theorem dX10_bestOfOne_230 : decode cX10_bestOfOne 230 = .ok (.if_icmp .ge 35, 3) := by decide +kernel
theorem dX10_bestOfOne_233 : decode cX10_bestOfOne 233 = .ok (.iload 5, 2) := by decide +kernel
theorem dX10_bestOfOne_235 : decode cX10_bestOfOne 235 = .ok (.aload_n 0, 1) := by decide +kernel
theorem dX10_bestOfOne_236 : decode cX10_bestOfOne 236 = .ok (.getfield 67, 3) := by decide +kernel
theorem dX10_bestOfOne_239 : decode cX10_bestOfOne 239 = .ok (.idiv, 1) := by decide +kernel
theorem dX10_bestOfOne_240 : decode cX10_bestOfOne 240 = .ok (.istore 5, 2) := by decide +kernel
theorem dX10_bestOfOne_242 : decode cX10_bestOfOne 242 = .ok (.aload_n 0, 1) := by decide +kernel
theorem dX10_bestOfOne_243 : decode cX10_bestOfOne 243 = .ok (.getfield 55, 3) := by decide +kernel
theorem dX10_bestOfOne_246 : decode cX10_bestOfOne 246 = .ok (.iload 9, 2) := by decide +kernel
theorem dX10_bestOfOne_248 : decode cX10_bestOfOne 248 = .ok (.iload 4, 2) := by decide +kernel
theorem dX10_bestOfOne_250 : decode cX10_bestOfOne 250 = .ok (.iload 5, 2) := by decide +kernel
theorem dX10_bestOfOne_252 : decode cX10_bestOfOne 252 = .ok (.idiv, 1) := by decide +kernel
theorem dX10_bestOfOne_253 : decode cX10_bestOfOne 253 = .ok (.aload_n 0, 1) := by decide +kernel
theorem dX10_bestOfOne_254 : decode cX10_bestOfOne 254 = .ok (.getfield 67, 3) := by decide +kernel
theorem dX10_bestOfOne_257 : decode cX10_bestOfOne 257 = .ok (.irem, 1) := by decide +kernel
theorem dX10_bestOfOne_258 : decode cX10_bestOfOne 258 = .ok (.iastore, 1) := by decide +kernel
theorem dX10_bestOfOne_259 : decode cX10_bestOfOne 259 = .ok (.iinc 9 1, 3) := by decide +kernel
theorem dX10_bestOfOne_262 : decode cX10_bestOfOne 262 = .ok (.goto (-38), 3) := by decide +kernel
theorem dX10_bestOfOne_265 : decode cX10_bestOfOne 265 = .ok (.iinc 4 1, 3) := by decide +kernel
theorem dX10_bestOfOne_268 : decode cX10_bestOfOne 268 = .ok (.goto (-231), 3) := by decide +kernel
theorem dX10_bestOfOne_271 : decode cX10_bestOfOne 271 = .ok (.iload_n 2, 1) := by decide +kernel
theorem dX10_bestOfOne_272 : decode cX10_bestOfOne 272 = .ok (.ireturn, 1) := by decide +kernel
theorem dX10_one_0 : decode cX10_one 0 = .ok (.iload_n 1, 1) := by decide +kernel
theorem dX10_one_1 : decode cX10_one 1 = .ok (.i2l, 1) := by decide +kernel
theorem dX10_one_2 : decode cX10_one 2 = .ok (.lconst 0, 1) := by decide +kernel
theorem dX10_one_3 : decode cX10_one 3 = .ok (.lconst 1, 1) := by decide +kernel
theorem dX10_one_4 : decode cX10_one 4 = .ok (.invokestatic 71, 3) := by decide +kernel
theorem dX10_one_7 : decode cX10_one 7 = .ok (.ifCond .eq 21, 3) := by decide +kernel
theorem dX10_one_10 : decode cX10_one 10 = .ok (.iload_n 2, 1) := by decide +kernel
theorem dX10_one_11 : decode cX10_one 11 = .ok (.i2l, 1) := by decide +kernel
theorem dX10_one_12 : decode cX10_one 12 = .ok (.ldc2_w 109, 3) := by decide +kernel
theorem dX10_one_15 : decode cX10_one 15 = .ok (.aload_n 0, 1) := by decide +kernel
theorem dX10_one_16 : decode cX10_one 16 = .ok (.getfield 75, 3) := by decide +kernel
theorem dX10_one_19 : decode cX10_one 19 = .ok (.iconst 1, 1) := by decide +kernel
theorem dX10_one_20 : decode cX10_one 20 = .ok (.isub, 1) := by decide +kernel
theorem dX10_one_21 : decode cX10_one 21 = .ok (.i2l, 1) := by decide +kernel
theorem dX10_one_22 : decode cX10_one 22 = .ok (.invokestatic 71, 3) := by decide +kernel
theorem dX10_one_25 : decode cX10_one 25 = .ok (.ifCond .ne 5, 3) := by decide +kernel
theorem dX10_one_28 : decode cX10_one 28 = .ok (.iconst (-1), 1) := by decide +kernel
theorem dX10_one_29 : decode cX10_one 29 = .ok (.ireturn, 1) := by decide +kernel
theorem dX10_one_30 : decode cX10_one 30 = .ok (.aload_n 0, 1) := by decide +kernel
theorem dX10_one_31 : decode cX10_one 31 = .ok (.iload_n 1, 1) := by decide +kernel
theorem dX10_one_32 : decode cX10_one 32 = .ok (.invokevirtual 203, 3) := by decide +kernel
theorem dX10_one_35 : decode cX10_one 35 = .ok (.istore_n 3, 1) := by decide +kernel
theorem dX10_one_36 : decode cX10_one 36 = .ok (.iload_n 3, 1) := by decide +kernel
theorem dX10_one_37 : decode cX10_one 37 = .ok (.bipush (-9), 2) := by decide +kernel
theorem dX10_one_39 : decode cX10_one 39 = .ok (.if_icmp .eq 7, 3) := by decide +kernel
theorem dX10_one_42 : decode cX10_one 42 = .ok (.iload_n 2, 1) := by decide +kernel
theorem dX10_one_43 : decode cX10_one 43 = .ok (.ifCond .ge 7, 3) := by decide +kernel
theorem dX10_one_46 : decode cX10_one 46 = .ok (.iload_n 3, 1) := by decide +kernel
theorem dX10_one_47 : decode cX10_one 47 = .ok (.goto 9, 3) := by decide +kernel
theorem dX10_one_50 : decode cX10_one 50 = .ok (.aload_n 0, 1) := by decide +kernel
theorem dX10_one_51 : decode cX10_one 51 = .ok (.getfield 55, 3) := by decide +kernel
theorem dX10_one_54 : decode cX10_one 54 = .ok (.iload_n 2, 1) := by decide +kernel
theorem dX10_one_55 : decode cX10_one 55 = .ok (.iaload, 1) := by decide +kernel
theorem dX10_one_56 : decode cX10_one 56 = .ok (.ireturn, 1) := by decide +kernel
theorem dX10_rowsOfAll_0 : decode cX10_rowsOfAll 0 = .ok (.iconst 1, 1) := by decide +kernel
theorem dX10_rowsOfAll_1 : decode cX10_rowsOfAll 1 = .ok (.istore_n 1, 1) := by decide +kernel
theorem dX10_rowsOfAll_2 : decode cX10_rowsOfAll 2 = .ok (.iconst 0, 1) := by decide +kernel
theorem dX10_rowsOfAll_3 : decode cX10_rowsOfAll 3 = .ok (.istore_n 2, 1) := by decide +kernel
theorem dX10_rowsOfAll_4 : decode cX10_rowsOfAll 4 = .ok (.iload_n 2, 1) := by decide +kernel
theorem dX10_rowsOfAll_5 : decode cX10_rowsOfAll 5 = .ok (.aload_n 0, 1) := by decide +kernel
theorem dX10_rowsOfAll_6 : decode cX10_rowsOfAll 6 = .ok (.getfield 67, 3) := by decide +kernel
theorem dX10_rowsOfAll_9 : decode cX10_rowsOfAll 9 = .ok (.if_icmp .ge 28, 3) := by decide +kernel
theorem dX10_rowsOfAll_12 : decode cX10_rowsOfAll 12 = .ok (.iload_n 1, 1) := by decide +kernel
theorem dX10_rowsOfAll_13 : decode cX10_rowsOfAll 13 = .ok (.aload_n 0, 1) := by decide +kernel
theorem dX10_rowsOfAll_14 : decode cX10_rowsOfAll 14 = .ok (.iload_n 2, 1) := by decide +kernel
theorem dX10_rowsOfAll_15 : decode cX10_rowsOfAll 15 = .ok (.invokevirtual 170, 3) := by decide +kernel
theorem dX10_rowsOfAll_18 : decode cX10_rowsOfAll 18 = .ok (.ifCond .eq 7, 3) := by decide +kernel
theorem dX10_rowsOfAll_21 : decode cX10_rowsOfAll 21 = .ok (.iconst 1, 1) := by decide +kernel
theorem dX10_rowsOfAll_22 : decode cX10_rowsOfAll 22 = .ok (.goto 7, 3) := by decide +kernel
theorem dX10_rowsOfAll_25 : decode cX10_rowsOfAll 25 = .ok (.aload_n 0, 1) := by decide +kernel
theorem dX10_rowsOfAll_26 : decode cX10_rowsOfAll 26 = .ok (.getfield 75, 3) := by decide +kernel
theorem dX10_rowsOfAll_29 : decode cX10_rowsOfAll 29 = .ok (.imul, 1) := by decide +kernel
theorem dX10_rowsOfAll_30 : decode cX10_rowsOfAll 30 = .ok (.istore_n 1, 1) := by decide +kernel
theorem dX10_rowsOfAll_31 : decode cX10_rowsOfAll 31 = .ok (.iinc 2 1, 3) := by decide +kernel
theorem dX10_rowsOfAll_34 : decode cX10_rowsOfAll 34 = .ok (.goto (-30), 3) := by decide +kernel
theorem dX10_rowsOfAll_37 : decode cX10_rowsOfAll 37 = .ok (.iload_n 1, 1) := by decide +kernel
theorem dX10_rowsOfAll_38 : decode cX10_rowsOfAll 38 = .ok (.ireturn, 1) := by decide +kernel
theorem dX10_lays_0 : decode cX10_lays 0 = .ok (.iload_n 1, 1) := by decide +kernel
theorem dX10_lays_1 : decode cX10_lays 1 = .ok (.istore_n 2, 1) := by decide +kernel
theorem dX10_lays_2 : decode cX10_lays 2 = .ok (.aload_n 0, 1) := by decide +kernel
theorem dX10_lays_3 : decode cX10_lays 3 = .ok (.getfield 67, 3) := by decide +kernel
theorem dX10_lays_6 : decode cX10_lays 6 = .ok (.iconst 1, 1) := by decide +kernel
theorem dX10_lays_7 : decode cX10_lays 7 = .ok (.isub, 1) := by decide +kernel
theorem dX10_lays_8 : decode cX10_lays 8 = .ok (.istore_n 3, 1) := by decide +kernel
theorem dX10_lays_9 : decode cX10_lays 9 = .ok (.iload_n 3, 1) := by decide +kernel
theorem dX10_lays_10 : decode cX10_lays 10 = .ok (.ifCond .lt 44, 3) := by decide +kernel
theorem dX10_lays_13 : decode cX10_lays 13 = .ok (.aload_n 0, 1) := by decide +kernel
theorem dX10_lays_14 : decode cX10_lays 14 = .ok (.getfield 58, 3) := by decide +kernel
theorem dX10_lays_17 : decode cX10_lays 17 = .ok (.iload_n 3, 1) := by decide +kernel
theorem dX10_lays_18 : decode cX10_lays 18 = .ok (.bipush (-5), 2) := by decide +kernel
theorem dX10_lays_20 : decode cX10_lays 20 = .ok (.iastore, 1) := by decide +kernel
theorem dX10_lays_21 : decode cX10_lays 21 = .ok (.aload_n 0, 1) := by decide +kernel
theorem dX10_lays_22 : decode cX10_lays 22 = .ok (.iload_n 3, 1) := by decide +kernel
theorem dX10_lays_23 : decode cX10_lays 23 = .ok (.invokevirtual 170, 3) := by decide +kernel
theorem dX10_lays_26 : decode cX10_lays 26 = .ok (.ifCond .ne 22, 3) := by decide +kernel
theorem dX10_lays_29 : decode cX10_lays 29 = .ok (.aload_n 0, 1) := by decide +kernel
theorem dX10_lays_30 : decode cX10_lays 30 = .ok (.getfield 58, 3) := by decide +kernel
theorem dX10_lays_33 : decode cX10_lays 33 = .ok (.iload_n 3, 1) := by decide +kernel
theorem dX10_lays_34 : decode cX10_lays 34 = .ok (.iload_n 2, 1) := by decide +kernel
theorem dX10_lays_35 : decode cX10_lays 35 = .ok (.aload_n 0, 1) := by decide +kernel
theorem dX10_lays_36 : decode cX10_lays 36 = .ok (.getfield 75, 3) := by decide +kernel
theorem dX10_lays_39 : decode cX10_lays 39 = .ok (.irem, 1) := by decide +kernel
theorem dX10_lays_40 : decode cX10_lays 40 = .ok (.iastore, 1) := by decide +kernel
theorem dX10_lays_41 : decode cX10_lays 41 = .ok (.iload_n 2, 1) := by decide +kernel
theorem dX10_lays_42 : decode cX10_lays 42 = .ok (.aload_n 0, 1) := by decide +kernel
theorem dX10_lays_43 : decode cX10_lays 43 = .ok (.getfield 75, 3) := by decide +kernel
theorem dX10_lays_46 : decode cX10_lays 46 = .ok (.idiv, 1) := by decide +kernel
theorem dX10_lays_47 : decode cX10_lays 47 = .ok (.istore_n 2, 1) := by decide +kernel
theorem dX10_lays_48 : decode cX10_lays 48 = .ok (.iinc 3 (-1), 3) := by decide +kernel
theorem dX10_lays_51 : decode cX10_lays 51 = .ok (.goto (-42), 3) := by decide +kernel
theorem dX10_lays_54 : decode cX10_lays 54 = .ok (.return_, 1) := by decide +kernel
theorem dX10_all_0 : decode cX10_all 0 = .ok (.iload_n 1, 1) := by decide +kernel
theorem dX10_all_1 : decode cX10_all 1 = .ok (.i2l, 1) := by decide +kernel
theorem dX10_all_2 : decode cX10_all 2 = .ok (.ldc2_w 109, 3) := by decide +kernel
theorem dX10_all_5 : decode cX10_all 5 = .ok (.aload_n 0, 1) := by decide +kernel
theorem dX10_all_6 : decode cX10_all 6 = .ok (.getfield 67, 3) := by decide +kernel
theorem dX10_all_9 : decode cX10_all 9 = .ok (.iconst 1, 1) := by decide +kernel
theorem dX10_all_10 : decode cX10_all 10 = .ok (.isub, 1) := by decide +kernel
theorem dX10_all_11 : decode cX10_all 11 = .ok (.i2l, 1) := by decide +kernel
theorem dX10_all_12 : decode cX10_all 12 = .ok (.invokestatic 71, 3) := by decide +kernel
theorem dX10_all_15 : decode cX10_all 15 = .ok (.ifCond .ne 5, 3) := by decide +kernel
theorem dX10_all_18 : decode cX10_all 18 = .ok (.iconst (-1), 1) := by decide +kernel
theorem dX10_all_19 : decode cX10_all 19 = .ok (.ireturn, 1) := by decide +kernel
theorem dX10_all_20 : decode cX10_all 20 = .ok (.aload_n 0, 1) := by decide +kernel
theorem dX10_all_21 : decode cX10_all 21 = .ok (.invokevirtual 200, 3) := by decide +kernel
theorem dX10_all_24 : decode cX10_all 24 = .ok (.bipush (-9), 2) := by decide +kernel
theorem dX10_all_26 : decode cX10_all 26 = .ok (.istore_n 2, 1) := by decide +kernel
theorem dX10_all_27 : decode cX10_all 27 = .ok (.aload_n 0, 1) := by decide +kernel
theorem dX10_all_28 : decode cX10_all 28 = .ok (.invokevirtual 206, 3) := by decide +kernel
theorem dX10_all_31 : decode cX10_all 31 = .ok (.istore_n 3, 1) := by decide +kernel
theorem dX10_all_32 : decode cX10_all 32 = .ok (.iconst 0, 1) := by decide +kernel
theorem dX10_all_33 : decode cX10_all 33 = .ok (.istore 4, 2) := by decide +kernel
theorem dX10_all_35 : decode cX10_all 35 = .ok (.iload 4, 2) := by decide +kernel
theorem dX10_all_37 : decode cX10_all 37 = .ok (.iload_n 3, 1) := by decide +kernel
theorem dX10_all_38 : decode cX10_all 38 = .ok (.if_icmp .ge 151, 3) := by decide +kernel
theorem dX10_all_41 : decode cX10_all 41 = .ok (.aload_n 0, 1) := by decide +kernel
theorem dX10_all_42 : decode cX10_all 42 = .ok (.iload 4, 2) := by decide +kernel
theorem dX10_all_44 : decode cX10_all 44 = .ok (.invokevirtual 209, 3) := by decide +kernel
theorem dX10_all_47 : decode cX10_all 47 = .ok (.iconst 0, 1) := by decide +kernel
theorem dX10_all_48 : decode cX10_all 48 = .ok (.istore 5, 2) := by decide +kernel
theorem dX10_all_50 : decode cX10_all 50 = .ok (.iconst 0, 1) := by decide +kernel
theorem dX10_all_51 : decode cX10_all 51 = .ok (.istore 6, 2) := by decide +kernel
theorem dX10_all_53 : decode cX10_all 53 = .ok (.iload 6, 2) := by decide +kernel
theorem dX10_all_55 : decode cX10_all 55 = .ok (.aload_n 0, 1) := by decide +kernel
theorem dX10_all_56 : decode cX10_all 56 = .ok (.getfield 75, 3) := by decide +kernel
theorem dX10_all_59 : decode cX10_all 59 = .ok (.if_icmp .ge 67, 3) := by decide +kernel
theorem dX10_all_62 : decode cX10_all 62 = .ok (.iload 5, 2) := by decide +kernel
theorem dX10_all_64 : decode cX10_all 64 = .ok (.bipush (-9), 2) := by decide +kernel
theorem dX10_all_66 : decode cX10_all 66 = .ok (.if_icmp .eq 60, 3) := by decide +kernel
theorem dX10_all_69 : decode cX10_all 69 = .ok (.aload_n 0, 1) := by decide +kernel
theorem dX10_all_70 : decode cX10_all 70 = .ok (.getfield 52, 3) := by decide +kernel
theorem dX10_all_73 : decode cX10_all 73 = .ok (.sipush 256, 3) := by decide +kernel
theorem dX10_all_76 : decode cX10_all 76 = .ok (.iload 6, 2) := by decide +kernel
theorem dX10_all_78 : decode cX10_all 78 = .ok (.imul, 1) := by decide +kernel
theorem dX10_all_79 : decode cX10_all 79 = .ok (.aload_n 0, 1) := by decide +kernel
theorem dX10_all_80 : decode cX10_all 80 = .ok (.aload_n 0, 1) := by decide +kernel
theorem dX10_all_81 : decode cX10_all 81 = .ok (.getfield 58, 3) := by decide +kernel
theorem dX10_all_84 : decode cX10_all 84 = .ok (.iload 6, 2) := by decide +kernel
theorem dX10_all_86 : decode cX10_all 86 = .ok (.invokevirtual 178, 3) := by decide +kernel
theorem dX10_all_89 : decode cX10_all 89 = .ok (.iadd, 1) := by decide +kernel
theorem dX10_all_90 : decode cX10_all 90 = .ok (.iaload, 1) := by decide +kernel
theorem dX10_all_91 : decode cX10_all 91 = .ok (.istore 7, 2) := by decide +kernel
theorem dX10_all_93 : decode cX10_all 93 = .ok (.iload 7, 2) := by decide +kernel
theorem dX10_all_95 : decode cX10_all 95 = .ok (.bipush (-9), 2) := by decide +kernel
theorem dX10_all_97 : decode cX10_all 97 = .ok (.if_icmp .ne 8, 3) := by decide +kernel
theorem dX10_all_100 : decode cX10_all 100 = .ok (.bipush (-9), 2) := by decide +kernel
theorem dX10_all_102 : decode cX10_all 102 = .ok (.goto 16, 3) := by decide +kernel
theorem dX10_all_105 : decode cX10_all 105 = .ok (.iload 5, 2) := by decide +kernel
theorem dX10_all_107 : decode cX10_all 107 = .ok (.iload 7, 2) := by decide +kernel
theorem dX10_all_109 : decode cX10_all 109 = .ok (.aload_n 0, 1) := by decide +kernel
theorem dX10_all_110 : decode cX10_all 110 = .ok (.getfield 28, 3) := by decide +kernel
theorem dX10_all_113 : decode cX10_all 113 = .ok (.iload 6, 2) := by decide +kernel
theorem dX10_all_115 : decode cX10_all 115 = .ok (.iaload, 1) := by decide +kernel
theorem dX10_all_116 : decode cX10_all 116 = .ok (.imul, 1) := by decide +kernel
theorem dX10_all_117 : decode cX10_all 117 = .ok (.iadd, 1) := by decide +kernel
theorem dX10_all_118 : decode cX10_all 118 = .ok (.istore 5, 2) := by decide +kernel
theorem dX10_all_120 : decode cX10_all 120 = .ok (.iinc 6 1, 3) := by decide +kernel
theorem dX10_all_123 : decode cX10_all 123 = .ok (.goto (-70), 3) := by decide +kernel
theorem dX10_all_126 : decode cX10_all 126 = .ok (.iload 5, 2) := by decide +kernel
theorem dX10_all_128 : decode cX10_all 128 = .ok (.bipush (-9), 2) := by decide +kernel
theorem dX10_all_130 : decode cX10_all 130 = .ok (.if_icmp .eq 53, 3) := by decide +kernel
theorem dX10_all_133 : decode cX10_all 133 = .ok (.iload_n 2, 1) := by decide +kernel
theorem dX10_all_134 : decode cX10_all 134 = .ok (.bipush (-9), 2) := by decide +kernel
theorem dX10_all_136 : decode cX10_all 136 = .ok (.if_icmp .eq 12, 3) := by decide +kernel
theorem dX10_all_139 : decode cX10_all 139 = .ok (.iload 5, 2) := by decide +kernel
theorem dX10_all_141 : decode cX10_all 141 = .ok (.iload_n 2, 1) := by decide +kernel
theorem dX10_all_142 : decode cX10_all 142 = .ok (.if_icmp .lt 6, 3) := by decide +kernel
theorem dX10_all_145 : decode cX10_all 145 = .ok (.goto 38, 3) := by decide +kernel
theorem dX10_all_148 : decode cX10_all 148 = .ok (.iload 5, 2) := by decide +kernel
theorem dX10_all_150 : decode cX10_all 150 = .ok (.istore_n 2, 1) := by decide +kernel
theorem dX10_all_151 : decode cX10_all 151 = .ok (.iconst 0, 1) := by decide +kernel
theorem dX10_all_152 : decode cX10_all 152 = .ok (.istore 6, 2) := by decide +kernel
theorem dX10_all_154 : decode cX10_all 154 = .ok (.iload 6, 2) := by decide +kernel
theorem dX10_all_156 : decode cX10_all 156 = .ok (.aload_n 0, 1) := by decide +kernel
theorem dX10_all_157 : decode cX10_all 157 = .ok (.getfield 67, 3) := by decide +kernel
theorem dX10_all_160 : decode cX10_all 160 = .ok (.if_icmp .ge 23, 3) := by decide +kernel
theorem dX10_all_163 : decode cX10_all 163 = .ok (.aload_n 0, 1) := by decide +kernel
theorem dX10_all_164 : decode cX10_all 164 = .ok (.getfield 55, 3) := by decide +kernel
theorem dX10_all_167 : decode cX10_all 167 = .ok (.iload 6, 2) := by decide +kernel
theorem dX10_all_169 : decode cX10_all 169 = .ok (.aload_n 0, 1) := by decide +kernel
theorem dX10_all_170 : decode cX10_all 170 = .ok (.getfield 58, 3) := by decide +kernel
theorem dX10_all_173 : decode cX10_all 173 = .ok (.iload 6, 2) := by decide +kernel
theorem dX10_all_175 : decode cX10_all 175 = .ok (.iaload, 1) := by decide +kernel
theorem dX10_all_176 : decode cX10_all 176 = .ok (.iastore, 1) := by decide +kernel
theorem dX10_all_177 : decode cX10_all 177 = .ok (.iinc 6 1, 3) := by decide +kernel
theorem dX10_all_180 : decode cX10_all 180 = .ok (.goto (-26), 3) := by decide +kernel
theorem dX10_all_183 : decode cX10_all 183 = .ok (.iinc 4 1, 3) := by decide +kernel
theorem dX10_all_186 : decode cX10_all 186 = .ok (.goto (-151), 3) := by decide +kernel
theorem dX10_all_189 : decode cX10_all 189 = .ok (.iload_n 2, 1) := by decide +kernel
theorem dX10_all_190 : decode cX10_all 190 = .ok (.bipush (-9), 2) := by decide +kernel
theorem dX10_all_192 : decode cX10_all 192 = .ok (.if_icmp .eq 7, 3) := by decide +kernel
theorem dX10_all_195 : decode cX10_all 195 = .ok (.iload_n 1, 1) := by decide +kernel
theorem dX10_all_196 : decode cX10_all 196 = .ok (.ifCond .ge 7, 3) := by decide +kernel
theorem dX10_all_199 : decode cX10_all 199 = .ok (.iload_n 2, 1) := by decide +kernel
theorem dX10_all_200 : decode cX10_all 200 = .ok (.goto 9, 3) := by decide +kernel
theorem dX10_all_203 : decode cX10_all 203 = .ok (.aload_n 0, 1) := by decide +kernel
theorem dX10_all_204 : decode cX10_all 204 = .ok (.getfield 55, 3) := by decide +kernel
theorem dX10_all_207 : decode cX10_all 207 = .ok (.iload_n 1, 1) := by decide +kernel
theorem dX10_all_208 : decode cX10_all 208 = .ok (.iaload, 1) := by decide +kernel
theorem dX10_all_209 : decode cX10_all 209 = .ok (.ireturn, 1) := by decide +kernel
theorem dX10_isLess_0 : decode cX10_isLess 0 = .ok (.iload_n 0, 1) := by decide +kernel
theorem dX10_isLess_1 : decode cX10_isLess 1 = .ok (.bipush (-9), 2) := by decide +kernel
theorem dX10_isLess_3 : decode cX10_isLess 3 = .ok (.if_icmp .eq 18, 3) := by decide +kernel
theorem dX10_isLess_6 : decode cX10_isLess 6 = .ok (.iload_n 1, 1) := by decide +kernel
theorem dX10_isLess_7 : decode cX10_isLess 7 = .ok (.bipush (-9), 2) := by decide +kernel
theorem dX10_isLess_9 : decode cX10_isLess 9 = .ok (.if_icmp .eq 8, 3) := by decide +kernel
theorem dX10_isLess_12 : decode cX10_isLess 12 = .ok (.iload_n 0, 1) := by decide +kernel
theorem dX10_isLess_13 : decode cX10_isLess 13 = .ok (.iload_n 1, 1) := by decide +kernel
theorem dX10_isLess_14 : decode cX10_isLess 14 = .ok (.if_icmp .ge 7, 3) := by decide +kernel
theorem dX10_isLess_17 : decode cX10_isLess 17 = .ok (.iconst 1, 1) := by decide +kernel
theorem dX10_isLess_18 : decode cX10_isLess 18 = .ok (.goto 4, 3) := by decide +kernel
theorem dX10_isLess_21 : decode cX10_isLess 21 = .ok (.iconst 0, 1) := by decide +kernel
theorem dX10_isLess_22 : decode cX10_isLess 22 = .ok (.ireturn, 1) := by decide +kernel
theorem dX10_changeBy_0 : decode cX10_changeBy 0 = .ok (.iconst 0, 1) := by decide +kernel
theorem dX10_changeBy_1 : decode cX10_changeBy 1 = .ok (.istore_n 2, 1) := by decide +kernel
theorem dX10_changeBy_2 : decode cX10_changeBy 2 = .ok (.iload_n 2, 1) := by decide +kernel
theorem dX10_changeBy_3 : decode cX10_changeBy 3 = .ok (.aload_n 0, 1) := by decide +kernel
theorem dX10_changeBy_4 : decode cX10_changeBy 4 = .ok (.getfield 67, 3) := by decide +kernel
theorem dX10_changeBy_7 : decode cX10_changeBy 7 = .ok (.if_icmp .ge 144, 3) := by decide +kernel
theorem dX10_changeBy_10 : decode cX10_changeBy 10 = .ok (.iload_n 2, 1) := by decide +kernel
theorem dX10_changeBy_11 : decode cX10_changeBy 11 = .ok (.iconst 1, 1) := by decide +kernel
theorem dX10_changeBy_12 : decode cX10_changeBy 12 = .ok (.iadd, 1) := by decide +kernel
theorem dX10_changeBy_13 : decode cX10_changeBy 13 = .ok (.istore_n 3, 1) := by decide +kernel
theorem dX10_changeBy_14 : decode cX10_changeBy 14 = .ok (.iload_n 3, 1) := by decide +kernel
theorem dX10_changeBy_15 : decode cX10_changeBy 15 = .ok (.aload_n 0, 1) := by decide +kernel
theorem dX10_changeBy_16 : decode cX10_changeBy 16 = .ok (.getfield 67, 3) := by decide +kernel
theorem dX10_changeBy_19 : decode cX10_changeBy 19 = .ok (.if_icmp .ge 126, 3) := by decide +kernel
theorem dX10_changeBy_22 : decode cX10_changeBy 22 = .ok (.aload_n 1, 1) := by decide +kernel
theorem dX10_changeBy_23 : decode cX10_changeBy 23 = .ok (.iload_n 2, 1) := by decide +kernel
theorem dX10_changeBy_24 : decode cX10_changeBy 24 = .ok (.iaload, 1) := by decide +kernel
theorem dX10_changeBy_25 : decode cX10_changeBy 25 = .ok (.istore 4, 2) := by decide +kernel
theorem dX10_changeBy_27 : decode cX10_changeBy 27 = .ok (.aload_n 1, 1) := by decide +kernel
theorem dX10_changeBy_28 : decode cX10_changeBy 28 = .ok (.iload_n 3, 1) := by decide +kernel
theorem dX10_changeBy_29 : decode cX10_changeBy 29 = .ok (.iaload, 1) := by decide +kernel
theorem dX10_changeBy_30 : decode cX10_changeBy 30 = .ok (.istore 5, 2) := by decide +kernel
theorem dX10_changeBy_32 : decode cX10_changeBy 32 = .ok (.iload 4, 2) := by decide +kernel
theorem dX10_changeBy_34 : decode cX10_changeBy 34 = .ok (.ifCond .lt 105, 3) := by decide +kernel
theorem dX10_changeBy_37 : decode cX10_changeBy 37 = .ok (.iload 5, 2) := by decide +kernel
theorem dX10_changeBy_39 : decode cX10_changeBy 39 = .ok (.ifCond .lt 100, 3) := by decide +kernel
theorem dX10_changeBy_42 : decode cX10_changeBy 42 = .ok (.iload 4, 2) := by decide +kernel
theorem dX10_changeBy_44 : decode cX10_changeBy 44 = .ok (.iload 5, 2) := by decide +kernel
theorem dX10_changeBy_46 : decode cX10_changeBy 46 = .ok (.if_icmp .ne 6, 3) := by decide +kernel
theorem dX10_changeBy_49 : decode cX10_changeBy 49 = .ok (.goto 90, 3) := by decide +kernel
theorem dX10_changeBy_52 : decode cX10_changeBy 52 = .ok (.aload_n 0, 1) := by decide +kernel
theorem dX10_changeBy_53 : decode cX10_changeBy 53 = .ok (.aload_n 1, 1) := by decide +kernel
theorem dX10_changeBy_54 : decode cX10_changeBy 54 = .ok (.iload 4, 2) := by decide +kernel
theorem dX10_changeBy_56 : decode cX10_changeBy 56 = .ok (.invokevirtual 213, 3) := by decide +kernel
theorem dX10_changeBy_59 : decode cX10_changeBy 59 = .ok (.istore 6, 2) := by decide +kernel
theorem dX10_changeBy_61 : decode cX10_changeBy 61 = .ok (.aload_n 0, 1) := by decide +kernel
theorem dX10_changeBy_62 : decode cX10_changeBy 62 = .ok (.aload_n 1, 1) := by decide +kernel
theorem dX10_changeBy_63 : decode cX10_changeBy 63 = .ok (.iload 5, 2) := by decide +kernel
theorem dX10_changeBy_65 : decode cX10_changeBy 65 = .ok (.invokevirtual 213, 3) := by decide +kernel
theorem dX10_changeBy_68 : decode cX10_changeBy 68 = .ok (.istore 7, 2) := by decide +kernel
theorem dX10_changeBy_70 : decode cX10_changeBy 70 = .ok (.aload_n 1, 1) := by decide +kernel
theorem dX10_changeBy_71 : decode cX10_changeBy 71 = .ok (.iload_n 2, 1) := by decide +kernel
theorem dX10_changeBy_72 : decode cX10_changeBy 72 = .ok (.iload 5, 2) := by decide +kernel
theorem dX10_changeBy_74 : decode cX10_changeBy 74 = .ok (.iastore, 1) := by decide +kernel
theorem dX10_changeBy_75 : decode cX10_changeBy 75 = .ok (.aload_n 1, 1) := by decide +kernel
theorem dX10_changeBy_76 : decode cX10_changeBy 76 = .ok (.iload_n 3, 1) := by decide +kernel
theorem dX10_changeBy_77 : decode cX10_changeBy 77 = .ok (.iload 4, 2) := by decide +kernel
theorem dX10_changeBy_79 : decode cX10_changeBy 79 = .ok (.iastore, 1) := by decide +kernel
theorem dX10_changeBy_80 : decode cX10_changeBy 80 = .ok (.aload_n 0, 1) := by decide +kernel
theorem dX10_changeBy_81 : decode cX10_changeBy 81 = .ok (.aload_n 1, 1) := by decide +kernel
theorem dX10_changeBy_82 : decode cX10_changeBy 82 = .ok (.iload 4, 2) := by decide +kernel
theorem dX10_changeBy_84 : decode cX10_changeBy 84 = .ok (.invokevirtual 213, 3) := by decide +kernel
theorem dX10_changeBy_87 : decode cX10_changeBy 87 = .ok (.iload 6, 2) := by decide +kernel
theorem dX10_changeBy_89 : decode cX10_changeBy 89 = .ok (.invokestatic 216, 3) := by decide +kernel
theorem dX10_changeBy_92 : decode cX10_changeBy 92 = .ok (.ifCond .eq 22, 3) := by decide +kernel
theorem dX10_changeBy_95 : decode cX10_changeBy 95 = .ok (.aload_n 0, 1) := by decide +kernel
theorem dX10_changeBy_96 : decode cX10_changeBy 96 = .ok (.aload_n 1, 1) := by decide +kernel
theorem dX10_changeBy_97 : decode cX10_changeBy 97 = .ok (.iload 5, 2) := by decide +kernel
theorem dX10_changeBy_99 : decode cX10_changeBy 99 = .ok (.invokevirtual 213, 3) := by decide +kernel
theorem dX10_changeBy_102 : decode cX10_changeBy 102 = .ok (.iload 7, 2) := by decide +kernel
theorem dX10_changeBy_104 : decode cX10_changeBy 104 = .ok (.invokestatic 216, 3) := by decide +kernel
theorem dX10_changeBy_107 : decode cX10_changeBy 107 = .ok (.ifCond .eq 7, 3) := by decide +kernel
theorem dX10_changeBy_110 : decode cX10_changeBy 110 = .ok (.iconst 1, 1) := by decide +kernel
theorem dX10_changeBy_111 : decode cX10_changeBy 111 = .ok (.goto 4, 3) := by decide +kernel
theorem dX10_changeBy_114 : decode cX10_changeBy 114 = .ok (.iconst 0, 1) := by decide +kernel
theorem dX10_changeBy_115 : decode cX10_changeBy 115 = .ok (.istore 8, 2) := by decide +kernel
theorem dX10_changeBy_117 : decode cX10_changeBy 117 = .ok (.aload_n 1, 1) := by decide +kernel
theorem dX10_changeBy_118 : decode cX10_changeBy 118 = .ok (.iload_n 2, 1) := by decide +kernel
theorem dX10_changeBy_119 : decode cX10_changeBy 119 = .ok (.iload 4, 2) := by decide +kernel
theorem dX10_changeBy_121 : decode cX10_changeBy 121 = .ok (.iastore, 1) := by decide +kernel
theorem dX10_changeBy_122 : decode cX10_changeBy 122 = .ok (.aload_n 1, 1) := by decide +kernel
theorem dX10_changeBy_123 : decode cX10_changeBy 123 = .ok (.iload_n 3, 1) := by decide +kernel
theorem dX10_changeBy_124 : decode cX10_changeBy 124 = .ok (.iload 5, 2) := by decide +kernel
theorem dX10_changeBy_126 : decode cX10_changeBy 126 = .ok (.iastore, 1) := by decide +kernel
theorem dX10_changeBy_127 : decode cX10_changeBy 127 = .ok (.iload 8, 2) := by decide +kernel
theorem dX10_changeBy_129 : decode cX10_changeBy 129 = .ok (.ifCond .eq 10, 3) := by decide +kernel
theorem dX10_changeBy_132 : decode cX10_changeBy 132 = .ok (.bipush 10, 2) := by decide +kernel
theorem dX10_changeBy_134 : decode cX10_changeBy 134 = .ok (.iload_n 2, 1) := by decide +kernel
theorem dX10_changeBy_135 : decode cX10_changeBy 135 = .ok (.imul, 1) := by decide +kernel
theorem dX10_changeBy_136 : decode cX10_changeBy 136 = .ok (.iload_n 3, 1) := by decide +kernel
theorem dX10_changeBy_137 : decode cX10_changeBy 137 = .ok (.iadd, 1) := by decide +kernel
theorem dX10_changeBy_138 : decode cX10_changeBy 138 = .ok (.ireturn, 1) := by decide +kernel
theorem dX10_changeBy_139 : decode cX10_changeBy 139 = .ok (.iinc 3 1, 3) := by decide +kernel
theorem dX10_changeBy_142 : decode cX10_changeBy 142 = .ok (.goto (-128), 3) := by decide +kernel
theorem dX10_changeBy_145 : decode cX10_changeBy 145 = .ok (.iinc 2 1, 3) := by decide +kernel
theorem dX10_changeBy_148 : decode cX10_changeBy 148 = .ok (.goto (-146), 3) := by decide +kernel
theorem dX10_changeBy_151 : decode cX10_changeBy 151 = .ok (.bipush (-9), 2) := by decide +kernel
theorem dX10_changeBy_153 : decode cX10_changeBy 153 = .ok (.ireturn, 1) := by decide +kernel
theorem dX10_change_0 : decode cX10_change 0 = .ok (.aload_n 0, 1) := by decide +kernel
theorem dX10_change_1 : decode cX10_change 1 = .ok (.aload_n 0, 1) := by decide +kernel
theorem dX10_change_2 : decode cX10_change 2 = .ok (.getfield 31, 3) := by decide +kernel
theorem dX10_change_5 : decode cX10_change 5 = .ok (.invokevirtual 219, 3) := by decide +kernel
theorem dX10_change_8 : decode cX10_change 8 = .ok (.ireturn, 1) := by decide +kernel
theorem dX10_rest_0 : decode cX10_rest 0 = .ok (.iconst 0, 1) := by decide +kernel
theorem dX10_rest_1 : decode cX10_rest 1 = .ok (.istore_n 1, 1) := by decide +kernel
theorem dX10_rest_2 : decode cX10_rest 2 = .ok (.iload_n 1, 1) := by decide +kernel
theorem dX10_rest_3 : decode cX10_rest 3 = .ok (.aload_n 0, 1) := by decide +kernel
theorem dX10_rest_4 : decode cX10_rest 4 = .ok (.getfield 67, 3) := by decide +kernel
theorem dX10_rest_7 : decode cX10_rest 7 = .ok (.if_icmp .ge 21, 3) := by decide +kernel
theorem dX10_rest_10 : decode cX10_rest 10 = .ok (.aload_n 0, 1) := by decide +kernel
theorem dX10_rest_11 : decode cX10_rest 11 = .ok (.getfield 58, 3) := by decide +kernel
theorem dX10_rest_14 : decode cX10_rest 14 = .ok (.iload_n 1, 1) := by decide +kernel
theorem dX10_rest_15 : decode cX10_rest 15 = .ok (.aload_n 0, 1) := by decide +kernel
theorem dX10_rest_16 : decode cX10_rest 16 = .ok (.getfield 31, 3) := by decide +kernel
theorem dX10_rest_19 : decode cX10_rest 19 = .ok (.iload_n 1, 1) := by decide +kernel
theorem dX10_rest_20 : decode cX10_rest 20 = .ok (.iaload, 1) := by decide +kernel
theorem dX10_rest_21 : decode cX10_rest 21 = .ok (.iastore, 1) := by decide +kernel
theorem dX10_rest_22 : decode cX10_rest 22 = .ok (.iinc 1 1, 3) := by decide +kernel
theorem dX10_rest_25 : decode cX10_rest 25 = .ok (.goto (-23), 3) := by decide +kernel
theorem dX10_rest_28 : decode cX10_rest 28 = .ok (.iconst 0, 1) := by decide +kernel
theorem dX10_rest_29 : decode cX10_rest 29 = .ok (.istore_n 1, 1) := by decide +kernel
theorem dX10_rest_30 : decode cX10_rest 30 = .ok (.aload_n 0, 1) := by decide +kernel
theorem dX10_rest_31 : decode cX10_rest 31 = .ok (.aload_n 0, 1) := by decide +kernel
theorem dX10_rest_32 : decode cX10_rest 32 = .ok (.getfield 58, 3) := by decide +kernel
theorem dX10_rest_35 : decode cX10_rest 35 = .ok (.invokevirtual 219, 3) := by decide +kernel
theorem dX10_rest_38 : decode cX10_rest 38 = .ok (.istore_n 2, 1) := by decide +kernel
theorem dX10_rest_39 : decode cX10_rest 39 = .ok (.iload_n 2, 1) := by decide +kernel
theorem dX10_rest_40 : decode cX10_rest 40 = .ok (.bipush (-9), 2) := by decide +kernel
theorem dX10_rest_42 : decode cX10_rest 42 = .ok (.if_icmp .eq 56, 3) := by decide +kernel
theorem dX10_rest_45 : decode cX10_rest 45 = .ok (.aload_n 0, 1) := by decide +kernel
theorem dX10_rest_46 : decode cX10_rest 46 = .ok (.getfield 58, 3) := by decide +kernel
theorem dX10_rest_49 : decode cX10_rest 49 = .ok (.iload_n 2, 1) := by decide +kernel
theorem dX10_rest_50 : decode cX10_rest 50 = .ok (.bipush 10, 2) := by decide +kernel
theorem dX10_rest_52 : decode cX10_rest 52 = .ok (.idiv, 1) := by decide +kernel
theorem dX10_rest_53 : decode cX10_rest 53 = .ok (.iaload, 1) := by decide +kernel
theorem dX10_rest_54 : decode cX10_rest 54 = .ok (.istore_n 3, 1) := by decide +kernel
theorem dX10_rest_55 : decode cX10_rest 55 = .ok (.aload_n 0, 1) := by decide +kernel
theorem dX10_rest_56 : decode cX10_rest 56 = .ok (.getfield 58, 3) := by decide +kernel
theorem dX10_rest_59 : decode cX10_rest 59 = .ok (.iload_n 2, 1) := by decide +kernel
theorem dX10_rest_60 : decode cX10_rest 60 = .ok (.bipush 10, 2) := by decide +kernel
theorem dX10_rest_62 : decode cX10_rest 62 = .ok (.idiv, 1) := by decide +kernel
theorem dX10_rest_63 : decode cX10_rest 63 = .ok (.aload_n 0, 1) := by decide +kernel
theorem dX10_rest_64 : decode cX10_rest 64 = .ok (.getfield 58, 3) := by decide +kernel
theorem dX10_rest_67 : decode cX10_rest 67 = .ok (.iload_n 2, 1) := by decide +kernel
theorem dX10_rest_68 : decode cX10_rest 68 = .ok (.bipush 10, 2) := by decide +kernel
theorem dX10_rest_70 : decode cX10_rest 70 = .ok (.irem, 1) := by decide +kernel
theorem dX10_rest_71 : decode cX10_rest 71 = .ok (.iaload, 1) := by decide +kernel
theorem dX10_rest_72 : decode cX10_rest 72 = .ok (.iastore, 1) := by decide +kernel
theorem dX10_rest_73 : decode cX10_rest 73 = .ok (.aload_n 0, 1) := by decide +kernel
theorem dX10_rest_74 : decode cX10_rest 74 = .ok (.getfield 58, 3) := by decide +kernel
theorem dX10_rest_77 : decode cX10_rest 77 = .ok (.iload_n 2, 1) := by decide +kernel
theorem dX10_rest_78 : decode cX10_rest 78 = .ok (.bipush 10, 2) := by decide +kernel
theorem dX10_rest_80 : decode cX10_rest 80 = .ok (.irem, 1) := by decide +kernel
theorem dX10_rest_81 : decode cX10_rest 81 = .ok (.iload_n 3, 1) := by decide +kernel
theorem dX10_rest_82 : decode cX10_rest 82 = .ok (.iastore, 1) := by decide +kernel
theorem dX10_rest_83 : decode cX10_rest 83 = .ok (.iinc 1 1, 3) := by decide +kernel
theorem dX10_rest_86 : decode cX10_rest 86 = .ok (.aload_n 0, 1) := by decide +kernel
theorem dX10_rest_87 : decode cX10_rest 87 = .ok (.aload_n 0, 1) := by decide +kernel
theorem dX10_rest_88 : decode cX10_rest 88 = .ok (.getfield 58, 3) := by decide +kernel
theorem dX10_rest_91 : decode cX10_rest 91 = .ok (.invokevirtual 219, 3) := by decide +kernel
theorem dX10_rest_94 : decode cX10_rest 94 = .ok (.istore_n 2, 1) := by decide +kernel
theorem dX10_rest_95 : decode cX10_rest 95 = .ok (.goto (-56), 3) := by decide +kernel
theorem dX10_rest_98 : decode cX10_rest 98 = .ok (.iload_n 1, 1) := by decide +kernel
theorem dX10_rest_99 : decode cX10_rest 99 = .ok (.ireturn, 1) := by decide +kernel
theorem dX10_match_0 : decode cX10_match 0 = .ok (.aload_n 0, 1) := by decide +kernel
theorem dX10_match_1 : decode cX10_match 1 = .ok (.iload_n 1, 1) := by decide +kernel
theorem dX10_match_2 : decode cX10_match 2 = .ok (.invokevirtual 173, 3) := by decide +kernel
theorem dX10_match_5 : decode cX10_match 5 = .ok (.ifCond .eq 16, 3) := by decide +kernel
theorem dX10_match_8 : decode cX10_match 8 = .ok (.aload_n 0, 1) := by decide +kernel
theorem dX10_match_9 : decode cX10_match 9 = .ok (.iload_n 2, 1) := by decide +kernel
theorem dX10_match_10 : decode cX10_match 10 = .ok (.invokevirtual 173, 3) := by decide +kernel
theorem dX10_match_13 : decode cX10_match 13 = .ok (.ifCond .eq 8, 3) := by decide +kernel
theorem dX10_match_16 : decode cX10_match 16 = .ok (.iload_n 1, 1) := by decide +kernel
theorem dX10_match_17 : decode cX10_match 17 = .ok (.iload_n 2, 1) := by decide +kernel
theorem dX10_match_18 : decode cX10_match 18 = .ok (.if_icmp .ne 5, 3) := by decide +kernel
theorem dX10_match_21 : decode cX10_match 21 = .ok (.iconst (-1), 1) := by decide +kernel
theorem dX10_match_22 : decode cX10_match 22 = .ok (.ireturn, 1) := by decide +kernel
theorem dX10_match_23 : decode cX10_match 23 = .ok (.aload_n 0, 1) := by decide +kernel
theorem dX10_match_24 : decode cX10_match 24 = .ok (.aload_n 0, 1) := by decide +kernel
theorem dX10_match_25 : decode cX10_match 25 = .ok (.getfield 31, 3) := by decide +kernel
theorem dX10_match_28 : decode cX10_match 28 = .ok (.iload_n 1, 1) := by decide +kernel
theorem dX10_match_29 : decode cX10_match 29 = .ok (.invokevirtual 178, 3) := by decide +kernel
theorem dX10_match_32 : decode cX10_match 32 = .ok (.aload_n 0, 1) := by decide +kernel
theorem dX10_match_33 : decode cX10_match 33 = .ok (.aload_n 0, 1) := by decide +kernel
theorem dX10_match_34 : decode cX10_match 34 = .ok (.getfield 31, 3) := by decide +kernel
theorem dX10_match_37 : decode cX10_match 37 = .ok (.iload_n 2, 1) := by decide +kernel
theorem dX10_match_38 : decode cX10_match 38 = .ok (.invokevirtual 178, 3) := by decide +kernel
theorem dX10_match_41 : decode cX10_match 41 = .ok (.ior, 1) := by decide +kernel
theorem dX10_match_42 : decode cX10_match 42 = .ok (.istore_n 3, 1) := by decide +kernel
theorem dX10_match_43 : decode cX10_match 43 = .ok (.aload_n 0, 1) := by decide +kernel
theorem dX10_match_44 : decode cX10_match 44 = .ok (.iload_n 1, 1) := by decide +kernel
theorem dX10_match_45 : decode cX10_match 45 = .ok (.iload_n 3, 1) := by decide +kernel
theorem dX10_match_46 : decode cX10_match 46 = .ok (.invokevirtual 192, 3) := by decide +kernel
theorem dX10_match_49 : decode cX10_match 49 = .ok (.istore 4, 2) := by decide +kernel
theorem dX10_match_51 : decode cX10_match 51 = .ok (.aload_n 0, 1) := by decide +kernel
theorem dX10_match_52 : decode cX10_match 52 = .ok (.iload_n 2, 1) := by decide +kernel
theorem dX10_match_53 : decode cX10_match 53 = .ok (.iload_n 3, 1) := by decide +kernel
theorem dX10_match_54 : decode cX10_match 54 = .ok (.invokevirtual 192, 3) := by decide +kernel
theorem dX10_match_57 : decode cX10_match 57 = .ok (.istore 5, 2) := by decide +kernel
theorem dX10_match_59 : decode cX10_match 59 = .ok (.iload 4, 2) := by decide +kernel
theorem dX10_match_61 : decode cX10_match 61 = .ok (.bipush (-9), 2) := by decide +kernel
theorem dX10_match_63 : decode cX10_match 63 = .ok (.if_icmp .eq 10, 3) := by decide +kernel
theorem dX10_match_66 : decode cX10_match 66 = .ok (.iload 5, 2) := by decide +kernel
theorem dX10_match_68 : decode cX10_match 68 = .ok (.bipush (-9), 2) := by decide +kernel
theorem dX10_match_70 : decode cX10_match 70 = .ok (.if_icmp .ne 6, 3) := by decide +kernel
theorem dX10_match_73 : decode cX10_match 73 = .ok (.bipush (-9), 2) := by decide +kernel
theorem dX10_match_75 : decode cX10_match 75 = .ok (.ireturn, 1) := by decide +kernel
theorem dX10_match_76 : decode cX10_match 76 = .ok (.iload 4, 2) := by decide +kernel
theorem dX10_match_78 : decode cX10_match 78 = .ok (.aload_n 0, 1) := by decide +kernel
theorem dX10_match_79 : decode cX10_match 79 = .ok (.getfield 28, 3) := by decide +kernel
theorem dX10_match_82 : decode cX10_match 82 = .ok (.iload_n 1, 1) := by decide +kernel
theorem dX10_match_83 : decode cX10_match 83 = .ok (.iaload, 1) := by decide +kernel
theorem dX10_match_84 : decode cX10_match 84 = .ok (.imul, 1) := by decide +kernel
theorem dX10_match_85 : decode cX10_match 85 = .ok (.iload 5, 2) := by decide +kernel
theorem dX10_match_87 : decode cX10_match 87 = .ok (.aload_n 0, 1) := by decide +kernel
theorem dX10_match_88 : decode cX10_match 88 = .ok (.getfield 28, 3) := by decide +kernel
theorem dX10_match_91 : decode cX10_match 91 = .ok (.iload_n 2, 1) := by decide +kernel
theorem dX10_match_92 : decode cX10_match 92 = .ok (.iaload, 1) := by decide +kernel
theorem dX10_match_93 : decode cX10_match 93 = .ok (.imul, 1) := by decide +kernel
theorem dX10_match_94 : decode cX10_match 94 = .ok (.iadd, 1) := by decide +kernel
theorem dX10_match_95 : decode cX10_match 95 = .ok (.aload_n 0, 1) := by decide +kernel
theorem dX10_match_96 : decode cX10_match 96 = .ok (.aload_n 0, 1) := by decide +kernel
theorem dX10_match_97 : decode cX10_match 97 = .ok (.getfield 31, 3) := by decide +kernel
theorem dX10_match_100 : decode cX10_match 100 = .ok (.iload_n 1, 1) := by decide +kernel
theorem dX10_match_101 : decode cX10_match 101 = .ok (.invokevirtual 213, 3) := by decide +kernel
theorem dX10_match_104 : decode cX10_match 104 = .ok (.isub, 1) := by decide +kernel
theorem dX10_match_105 : decode cX10_match 105 = .ok (.aload_n 0, 1) := by decide +kernel
theorem dX10_match_106 : decode cX10_match 106 = .ok (.aload_n 0, 1) := by decide +kernel
theorem dX10_match_107 : decode cX10_match 107 = .ok (.getfield 31, 3) := by decide +kernel
theorem dX10_match_110 : decode cX10_match 110 = .ok (.iload_n 2, 1) := by decide +kernel
theorem dX10_match_111 : decode cX10_match 111 = .ok (.invokevirtual 213, 3) := by decide +kernel
theorem dX10_match_114 : decode cX10_match 114 = .ok (.isub, 1) := by decide +kernel
theorem dX10_match_115 : decode cX10_match 115 = .ok (.ireturn, 1) := by decide +kernel
theorem dX10_always_0 : decode cX10_always 0 = .ok (.iconst 0, 1) := by decide +kernel
theorem dX10_always_1 : decode cX10_always 1 = .ok (.istore_n 1, 1) := by decide +kernel
theorem dX10_always_2 : decode cX10_always 2 = .ok (.iconst 0, 1) := by decide +kernel
theorem dX10_always_3 : decode cX10_always 3 = .ok (.istore_n 2, 1) := by decide +kernel
theorem dX10_always_4 : decode cX10_always 4 = .ok (.iload_n 2, 1) := by decide +kernel
theorem dX10_always_5 : decode cX10_always 5 = .ok (.aload_n 0, 1) := by decide +kernel
theorem dX10_always_6 : decode cX10_always 6 = .ok (.getfield 75, 3) := by decide +kernel
theorem dX10_always_9 : decode cX10_always 9 = .ok (.if_icmp .ge 62, 3) := by decide +kernel
theorem dX10_always_12 : decode cX10_always 12 = .ok (.aload_n 0, 1) := by decide +kernel
theorem dX10_always_13 : decode cX10_always 13 = .ok (.iload_n 2, 1) := by decide +kernel
theorem dX10_always_14 : decode cX10_always 14 = .ok (.iconst 0, 1) := by decide +kernel
theorem dX10_always_15 : decode cX10_always 15 = .ok (.invokevirtual 192, 3) := by decide +kernel
theorem dX10_always_18 : decode cX10_always 18 = .ok (.bipush (-9), 2) := by decide +kernel
theorem dX10_always_20 : decode cX10_always 20 = .ok (.if_icmp .ne 6, 3) := by decide +kernel
theorem dX10_always_23 : decode cX10_always 23 = .ok (.bipush (-9), 2) := by decide +kernel
theorem dX10_always_25 : decode cX10_always 25 = .ok (.ireturn, 1) := by decide +kernel
theorem dX10_always_26 : decode cX10_always 26 = .ok (.iconst 0, 1) := by decide +kernel
theorem dX10_always_27 : decode cX10_always 27 = .ok (.istore_n 3, 1) := by decide +kernel
theorem dX10_always_28 : decode cX10_always 28 = .ok (.iload_n 3, 1) := by decide +kernel
theorem dX10_always_29 : decode cX10_always 29 = .ok (.aload_n 0, 1) := by decide +kernel
theorem dX10_always_30 : decode cX10_always 30 = .ok (.getfield 67, 3) := by decide +kernel
theorem dX10_always_33 : decode cX10_always 33 = .ok (.if_icmp .ge 32, 3) := by decide +kernel
theorem dX10_always_36 : decode cX10_always 36 = .ok (.iload_n 1, 1) := by decide +kernel
theorem dX10_always_37 : decode cX10_always 37 = .ok (.aload_n 0, 1) := by decide +kernel
theorem dX10_always_38 : decode cX10_always 38 = .ok (.iload_n 2, 1) := by decide +kernel
theorem dX10_always_39 : decode cX10_always 39 = .ok (.iconst 1, 1) := by decide +kernel
theorem dX10_always_40 : decode cX10_always 40 = .ok (.iload_n 3, 1) := by decide +kernel
theorem dX10_always_41 : decode cX10_always 41 = .ok (.ishl, 1) := by decide +kernel
theorem dX10_always_42 : decode cX10_always 42 = .ok (.invokevirtual 192, 3) := by decide +kernel
theorem dX10_always_45 : decode cX10_always 45 = .ok (.bipush (-9), 2) := by decide +kernel
theorem dX10_always_47 : decode cX10_always 47 = .ok (.if_icmp .ne 9, 3) := by decide +kernel
theorem dX10_always_50 : decode cX10_always 50 = .ok (.iconst 1, 1) := by decide +kernel
theorem dX10_always_51 : decode cX10_always 51 = .ok (.iload_n 3, 1) := by decide +kernel
theorem dX10_always_52 : decode cX10_always 52 = .ok (.ishl, 1) := by decide +kernel
theorem dX10_always_53 : decode cX10_always 53 = .ok (.goto 4, 3) := by decide +kernel
theorem dX10_always_56 : decode cX10_always 56 = .ok (.iconst 0, 1) := by decide +kernel
theorem dX10_always_57 : decode cX10_always 57 = .ok (.ior, 1) := by decide +kernel
theorem dX10_always_58 : decode cX10_always 58 = .ok (.istore_n 1, 1) := by decide +kernel
theorem dX10_always_59 : decode cX10_always 59 = .ok (.iinc 3 1, 3) := by decide +kernel
theorem dX10_always_62 : decode cX10_always 62 = .ok (.goto (-34), 3) := by decide +kernel
theorem dX10_always_65 : decode cX10_always 65 = .ok (.iinc 2 1, 3) := by decide +kernel
theorem dX10_always_68 : decode cX10_always 68 = .ok (.goto (-64), 3) := by decide +kernel
theorem dX10_always_71 : decode cX10_always 71 = .ok (.iload_n 1, 1) := by decide +kernel
theorem dX10_always_72 : decode cX10_always 72 = .ok (.aload_n 0, 1) := by decide +kernel
theorem dX10_always_73 : decode cX10_always 73 = .ok (.aload_n 0, 1) := by decide +kernel
theorem dX10_always_74 : decode cX10_always 74 = .ok (.getfield 31, 3) := by decide +kernel
theorem dX10_always_77 : decode cX10_always 77 = .ok (.bipush (-5), 2) := by decide +kernel
theorem dX10_always_79 : decode cX10_always 79 = .ok (.invokevirtual 178, 3) := by decide +kernel
theorem dX10_always_82 : decode cX10_always 82 = .ok (.ior, 1) := by decide +kernel
theorem dX10_always_83 : decode cX10_always 83 = .ok (.ireturn, 1) := by decide +kernel
theorem dX10_shut_0 : decode cX10_shut 0 = .ok (.aload_n 0, 1) := by decide +kernel
theorem dX10_shut_1 : decode cX10_shut 1 = .ok (.iload_n 1, 1) := by decide +kernel
theorem dX10_shut_2 : decode cX10_shut 2 = .ok (.invokevirtual 173, 3) := by decide +kernel
theorem dX10_shut_5 : decode cX10_shut 5 = .ok (.ifCond .eq 13, 3) := by decide +kernel
theorem dX10_shut_8 : decode cX10_shut 8 = .ok (.iload_n 2, 1) := by decide +kernel
theorem dX10_shut_9 : decode cX10_shut 9 = .ok (.i2l, 1) := by decide +kernel
theorem dX10_shut_10 : decode cX10_shut 10 = .ok (.lconst 0, 1) := by decide +kernel
theorem dX10_shut_11 : decode cX10_shut 11 = .ok (.lconst 1, 1) := by decide +kernel
theorem dX10_shut_12 : decode cX10_shut 12 = .ok (.invokestatic 71, 3) := by decide +kernel
theorem dX10_shut_15 : decode cX10_shut 15 = .ok (.ifCond .ne 7, 3) := by decide +kernel
theorem dX10_shut_18 : decode cX10_shut 18 = .ok (.ldc2_w 109, 3) := by decide +kernel
theorem dX10_shut_21 : decode cX10_shut 21 = .ok (.lreturn, 1) := by decide +kernel
theorem dX10_shut_22 : decode cX10_shut 22 = .ok (.aload_n 0, 1) := by decide +kernel
theorem dX10_shut_23 : decode cX10_shut 23 = .ok (.aload_n 0, 1) := by decide +kernel
theorem dX10_shut_24 : decode cX10_shut 24 = .ok (.getfield 31, 3) := by decide +kernel
theorem dX10_shut_27 : decode cX10_shut 27 = .ok (.iload_n 1, 1) := by decide +kernel
theorem dX10_shut_28 : decode cX10_shut 28 = .ok (.invokevirtual 178, 3) := by decide +kernel
theorem dX10_shut_31 : decode cX10_shut 31 = .ok (.istore_n 3, 1) := by decide +kernel
theorem dX10_shut_32 : decode cX10_shut 32 = .ok (.lconst 0, 1) := by decide +kernel
theorem dX10_shut_33 : decode cX10_shut 33 = .ok (.lstore 4, 2) := by decide +kernel
theorem dX10_shut_35 : decode cX10_shut 35 = .ok (.lconst 1, 1) := by decide +kernel
theorem dX10_shut_36 : decode cX10_shut 36 = .ok (.lstore 6, 2) := by decide +kernel
theorem dX10_shut_38 : decode cX10_shut 38 = .ok (.iconst 0, 1) := by decide +kernel
theorem dX10_shut_39 : decode cX10_shut 39 = .ok (.istore 8, 2) := by decide +kernel
theorem dX10_shut_41 : decode cX10_shut 41 = .ok (.iload 8, 2) := by decide +kernel
theorem dX10_shut_43 : decode cX10_shut 43 = .ok (.aload_n 0, 1) := by decide +kernel
theorem dX10_shut_44 : decode cX10_shut 44 = .ok (.getfield 67, 3) := by decide +kernel
theorem dX10_shut_47 : decode cX10_shut 47 = .ok (.if_icmp .ge 17, 3) := by decide +kernel
theorem dX10_shut_50 : decode cX10_shut 50 = .ok (.lload 6, 2) := by decide +kernel
theorem dX10_shut_52 : decode cX10_shut 52 = .ok (.ldc2_w 111, 3) := by decide +kernel
theorem dX10_shut_55 : decode cX10_shut 55 = .ok (.lmul, 1) := by decide +kernel
theorem dX10_shut_56 : decode cX10_shut 56 = .ok (.lstore 6, 2) := by decide +kernel
theorem dX10_shut_58 : decode cX10_shut 58 = .ok (.iinc 8 1, 3) := by decide +kernel
theorem dX10_shut_61 : decode cX10_shut 61 = .ok (.goto (-20), 3) := by decide +kernel
theorem dX10_shut_64 : decode cX10_shut 64 = .ok (.iconst 0, 1) := by decide +kernel
theorem dX10_shut_65 : decode cX10_shut 65 = .ok (.istore 8, 2) := by decide +kernel
theorem dX10_shut_67 : decode cX10_shut 67 = .ok (.iload 8, 2) := by decide +kernel
theorem dX10_shut_69 : decode cX10_shut 69 = .ok (.iconst 1, 1) := by decide +kernel
theorem dX10_shut_70 : decode cX10_shut 70 = .ok (.aload_n 0, 1) := by decide +kernel
theorem dX10_shut_71 : decode cX10_shut 71 = .ok (.getfield 67, 3) := by decide +kernel
theorem dX10_shut_74 : decode cX10_shut 74 = .ok (.ishl, 1) := by decide +kernel
theorem dX10_shut_75 : decode cX10_shut 75 = .ok (.if_icmp .ge 93, 3) := by decide +kernel
theorem dX10_shut_78 : decode cX10_shut 78 = .ok (.lconst 1, 1) := by decide +kernel
theorem dX10_shut_79 : decode cX10_shut 79 = .ok (.lstore 9, 2) := by decide +kernel
theorem dX10_shut_81 : decode cX10_shut 81 = .ok (.iconst 0, 1) := by decide +kernel
theorem dX10_shut_82 : decode cX10_shut 82 = .ok (.istore 11, 2) := by decide +kernel
theorem dX10_shut_84 : decode cX10_shut 84 = .ok (.iload 11, 2) := by decide +kernel
theorem dX10_shut_86 : decode cX10_shut 86 = .ok (.aload_n 0, 1) := by decide +kernel
theorem dX10_shut_87 : decode cX10_shut 87 = .ok (.getfield 67, 3) := by decide +kernel
theorem dX10_shut_90 : decode cX10_shut 90 = .ok (.if_icmp .ge 47, 3) := by decide +kernel
theorem dX10_shut_93 : decode cX10_shut 93 = .ok (.lload 9, 2) := by decide +kernel
theorem dX10_shut_95 : decode cX10_shut 95 = .ok (.iload 8, 2) := by decide +kernel
theorem dX10_shut_97 : decode cX10_shut 97 = .ok (.iload 11, 2) := by decide +kernel
theorem dX10_shut_99 : decode cX10_shut 99 = .ok (.ishr, 1) := by decide +kernel
theorem dX10_shut_100 : decode cX10_shut 100 = .ok (.iconst 1, 1) := by decide +kernel
theorem dX10_shut_101 : decode cX10_shut 101 = .ok (.iand, 1) := by decide +kernel
theorem dX10_shut_102 : decode cX10_shut 102 = .ok (.iconst 1, 1) := by decide +kernel
theorem dX10_shut_103 : decode cX10_shut 103 = .ok (.if_icmp .ne 14, 3) := by decide +kernel
theorem dX10_shut_106 : decode cX10_shut 106 = .ok (.aload_n 0, 1) := by decide +kernel
theorem dX10_shut_107 : decode cX10_shut 107 = .ok (.getfield 34, 3) := by decide +kernel
theorem dX10_shut_110 : decode cX10_shut 110 = .ok (.iload 11, 2) := by decide +kernel
theorem dX10_shut_112 : decode cX10_shut 112 = .ok (.iaload, 1) := by decide +kernel
theorem dX10_shut_113 : decode cX10_shut 113 = .ok (.i2l, 1) := by decide +kernel
theorem dX10_shut_114 : decode cX10_shut 114 = .ok (.goto 14, 3) := by decide +kernel
theorem dX10_shut_117 : decode cX10_shut 117 = .ok (.bipush 10, 2) := by decide +kernel
theorem dX10_shut_119 : decode cX10_shut 119 = .ok (.aload_n 0, 1) := by decide +kernel
theorem dX10_shut_120 : decode cX10_shut 120 = .ok (.getfield 34, 3) := by decide +kernel
theorem dX10_shut_123 : decode cX10_shut 123 = .ok (.iload 11, 2) := by decide +kernel
theorem dX10_shut_125 : decode cX10_shut 125 = .ok (.iaload, 1) := by decide +kernel
theorem dX10_shut_126 : decode cX10_shut 126 = .ok (.isub, 1) := by decide +kernel
theorem dX10_shut_127 : decode cX10_shut 127 = .ok (.i2l, 1) := by decide +kernel
theorem dX10_shut_128 : decode cX10_shut 128 = .ok (.lmul, 1) := by decide +kernel
theorem dX10_shut_129 : decode cX10_shut 129 = .ok (.lstore 9, 2) := by decide +kernel
theorem dX10_shut_131 : decode cX10_shut 131 = .ok (.iinc 11 1, 3) := by decide +kernel
theorem dX10_shut_134 : decode cX10_shut 134 = .ok (.goto (-50), 3) := by decide +kernel
theorem dX10_shut_137 : decode cX10_shut 137 = .ok (.lload 4, 2) := by decide +kernel
theorem dX10_shut_139 : decode cX10_shut 139 = .ok (.aload_n 0, 1) := by decide +kernel
theorem dX10_shut_140 : decode cX10_shut 140 = .ok (.iload_n 1, 1) := by decide +kernel
theorem dX10_shut_141 : decode cX10_shut 141 = .ok (.iload_n 3, 1) := by decide +kernel
theorem dX10_shut_142 : decode cX10_shut 142 = .ok (.iload 8, 2) := by decide +kernel
theorem dX10_shut_144 : decode cX10_shut 144 = .ok (.ior, 1) := by decide +kernel
theorem dX10_shut_145 : decode cX10_shut 145 = .ok (.invokevirtual 192, 3) := by decide +kernel
theorem dX10_shut_148 : decode cX10_shut 148 = .ok (.bipush (-9), 2) := by decide +kernel
theorem dX10_shut_150 : decode cX10_shut 150 = .ok (.if_icmp .ne 8, 3) := by decide +kernel
theorem dX10_shut_153 : decode cX10_shut 153 = .ok (.lload 9, 2) := by decide +kernel
theorem dX10_shut_155 : decode cX10_shut 155 = .ok (.goto 4, 3) := by decide +kernel
theorem dX10_shut_158 : decode cX10_shut 158 = .ok (.lconst 0, 1) := by decide +kernel
theorem dX10_shut_159 : decode cX10_shut 159 = .ok (.ladd, 1) := by decide +kernel
theorem dX10_shut_160 : decode cX10_shut 160 = .ok (.lstore 4, 2) := by decide +kernel
theorem dX10_shut_162 : decode cX10_shut 162 = .ok (.iinc 8 1, 3) := by decide +kernel
theorem dX10_shut_165 : decode cX10_shut 165 = .ok (.goto (-98), 3) := by decide +kernel
theorem dX10_shut_168 : decode cX10_shut 168 = .ok (.lload 4, 2) := by decide +kernel
theorem dX10_shut_170 : decode cX10_shut 170 = .ok (.lstore 8, 2) := by decide +kernel
theorem dX10_shut_172 : decode cX10_shut 172 = .ok (.lload 6, 2) := by decide +kernel
theorem dX10_shut_174 : decode cX10_shut 174 = .ok (.lstore 10, 2) := by decide +kernel
theorem dX10_shut_176 : decode cX10_shut 176 = .ok (.lload 10, 2) := by decide +kernel
theorem dX10_shut_178 : decode cX10_shut 178 = .ok (.lconst 0, 1) := by decide +kernel
theorem dX10_shut_179 : decode cX10_shut 179 = .ok (.lcmp, 1) := by decide +kernel
theorem dX10_shut_180 : decode cX10_shut 180 = .ok (.ifCond .eq 21, 3) := by decide +kernel
theorem dX10_shut_183 : decode cX10_shut 183 = .ok (.lload 8, 2) := by decide +kernel
theorem dX10_shut_185 : decode cX10_shut 185 = .ok (.lload 10, 2) := by decide +kernel
theorem dX10_shut_187 : decode cX10_shut 187 = .ok (.lrem, 1) := by decide +kernel
theorem dX10_shut_188 : decode cX10_shut 188 = .ok (.lstore 12, 2) := by decide +kernel
theorem dX10_shut_190 : decode cX10_shut 190 = .ok (.lload 10, 2) := by decide +kernel
theorem dX10_shut_192 : decode cX10_shut 192 = .ok (.lstore 8, 2) := by decide +kernel
theorem dX10_shut_194 : decode cX10_shut 194 = .ok (.lload 12, 2) := by decide +kernel
theorem dX10_shut_196 : decode cX10_shut 196 = .ok (.lstore 10, 2) := by decide +kernel
theorem dX10_shut_198 : decode cX10_shut 198 = .ok (.goto (-22), 3) := by decide +kernel
theorem dX10_shut_201 : decode cX10_shut 201 = .ok (.iload_n 2, 1) := by decide +kernel
theorem dX10_shut_202 : decode cX10_shut 202 = .ok (.ifCond .ne 11, 3) := by decide +kernel
theorem dX10_shut_205 : decode cX10_shut 205 = .ok (.lload 4, 2) := by decide +kernel
theorem dX10_shut_207 : decode cX10_shut 207 = .ok (.lload 8, 2) := by decide +kernel
theorem dX10_shut_209 : decode cX10_shut 209 = .ok (.ldiv, 1) := by decide +kernel
theorem dX10_shut_210 : decode cX10_shut 210 = .ok (.goto 8, 3) := by decide +kernel
theorem dX10_shut_213 : decode cX10_shut 213 = .ok (.lload 6, 2) := by decide +kernel
theorem dX10_shut_215 : decode cX10_shut 215 = .ok (.lload 8, 2) := by decide +kernel
theorem dX10_shut_217 : decode cX10_shut 217 = .ok (.ldiv, 1) := by decide +kernel
theorem dX10_shut_218 : decode cX10_shut 218 = .ok (.lreturn, 1) := by decide +kernel
theorem dX10_saw_0 : decode cX10_saw 0 = .ok (.aload_n 0, 1) := by decide +kernel
theorem dX10_saw_1 : decode cX10_saw 1 = .ok (.iload_n 1, 1) := by decide +kernel
theorem dX10_saw_2 : decode cX10_saw 2 = .ok (.invokevirtual 173, 3) := by decide +kernel
theorem dX10_saw_5 : decode cX10_saw 5 = .ok (.ifCond .eq 21, 3) := by decide +kernel
theorem dX10_saw_8 : decode cX10_saw 8 = .ok (.iload_n 2, 1) := by decide +kernel
theorem dX10_saw_9 : decode cX10_saw 9 = .ok (.i2l, 1) := by decide +kernel
theorem dX10_saw_10 : decode cX10_saw 10 = .ok (.lconst 0, 1) := by decide +kernel
theorem dX10_saw_11 : decode cX10_saw 11 = .ok (.iconst 1, 1) := by decide +kernel
theorem dX10_saw_12 : decode cX10_saw 12 = .ok (.aload_n 0, 1) := by decide +kernel
theorem dX10_saw_13 : decode cX10_saw 13 = .ok (.getfield 67, 3) := by decide +kernel
theorem dX10_saw_16 : decode cX10_saw 16 = .ok (.ishl, 1) := by decide +kernel
theorem dX10_saw_17 : decode cX10_saw 17 = .ok (.iconst 1, 1) := by decide +kernel
theorem dX10_saw_18 : decode cX10_saw 18 = .ok (.isub, 1) := by decide +kernel
theorem dX10_saw_19 : decode cX10_saw 19 = .ok (.i2l, 1) := by decide +kernel
theorem dX10_saw_20 : decode cX10_saw 20 = .ok (.invokestatic 71, 3) := by decide +kernel
theorem dX10_saw_23 : decode cX10_saw 23 = .ok (.ifCond .ne 5, 3) := by decide +kernel
theorem dX10_saw_26 : decode cX10_saw 26 = .ok (.iconst (-1), 1) := by decide +kernel
theorem dX10_saw_27 : decode cX10_saw 27 = .ok (.ireturn, 1) := by decide +kernel
theorem dX10_saw_28 : decode cX10_saw 28 = .ok (.aload_n 0, 1) := by decide +kernel
theorem dX10_saw_29 : decode cX10_saw 29 = .ok (.getfield 158, 3) := by decide +kernel
theorem dX10_saw_32 : decode cX10_saw 32 = .ok (.bipush 10, 2) := by decide +kernel
theorem dX10_saw_34 : decode cX10_saw 34 = .ok (.if_icmp .ne 6, 3) := by decide +kernel
theorem dX10_saw_37 : decode cX10_saw 37 = .ok (.bipush (-3), 2) := by decide +kernel
theorem dX10_saw_39 : decode cX10_saw 39 = .ok (.ireturn, 1) := by decide +kernel
theorem dX10_saw_40 : decode cX10_saw 40 = .ok (.aload_n 0, 1) := by decide +kernel
theorem dX10_saw_41 : decode cX10_saw 41 = .ok (.getfield 37, 3) := by decide +kernel
theorem dX10_saw_44 : decode cX10_saw 44 = .ok (.aload_n 0, 1) := by decide +kernel
theorem dX10_saw_45 : decode cX10_saw 45 = .ok (.getfield 158, 3) := by decide +kernel
theorem dX10_saw_48 : decode cX10_saw 48 = .ok (.iload_n 1, 1) := by decide +kernel
theorem dX10_saw_49 : decode cX10_saw 49 = .ok (.iastore, 1) := by decide +kernel
theorem dX10_saw_50 : decode cX10_saw 50 = .ok (.aload_n 0, 1) := by decide +kernel
theorem dX10_saw_51 : decode cX10_saw 51 = .ok (.getfield 40, 3) := by decide +kernel
theorem dX10_saw_54 : decode cX10_saw 54 = .ok (.aload_n 0, 1) := by decide +kernel
theorem dX10_saw_55 : decode cX10_saw 55 = .ok (.getfield 158, 3) := by decide +kernel
theorem dX10_saw_58 : decode cX10_saw 58 = .ok (.iload_n 2, 1) := by decide +kernel
theorem dX10_saw_59 : decode cX10_saw 59 = .ok (.iastore, 1) := by decide +kernel
theorem dX10_saw_60 : decode cX10_saw 60 = .ok (.aload_n 0, 1) := by decide +kernel
theorem dX10_saw_61 : decode cX10_saw 61 = .ok (.dup, 1) := by decide +kernel
theorem dX10_saw_62 : decode cX10_saw 62 = .ok (.getfield 158, 3) := by decide +kernel
theorem dX10_saw_65 : decode cX10_saw 65 = .ok (.iconst 1, 1) := by decide +kernel
theorem dX10_saw_66 : decode cX10_saw 66 = .ok (.iadd, 1) := by decide +kernel
theorem dX10_saw_67 : decode cX10_saw 67 = .ok (.putfield 158, 3) := by decide +kernel
theorem dX10_saw_70 : decode cX10_saw 70 = .ok (.aload_n 0, 1) := by decide +kernel
theorem dX10_saw_71 : decode cX10_saw 71 = .ok (.getfield 158, 3) := by decide +kernel
theorem dX10_saw_74 : decode cX10_saw 74 = .ok (.ireturn, 1) := by decide +kernel
theorem dX10_forget_0 : decode cX10_forget 0 = .ok (.aload_n 0, 1) := by decide +kernel
theorem dX10_forget_1 : decode cX10_forget 1 = .ok (.getfield 158, 3) := by decide +kernel
theorem dX10_forget_4 : decode cX10_forget 4 = .ok (.istore_n 1, 1) := by decide +kernel
theorem dX10_forget_5 : decode cX10_forget 5 = .ok (.aload_n 0, 1) := by decide +kernel
theorem dX10_forget_6 : decode cX10_forget 6 = .ok (.iconst 0, 1) := by decide +kernel
theorem dX10_forget_7 : decode cX10_forget 7 = .ok (.putfield 158, 3) := by decide +kernel
theorem dX10_forget_10 : decode cX10_forget 10 = .ok (.iload_n 1, 1) := by decide +kernel
theorem dX10_forget_11 : decode cX10_forget 11 = .ok (.ireturn, 1) := by decide +kernel
theorem dX10_paves_0 : decode cX10_paves 0 = .ok (.iconst 0, 1) := by decide +kernel
theorem dX10_paves_1 : decode cX10_paves 1 = .ok (.istore_n 1, 1) := by decide +kernel
theorem dX10_paves_2 : decode cX10_paves 2 = .ok (.iload_n 1, 1) := by decide +kernel
theorem dX10_paves_3 : decode cX10_paves 3 = .ok (.iconst 4, 1) := by decide +kernel
theorem dX10_paves_4 : decode cX10_paves 4 = .ok (.if_icmp .ge 16, 3) := by decide +kernel
theorem dX10_paves_7 : decode cX10_paves 7 = .ok (.aload_n 0, 1) := by decide +kernel
theorem dX10_paves_8 : decode cX10_paves 8 = .ok (.getfield 61, 3) := by decide +kernel
theorem dX10_paves_11 : decode cX10_paves 11 = .ok (.iload_n 1, 1) := by decide +kernel
theorem dX10_paves_12 : decode cX10_paves 12 = .ok (.iconst 0, 1) := by decide +kernel
theorem dX10_paves_13 : decode cX10_paves 13 = .ok (.iastore, 1) := by decide +kernel
theorem dX10_paves_14 : decode cX10_paves 14 = .ok (.iinc 1 1, 3) := by decide +kernel
theorem dX10_paves_17 : decode cX10_paves 17 = .ok (.goto (-15), 3) := by decide +kernel
theorem dX10_paves_20 : decode cX10_paves 20 = .ok (.iconst 0, 1) := by decide +kernel
theorem dX10_paves_21 : decode cX10_paves 21 = .ok (.istore_n 1, 1) := by decide +kernel
theorem dX10_paves_22 : decode cX10_paves 22 = .ok (.iload_n 1, 1) := by decide +kernel
theorem dX10_paves_23 : decode cX10_paves 23 = .ok (.aload_n 0, 1) := by decide +kernel
theorem dX10_paves_24 : decode cX10_paves 24 = .ok (.getfield 158, 3) := by decide +kernel
theorem dX10_paves_27 : decode cX10_paves 27 = .ok (.if_icmp .ge 29, 3) := by decide +kernel
theorem dX10_paves_30 : decode cX10_paves 30 = .ok (.aload_n 0, 1) := by decide +kernel
theorem dX10_paves_31 : decode cX10_paves 31 = .ok (.getfield 61, 3) := by decide +kernel
theorem dX10_paves_34 : decode cX10_paves 34 = .ok (.aload_n 0, 1) := by decide +kernel
theorem dX10_paves_35 : decode cX10_paves 35 = .ok (.getfield 37, 3) := by decide +kernel
theorem dX10_paves_38 : decode cX10_paves 38 = .ok (.iload_n 1, 1) := by decide +kernel
theorem dX10_paves_39 : decode cX10_paves 39 = .ok (.iaload, 1) := by decide +kernel
theorem dX10_paves_40 : decode cX10_paves 40 = .ok (.dup2, 1) := by decide +kernel
theorem dX10_paves_41 : decode cX10_paves 41 = .ok (.iaload, 1) := by decide +kernel
theorem dX10_paves_42 : decode cX10_paves 42 = .ok (.aload_n 0, 1) := by decide +kernel
theorem dX10_paves_43 : decode cX10_paves 43 = .ok (.getfield 40, 3) := by decide +kernel
theorem dX10_paves_46 : decode cX10_paves 46 = .ok (.iload_n 1, 1) := by decide +kernel
theorem dX10_paves_47 : decode cX10_paves 47 = .ok (.iaload, 1) := by decide +kernel
theorem dX10_paves_48 : decode cX10_paves 48 = .ok (.ior, 1) := by decide +kernel
theorem dX10_paves_49 : decode cX10_paves 49 = .ok (.iastore, 1) := by decide +kernel
theorem dX10_paves_50 : decode cX10_paves 50 = .ok (.iinc 1 1, 3) := by decide +kernel
theorem dX10_paves_53 : decode cX10_paves 53 = .ok (.goto (-31), 3) := by decide +kernel
theorem dX10_paves_56 : decode cX10_paves 56 = .ok (.iconst 0, 1) := by decide +kernel
theorem dX10_paves_57 : decode cX10_paves 57 = .ok (.istore_n 1, 1) := by decide +kernel
theorem dX10_paves_58 : decode cX10_paves 58 = .ok (.iload_n 1, 1) := by decide +kernel
theorem dX10_paves_59 : decode cX10_paves 59 = .ok (.bipush 8, 2) := by decide +kernel
theorem dX10_paves_61 : decode cX10_paves 61 = .ok (.if_icmp .ge 16, 3) := by decide +kernel
theorem dX10_paves_64 : decode cX10_paves 64 = .ok (.aload_n 0, 1) := by decide +kernel
theorem dX10_paves_65 : decode cX10_paves 65 = .ok (.getfield 64, 3) := by decide +kernel
theorem dX10_paves_68 : decode cX10_paves 68 = .ok (.iload_n 1, 1) := by decide +kernel
theorem dX10_paves_69 : decode cX10_paves 69 = .ok (.iconst 0, 1) := by decide +kernel
theorem dX10_paves_70 : decode cX10_paves 70 = .ok (.iastore, 1) := by decide +kernel
theorem dX10_paves_71 : decode cX10_paves 71 = .ok (.iinc 1 1, 3) := by decide +kernel
theorem dX10_paves_74 : decode cX10_paves 74 = .ok (.goto (-16), 3) := by decide +kernel
theorem dX10_paves_77 : decode cX10_paves 77 = .ok (.iconst 0, 1) := by decide +kernel
theorem dX10_paves_78 : decode cX10_paves 78 = .ok (.istore_n 1, 1) := by decide +kernel
theorem dX10_paves_79 : decode cX10_paves 79 = .ok (.aload_n 0, 1) := by decide +kernel
theorem dX10_paves_80 : decode cX10_paves 80 = .ok (.invokevirtual 206, 3) := by decide +kernel
theorem dX10_paves_83 : decode cX10_paves 83 = .ok (.istore_n 2, 1) := by decide +kernel
theorem dX10_paves_84 : decode cX10_paves 84 = .ok (.iconst 0, 1) := by decide +kernel
theorem dX10_paves_85 : decode cX10_paves 85 = .ok (.istore_n 3, 1) := by decide +kernel
theorem dX10_paves_86 : decode cX10_paves 86 = .ok (.iload_n 3, 1) := by decide +kernel
theorem dX10_paves_87 : decode cX10_paves 87 = .ok (.iload_n 2, 1) := by decide +kernel
theorem dX10_paves_88 : decode cX10_paves 88 = .ok (.if_icmp .ge 139, 3) := by decide +kernel
theorem dX10_paves_91 : decode cX10_paves 91 = .ok (.aload_n 0, 1) := by decide +kernel
theorem dX10_paves_92 : decode cX10_paves 92 = .ok (.iload_n 3, 1) := by decide +kernel
theorem dX10_paves_93 : decode cX10_paves 93 = .ok (.invokevirtual 209, 3) := by decide +kernel
theorem dX10_paves_96 : decode cX10_paves 96 = .ok (.iconst 1, 1) := by decide +kernel
theorem dX10_paves_97 : decode cX10_paves 97 = .ok (.istore 4, 2) := by decide +kernel
theorem dX10_paves_99 : decode cX10_paves 99 = .ok (.iconst 0, 1) := by decide +kernel
theorem dX10_paves_100 : decode cX10_paves 100 = .ok (.istore 5, 2) := by decide +kernel
theorem dX10_paves_102 : decode cX10_paves 102 = .ok (.iload 5, 2) := by decide +kernel
theorem dX10_paves_104 : decode cX10_paves 104 = .ok (.aload_n 0, 1) := by decide +kernel
theorem dX10_paves_105 : decode cX10_paves 105 = .ok (.getfield 75, 3) := by decide +kernel
theorem dX10_paves_108 : decode cX10_paves 108 = .ok (.if_icmp .ge 51, 3) := by decide +kernel
theorem dX10_paves_111 : decode cX10_paves 111 = .ok (.iload 4, 2) := by decide +kernel
theorem dX10_paves_113 : decode cX10_paves 113 = .ok (.ifCond .eq 46, 3) := by decide +kernel
theorem dX10_paves_116 : decode cX10_paves 116 = .ok (.aload_n 0, 1) := by decide +kernel
theorem dX10_paves_117 : decode cX10_paves 117 = .ok (.aload_n 0, 1) := by decide +kernel
theorem dX10_paves_118 : decode cX10_paves 118 = .ok (.getfield 58, 3) := by decide +kernel
theorem dX10_paves_121 : decode cX10_paves 121 = .ok (.iload 5, 2) := by decide +kernel
theorem dX10_paves_123 : decode cX10_paves 123 = .ok (.invokevirtual 178, 3) := by decide +kernel
theorem dX10_paves_126 : decode cX10_paves 126 = .ok (.istore 6, 2) := by decide +kernel
theorem dX10_paves_128 : decode cX10_paves 128 = .ok (.iload 6, 2) := by decide +kernel
theorem dX10_paves_130 : decode cX10_paves 130 = .ok (.ifCond .eq 20, 3) := by decide +kernel
theorem dX10_paves_133 : decode cX10_paves 133 = .ok (.iload 6, 2) := by decide +kernel
theorem dX10_paves_135 : decode cX10_paves 135 = .ok (.aload_n 0, 1) := by decide +kernel
theorem dX10_paves_136 : decode cX10_paves 136 = .ok (.getfield 61, 3) := by decide +kernel
theorem dX10_paves_139 : decode cX10_paves 139 = .ok (.iload 5, 2) := by decide +kernel
theorem dX10_paves_141 : decode cX10_paves 141 = .ok (.iaload, 1) := by decide +kernel
theorem dX10_paves_142 : decode cX10_paves 142 = .ok (.iand, 1) := by decide +kernel
theorem dX10_paves_143 : decode cX10_paves 143 = .ok (.ifCond .ne 7, 3) := by decide +kernel
theorem dX10_paves_146 : decode cX10_paves 146 = .ok (.iconst 1, 1) := by decide +kernel
theorem dX10_paves_147 : decode cX10_paves 147 = .ok (.goto 4, 3) := by decide +kernel
theorem dX10_paves_150 : decode cX10_paves 150 = .ok (.iconst 0, 1) := by decide +kernel
theorem dX10_paves_151 : decode cX10_paves 151 = .ok (.istore 4, 2) := by decide +kernel
theorem dX10_paves_153 : decode cX10_paves 153 = .ok (.iinc 5 1, 3) := by decide +kernel
theorem dX10_paves_156 : decode cX10_paves 156 = .ok (.goto (-54), 3) := by decide +kernel
theorem dX10_paves_159 : decode cX10_paves 159 = .ok (.iload 4, 2) := by decide +kernel
theorem dX10_paves_161 : decode cX10_paves 161 = .ok (.ifCond .ne 6, 3) := by decide +kernel
theorem dX10_paves_164 : decode cX10_paves 164 = .ok (.goto 57, 3) := by decide +kernel
theorem dX10_paves_167 : decode cX10_paves 167 = .ok (.iinc 1 1, 3) := by decide +kernel
theorem dX10_paves_170 : decode cX10_paves 170 = .ok (.iconst 0, 1) := by decide +kernel
theorem dX10_paves_171 : decode cX10_paves 171 = .ok (.istore 5, 2) := by decide +kernel
theorem dX10_paves_173 : decode cX10_paves 173 = .ok (.iload 5, 2) := by decide +kernel
theorem dX10_paves_175 : decode cX10_paves 175 = .ok (.aload_n 0, 1) := by decide +kernel
theorem dX10_paves_176 : decode cX10_paves 176 = .ok (.getfield 67, 3) := by decide +kernel
theorem dX10_paves_179 : decode cX10_paves 179 = .ok (.if_icmp .ge 42, 3) := by decide +kernel
theorem dX10_paves_182 : decode cX10_paves 182 = .ok (.aload_n 0, 1) := by decide +kernel
theorem dX10_paves_183 : decode cX10_paves 183 = .ok (.getfield 64, 3) := by decide +kernel
theorem dX10_paves_186 : decode cX10_paves 186 = .ok (.iload 5, 2) := by decide +kernel
theorem dX10_paves_188 : decode cX10_paves 188 = .ok (.dup2, 1) := by decide +kernel
theorem dX10_paves_189 : decode cX10_paves 189 = .ok (.iaload, 1) := by decide +kernel
theorem dX10_paves_190 : decode cX10_paves 190 = .ok (.aload_n 0, 1) := by decide +kernel
theorem dX10_paves_191 : decode cX10_paves 191 = .ok (.getfield 58, 3) := by decide +kernel
theorem dX10_paves_194 : decode cX10_paves 194 = .ok (.iload 5, 2) := by decide +kernel
theorem dX10_paves_196 : decode cX10_paves 196 = .ok (.iaload, 1) := by decide +kernel
theorem dX10_paves_197 : decode cX10_paves 197 = .ok (.ifCond .ge 7, 3) := by decide +kernel
theorem dX10_paves_200 : decode cX10_paves 200 = .ok (.iconst 0, 1) := by decide +kernel
theorem dX10_paves_201 : decode cX10_paves 201 = .ok (.goto 12, 3) := by decide +kernel
theorem dX10_paves_204 : decode cX10_paves 204 = .ok (.iconst 1, 1) := by decide +kernel
theorem dX10_paves_205 : decode cX10_paves 205 = .ok (.aload_n 0, 1) := by decide +kernel
theorem dX10_paves_206 : decode cX10_paves 206 = .ok (.getfield 58, 3) := by decide +kernel
theorem dX10_paves_209 : decode cX10_paves 209 = .ok (.iload 5, 2) := by decide +kernel
theorem dX10_paves_211 : decode cX10_paves 211 = .ok (.iaload, 1) := by decide +kernel
theorem dX10_paves_212 : decode cX10_paves 212 = .ok (.ishl, 1) := by decide +kernel
theorem dX10_paves_213 : decode cX10_paves 213 = .ok (.ior, 1) := by decide +kernel
theorem dX10_paves_214 : decode cX10_paves 214 = .ok (.iastore, 1) := by decide +kernel
theorem dX10_paves_215 : decode cX10_paves 215 = .ok (.iinc 5 1, 3) := by decide +kernel
theorem dX10_paves_218 : decode cX10_paves 218 = .ok (.goto (-45), 3) := by decide +kernel
theorem dX10_paves_221 : decode cX10_paves 221 = .ok (.iinc 3 1, 3) := by decide +kernel
theorem dX10_paves_224 : decode cX10_paves 224 = .ok (.goto (-138), 3) := by decide +kernel
theorem dX10_paves_227 : decode cX10_paves 227 = .ok (.iload_n 1, 1) := by decide +kernel
theorem dX10_paves_228 : decode cX10_paves 228 = .ok (.ireturn, 1) := by decide +kernel
theorem dX10_fits_0 : decode cX10_fits 0 = .ok (.aload_n 0, 1) := by decide +kernel
theorem dX10_fits_1 : decode cX10_fits 1 = .ok (.invokevirtual 223, 3) := by decide +kernel
theorem dX10_fits_4 : decode cX10_fits 4 = .ok (.ireturn, 1) := by decide +kernel
theorem dX10_who_0 : decode cX10_who 0 = .ok (.aload_n 0, 1) := by decide +kernel
theorem dX10_who_1 : decode cX10_who 1 = .ok (.iload_n 1, 1) := by decide +kernel
theorem dX10_who_2 : decode cX10_who 2 = .ok (.invokevirtual 161, 3) := by decide +kernel
theorem dX10_who_5 : decode cX10_who 5 = .ok (.ifCond .ne 5, 3) := by decide +kernel
theorem dX10_who_8 : decode cX10_who 8 = .ok (.iconst (-1), 1) := by decide +kernel
theorem dX10_who_9 : decode cX10_who 9 = .ok (.ireturn, 1) := by decide +kernel
theorem dX10_who_10 : decode cX10_who 10 = .ok (.aload_n 0, 1) := by decide +kernel
theorem dX10_who_11 : decode cX10_who 11 = .ok (.iload_n 1, 1) := by decide +kernel
theorem dX10_who_12 : decode cX10_who 12 = .ok (.invokevirtual 170, 3) := by decide +kernel
theorem dX10_who_15 : decode cX10_who 15 = .ok (.ifCond .eq 6, 3) := by decide +kernel
theorem dX10_who_18 : decode cX10_who 18 = .ok (.bipush (-2), 2) := by decide +kernel
theorem dX10_who_20 : decode cX10_who 20 = .ok (.ireturn, 1) := by decide +kernel
theorem dX10_who_21 : decode cX10_who 21 = .ok (.aload_n 0, 1) := by decide +kernel
theorem dX10_who_22 : decode cX10_who 22 = .ok (.invokevirtual 223, 3) := by decide +kernel
theorem dX10_who_25 : decode cX10_who 25 = .ok (.istore_n 2, 1) := by decide +kernel
theorem dX10_who_26 : decode cX10_who 26 = .ok (.iconst 0, 1) := by decide +kernel
theorem dX10_who_27 : decode cX10_who 27 = .ok (.istore_n 3, 1) := by decide +kernel
theorem dX10_who_28 : decode cX10_who 28 = .ok (.iload_n 3, 1) := by decide +kernel
theorem dX10_who_29 : decode cX10_who 29 = .ok (.aload_n 0, 1) := by decide +kernel
theorem dX10_who_30 : decode cX10_who 30 = .ok (.getfield 75, 3) := by decide +kernel
theorem dX10_who_33 : decode cX10_who 33 = .ok (.if_icmp .ge 27, 3) := by decide +kernel
theorem dX10_who_36 : decode cX10_who 36 = .ok (.iload_n 2, 1) := by decide +kernel
theorem dX10_who_37 : decode cX10_who 37 = .ok (.ifCond .le 23, 3) := by decide +kernel
theorem dX10_who_40 : decode cX10_who 40 = .ok (.aload_n 0, 1) := by decide +kernel
theorem dX10_who_41 : decode cX10_who 41 = .ok (.getfield 64, 3) := by decide +kernel
theorem dX10_who_44 : decode cX10_who 44 = .ok (.iload_n 1, 1) := by decide +kernel
theorem dX10_who_45 : decode cX10_who 45 = .ok (.iaload, 1) := by decide +kernel
theorem dX10_who_46 : decode cX10_who 46 = .ok (.iconst 1, 1) := by decide +kernel
theorem dX10_who_47 : decode cX10_who 47 = .ok (.iload_n 3, 1) := by decide +kernel
theorem dX10_who_48 : decode cX10_who 48 = .ok (.ishl, 1) := by decide +kernel
theorem dX10_who_49 : decode cX10_who 49 = .ok (.if_icmp .ne 5, 3) := by decide +kernel
theorem dX10_who_52 : decode cX10_who 52 = .ok (.iload_n 3, 1) := by decide +kernel
theorem dX10_who_53 : decode cX10_who 53 = .ok (.ireturn, 1) := by decide +kernel
theorem dX10_who_54 : decode cX10_who 54 = .ok (.iinc 3 1, 3) := by decide +kernel
theorem dX10_who_57 : decode cX10_who 57 = .ok (.goto (-29), 3) := by decide +kernel
theorem dX10_who_60 : decode cX10_who 60 = .ok (.bipush (-9), 2) := by decide +kernel
theorem dX10_who_62 : decode cX10_who 62 = .ok (.ireturn, 1) := by decide +kernel
theorem dX10_mark_0 : decode cX10_mark 0 = .ok (.iload_n 1, 1) := by decide +kernel
theorem dX10_mark_1 : decode cX10_mark 1 = .ok (.i2l, 1) := by decide +kernel
theorem dX10_mark_2 : decode cX10_mark 2 = .ok (.lconst 0, 1) := by decide +kernel
theorem dX10_mark_3 : decode cX10_mark 3 = .ok (.ldc2_w 164, 3) := by decide +kernel
theorem dX10_mark_6 : decode cX10_mark 6 = .ok (.invokestatic 71, 3) := by decide +kernel
theorem dX10_mark_9 : decode cX10_mark 9 = .ok (.ifCond .eq 11, 3) := by decide +kernel
theorem dX10_mark_12 : decode cX10_mark 12 = .ok (.aload_n 0, 1) := by decide +kernel
theorem dX10_mark_13 : decode cX10_mark 13 = .ok (.iload_n 2, 1) := by decide +kernel
theorem dX10_mark_14 : decode cX10_mark 14 = .ok (.invokevirtual 173, 3) := by decide +kernel
theorem dX10_mark_17 : decode cX10_mark 17 = .ok (.ifCond .ne 6, 3) := by decide +kernel
theorem dX10_mark_20 : decode cX10_mark 20 = .ok (.ldc 226, 2) := by decide +kernel
theorem dX10_mark_22 : decode cX10_mark 22 = .ok (.ireturn, 1) := by decide +kernel
theorem dX10_mark_23 : decode cX10_mark 23 = .ok (.aload_n 0, 1) := by decide +kernel
theorem dX10_mark_24 : decode cX10_mark 24 = .ok (.aload_n 0, 1) := by decide +kernel
theorem dX10_mark_25 : decode cX10_mark 25 = .ok (.getfield 31, 3) := by decide +kernel
theorem dX10_mark_28 : decode cX10_mark 28 = .ok (.iload_n 2, 1) := by decide +kernel
theorem dX10_mark_29 : decode cX10_mark 29 = .ok (.invokevirtual 178, 3) := by decide +kernel
theorem dX10_mark_32 : decode cX10_mark 32 = .ok (.istore_n 3, 1) := by decide +kernel
theorem dX10_mark_33 : decode cX10_mark 33 = .ok (.aload_n 0, 1) := by decide +kernel
theorem dX10_mark_34 : decode cX10_mark 34 = .ok (.iload_n 2, 1) := by decide +kernel
theorem dX10_mark_35 : decode cX10_mark 35 = .ok (.iload_n 3, 1) := by decide +kernel
theorem dX10_mark_36 : decode cX10_mark 36 = .ok (.invokevirtual 192, 3) := by decide +kernel
theorem dX10_mark_39 : decode cX10_mark 39 = .ok (.istore 4, 2) := by decide +kernel
theorem dX10_mark_41 : decode cX10_mark 41 = .ok (.iconst 0, 1) := by decide +kernel
theorem dX10_mark_42 : decode cX10_mark 42 = .ok (.istore 5, 2) := by decide +kernel
theorem dX10_mark_44 : decode cX10_mark 44 = .ok (.iconst 0, 1) := by decide +kernel
theorem dX10_mark_45 : decode cX10_mark 45 = .ok (.istore 6, 2) := by decide +kernel
theorem dX10_mark_47 : decode cX10_mark 47 = .ok (.iload 6, 2) := by decide +kernel
theorem dX10_mark_49 : decode cX10_mark 49 = .ok (.aload_n 0, 1) := by decide +kernel
theorem dX10_mark_50 : decode cX10_mark 50 = .ok (.getfield 67, 3) := by decide +kernel
theorem dX10_mark_53 : decode cX10_mark 53 = .ok (.if_icmp .ge 35, 3) := by decide +kernel
theorem dX10_mark_56 : decode cX10_mark 56 = .ok (.iload 5, 2) := by decide +kernel
theorem dX10_mark_58 : decode cX10_mark 58 = .ok (.iload_n 3, 1) := by decide +kernel
theorem dX10_mark_59 : decode cX10_mark 59 = .ok (.iload 6, 2) := by decide +kernel
theorem dX10_mark_61 : decode cX10_mark 61 = .ok (.ishr, 1) := by decide +kernel
theorem dX10_mark_62 : decode cX10_mark 62 = .ok (.iconst 1, 1) := by decide +kernel
theorem dX10_mark_63 : decode cX10_mark 63 = .ok (.iand, 1) := by decide +kernel
theorem dX10_mark_64 : decode cX10_mark 64 = .ok (.iconst 1, 1) := by decide +kernel
theorem dX10_mark_65 : decode cX10_mark 65 = .ok (.if_icmp .ne 13, 3) := by decide +kernel
theorem dX10_mark_68 : decode cX10_mark 68 = .ok (.aload_n 0, 1) := by decide +kernel
theorem dX10_mark_69 : decode cX10_mark 69 = .ok (.getfield 19, 3) := by decide +kernel
theorem dX10_mark_72 : decode cX10_mark 72 = .ok (.iload 6, 2) := by decide +kernel
theorem dX10_mark_74 : decode cX10_mark 74 = .ok (.iaload, 1) := by decide +kernel
theorem dX10_mark_75 : decode cX10_mark 75 = .ok (.goto 4, 3) := by decide +kernel
theorem dX10_mark_78 : decode cX10_mark 78 = .ok (.iconst 0, 1) := by decide +kernel
theorem dX10_mark_79 : decode cX10_mark 79 = .ok (.iadd, 1) := by decide +kernel
theorem dX10_mark_80 : decode cX10_mark 80 = .ok (.istore 5, 2) := by decide +kernel
theorem dX10_mark_82 : decode cX10_mark 82 = .ok (.iinc 6 1, 3) := by decide +kernel
theorem dX10_mark_85 : decode cX10_mark 85 = .ok (.goto (-38), 3) := by decide +kernel
theorem dX10_mark_88 : decode cX10_mark 88 = .ok (.aload_n 0, 1) := by decide +kernel
theorem dX10_mark_89 : decode cX10_mark 89 = .ok (.getfield 28, 3) := by decide +kernel
theorem dX10_mark_92 : decode cX10_mark 92 = .ok (.iload_n 2, 1) := by decide +kernel
theorem dX10_mark_93 : decode cX10_mark 93 = .ok (.iaload, 1) := by decide +kernel
theorem dX10_mark_94 : decode cX10_mark 94 = .ok (.iload_n 3, 1) := by decide +kernel
theorem dX10_mark_95 : decode cX10_mark 95 = .ok (.invokestatic 182, 3) := by decide +kernel
theorem dX10_mark_98 : decode cX10_mark 98 = .ok (.iadd, 1) := by decide +kernel
theorem dX10_mark_99 : decode cX10_mark 99 = .ok (.istore 6, 2) := by decide +kernel
theorem dX10_mark_101 : decode cX10_mark 101 = .ok (.aload_n 0, 1) := by decide +kernel
theorem dX10_mark_102 : decode cX10_mark 102 = .ok (.getfield 28, 3) := by decide +kernel
theorem dX10_mark_105 : decode cX10_mark 105 = .ok (.iload_n 2, 1) := by decide +kernel
theorem dX10_mark_106 : decode cX10_mark 106 = .ok (.iaload, 1) := by decide +kernel
theorem dX10_mark_107 : decode cX10_mark 107 = .ok (.iload 4, 2) := by decide +kernel
theorem dX10_mark_109 : decode cX10_mark 109 = .ok (.bipush (-9), 2) := by decide +kernel
theorem dX10_mark_111 : decode cX10_mark 111 = .ok (.if_icmp .ne 7, 3) := by decide +kernel
theorem dX10_mark_114 : decode cX10_mark 114 = .ok (.iconst 0, 1) := by decide +kernel
theorem dX10_mark_115 : decode cX10_mark 115 = .ok (.goto 5, 3) := by decide +kernel
theorem dX10_mark_118 : decode cX10_mark 118 = .ok (.iload 4, 2) := by decide +kernel
theorem dX10_mark_120 : decode cX10_mark 120 = .ok (.iadd, 1) := by decide +kernel
theorem dX10_mark_121 : decode cX10_mark 121 = .ok (.istore 7, 2) := by decide +kernel
theorem dX10_mark_123 : decode cX10_mark 123 = .ok (.aload_n 0, 1) := by decide +kernel
theorem dX10_mark_124 : decode cX10_mark 124 = .ok (.dup, 1) := by decide +kernel
theorem dX10_mark_125 : decode cX10_mark 125 = .ok (.getfield 227, 3) := by decide +kernel
theorem dX10_mark_128 : decode cX10_mark 128 = .ok (.iload_n 1, 1) := by decide +kernel
theorem dX10_mark_129 : decode cX10_mark 129 = .ok (.ifCond .ne 7, 3) := by decide +kernel
theorem dX10_mark_132 : decode cX10_mark 132 = .ok (.lconst 1, 1) := by decide +kernel
theorem dX10_mark_133 : decode cX10_mark 133 = .ok (.goto 50, 3) := by decide +kernel
theorem dX10_mark_136 : decode cX10_mark 136 = .ok (.iload_n 1, 1) := by decide +kernel
theorem dX10_mark_137 : decode cX10_mark 137 = .ok (.iconst 1, 1) := by decide +kernel
theorem dX10_mark_138 : decode cX10_mark 138 = .ok (.if_icmp .ne 9, 3) := by decide +kernel
theorem dX10_mark_141 : decode cX10_mark 141 = .ok (.ldc2_w 230, 3) := by decide +kernel
theorem dX10_mark_144 : decode cX10_mark 144 = .ok (.goto 39, 3) := by decide +kernel
theorem dX10_mark_147 : decode cX10_mark 147 = .ok (.iload_n 1, 1) := by decide +kernel
theorem dX10_mark_148 : decode cX10_mark 148 = .ok (.iconst 2, 1) := by decide +kernel
theorem dX10_mark_149 : decode cX10_mark 149 = .ok (.if_icmp .ne 9, 3) := by decide +kernel
theorem dX10_mark_152 : decode cX10_mark 152 = .ok (.ldc2_w 232, 3) := by decide +kernel
theorem dX10_mark_155 : decode cX10_mark 155 = .ok (.goto 28, 3) := by decide +kernel
theorem dX10_mark_158 : decode cX10_mark 158 = .ok (.iload_n 1, 1) := by decide +kernel
theorem dX10_mark_159 : decode cX10_mark 159 = .ok (.iconst 3, 1) := by decide +kernel
theorem dX10_mark_160 : decode cX10_mark 160 = .ok (.if_icmp .ne 9, 3) := by decide +kernel
theorem dX10_mark_163 : decode cX10_mark 163 = .ok (.ldc2_w 234, 3) := by decide +kernel
theorem dX10_mark_166 : decode cX10_mark 166 = .ok (.goto 17, 3) := by decide +kernel
theorem dX10_mark_169 : decode cX10_mark 169 = .ok (.iload_n 1, 1) := by decide +kernel
theorem dX10_mark_170 : decode cX10_mark 170 = .ok (.iconst 4, 1) := by decide +kernel
theorem dX10_mark_171 : decode cX10_mark 171 = .ok (.if_icmp .ne 9, 3) := by decide +kernel
theorem dX10_mark_174 : decode cX10_mark 174 = .ok (.ldc2_w 236, 3) := by decide +kernel
theorem dX10_mark_177 : decode cX10_mark 177 = .ok (.goto 6, 3) := by decide +kernel
theorem dX10_mark_180 : decode cX10_mark 180 = .ok (.ldc2_w 238, 3) := by decide +kernel
theorem dX10_mark_183 : decode cX10_mark 183 = .ok (.ladd, 1) := by decide +kernel
theorem dX10_mark_184 : decode cX10_mark 184 = .ok (.putfield 227, 3) := by decide +kernel
theorem dX10_mark_187 : decode cX10_mark 187 = .ok (.iload_n 1, 1) := by decide +kernel
theorem dX10_mark_188 : decode cX10_mark 188 = .ok (.ifCond .ne 12, 3) := by decide +kernel
theorem dX10_mark_191 : decode cX10_mark 191 = .ok (.aload_n 0, 1) := by decide +kernel
theorem dX10_mark_192 : decode cX10_mark 192 = .ok (.getfield 28, 3) := by decide +kernel
theorem dX10_mark_195 : decode cX10_mark 195 = .ok (.iload_n 2, 1) := by decide +kernel
theorem dX10_mark_196 : decode cX10_mark 196 = .ok (.iaload, 1) := by decide +kernel
theorem dX10_mark_197 : decode cX10_mark 197 = .ok (.goto 61, 3) := by decide +kernel
theorem dX10_mark_200 : decode cX10_mark 200 = .ok (.iload_n 1, 1) := by decide +kernel
theorem dX10_mark_201 : decode cX10_mark 201 = .ok (.iconst 1, 1) := by decide +kernel
theorem dX10_mark_202 : decode cX10_mark 202 = .ok (.if_icmp .ne 8, 3) := by decide +kernel
theorem dX10_mark_205 : decode cX10_mark 205 = .ok (.iload 6, 2) := by decide +kernel
theorem dX10_mark_207 : decode cX10_mark 207 = .ok (.goto 51, 3) := by decide +kernel
theorem dX10_mark_210 : decode cX10_mark 210 = .ok (.iload_n 1, 1) := by decide +kernel
theorem dX10_mark_211 : decode cX10_mark 211 = .ok (.iconst 2, 1) := by decide +kernel
theorem dX10_mark_212 : decode cX10_mark 212 = .ok (.if_icmp .ne 8, 3) := by decide +kernel
theorem dX10_mark_215 : decode cX10_mark 215 = .ok (.iload 7, 2) := by decide +kernel
theorem dX10_mark_217 : decode cX10_mark 217 = .ok (.goto 41, 3) := by decide +kernel
theorem dX10_mark_220 : decode cX10_mark 220 = .ok (.iload_n 1, 1) := by decide +kernel
theorem dX10_mark_221 : decode cX10_mark 221 = .ok (.iconst 3, 1) := by decide +kernel
theorem dX10_mark_222 : decode cX10_mark 222 = .ok (.if_icmp .ne 10, 3) := by decide +kernel
theorem dX10_mark_225 : decode cX10_mark 225 = .ok (.iconst 2, 1) := by decide +kernel
theorem dX10_mark_226 : decode cX10_mark 226 = .ok (.iload 6, 2) := by decide +kernel
theorem dX10_mark_228 : decode cX10_mark 228 = .ok (.imul, 1) := by decide +kernel
theorem dX10_mark_229 : decode cX10_mark 229 = .ok (.goto 29, 3) := by decide +kernel
theorem dX10_mark_232 : decode cX10_mark 232 = .ok (.iload_n 1, 1) := by decide +kernel
theorem dX10_mark_233 : decode cX10_mark 233 = .ok (.iconst 4, 1) := by decide +kernel
theorem dX10_mark_234 : decode cX10_mark 234 = .ok (.if_icmp .ne 11, 3) := by decide +kernel
theorem dX10_mark_237 : decode cX10_mark 237 = .ok (.iload 7, 2) := by decide +kernel
theorem dX10_mark_239 : decode cX10_mark 239 = .ok (.iload 5, 2) := by decide +kernel
theorem dX10_mark_241 : decode cX10_mark 241 = .ok (.isub, 1) := by decide +kernel
theorem dX10_mark_242 : decode cX10_mark 242 = .ok (.goto 16, 3) := by decide +kernel
theorem dX10_mark_245 : decode cX10_mark 245 = .ok (.aload_n 0, 1) := by decide +kernel
theorem dX10_mark_246 : decode cX10_mark 246 = .ok (.getfield 28, 3) := by decide +kernel
theorem dX10_mark_249 : decode cX10_mark 249 = .ok (.iload_n 2, 1) := by decide +kernel
theorem dX10_mark_250 : decode cX10_mark 250 = .ok (.iaload, 1) := by decide +kernel
theorem dX10_mark_251 : decode cX10_mark 251 = .ok (.aload_n 0, 1) := by decide +kernel
theorem dX10_mark_252 : decode cX10_mark 252 = .ok (.getfield 22, 3) := by decide +kernel
theorem dX10_mark_255 : decode cX10_mark 255 = .ok (.iload_n 2, 1) := by decide +kernel
theorem dX10_mark_256 : decode cX10_mark 256 = .ok (.iaload, 1) := by decide +kernel
theorem dX10_mark_257 : decode cX10_mark 257 = .ok (.iadd, 1) := by decide +kernel
theorem dX10_mark_258 : decode cX10_mark 258 = .ok (.ireturn, 1) := by decide +kernel
theorem dX10_owned_0 : decode cX10_owned 0 = .ok (.iconst 0, 1) := by decide +kernel
theorem dX10_owned_1 : decode cX10_owned 1 = .ok (.istore_n 1, 1) := by decide +kernel
theorem dX10_owned_2 : decode cX10_owned 2 = .ok (.iconst 0, 1) := by decide +kernel
theorem dX10_owned_3 : decode cX10_owned 3 = .ok (.istore_n 2, 1) := by decide +kernel
theorem dX10_owned_4 : decode cX10_owned 4 = .ok (.iload_n 2, 1) := by decide +kernel
theorem dX10_owned_5 : decode cX10_owned 5 = .ok (.aload_n 0, 1) := by decide +kernel
theorem dX10_owned_6 : decode cX10_owned 6 = .ok (.getfield 67, 3) := by decide +kernel
theorem dX10_owned_9 : decode cX10_owned 9 = .ok (.if_icmp .ge 26, 3) := by decide +kernel
theorem dX10_owned_12 : decode cX10_owned 12 = .ok (.iload_n 1, 1) := by decide +kernel
theorem dX10_owned_13 : decode cX10_owned 13 = .ok (.aload_n 0, 1) := by decide +kernel
theorem dX10_owned_14 : decode cX10_owned 14 = .ok (.getfield 31, 3) := by decide +kernel
theorem dX10_owned_17 : decode cX10_owned 17 = .ok (.iload_n 2, 1) := by decide +kernel
theorem dX10_owned_18 : decode cX10_owned 18 = .ok (.iaload, 1) := by decide +kernel
theorem dX10_owned_19 : decode cX10_owned 19 = .ok (.ifCond .ge 7, 3) := by decide +kernel
theorem dX10_owned_22 : decode cX10_owned 22 = .ok (.iconst 0, 1) := by decide +kernel
theorem dX10_owned_23 : decode cX10_owned 23 = .ok (.goto 4, 3) := by decide +kernel
theorem dX10_owned_26 : decode cX10_owned 26 = .ok (.iconst 1, 1) := by decide +kernel
theorem dX10_owned_27 : decode cX10_owned 27 = .ok (.iadd, 1) := by decide +kernel
theorem dX10_owned_28 : decode cX10_owned 28 = .ok (.istore_n 1, 1) := by decide +kernel
theorem dX10_owned_29 : decode cX10_owned 29 = .ok (.iinc 2 1, 3) := by decide +kernel
theorem dX10_owned_32 : decode cX10_owned 32 = .ok (.goto (-28), 3) := by decide +kernel
theorem dX10_owned_35 : decode cX10_owned 35 = .ok (.iload_n 1, 1) := by decide +kernel
theorem dX10_owned_36 : decode cX10_owned 36 = .ok (.ireturn, 1) := by decide +kernel
theorem dX10_keep_0 : decode cX10_keep 0 = .ok (.iload_n 1, 1) := by decide +kernel
theorem dX10_keep_1 : decode cX10_keep 1 = .ok (.i2l, 1) := by decide +kernel
theorem dX10_keep_2 : decode cX10_keep 2 = .ok (.lconst 0, 1) := by decide +kernel
theorem dX10_keep_3 : decode cX10_keep 3 = .ok (.lconst 1, 1) := by decide +kernel
theorem dX10_keep_4 : decode cX10_keep 4 = .ok (.invokestatic 71, 3) := by decide +kernel
theorem dX10_keep_7 : decode cX10_keep 7 = .ok (.ifCond .ne 5, 3) := by decide +kernel
theorem dX10_keep_10 : decode cX10_keep 10 = .ok (.iconst (-1), 1) := by decide +kernel
theorem dX10_keep_11 : decode cX10_keep 11 = .ok (.ireturn, 1) := by decide +kernel
theorem dX10_keep_12 : decode cX10_keep 12 = .ok (.bipush 40, 2) := by decide +kernel
theorem dX10_keep_14 : decode cX10_keep 14 = .ok (.iload_n 1, 1) := by decide +kernel
theorem dX10_keep_15 : decode cX10_keep 15 = .ok (.imul, 1) := by decide +kernel
theorem dX10_keep_16 : decode cX10_keep 16 = .ok (.istore_n 2, 1) := by decide +kernel
theorem dX10_keep_17 : decode cX10_keep 17 = .ok (.aload_n 0, 1) := by decide +kernel
theorem dX10_keep_18 : decode cX10_keep 18 = .ok (.getfield 43, 3) := by decide +kernel
theorem dX10_keep_21 : decode cX10_keep 21 = .ok (.iload_n 2, 1) := by decide +kernel
theorem dX10_keep_22 : decode cX10_keep 22 = .ok (.iconst 1, 1) := by decide +kernel
theorem dX10_keep_23 : decode cX10_keep 23 = .ok (.iastore, 1) := by decide +kernel
theorem dX10_keep_24 : decode cX10_keep 24 = .ok (.iconst 0, 1) := by decide +kernel
theorem dX10_keep_25 : decode cX10_keep 25 = .ok (.istore_n 3, 1) := by decide +kernel
theorem dX10_keep_26 : decode cX10_keep 26 = .ok (.iload_n 3, 1) := by decide +kernel
theorem dX10_keep_27 : decode cX10_keep 27 = .ok (.aload_n 0, 1) := by decide +kernel
theorem dX10_keep_28 : decode cX10_keep 28 = .ok (.getfield 67, 3) := by decide +kernel
theorem dX10_keep_31 : decode cX10_keep 31 = .ok (.if_icmp .ge 42, 3) := by decide +kernel
theorem dX10_keep_34 : decode cX10_keep 34 = .ok (.aload_n 0, 1) := by decide +kernel
theorem dX10_keep_35 : decode cX10_keep 35 = .ok (.getfield 43, 3) := by decide +kernel
theorem dX10_keep_38 : decode cX10_keep 38 = .ok (.iload_n 2, 1) := by decide +kernel
theorem dX10_keep_39 : decode cX10_keep 39 = .ok (.iconst 1, 1) := by decide +kernel
theorem dX10_keep_40 : decode cX10_keep 40 = .ok (.iadd, 1) := by decide +kernel
theorem dX10_keep_41 : decode cX10_keep 41 = .ok (.iload_n 3, 1) := by decide +kernel
theorem dX10_keep_42 : decode cX10_keep 42 = .ok (.iadd, 1) := by decide +kernel
theorem dX10_keep_43 : decode cX10_keep 43 = .ok (.aload_n 0, 1) := by decide +kernel
theorem dX10_keep_44 : decode cX10_keep 44 = .ok (.getfield 31, 3) := by decide +kernel
theorem dX10_keep_47 : decode cX10_keep 47 = .ok (.iload_n 3, 1) := by decide +kernel
theorem dX10_keep_48 : decode cX10_keep 48 = .ok (.iaload, 1) := by decide +kernel
theorem dX10_keep_49 : decode cX10_keep 49 = .ok (.iastore, 1) := by decide +kernel
theorem dX10_keep_50 : decode cX10_keep 50 = .ok (.aload_n 0, 1) := by decide +kernel
theorem dX10_keep_51 : decode cX10_keep 51 = .ok (.getfield 43, 3) := by decide +kernel
theorem dX10_keep_54 : decode cX10_keep 54 = .ok (.iload_n 2, 1) := by decide +kernel
theorem dX10_keep_55 : decode cX10_keep 55 = .ok (.bipush 9, 2) := by decide +kernel
theorem dX10_keep_57 : decode cX10_keep 57 = .ok (.iadd, 1) := by decide +kernel
theorem dX10_keep_58 : decode cX10_keep 58 = .ok (.iload_n 3, 1) := by decide +kernel
theorem dX10_keep_59 : decode cX10_keep 59 = .ok (.iadd, 1) := by decide +kernel
theorem dX10_keep_60 : decode cX10_keep 60 = .ok (.aload_n 0, 1) := by decide +kernel
theorem dX10_keep_61 : decode cX10_keep 61 = .ok (.getfield 34, 3) := by decide +kernel
theorem dX10_keep_64 : decode cX10_keep 64 = .ok (.iload_n 3, 1) := by decide +kernel
theorem dX10_keep_65 : decode cX10_keep 65 = .ok (.iaload, 1) := by decide +kernel
theorem dX10_keep_66 : decode cX10_keep 66 = .ok (.iastore, 1) := by decide +kernel
theorem dX10_keep_67 : decode cX10_keep 67 = .ok (.iinc 3 1, 3) := by decide +kernel
theorem dX10_keep_70 : decode cX10_keep 70 = .ok (.goto (-44), 3) := by decide +kernel
theorem dX10_keep_73 : decode cX10_keep 73 = .ok (.aload_n 0, 1) := by decide +kernel
theorem dX10_keep_74 : decode cX10_keep 74 = .ok (.getfield 43, 3) := by decide +kernel
theorem dX10_keep_77 : decode cX10_keep 77 = .ok (.iload_n 2, 1) := by decide +kernel
theorem dX10_keep_78 : decode cX10_keep 78 = .ok (.bipush 17, 2) := by decide +kernel
theorem dX10_keep_80 : decode cX10_keep 80 = .ok (.iadd, 1) := by decide +kernel
theorem dX10_keep_81 : decode cX10_keep 81 = .ok (.aload_n 0, 1) := by decide +kernel
theorem dX10_keep_82 : decode cX10_keep 82 = .ok (.getfield 158, 3) := by decide +kernel
theorem dX10_keep_85 : decode cX10_keep 85 = .ok (.iastore, 1) := by decide +kernel
theorem dX10_keep_86 : decode cX10_keep 86 = .ok (.iconst 0, 1) := by decide +kernel
theorem dX10_keep_87 : decode cX10_keep 87 = .ok (.istore_n 3, 1) := by decide +kernel
theorem dX10_keep_88 : decode cX10_keep 88 = .ok (.iload_n 3, 1) := by decide +kernel
theorem dX10_keep_89 : decode cX10_keep 89 = .ok (.aload_n 0, 1) := by decide +kernel
theorem dX10_keep_90 : decode cX10_keep 90 = .ok (.getfield 158, 3) := by decide +kernel
theorem dX10_keep_93 : decode cX10_keep 93 = .ok (.if_icmp .ge 43, 3) := by decide +kernel
theorem dX10_keep_96 : decode cX10_keep 96 = .ok (.aload_n 0, 1) := by decide +kernel
theorem dX10_keep_97 : decode cX10_keep 97 = .ok (.getfield 43, 3) := by decide +kernel
theorem dX10_keep_100 : decode cX10_keep 100 = .ok (.iload_n 2, 1) := by decide +kernel
theorem dX10_keep_101 : decode cX10_keep 101 = .ok (.bipush 18, 2) := by decide +kernel
theorem dX10_keep_103 : decode cX10_keep 103 = .ok (.iadd, 1) := by decide +kernel
theorem dX10_keep_104 : decode cX10_keep 104 = .ok (.iload_n 3, 1) := by decide +kernel
theorem dX10_keep_105 : decode cX10_keep 105 = .ok (.iadd, 1) := by decide +kernel
theorem dX10_keep_106 : decode cX10_keep 106 = .ok (.aload_n 0, 1) := by decide +kernel
theorem dX10_keep_107 : decode cX10_keep 107 = .ok (.getfield 37, 3) := by decide +kernel
theorem dX10_keep_110 : decode cX10_keep 110 = .ok (.iload_n 3, 1) := by decide +kernel
theorem dX10_keep_111 : decode cX10_keep 111 = .ok (.iaload, 1) := by decide +kernel
theorem dX10_keep_112 : decode cX10_keep 112 = .ok (.iastore, 1) := by decide +kernel
theorem dX10_keep_113 : decode cX10_keep 113 = .ok (.aload_n 0, 1) := by decide +kernel
theorem dX10_keep_114 : decode cX10_keep 114 = .ok (.getfield 43, 3) := by decide +kernel
theorem dX10_keep_117 : decode cX10_keep 117 = .ok (.iload_n 2, 1) := by decide +kernel
theorem dX10_keep_118 : decode cX10_keep 118 = .ok (.bipush 28, 2) := by decide +kernel
theorem dX10_keep_120 : decode cX10_keep 120 = .ok (.iadd, 1) := by decide +kernel
theorem dX10_keep_121 : decode cX10_keep 121 = .ok (.iload_n 3, 1) := by decide +kernel
theorem dX10_keep_122 : decode cX10_keep 122 = .ok (.iadd, 1) := by decide +kernel
theorem dX10_keep_123 : decode cX10_keep 123 = .ok (.aload_n 0, 1) := by decide +kernel
theorem dX10_keep_124 : decode cX10_keep 124 = .ok (.getfield 40, 3) := by decide +kernel
theorem dX10_keep_127 : decode cX10_keep 127 = .ok (.iload_n 3, 1) := by decide +kernel
theorem dX10_keep_128 : decode cX10_keep 128 = .ok (.iaload, 1) := by decide +kernel
theorem dX10_keep_129 : decode cX10_keep 129 = .ok (.iastore, 1) := by decide +kernel
theorem dX10_keep_130 : decode cX10_keep 130 = .ok (.iinc 3 1, 3) := by decide +kernel
theorem dX10_keep_133 : decode cX10_keep 133 = .ok (.goto (-45), 3) := by decide +kernel
theorem dX10_keep_136 : decode cX10_keep 136 = .ok (.aload_n 0, 1) := by decide +kernel
theorem dX10_keep_137 : decode cX10_keep 137 = .ok (.invokevirtual 240, 3) := by decide +kernel
theorem dX10_keep_140 : decode cX10_keep 140 = .ok (.ireturn, 1) := by decide +kernel
theorem dX10_back_0 : decode cX10_back 0 = .ok (.iload_n 1, 1) := by decide +kernel
theorem dX10_back_1 : decode cX10_back 1 = .ok (.i2l, 1) := by decide +kernel
theorem dX10_back_2 : decode cX10_back 2 = .ok (.lconst 0, 1) := by decide +kernel
theorem dX10_back_3 : decode cX10_back 3 = .ok (.lconst 1, 1) := by decide +kernel
theorem dX10_back_4 : decode cX10_back 4 = .ok (.invokestatic 71, 3) := by decide +kernel
theorem dX10_back_7 : decode cX10_back 7 = .ok (.ifCond .ne 5, 3) := by decide +kernel
theorem dX10_back_10 : decode cX10_back 10 = .ok (.iconst (-1), 1) := by decide +kernel
theorem dX10_back_11 : decode cX10_back 11 = .ok (.ireturn, 1) := by decide +kernel
theorem dX10_back_12 : decode cX10_back 12 = .ok (.bipush 40, 2) := by decide +kernel
theorem dX10_back_14 : decode cX10_back 14 = .ok (.iload_n 1, 1) := by decide +kernel
theorem dX10_back_15 : decode cX10_back 15 = .ok (.imul, 1) := by decide +kernel
theorem dX10_back_16 : decode cX10_back 16 = .ok (.istore_n 2, 1) := by decide +kernel
theorem dX10_back_17 : decode cX10_back 17 = .ok (.aload_n 0, 1) := by decide +kernel
theorem dX10_back_18 : decode cX10_back 18 = .ok (.getfield 43, 3) := by decide +kernel
theorem dX10_back_21 : decode cX10_back 21 = .ok (.iload_n 2, 1) := by decide +kernel
theorem dX10_back_22 : decode cX10_back 22 = .ok (.iaload, 1) := by decide +kernel
theorem dX10_back_23 : decode cX10_back 23 = .ok (.ifCond .ne 6, 3) := by decide +kernel
theorem dX10_back_26 : decode cX10_back 26 = .ok (.bipush (-2), 2) := by decide +kernel
theorem dX10_back_28 : decode cX10_back 28 = .ok (.ireturn, 1) := by decide +kernel
theorem dX10_back_29 : decode cX10_back 29 = .ok (.iconst 0, 1) := by decide +kernel
theorem dX10_back_30 : decode cX10_back 30 = .ok (.istore_n 3, 1) := by decide +kernel
theorem dX10_back_31 : decode cX10_back 31 = .ok (.iload_n 3, 1) := by decide +kernel
theorem dX10_back_32 : decode cX10_back 32 = .ok (.aload_n 0, 1) := by decide +kernel
theorem dX10_back_33 : decode cX10_back 33 = .ok (.getfield 67, 3) := by decide +kernel
theorem dX10_back_36 : decode cX10_back 36 = .ok (.if_icmp .ge 42, 3) := by decide +kernel
theorem dX10_back_39 : decode cX10_back 39 = .ok (.aload_n 0, 1) := by decide +kernel
theorem dX10_back_40 : decode cX10_back 40 = .ok (.getfield 31, 3) := by decide +kernel
theorem dX10_back_43 : decode cX10_back 43 = .ok (.iload_n 3, 1) := by decide +kernel
theorem dX10_back_44 : decode cX10_back 44 = .ok (.aload_n 0, 1) := by decide +kernel
theorem dX10_back_45 : decode cX10_back 45 = .ok (.getfield 43, 3) := by decide +kernel
theorem dX10_back_48 : decode cX10_back 48 = .ok (.iload_n 2, 1) := by decide +kernel
theorem dX10_back_49 : decode cX10_back 49 = .ok (.iconst 1, 1) := by decide +kernel
theorem dX10_back_50 : decode cX10_back 50 = .ok (.iadd, 1) := by decide +kernel
theorem dX10_back_51 : decode cX10_back 51 = .ok (.iload_n 3, 1) := by decide +kernel
theorem dX10_back_52 : decode cX10_back 52 = .ok (.iadd, 1) := by decide +kernel
theorem dX10_back_53 : decode cX10_back 53 = .ok (.iaload, 1) := by decide +kernel
theorem dX10_back_54 : decode cX10_back 54 = .ok (.iastore, 1) := by decide +kernel
theorem dX10_back_55 : decode cX10_back 55 = .ok (.aload_n 0, 1) := by decide +kernel
theorem dX10_back_56 : decode cX10_back 56 = .ok (.getfield 34, 3) := by decide +kernel
theorem dX10_back_59 : decode cX10_back 59 = .ok (.iload_n 3, 1) := by decide +kernel
theorem dX10_back_60 : decode cX10_back 60 = .ok (.aload_n 0, 1) := by decide +kernel
theorem dX10_back_61 : decode cX10_back 61 = .ok (.getfield 43, 3) := by decide +kernel
theorem dX10_back_64 : decode cX10_back 64 = .ok (.iload_n 2, 1) := by decide +kernel
theorem dX10_back_65 : decode cX10_back 65 = .ok (.bipush 9, 2) := by decide +kernel
theorem dX10_back_67 : decode cX10_back 67 = .ok (.iadd, 1) := by decide +kernel
theorem dX10_back_68 : decode cX10_back 68 = .ok (.iload_n 3, 1) := by decide +kernel
theorem dX10_back_69 : decode cX10_back 69 = .ok (.iadd, 1) := by decide +kernel
theorem dX10_back_70 : decode cX10_back 70 = .ok (.iaload, 1) := by decide +kernel
theorem dX10_back_71 : decode cX10_back 71 = .ok (.iastore, 1) := by decide +kernel
theorem dX10_back_72 : decode cX10_back 72 = .ok (.iinc 3 1, 3) := by decide +kernel
theorem dX10_back_75 : decode cX10_back 75 = .ok (.goto (-44), 3) := by decide +kernel
theorem dX10_back_78 : decode cX10_back 78 = .ok (.aload_n 0, 1) := by decide +kernel
theorem dX10_back_79 : decode cX10_back 79 = .ok (.aload_n 0, 1) := by decide +kernel
theorem dX10_back_80 : decode cX10_back 80 = .ok (.getfield 43, 3) := by decide +kernel
theorem dX10_back_83 : decode cX10_back 83 = .ok (.iload_n 2, 1) := by decide +kernel
theorem dX10_back_84 : decode cX10_back 84 = .ok (.bipush 17, 2) := by decide +kernel
theorem dX10_back_86 : decode cX10_back 86 = .ok (.iadd, 1) := by decide +kernel
theorem dX10_back_87 : decode cX10_back 87 = .ok (.iaload, 1) := by decide +kernel
theorem dX10_back_88 : decode cX10_back 88 = .ok (.putfield 158, 3) := by decide +kernel
theorem dX10_back_91 : decode cX10_back 91 = .ok (.iconst 0, 1) := by decide +kernel
theorem dX10_back_92 : decode cX10_back 92 = .ok (.istore_n 3, 1) := by decide +kernel
theorem dX10_back_93 : decode cX10_back 93 = .ok (.iload_n 3, 1) := by decide +kernel
theorem dX10_back_94 : decode cX10_back 94 = .ok (.aload_n 0, 1) := by decide +kernel
theorem dX10_back_95 : decode cX10_back 95 = .ok (.getfield 158, 3) := by decide +kernel
theorem dX10_back_98 : decode cX10_back 98 = .ok (.if_icmp .ge 43, 3) := by decide +kernel
theorem dX10_back_101 : decode cX10_back 101 = .ok (.aload_n 0, 1) := by decide +kernel
theorem dX10_back_102 : decode cX10_back 102 = .ok (.getfield 37, 3) := by decide +kernel
theorem dX10_back_105 : decode cX10_back 105 = .ok (.iload_n 3, 1) := by decide +kernel
theorem dX10_back_106 : decode cX10_back 106 = .ok (.aload_n 0, 1) := by decide +kernel
theorem dX10_back_107 : decode cX10_back 107 = .ok (.getfield 43, 3) := by decide +kernel
theorem dX10_back_110 : decode cX10_back 110 = .ok (.iload_n 2, 1) := by decide +kernel
theorem dX10_back_111 : decode cX10_back 111 = .ok (.bipush 18, 2) := by decide +kernel
theorem dX10_back_113 : decode cX10_back 113 = .ok (.iadd, 1) := by decide +kernel
theorem dX10_back_114 : decode cX10_back 114 = .ok (.iload_n 3, 1) := by decide +kernel
theorem dX10_back_115 : decode cX10_back 115 = .ok (.iadd, 1) := by decide +kernel
theorem dX10_back_116 : decode cX10_back 116 = .ok (.iaload, 1) := by decide +kernel
theorem dX10_back_117 : decode cX10_back 117 = .ok (.iastore, 1) := by decide +kernel
theorem dX10_back_118 : decode cX10_back 118 = .ok (.aload_n 0, 1) := by decide +kernel
theorem dX10_back_119 : decode cX10_back 119 = .ok (.getfield 40, 3) := by decide +kernel
theorem dX10_back_122 : decode cX10_back 122 = .ok (.iload_n 3, 1) := by decide +kernel
theorem dX10_back_123 : decode cX10_back 123 = .ok (.aload_n 0, 1) := by decide +kernel
theorem dX10_back_124 : decode cX10_back 124 = .ok (.getfield 43, 3) := by decide +kernel
theorem dX10_back_127 : decode cX10_back 127 = .ok (.iload_n 2, 1) := by decide +kernel
theorem dX10_back_128 : decode cX10_back 128 = .ok (.bipush 28, 2) := by decide +kernel
theorem dX10_back_130 : decode cX10_back 130 = .ok (.iadd, 1) := by decide +kernel
theorem dX10_back_131 : decode cX10_back 131 = .ok (.iload_n 3, 1) := by decide +kernel
theorem dX10_back_132 : decode cX10_back 132 = .ok (.iadd, 1) := by decide +kernel
theorem dX10_back_133 : decode cX10_back 133 = .ok (.iaload, 1) := by decide +kernel
theorem dX10_back_134 : decode cX10_back 134 = .ok (.iastore, 1) := by decide +kernel
theorem dX10_back_135 : decode cX10_back 135 = .ok (.iinc 3 1, 3) := by decide +kernel
theorem dX10_back_138 : decode cX10_back 138 = .ok (.goto (-45), 3) := by decide +kernel
theorem dX10_back_141 : decode cX10_back 141 = .ok (.aload_n 0, 1) := by decide +kernel
theorem dX10_back_142 : decode cX10_back 142 = .ok (.invokevirtual 240, 3) := by decide +kernel
theorem dX10_back_145 : decode cX10_back 145 = .ok (.ireturn, 1) := by decide +kernel
theorem dX10_count_0 : decode cX10_count 0 = .ok (.iload_n 1, 1) := by decide +kernel
theorem dX10_count_1 : decode cX10_count 1 = .ok (.tableswitch 78 0 5 #[39, 44, 49, 54, 68, 73], 39) := by decide +kernel
theorem dX10_count_40 : decode cX10_count 40 = .ok (.aload_n 0, 1) := by decide +kernel
theorem dX10_count_41 : decode cX10_count 41 = .ok (.getfield 67, 3) := by decide +kernel
theorem dX10_count_44 : decode cX10_count 44 = .ok (.ireturn, 1) := by decide +kernel
theorem dX10_count_45 : decode cX10_count 45 = .ok (.aload_n 0, 1) := by decide +kernel
theorem dX10_count_46 : decode cX10_count 46 = .ok (.getfield 75, 3) := by decide +kernel
theorem dX10_count_49 : decode cX10_count 49 = .ok (.ireturn, 1) := by decide +kernel
theorem dX10_count_50 : decode cX10_count 50 = .ok (.aload_n 0, 1) := by decide +kernel
theorem dX10_count_51 : decode cX10_count 51 = .ok (.invokevirtual 240, 3) := by decide +kernel
theorem dX10_count_54 : decode cX10_count 54 = .ok (.ireturn, 1) := by decide +kernel
theorem dX10_count_55 : decode cX10_count 55 = .ok (.aload_n 0, 1) := by decide +kernel
theorem dX10_count_56 : decode cX10_count 56 = .ok (.aload_n 0, 1) := by decide +kernel
theorem dX10_count_57 : decode cX10_count 57 = .ok (.getfield 31, 3) := by decide +kernel
theorem dX10_count_60 : decode cX10_count 60 = .ok (.bipush (-5), 2) := by decide +kernel
theorem dX10_count_62 : decode cX10_count 62 = .ok (.invokevirtual 178, 3) := by decide +kernel
theorem dX10_count_65 : decode cX10_count 65 = .ok (.invokestatic 182, 3) := by decide +kernel
theorem dX10_count_68 : decode cX10_count 68 = .ok (.ireturn, 1) := by decide +kernel
theorem dX10_count_69 : decode cX10_count 69 = .ok (.aload_n 0, 1) := by decide +kernel
theorem dX10_count_70 : decode cX10_count 70 = .ok (.getfield 158, 3) := by decide +kernel
theorem dX10_count_73 : decode cX10_count 73 = .ok (.ireturn, 1) := by decide +kernel
theorem dX10_count_74 : decode cX10_count 74 = .ok (.aload_n 0, 1) := by decide +kernel
theorem dX10_count_75 : decode cX10_count 75 = .ok (.getfield 80, 3) := by decide +kernel
theorem dX10_count_78 : decode cX10_count 78 = .ok (.ireturn, 1) := by decide +kernel
theorem dX10_count_79 : decode cX10_count 79 = .ok (.iconst (-1), 1) := by decide +kernel
theorem dX10_count_80 : decode cX10_count 80 = .ok (.ireturn, 1) := by decide +kernel
theorem dX10_trace_0 : decode cX10_trace 0 = .ok (.aload_n 0, 1) := by decide +kernel
theorem dX10_trace_1 : decode cX10_trace 1 = .ok (.getfield 227, 3) := by decide +kernel
theorem dX10_trace_4 : decode cX10_trace 4 = .ok (.lreturn, 1) := by decide +kernel
