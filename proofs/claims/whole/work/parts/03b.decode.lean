theorem dX4_init_0 : decode cX4_init 0 = .ok (.aload_n 0, 1) := by decide +kernel
theorem dX4_init_1 : decode cX4_init 1 = .ok (.invokespecial 3, 3) := by decide +kernel
theorem dX4_init_4 : decode cX4_init 4 = .ok (.aload_n 0, 1) := by decide +kernel
theorem dX4_init_5 : decode cX4_init 5 = .ok (.iconst 0, 1) := by decide +kernel
theorem dX4_init_6 : decode cX4_init 6 = .ok (.putfield 9, 3) := by decide +kernel
theorem dX4_init_9 : decode cX4_init 9 = .ok (.aload_n 0, 1) := by decide +kernel
theorem dX4_init_10 : decode cX4_init 10 = .ok (.iconst 0, 1) := by decide +kernel
theorem dX4_init_11 : decode cX4_init 11 = .ok (.putfield 15, 3) := by decide +kernel
theorem dX4_init_14 : decode cX4_init 14 = .ok (.aload_n 0, 1) := by decide +kernel
theorem dX4_init_15 : decode cX4_init 15 = .ok (.iconst 0, 1) := by decide +kernel
theorem dX4_init_16 : decode cX4_init 16 = .ok (.putfield 18, 3) := by decide +kernel
theorem dX4_init_19 : decode cX4_init 19 = .ok (.aload_n 0, 1) := by decide +kernel
theorem dX4_init_20 : decode cX4_init 20 = .ok (.iconst 0, 1) := by decide +kernel
theorem dX4_init_21 : decode cX4_init 21 = .ok (.putfield 21, 3) := by decide +kernel
theorem dX4_init_24 : decode cX4_init 24 = .ok (.aload_n 0, 1) := by decide +kernel
theorem dX4_init_25 : decode cX4_init 25 = .ok (.aload_n 1, 1) := by decide +kernel
theorem dX4_init_26 : decode cX4_init 26 = .ok (.putfield 24, 3) := by decide +kernel
theorem dX4_init_29 : decode cX4_init 29 = .ok (.aload_n 0, 1) := by decide +kernel
theorem dX4_init_30 : decode cX4_init 30 = .ok (.aload_n 2, 1) := by decide +kernel
theorem dX4_init_31 : decode cX4_init 31 = .ok (.putfield 28, 3) := by decide +kernel
theorem dX4_init_34 : decode cX4_init 34 = .ok (.aload_n 0, 1) := by decide +kernel
theorem dX4_init_35 : decode cX4_init 35 = .ok (.aload_n 3, 1) := by decide +kernel
theorem dX4_init_36 : decode cX4_init 36 = .ok (.putfield 32, 3) := by decide +kernel
theorem dX4_init_39 : decode cX4_init 39 = .ok (.return_, 1) := by decide +kernel
theorem dX4_readAll_0 : decode cX4_readAll 0 = .ok (.aload_n 0, 1) := by decide +kernel
theorem dX4_readAll_1 : decode cX4_readAll 1 = .ok (.getfield 28, 3) := by decide +kernel
theorem dX4_readAll_4 : decode cX4_readAll 4 = .ok (.invokevirtual 36, 3) := by decide +kernel
theorem dX4_readAll_7 : decode cX4_readAll 7 = .ok (.aload_n 0, 1) := by decide +kernel
theorem dX4_readAll_8 : decode cX4_readAll 8 = .ok (.getfield 32, 3) := by decide +kernel
theorem dX4_readAll_11 : decode cX4_readAll 11 = .ok (.invokevirtual 41, 3) := by decide +kernel
theorem dX4_readAll_14 : decode cX4_readAll 14 = .ok (.aload_n 0, 1) := by decide +kernel
theorem dX4_readAll_15 : decode cX4_readAll 15 = .ok (.iconst 0, 1) := by decide +kernel
theorem dX4_readAll_16 : decode cX4_readAll 16 = .ok (.putfield 9, 3) := by decide +kernel
theorem dX4_readAll_19 : decode cX4_readAll 19 = .ok (.iconst 0, 1) := by decide +kernel
theorem dX4_readAll_20 : decode cX4_readAll 20 = .ok (.istore_n 1, 1) := by decide +kernel
theorem dX4_readAll_21 : decode cX4_readAll 21 = .ok (.iload_n 1, 1) := by decide +kernel
theorem dX4_readAll_22 : decode cX4_readAll 22 = .ok (.sipush 300, 3) := by decide +kernel
theorem dX4_readAll_25 : decode cX4_readAll 25 = .ok (.if_icmp .ge 108, 3) := by decide +kernel
theorem dX4_readAll_28 : decode cX4_readAll 28 = .ok (.aload_n 0, 1) := by decide +kernel
theorem dX4_readAll_29 : decode cX4_readAll 29 = .ok (.invokevirtual 44, 3) := by decide +kernel
theorem dX4_readAll_32 : decode cX4_readAll 32 = .ok (.aload_n 0, 1) := by decide +kernel
theorem dX4_readAll_33 : decode cX4_readAll 33 = .ok (.getfield 18, 3) := by decide +kernel
theorem dX4_readAll_36 : decode cX4_readAll 36 = .ok (.ifCond .ne 5, 3) := by decide +kernel
theorem dX4_readAll_39 : decode cX4_readAll 39 = .ok (.iload_n 1, 1) := by decide +kernel
theorem dX4_readAll_40 : decode cX4_readAll 40 = .ok (.ireturn, 1) := by decide +kernel
theorem dX4_readAll_41 : decode cX4_readAll 41 = .ok (.iconst 0, 1) := by decide +kernel
theorem dX4_readAll_42 : decode cX4_readAll 42 = .ok (.istore_n 2, 1) := by decide +kernel
theorem dX4_readAll_43 : decode cX4_readAll 43 = .ok (.aload_n 0, 1) := by decide +kernel
theorem dX4_readAll_44 : decode cX4_readAll 44 = .ok (.getfield 18, 3) := by decide +kernel
theorem dX4_readAll_47 : decode cX4_readAll 47 = .ok (.tableswitch 73 3 7 #[33, 41, 49, 57, 65], 33) := by decide +kernel
theorem dX4_readAll_80 : decode cX4_readAll 80 = .ok (.aload_n 0, 1) := by decide +kernel
theorem dX4_readAll_81 : decode cX4_readAll 81 = .ok (.invokevirtual 47, 3) := by decide +kernel
theorem dX4_readAll_84 : decode cX4_readAll 84 = .ok (.istore_n 2, 1) := by decide +kernel
theorem dX4_readAll_85 : decode cX4_readAll 85 = .ok (.goto 35, 3) := by decide +kernel
theorem dX4_readAll_88 : decode cX4_readAll 88 = .ok (.aload_n 0, 1) := by decide +kernel
theorem dX4_readAll_89 : decode cX4_readAll 89 = .ok (.invokevirtual 51, 3) := by decide +kernel
theorem dX4_readAll_92 : decode cX4_readAll 92 = .ok (.istore_n 2, 1) := by decide +kernel
theorem dX4_readAll_93 : decode cX4_readAll 93 = .ok (.goto 27, 3) := by decide +kernel
theorem dX4_readAll_96 : decode cX4_readAll 96 = .ok (.aload_n 0, 1) := by decide +kernel
theorem dX4_readAll_97 : decode cX4_readAll 97 = .ok (.invokevirtual 54, 3) := by decide +kernel
theorem dX4_readAll_100 : decode cX4_readAll 100 = .ok (.istore_n 2, 1) := by decide +kernel
theorem dX4_readAll_101 : decode cX4_readAll 101 = .ok (.goto 19, 3) := by decide +kernel
theorem dX4_readAll_104 : decode cX4_readAll 104 = .ok (.aload_n 0, 1) := by decide +kernel
theorem dX4_readAll_105 : decode cX4_readAll 105 = .ok (.invokevirtual 57, 3) := by decide +kernel
theorem dX4_readAll_108 : decode cX4_readAll 108 = .ok (.istore_n 2, 1) := by decide +kernel
theorem dX4_readAll_109 : decode cX4_readAll 109 = .ok (.goto 11, 3) := by decide +kernel
theorem dX4_readAll_112 : decode cX4_readAll 112 = .ok (.aload_n 0, 1) := by decide +kernel
theorem dX4_readAll_113 : decode cX4_readAll 113 = .ok (.invokevirtual 60, 3) := by decide +kernel
theorem dX4_readAll_116 : decode cX4_readAll 116 = .ok (.istore_n 2, 1) := by decide +kernel
theorem dX4_readAll_117 : decode cX4_readAll 117 = .ok (.goto 3, 3) := by decide +kernel
theorem dX4_readAll_120 : decode cX4_readAll 120 = .ok (.iload_n 2, 1) := by decide +kernel
theorem dX4_readAll_121 : decode cX4_readAll 121 = .ok (.ifCond .ne 6, 3) := by decide +kernel
theorem dX4_readAll_124 : decode cX4_readAll 124 = .ok (.goto 9, 3) := by decide +kernel
theorem dX4_readAll_127 : decode cX4_readAll 127 = .ok (.iinc 1 1, 3) := by decide +kernel
theorem dX4_readAll_130 : decode cX4_readAll 130 = .ok (.goto (-109), 3) := by decide +kernel
theorem dX4_readAll_133 : decode cX4_readAll 133 = .ok (.bipush (-10), 2) := by decide +kernel
theorem dX4_readAll_135 : decode cX4_readAll 135 = .ok (.aload_n 0, 1) := by decide +kernel
theorem dX4_readAll_136 : decode cX4_readAll 136 = .ok (.getfield 15, 3) := by decide +kernel
theorem dX4_readAll_139 : decode cX4_readAll 139 = .ok (.isub, 1) := by decide +kernel
theorem dX4_readAll_140 : decode cX4_readAll 140 = .ok (.ireturn, 1) := by decide +kernel
theorem dX4_readPiece_0 : decode cX4_readPiece 0 = .ok (.aload_n 0, 1) := by decide +kernel
theorem dX4_readPiece_1 : decode cX4_readPiece 1 = .ok (.getfield 28, 3) := by decide +kernel
theorem dX4_readPiece_4 : decode cX4_readPiece 4 = .ok (.getfield 63, 3) := by decide +kernel
theorem dX4_readPiece_7 : decode cX4_readPiece 7 = .ok (.bipush 8, 2) := by decide +kernel
theorem dX4_readPiece_9 : decode cX4_readPiece 9 = .ok (.if_icmp .lt 5, 3) := by decide +kernel
theorem dX4_readPiece_12 : decode cX4_readPiece 12 = .ok (.iconst 0, 1) := by decide +kernel
theorem dX4_readPiece_13 : decode cX4_readPiece 13 = .ok (.ireturn, 1) := by decide +kernel
theorem dX4_readPiece_14 : decode cX4_readPiece 14 = .ok (.aload_n 0, 1) := by decide +kernel
theorem dX4_readPiece_15 : decode cX4_readPiece 15 = .ok (.iconst 5, 1) := by decide +kernel
theorem dX4_readPiece_16 : decode cX4_readPiece 16 = .ok (.invokevirtual 66, 3) := by decide +kernel
theorem dX4_readPiece_19 : decode cX4_readPiece 19 = .ok (.istore_n 1, 1) := by decide +kernel
theorem dX4_readPiece_20 : decode cX4_readPiece 20 = .ok (.iload_n 1, 1) := by decide +kernel
theorem dX4_readPiece_21 : decode cX4_readPiece 21 = .ok (.iconst (-1), 1) := by decide +kernel
theorem dX4_readPiece_22 : decode cX4_readPiece 22 = .ok (.if_icmp .ne 5, 3) := by decide +kernel
theorem dX4_readPiece_25 : decode cX4_readPiece 25 = .ok (.iconst 0, 1) := by decide +kernel
theorem dX4_readPiece_26 : decode cX4_readPiece 26 = .ok (.ireturn, 1) := by decide +kernel
theorem dX4_readPiece_27 : decode cX4_readPiece 27 = .ok (.aload_n 0, 1) := by decide +kernel
theorem dX4_readPiece_28 : decode cX4_readPiece 28 = .ok (.iconst 5, 1) := by decide +kernel
theorem dX4_readPiece_29 : decode cX4_readPiece 29 = .ok (.invokevirtual 66, 3) := by decide +kernel
theorem dX4_readPiece_32 : decode cX4_readPiece 32 = .ok (.istore_n 2, 1) := by decide +kernel
theorem dX4_readPiece_33 : decode cX4_readPiece 33 = .ok (.iload_n 2, 1) := by decide +kernel
theorem dX4_readPiece_34 : decode cX4_readPiece 34 = .ok (.iconst (-1), 1) := by decide +kernel
theorem dX4_readPiece_35 : decode cX4_readPiece 35 = .ok (.if_icmp .eq 8, 3) := by decide +kernel
theorem dX4_readPiece_38 : decode cX4_readPiece 38 = .ok (.iload_n 2, 1) := by decide +kernel
theorem dX4_readPiece_39 : decode cX4_readPiece 39 = .ok (.iload_n 1, 1) := by decide +kernel
theorem dX4_readPiece_40 : decode cX4_readPiece 40 = .ok (.if_icmp .ne 5, 3) := by decide +kernel
theorem dX4_readPiece_43 : decode cX4_readPiece 43 = .ok (.iconst 0, 1) := by decide +kernel
theorem dX4_readPiece_44 : decode cX4_readPiece 44 = .ok (.ireturn, 1) := by decide +kernel
theorem dX4_readPiece_45 : decode cX4_readPiece 45 = .ok (.aload_n 0, 1) := by decide +kernel
theorem dX4_readPiece_46 : decode cX4_readPiece 46 = .ok (.bipush 30, 2) := by decide +kernel
theorem dX4_readPiece_48 : decode cX4_readPiece 48 = .ok (.invokevirtual 66, 3) := by decide +kernel
theorem dX4_readPiece_51 : decode cX4_readPiece 51 = .ok (.istore_n 3, 1) := by decide +kernel
theorem dX4_readPiece_52 : decode cX4_readPiece 52 = .ok (.iload_n 3, 1) := by decide +kernel
theorem dX4_readPiece_53 : decode cX4_readPiece 53 = .ok (.iconst 1, 1) := by decide +kernel
theorem dX4_readPiece_54 : decode cX4_readPiece 54 = .ok (.if_icmp .lt 10, 3) := by decide +kernel
theorem dX4_readPiece_57 : decode cX4_readPiece 57 = .ok (.aload_n 0, 1) := by decide +kernel
theorem dX4_readPiece_58 : decode cX4_readPiece 58 = .ok (.invokevirtual 70, 3) := by decide +kernel
theorem dX4_readPiece_61 : decode cX4_readPiece 61 = .ok (.ifCond .ne 5, 3) := by decide +kernel
theorem dX4_readPiece_64 : decode cX4_readPiece 64 = .ok (.iconst 0, 1) := by decide +kernel
theorem dX4_readPiece_65 : decode cX4_readPiece 65 = .ok (.ireturn, 1) := by decide +kernel
theorem dX4_readPiece_66 : decode cX4_readPiece 66 = .ok (.aload_n 0, 1) := by decide +kernel
theorem dX4_readPiece_67 : decode cX4_readPiece 67 = .ok (.getfield 28, 3) := by decide +kernel
theorem dX4_readPiece_70 : decode cX4_readPiece 70 = .ok (.iload_n 1, 1) := by decide +kernel
theorem dX4_readPiece_71 : decode cX4_readPiece 71 = .ok (.iload_n 2, 1) := by decide +kernel
theorem dX4_readPiece_72 : decode cX4_readPiece 72 = .ok (.iload_n 3, 1) := by decide +kernel
theorem dX4_readPiece_73 : decode cX4_readPiece 73 = .ok (.invokevirtual 73, 3) := by decide +kernel
theorem dX4_readPiece_76 : decode cX4_readPiece 76 = .ok (.iconst 1, 1) := by decide +kernel
theorem dX4_readPiece_77 : decode cX4_readPiece 77 = .ok (.ireturn, 1) := by decide +kernel
theorem dX4_readFamily_0 : decode cX4_readFamily 0 = .ok (.aload_n 0, 1) := by decide +kernel
theorem dX4_readFamily_1 : decode cX4_readFamily 1 = .ok (.getfield 28, 3) := by decide +kernel
theorem dX4_readFamily_4 : decode cX4_readFamily 4 = .ok (.getfield 77, 3) := by decide +kernel
theorem dX4_readFamily_7 : decode cX4_readFamily 7 = .ok (.iconst 4, 1) := by decide +kernel
theorem dX4_readFamily_8 : decode cX4_readFamily 8 = .ok (.if_icmp .lt 5, 3) := by decide +kernel
theorem dX4_readFamily_11 : decode cX4_readFamily 11 = .ok (.iconst 0, 1) := by decide +kernel
theorem dX4_readFamily_12 : decode cX4_readFamily 12 = .ok (.ireturn, 1) := by decide +kernel
theorem dX4_readFamily_13 : decode cX4_readFamily 13 = .ok (.aload_n 0, 1) := by decide +kernel
theorem dX4_readFamily_14 : decode cX4_readFamily 14 = .ok (.iconst 5, 1) := by decide +kernel
theorem dX4_readFamily_15 : decode cX4_readFamily 15 = .ok (.invokevirtual 66, 3) := by decide +kernel
theorem dX4_readFamily_18 : decode cX4_readFamily 18 = .ok (.istore_n 1, 1) := by decide +kernel
theorem dX4_readFamily_19 : decode cX4_readFamily 19 = .ok (.iload_n 1, 1) := by decide +kernel
theorem dX4_readFamily_20 : decode cX4_readFamily 20 = .ok (.iconst (-1), 1) := by decide +kernel
theorem dX4_readFamily_21 : decode cX4_readFamily 21 = .ok (.if_icmp .ne 5, 3) := by decide +kernel
theorem dX4_readFamily_24 : decode cX4_readFamily 24 = .ok (.iconst 0, 1) := by decide +kernel
theorem dX4_readFamily_25 : decode cX4_readFamily 25 = .ok (.ireturn, 1) := by decide +kernel
theorem dX4_readFamily_26 : decode cX4_readFamily 26 = .ok (.aload_n 0, 1) := by decide +kernel
theorem dX4_readFamily_27 : decode cX4_readFamily 27 = .ok (.iconst 5, 1) := by decide +kernel
theorem dX4_readFamily_28 : decode cX4_readFamily 28 = .ok (.invokevirtual 66, 3) := by decide +kernel
theorem dX4_readFamily_31 : decode cX4_readFamily 31 = .ok (.istore_n 2, 1) := by decide +kernel
theorem dX4_readFamily_32 : decode cX4_readFamily 32 = .ok (.iload_n 2, 1) := by decide +kernel
theorem dX4_readFamily_33 : decode cX4_readFamily 33 = .ok (.iconst (-1), 1) := by decide +kernel
theorem dX4_readFamily_34 : decode cX4_readFamily 34 = .ok (.if_icmp .ne 5, 3) := by decide +kernel
theorem dX4_readFamily_37 : decode cX4_readFamily 37 = .ok (.iconst 0, 1) := by decide +kernel
theorem dX4_readFamily_38 : decode cX4_readFamily 38 = .ok (.ireturn, 1) := by decide +kernel
theorem dX4_readFamily_39 : decode cX4_readFamily 39 = .ok (.aload_n 0, 1) := by decide +kernel
theorem dX4_readFamily_40 : decode cX4_readFamily 40 = .ok (.bipush 9, 2) := by decide +kernel
theorem dX4_readFamily_42 : decode cX4_readFamily 42 = .ok (.invokevirtual 66, 3) := by decide +kernel
theorem dX4_readFamily_45 : decode cX4_readFamily 45 = .ok (.istore_n 3, 1) := by decide +kernel
theorem dX4_readFamily_46 : decode cX4_readFamily 46 = .ok (.iload_n 3, 1) := by decide +kernel
theorem dX4_readFamily_47 : decode cX4_readFamily 47 = .ok (.iconst 1, 1) := by decide +kernel
theorem dX4_readFamily_48 : decode cX4_readFamily 48 = .ok (.if_icmp .lt 10, 3) := by decide +kernel
theorem dX4_readFamily_51 : decode cX4_readFamily 51 = .ok (.aload_n 0, 1) := by decide +kernel
theorem dX4_readFamily_52 : decode cX4_readFamily 52 = .ok (.invokevirtual 70, 3) := by decide +kernel
theorem dX4_readFamily_55 : decode cX4_readFamily 55 = .ok (.ifCond .ne 5, 3) := by decide +kernel
theorem dX4_readFamily_58 : decode cX4_readFamily 58 = .ok (.iconst 0, 1) := by decide +kernel
theorem dX4_readFamily_59 : decode cX4_readFamily 59 = .ok (.ireturn, 1) := by decide +kernel
theorem dX4_readFamily_60 : decode cX4_readFamily 60 = .ok (.aload_n 0, 1) := by decide +kernel
theorem dX4_readFamily_61 : decode cX4_readFamily 61 = .ok (.getfield 28, 3) := by decide +kernel
theorem dX4_readFamily_64 : decode cX4_readFamily 64 = .ok (.iload_n 1, 1) := by decide +kernel
theorem dX4_readFamily_65 : decode cX4_readFamily 65 = .ok (.iload_n 2, 1) := by decide +kernel
theorem dX4_readFamily_66 : decode cX4_readFamily 66 = .ok (.iload_n 3, 1) := by decide +kernel
theorem dX4_readFamily_67 : decode cX4_readFamily 67 = .ok (.invokevirtual 80, 3) := by decide +kernel
theorem dX4_readFamily_70 : decode cX4_readFamily 70 = .ok (.iconst 1, 1) := by decide +kernel
theorem dX4_readFamily_71 : decode cX4_readFamily 71 = .ok (.ireturn, 1) := by decide +kernel
theorem dX4_readPaved_0 : decode cX4_readPaved 0 = .ok (.aload_n 0, 1) := by decide +kernel
theorem dX4_readPaved_1 : decode cX4_readPaved 1 = .ok (.aload_n 0, 1) := by decide +kernel
theorem dX4_readPaved_2 : decode cX4_readPaved 2 = .ok (.getfield 28, 3) := by decide +kernel
theorem dX4_readPaved_5 : decode cX4_readPaved 5 = .ok (.getfield 63, 3) := by decide +kernel
theorem dX4_readPaved_8 : decode cX4_readPaved 8 = .ok (.iconst 1, 1) := by decide +kernel
theorem dX4_readPaved_9 : decode cX4_readPaved 9 = .ok (.isub, 1) := by decide +kernel
theorem dX4_readPaved_10 : decode cX4_readPaved 10 = .ok (.invokevirtual 66, 3) := by decide +kernel
theorem dX4_readPaved_13 : decode cX4_readPaved 13 = .ok (.istore_n 1, 1) := by decide +kernel
theorem dX4_readPaved_14 : decode cX4_readPaved 14 = .ok (.iload_n 1, 1) := by decide +kernel
theorem dX4_readPaved_15 : decode cX4_readPaved 15 = .ok (.iconst (-1), 1) := by decide +kernel
theorem dX4_readPaved_16 : decode cX4_readPaved 16 = .ok (.if_icmp .ne 5, 3) := by decide +kernel
theorem dX4_readPaved_19 : decode cX4_readPaved 19 = .ok (.iconst 0, 1) := by decide +kernel
theorem dX4_readPaved_20 : decode cX4_readPaved 20 = .ok (.ireturn, 1) := by decide +kernel
theorem dX4_readPaved_21 : decode cX4_readPaved 21 = .ok (.aload_n 0, 1) := by decide +kernel
theorem dX4_readPaved_22 : decode cX4_readPaved 22 = .ok (.aload_n 0, 1) := by decide +kernel
theorem dX4_readPaved_23 : decode cX4_readPaved 23 = .ok (.getfield 28, 3) := by decide +kernel
theorem dX4_readPaved_26 : decode cX4_readPaved 26 = .ok (.getfield 77, 3) := by decide +kernel
theorem dX4_readPaved_29 : decode cX4_readPaved 29 = .ok (.iconst 1, 1) := by decide +kernel
theorem dX4_readPaved_30 : decode cX4_readPaved 30 = .ok (.isub, 1) := by decide +kernel
theorem dX4_readPaved_31 : decode cX4_readPaved 31 = .ok (.invokevirtual 66, 3) := by decide +kernel
theorem dX4_readPaved_34 : decode cX4_readPaved 34 = .ok (.istore_n 2, 1) := by decide +kernel
theorem dX4_readPaved_35 : decode cX4_readPaved 35 = .ok (.iload_n 2, 1) := by decide +kernel
theorem dX4_readPaved_36 : decode cX4_readPaved 36 = .ok (.iconst (-1), 1) := by decide +kernel
theorem dX4_readPaved_37 : decode cX4_readPaved 37 = .ok (.if_icmp .eq 10, 3) := by decide +kernel
theorem dX4_readPaved_40 : decode cX4_readPaved 40 = .ok (.aload_n 0, 1) := by decide +kernel
theorem dX4_readPaved_41 : decode cX4_readPaved 41 = .ok (.invokevirtual 70, 3) := by decide +kernel
theorem dX4_readPaved_44 : decode cX4_readPaved 44 = .ok (.ifCond .ne 5, 3) := by decide +kernel
theorem dX4_readPaved_47 : decode cX4_readPaved 47 = .ok (.iconst 0, 1) := by decide +kernel
theorem dX4_readPaved_48 : decode cX4_readPaved 48 = .ok (.ireturn, 1) := by decide +kernel
theorem dX4_readPaved_49 : decode cX4_readPaved 49 = .ok (.aload_n 0, 1) := by decide +kernel
theorem dX4_readPaved_50 : decode cX4_readPaved 50 = .ok (.getfield 32, 3) := by decide +kernel
theorem dX4_readPaved_53 : decode cX4_readPaved 53 = .ok (.iload_n 1, 1) := by decide +kernel
theorem dX4_readPaved_54 : decode cX4_readPaved 54 = .ok (.invokevirtual 83, 3) := by decide +kernel
theorem dX4_readPaved_57 : decode cX4_readPaved 57 = .ok (.aload_n 0, 1) := by decide +kernel
theorem dX4_readPaved_58 : decode cX4_readPaved 58 = .ok (.getfield 32, 3) := by decide +kernel
theorem dX4_readPaved_61 : decode cX4_readPaved 61 = .ok (.getfield 87, 3) := by decide +kernel
theorem dX4_readPaved_64 : decode cX4_readPaved 64 = .ok (.iload_n 1, 1) := by decide +kernel
theorem dX4_readPaved_65 : decode cX4_readPaved 65 = .ok (.iload_n 2, 1) := by decide +kernel
theorem dX4_readPaved_66 : decode cX4_readPaved 66 = .ok (.iastore, 1) := by decide +kernel
theorem dX4_readPaved_67 : decode cX4_readPaved 67 = .ok (.iconst 1, 1) := by decide +kernel
theorem dX4_readPaved_68 : decode cX4_readPaved 68 = .ok (.ireturn, 1) := by decide +kernel
theorem dX4_readStone_0 : decode cX4_readStone 0 = .ok (.aload_n 0, 1) := by decide +kernel
theorem dX4_readStone_1 : decode cX4_readStone 1 = .ok (.aload_n 0, 1) := by decide +kernel
theorem dX4_readStone_2 : decode cX4_readStone 2 = .ok (.getfield 28, 3) := by decide +kernel
theorem dX4_readStone_5 : decode cX4_readStone 5 = .ok (.getfield 63, 3) := by decide +kernel
theorem dX4_readStone_8 : decode cX4_readStone 8 = .ok (.iconst 1, 1) := by decide +kernel
theorem dX4_readStone_9 : decode cX4_readStone 9 = .ok (.isub, 1) := by decide +kernel
theorem dX4_readStone_10 : decode cX4_readStone 10 = .ok (.invokevirtual 66, 3) := by decide +kernel
theorem dX4_readStone_13 : decode cX4_readStone 13 = .ok (.istore_n 1, 1) := by decide +kernel
theorem dX4_readStone_14 : decode cX4_readStone 14 = .ok (.iload_n 1, 1) := by decide +kernel
theorem dX4_readStone_15 : decode cX4_readStone 15 = .ok (.iconst (-1), 1) := by decide +kernel
theorem dX4_readStone_16 : decode cX4_readStone 16 = .ok (.if_icmp .eq 10, 3) := by decide +kernel
theorem dX4_readStone_19 : decode cX4_readStone 19 = .ok (.aload_n 0, 1) := by decide +kernel
theorem dX4_readStone_20 : decode cX4_readStone 20 = .ok (.invokevirtual 70, 3) := by decide +kernel
theorem dX4_readStone_23 : decode cX4_readStone 23 = .ok (.ifCond .ne 5, 3) := by decide +kernel
theorem dX4_readStone_26 : decode cX4_readStone 26 = .ok (.iconst 0, 1) := by decide +kernel
theorem dX4_readStone_27 : decode cX4_readStone 27 = .ok (.ireturn, 1) := by decide +kernel
theorem dX4_readStone_28 : decode cX4_readStone 28 = .ok (.aload_n 0, 1) := by decide +kernel
theorem dX4_readStone_29 : decode cX4_readStone 29 = .ok (.getfield 32, 3) := by decide +kernel
theorem dX4_readStone_32 : decode cX4_readStone 32 = .ok (.iload_n 1, 1) := by decide +kernel
theorem dX4_readStone_33 : decode cX4_readStone 33 = .ok (.invokevirtual 91, 3) := by decide +kernel
theorem dX4_readStone_36 : decode cX4_readStone 36 = .ok (.iconst 1, 1) := by decide +kernel
theorem dX4_readStone_37 : decode cX4_readStone 37 = .ok (.ireturn, 1) := by decide +kernel
theorem dX4_readFlood_0 : decode cX4_readFlood 0 = .ok (.aload_n 0, 1) := by decide +kernel
theorem dX4_readFlood_1 : decode cX4_readFlood 1 = .ok (.aload_n 0, 1) := by decide +kernel
theorem dX4_readFlood_2 : decode cX4_readFlood 2 = .ok (.getfield 28, 3) := by decide +kernel
theorem dX4_readFlood_5 : decode cX4_readFlood 5 = .ok (.getfield 63, 3) := by decide +kernel
theorem dX4_readFlood_8 : decode cX4_readFlood 8 = .ok (.iconst 1, 1) := by decide +kernel
theorem dX4_readFlood_9 : decode cX4_readFlood 9 = .ok (.isub, 1) := by decide +kernel
theorem dX4_readFlood_10 : decode cX4_readFlood 10 = .ok (.invokevirtual 66, 3) := by decide +kernel
theorem dX4_readFlood_13 : decode cX4_readFlood 13 = .ok (.istore_n 1, 1) := by decide +kernel
theorem dX4_readFlood_14 : decode cX4_readFlood 14 = .ok (.iload_n 1, 1) := by decide +kernel
theorem dX4_readFlood_15 : decode cX4_readFlood 15 = .ok (.iconst (-1), 1) := by decide +kernel
theorem dX4_readFlood_16 : decode cX4_readFlood 16 = .ok (.if_icmp .ne 5, 3) := by decide +kernel
theorem dX4_readFlood_19 : decode cX4_readFlood 19 = .ok (.iconst 0, 1) := by decide +kernel
theorem dX4_readFlood_20 : decode cX4_readFlood 20 = .ok (.ireturn, 1) := by decide +kernel
theorem dX4_readFlood_21 : decode cX4_readFlood 21 = .ok (.aload_n 0, 1) := by decide +kernel
theorem dX4_readFlood_22 : decode cX4_readFlood 22 = .ok (.bipush 9, 2) := by decide +kernel
theorem dX4_readFlood_24 : decode cX4_readFlood 24 = .ok (.invokevirtual 66, 3) := by decide +kernel
theorem dX4_readFlood_27 : decode cX4_readFlood 27 = .ok (.istore_n 2, 1) := by decide +kernel
theorem dX4_readFlood_28 : decode cX4_readFlood 28 = .ok (.iload_n 2, 1) := by decide +kernel
theorem dX4_readFlood_29 : decode cX4_readFlood 29 = .ok (.iconst (-1), 1) := by decide +kernel
theorem dX4_readFlood_30 : decode cX4_readFlood 30 = .ok (.if_icmp .eq 10, 3) := by decide +kernel
theorem dX4_readFlood_33 : decode cX4_readFlood 33 = .ok (.aload_n 0, 1) := by decide +kernel
theorem dX4_readFlood_34 : decode cX4_readFlood 34 = .ok (.invokevirtual 70, 3) := by decide +kernel
theorem dX4_readFlood_37 : decode cX4_readFlood 37 = .ok (.ifCond .ne 5, 3) := by decide +kernel
theorem dX4_readFlood_40 : decode cX4_readFlood 40 = .ok (.iconst 0, 1) := by decide +kernel
theorem dX4_readFlood_41 : decode cX4_readFlood 41 = .ok (.ireturn, 1) := by decide +kernel
theorem dX4_readFlood_42 : decode cX4_readFlood 42 = .ok (.aload_n 0, 1) := by decide +kernel
theorem dX4_readFlood_43 : decode cX4_readFlood 43 = .ok (.getfield 32, 3) := by decide +kernel
theorem dX4_readFlood_46 : decode cX4_readFlood 46 = .ok (.getfield 94, 3) := by decide +kernel
theorem dX4_readFlood_49 : decode cX4_readFlood 49 = .ok (.iload_n 1, 1) := by decide +kernel
theorem dX4_readFlood_50 : decode cX4_readFlood 50 = .ok (.iload_n 2, 1) := by decide +kernel
theorem dX4_readFlood_51 : decode cX4_readFlood 51 = .ok (.iastore, 1) := by decide +kernel
theorem dX4_readFlood_52 : decode cX4_readFlood 52 = .ok (.iconst 1, 1) := by decide +kernel
theorem dX4_readFlood_53 : decode cX4_readFlood 53 = .ok (.ireturn, 1) := by decide +kernel
theorem dX4_number_0 : decode cX4_number 0 = .ok (.aload_n 0, 1) := by decide +kernel
theorem dX4_number_1 : decode cX4_number 1 = .ok (.invokevirtual 44, 3) := by decide +kernel
theorem dX4_number_4 : decode cX4_number 4 = .ok (.aload_n 0, 1) := by decide +kernel
theorem dX4_number_5 : decode cX4_number 5 = .ok (.getfield 18, 3) := by decide +kernel
theorem dX4_number_8 : decode cX4_number 8 = .ok (.iconst 1, 1) := by decide +kernel
theorem dX4_number_9 : decode cX4_number 9 = .ok (.if_icmp .ne 18, 3) := by decide +kernel
theorem dX4_number_12 : decode cX4_number 12 = .ok (.aload_n 0, 1) := by decide +kernel
theorem dX4_number_13 : decode cX4_number 13 = .ok (.getfield 21, 3) := by decide +kernel
theorem dX4_number_16 : decode cX4_number 16 = .ok (.iload_n 1, 1) := by decide +kernel
theorem dX4_number_17 : decode cX4_number 17 = .ok (.if_icmp .gt 10, 3) := by decide +kernel
theorem dX4_number_20 : decode cX4_number 20 = .ok (.aload_n 0, 1) := by decide +kernel
theorem dX4_number_21 : decode cX4_number 21 = .ok (.getfield 21, 3) := by decide +kernel
theorem dX4_number_24 : decode cX4_number 24 = .ok (.goto 4, 3) := by decide +kernel
theorem dX4_number_27 : decode cX4_number 27 = .ok (.iconst (-1), 1) := by decide +kernel
theorem dX4_number_28 : decode cX4_number 28 = .ok (.ireturn, 1) := by decide +kernel
theorem dX4_stops_0 : decode cX4_stops 0 = .ok (.aload_n 0, 1) := by decide +kernel
theorem dX4_stops_1 : decode cX4_stops 1 = .ok (.invokevirtual 44, 3) := by decide +kernel
theorem dX4_stops_4 : decode cX4_stops 4 = .ok (.aload_n 0, 1) := by decide +kernel
theorem dX4_stops_5 : decode cX4_stops 5 = .ok (.getfield 18, 3) := by decide +kernel
theorem dX4_stops_8 : decode cX4_stops 8 = .ok (.iconst 2, 1) := by decide +kernel
theorem dX4_stops_9 : decode cX4_stops 9 = .ok (.if_icmp .ne 7, 3) := by decide +kernel
theorem dX4_stops_12 : decode cX4_stops 12 = .ok (.iconst 1, 1) := by decide +kernel
theorem dX4_stops_13 : decode cX4_stops 13 = .ok (.goto 4, 3) := by decide +kernel
theorem dX4_stops_16 : decode cX4_stops 16 = .ok (.iconst 0, 1) := by decide +kernel
theorem dX4_stops_17 : decode cX4_stops 17 = .ok (.ireturn, 1) := by decide +kernel
theorem dX4_nextToken_0 : decode cX4_nextToken 0 = .ok (.aload_n 0, 1) := by decide +kernel
theorem dX4_nextToken_1 : decode cX4_nextToken 1 = .ok (.getfield 9, 3) := by decide +kernel
theorem dX4_nextToken_4 : decode cX4_nextToken 4 = .ok (.aload_n 0, 1) := by decide +kernel
theorem dX4_nextToken_5 : decode cX4_nextToken 5 = .ok (.getfield 24, 3) := by decide +kernel
theorem dX4_nextToken_8 : decode cX4_nextToken 8 = .ok (.getfield 97, 3) := by decide +kernel
theorem dX4_nextToken_11 : decode cX4_nextToken 11 = .ok (.if_icmp .ge 33, 3) := by decide +kernel
theorem dX4_nextToken_14 : decode cX4_nextToken 14 = .ok (.aload_n 0, 1) := by decide +kernel
theorem dX4_nextToken_15 : decode cX4_nextToken 15 = .ok (.getfield 24, 3) := by decide +kernel
theorem dX4_nextToken_18 : decode cX4_nextToken 18 = .ok (.getfield 102, 3) := by decide +kernel
theorem dX4_nextToken_21 : decode cX4_nextToken 21 = .ok (.aload_n 0, 1) := by decide +kernel
theorem dX4_nextToken_22 : decode cX4_nextToken 22 = .ok (.getfield 9, 3) := by decide +kernel
theorem dX4_nextToken_25 : decode cX4_nextToken 25 = .ok (.baload, 1) := by decide +kernel
theorem dX4_nextToken_26 : decode cX4_nextToken 26 = .ok (.bipush 32, 2) := by decide +kernel
theorem dX4_nextToken_28 : decode cX4_nextToken 28 = .ok (.if_icmp .ne 16, 3) := by decide +kernel
theorem dX4_nextToken_31 : decode cX4_nextToken 31 = .ok (.aload_n 0, 1) := by decide +kernel
theorem dX4_nextToken_32 : decode cX4_nextToken 32 = .ok (.dup, 1) := by decide +kernel
theorem dX4_nextToken_33 : decode cX4_nextToken 33 = .ok (.getfield 9, 3) := by decide +kernel
theorem dX4_nextToken_36 : decode cX4_nextToken 36 = .ok (.iconst 1, 1) := by decide +kernel
theorem dX4_nextToken_37 : decode cX4_nextToken 37 = .ok (.iadd, 1) := by decide +kernel
theorem dX4_nextToken_38 : decode cX4_nextToken 38 = .ok (.putfield 9, 3) := by decide +kernel
theorem dX4_nextToken_41 : decode cX4_nextToken 41 = .ok (.goto (-41), 3) := by decide +kernel
theorem dX4_nextToken_44 : decode cX4_nextToken 44 = .ok (.aload_n 0, 1) := by decide +kernel
theorem dX4_nextToken_45 : decode cX4_nextToken 45 = .ok (.aload_n 0, 1) := by decide +kernel
theorem dX4_nextToken_46 : decode cX4_nextToken 46 = .ok (.getfield 9, 3) := by decide +kernel
theorem dX4_nextToken_49 : decode cX4_nextToken 49 = .ok (.putfield 15, 3) := by decide +kernel
theorem dX4_nextToken_52 : decode cX4_nextToken 52 = .ok (.aload_n 0, 1) := by decide +kernel
theorem dX4_nextToken_53 : decode cX4_nextToken 53 = .ok (.getfield 9, 3) := by decide +kernel
theorem dX4_nextToken_56 : decode cX4_nextToken 56 = .ok (.aload_n 0, 1) := by decide +kernel
theorem dX4_nextToken_57 : decode cX4_nextToken 57 = .ok (.getfield 24, 3) := by decide +kernel
theorem dX4_nextToken_60 : decode cX4_nextToken 60 = .ok (.getfield 97, 3) := by decide +kernel
theorem dX4_nextToken_63 : decode cX4_nextToken 63 = .ok (.if_icmp .lt 11, 3) := by decide +kernel
theorem dX4_nextToken_66 : decode cX4_nextToken 66 = .ok (.aload_n 0, 1) := by decide +kernel
theorem dX4_nextToken_67 : decode cX4_nextToken 67 = .ok (.iconst 0, 1) := by decide +kernel
theorem dX4_nextToken_68 : decode cX4_nextToken 68 = .ok (.putfield 18, 3) := by decide +kernel
theorem dX4_nextToken_71 : decode cX4_nextToken 71 = .ok (.goto 90, 3) := by decide +kernel
theorem dX4_nextToken_74 : decode cX4_nextToken 74 = .ok (.aload_n 0, 1) := by decide +kernel
theorem dX4_nextToken_75 : decode cX4_nextToken 75 = .ok (.getfield 24, 3) := by decide +kernel
theorem dX4_nextToken_78 : decode cX4_nextToken 78 = .ok (.getfield 102, 3) := by decide +kernel
theorem dX4_nextToken_81 : decode cX4_nextToken 81 = .ok (.aload_n 0, 1) := by decide +kernel
theorem dX4_nextToken_82 : decode cX4_nextToken 82 = .ok (.getfield 9, 3) := by decide +kernel
theorem dX4_nextToken_85 : decode cX4_nextToken 85 = .ok (.baload, 1) := by decide +kernel
theorem dX4_nextToken_86 : decode cX4_nextToken 86 = .ok (.invokestatic 106, 3) := by decide +kernel
theorem dX4_nextToken_89 : decode cX4_nextToken 89 = .ok (.ifCond .eq 10, 3) := by decide +kernel
theorem dX4_nextToken_92 : decode cX4_nextToken 92 = .ok (.aload_n 0, 1) := by decide +kernel
theorem dX4_nextToken_93 : decode cX4_nextToken 93 = .ok (.invokevirtual 110, 3) := by decide +kernel
theorem dX4_nextToken_96 : decode cX4_nextToken 96 = .ok (.goto 65, 3) := by decide +kernel
theorem dX4_nextToken_99 : decode cX4_nextToken 99 = .ok (.aload_n 0, 1) := by decide +kernel
theorem dX4_nextToken_100 : decode cX4_nextToken 100 = .ok (.getfield 24, 3) := by decide +kernel
theorem dX4_nextToken_103 : decode cX4_nextToken 103 = .ok (.getfield 102, 3) := by decide +kernel
theorem dX4_nextToken_106 : decode cX4_nextToken 106 = .ok (.aload_n 0, 1) := by decide +kernel
theorem dX4_nextToken_107 : decode cX4_nextToken 107 = .ok (.getfield 9, 3) := by decide +kernel
theorem dX4_nextToken_110 : decode cX4_nextToken 110 = .ok (.baload, 1) := by decide +kernel
theorem dX4_nextToken_111 : decode cX4_nextToken 111 = .ok (.invokestatic 113, 3) := by decide +kernel
theorem dX4_nextToken_114 : decode cX4_nextToken 114 = .ok (.ifCond .eq 10, 3) := by decide +kernel
theorem dX4_nextToken_117 : decode cX4_nextToken 117 = .ok (.aload_n 0, 1) := by decide +kernel
theorem dX4_nextToken_118 : decode cX4_nextToken 118 = .ok (.invokevirtual 116, 3) := by decide +kernel
theorem dX4_nextToken_121 : decode cX4_nextToken 121 = .ok (.goto 40, 3) := by decide +kernel
theorem dX4_nextToken_124 : decode cX4_nextToken 124 = .ok (.aload_n 0, 1) := by decide +kernel
theorem dX4_nextToken_125 : decode cX4_nextToken 125 = .ok (.aload_n 0, 1) := by decide +kernel
theorem dX4_nextToken_126 : decode cX4_nextToken 126 = .ok (.getfield 24, 3) := by decide +kernel
theorem dX4_nextToken_129 : decode cX4_nextToken 129 = .ok (.getfield 102, 3) := by decide +kernel
theorem dX4_nextToken_132 : decode cX4_nextToken 132 = .ok (.aload_n 0, 1) := by decide +kernel
theorem dX4_nextToken_133 : decode cX4_nextToken 133 = .ok (.getfield 9, 3) := by decide +kernel
theorem dX4_nextToken_136 : decode cX4_nextToken 136 = .ok (.baload, 1) := by decide +kernel
theorem dX4_nextToken_137 : decode cX4_nextToken 137 = .ok (.bipush 59, 2) := by decide +kernel
theorem dX4_nextToken_139 : decode cX4_nextToken 139 = .ok (.if_icmp .ne 7, 3) := by decide +kernel
theorem dX4_nextToken_142 : decode cX4_nextToken 142 = .ok (.iconst 2, 1) := by decide +kernel
theorem dX4_nextToken_143 : decode cX4_nextToken 143 = .ok (.goto 5, 3) := by decide +kernel
theorem dX4_nextToken_146 : decode cX4_nextToken 146 = .ok (.bipush 8, 2) := by decide +kernel
theorem dX4_nextToken_148 : decode cX4_nextToken 148 = .ok (.putfield 18, 3) := by decide +kernel
theorem dX4_nextToken_151 : decode cX4_nextToken 151 = .ok (.aload_n 0, 1) := by decide +kernel
theorem dX4_nextToken_152 : decode cX4_nextToken 152 = .ok (.dup, 1) := by decide +kernel
theorem dX4_nextToken_153 : decode cX4_nextToken 153 = .ok (.getfield 9, 3) := by decide +kernel
theorem dX4_nextToken_156 : decode cX4_nextToken 156 = .ok (.iconst 1, 1) := by decide +kernel
theorem dX4_nextToken_157 : decode cX4_nextToken 157 = .ok (.iadd, 1) := by decide +kernel
theorem dX4_nextToken_158 : decode cX4_nextToken 158 = .ok (.putfield 9, 3) := by decide +kernel
theorem dX4_nextToken_161 : decode cX4_nextToken 161 = .ok (.return_, 1) := by decide +kernel
theorem dX4_takeWord_0 : decode cX4_takeWord 0 = .ok (.aload_n 0, 1) := by decide +kernel
theorem dX4_takeWord_1 : decode cX4_takeWord 1 = .ok (.getfield 9, 3) := by decide +kernel
theorem dX4_takeWord_4 : decode cX4_takeWord 4 = .ok (.aload_n 0, 1) := by decide +kernel
theorem dX4_takeWord_5 : decode cX4_takeWord 5 = .ok (.getfield 24, 3) := by decide +kernel
theorem dX4_takeWord_8 : decode cX4_takeWord 8 = .ok (.getfield 97, 3) := by decide +kernel
theorem dX4_takeWord_11 : decode cX4_takeWord 11 = .ok (.if_icmp .ge 34, 3) := by decide +kernel
theorem dX4_takeWord_14 : decode cX4_takeWord 14 = .ok (.aload_n 0, 1) := by decide +kernel
theorem dX4_takeWord_15 : decode cX4_takeWord 15 = .ok (.getfield 24, 3) := by decide +kernel
theorem dX4_takeWord_18 : decode cX4_takeWord 18 = .ok (.getfield 102, 3) := by decide +kernel
theorem dX4_takeWord_21 : decode cX4_takeWord 21 = .ok (.aload_n 0, 1) := by decide +kernel
theorem dX4_takeWord_22 : decode cX4_takeWord 22 = .ok (.getfield 9, 3) := by decide +kernel
theorem dX4_takeWord_25 : decode cX4_takeWord 25 = .ok (.baload, 1) := by decide +kernel
theorem dX4_takeWord_26 : decode cX4_takeWord 26 = .ok (.invokestatic 106, 3) := by decide +kernel
theorem dX4_takeWord_29 : decode cX4_takeWord 29 = .ok (.ifCond .eq 16, 3) := by decide +kernel
theorem dX4_takeWord_32 : decode cX4_takeWord 32 = .ok (.aload_n 0, 1) := by decide +kernel
theorem dX4_takeWord_33 : decode cX4_takeWord 33 = .ok (.dup, 1) := by decide +kernel
theorem dX4_takeWord_34 : decode cX4_takeWord 34 = .ok (.getfield 9, 3) := by decide +kernel
theorem dX4_takeWord_37 : decode cX4_takeWord 37 = .ok (.iconst 1, 1) := by decide +kernel
theorem dX4_takeWord_38 : decode cX4_takeWord 38 = .ok (.iadd, 1) := by decide +kernel
theorem dX4_takeWord_39 : decode cX4_takeWord 39 = .ok (.putfield 9, 3) := by decide +kernel
theorem dX4_takeWord_42 : decode cX4_takeWord 42 = .ok (.goto (-42), 3) := by decide +kernel
theorem dX4_takeWord_45 : decode cX4_takeWord 45 = .ok (.aload_n 0, 1) := by decide +kernel
theorem dX4_takeWord_46 : decode cX4_takeWord 46 = .ok (.ldc 119, 2) := by decide +kernel
theorem dX4_takeWord_48 : decode cX4_takeWord 48 = .ok (.invokevirtual 121, 3) := by decide +kernel
theorem dX4_takeWord_51 : decode cX4_takeWord 51 = .ok (.ifCond .eq 11, 3) := by decide +kernel
theorem dX4_takeWord_54 : decode cX4_takeWord 54 = .ok (.aload_n 0, 1) := by decide +kernel
theorem dX4_takeWord_55 : decode cX4_takeWord 55 = .ok (.iconst 3, 1) := by decide +kernel
theorem dX4_takeWord_56 : decode cX4_takeWord 56 = .ok (.putfield 18, 3) := by decide +kernel
theorem dX4_takeWord_59 : decode cX4_takeWord 59 = .ok (.goto 75, 3) := by decide +kernel
theorem dX4_takeWord_62 : decode cX4_takeWord 62 = .ok (.aload_n 0, 1) := by decide +kernel
theorem dX4_takeWord_63 : decode cX4_takeWord 63 = .ok (.ldc 125, 2) := by decide +kernel
theorem dX4_takeWord_65 : decode cX4_takeWord 65 = .ok (.invokevirtual 121, 3) := by decide +kernel
theorem dX4_takeWord_68 : decode cX4_takeWord 68 = .ok (.ifCond .eq 11, 3) := by decide +kernel
theorem dX4_takeWord_71 : decode cX4_takeWord 71 = .ok (.aload_n 0, 1) := by decide +kernel
theorem dX4_takeWord_72 : decode cX4_takeWord 72 = .ok (.iconst 4, 1) := by decide +kernel
theorem dX4_takeWord_73 : decode cX4_takeWord 73 = .ok (.putfield 18, 3) := by decide +kernel
theorem dX4_takeWord_76 : decode cX4_takeWord 76 = .ok (.goto 58, 3) := by decide +kernel
theorem dX4_takeWord_79 : decode cX4_takeWord 79 = .ok (.aload_n 0, 1) := by decide +kernel
theorem dX4_takeWord_80 : decode cX4_takeWord 80 = .ok (.ldc 127, 2) := by decide +kernel
theorem dX4_takeWord_82 : decode cX4_takeWord 82 = .ok (.invokevirtual 121, 3) := by decide +kernel
theorem dX4_takeWord_85 : decode cX4_takeWord 85 = .ok (.ifCond .eq 11, 3) := by decide +kernel
theorem dX4_takeWord_88 : decode cX4_takeWord 88 = .ok (.aload_n 0, 1) := by decide +kernel
theorem dX4_takeWord_89 : decode cX4_takeWord 89 = .ok (.iconst 5, 1) := by decide +kernel
theorem dX4_takeWord_90 : decode cX4_takeWord 90 = .ok (.putfield 18, 3) := by decide +kernel
theorem dX4_takeWord_93 : decode cX4_takeWord 93 = .ok (.goto 41, 3) := by decide +kernel
theorem dX4_takeWord_96 : decode cX4_takeWord 96 = .ok (.aload_n 0, 1) := by decide +kernel
theorem dX4_takeWord_97 : decode cX4_takeWord 97 = .ok (.ldc 129, 2) := by decide +kernel
theorem dX4_takeWord_99 : decode cX4_takeWord 99 = .ok (.invokevirtual 121, 3) := by decide +kernel
theorem dX4_takeWord_102 : decode cX4_takeWord 102 = .ok (.ifCond .eq 12, 3) := by decide +kernel
theorem dX4_takeWord_105 : decode cX4_takeWord 105 = .ok (.aload_n 0, 1) := by decide +kernel
theorem dX4_takeWord_106 : decode cX4_takeWord 106 = .ok (.bipush 6, 2) := by decide +kernel
theorem dX4_takeWord_108 : decode cX4_takeWord 108 = .ok (.putfield 18, 3) := by decide +kernel
theorem dX4_takeWord_111 : decode cX4_takeWord 111 = .ok (.goto 23, 3) := by decide +kernel
theorem dX4_takeWord_114 : decode cX4_takeWord 114 = .ok (.aload_n 0, 1) := by decide +kernel
theorem dX4_takeWord_115 : decode cX4_takeWord 115 = .ok (.aload_n 0, 1) := by decide +kernel
theorem dX4_takeWord_116 : decode cX4_takeWord 116 = .ok (.ldc 131, 2) := by decide +kernel
theorem dX4_takeWord_118 : decode cX4_takeWord 118 = .ok (.invokevirtual 121, 3) := by decide +kernel
theorem dX4_takeWord_121 : decode cX4_takeWord 121 = .ok (.ifCond .eq 8, 3) := by decide +kernel
theorem dX4_takeWord_124 : decode cX4_takeWord 124 = .ok (.bipush 7, 2) := by decide +kernel
theorem dX4_takeWord_126 : decode cX4_takeWord 126 = .ok (.goto 5, 3) := by decide +kernel
theorem dX4_takeWord_129 : decode cX4_takeWord 129 = .ok (.bipush 8, 2) := by decide +kernel
theorem dX4_takeWord_131 : decode cX4_takeWord 131 = .ok (.putfield 18, 3) := by decide +kernel
theorem dX4_takeWord_134 : decode cX4_takeWord 134 = .ok (.return_, 1) := by decide +kernel
theorem dX4_takeNumber_0 : decode cX4_takeNumber 0 = .ok (.aload_n 0, 1) := by decide +kernel
theorem dX4_takeNumber_1 : decode cX4_takeNumber 1 = .ok (.iconst 0, 1) := by decide +kernel
theorem dX4_takeNumber_2 : decode cX4_takeNumber 2 = .ok (.putfield 21, 3) := by decide +kernel
theorem dX4_takeNumber_5 : decode cX4_takeNumber 5 = .ok (.aload_n 0, 1) := by decide +kernel
theorem dX4_takeNumber_6 : decode cX4_takeNumber 6 = .ok (.getfield 9, 3) := by decide +kernel
theorem dX4_takeNumber_9 : decode cX4_takeNumber 9 = .ok (.aload_n 0, 1) := by decide +kernel
theorem dX4_takeNumber_10 : decode cX4_takeNumber 10 = .ok (.getfield 24, 3) := by decide +kernel
theorem dX4_takeNumber_13 : decode cX4_takeNumber 13 = .ok (.getfield 97, 3) := by decide +kernel
theorem dX4_takeNumber_16 : decode cX4_takeNumber 16 = .ok (.if_icmp .ge 66, 3) := by decide +kernel
theorem dX4_takeNumber_19 : decode cX4_takeNumber 19 = .ok (.aload_n 0, 1) := by decide +kernel
theorem dX4_takeNumber_20 : decode cX4_takeNumber 20 = .ok (.getfield 24, 3) := by decide +kernel
theorem dX4_takeNumber_23 : decode cX4_takeNumber 23 = .ok (.getfield 102, 3) := by decide +kernel
theorem dX4_takeNumber_26 : decode cX4_takeNumber 26 = .ok (.aload_n 0, 1) := by decide +kernel
theorem dX4_takeNumber_27 : decode cX4_takeNumber 27 = .ok (.getfield 9, 3) := by decide +kernel
theorem dX4_takeNumber_30 : decode cX4_takeNumber 30 = .ok (.baload, 1) := by decide +kernel
theorem dX4_takeNumber_31 : decode cX4_takeNumber 31 = .ok (.invokestatic 113, 3) := by decide +kernel
theorem dX4_takeNumber_34 : decode cX4_takeNumber 34 = .ok (.ifCond .eq 48, 3) := by decide +kernel
theorem dX4_takeNumber_37 : decode cX4_takeNumber 37 = .ok (.aload_n 0, 1) := by decide +kernel
theorem dX4_takeNumber_38 : decode cX4_takeNumber 38 = .ok (.aload_n 0, 1) := by decide +kernel
theorem dX4_takeNumber_39 : decode cX4_takeNumber 39 = .ok (.getfield 21, 3) := by decide +kernel
theorem dX4_takeNumber_42 : decode cX4_takeNumber 42 = .ok (.bipush 10, 2) := by decide +kernel
theorem dX4_takeNumber_44 : decode cX4_takeNumber 44 = .ok (.imul, 1) := by decide +kernel
theorem dX4_takeNumber_45 : decode cX4_takeNumber 45 = .ok (.aload_n 0, 1) := by decide +kernel
theorem dX4_takeNumber_46 : decode cX4_takeNumber 46 = .ok (.getfield 24, 3) := by decide +kernel
theorem dX4_takeNumber_49 : decode cX4_takeNumber 49 = .ok (.getfield 102, 3) := by decide +kernel
theorem dX4_takeNumber_52 : decode cX4_takeNumber 52 = .ok (.aload_n 0, 1) := by decide +kernel
theorem dX4_takeNumber_53 : decode cX4_takeNumber 53 = .ok (.getfield 9, 3) := by decide +kernel
theorem dX4_takeNumber_56 : decode cX4_takeNumber 56 = .ok (.baload, 1) := by decide +kernel
theorem dX4_takeNumber_57 : decode cX4_takeNumber 57 = .ok (.iadd, 1) := by decide +kernel
theorem dX4_takeNumber_58 : decode cX4_takeNumber 58 = .ok (.bipush 48, 2) := by decide +kernel
theorem dX4_takeNumber_60 : decode cX4_takeNumber 60 = .ok (.isub, 1) := by decide +kernel
theorem dX4_takeNumber_61 : decode cX4_takeNumber 61 = .ok (.bipush 100, 2) := by decide +kernel
theorem dX4_takeNumber_63 : decode cX4_takeNumber 63 = .ok (.invokestatic 133, 3) := by decide +kernel
theorem dX4_takeNumber_66 : decode cX4_takeNumber 66 = .ok (.putfield 21, 3) := by decide +kernel
theorem dX4_takeNumber_69 : decode cX4_takeNumber 69 = .ok (.aload_n 0, 1) := by decide +kernel
theorem dX4_takeNumber_70 : decode cX4_takeNumber 70 = .ok (.dup, 1) := by decide +kernel
theorem dX4_takeNumber_71 : decode cX4_takeNumber 71 = .ok (.getfield 9, 3) := by decide +kernel
theorem dX4_takeNumber_74 : decode cX4_takeNumber 74 = .ok (.iconst 1, 1) := by decide +kernel
theorem dX4_takeNumber_75 : decode cX4_takeNumber 75 = .ok (.iadd, 1) := by decide +kernel
theorem dX4_takeNumber_76 : decode cX4_takeNumber 76 = .ok (.putfield 9, 3) := by decide +kernel
theorem dX4_takeNumber_79 : decode cX4_takeNumber 79 = .ok (.goto (-74), 3) := by decide +kernel
theorem dX4_takeNumber_82 : decode cX4_takeNumber 82 = .ok (.aload_n 0, 1) := by decide +kernel
theorem dX4_takeNumber_83 : decode cX4_takeNumber 83 = .ok (.getfield 24, 3) := by decide +kernel
theorem dX4_takeNumber_86 : decode cX4_takeNumber 86 = .ok (.getfield 102, 3) := by decide +kernel
theorem dX4_takeNumber_89 : decode cX4_takeNumber 89 = .ok (.aload_n 0, 1) := by decide +kernel
theorem dX4_takeNumber_90 : decode cX4_takeNumber 90 = .ok (.getfield 15, 3) := by decide +kernel
theorem dX4_takeNumber_93 : decode cX4_takeNumber 93 = .ok (.baload, 1) := by decide +kernel
theorem dX4_takeNumber_94 : decode cX4_takeNumber 94 = .ok (.bipush 48, 2) := by decide +kernel
theorem dX4_takeNumber_96 : decode cX4_takeNumber 96 = .ok (.if_icmp .ne 20, 3) := by decide +kernel
theorem dX4_takeNumber_99 : decode cX4_takeNumber 99 = .ok (.aload_n 0, 1) := by decide +kernel
theorem dX4_takeNumber_100 : decode cX4_takeNumber 100 = .ok (.getfield 9, 3) := by decide +kernel
theorem dX4_takeNumber_103 : decode cX4_takeNumber 103 = .ok (.aload_n 0, 1) := by decide +kernel
theorem dX4_takeNumber_104 : decode cX4_takeNumber 104 = .ok (.getfield 15, 3) := by decide +kernel
theorem dX4_takeNumber_107 : decode cX4_takeNumber 107 = .ok (.isub, 1) := by decide +kernel
theorem dX4_takeNumber_108 : decode cX4_takeNumber 108 = .ok (.iconst 1, 1) := by decide +kernel
theorem dX4_takeNumber_109 : decode cX4_takeNumber 109 = .ok (.if_icmp .le 7, 3) := by decide +kernel
theorem dX4_takeNumber_112 : decode cX4_takeNumber 112 = .ok (.iconst 1, 1) := by decide +kernel
theorem dX4_takeNumber_113 : decode cX4_takeNumber 113 = .ok (.goto 4, 3) := by decide +kernel
theorem dX4_takeNumber_116 : decode cX4_takeNumber 116 = .ok (.iconst 0, 1) := by decide +kernel
theorem dX4_takeNumber_117 : decode cX4_takeNumber 117 = .ok (.istore_n 1, 1) := by decide +kernel
theorem dX4_takeNumber_118 : decode cX4_takeNumber 118 = .ok (.aload_n 0, 1) := by decide +kernel
theorem dX4_takeNumber_119 : decode cX4_takeNumber 119 = .ok (.iload_n 1, 1) := by decide +kernel
theorem dX4_takeNumber_120 : decode cX4_takeNumber 120 = .ok (.ifCond .ne 12, 3) := by decide +kernel
theorem dX4_takeNumber_123 : decode cX4_takeNumber 123 = .ok (.aload_n 0, 1) := by decide +kernel
theorem dX4_takeNumber_124 : decode cX4_takeNumber 124 = .ok (.getfield 21, 3) := by decide +kernel
theorem dX4_takeNumber_127 : decode cX4_takeNumber 127 = .ok (.bipush 99, 2) := by decide +kernel
theorem dX4_takeNumber_129 : decode cX4_takeNumber 129 = .ok (.if_icmp .le 8, 3) := by decide +kernel
theorem dX4_takeNumber_132 : decode cX4_takeNumber 132 = .ok (.bipush 8, 2) := by decide +kernel
theorem dX4_takeNumber_134 : decode cX4_takeNumber 134 = .ok (.goto 4, 3) := by decide +kernel
theorem dX4_takeNumber_137 : decode cX4_takeNumber 137 = .ok (.iconst 1, 1) := by decide +kernel
theorem dX4_takeNumber_138 : decode cX4_takeNumber 138 = .ok (.putfield 18, 3) := by decide +kernel
theorem dX4_takeNumber_141 : decode cX4_takeNumber 141 = .ok (.return_, 1) := by decide +kernel
theorem dX4_isLetter_0 : decode cX4_isLetter 0 = .ok (.iload_n 0, 1) := by decide +kernel
theorem dX4_isLetter_1 : decode cX4_isLetter 1 = .ok (.bipush 97, 2) := by decide +kernel
theorem dX4_isLetter_3 : decode cX4_isLetter 3 = .ok (.if_icmp .lt 13, 3) := by decide +kernel
theorem dX4_isLetter_6 : decode cX4_isLetter 6 = .ok (.iload_n 0, 1) := by decide +kernel
theorem dX4_isLetter_7 : decode cX4_isLetter 7 = .ok (.bipush 122, 2) := by decide +kernel
theorem dX4_isLetter_9 : decode cX4_isLetter 9 = .ok (.if_icmp .gt 7, 3) := by decide +kernel
theorem dX4_isLetter_12 : decode cX4_isLetter 12 = .ok (.iconst 1, 1) := by decide +kernel
theorem dX4_isLetter_13 : decode cX4_isLetter 13 = .ok (.goto 4, 3) := by decide +kernel
theorem dX4_isLetter_16 : decode cX4_isLetter 16 = .ok (.iconst 0, 1) := by decide +kernel
theorem dX4_isLetter_17 : decode cX4_isLetter 17 = .ok (.ireturn, 1) := by decide +kernel
theorem dX4_isDigit_0 : decode cX4_isDigit 0 = .ok (.iload_n 0, 1) := by decide +kernel
theorem dX4_isDigit_1 : decode cX4_isDigit 1 = .ok (.bipush 48, 2) := by decide +kernel
theorem dX4_isDigit_3 : decode cX4_isDigit 3 = .ok (.if_icmp .lt 13, 3) := by decide +kernel
theorem dX4_isDigit_6 : decode cX4_isDigit 6 = .ok (.iload_n 0, 1) := by decide +kernel
theorem dX4_isDigit_7 : decode cX4_isDigit 7 = .ok (.bipush 57, 2) := by decide +kernel
theorem dX4_isDigit_9 : decode cX4_isDigit 9 = .ok (.if_icmp .gt 7, 3) := by decide +kernel
theorem dX4_isDigit_12 : decode cX4_isDigit 12 = .ok (.iconst 1, 1) := by decide +kernel
theorem dX4_isDigit_13 : decode cX4_isDigit 13 = .ok (.goto 4, 3) := by decide +kernel
theorem dX4_isDigit_16 : decode cX4_isDigit 16 = .ok (.iconst 0, 1) := by decide +kernel
theorem dX4_isDigit_17 : decode cX4_isDigit 17 = .ok (.ireturn, 1) := by decide +kernel
theorem dX4_spells_0 : decode cX4_spells 0 = .ok (.aload_n 0, 1) := by decide +kernel
theorem dX4_spells_1 : decode cX4_spells 1 = .ok (.getfield 9, 3) := by decide +kernel
theorem dX4_spells_4 : decode cX4_spells 4 = .ok (.aload_n 0, 1) := by decide +kernel
theorem dX4_spells_5 : decode cX4_spells 5 = .ok (.getfield 15, 3) := by decide +kernel
theorem dX4_spells_8 : decode cX4_spells 8 = .ok (.isub, 1) := by decide +kernel
theorem dX4_spells_9 : decode cX4_spells 9 = .ok (.aload_n 1, 1) := by decide +kernel
theorem dX4_spells_10 : decode cX4_spells 10 = .ok (.invokevirtual 139, 3) := by decide +kernel
theorem dX4_spells_13 : decode cX4_spells 13 = .ok (.if_icmp .eq 5, 3) := by decide +kernel
theorem dX4_spells_16 : decode cX4_spells 16 = .ok (.iconst 0, 1) := by decide +kernel
theorem dX4_spells_17 : decode cX4_spells 17 = .ok (.ireturn, 1) := by decide +kernel
theorem dX4_spells_18 : decode cX4_spells 18 = .ok (.iconst 0, 1) := by decide +kernel
theorem dX4_spells_19 : decode cX4_spells 19 = .ok (.istore_n 2, 1) := by decide +kernel
theorem dX4_spells_20 : decode cX4_spells 20 = .ok (.iload_n 2, 1) := by decide +kernel
theorem dX4_spells_21 : decode cX4_spells 21 = .ok (.aload_n 1, 1) := by decide +kernel
theorem dX4_spells_22 : decode cX4_spells 22 = .ok (.invokevirtual 139, 3) := by decide +kernel
theorem dX4_spells_25 : decode cX4_spells 25 = .ok (.if_icmp .ge 33, 3) := by decide +kernel
theorem dX4_spells_28 : decode cX4_spells 28 = .ok (.aload_n 0, 1) := by decide +kernel
theorem dX4_spells_29 : decode cX4_spells 29 = .ok (.getfield 24, 3) := by decide +kernel
theorem dX4_spells_32 : decode cX4_spells 32 = .ok (.getfield 102, 3) := by decide +kernel
theorem dX4_spells_35 : decode cX4_spells 35 = .ok (.aload_n 0, 1) := by decide +kernel
theorem dX4_spells_36 : decode cX4_spells 36 = .ok (.getfield 15, 3) := by decide +kernel
theorem dX4_spells_39 : decode cX4_spells 39 = .ok (.iload_n 2, 1) := by decide +kernel
theorem dX4_spells_40 : decode cX4_spells 40 = .ok (.iadd, 1) := by decide +kernel
theorem dX4_spells_41 : decode cX4_spells 41 = .ok (.baload, 1) := by decide +kernel
theorem dX4_spells_42 : decode cX4_spells 42 = .ok (.aload_n 1, 1) := by decide +kernel
theorem dX4_spells_43 : decode cX4_spells 43 = .ok (.iload_n 2, 1) := by decide +kernel
theorem dX4_spells_44 : decode cX4_spells 44 = .ok (.invokevirtual 144, 3) := by decide +kernel
theorem dX4_spells_47 : decode cX4_spells 47 = .ok (.if_icmp .eq 5, 3) := by decide +kernel
theorem dX4_spells_50 : decode cX4_spells 50 = .ok (.iconst 0, 1) := by decide +kernel
theorem dX4_spells_51 : decode cX4_spells 51 = .ok (.ireturn, 1) := by decide +kernel
theorem dX4_spells_52 : decode cX4_spells 52 = .ok (.iinc 2 1, 3) := by decide +kernel
theorem dX4_spells_55 : decode cX4_spells 55 = .ok (.goto (-35), 3) := by decide +kernel
theorem dX4_spells_58 : decode cX4_spells 58 = .ok (.iconst 1, 1) := by decide +kernel
theorem dX4_spells_59 : decode cX4_spells 59 = .ok (.ireturn, 1) := by decide +kernel
theorem dX9_init_0 : decode cX9_init 0 = .ok (.aload_n 0, 1) := by decide +kernel
theorem dX9_init_1 : decode cX9_init 1 = .ok (.invokespecial 1, 3) := by decide +kernel
theorem dX9_init_4 : decode cX9_init 4 = .ok (.aload_n 0, 1) := by decide +kernel
theorem dX9_init_5 : decode cX9_init 5 = .ok (.new 7, 3) := by decide +kernel
theorem dX9_init_8 : decode cX9_init 8 = .ok (.dup, 1) := by decide +kernel
theorem dX9_init_9 : decode cX9_init 9 = .ok (.invokespecial 9, 3) := by decide +kernel
theorem dX9_init_12 : decode cX9_init 12 = .ok (.putfield 10, 3) := by decide +kernel
theorem dX9_init_15 : decode cX9_init 15 = .ok (.aload_n 0, 1) := by decide +kernel
theorem dX9_init_16 : decode cX9_init 16 = .ok (.new 16, 3) := by decide +kernel
theorem dX9_init_19 : decode cX9_init 19 = .ok (.dup, 1) := by decide +kernel
theorem dX9_init_20 : decode cX9_init 20 = .ok (.invokespecial 18, 3) := by decide +kernel
theorem dX9_init_23 : decode cX9_init 23 = .ok (.putfield 19, 3) := by decide +kernel
theorem dX9_init_26 : decode cX9_init 26 = .ok (.aload_n 0, 1) := by decide +kernel
theorem dX9_init_27 : decode cX9_init 27 = .ok (.new 16, 3) := by decide +kernel
theorem dX9_init_30 : decode cX9_init 30 = .ok (.dup, 1) := by decide +kernel
theorem dX9_init_31 : decode cX9_init 31 = .ok (.invokespecial 18, 3) := by decide +kernel
theorem dX9_init_34 : decode cX9_init 34 = .ok (.putfield 23, 3) := by decide +kernel
theorem dX9_init_37 : decode cX9_init 37 = .ok (.aload_n 0, 1) := by decide +kernel
theorem dX9_init_38 : decode cX9_init 38 = .ok (.new 26, 3) := by decide +kernel
theorem dX9_init_41 : decode cX9_init 41 = .ok (.dup, 1) := by decide +kernel
theorem dX9_init_42 : decode cX9_init 42 = .ok (.invokespecial 28, 3) := by decide +kernel
theorem dX9_init_45 : decode cX9_init 45 = .ok (.putfield 29, 3) := by decide +kernel
theorem dX9_init_48 : decode cX9_init 48 = .ok (.aload_n 0, 1) := by decide +kernel
theorem dX9_init_49 : decode cX9_init 49 = .ok (.new 26, 3) := by decide +kernel
theorem dX9_init_52 : decode cX9_init 52 = .ok (.dup, 1) := by decide +kernel
theorem dX9_init_53 : decode cX9_init 53 = .ok (.invokespecial 28, 3) := by decide +kernel
theorem dX9_init_56 : decode cX9_init 56 = .ok (.putfield 33, 3) := by decide +kernel
theorem dX9_init_59 : decode cX9_init 59 = .ok (.aload_n 0, 1) := by decide +kernel
theorem dX9_init_60 : decode cX9_init 60 = .ok (.new 36, 3) := by decide +kernel
theorem dX9_init_63 : decode cX9_init 63 = .ok (.dup, 1) := by decide +kernel
theorem dX9_init_64 : decode cX9_init 64 = .ok (.aload_n 0, 1) := by decide +kernel
theorem dX9_init_65 : decode cX9_init 65 = .ok (.getfield 10, 3) := by decide +kernel
theorem dX9_init_68 : decode cX9_init 68 = .ok (.aload_n 0, 1) := by decide +kernel
theorem dX9_init_69 : decode cX9_init 69 = .ok (.getfield 23, 3) := by decide +kernel
theorem dX9_init_72 : decode cX9_init 72 = .ok (.aload_n 0, 1) := by decide +kernel
theorem dX9_init_73 : decode cX9_init 73 = .ok (.getfield 33, 3) := by decide +kernel
theorem dX9_init_76 : decode cX9_init 76 = .ok (.invokespecial 38, 3) := by decide +kernel
theorem dX9_init_79 : decode cX9_init 79 = .ok (.putfield 41, 3) := by decide +kernel
theorem dX9_init_82 : decode cX9_init 82 = .ok (.aload_n 0, 1) := by decide +kernel
theorem dX9_init_83 : decode cX9_init 83 = .ok (.iconst 2, 1) := by decide +kernel
theorem dX9_init_84 : decode cX9_init 84 = .ok (.anewarray 26, 3) := by decide +kernel
theorem dX9_init_87 : decode cX9_init 87 = .ok (.putfield 45, 3) := by decide +kernel
theorem dX9_init_90 : decode cX9_init 90 = .ok (.iconst 0, 1) := by decide +kernel
theorem dX9_init_91 : decode cX9_init 91 = .ok (.istore_n 1, 1) := by decide +kernel
theorem dX9_init_92 : decode cX9_init 92 = .ok (.iload_n 1, 1) := by decide +kernel
theorem dX9_init_93 : decode cX9_init 93 = .ok (.iconst 2, 1) := by decide +kernel
theorem dX9_init_94 : decode cX9_init 94 = .ok (.if_icmp .ge 22, 3) := by decide +kernel
theorem dX9_init_97 : decode cX9_init 97 = .ok (.aload_n 0, 1) := by decide +kernel
theorem dX9_init_98 : decode cX9_init 98 = .ok (.getfield 45, 3) := by decide +kernel
theorem dX9_init_101 : decode cX9_init 101 = .ok (.iload_n 1, 1) := by decide +kernel
theorem dX9_init_102 : decode cX9_init 102 = .ok (.new 26, 3) := by decide +kernel
theorem dX9_init_105 : decode cX9_init 105 = .ok (.dup, 1) := by decide +kernel
theorem dX9_init_106 : decode cX9_init 106 = .ok (.invokespecial 28, 3) := by decide +kernel
theorem dX9_init_109 : decode cX9_init 109 = .ok (.aastore, 1) := by decide +kernel
theorem dX9_init_110 : decode cX9_init 110 = .ok (.iinc 1 1, 3) := by decide +kernel
theorem dX9_init_113 : decode cX9_init 113 = .ok (.goto (-21), 3) := by decide +kernel
theorem dX9_init_116 : decode cX9_init 116 = .ok (.aload_n 0, 1) := by decide +kernel
theorem dX9_init_117 : decode cX9_init 117 = .ok (.iconst 2, 1) := by decide +kernel
theorem dX9_init_118 : decode cX9_init 118 = .ok (.newarray .boolean, 2) := by decide +kernel
theorem dX9_init_120 : decode cX9_init 120 = .ok (.putfield 49, 3) := by decide +kernel
theorem dX9_init_123 : decode cX9_init 123 = .ok (.aload_n 0, 1) := by decide +kernel
theorem dX9_init_124 : decode cX9_init 124 = .ok (.new 53, 3) := by decide +kernel
theorem dX9_init_127 : decode cX9_init 127 = .ok (.dup, 1) := by decide +kernel
theorem dX9_init_128 : decode cX9_init 128 = .ok (.aload_n 0, 1) := by decide +kernel
theorem dX9_init_129 : decode cX9_init 129 = .ok (.getfield 19, 3) := by decide +kernel
theorem dX9_init_132 : decode cX9_init 132 = .ok (.invokespecial 55, 3) := by decide +kernel
theorem dX9_init_135 : decode cX9_init 135 = .ok (.putfield 58, 3) := by decide +kernel
theorem dX9_init_138 : decode cX9_init 138 = .ok (.aload_n 0, 1) := by decide +kernel
theorem dX9_init_139 : decode cX9_init 139 = .ok (.new 62, 3) := by decide +kernel
theorem dX9_init_142 : decode cX9_init 142 = .ok (.dup, 1) := by decide +kernel
theorem dX9_init_143 : decode cX9_init 143 = .ok (.aload_n 0, 1) := by decide +kernel
theorem dX9_init_144 : decode cX9_init 144 = .ok (.getfield 19, 3) := by decide +kernel
theorem dX9_init_147 : decode cX9_init 147 = .ok (.aload_n 0, 1) := by decide +kernel
theorem dX9_init_148 : decode cX9_init 148 = .ok (.getfield 58, 3) := by decide +kernel
theorem dX9_init_151 : decode cX9_init 151 = .ok (.invokespecial 64, 3) := by decide +kernel
theorem dX9_init_154 : decode cX9_init 154 = .ok (.putfield 67, 3) := by decide +kernel
theorem dX9_init_157 : decode cX9_init 157 = .ok (.aload_n 0, 1) := by decide +kernel
theorem dX9_init_158 : decode cX9_init 158 = .ok (.new 71, 3) := by decide +kernel
theorem dX9_init_161 : decode cX9_init 161 = .ok (.dup, 1) := by decide +kernel
theorem dX9_init_162 : decode cX9_init 162 = .ok (.aload_n 0, 1) := by decide +kernel
theorem dX9_init_163 : decode cX9_init 163 = .ok (.getfield 19, 3) := by decide +kernel
theorem dX9_init_166 : decode cX9_init 166 = .ok (.aload_n 0, 1) := by decide +kernel
theorem dX9_init_167 : decode cX9_init 167 = .ok (.getfield 58, 3) := by decide +kernel
theorem dX9_init_170 : decode cX9_init 170 = .ok (.invokespecial 73, 3) := by decide +kernel
theorem dX9_init_173 : decode cX9_init 173 = .ok (.putfield 74, 3) := by decide +kernel
theorem dX9_init_176 : decode cX9_init 176 = .ok (.aload_n 0, 1) := by decide +kernel
theorem dX9_init_177 : decode cX9_init 177 = .ok (.new 78, 3) := by decide +kernel
theorem dX9_init_180 : decode cX9_init 180 = .ok (.dup, 1) := by decide +kernel
theorem dX9_init_181 : decode cX9_init 181 = .ok (.aload_n 0, 1) := by decide +kernel
theorem dX9_init_182 : decode cX9_init 182 = .ok (.getfield 19, 3) := by decide +kernel
theorem dX9_init_185 : decode cX9_init 185 = .ok (.aload_n 0, 1) := by decide +kernel
theorem dX9_init_186 : decode cX9_init 186 = .ok (.getfield 58, 3) := by decide +kernel
theorem dX9_init_189 : decode cX9_init 189 = .ok (.invokespecial 80, 3) := by decide +kernel
theorem dX9_init_192 : decode cX9_init 192 = .ok (.putfield 81, 3) := by decide +kernel
theorem dX9_init_195 : decode cX9_init 195 = .ok (.aload_n 0, 1) := by decide +kernel
theorem dX9_init_196 : decode cX9_init 196 = .ok (.new 85, 3) := by decide +kernel
theorem dX9_init_199 : decode cX9_init 199 = .ok (.dup, 1) := by decide +kernel
theorem dX9_init_200 : decode cX9_init 200 = .ok (.aload_n 0, 1) := by decide +kernel
theorem dX9_init_201 : decode cX9_init 201 = .ok (.getfield 19, 3) := by decide +kernel
theorem dX9_init_204 : decode cX9_init 204 = .ok (.invokespecial 87, 3) := by decide +kernel
theorem dX9_init_207 : decode cX9_init 207 = .ok (.putfield 88, 3) := by decide +kernel
theorem dX9_init_210 : decode cX9_init 210 = .ok (.aload_n 0, 1) := by decide +kernel
theorem dX9_init_211 : decode cX9_init 211 = .ok (.lconst 0, 1) := by decide +kernel
theorem dX9_init_212 : decode cX9_init 212 = .ok (.putfield 92, 3) := by decide +kernel
theorem dX9_init_215 : decode cX9_init 215 = .ok (.return_, 1) := by decide +kernel
theorem dX9_type_0 : decode cX9_type 0 = .ok (.iload_n 3, 1) := by decide +kernel
theorem dX9_type_1 : decode cX9_type 1 = .ok (.iconst 1, 1) := by decide +kernel
theorem dX9_type_2 : decode cX9_type 2 = .ok (.if_icmp .lt 9, 3) := by decide +kernel
theorem dX9_type_5 : decode cX9_type 5 = .ok (.iload_n 3, 1) := by decide +kernel
theorem dX9_type_6 : decode cX9_type 6 = .ok (.bipush 8, 2) := by decide +kernel
theorem dX9_type_8 : decode cX9_type 8 = .ok (.if_icmp .le 5, 3) := by decide +kernel
theorem dX9_type_11 : decode cX9_type 11 = .ok (.iconst (-1), 1) := by decide +kernel
theorem dX9_type_12 : decode cX9_type 12 = .ok (.ireturn, 1) := by decide +kernel
theorem dX9_type_13 : decode cX9_type 13 = .ok (.aload_n 0, 1) := by decide +kernel
theorem dX9_type_14 : decode cX9_type 14 = .ok (.getfield 10, 3) := by decide +kernel
theorem dX9_type_17 : decode cX9_type 17 = .ok (.getfield 96, 3) := by decide +kernel
theorem dX9_type_20 : decode cX9_type 20 = .ok (.iload_n 3, 1) := by decide +kernel
theorem dX9_type_21 : decode cX9_type 21 = .ok (.iadd, 1) := by decide +kernel
theorem dX9_type_22 : decode cX9_type 22 = .ok (.sipush 300, 3) := by decide +kernel
theorem dX9_type_25 : decode cX9_type 25 = .ok (.if_icmp .le 6, 3) := by decide +kernel
theorem dX9_type_28 : decode cX9_type 28 = .ok (.bipush (-3), 2) := by decide +kernel
theorem dX9_type_30 : decode cX9_type 30 = .ok (.ireturn, 1) := by decide +kernel
theorem dX9_type_31 : decode cX9_type 31 = .ok (.aload_n 0, 1) := by decide +kernel
theorem dX9_type_32 : decode cX9_type 32 = .ok (.getfield 10, 3) := by decide +kernel
theorem dX9_type_35 : decode cX9_type 35 = .ok (.lload_n 1, 1) := by decide +kernel
theorem dX9_type_36 : decode cX9_type 36 = .ok (.iload_n 3, 1) := by decide +kernel
theorem dX9_type_37 : decode cX9_type 37 = .ok (.invokevirtual 100, 3) := by decide +kernel
theorem dX9_type_40 : decode cX9_type 40 = .ok (.aload_n 0, 1) := by decide +kernel
theorem dX9_type_41 : decode cX9_type 41 = .ok (.getfield 10, 3) := by decide +kernel
theorem dX9_type_44 : decode cX9_type 44 = .ok (.getfield 96, 3) := by decide +kernel
theorem dX9_type_47 : decode cX9_type 47 = .ok (.ireturn, 1) := by decide +kernel
theorem dX9_clear_0 : decode cX9_clear 0 = .ok (.aload_n 0, 1) := by decide +kernel
theorem dX9_clear_1 : decode cX9_clear 1 = .ok (.getfield 10, 3) := by decide +kernel
theorem dX9_clear_4 : decode cX9_clear 4 = .ok (.getfield 96, 3) := by decide +kernel
theorem dX9_clear_7 : decode cX9_clear 7 = .ok (.istore_n 1, 1) := by decide +kernel
theorem dX9_clear_8 : decode cX9_clear 8 = .ok (.aload_n 0, 1) := by decide +kernel
theorem dX9_clear_9 : decode cX9_clear 9 = .ok (.getfield 10, 3) := by decide +kernel
theorem dX9_clear_12 : decode cX9_clear 12 = .ok (.iconst 0, 1) := by decide +kernel
theorem dX9_clear_13 : decode cX9_clear 13 = .ok (.putfield 96, 3) := by decide +kernel
theorem dX9_clear_16 : decode cX9_clear 16 = .ok (.iload_n 1, 1) := by decide +kernel
theorem dX9_clear_17 : decode cX9_clear 17 = .ok (.ireturn, 1) := by decide +kernel
theorem dX9_town_0 : decode cX9_town 0 = .ok (.aload_n 0, 1) := by decide +kernel
theorem dX9_town_1 : decode cX9_town 1 = .ok (.getfield 41, 3) := by decide +kernel
theorem dX9_town_4 : decode cX9_town 4 = .ok (.invokevirtual 104, 3) := by decide +kernel
theorem dX9_town_7 : decode cX9_town 7 = .ok (.istore_n 1, 1) := by decide +kernel
theorem dX9_town_8 : decode cX9_town 8 = .ok (.iload_n 1, 1) := by decide +kernel
theorem dX9_town_9 : decode cX9_town 9 = .ok (.ifCond .ge 5, 3) := by decide +kernel
theorem dX9_town_12 : decode cX9_town 12 = .ok (.iload_n 1, 1) := by decide +kernel
theorem dX9_town_13 : decode cX9_town 13 = .ok (.ireturn, 1) := by decide +kernel
theorem dX9_town_14 : decode cX9_town 14 = .ok (.aload_n 0, 1) := by decide +kernel
theorem dX9_town_15 : decode cX9_town 15 = .ok (.getfield 19, 3) := by decide +kernel
theorem dX9_town_18 : decode cX9_town 18 = .ok (.aload_n 0, 1) := by decide +kernel
theorem dX9_town_19 : decode cX9_town 19 = .ok (.getfield 23, 3) := by decide +kernel
theorem dX9_town_22 : decode cX9_town 22 = .ok (.invokevirtual 108, 3) := by decide +kernel
theorem dX9_town_25 : decode cX9_town 25 = .ok (.aload_n 0, 1) := by decide +kernel
theorem dX9_town_26 : decode cX9_town 26 = .ok (.getfield 29, 3) := by decide +kernel
theorem dX9_town_29 : decode cX9_town 29 = .ok (.aload_n 0, 1) := by decide +kernel
theorem dX9_town_30 : decode cX9_town 30 = .ok (.getfield 33, 3) := by decide +kernel
theorem dX9_town_33 : decode cX9_town 33 = .ok (.invokevirtual 111, 3) := by decide +kernel
theorem dX9_town_36 : decode cX9_town 36 = .ok (.iconst 0, 1) := by decide +kernel
theorem dX9_town_37 : decode cX9_town 37 = .ok (.istore_n 2, 1) := by decide +kernel
theorem dX9_town_38 : decode cX9_town 38 = .ok (.iload_n 2, 1) := by decide +kernel
theorem dX9_town_39 : decode cX9_town 39 = .ok (.iconst 2, 1) := by decide +kernel
theorem dX9_town_40 : decode cX9_town 40 = .ok (.if_icmp .ge 16, 3) := by decide +kernel
theorem dX9_town_43 : decode cX9_town 43 = .ok (.aload_n 0, 1) := by decide +kernel
theorem dX9_town_44 : decode cX9_town 44 = .ok (.getfield 49, 3) := by decide +kernel
theorem dX9_town_47 : decode cX9_town 47 = .ok (.iload_n 2, 1) := by decide +kernel
theorem dX9_town_48 : decode cX9_town 48 = .ok (.iconst 0, 1) := by decide +kernel
theorem dX9_town_49 : decode cX9_town 49 = .ok (.bastore, 1) := by decide +kernel
theorem dX9_town_50 : decode cX9_town 50 = .ok (.iinc 2 1, 3) := by decide +kernel
theorem dX9_town_53 : decode cX9_town 53 = .ok (.goto (-15), 3) := by decide +kernel
theorem dX9_town_56 : decode cX9_town 56 = .ok (.aload_n 0, 1) := by decide +kernel
theorem dX9_town_57 : decode cX9_town 57 = .ok (.getfield 58, 3) := by decide +kernel
theorem dX9_town_60 : decode cX9_town 60 = .ok (.invokevirtual 114, 3) := by decide +kernel
theorem dX9_town_63 : decode cX9_town 63 = .ok (.aload_n 0, 1) := by decide +kernel
theorem dX9_town_64 : decode cX9_town 64 = .ok (.getfield 67, 3) := by decide +kernel
theorem dX9_town_67 : decode cX9_town 67 = .ok (.invokevirtual 117, 3) := by decide +kernel
theorem dX9_town_70 : decode cX9_town 70 = .ok (.aload_n 0, 1) := by decide +kernel
theorem dX9_town_71 : decode cX9_town 71 = .ok (.getfield 10, 3) := by decide +kernel
theorem dX9_town_74 : decode cX9_town 74 = .ok (.iconst 0, 1) := by decide +kernel
theorem dX9_town_75 : decode cX9_town 75 = .ok (.putfield 96, 3) := by decide +kernel
theorem dX9_town_78 : decode cX9_town 78 = .ok (.iload_n 1, 1) := by decide +kernel
theorem dX9_town_79 : decode cX9_town 79 = .ok (.ireturn, 1) := by decide +kernel
theorem dX9_piece_0 : decode cX9_piece 0 = .ok (.aload_n 0, 1) := by decide +kernel
theorem dX9_piece_1 : decode cX9_piece 1 = .ok (.iload_n 1, 1) := by decide +kernel
theorem dX9_piece_2 : decode cX9_piece 2 = .ok (.invokevirtual 118, 3) := by decide +kernel
theorem dX9_piece_5 : decode cX9_piece 5 = .ok (.ifCond .ne 5, 3) := by decide +kernel
theorem dX9_piece_8 : decode cX9_piece 8 = .ok (.iconst (-1), 1) := by decide +kernel
theorem dX9_piece_9 : decode cX9_piece 9 = .ok (.ireturn, 1) := by decide +kernel
theorem dX9_piece_10 : decode cX9_piece 10 = .ok (.iload_n 2, 1) := by decide +kernel
theorem dX9_piece_11 : decode cX9_piece 11 = .ok (.tableswitch 99 0 5 #[37, 47, 57, 67, 77, 89], 37) := by decide +kernel
theorem dX9_piece_48 : decode cX9_piece 48 = .ok (.aload_n 0, 1) := by decide +kernel
theorem dX9_piece_49 : decode cX9_piece 49 = .ok (.getfield 19, 3) := by decide +kernel
theorem dX9_piece_52 : decode cX9_piece 52 = .ok (.getfield 122, 3) := by decide +kernel
theorem dX9_piece_55 : decode cX9_piece 55 = .ok (.iload_n 1, 1) := by decide +kernel
theorem dX9_piece_56 : decode cX9_piece 56 = .ok (.iaload, 1) := by decide +kernel
theorem dX9_piece_57 : decode cX9_piece 57 = .ok (.ireturn, 1) := by decide +kernel
theorem dX9_piece_58 : decode cX9_piece 58 = .ok (.aload_n 0, 1) := by decide +kernel
theorem dX9_piece_59 : decode cX9_piece 59 = .ok (.getfield 19, 3) := by decide +kernel
theorem dX9_piece_62 : decode cX9_piece 62 = .ok (.getfield 126, 3) := by decide +kernel
theorem dX9_piece_65 : decode cX9_piece 65 = .ok (.iload_n 1, 1) := by decide +kernel
theorem dX9_piece_66 : decode cX9_piece 66 = .ok (.iaload, 1) := by decide +kernel
theorem dX9_piece_67 : decode cX9_piece 67 = .ok (.ireturn, 1) := by decide +kernel
theorem dX9_piece_68 : decode cX9_piece 68 = .ok (.aload_n 0, 1) := by decide +kernel
theorem dX9_piece_69 : decode cX9_piece 69 = .ok (.getfield 19, 3) := by decide +kernel
theorem dX9_piece_72 : decode cX9_piece 72 = .ok (.getfield 129, 3) := by decide +kernel
theorem dX9_piece_75 : decode cX9_piece 75 = .ok (.iload_n 1, 1) := by decide +kernel
theorem dX9_piece_76 : decode cX9_piece 76 = .ok (.iaload, 1) := by decide +kernel
theorem dX9_piece_77 : decode cX9_piece 77 = .ok (.ireturn, 1) := by decide +kernel
theorem dX9_piece_78 : decode cX9_piece 78 = .ok (.aload_n 0, 1) := by decide +kernel
theorem dX9_piece_79 : decode cX9_piece 79 = .ok (.getfield 29, 3) := by decide +kernel
theorem dX9_piece_82 : decode cX9_piece 82 = .ok (.getfield 132, 3) := by decide +kernel
theorem dX9_piece_85 : decode cX9_piece 85 = .ok (.iload_n 1, 1) := by decide +kernel
theorem dX9_piece_86 : decode cX9_piece 86 = .ok (.iaload, 1) := by decide +kernel
theorem dX9_piece_87 : decode cX9_piece 87 = .ok (.ireturn, 1) := by decide +kernel
theorem dX9_piece_88 : decode cX9_piece 88 = .ok (.aload_n 0, 1) := by decide +kernel
theorem dX9_piece_89 : decode cX9_piece 89 = .ok (.getfield 29, 3) := by decide +kernel
theorem dX9_piece_92 : decode cX9_piece 92 = .ok (.getfield 135, 3) := by decide +kernel
theorem dX9_piece_95 : decode cX9_piece 95 = .ok (.iload_n 1, 1) := by decide +kernel
theorem dX9_piece_96 : decode cX9_piece 96 = .ok (.ishr, 1) := by decide +kernel
theorem dX9_piece_97 : decode cX9_piece 97 = .ok (.iconst 1, 1) := by decide +kernel
theorem dX9_piece_98 : decode cX9_piece 98 = .ok (.iand, 1) := by decide +kernel
theorem dX9_piece_99 : decode cX9_piece 99 = .ok (.ireturn, 1) := by decide +kernel
theorem dX9_piece_100 : decode cX9_piece 100 = .ok (.aload_n 0, 1) := by decide +kernel
theorem dX9_piece_101 : decode cX9_piece 101 = .ok (.getfield 29, 3) := by decide +kernel
theorem dX9_piece_104 : decode cX9_piece 104 = .ok (.getfield 138, 3) := by decide +kernel
theorem dX9_piece_107 : decode cX9_piece 107 = .ok (.iload_n 1, 1) := by decide +kernel
theorem dX9_piece_108 : decode cX9_piece 108 = .ok (.iaload, 1) := by decide +kernel
theorem dX9_piece_109 : decode cX9_piece 109 = .ok (.ireturn, 1) := by decide +kernel
theorem dX9_piece_110 : decode cX9_piece 110 = .ok (.iconst (-1), 1) := by decide +kernel
theorem dX9_piece_111 : decode cX9_piece 111 = .ok (.ireturn, 1) := by decide +kernel
theorem dX9_family_0 : decode cX9_family 0 = .ok (.aload_n 0, 1) := by decide +kernel
theorem dX9_family_1 : decode cX9_family 1 = .ok (.iload_n 1, 1) := by decide +kernel
theorem dX9_family_2 : decode cX9_family 2 = .ok (.invokevirtual 141, 3) := by decide +kernel
theorem dX9_family_5 : decode cX9_family 5 = .ok (.ifCond .ne 5, 3) := by decide +kernel
theorem dX9_family_8 : decode cX9_family 8 = .ok (.iconst (-1), 1) := by decide +kernel
theorem dX9_family_9 : decode cX9_family 9 = .ok (.ireturn, 1) := by decide +kernel
theorem dX9_family_10 : decode cX9_family 10 = .ok (.iload_n 2, 1) := by decide +kernel
theorem dX9_family_11 : decode cX9_family 11 = .ok (.tableswitch 71 0 3 #[29, 39, 49, 59], 29) := by decide +kernel
theorem dX9_family_40 : decode cX9_family 40 = .ok (.aload_n 0, 1) := by decide +kernel
theorem dX9_family_41 : decode cX9_family 41 = .ok (.getfield 19, 3) := by decide +kernel
theorem dX9_family_44 : decode cX9_family 44 = .ok (.getfield 144, 3) := by decide +kernel
theorem dX9_family_47 : decode cX9_family 47 = .ok (.iload_n 1, 1) := by decide +kernel
theorem dX9_family_48 : decode cX9_family 48 = .ok (.iaload, 1) := by decide +kernel
theorem dX9_family_49 : decode cX9_family 49 = .ok (.ireturn, 1) := by decide +kernel
theorem dX9_family_50 : decode cX9_family 50 = .ok (.aload_n 0, 1) := by decide +kernel
theorem dX9_family_51 : decode cX9_family 51 = .ok (.getfield 19, 3) := by decide +kernel
theorem dX9_family_54 : decode cX9_family 54 = .ok (.getfield 147, 3) := by decide +kernel
theorem dX9_family_57 : decode cX9_family 57 = .ok (.iload_n 1, 1) := by decide +kernel
theorem dX9_family_58 : decode cX9_family 58 = .ok (.iaload, 1) := by decide +kernel
theorem dX9_family_59 : decode cX9_family 59 = .ok (.ireturn, 1) := by decide +kernel
theorem dX9_family_60 : decode cX9_family 60 = .ok (.aload_n 0, 1) := by decide +kernel
theorem dX9_family_61 : decode cX9_family 61 = .ok (.getfield 19, 3) := by decide +kernel
theorem dX9_family_64 : decode cX9_family 64 = .ok (.getfield 150, 3) := by decide +kernel
theorem dX9_family_67 : decode cX9_family 67 = .ok (.iload_n 1, 1) := by decide +kernel
theorem dX9_family_68 : decode cX9_family 68 = .ok (.iaload, 1) := by decide +kernel
theorem dX9_family_69 : decode cX9_family 69 = .ok (.ireturn, 1) := by decide +kernel
theorem dX9_family_70 : decode cX9_family 70 = .ok (.aload_n 0, 1) := by decide +kernel
theorem dX9_family_71 : decode cX9_family 71 = .ok (.getfield 29, 3) := by decide +kernel
theorem dX9_family_74 : decode cX9_family 74 = .ok (.iload_n 1, 1) := by decide +kernel
theorem dX9_family_75 : decode cX9_family 75 = .ok (.invokevirtual 153, 3) := by decide +kernel
theorem dX9_family_78 : decode cX9_family 78 = .ok (.invokestatic 157, 3) := by decide +kernel
theorem dX9_family_81 : decode cX9_family 81 = .ok (.ireturn, 1) := by decide +kernel
theorem dX9_family_82 : decode cX9_family 82 = .ok (.iconst (-1), 1) := by decide +kernel
theorem dX9_family_83 : decode cX9_family 83 = .ok (.ireturn, 1) := by decide +kernel
theorem dX9_pave_0 : decode cX9_pave 0 = .ok (.aload_n 0, 1) := by decide +kernel
theorem dX9_pave_1 : decode cX9_pave 1 = .ok (.iload_n 1, 1) := by decide +kernel
theorem dX9_pave_2 : decode cX9_pave 2 = .ok (.invokevirtual 118, 3) := by decide +kernel
theorem dX9_pave_5 : decode cX9_pave 5 = .ok (.ifCond .eq 11, 3) := by decide +kernel
theorem dX9_pave_8 : decode cX9_pave 8 = .ok (.aload_n 0, 1) := by decide +kernel
theorem dX9_pave_9 : decode cX9_pave 9 = .ok (.iload_n 2, 1) := by decide +kernel
theorem dX9_pave_10 : decode cX9_pave 10 = .ok (.invokevirtual 141, 3) := by decide +kernel
theorem dX9_pave_13 : decode cX9_pave 13 = .ok (.ifCond .ne 5, 3) := by decide +kernel
theorem dX9_pave_16 : decode cX9_pave 16 = .ok (.iconst (-1), 1) := by decide +kernel
theorem dX9_pave_17 : decode cX9_pave 17 = .ok (.ireturn, 1) := by decide +kernel
theorem dX9_pave_18 : decode cX9_pave 18 = .ok (.aload_n 0, 1) := by decide +kernel
theorem dX9_pave_19 : decode cX9_pave 19 = .ok (.getfield 29, 3) := by decide +kernel
theorem dX9_pave_22 : decode cX9_pave 22 = .ok (.iload_n 1, 1) := by decide +kernel
theorem dX9_pave_23 : decode cX9_pave 23 = .ok (.invokevirtual 162, 3) := by decide +kernel
theorem dX9_pave_26 : decode cX9_pave 26 = .ok (.ifCond .eq 6, 3) := by decide +kernel
theorem dX9_pave_29 : decode cX9_pave 29 = .ok (.bipush (-2), 2) := by decide +kernel
theorem dX9_pave_31 : decode cX9_pave 31 = .ok (.ireturn, 1) := by decide +kernel
theorem dX9_pave_32 : decode cX9_pave 32 = .ok (.aload_n 0, 1) := by decide +kernel
theorem dX9_pave_33 : decode cX9_pave 33 = .ok (.getfield 29, 3) := by decide +kernel
theorem dX9_pave_36 : decode cX9_pave 36 = .ok (.getfield 132, 3) := by decide +kernel
theorem dX9_pave_39 : decode cX9_pave 39 = .ok (.iload_n 1, 1) := by decide +kernel
theorem dX9_pave_40 : decode cX9_pave 40 = .ok (.iaload, 1) := by decide +kernel
theorem dX9_pave_41 : decode cX9_pave 41 = .ok (.istore_n 3, 1) := by decide +kernel
theorem dX9_pave_42 : decode cX9_pave 42 = .ok (.aload_n 0, 1) := by decide +kernel
theorem dX9_pave_43 : decode cX9_pave 43 = .ok (.getfield 29, 3) := by decide +kernel
theorem dX9_pave_46 : decode cX9_pave 46 = .ok (.getfield 132, 3) := by decide +kernel
theorem dX9_pave_49 : decode cX9_pave 49 = .ok (.iload_n 1, 1) := by decide +kernel
theorem dX9_pave_50 : decode cX9_pave 50 = .ok (.iload_n 2, 1) := by decide +kernel
theorem dX9_pave_51 : decode cX9_pave 51 = .ok (.iastore, 1) := by decide +kernel
theorem dX9_pave_52 : decode cX9_pave 52 = .ok (.iload_n 3, 1) := by decide +kernel
theorem dX9_pave_53 : decode cX9_pave 53 = .ok (.ireturn, 1) := by decide +kernel
theorem dX9_free_0 : decode cX9_free 0 = .ok (.aload_n 0, 1) := by decide +kernel
theorem dX9_free_1 : decode cX9_free 1 = .ok (.iload_n 1, 1) := by decide +kernel
theorem dX9_free_2 : decode cX9_free 2 = .ok (.invokevirtual 118, 3) := by decide +kernel
theorem dX9_free_5 : decode cX9_free 5 = .ok (.ifCond .ne 5, 3) := by decide +kernel
theorem dX9_free_8 : decode cX9_free 8 = .ok (.iconst (-1), 1) := by decide +kernel
theorem dX9_free_9 : decode cX9_free 9 = .ok (.ireturn, 1) := by decide +kernel
theorem dX9_free_10 : decode cX9_free 10 = .ok (.aload_n 0, 1) := by decide +kernel
theorem dX9_free_11 : decode cX9_free 11 = .ok (.getfield 29, 3) := by decide +kernel
theorem dX9_free_14 : decode cX9_free 14 = .ok (.getfield 132, 3) := by decide +kernel
theorem dX9_free_17 : decode cX9_free 17 = .ok (.iload_n 1, 1) := by decide +kernel
theorem dX9_free_18 : decode cX9_free 18 = .ok (.iaload, 1) := by decide +kernel
theorem dX9_free_19 : decode cX9_free 19 = .ok (.istore_n 2, 1) := by decide +kernel
theorem dX9_free_20 : decode cX9_free 20 = .ok (.iload_n 2, 1) := by decide +kernel
theorem dX9_free_21 : decode cX9_free 21 = .ok (.bipush (-9), 2) := by decide +kernel
theorem dX9_free_23 : decode cX9_free 23 = .ok (.if_icmp .ne 6, 3) := by decide +kernel
theorem dX9_free_26 : decode cX9_free 26 = .ok (.bipush (-2), 2) := by decide +kernel
theorem dX9_free_28 : decode cX9_free 28 = .ok (.ireturn, 1) := by decide +kernel
theorem dX9_free_29 : decode cX9_free 29 = .ok (.aload_n 0, 1) := by decide +kernel
theorem dX9_free_30 : decode cX9_free 30 = .ok (.getfield 29, 3) := by decide +kernel
theorem dX9_free_33 : decode cX9_free 33 = .ok (.getfield 132, 3) := by decide +kernel
theorem dX9_free_36 : decode cX9_free 36 = .ok (.iload_n 1, 1) := by decide +kernel
theorem dX9_free_37 : decode cX9_free 37 = .ok (.bipush (-9), 2) := by decide +kernel
theorem dX9_free_39 : decode cX9_free 39 = .ok (.iastore, 1) := by decide +kernel
theorem dX9_free_40 : decode cX9_free 40 = .ok (.iload_n 2, 1) := by decide +kernel
theorem dX9_free_41 : decode cX9_free 41 = .ok (.ireturn, 1) := by decide +kernel
theorem dX9_stone_0 : decode cX9_stone 0 = .ok (.aload_n 0, 1) := by decide +kernel
theorem dX9_stone_1 : decode cX9_stone 1 = .ok (.iload_n 1, 1) := by decide +kernel
theorem dX9_stone_2 : decode cX9_stone 2 = .ok (.invokevirtual 118, 3) := by decide +kernel
theorem dX9_stone_5 : decode cX9_stone 5 = .ok (.ifCond .eq 12, 3) := by decide +kernel
theorem dX9_stone_8 : decode cX9_stone 8 = .ok (.iload_n 2, 1) := by decide +kernel
theorem dX9_stone_9 : decode cX9_stone 9 = .ok (.ifCond .lt 8, 3) := by decide +kernel
theorem dX9_stone_12 : decode cX9_stone 12 = .ok (.iload_n 2, 1) := by decide +kernel
theorem dX9_stone_13 : decode cX9_stone 13 = .ok (.iconst 1, 1) := by decide +kernel
theorem dX9_stone_14 : decode cX9_stone 14 = .ok (.if_icmp .le 5, 3) := by decide +kernel
theorem dX9_stone_17 : decode cX9_stone 17 = .ok (.iconst (-1), 1) := by decide +kernel
theorem dX9_stone_18 : decode cX9_stone 18 = .ok (.ireturn, 1) := by decide +kernel
theorem dX9_stone_19 : decode cX9_stone 19 = .ok (.aload_n 0, 1) := by decide +kernel
theorem dX9_stone_20 : decode cX9_stone 20 = .ok (.getfield 29, 3) := by decide +kernel
theorem dX9_stone_23 : decode cX9_stone 23 = .ok (.getfield 135, 3) := by decide +kernel
theorem dX9_stone_26 : decode cX9_stone 26 = .ok (.iload_n 1, 1) := by decide +kernel
theorem dX9_stone_27 : decode cX9_stone 27 = .ok (.ishr, 1) := by decide +kernel
theorem dX9_stone_28 : decode cX9_stone 28 = .ok (.iconst 1, 1) := by decide +kernel
theorem dX9_stone_29 : decode cX9_stone 29 = .ok (.iand, 1) := by decide +kernel
theorem dX9_stone_30 : decode cX9_stone 30 = .ok (.istore_n 3, 1) := by decide +kernel
theorem dX9_stone_31 : decode cX9_stone 31 = .ok (.iload_n 2, 1) := by decide +kernel
theorem dX9_stone_32 : decode cX9_stone 32 = .ok (.iconst 1, 1) := by decide +kernel
theorem dX9_stone_33 : decode cX9_stone 33 = .ok (.if_icmp .ne 14, 3) := by decide +kernel
theorem dX9_stone_36 : decode cX9_stone 36 = .ok (.aload_n 0, 1) := by decide +kernel
theorem dX9_stone_37 : decode cX9_stone 37 = .ok (.getfield 29, 3) := by decide +kernel
theorem dX9_stone_40 : decode cX9_stone 40 = .ok (.iload_n 1, 1) := by decide +kernel
theorem dX9_stone_41 : decode cX9_stone 41 = .ok (.invokevirtual 165, 3) := by decide +kernel
theorem dX9_stone_44 : decode cX9_stone 44 = .ok (.goto 11, 3) := by decide +kernel
theorem dX9_stone_47 : decode cX9_stone 47 = .ok (.aload_n 0, 1) := by decide +kernel
theorem dX9_stone_48 : decode cX9_stone 48 = .ok (.getfield 29, 3) := by decide +kernel
theorem dX9_stone_51 : decode cX9_stone 51 = .ok (.iload_n 1, 1) := by decide +kernel
theorem dX9_stone_52 : decode cX9_stone 52 = .ok (.invokevirtual 169, 3) := by decide +kernel
theorem dX9_stone_55 : decode cX9_stone 55 = .ok (.iload_n 3, 1) := by decide +kernel
theorem dX9_stone_56 : decode cX9_stone 56 = .ok (.ireturn, 1) := by decide +kernel
theorem dX9_flood_0 : decode cX9_flood 0 = .ok (.aload_n 0, 1) := by decide +kernel
theorem dX9_flood_1 : decode cX9_flood 1 = .ok (.iload_n 1, 1) := by decide +kernel
theorem dX9_flood_2 : decode cX9_flood 2 = .ok (.invokevirtual 118, 3) := by decide +kernel
theorem dX9_flood_5 : decode cX9_flood 5 = .ok (.ifCond .eq 13, 3) := by decide +kernel
theorem dX9_flood_8 : decode cX9_flood 8 = .ok (.iload_n 2, 1) := by decide +kernel
theorem dX9_flood_9 : decode cX9_flood 9 = .ok (.ifCond .lt 9, 3) := by decide +kernel
theorem dX9_flood_12 : decode cX9_flood 12 = .ok (.iload_n 2, 1) := by decide +kernel
theorem dX9_flood_13 : decode cX9_flood 13 = .ok (.bipush 9, 2) := by decide +kernel
theorem dX9_flood_15 : decode cX9_flood 15 = .ok (.if_icmp .le 5, 3) := by decide +kernel
theorem dX9_flood_18 : decode cX9_flood 18 = .ok (.iconst (-1), 1) := by decide +kernel
theorem dX9_flood_19 : decode cX9_flood 19 = .ok (.ireturn, 1) := by decide +kernel
theorem dX9_flood_20 : decode cX9_flood 20 = .ok (.aload_n 0, 1) := by decide +kernel
theorem dX9_flood_21 : decode cX9_flood 21 = .ok (.getfield 29, 3) := by decide +kernel
theorem dX9_flood_24 : decode cX9_flood 24 = .ok (.getfield 138, 3) := by decide +kernel
theorem dX9_flood_27 : decode cX9_flood 27 = .ok (.iload_n 1, 1) := by decide +kernel
theorem dX9_flood_28 : decode cX9_flood 28 = .ok (.iaload, 1) := by decide +kernel
theorem dX9_flood_29 : decode cX9_flood 29 = .ok (.istore_n 3, 1) := by decide +kernel
theorem dX9_flood_30 : decode cX9_flood 30 = .ok (.aload_n 0, 1) := by decide +kernel
theorem dX9_flood_31 : decode cX9_flood 31 = .ok (.getfield 29, 3) := by decide +kernel
theorem dX9_flood_34 : decode cX9_flood 34 = .ok (.getfield 138, 3) := by decide +kernel
theorem dX9_flood_37 : decode cX9_flood 37 = .ok (.iload_n 1, 1) := by decide +kernel
theorem dX9_flood_38 : decode cX9_flood 38 = .ok (.iload_n 2, 1) := by decide +kernel
theorem dX9_flood_39 : decode cX9_flood 39 = .ok (.iastore, 1) := by decide +kernel
theorem dX9_flood_40 : decode cX9_flood 40 = .ok (.iload_n 3, 1) := by decide +kernel
theorem dX9_flood_41 : decode cX9_flood 41 = .ok (.ireturn, 1) := by decide +kernel
theorem dX9_way_0 : decode cX9_way 0 = .ok (.aload_n 0, 1) := by decide +kernel
theorem dX9_way_1 : decode cX9_way 1 = .ok (.iload_n 1, 1) := by decide +kernel
theorem dX9_way_2 : decode cX9_way 2 = .ok (.invokevirtual 141, 3) := by decide +kernel
theorem dX9_way_5 : decode cX9_way 5 = .ok (.ifCond .ne 5, 3) := by decide +kernel
theorem dX9_way_8 : decode cX9_way 8 = .ok (.iconst (-1), 1) := by decide +kernel
theorem dX9_way_9 : decode cX9_way 9 = .ok (.ireturn, 1) := by decide +kernel
theorem dX9_way_10 : decode cX9_way 10 = .ok (.aload_n 0, 1) := by decide +kernel
theorem dX9_way_11 : decode cX9_way 11 = .ok (.iload_n 1, 1) := by decide +kernel
theorem dX9_way_12 : decode cX9_way 12 = .ok (.invokevirtual 172, 3) := by decide +kernel
theorem dX9_way_15 : decode cX9_way 15 = .ok (.invokestatic 175, 3) := by decide +kernel
theorem dX9_way_18 : decode cX9_way 18 = .ok (.ireturn, 1) := by decide +kernel
theorem dX9_place_0 : decode cX9_place 0 = .ok (.aload_n 0, 1) := by decide +kernel
theorem dX9_place_1 : decode cX9_place 1 = .ok (.iload_n 1, 1) := by decide +kernel
theorem dX9_place_2 : decode cX9_place 2 = .ok (.invokevirtual 141, 3) := by decide +kernel
theorem dX9_place_5 : decode cX9_place 5 = .ok (.ifCond .eq 7, 3) := by decide +kernel
theorem dX9_place_8 : decode cX9_place 8 = .ok (.iload_n 2, 1) := by decide +kernel
theorem dX9_place_9 : decode cX9_place 9 = .ok (.ifCond .ge 5, 3) := by decide +kernel
theorem dX9_place_12 : decode cX9_place 12 = .ok (.iconst (-1), 1) := by decide +kernel
theorem dX9_place_13 : decode cX9_place 13 = .ok (.ireturn, 1) := by decide +kernel
theorem dX9_place_14 : decode cX9_place 14 = .ok (.aload_n 0, 1) := by decide +kernel
theorem dX9_place_15 : decode cX9_place 15 = .ok (.getfield 58, 3) := by decide +kernel
theorem dX9_place_18 : decode cX9_place 18 = .ok (.iload_n 1, 1) := by decide +kernel
theorem dX9_place_19 : decode cX9_place 19 = .ok (.aload_n 0, 1) := by decide +kernel
theorem dX9_place_20 : decode cX9_place 20 = .ok (.getfield 29, 3) := by decide +kernel
theorem dX9_place_23 : decode cX9_place 23 = .ok (.iload_n 1, 1) := by decide +kernel
theorem dX9_place_24 : decode cX9_place 24 = .ok (.invokevirtual 153, 3) := by decide +kernel
theorem dX9_place_27 : decode cX9_place 27 = .ok (.iload_n 2, 1) := by decide +kernel
theorem dX9_place_28 : decode cX9_place 28 = .ok (.invokevirtual 178, 3) := by decide +kernel
theorem dX9_place_31 : decode cX9_place 31 = .ok (.ireturn, 1) := by decide +kernel
theorem dX9_pole_0 : decode cX9_pole 0 = .ok (.aload_n 0, 1) := by decide +kernel
theorem dX9_pole_1 : decode cX9_pole 1 = .ok (.iload_n 1, 1) := by decide +kernel
theorem dX9_pole_2 : decode cX9_pole 2 = .ok (.invokevirtual 141, 3) := by decide +kernel
theorem dX9_pole_5 : decode cX9_pole 5 = .ok (.ifCond .eq 13, 3) := by decide +kernel
theorem dX9_pole_8 : decode cX9_pole 8 = .ok (.iload_n 2, 1) := by decide +kernel
theorem dX9_pole_9 : decode cX9_pole 9 = .ok (.ifCond .lt 9, 3) := by decide +kernel
theorem dX9_pole_12 : decode cX9_pole 12 = .ok (.iload_n 2, 1) := by decide +kernel
theorem dX9_pole_13 : decode cX9_pole 13 = .ok (.bipush 30, 2) := by decide +kernel
theorem dX9_pole_15 : decode cX9_pole 15 = .ok (.if_icmp .le 5, 3) := by decide +kernel
theorem dX9_pole_18 : decode cX9_pole 18 = .ok (.iconst (-1), 1) := by decide +kernel
theorem dX9_pole_19 : decode cX9_pole 19 = .ok (.ireturn, 1) := by decide +kernel
theorem dX9_pole_20 : decode cX9_pole 20 = .ok (.aload_n 0, 1) := by decide +kernel
theorem dX9_pole_21 : decode cX9_pole 21 = .ok (.getfield 29, 3) := by decide +kernel
theorem dX9_pole_24 : decode cX9_pole 24 = .ok (.iload_n 1, 1) := by decide +kernel
theorem dX9_pole_25 : decode cX9_pole 25 = .ok (.invokevirtual 153, 3) := by decide +kernel
theorem dX9_pole_28 : decode cX9_pole 28 = .ok (.aload_n 0, 1) := by decide +kernel
theorem dX9_pole_29 : decode cX9_pole 29 = .ok (.getfield 19, 3) := by decide +kernel
theorem dX9_pole_32 : decode cX9_pole 32 = .ok (.iload_n 2, 1) := by decide +kernel
theorem dX9_pole_33 : decode cX9_pole 33 = .ok (.invokevirtual 182, 3) := by decide +kernel
theorem dX9_pole_36 : decode cX9_pole 36 = .ok (.iand, 1) := by decide +kernel
theorem dX9_pole_37 : decode cX9_pole 37 = .ok (.istore_n 3, 1) := by decide +kernel
theorem dX9_pole_38 : decode cX9_pole 38 = .ok (.aload_n 0, 1) := by decide +kernel
theorem dX9_pole_39 : decode cX9_pole 39 = .ok (.getfield 58, 3) := by decide +kernel
theorem dX9_pole_42 : decode cX9_pole 42 = .ok (.iload_n 1, 1) := by decide +kernel
theorem dX9_pole_43 : decode cX9_pole 43 = .ok (.iload_n 3, 1) := by decide +kernel
theorem dX9_pole_44 : decode cX9_pole 44 = .ok (.invokevirtual 185, 3) := by decide +kernel
theorem dX9_pole_47 : decode cX9_pole 47 = .ok (.invokestatic 175, 3) := by decide +kernel
theorem dX9_pole_50 : decode cX9_pole 50 = .ok (.ireturn, 1) := by decide +kernel
theorem dX9_judge_0 : decode cX9_judge 0 = .ok (.iconst 0, 1) := by decide +kernel
theorem dX9_judge_1 : decode cX9_judge 1 = .ok (.istore_n 2, 1) := by decide +kernel
theorem dX9_judge_2 : decode cX9_judge 2 = .ok (.iconst 0, 1) := by decide +kernel
theorem dX9_judge_3 : decode cX9_judge 3 = .ok (.istore_n 3, 1) := by decide +kernel
theorem dX9_judge_4 : decode cX9_judge 4 = .ok (.iconst 0, 1) := by decide +kernel
theorem dX9_judge_5 : decode cX9_judge 5 = .ok (.istore 4, 2) := by decide +kernel
theorem dX9_judge_7 : decode cX9_judge 7 = .ok (.iconst 0, 1) := by decide +kernel
theorem dX9_judge_8 : decode cX9_judge 8 = .ok (.istore 5, 2) := by decide +kernel
theorem dX9_judge_10 : decode cX9_judge 10 = .ok (.iload 5, 2) := by decide +kernel
theorem dX9_judge_12 : decode cX9_judge 12 = .ok (.aload_n 0, 1) := by decide +kernel
theorem dX9_judge_13 : decode cX9_judge 13 = .ok (.getfield 19, 3) := by decide +kernel
theorem dX9_judge_16 : decode cX9_judge 16 = .ok (.getfield 188, 3) := by decide +kernel
theorem dX9_judge_19 : decode cX9_judge 19 = .ok (.if_icmp .ge 60, 3) := by decide +kernel
theorem dX9_judge_22 : decode cX9_judge 22 = .ok (.aload_n 0, 1) := by decide +kernel
theorem dX9_judge_23 : decode cX9_judge 23 = .ok (.iload 5, 2) := by decide +kernel
theorem dX9_judge_25 : decode cX9_judge 25 = .ok (.invokevirtual 172, 3) := by decide +kernel
theorem dX9_judge_28 : decode cX9_judge 28 = .ok (.istore 6, 2) := by decide +kernel
theorem dX9_judge_30 : decode cX9_judge 30 = .ok (.iload_n 2, 1) := by decide +kernel
theorem dX9_judge_31 : decode cX9_judge 31 = .ok (.iload 6, 2) := by decide +kernel
theorem dX9_judge_33 : decode cX9_judge 33 = .ok (.aload_n 0, 1) := by decide +kernel
theorem dX9_judge_34 : decode cX9_judge 34 = .ok (.getfield 19, 3) := by decide +kernel
theorem dX9_judge_37 : decode cX9_judge 37 = .ok (.getfield 150, 3) := by decide +kernel
theorem dX9_judge_40 : decode cX9_judge 40 = .ok (.iload 5, 2) := by decide +kernel
theorem dX9_judge_42 : decode cX9_judge 42 = .ok (.iaload, 1) := by decide +kernel
theorem dX9_judge_43 : decode cX9_judge 43 = .ok (.imul, 1) := by decide +kernel
theorem dX9_judge_44 : decode cX9_judge 44 = .ok (.iadd, 1) := by decide +kernel
theorem dX9_judge_45 : decode cX9_judge 45 = .ok (.istore_n 2, 1) := by decide +kernel
theorem dX9_judge_46 : decode cX9_judge 46 = .ok (.iload_n 3, 1) := by decide +kernel
theorem dX9_judge_47 : decode cX9_judge 47 = .ok (.iload 6, 2) := by decide +kernel
theorem dX9_judge_49 : decode cX9_judge 49 = .ok (.invokestatic 191, 3) := by decide +kernel
theorem dX9_judge_52 : decode cX9_judge 52 = .ok (.istore_n 3, 1) := by decide +kernel
theorem dX9_judge_53 : decode cX9_judge 53 = .ok (.iload 4, 2) := by decide +kernel
theorem dX9_judge_55 : decode cX9_judge 55 = .ok (.iload 6, 2) := by decide +kernel
theorem dX9_judge_57 : decode cX9_judge 57 = .ok (.ldc 196, 2) := by decide +kernel
theorem dX9_judge_59 : decode cX9_judge 59 = .ok (.if_icmp .lt 10, 3) := by decide +kernel
theorem dX9_judge_62 : decode cX9_judge 62 = .ok (.iconst 1, 1) := by decide +kernel
theorem dX9_judge_63 : decode cX9_judge 63 = .ok (.iload 5, 2) := by decide +kernel
theorem dX9_judge_65 : decode cX9_judge 65 = .ok (.ishl, 1) := by decide +kernel
theorem dX9_judge_66 : decode cX9_judge 66 = .ok (.goto 4, 3) := by decide +kernel
theorem dX9_judge_69 : decode cX9_judge 69 = .ok (.iconst 0, 1) := by decide +kernel
theorem dX9_judge_70 : decode cX9_judge 70 = .ok (.ior, 1) := by decide +kernel
theorem dX9_judge_71 : decode cX9_judge 71 = .ok (.istore 4, 2) := by decide +kernel
theorem dX9_judge_73 : decode cX9_judge 73 = .ok (.iinc 5 1, 3) := by decide +kernel
theorem dX9_judge_76 : decode cX9_judge 76 = .ok (.goto (-66), 3) := by decide +kernel
theorem dX9_judge_79 : decode cX9_judge 79 = .ok (.iload_n 1, 1) := by decide +kernel
theorem dX9_judge_80 : decode cX9_judge 80 = .ok (.tableswitch 41 0 2 #[28, 33, 38], 28) := by decide +kernel
theorem dX9_judge_108 : decode cX9_judge 108 = .ok (.iload_n 2, 1) := by decide +kernel
theorem dX9_judge_109 : decode cX9_judge 109 = .ok (.invokestatic 175, 3) := by decide +kernel
theorem dX9_judge_112 : decode cX9_judge 112 = .ok (.ireturn, 1) := by decide +kernel
theorem dX9_judge_113 : decode cX9_judge 113 = .ok (.iload_n 3, 1) := by decide +kernel
theorem dX9_judge_114 : decode cX9_judge 114 = .ok (.invokestatic 175, 3) := by decide +kernel
theorem dX9_judge_117 : decode cX9_judge 117 = .ok (.ireturn, 1) := by decide +kernel
theorem dX9_judge_118 : decode cX9_judge 118 = .ok (.iload 4, 2) := by decide +kernel
theorem dX9_judge_120 : decode cX9_judge 120 = .ok (.ireturn, 1) := by decide +kernel
theorem dX9_judge_121 : decode cX9_judge 121 = .ok (.iconst (-1), 1) := by decide +kernel
theorem dX9_judge_122 : decode cX9_judge 122 = .ok (.ireturn, 1) := by decide +kernel
theorem dX9_one_0 : decode cX9_one 0 = .ok (.iload_n 1, 1) := by decide +kernel
theorem dX9_one_1 : decode cX9_one 1 = .ok (.ifCond .lt 21, 3) := by decide +kernel
theorem dX9_one_4 : decode cX9_one 4 = .ok (.iload_n 1, 1) := by decide +kernel
theorem dX9_one_5 : decode cX9_one 5 = .ok (.iconst 1, 1) := by decide +kernel
theorem dX9_one_6 : decode cX9_one 6 = .ok (.if_icmp .gt 16, 3) := by decide +kernel
theorem dX9_one_9 : decode cX9_one 9 = .ok (.iload_n 2, 1) := by decide +kernel
theorem dX9_one_10 : decode cX9_one 10 = .ok (.iconst (-1), 1) := by decide +kernel
theorem dX9_one_11 : decode cX9_one 11 = .ok (.if_icmp .eq 13, 3) := by decide +kernel
theorem dX9_one_14 : decode cX9_one 14 = .ok (.aload_n 0, 1) := by decide +kernel
theorem dX9_one_15 : decode cX9_one 15 = .ok (.iload_n 2, 1) := by decide +kernel
theorem dX9_one_16 : decode cX9_one 16 = .ok (.invokevirtual 141, 3) := by decide +kernel
theorem dX9_one_19 : decode cX9_one 19 = .ok (.ifCond .ne 5, 3) := by decide +kernel
theorem dX9_one_22 : decode cX9_one 22 = .ok (.iconst (-1), 1) := by decide +kernel
theorem dX9_one_23 : decode cX9_one 23 = .ok (.ireturn, 1) := by decide +kernel
theorem dX9_one_24 : decode cX9_one 24 = .ok (.aload_n 0, 1) := by decide +kernel
theorem dX9_one_25 : decode cX9_one 25 = .ok (.getfield 67, 3) := by decide +kernel
theorem dX9_one_28 : decode cX9_one 28 = .ok (.iload_n 1, 1) := by decide +kernel
theorem dX9_one_29 : decode cX9_one 29 = .ok (.ifCond .ne 7, 3) := by decide +kernel
theorem dX9_one_32 : decode cX9_one 32 = .ok (.iconst 0, 1) := by decide +kernel
theorem dX9_one_33 : decode cX9_one 33 = .ok (.goto 4, 3) := by decide +kernel
theorem dX9_one_36 : decode cX9_one 36 = .ok (.iconst 1, 1) := by decide +kernel
theorem dX9_one_37 : decode cX9_one 37 = .ok (.aload_n 0, 1) := by decide +kernel
theorem dX9_one_38 : decode cX9_one 38 = .ok (.getfield 29, 3) := by decide +kernel
theorem dX9_one_41 : decode cX9_one 41 = .ok (.getfield 135, 3) := by decide +kernel
theorem dX9_one_44 : decode cX9_one 44 = .ok (.invokevirtual 197, 3) := by decide +kernel
theorem dX9_one_47 : decode cX9_one 47 = .ok (.aload_n 0, 1) := by decide +kernel
theorem dX9_one_48 : decode cX9_one 48 = .ok (.iload_n 2, 1) := by decide +kernel
theorem dX9_one_49 : decode cX9_one 49 = .ok (.invokevirtual 201, 3) := by decide +kernel
theorem dX9_one_52 : decode cX9_one 52 = .ok (.ireturn, 1) := by decide +kernel
theorem dX9_all_0 : decode cX9_all 0 = .ok (.iload_n 1, 1) := by decide +kernel
theorem dX9_all_1 : decode cX9_all 1 = .ok (.iconst (-1), 1) := by decide +kernel
theorem dX9_all_2 : decode cX9_all 2 = .ok (.if_icmp .eq 13, 3) := by decide +kernel
theorem dX9_all_5 : decode cX9_all 5 = .ok (.aload_n 0, 1) := by decide +kernel
theorem dX9_all_6 : decode cX9_all 6 = .ok (.iload_n 1, 1) := by decide +kernel
theorem dX9_all_7 : decode cX9_all 7 = .ok (.invokevirtual 118, 3) := by decide +kernel
theorem dX9_all_10 : decode cX9_all 10 = .ok (.ifCond .ne 5, 3) := by decide +kernel
theorem dX9_all_13 : decode cX9_all 13 = .ok (.iconst (-1), 1) := by decide +kernel
theorem dX9_all_14 : decode cX9_all 14 = .ok (.ireturn, 1) := by decide +kernel
theorem dX9_all_15 : decode cX9_all 15 = .ok (.aload_n 0, 1) := by decide +kernel
theorem dX9_all_16 : decode cX9_all 16 = .ok (.getfield 67, 3) := by decide +kernel
theorem dX9_all_19 : decode cX9_all 19 = .ok (.iconst 2, 1) := by decide +kernel
theorem dX9_all_20 : decode cX9_all 20 = .ok (.aload_n 0, 1) := by decide +kernel
theorem dX9_all_21 : decode cX9_all 21 = .ok (.getfield 29, 3) := by decide +kernel
theorem dX9_all_24 : decode cX9_all 24 = .ok (.getfield 135, 3) := by decide +kernel
theorem dX9_all_27 : decode cX9_all 27 = .ok (.invokevirtual 197, 3) := by decide +kernel
theorem dX9_all_30 : decode cX9_all 30 = .ok (.aload_n 0, 1) := by decide +kernel
theorem dX9_all_31 : decode cX9_all 31 = .ok (.iload_n 1, 1) := by decide +kernel
theorem dX9_all_32 : decode cX9_all 32 = .ok (.invokevirtual 201, 3) := by decide +kernel
theorem dX9_all_35 : decode cX9_all 35 = .ok (.ireturn, 1) := by decide +kernel
theorem dX9_change_0 : decode cX9_change 0 = .ok (.aload_n 0, 1) := by decide +kernel
theorem dX9_change_1 : decode cX9_change 1 = .ok (.getfield 74, 3) := by decide +kernel
theorem dX9_change_4 : decode cX9_change 4 = .ok (.aload_n 0, 1) := by decide +kernel
theorem dX9_change_5 : decode cX9_change 5 = .ok (.getfield 29, 3) := by decide +kernel
theorem dX9_change_8 : decode cX9_change 8 = .ok (.getfield 132, 3) := by decide +kernel
theorem dX9_change_11 : decode cX9_change 11 = .ok (.invokevirtual 204, 3) := by decide +kernel
theorem dX9_change_14 : decode cX9_change 14 = .ok (.ireturn, 1) := by decide +kernel
theorem dX9_rest_0 : decode cX9_rest 0 = .ok (.aload_n 0, 1) := by decide +kernel
theorem dX9_rest_1 : decode cX9_rest 1 = .ok (.getfield 74, 3) := by decide +kernel
theorem dX9_rest_4 : decode cX9_rest 4 = .ok (.aload_n 0, 1) := by decide +kernel
theorem dX9_rest_5 : decode cX9_rest 5 = .ok (.getfield 29, 3) := by decide +kernel
theorem dX9_rest_8 : decode cX9_rest 8 = .ok (.getfield 132, 3) := by decide +kernel
theorem dX9_rest_11 : decode cX9_rest 11 = .ok (.invokevirtual 208, 3) := by decide +kernel
theorem dX9_rest_14 : decode cX9_rest 14 = .ok (.ireturn, 1) := by decide +kernel
theorem dX9_match_0 : decode cX9_match 0 = .ok (.aload_n 0, 1) := by decide +kernel
theorem dX9_match_1 : decode cX9_match 1 = .ok (.iload_n 1, 1) := by decide +kernel
theorem dX9_match_2 : decode cX9_match 2 = .ok (.invokevirtual 141, 3) := by decide +kernel
theorem dX9_match_5 : decode cX9_match 5 = .ok (.ifCond .eq 16, 3) := by decide +kernel
theorem dX9_match_8 : decode cX9_match 8 = .ok (.aload_n 0, 1) := by decide +kernel
theorem dX9_match_9 : decode cX9_match 9 = .ok (.iload_n 2, 1) := by decide +kernel
theorem dX9_match_10 : decode cX9_match 10 = .ok (.invokevirtual 141, 3) := by decide +kernel
theorem dX9_match_13 : decode cX9_match 13 = .ok (.ifCond .eq 8, 3) := by decide +kernel
theorem dX9_match_16 : decode cX9_match 16 = .ok (.iload_n 1, 1) := by decide +kernel
theorem dX9_match_17 : decode cX9_match 17 = .ok (.iload_n 2, 1) := by decide +kernel
theorem dX9_match_18 : decode cX9_match 18 = .ok (.if_icmp .ne 5, 3) := by decide +kernel
theorem dX9_match_21 : decode cX9_match 21 = .ok (.iconst (-1), 1) := by decide +kernel
theorem dX9_match_22 : decode cX9_match 22 = .ok (.ireturn, 1) := by decide +kernel
theorem dX9_match_23 : decode cX9_match 23 = .ok (.aload_n 0, 1) := by decide +kernel
theorem dX9_match_24 : decode cX9_match 24 = .ok (.getfield 29, 3) := by decide +kernel
theorem dX9_match_27 : decode cX9_match 27 = .ok (.iload_n 1, 1) := by decide +kernel
theorem dX9_match_28 : decode cX9_match 28 = .ok (.invokevirtual 153, 3) := by decide +kernel
theorem dX9_match_31 : decode cX9_match 31 = .ok (.istore_n 3, 1) := by decide +kernel
theorem dX9_match_32 : decode cX9_match 32 = .ok (.aload_n 0, 1) := by decide +kernel
theorem dX9_match_33 : decode cX9_match 33 = .ok (.getfield 29, 3) := by decide +kernel
theorem dX9_match_36 : decode cX9_match 36 = .ok (.iload_n 2, 1) := by decide +kernel
theorem dX9_match_37 : decode cX9_match 37 = .ok (.invokevirtual 153, 3) := by decide +kernel
theorem dX9_match_40 : decode cX9_match 40 = .ok (.istore 4, 2) := by decide +kernel
theorem dX9_match_42 : decode cX9_match 42 = .ok (.aload_n 0, 1) := by decide +kernel
theorem dX9_match_43 : decode cX9_match 43 = .ok (.getfield 58, 3) := by decide +kernel
theorem dX9_match_46 : decode cX9_match 46 = .ok (.iload_n 1, 1) := by decide +kernel
theorem dX9_match_47 : decode cX9_match 47 = .ok (.iload_n 3, 1) := by decide +kernel
theorem dX9_match_48 : decode cX9_match 48 = .ok (.iload 4, 2) := by decide +kernel
theorem dX9_match_50 : decode cX9_match 50 = .ok (.ior, 1) := by decide +kernel
theorem dX9_match_51 : decode cX9_match 51 = .ok (.invokevirtual 211, 3) := by decide +kernel
theorem dX9_match_54 : decode cX9_match 54 = .ok (.aload_n 0, 1) := by decide +kernel
theorem dX9_match_55 : decode cX9_match 55 = .ok (.getfield 58, 3) := by decide +kernel
theorem dX9_match_58 : decode cX9_match 58 = .ok (.iload_n 2, 1) := by decide +kernel
theorem dX9_match_59 : decode cX9_match 59 = .ok (.iload_n 3, 1) := by decide +kernel
theorem dX9_match_60 : decode cX9_match 60 = .ok (.iload 4, 2) := by decide +kernel
theorem dX9_match_62 : decode cX9_match 62 = .ok (.ior, 1) := by decide +kernel
theorem dX9_match_63 : decode cX9_match 63 = .ok (.invokevirtual 211, 3) := by decide +kernel
theorem dX9_match_66 : decode cX9_match 66 = .ok (.iadd, 1) := by decide +kernel
theorem dX9_match_67 : decode cX9_match 67 = .ok (.istore 5, 2) := by decide +kernel
theorem dX9_match_69 : decode cX9_match 69 = .ok (.iload 5, 2) := by decide +kernel
theorem dX9_match_71 : decode cX9_match 71 = .ok (.ldc 196, 2) := by decide +kernel
theorem dX9_match_73 : decode cX9_match 73 = .ok (.if_icmp .lt 6, 3) := by decide +kernel
theorem dX9_match_76 : decode cX9_match 76 = .ok (.bipush (-9), 2) := by decide +kernel
theorem dX9_match_78 : decode cX9_match 78 = .ok (.ireturn, 1) := by decide +kernel
theorem dX9_match_79 : decode cX9_match 79 = .ok (.iload 5, 2) := by decide +kernel
theorem dX9_match_81 : decode cX9_match 81 = .ok (.aload_n 0, 1) := by decide +kernel
theorem dX9_match_82 : decode cX9_match 82 = .ok (.getfield 58, 3) := by decide +kernel
theorem dX9_match_85 : decode cX9_match 85 = .ok (.iload_n 1, 1) := by decide +kernel
theorem dX9_match_86 : decode cX9_match 86 = .ok (.iload_n 3, 1) := by decide +kernel
theorem dX9_match_87 : decode cX9_match 87 = .ok (.invokevirtual 211, 3) := by decide +kernel
theorem dX9_match_90 : decode cX9_match 90 = .ok (.isub, 1) := by decide +kernel
theorem dX9_match_91 : decode cX9_match 91 = .ok (.aload_n 0, 1) := by decide +kernel
theorem dX9_match_92 : decode cX9_match 92 = .ok (.getfield 58, 3) := by decide +kernel
theorem dX9_match_95 : decode cX9_match 95 = .ok (.iload_n 2, 1) := by decide +kernel
theorem dX9_match_96 : decode cX9_match 96 = .ok (.iload 4, 2) := by decide +kernel
theorem dX9_match_98 : decode cX9_match 98 = .ok (.invokevirtual 211, 3) := by decide +kernel
theorem dX9_match_101 : decode cX9_match 101 = .ok (.isub, 1) := by decide +kernel
theorem dX9_match_102 : decode cX9_match 102 = .ok (.ireturn, 1) := by decide +kernel
theorem dX9_always_0 : decode cX9_always 0 = .ok (.aload_n 0, 1) := by decide +kernel
theorem dX9_always_1 : decode cX9_always 1 = .ok (.getfield 29, 3) := by decide +kernel
theorem dX9_always_4 : decode cX9_always 4 = .ok (.getfield 135, 3) := by decide +kernel
theorem dX9_always_7 : decode cX9_always 7 = .ok (.istore_n 1, 1) := by decide +kernel
theorem dX9_always_8 : decode cX9_always 8 = .ok (.iconst 0, 1) := by decide +kernel
theorem dX9_always_9 : decode cX9_always 9 = .ok (.istore_n 2, 1) := by decide +kernel
theorem dX9_always_10 : decode cX9_always 10 = .ok (.iload_n 2, 1) := by decide +kernel
theorem dX9_always_11 : decode cX9_always 11 = .ok (.aload_n 0, 1) := by decide +kernel
theorem dX9_always_12 : decode cX9_always 12 = .ok (.getfield 19, 3) := by decide +kernel
theorem dX9_always_15 : decode cX9_always 15 = .ok (.getfield 188, 3) := by decide +kernel
theorem dX9_always_18 : decode cX9_always 18 = .ok (.if_icmp .ge 37, 3) := by decide +kernel
theorem dX9_always_21 : decode cX9_always 21 = .ok (.aload_n 0, 1) := by decide +kernel
theorem dX9_always_22 : decode cX9_always 22 = .ok (.getfield 58, 3) := by decide +kernel
theorem dX9_always_25 : decode cX9_always 25 = .ok (.iload_n 2, 1) := by decide +kernel
theorem dX9_always_26 : decode cX9_always 26 = .ok (.iconst 0, 1) := by decide +kernel
theorem dX9_always_27 : decode cX9_always 27 = .ok (.invokevirtual 185, 3) := by decide +kernel
theorem dX9_always_30 : decode cX9_always 30 = .ok (.ldc 196, 2) := by decide +kernel
theorem dX9_always_32 : decode cX9_always 32 = .ok (.if_icmp .lt 6, 3) := by decide +kernel
theorem dX9_always_35 : decode cX9_always 35 = .ok (.bipush (-9), 2) := by decide +kernel
theorem dX9_always_37 : decode cX9_always 37 = .ok (.ireturn, 1) := by decide +kernel
theorem dX9_always_38 : decode cX9_always 38 = .ok (.iload_n 1, 1) := by decide +kernel
theorem dX9_always_39 : decode cX9_always 39 = .ok (.aload_n 0, 1) := by decide +kernel
theorem dX9_always_40 : decode cX9_always 40 = .ok (.getfield 58, 3) := by decide +kernel
theorem dX9_always_43 : decode cX9_always 43 = .ok (.iload_n 2, 1) := by decide +kernel
theorem dX9_always_44 : decode cX9_always 44 = .ok (.invokevirtual 214, 3) := by decide +kernel
theorem dX9_always_47 : decode cX9_always 47 = .ok (.ior, 1) := by decide +kernel
theorem dX9_always_48 : decode cX9_always 48 = .ok (.istore_n 1, 1) := by decide +kernel
theorem dX9_always_49 : decode cX9_always 49 = .ok (.iinc 2 1, 3) := by decide +kernel
theorem dX9_always_52 : decode cX9_always 52 = .ok (.goto (-42), 3) := by decide +kernel
theorem dX9_always_55 : decode cX9_always 55 = .ok (.iload_n 1, 1) := by decide +kernel
theorem dX9_always_56 : decode cX9_always 56 = .ok (.ireturn, 1) := by decide +kernel
theorem dX9_shut_0 : decode cX9_shut 0 = .ok (.aload_n 0, 1) := by decide +kernel
theorem dX9_shut_1 : decode cX9_shut 1 = .ok (.iload_n 1, 1) := by decide +kernel
theorem dX9_shut_2 : decode cX9_shut 2 = .ok (.invokevirtual 141, 3) := by decide +kernel
theorem dX9_shut_5 : decode cX9_shut 5 = .ok (.ifCond .eq 12, 3) := by decide +kernel
theorem dX9_shut_8 : decode cX9_shut 8 = .ok (.iload_n 2, 1) := by decide +kernel
theorem dX9_shut_9 : decode cX9_shut 9 = .ok (.ifCond .lt 8, 3) := by decide +kernel
theorem dX9_shut_12 : decode cX9_shut 12 = .ok (.iload_n 2, 1) := by decide +kernel
theorem dX9_shut_13 : decode cX9_shut 13 = .ok (.iconst 1, 1) := by decide +kernel
theorem dX9_shut_14 : decode cX9_shut 14 = .ok (.if_icmp .le 7, 3) := by decide +kernel
theorem dX9_shut_17 : decode cX9_shut 17 = .ok (.ldc2_w 217, 3) := by decide +kernel
theorem dX9_shut_20 : decode cX9_shut 20 = .ok (.lreturn, 1) := by decide +kernel
theorem dX9_shut_21 : decode cX9_shut 21 = .ok (.aload_n 0, 1) := by decide +kernel
theorem dX9_shut_22 : decode cX9_shut 22 = .ok (.getfield 81, 3) := by decide +kernel
theorem dX9_shut_25 : decode cX9_shut 25 = .ok (.iload_n 1, 1) := by decide +kernel
theorem dX9_shut_26 : decode cX9_shut 26 = .ok (.aload_n 0, 1) := by decide +kernel
theorem dX9_shut_27 : decode cX9_shut 27 = .ok (.getfield 29, 3) := by decide +kernel
theorem dX9_shut_30 : decode cX9_shut 30 = .ok (.invokevirtual 219, 3) := by decide +kernel
theorem dX9_shut_33 : decode cX9_shut 33 = .ok (.iload_n 2, 1) := by decide +kernel
theorem dX9_shut_34 : decode cX9_shut 34 = .ok (.ifCond .ne 13, 3) := by decide +kernel
theorem dX9_shut_37 : decode cX9_shut 37 = .ok (.aload_n 0, 1) := by decide +kernel
theorem dX9_shut_38 : decode cX9_shut 38 = .ok (.getfield 81, 3) := by decide +kernel
theorem dX9_shut_41 : decode cX9_shut 41 = .ok (.getfield 223, 3) := by decide +kernel
theorem dX9_shut_44 : decode cX9_shut 44 = .ok (.goto 10, 3) := by decide +kernel
theorem dX9_shut_47 : decode cX9_shut 47 = .ok (.aload_n 0, 1) := by decide +kernel
theorem dX9_shut_48 : decode cX9_shut 48 = .ok (.getfield 81, 3) := by decide +kernel
theorem dX9_shut_51 : decode cX9_shut 51 = .ok (.getfield 226, 3) := by decide +kernel
theorem dX9_shut_54 : decode cX9_shut 54 = .ok (.lreturn, 1) := by decide +kernel
theorem dX9_saw_0 : decode cX9_saw 0 = .ok (.aload_n 0, 1) := by decide +kernel
theorem dX9_saw_1 : decode cX9_saw 1 = .ok (.iload_n 1, 1) := by decide +kernel
theorem dX9_saw_2 : decode cX9_saw 2 = .ok (.invokevirtual 141, 3) := by decide +kernel
theorem dX9_saw_5 : decode cX9_saw 5 = .ok (.ifCond .eq 20, 3) := by decide +kernel
theorem dX9_saw_8 : decode cX9_saw 8 = .ok (.iload_n 2, 1) := by decide +kernel
theorem dX9_saw_9 : decode cX9_saw 9 = .ok (.ifCond .lt 16, 3) := by decide +kernel
theorem dX9_saw_12 : decode cX9_saw 12 = .ok (.iload_n 2, 1) := by decide +kernel
theorem dX9_saw_13 : decode cX9_saw 13 = .ok (.iconst 1, 1) := by decide +kernel
theorem dX9_saw_14 : decode cX9_saw 14 = .ok (.aload_n 0, 1) := by decide +kernel
theorem dX9_saw_15 : decode cX9_saw 15 = .ok (.getfield 19, 3) := by decide +kernel
theorem dX9_saw_18 : decode cX9_saw 18 = .ok (.getfield 229, 3) := by decide +kernel
theorem dX9_saw_21 : decode cX9_saw 21 = .ok (.ishl, 1) := by decide +kernel
theorem dX9_saw_22 : decode cX9_saw 22 = .ok (.if_icmp .lt 5, 3) := by decide +kernel
theorem dX9_saw_25 : decode cX9_saw 25 = .ok (.iconst (-1), 1) := by decide +kernel
theorem dX9_saw_26 : decode cX9_saw 26 = .ok (.ireturn, 1) := by decide +kernel
theorem dX9_saw_27 : decode cX9_saw 27 = .ok (.aload_n 0, 1) := by decide +kernel
theorem dX9_saw_28 : decode cX9_saw 28 = .ok (.getfield 29, 3) := by decide +kernel
theorem dX9_saw_31 : decode cX9_saw 31 = .ok (.getfield 232, 3) := by decide +kernel
theorem dX9_saw_34 : decode cX9_saw 34 = .ok (.bipush 10, 2) := by decide +kernel
theorem dX9_saw_36 : decode cX9_saw 36 = .ok (.if_icmp .lt 6, 3) := by decide +kernel
theorem dX9_saw_39 : decode cX9_saw 39 = .ok (.bipush (-3), 2) := by decide +kernel
theorem dX9_saw_41 : decode cX9_saw 41 = .ok (.ireturn, 1) := by decide +kernel
theorem dX9_saw_42 : decode cX9_saw 42 = .ok (.aload_n 0, 1) := by decide +kernel
theorem dX9_saw_43 : decode cX9_saw 43 = .ok (.getfield 29, 3) := by decide +kernel
theorem dX9_saw_46 : decode cX9_saw 46 = .ok (.getfield 235, 3) := by decide +kernel
theorem dX9_saw_49 : decode cX9_saw 49 = .ok (.iload_n 1, 1) := by decide +kernel
theorem dX9_saw_50 : decode cX9_saw 50 = .ok (.dup2, 1) := by decide +kernel
theorem dX9_saw_51 : decode cX9_saw 51 = .ok (.iaload, 1) := by decide +kernel
theorem dX9_saw_52 : decode cX9_saw 52 = .ok (.iload_n 2, 1) := by decide +kernel
theorem dX9_saw_53 : decode cX9_saw 53 = .ok (.ior, 1) := by decide +kernel
theorem dX9_saw_54 : decode cX9_saw 54 = .ok (.iastore, 1) := by decide +kernel
theorem dX9_saw_55 : decode cX9_saw 55 = .ok (.aload_n 0, 1) := by decide +kernel
theorem dX9_saw_56 : decode cX9_saw 56 = .ok (.getfield 29, 3) := by decide +kernel
theorem dX9_saw_59 : decode cX9_saw 59 = .ok (.dup, 1) := by decide +kernel
theorem dX9_saw_60 : decode cX9_saw 60 = .ok (.getfield 232, 3) := by decide +kernel
theorem dX9_saw_63 : decode cX9_saw 63 = .ok (.iconst 1, 1) := by decide +kernel
theorem dX9_saw_64 : decode cX9_saw 64 = .ok (.iadd, 1) := by decide +kernel
theorem dX9_saw_65 : decode cX9_saw 65 = .ok (.putfield 232, 3) := by decide +kernel
theorem dX9_saw_68 : decode cX9_saw 68 = .ok (.aload_n 0, 1) := by decide +kernel
theorem dX9_saw_69 : decode cX9_saw 69 = .ok (.getfield 29, 3) := by decide +kernel
theorem dX9_saw_72 : decode cX9_saw 72 = .ok (.getfield 232, 3) := by decide +kernel
theorem dX9_saw_75 : decode cX9_saw 75 = .ok (.ireturn, 1) := by decide +kernel
theorem dX9_forget_0 : decode cX9_forget 0 = .ok (.aload_n 0, 1) := by decide +kernel
theorem dX9_forget_1 : decode cX9_forget 1 = .ok (.getfield 29, 3) := by decide +kernel
theorem dX9_forget_4 : decode cX9_forget 4 = .ok (.getfield 232, 3) := by decide +kernel
theorem dX9_forget_7 : decode cX9_forget 7 = .ok (.istore_n 1, 1) := by decide +kernel
theorem dX9_forget_8 : decode cX9_forget 8 = .ok (.aload_n 0, 1) := by decide +kernel
theorem dX9_forget_9 : decode cX9_forget 9 = .ok (.getfield 29, 3) := by decide +kernel
theorem dX9_forget_12 : decode cX9_forget 12 = .ok (.invokevirtual 238, 3) := by decide +kernel
theorem dX9_forget_15 : decode cX9_forget 15 = .ok (.iload_n 1, 1) := by decide +kernel
theorem dX9_forget_16 : decode cX9_forget 16 = .ok (.ireturn, 1) := by decide +kernel
theorem dX9_fits_0 : decode cX9_fits 0 = .ok (.aload_n 0, 1) := by decide +kernel
theorem dX9_fits_1 : decode cX9_fits 1 = .ok (.getfield 88, 3) := by decide +kernel
theorem dX9_fits_4 : decode cX9_fits 4 = .ok (.aload_n 0, 1) := by decide +kernel
theorem dX9_fits_5 : decode cX9_fits 5 = .ok (.getfield 29, 3) := by decide +kernel
theorem dX9_fits_8 : decode cX9_fits 8 = .ok (.iconst (-1), 1) := by decide +kernel
theorem dX9_fits_9 : decode cX9_fits 9 = .ok (.iconst (-1), 1) := by decide +kernel
theorem dX9_fits_10 : decode cX9_fits 10 = .ok (.invokevirtual 241, 3) := by decide +kernel
theorem dX9_fits_13 : decode cX9_fits 13 = .ok (.ireturn, 1) := by decide +kernel
theorem dX9_who_0 : decode cX9_who 0 = .ok (.aload_n 0, 1) := by decide +kernel
theorem dX9_who_1 : decode cX9_who 1 = .ok (.iload_n 1, 1) := by decide +kernel
theorem dX9_who_2 : decode cX9_who 2 = .ok (.invokevirtual 118, 3) := by decide +kernel
theorem dX9_who_5 : decode cX9_who 5 = .ok (.ifCond .ne 5, 3) := by decide +kernel
theorem dX9_who_8 : decode cX9_who 8 = .ok (.iconst (-1), 1) := by decide +kernel
theorem dX9_who_9 : decode cX9_who 9 = .ok (.ireturn, 1) := by decide +kernel
theorem dX9_who_10 : decode cX9_who 10 = .ok (.aload_n 0, 1) := by decide +kernel
theorem dX9_who_11 : decode cX9_who 11 = .ok (.getfield 29, 3) := by decide +kernel
theorem dX9_who_14 : decode cX9_who 14 = .ok (.iload_n 1, 1) := by decide +kernel
theorem dX9_who_15 : decode cX9_who 15 = .ok (.invokevirtual 162, 3) := by decide +kernel
theorem dX9_who_18 : decode cX9_who 18 = .ok (.ifCond .eq 6, 3) := by decide +kernel
theorem dX9_who_21 : decode cX9_who 21 = .ok (.bipush (-2), 2) := by decide +kernel
theorem dX9_who_23 : decode cX9_who 23 = .ok (.ireturn, 1) := by decide +kernel
theorem dX9_who_24 : decode cX9_who 24 = .ok (.aload_n 0, 1) := by decide +kernel
theorem dX9_who_25 : decode cX9_who 25 = .ok (.getfield 88, 3) := by decide +kernel
theorem dX9_who_28 : decode cX9_who 28 = .ok (.aload_n 0, 1) := by decide +kernel
theorem dX9_who_29 : decode cX9_who 29 = .ok (.getfield 29, 3) := by decide +kernel
theorem dX9_who_32 : decode cX9_who 32 = .ok (.iload_n 1, 1) := by decide +kernel
theorem dX9_who_33 : decode cX9_who 33 = .ok (.invokevirtual 245, 3) := by decide +kernel
theorem dX9_who_36 : decode cX9_who 36 = .ok (.ireturn, 1) := by decide +kernel
theorem dX9_mark_0 : decode cX9_mark 0 = .ok (.aload_n 0, 1) := by decide +kernel
theorem dX9_mark_1 : decode cX9_mark 1 = .ok (.iload_n 2, 1) := by decide +kernel
theorem dX9_mark_2 : decode cX9_mark 2 = .ok (.invokevirtual 141, 3) := by decide +kernel
theorem dX9_mark_5 : decode cX9_mark 5 = .ok (.ifCond .ne 6, 3) := by decide +kernel
theorem dX9_mark_8 : decode cX9_mark 8 = .ok (.ldc 249, 2) := by decide +kernel
theorem dX9_mark_10 : decode cX9_mark 10 = .ok (.ireturn, 1) := by decide +kernel
theorem dX9_mark_11 : decode cX9_mark 11 = .ok (.iload_n 1, 1) := by decide +kernel
theorem dX9_mark_12 : decode cX9_mark 12 = .ok (.tableswitch 76 0 5 #[40, 46, 52, 58, 64, 70], 40) := by decide +kernel
theorem dX9_mark_52 : decode cX9_mark 52 = .ok (.aload_n 0, 1) := by decide +kernel
theorem dX9_mark_53 : decode cX9_mark 53 = .ok (.iload_n 2, 1) := by decide +kernel
theorem dX9_mark_54 : decode cX9_mark 54 = .ok (.invokevirtual 250, 3) := by decide +kernel
theorem dX9_mark_57 : decode cX9_mark 57 = .ok (.ireturn, 1) := by decide +kernel
theorem dX9_mark_58 : decode cX9_mark 58 = .ok (.aload_n 0, 1) := by decide +kernel
theorem dX9_mark_59 : decode cX9_mark 59 = .ok (.iload_n 2, 1) := by decide +kernel
theorem dX9_mark_60 : decode cX9_mark 60 = .ok (.invokevirtual 253, 3) := by decide +kernel
theorem dX9_mark_63 : decode cX9_mark 63 = .ok (.ireturn, 1) := by decide +kernel
theorem dX9_mark_64 : decode cX9_mark 64 = .ok (.aload_n 0, 1) := by decide +kernel
theorem dX9_mark_65 : decode cX9_mark 65 = .ok (.iload_n 2, 1) := by decide +kernel
theorem dX9_mark_66 : decode cX9_mark 66 = .ok (.invokevirtual 256, 3) := by decide +kernel
theorem dX9_mark_69 : decode cX9_mark 69 = .ok (.ireturn, 1) := by decide +kernel
theorem dX9_mark_70 : decode cX9_mark 70 = .ok (.aload_n 0, 1) := by decide +kernel
theorem dX9_mark_71 : decode cX9_mark 71 = .ok (.iload_n 2, 1) := by decide +kernel
theorem dX9_mark_72 : decode cX9_mark 72 = .ok (.invokevirtual 259, 3) := by decide +kernel
theorem dX9_mark_75 : decode cX9_mark 75 = .ok (.ireturn, 1) := by decide +kernel
theorem dX9_mark_76 : decode cX9_mark 76 = .ok (.aload_n 0, 1) := by decide +kernel
theorem dX9_mark_77 : decode cX9_mark 77 = .ok (.iload_n 2, 1) := by decide +kernel
theorem dX9_mark_78 : decode cX9_mark 78 = .ok (.invokevirtual 262, 3) := by decide +kernel
theorem dX9_mark_81 : decode cX9_mark 81 = .ok (.ireturn, 1) := by decide +kernel
theorem dX9_mark_82 : decode cX9_mark 82 = .ok (.aload_n 0, 1) := by decide +kernel
theorem dX9_mark_83 : decode cX9_mark 83 = .ok (.iload_n 2, 1) := by decide +kernel
theorem dX9_mark_84 : decode cX9_mark 84 = .ok (.invokevirtual 265, 3) := by decide +kernel
theorem dX9_mark_87 : decode cX9_mark 87 = .ok (.ireturn, 1) := by decide +kernel
theorem dX9_mark_88 : decode cX9_mark 88 = .ok (.ldc 249, 2) := by decide +kernel
theorem dX9_mark_90 : decode cX9_mark 90 = .ok (.ireturn, 1) := by decide +kernel
theorem dX9_keep_0 : decode cX9_keep 0 = .ok (.iload_n 1, 1) := by decide +kernel
theorem dX9_keep_1 : decode cX9_keep 1 = .ok (.ifCond .lt 8, 3) := by decide +kernel
theorem dX9_keep_4 : decode cX9_keep 4 = .ok (.iload_n 1, 1) := by decide +kernel
theorem dX9_keep_5 : decode cX9_keep 5 = .ok (.iconst 2, 1) := by decide +kernel
theorem dX9_keep_6 : decode cX9_keep 6 = .ok (.if_icmp .lt 5, 3) := by decide +kernel
theorem dX9_keep_9 : decode cX9_keep 9 = .ok (.iconst (-1), 1) := by decide +kernel
theorem dX9_keep_10 : decode cX9_keep 10 = .ok (.ireturn, 1) := by decide +kernel
theorem dX9_keep_11 : decode cX9_keep 11 = .ok (.aload_n 0, 1) := by decide +kernel
theorem dX9_keep_12 : decode cX9_keep 12 = .ok (.getfield 45, 3) := by decide +kernel
theorem dX9_keep_15 : decode cX9_keep 15 = .ok (.iload_n 1, 1) := by decide +kernel
theorem dX9_keep_16 : decode cX9_keep 16 = .ok (.aaload, 1) := by decide +kernel
theorem dX9_keep_17 : decode cX9_keep 17 = .ok (.aload_n 0, 1) := by decide +kernel
theorem dX9_keep_18 : decode cX9_keep 18 = .ok (.getfield 29, 3) := by decide +kernel
theorem dX9_keep_21 : decode cX9_keep 21 = .ok (.invokevirtual 111, 3) := by decide +kernel
theorem dX9_keep_24 : decode cX9_keep 24 = .ok (.aload_n 0, 1) := by decide +kernel
theorem dX9_keep_25 : decode cX9_keep 25 = .ok (.getfield 49, 3) := by decide +kernel
theorem dX9_keep_28 : decode cX9_keep 28 = .ok (.iload_n 1, 1) := by decide +kernel
theorem dX9_keep_29 : decode cX9_keep 29 = .ok (.iconst 1, 1) := by decide +kernel
theorem dX9_keep_30 : decode cX9_keep 30 = .ok (.bastore, 1) := by decide +kernel
theorem dX9_keep_31 : decode cX9_keep 31 = .ok (.aload_n 0, 1) := by decide +kernel
theorem dX9_keep_32 : decode cX9_keep 32 = .ok (.getfield 29, 3) := by decide +kernel
theorem dX9_keep_35 : decode cX9_keep 35 = .ok (.invokevirtual 268, 3) := by decide +kernel
theorem dX9_keep_38 : decode cX9_keep 38 = .ok (.ireturn, 1) := by decide +kernel
theorem dX9_back_0 : decode cX9_back 0 = .ok (.iload_n 1, 1) := by decide +kernel
theorem dX9_back_1 : decode cX9_back 1 = .ok (.ifCond .lt 8, 3) := by decide +kernel
theorem dX9_back_4 : decode cX9_back 4 = .ok (.iload_n 1, 1) := by decide +kernel
theorem dX9_back_5 : decode cX9_back 5 = .ok (.iconst 2, 1) := by decide +kernel
theorem dX9_back_6 : decode cX9_back 6 = .ok (.if_icmp .lt 5, 3) := by decide +kernel
theorem dX9_back_9 : decode cX9_back 9 = .ok (.iconst (-1), 1) := by decide +kernel
theorem dX9_back_10 : decode cX9_back 10 = .ok (.ireturn, 1) := by decide +kernel
theorem dX9_back_11 : decode cX9_back 11 = .ok (.aload_n 0, 1) := by decide +kernel
theorem dX9_back_12 : decode cX9_back 12 = .ok (.getfield 49, 3) := by decide +kernel
theorem dX9_back_15 : decode cX9_back 15 = .ok (.iload_n 1, 1) := by decide +kernel
theorem dX9_back_16 : decode cX9_back 16 = .ok (.baload, 1) := by decide +kernel
theorem dX9_back_17 : decode cX9_back 17 = .ok (.ifCond .ne 6, 3) := by decide +kernel
theorem dX9_back_20 : decode cX9_back 20 = .ok (.bipush (-2), 2) := by decide +kernel
theorem dX9_back_22 : decode cX9_back 22 = .ok (.ireturn, 1) := by decide +kernel
theorem dX9_back_23 : decode cX9_back 23 = .ok (.aload_n 0, 1) := by decide +kernel
theorem dX9_back_24 : decode cX9_back 24 = .ok (.getfield 29, 3) := by decide +kernel
theorem dX9_back_27 : decode cX9_back 27 = .ok (.aload_n 0, 1) := by decide +kernel
theorem dX9_back_28 : decode cX9_back 28 = .ok (.getfield 45, 3) := by decide +kernel
theorem dX9_back_31 : decode cX9_back 31 = .ok (.iload_n 1, 1) := by decide +kernel
theorem dX9_back_32 : decode cX9_back 32 = .ok (.aaload, 1) := by decide +kernel
theorem dX9_back_33 : decode cX9_back 33 = .ok (.invokevirtual 111, 3) := by decide +kernel
theorem dX9_back_36 : decode cX9_back 36 = .ok (.aload_n 0, 1) := by decide +kernel
theorem dX9_back_37 : decode cX9_back 37 = .ok (.getfield 29, 3) := by decide +kernel
theorem dX9_back_40 : decode cX9_back 40 = .ok (.invokevirtual 268, 3) := by decide +kernel
theorem dX9_back_43 : decode cX9_back 43 = .ok (.ireturn, 1) := by decide +kernel
theorem dX9_count_0 : decode cX9_count 0 = .ok (.iload_n 1, 1) := by decide +kernel
theorem dX9_count_1 : decode cX9_count 1 = .ok (.tableswitch 90 0 5 #[39, 47, 55, 63, 74, 82], 39) := by decide +kernel
theorem dX9_count_40 : decode cX9_count 40 = .ok (.aload_n 0, 1) := by decide +kernel
theorem dX9_count_41 : decode cX9_count 41 = .ok (.getfield 19, 3) := by decide +kernel
theorem dX9_count_44 : decode cX9_count 44 = .ok (.getfield 229, 3) := by decide +kernel
theorem dX9_count_47 : decode cX9_count 47 = .ok (.ireturn, 1) := by decide +kernel
theorem dX9_count_48 : decode cX9_count 48 = .ok (.aload_n 0, 1) := by decide +kernel
theorem dX9_count_49 : decode cX9_count 49 = .ok (.getfield 19, 3) := by decide +kernel
theorem dX9_count_52 : decode cX9_count 52 = .ok (.getfield 188, 3) := by decide +kernel
theorem dX9_count_55 : decode cX9_count 55 = .ok (.ireturn, 1) := by decide +kernel
theorem dX9_count_56 : decode cX9_count 56 = .ok (.aload_n 0, 1) := by decide +kernel
theorem dX9_count_57 : decode cX9_count 57 = .ok (.getfield 29, 3) := by decide +kernel
theorem dX9_count_60 : decode cX9_count 60 = .ok (.invokevirtual 268, 3) := by decide +kernel
theorem dX9_count_63 : decode cX9_count 63 = .ok (.ireturn, 1) := by decide +kernel
theorem dX9_count_64 : decode cX9_count 64 = .ok (.aload_n 0, 1) := by decide +kernel
theorem dX9_count_65 : decode cX9_count 65 = .ok (.getfield 29, 3) := by decide +kernel
theorem dX9_count_68 : decode cX9_count 68 = .ok (.getfield 135, 3) := by decide +kernel
theorem dX9_count_71 : decode cX9_count 71 = .ok (.invokestatic 157, 3) := by decide +kernel
theorem dX9_count_74 : decode cX9_count 74 = .ok (.ireturn, 1) := by decide +kernel
theorem dX9_count_75 : decode cX9_count 75 = .ok (.aload_n 0, 1) := by decide +kernel
theorem dX9_count_76 : decode cX9_count 76 = .ok (.getfield 29, 3) := by decide +kernel
theorem dX9_count_79 : decode cX9_count 79 = .ok (.getfield 232, 3) := by decide +kernel
theorem dX9_count_82 : decode cX9_count 82 = .ok (.ireturn, 1) := by decide +kernel
theorem dX9_count_83 : decode cX9_count 83 = .ok (.aload_n 0, 1) := by decide +kernel
theorem dX9_count_84 : decode cX9_count 84 = .ok (.getfield 10, 3) := by decide +kernel
theorem dX9_count_87 : decode cX9_count 87 = .ok (.getfield 96, 3) := by decide +kernel
theorem dX9_count_90 : decode cX9_count 90 = .ok (.ireturn, 1) := by decide +kernel
theorem dX9_count_91 : decode cX9_count 91 = .ok (.iconst (-1), 1) := by decide +kernel
theorem dX9_count_92 : decode cX9_count 92 = .ok (.ireturn, 1) := by decide +kernel
theorem dX9_trace_0 : decode cX9_trace 0 = .ok (.aload_n 0, 1) := by decide +kernel
theorem dX9_trace_1 : decode cX9_trace 1 = .ok (.getfield 92, 3) := by decide +kernel
theorem dX9_trace_4 : decode cX9_trace 4 = .ok (.lreturn, 1) := by decide +kernel
theorem dX9_isPiece_0 : decode cX9_isPiece 0 = .ok (.iload_n 1, 1) := by decide +kernel
theorem dX9_isPiece_1 : decode cX9_isPiece 1 = .ok (.ifCond .lt 18, 3) := by decide +kernel
theorem dX9_isPiece_4 : decode cX9_isPiece 4 = .ok (.iload_n 1, 1) := by decide +kernel
theorem dX9_isPiece_5 : decode cX9_isPiece 5 = .ok (.aload_n 0, 1) := by decide +kernel
theorem dX9_isPiece_6 : decode cX9_isPiece 6 = .ok (.getfield 19, 3) := by decide +kernel
theorem dX9_isPiece_9 : decode cX9_isPiece 9 = .ok (.getfield 229, 3) := by decide +kernel
theorem dX9_isPiece_12 : decode cX9_isPiece 12 = .ok (.if_icmp .ge 7, 3) := by decide +kernel
theorem dX9_isPiece_15 : decode cX9_isPiece 15 = .ok (.iconst 1, 1) := by decide +kernel
theorem dX9_isPiece_16 : decode cX9_isPiece 16 = .ok (.goto 4, 3) := by decide +kernel
theorem dX9_isPiece_19 : decode cX9_isPiece 19 = .ok (.iconst 0, 1) := by decide +kernel
theorem dX9_isPiece_20 : decode cX9_isPiece 20 = .ok (.ireturn, 1) := by decide +kernel
theorem dX9_isFamily_0 : decode cX9_isFamily 0 = .ok (.iload_n 1, 1) := by decide +kernel
theorem dX9_isFamily_1 : decode cX9_isFamily 1 = .ok (.ifCond .lt 18, 3) := by decide +kernel
theorem dX9_isFamily_4 : decode cX9_isFamily 4 = .ok (.iload_n 1, 1) := by decide +kernel
theorem dX9_isFamily_5 : decode cX9_isFamily 5 = .ok (.aload_n 0, 1) := by decide +kernel
theorem dX9_isFamily_6 : decode cX9_isFamily 6 = .ok (.getfield 19, 3) := by decide +kernel
theorem dX9_isFamily_9 : decode cX9_isFamily 9 = .ok (.getfield 188, 3) := by decide +kernel
theorem dX9_isFamily_12 : decode cX9_isFamily 12 = .ok (.if_icmp .ge 7, 3) := by decide +kernel
theorem dX9_isFamily_15 : decode cX9_isFamily 15 = .ok (.iconst 1, 1) := by decide +kernel
theorem dX9_isFamily_16 : decode cX9_isFamily 16 = .ok (.goto 4, 3) := by decide +kernel
theorem dX9_isFamily_19 : decode cX9_isFamily 19 = .ok (.iconst 0, 1) := by decide +kernel
theorem dX9_isFamily_20 : decode cX9_isFamily 20 = .ok (.ireturn, 1) := by decide +kernel
theorem dX9_wayNow_0 : decode cX9_wayNow 0 = .ok (.aload_n 0, 1) := by decide +kernel
theorem dX9_wayNow_1 : decode cX9_wayNow 1 = .ok (.getfield 58, 3) := by decide +kernel
theorem dX9_wayNow_4 : decode cX9_wayNow 4 = .ok (.iload_n 1, 1) := by decide +kernel
theorem dX9_wayNow_5 : decode cX9_wayNow 5 = .ok (.aload_n 0, 1) := by decide +kernel
theorem dX9_wayNow_6 : decode cX9_wayNow 6 = .ok (.getfield 29, 3) := by decide +kernel
theorem dX9_wayNow_9 : decode cX9_wayNow 9 = .ok (.iload_n 1, 1) := by decide +kernel
theorem dX9_wayNow_10 : decode cX9_wayNow 10 = .ok (.invokevirtual 153, 3) := by decide +kernel
theorem dX9_wayNow_13 : decode cX9_wayNow 13 = .ok (.invokevirtual 185, 3) := by decide +kernel
theorem dX9_wayNow_16 : decode cX9_wayNow 16 = .ok (.ireturn, 1) := by decide +kernel
theorem dX9_orNone_0 : decode cX9_orNone 0 = .ok (.iload_n 0, 1) := by decide +kernel
theorem dX9_orNone_1 : decode cX9_orNone 1 = .ok (.ldc 196, 2) := by decide +kernel
theorem dX9_orNone_3 : decode cX9_orNone 3 = .ok (.if_icmp .lt 8, 3) := by decide +kernel
theorem dX9_orNone_6 : decode cX9_orNone 6 = .ok (.bipush (-9), 2) := by decide +kernel
theorem dX9_orNone_8 : decode cX9_orNone 8 = .ok (.goto 4, 3) := by decide +kernel
theorem dX9_orNone_11 : decode cX9_orNone 11 = .ok (.iload_n 0, 1) := by decide +kernel
theorem dX9_orNone_12 : decode cX9_orNone 12 = .ok (.ireturn, 1) := by decide +kernel
theorem dX9_chosen_0 : decode cX9_chosen 0 = .ok (.aload_n 0, 1) := by decide +kernel
theorem dX9_chosen_1 : decode cX9_chosen 1 = .ok (.getfield 67, 3) := by decide +kernel
theorem dX9_chosen_4 : decode cX9_chosen 4 = .ok (.getfield 271, 3) := by decide +kernel
theorem dX9_chosen_7 : decode cX9_chosen 7 = .ok (.ldc 196, 2) := by decide +kernel
theorem dX9_chosen_9 : decode cX9_chosen 9 = .ok (.if_icmp .lt 6, 3) := by decide +kernel
theorem dX9_chosen_12 : decode cX9_chosen 12 = .ok (.bipush (-9), 2) := by decide +kernel
theorem dX9_chosen_14 : decode cX9_chosen 14 = .ok (.ireturn, 1) := by decide +kernel
theorem dX9_chosen_15 : decode cX9_chosen 15 = .ok (.iload_n 1, 1) := by decide +kernel
theorem dX9_chosen_16 : decode cX9_chosen 16 = .ok (.ifCond .ge 13, 3) := by decide +kernel
theorem dX9_chosen_19 : decode cX9_chosen 19 = .ok (.aload_n 0, 1) := by decide +kernel
theorem dX9_chosen_20 : decode cX9_chosen 20 = .ok (.getfield 67, 3) := by decide +kernel
theorem dX9_chosen_23 : decode cX9_chosen 23 = .ok (.getfield 271, 3) := by decide +kernel
theorem dX9_chosen_26 : decode cX9_chosen 26 = .ok (.goto 12, 3) := by decide +kernel
theorem dX9_chosen_29 : decode cX9_chosen 29 = .ok (.aload_n 0, 1) := by decide +kernel
theorem dX9_chosen_30 : decode cX9_chosen 30 = .ok (.getfield 67, 3) := by decide +kernel
theorem dX9_chosen_33 : decode cX9_chosen 33 = .ok (.getfield 274, 3) := by decide +kernel
theorem dX9_chosen_36 : decode cX9_chosen 36 = .ok (.iload_n 1, 1) := by decide +kernel
theorem dX9_chosen_37 : decode cX9_chosen 37 = .ok (.iaload, 1) := by decide +kernel
theorem dX9_chosen_38 : decode cX9_chosen 38 = .ok (.ireturn, 1) := by decide +kernel
theorem dX9_asFamily_0 : decode cX9_asFamily 0 = .ok (.aload_n 0, 1) := by decide +kernel
theorem dX9_asFamily_1 : decode cX9_asFamily 1 = .ok (.dup, 1) := by decide +kernel
theorem dX9_asFamily_2 : decode cX9_asFamily 2 = .ok (.getfield 92, 3) := by decide +kernel
theorem dX9_asFamily_5 : decode cX9_asFamily 5 = .ok (.lconst 1, 1) := by decide +kernel
theorem dX9_asFamily_6 : decode cX9_asFamily 6 = .ok (.ladd, 1) := by decide +kernel
theorem dX9_asFamily_7 : decode cX9_asFamily 7 = .ok (.putfield 92, 3) := by decide +kernel
theorem dX9_asFamily_10 : decode cX9_asFamily 10 = .ok (.aload_n 0, 1) := by decide +kernel
theorem dX9_asFamily_11 : decode cX9_asFamily 11 = .ok (.getfield 19, 3) := by decide +kernel
theorem dX9_asFamily_14 : decode cX9_asFamily 14 = .ok (.getfield 150, 3) := by decide +kernel
theorem dX9_asFamily_17 : decode cX9_asFamily 17 = .ok (.iload_n 1, 1) := by decide +kernel
theorem dX9_asFamily_18 : decode cX9_asFamily 18 = .ok (.iaload, 1) := by decide +kernel
theorem dX9_asFamily_19 : decode cX9_asFamily 19 = .ok (.ireturn, 1) := by decide +kernel
theorem dX9_asWidow_0 : decode cX9_asWidow 0 = .ok (.aload_n 0, 1) := by decide +kernel
theorem dX9_asWidow_1 : decode cX9_asWidow 1 = .ok (.dup, 1) := by decide +kernel
theorem dX9_asWidow_2 : decode cX9_asWidow 2 = .ok (.getfield 92, 3) := by decide +kernel
theorem dX9_asWidow_5 : decode cX9_asWidow 5 = .ok (.ldc2_w 276, 3) := by decide +kernel
theorem dX9_asWidow_8 : decode cX9_asWidow 8 = .ok (.ladd, 1) := by decide +kernel
theorem dX9_asWidow_9 : decode cX9_asWidow 9 = .ok (.putfield 92, 3) := by decide +kernel
theorem dX9_asWidow_12 : decode cX9_asWidow 12 = .ok (.aload_n 0, 1) := by decide +kernel
theorem dX9_asWidow_13 : decode cX9_asWidow 13 = .ok (.iload_n 1, 1) := by decide +kernel
theorem dX9_asWidow_14 : decode cX9_asWidow 14 = .ok (.invokevirtual 250, 3) := by decide +kernel
theorem dX9_asWidow_17 : decode cX9_asWidow 17 = .ok (.aload_n 0, 1) := by decide +kernel
theorem dX9_asWidow_18 : decode cX9_asWidow 18 = .ok (.getfield 29, 3) := by decide +kernel
theorem dX9_asWidow_21 : decode cX9_asWidow 21 = .ok (.iload_n 1, 1) := by decide +kernel
theorem dX9_asWidow_22 : decode cX9_asWidow 22 = .ok (.invokevirtual 153, 3) := by decide +kernel
theorem dX9_asWidow_25 : decode cX9_asWidow 25 = .ok (.invokestatic 157, 3) := by decide +kernel
theorem dX9_asWidow_28 : decode cX9_asWidow 28 = .ok (.iadd, 1) := by decide +kernel
theorem dX9_asWidow_29 : decode cX9_asWidow 29 = .ok (.ireturn, 1) := by decide +kernel
theorem dX9_asMason_0 : decode cX9_asMason 0 = .ok (.aload_n 0, 1) := by decide +kernel
theorem dX9_asMason_1 : decode cX9_asMason 1 = .ok (.dup, 1) := by decide +kernel
theorem dX9_asMason_2 : decode cX9_asMason 2 = .ok (.getfield 92, 3) := by decide +kernel
theorem dX9_asMason_5 : decode cX9_asMason 5 = .ok (.ldc2_w 278, 3) := by decide +kernel
theorem dX9_asMason_8 : decode cX9_asMason 8 = .ok (.ladd, 1) := by decide +kernel
theorem dX9_asMason_9 : decode cX9_asMason 9 = .ok (.putfield 92, 3) := by decide +kernel
theorem dX9_asMason_12 : decode cX9_asMason 12 = .ok (.aload_n 0, 1) := by decide +kernel
theorem dX9_asMason_13 : decode cX9_asMason 13 = .ok (.iload_n 1, 1) := by decide +kernel
theorem dX9_asMason_14 : decode cX9_asMason 14 = .ok (.invokevirtual 172, 3) := by decide +kernel
theorem dX9_asMason_17 : decode cX9_asMason 17 = .ok (.istore_n 2, 1) := by decide +kernel
theorem dX9_asMason_18 : decode cX9_asMason 18 = .ok (.aload_n 0, 1) := by decide +kernel
theorem dX9_asMason_19 : decode cX9_asMason 19 = .ok (.iload_n 1, 1) := by decide +kernel
theorem dX9_asMason_20 : decode cX9_asMason 20 = .ok (.invokevirtual 250, 3) := by decide +kernel
theorem dX9_asMason_23 : decode cX9_asMason 23 = .ok (.iload_n 2, 1) := by decide +kernel
theorem dX9_asMason_24 : decode cX9_asMason 24 = .ok (.ldc 196, 2) := by decide +kernel
theorem dX9_asMason_26 : decode cX9_asMason 26 = .ok (.if_icmp .lt 7, 3) := by decide +kernel
theorem dX9_asMason_29 : decode cX9_asMason 29 = .ok (.iconst 0, 1) := by decide +kernel
theorem dX9_asMason_30 : decode cX9_asMason 30 = .ok (.goto 4, 3) := by decide +kernel
theorem dX9_asMason_33 : decode cX9_asMason 33 = .ok (.iload_n 2, 1) := by decide +kernel
theorem dX9_asMason_34 : decode cX9_asMason 34 = .ok (.iadd, 1) := by decide +kernel
theorem dX9_asMason_35 : decode cX9_asMason 35 = .ok (.ireturn, 1) := by decide +kernel
theorem dX9_asHeir_0 : decode cX9_asHeir 0 = .ok (.aload_n 0, 1) := by decide +kernel
theorem dX9_asHeir_1 : decode cX9_asHeir 1 = .ok (.dup, 1) := by decide +kernel
theorem dX9_asHeir_2 : decode cX9_asHeir 2 = .ok (.getfield 92, 3) := by decide +kernel
theorem dX9_asHeir_5 : decode cX9_asHeir 5 = .ok (.ldc2_w 280, 3) := by decide +kernel
theorem dX9_asHeir_8 : decode cX9_asHeir 8 = .ok (.ladd, 1) := by decide +kernel
theorem dX9_asHeir_9 : decode cX9_asHeir 9 = .ok (.putfield 92, 3) := by decide +kernel
theorem dX9_asHeir_12 : decode cX9_asHeir 12 = .ok (.aload_n 0, 1) := by decide +kernel
theorem dX9_asHeir_13 : decode cX9_asHeir 13 = .ok (.iload_n 1, 1) := by decide +kernel
theorem dX9_asHeir_14 : decode cX9_asHeir 14 = .ok (.invokevirtual 253, 3) := by decide +kernel
theorem dX9_asHeir_17 : decode cX9_asHeir 17 = .ok (.iconst 2, 1) := by decide +kernel
theorem dX9_asHeir_18 : decode cX9_asHeir 18 = .ok (.imul, 1) := by decide +kernel
theorem dX9_asHeir_19 : decode cX9_asHeir 19 = .ok (.ireturn, 1) := by decide +kernel
theorem dX9_asHired_0 : decode cX9_asHired 0 = .ok (.aload_n 0, 1) := by decide +kernel
theorem dX9_asHired_1 : decode cX9_asHired 1 = .ok (.dup, 1) := by decide +kernel
theorem dX9_asHired_2 : decode cX9_asHired 2 = .ok (.getfield 92, 3) := by decide +kernel
theorem dX9_asHired_5 : decode cX9_asHired 5 = .ok (.ldc2_w 282, 3) := by decide +kernel
theorem dX9_asHired_8 : decode cX9_asHired 8 = .ok (.ladd, 1) := by decide +kernel
theorem dX9_asHired_9 : decode cX9_asHired 9 = .ok (.putfield 92, 3) := by decide +kernel
theorem dX9_asHired_12 : decode cX9_asHired 12 = .ok (.aload_n 0, 1) := by decide +kernel
theorem dX9_asHired_13 : decode cX9_asHired 13 = .ok (.iload_n 1, 1) := by decide +kernel
theorem dX9_asHired_14 : decode cX9_asHired 14 = .ok (.invokevirtual 256, 3) := by decide +kernel
theorem dX9_asHired_17 : decode cX9_asHired 17 = .ok (.aload_n 0, 1) := by decide +kernel
theorem dX9_asHired_18 : decode cX9_asHired 18 = .ok (.getfield 19, 3) := by decide +kernel
theorem dX9_asHired_21 : decode cX9_asHired 21 = .ok (.aload_n 0, 1) := by decide +kernel
theorem dX9_asHired_22 : decode cX9_asHired 22 = .ok (.getfield 29, 3) := by decide +kernel
theorem dX9_asHired_25 : decode cX9_asHired 25 = .ok (.iload_n 1, 1) := by decide +kernel
theorem dX9_asHired_26 : decode cX9_asHired 26 = .ok (.invokevirtual 153, 3) := by decide +kernel
theorem dX9_asHired_29 : decode cX9_asHired 29 = .ok (.invokevirtual 284, 3) := by decide +kernel
theorem dX9_asHired_32 : decode cX9_asHired 32 = .ok (.isub, 1) := by decide +kernel
theorem dX9_asHired_33 : decode cX9_asHired 33 = .ok (.ireturn, 1) := by decide +kernel
theorem dX9_asBachelor_0 : decode cX9_asBachelor 0 = .ok (.aload_n 0, 1) := by decide +kernel
theorem dX9_asBachelor_1 : decode cX9_asBachelor 1 = .ok (.dup, 1) := by decide +kernel
theorem dX9_asBachelor_2 : decode cX9_asBachelor 2 = .ok (.getfield 92, 3) := by decide +kernel
theorem dX9_asBachelor_5 : decode cX9_asBachelor 5 = .ok (.ldc2_w 287, 3) := by decide +kernel
theorem dX9_asBachelor_8 : decode cX9_asBachelor 8 = .ok (.ladd, 1) := by decide +kernel
theorem dX9_asBachelor_9 : decode cX9_asBachelor 9 = .ok (.putfield 92, 3) := by decide +kernel
theorem dX9_asBachelor_12 : decode cX9_asBachelor 12 = .ok (.aload_n 0, 1) := by decide +kernel
theorem dX9_asBachelor_13 : decode cX9_asBachelor 13 = .ok (.iload_n 1, 1) := by decide +kernel
theorem dX9_asBachelor_14 : decode cX9_asBachelor 14 = .ok (.invokevirtual 250, 3) := by decide +kernel
theorem dX9_asBachelor_17 : decode cX9_asBachelor 17 = .ok (.aload_n 0, 1) := by decide +kernel
theorem dX9_asBachelor_18 : decode cX9_asBachelor 18 = .ok (.getfield 19, 3) := by decide +kernel
theorem dX9_asBachelor_21 : decode cX9_asBachelor 21 = .ok (.getfield 144, 3) := by decide +kernel
theorem dX9_asBachelor_24 : decode cX9_asBachelor 24 = .ok (.iload_n 1, 1) := by decide +kernel
theorem dX9_asBachelor_25 : decode cX9_asBachelor 25 = .ok (.iaload, 1) := by decide +kernel
theorem dX9_asBachelor_26 : decode cX9_asBachelor 26 = .ok (.iadd, 1) := by decide +kernel
theorem dX9_asBachelor_27 : decode cX9_asBachelor 27 = .ok (.ireturn, 1) := by decide +kernel
