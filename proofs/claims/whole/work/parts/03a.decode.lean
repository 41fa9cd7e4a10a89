theorem dX0_init_0 : decode cX0_init 0 = .ok (.aload_n 0, 1) := by decide +kernel
theorem dX0_init_1 : decode cX0_init 1 = .ok (.invokespecial 3, 3) := by decide +kernel
theorem dX0_init_4 : decode cX0_init 4 = .ok (.aload_n 0, 1) := by decide +kernel
theorem dX0_init_5 : decode cX0_init 5 = .ok (.iconst (-1), 1) := by decide +kernel
theorem dX0_init_6 : decode cX0_init 6 = .ok (.putfield 11, 3) := by decide +kernel
theorem dX0_init_9 : decode cX0_init 9 = .ok (.aload_n 0, 1) := by decide +kernel
theorem dX0_init_10 : decode cX0_init 10 = .ok (.iconst 0, 1) := by decide +kernel
theorem dX0_init_11 : decode cX0_init 11 = .ok (.putfield 15, 3) := by decide +kernel
theorem dX0_init_14 : decode cX0_init 14 = .ok (.aload_n 0, 1) := by decide +kernel
theorem dX0_init_15 : decode cX0_init 15 = .ok (.ldc 18, 2) := by decide +kernel
theorem dX0_init_17 : decode cX0_init 17 = .ok (.putfield 19, 3) := by decide +kernel
theorem dX0_init_20 : decode cX0_init 20 = .ok (.aload_n 0, 1) := by decide +kernel
theorem dX0_init_21 : decode cX0_init 21 = .ok (.bipush 8, 2) := by decide +kernel
theorem dX0_init_23 : decode cX0_init 23 = .ok (.newarray .int, 2) := by decide +kernel
theorem dX0_init_25 : decode cX0_init 25 = .ok (.putfield 22, 3) := by decide +kernel
theorem dX0_init_28 : decode cX0_init 28 = .ok (.aload_n 0, 1) := by decide +kernel
theorem dX0_init_29 : decode cX0_init 29 = .ok (.bipush 8, 2) := by decide +kernel
theorem dX0_init_31 : decode cX0_init 31 = .ok (.newarray .int, 2) := by decide +kernel
theorem dX0_init_33 : decode cX0_init 33 = .ok (.putfield 26, 3) := by decide +kernel
theorem dX0_init_36 : decode cX0_init 36 = .ok (.aload_n 0, 1) := by decide +kernel
theorem dX0_init_37 : decode cX0_init 37 = .ok (.iconst 4, 1) := by decide +kernel
theorem dX0_init_38 : decode cX0_init 38 = .ok (.newarray .int, 2) := by decide +kernel
theorem dX0_init_40 : decode cX0_init 40 = .ok (.putfield 29, 3) := by decide +kernel
theorem dX0_init_43 : decode cX0_init 43 = .ok (.aload_n 0, 1) := by decide +kernel
theorem dX0_init_44 : decode cX0_init 44 = .ok (.aload_n 1, 1) := by decide +kernel
theorem dX0_init_45 : decode cX0_init 45 = .ok (.putfield 32, 3) := by decide +kernel
theorem dX0_init_48 : decode cX0_init 48 = .ok (.aload_n 0, 1) := by decide +kernel
theorem dX0_init_49 : decode cX0_init 49 = .ok (.aload_n 2, 1) := by decide +kernel
theorem dX0_init_50 : decode cX0_init 50 = .ok (.putfield 36, 3) := by decide +kernel
theorem dX0_init_53 : decode cX0_init 53 = .ok (.return_, 1) := by decide +kernel
theorem dX0_startAnew_0 : decode cX0_startAnew 0 = .ok (.aload_n 0, 1) := by decide +kernel
theorem dX0_startAnew_1 : decode cX0_startAnew 1 = .ok (.iconst (-1), 1) := by decide +kernel
theorem dX0_startAnew_2 : decode cX0_startAnew 2 = .ok (.putfield 11, 3) := by decide +kernel
theorem dX0_startAnew_5 : decode cX0_startAnew 5 = .ok (.return_, 1) := by decide +kernel
theorem dX0_seek_0 : decode cX0_seek 0 = .ok (.aload_n 0, 1) := by decide +kernel
theorem dX0_seek_1 : decode cX0_seek 1 = .ok (.getfield 11, 3) := by decide +kernel
theorem dX0_seek_4 : decode cX0_seek 4 = .ok (.iload_n 1, 1) := by decide +kernel
theorem dX0_seek_5 : decode cX0_seek 5 = .ok (.if_icmp .ne 12, 3) := by decide +kernel
theorem dX0_seek_8 : decode cX0_seek 8 = .ok (.aload_n 0, 1) := by decide +kernel
theorem dX0_seek_9 : decode cX0_seek 9 = .ok (.getfield 15, 3) := by decide +kernel
theorem dX0_seek_12 : decode cX0_seek 12 = .ok (.iload_n 2, 1) := by decide +kernel
theorem dX0_seek_13 : decode cX0_seek 13 = .ok (.if_icmp .ne 4, 3) := by decide +kernel
theorem dX0_seek_16 : decode cX0_seek 16 = .ok (.return_, 1) := by decide +kernel
theorem dX0_seek_17 : decode cX0_seek 17 = .ok (.aload_n 0, 1) := by decide +kernel
theorem dX0_seek_18 : decode cX0_seek 18 = .ok (.iload_n 1, 1) := by decide +kernel
theorem dX0_seek_19 : decode cX0_seek 19 = .ok (.putfield 11, 3) := by decide +kernel
theorem dX0_seek_22 : decode cX0_seek 22 = .ok (.aload_n 0, 1) := by decide +kernel
theorem dX0_seek_23 : decode cX0_seek 23 = .ok (.iload_n 2, 1) := by decide +kernel
theorem dX0_seek_24 : decode cX0_seek 24 = .ok (.putfield 15, 3) := by decide +kernel
theorem dX0_seek_27 : decode cX0_seek 27 = .ok (.aload_n 0, 1) := by decide +kernel
theorem dX0_seek_28 : decode cX0_seek 28 = .ok (.ldc 18, 2) := by decide +kernel
theorem dX0_seek_30 : decode cX0_seek 30 = .ok (.putfield 19, 3) := by decide +kernel
theorem dX0_seek_33 : decode cX0_seek 33 = .ok (.iload_n 1, 1) := by decide +kernel
theorem dX0_seek_34 : decode cX0_seek 34 = .ok (.iconst 2, 1) := by decide +kernel
theorem dX0_seek_35 : decode cX0_seek 35 = .ok (.if_icmp .eq 14, 3) := by decide +kernel
theorem dX0_seek_38 : decode cX0_seek 38 = .ok (.aload_n 0, 1) := by decide +kernel
theorem dX0_seek_39 : decode cX0_seek 39 = .ok (.iconst 0, 1) := by decide +kernel
theorem dX0_seek_40 : decode cX0_seek 40 = .ok (.aload_n 0, 1) := by decide +kernel
theorem dX0_seek_41 : decode cX0_seek 41 = .ok (.getfield 15, 3) := by decide +kernel
theorem dX0_seek_44 : decode cX0_seek 44 = .ok (.iconst 0, 1) := by decide +kernel
theorem dX0_seek_45 : decode cX0_seek 45 = .ok (.invokevirtual 40, 3) := by decide +kernel
theorem dX0_seek_48 : decode cX0_seek 48 = .ok (.return_, 1) := by decide +kernel
theorem dX0_seek_49 : decode cX0_seek 49 = .ok (.aload_n 0, 1) := by decide +kernel
theorem dX0_seek_50 : decode cX0_seek 50 = .ok (.getfield 29, 3) := by decide +kernel
theorem dX0_seek_53 : decode cX0_seek 53 = .ok (.iconst 0, 1) := by decide +kernel
theorem dX0_seek_54 : decode cX0_seek 54 = .ok (.invokestatic 44, 3) := by decide +kernel
theorem dX0_seek_57 : decode cX0_seek 57 = .ok (.aload_n 0, 1) := by decide +kernel
theorem dX0_seek_58 : decode cX0_seek 58 = .ok (.invokevirtual 50, 3) := by decide +kernel
theorem dX0_seek_61 : decode cX0_seek 61 = .ok (.istore_n 3, 1) := by decide +kernel
theorem dX0_seek_62 : decode cX0_seek 62 = .ok (.iload_n 3, 1) := by decide +kernel
theorem dX0_seek_63 : decode cX0_seek 63 = .ok (.aload_n 0, 1) := by decide +kernel
theorem dX0_seek_64 : decode cX0_seek 64 = .ok (.getfield 19, 3) := by decide +kernel
theorem dX0_seek_67 : decode cX0_seek 67 = .ok (.if_icmp .ge 9, 3) := by decide +kernel
theorem dX0_seek_70 : decode cX0_seek 70 = .ok (.aload_n 0, 1) := by decide +kernel
theorem dX0_seek_71 : decode cX0_seek 71 = .ok (.iconst 0, 1) := by decide +kernel
theorem dX0_seek_72 : decode cX0_seek 72 = .ok (.iload_n 3, 1) := by decide +kernel
theorem dX0_seek_73 : decode cX0_seek 73 = .ok (.invokevirtual 54, 3) := by decide +kernel
theorem dX0_seek_76 : decode cX0_seek 76 = .ok (.return_, 1) := by decide +kernel
theorem dX0_costsOfNone_0 : decode cX0_costsOfNone 0 = .ok (.iconst 0, 1) := by decide +kernel
theorem dX0_costsOfNone_1 : decode cX0_costsOfNone 1 = .ok (.istore_n 1, 1) := by decide +kernel
theorem dX0_costsOfNone_2 : decode cX0_costsOfNone 2 = .ok (.iconst 0, 1) := by decide +kernel
theorem dX0_costsOfNone_3 : decode cX0_costsOfNone 3 = .ok (.istore_n 2, 1) := by decide +kernel
theorem dX0_costsOfNone_4 : decode cX0_costsOfNone 4 = .ok (.iload_n 2, 1) := by decide +kernel
theorem dX0_costsOfNone_5 : decode cX0_costsOfNone 5 = .ok (.aload_n 0, 1) := by decide +kernel
theorem dX0_costsOfNone_6 : decode cX0_costsOfNone 6 = .ok (.getfield 32, 3) := by decide +kernel
theorem dX0_costsOfNone_9 : decode cX0_costsOfNone 9 = .ok (.getfield 58, 3) := by decide +kernel
theorem dX0_costsOfNone_12 : decode cX0_costsOfNone 12 = .ok (.if_icmp .ge 21, 3) := by decide +kernel
theorem dX0_costsOfNone_15 : decode cX0_costsOfNone 15 = .ok (.iload_n 1, 1) := by decide +kernel
theorem dX0_costsOfNone_16 : decode cX0_costsOfNone 16 = .ok (.aload_n 0, 1) := by decide +kernel
theorem dX0_costsOfNone_17 : decode cX0_costsOfNone 17 = .ok (.getfield 36, 3) := by decide +kernel
theorem dX0_costsOfNone_20 : decode cX0_costsOfNone 20 = .ok (.iload_n 2, 1) := by decide +kernel
theorem dX0_costsOfNone_21 : decode cX0_costsOfNone 21 = .ok (.iconst 0, 1) := by decide +kernel
theorem dX0_costsOfNone_22 : decode cX0_costsOfNone 22 = .ok (.invokevirtual 63, 3) := by decide +kernel
theorem dX0_costsOfNone_25 : decode cX0_costsOfNone 25 = .ok (.iadd, 1) := by decide +kernel
theorem dX0_costsOfNone_26 : decode cX0_costsOfNone 26 = .ok (.istore_n 1, 1) := by decide +kernel
theorem dX0_costsOfNone_27 : decode cX0_costsOfNone 27 = .ok (.iinc 2 1, 3) := by decide +kernel
theorem dX0_costsOfNone_30 : decode cX0_costsOfNone 30 = .ok (.goto (-26), 3) := by decide +kernel
theorem dX0_costsOfNone_33 : decode cX0_costsOfNone 33 = .ok (.iload_n 1, 1) := by decide +kernel
theorem dX0_costsOfNone_34 : decode cX0_costsOfNone 34 = .ok (.ireturn, 1) := by decide +kernel
theorem dX0_tryFamily_0 : decode cX0_tryFamily 0 = .ok (.iload_n 1, 1) := by decide +kernel
theorem dX0_tryFamily_1 : decode cX0_tryFamily 1 = .ok (.aload_n 0, 1) := by decide +kernel
theorem dX0_tryFamily_2 : decode cX0_tryFamily 2 = .ok (.getfield 32, 3) := by decide +kernel
theorem dX0_tryFamily_5 : decode cX0_tryFamily 5 = .ok (.getfield 58, 3) := by decide +kernel
theorem dX0_tryFamily_8 : decode cX0_tryFamily 8 = .ok (.if_icmp .lt 9, 3) := by decide +kernel
theorem dX0_tryFamily_11 : decode cX0_tryFamily 11 = .ok (.aload_n 0, 1) := by decide +kernel
theorem dX0_tryFamily_12 : decode cX0_tryFamily 12 = .ok (.iload_n 3, 1) := by decide +kernel
theorem dX0_tryFamily_13 : decode cX0_tryFamily 13 = .ok (.invokevirtual 69, 3) := by decide +kernel
theorem dX0_tryFamily_16 : decode cX0_tryFamily 16 = .ok (.return_, 1) := by decide +kernel
theorem dX0_tryFamily_17 : decode cX0_tryFamily 17 = .ok (.iconst 0, 1) := by decide +kernel
theorem dX0_tryFamily_18 : decode cX0_tryFamily 18 = .ok (.istore 4, 2) := by decide +kernel
theorem dX0_tryFamily_20 : decode cX0_tryFamily 20 = .ok (.iload 4, 2) := by decide +kernel
theorem dX0_tryFamily_22 : decode cX0_tryFamily 22 = .ok (.aload_n 0, 1) := by decide +kernel
theorem dX0_tryFamily_23 : decode cX0_tryFamily 23 = .ok (.getfield 32, 3) := by decide +kernel
theorem dX0_tryFamily_26 : decode cX0_tryFamily 26 = .ok (.getfield 73, 3) := by decide +kernel
theorem dX0_tryFamily_29 : decode cX0_tryFamily 29 = .ok (.if_icmp .ge 67, 3) := by decide +kernel
theorem dX0_tryFamily_32 : decode cX0_tryFamily 32 = .ok (.iconst 1, 1) := by decide +kernel
theorem dX0_tryFamily_33 : decode cX0_tryFamily 33 = .ok (.iload 4, 2) := by decide +kernel
theorem dX0_tryFamily_35 : decode cX0_tryFamily 35 = .ok (.ishl, 1) := by decide +kernel
theorem dX0_tryFamily_36 : decode cX0_tryFamily 36 = .ok (.istore 5, 2) := by decide +kernel
theorem dX0_tryFamily_38 : decode cX0_tryFamily 38 = .ok (.iload_n 2, 1) := by decide +kernel
theorem dX0_tryFamily_39 : decode cX0_tryFamily 39 = .ok (.iload 5, 2) := by decide +kernel
theorem dX0_tryFamily_41 : decode cX0_tryFamily 41 = .ok (.iand, 1) := by decide +kernel
theorem dX0_tryFamily_42 : decode cX0_tryFamily 42 = .ok (.ifCond .ne 14, 3) := by decide +kernel
theorem dX0_tryFamily_45 : decode cX0_tryFamily 45 = .ok (.aload_n 0, 1) := by decide +kernel
theorem dX0_tryFamily_46 : decode cX0_tryFamily 46 = .ok (.iload_n 3, 1) := by decide +kernel
theorem dX0_tryFamily_47 : decode cX0_tryFamily 47 = .ok (.iload_n 1, 1) := by decide +kernel
theorem dX0_tryFamily_48 : decode cX0_tryFamily 48 = .ok (.iload 5, 2) := by decide +kernel
theorem dX0_tryFamily_50 : decode cX0_tryFamily 50 = .ok (.invokevirtual 76, 3) := by decide +kernel
theorem dX0_tryFamily_53 : decode cX0_tryFamily 53 = .ok (.goto 5, 3) := by decide +kernel
theorem dX0_tryFamily_56 : decode cX0_tryFamily 56 = .ok (.ldc 18, 2) := by decide +kernel
theorem dX0_tryFamily_58 : decode cX0_tryFamily 58 = .ok (.istore 6, 2) := by decide +kernel
theorem dX0_tryFamily_60 : decode cX0_tryFamily 60 = .ok (.iload 6, 2) := by decide +kernel
theorem dX0_tryFamily_62 : decode cX0_tryFamily 62 = .ok (.aload_n 0, 1) := by decide +kernel
theorem dX0_tryFamily_63 : decode cX0_tryFamily 63 = .ok (.getfield 19, 3) := by decide +kernel
theorem dX0_tryFamily_66 : decode cX0_tryFamily 66 = .ok (.if_icmp .ge 24, 3) := by decide +kernel
theorem dX0_tryFamily_69 : decode cX0_tryFamily 69 = .ok (.aload_n 0, 1) := by decide +kernel
theorem dX0_tryFamily_70 : decode cX0_tryFamily 70 = .ok (.getfield 26, 3) := by decide +kernel
theorem dX0_tryFamily_73 : decode cX0_tryFamily 73 = .ok (.iload_n 1, 1) := by decide +kernel
theorem dX0_tryFamily_74 : decode cX0_tryFamily 74 = .ok (.iload 4, 2) := by decide +kernel
theorem dX0_tryFamily_76 : decode cX0_tryFamily 76 = .ok (.iastore, 1) := by decide +kernel
theorem dX0_tryFamily_77 : decode cX0_tryFamily 77 = .ok (.aload_n 0, 1) := by decide +kernel
theorem dX0_tryFamily_78 : decode cX0_tryFamily 78 = .ok (.iload_n 1, 1) := by decide +kernel
theorem dX0_tryFamily_79 : decode cX0_tryFamily 79 = .ok (.iconst 1, 1) := by decide +kernel
theorem dX0_tryFamily_80 : decode cX0_tryFamily 80 = .ok (.iadd, 1) := by decide +kernel
theorem dX0_tryFamily_81 : decode cX0_tryFamily 81 = .ok (.iload_n 2, 1) := by decide +kernel
theorem dX0_tryFamily_82 : decode cX0_tryFamily 82 = .ok (.iload 5, 2) := by decide +kernel
theorem dX0_tryFamily_84 : decode cX0_tryFamily 84 = .ok (.ior, 1) := by decide +kernel
theorem dX0_tryFamily_85 : decode cX0_tryFamily 85 = .ok (.iload 6, 2) := by decide +kernel
theorem dX0_tryFamily_87 : decode cX0_tryFamily 87 = .ok (.invokevirtual 40, 3) := by decide +kernel
theorem dX0_tryFamily_90 : decode cX0_tryFamily 90 = .ok (.iinc 4 1, 3) := by decide +kernel
theorem dX0_tryFamily_93 : decode cX0_tryFamily 93 = .ok (.goto (-73), 3) := by decide +kernel
theorem dX0_tryFamily_96 : decode cX0_tryFamily 96 = .ok (.return_, 1) := by decide +kernel
theorem dX0_worthWith_0 : decode cX0_worthWith 0 = .ok (.aload_n 0, 1) := by decide +kernel
theorem dX0_worthWith_1 : decode cX0_worthWith 1 = .ok (.getfield 11, 3) := by decide +kernel
theorem dX0_worthWith_4 : decode cX0_worthWith 4 = .ok (.iconst 1, 1) := by decide +kernel
theorem dX0_worthWith_5 : decode cX0_worthWith 5 = .ok (.if_icmp .ne 17, 3) := by decide +kernel
theorem dX0_worthWith_8 : decode cX0_worthWith 8 = .ok (.iload_n 1, 1) := by decide +kernel
theorem dX0_worthWith_9 : decode cX0_worthWith 9 = .ok (.aload_n 0, 1) := by decide +kernel
theorem dX0_worthWith_10 : decode cX0_worthWith 10 = .ok (.getfield 36, 3) := by decide +kernel
theorem dX0_worthWith_13 : decode cX0_worthWith 13 = .ok (.iload_n 2, 1) := by decide +kernel
theorem dX0_worthWith_14 : decode cX0_worthWith 14 = .ok (.iload_n 3, 1) := by decide +kernel
theorem dX0_worthWith_15 : decode cX0_worthWith 15 = .ok (.invokevirtual 80, 3) := by decide +kernel
theorem dX0_worthWith_18 : decode cX0_worthWith 18 = .ok (.invokestatic 83, 3) := by decide +kernel
theorem dX0_worthWith_21 : decode cX0_worthWith 21 = .ok (.ireturn, 1) := by decide +kernel
theorem dX0_worthWith_22 : decode cX0_worthWith 22 = .ok (.iload_n 1, 1) := by decide +kernel
theorem dX0_worthWith_23 : decode cX0_worthWith 23 = .ok (.aload_n 0, 1) := by decide +kernel
theorem dX0_worthWith_24 : decode cX0_worthWith 24 = .ok (.getfield 36, 3) := by decide +kernel
theorem dX0_worthWith_27 : decode cX0_worthWith 27 = .ok (.iload_n 2, 1) := by decide +kernel
theorem dX0_worthWith_28 : decode cX0_worthWith 28 = .ok (.iload_n 3, 1) := by decide +kernel
theorem dX0_worthWith_29 : decode cX0_worthWith 29 = .ok (.invokevirtual 80, 3) := by decide +kernel
theorem dX0_worthWith_32 : decode cX0_worthWith 32 = .ok (.aload_n 0, 1) := by decide +kernel
theorem dX0_worthWith_33 : decode cX0_worthWith 33 = .ok (.getfield 32, 3) := by decide +kernel
theorem dX0_worthWith_36 : decode cX0_worthWith 36 = .ok (.getfield 88, 3) := by decide +kernel
theorem dX0_worthWith_39 : decode cX0_worthWith 39 = .ok (.iload_n 2, 1) := by decide +kernel
theorem dX0_worthWith_40 : decode cX0_worthWith 40 = .ok (.iaload, 1) := by decide +kernel
theorem dX0_worthWith_41 : decode cX0_worthWith 41 = .ok (.imul, 1) := by decide +kernel
theorem dX0_worthWith_42 : decode cX0_worthWith 42 = .ok (.iadd, 1) := by decide +kernel
theorem dX0_worthWith_43 : decode cX0_worthWith 43 = .ok (.ireturn, 1) := by decide +kernel
theorem dX0_tryPiece_0 : decode cX0_tryPiece 0 = .ok (.iload_n 1, 1) := by decide +kernel
theorem dX0_tryPiece_1 : decode cX0_tryPiece 1 = .ok (.aload_n 0, 1) := by decide +kernel
theorem dX0_tryPiece_2 : decode cX0_tryPiece 2 = .ok (.getfield 32, 3) := by decide +kernel
theorem dX0_tryPiece_5 : decode cX0_tryPiece 5 = .ok (.getfield 73, 3) := by decide +kernel
theorem dX0_tryPiece_8 : decode cX0_tryPiece 8 = .ok (.if_icmp .lt 9, 3) := by decide +kernel
theorem dX0_tryPiece_11 : decode cX0_tryPiece 11 = .ok (.aload_n 0, 1) := by decide +kernel
theorem dX0_tryPiece_12 : decode cX0_tryPiece 12 = .ok (.iload_n 2, 1) := by decide +kernel
theorem dX0_tryPiece_13 : decode cX0_tryPiece 13 = .ok (.invokevirtual 69, 3) := by decide +kernel
theorem dX0_tryPiece_16 : decode cX0_tryPiece 16 = .ok (.return_, 1) := by decide +kernel
theorem dX0_tryPiece_17 : decode cX0_tryPiece 17 = .ok (.iconst 1, 1) := by decide +kernel
theorem dX0_tryPiece_18 : decode cX0_tryPiece 18 = .ok (.iload_n 1, 1) := by decide +kernel
theorem dX0_tryPiece_19 : decode cX0_tryPiece 19 = .ok (.ishl, 1) := by decide +kernel
theorem dX0_tryPiece_20 : decode cX0_tryPiece 20 = .ok (.istore_n 3, 1) := by decide +kernel
theorem dX0_tryPiece_21 : decode cX0_tryPiece 21 = .ok (.aload_n 0, 1) := by decide +kernel
theorem dX0_tryPiece_22 : decode cX0_tryPiece 22 = .ok (.getfield 15, 3) := by decide +kernel
theorem dX0_tryPiece_25 : decode cX0_tryPiece 25 = .ok (.iload_n 3, 1) := by decide +kernel
theorem dX0_tryPiece_26 : decode cX0_tryPiece 26 = .ok (.iand, 1) := by decide +kernel
theorem dX0_tryPiece_27 : decode cX0_tryPiece 27 = .ok (.ifCond .eq 20, 3) := by decide +kernel
theorem dX0_tryPiece_30 : decode cX0_tryPiece 30 = .ok (.aload_n 0, 1) := by decide +kernel
theorem dX0_tryPiece_31 : decode cX0_tryPiece 31 = .ok (.getfield 26, 3) := by decide +kernel
theorem dX0_tryPiece_34 : decode cX0_tryPiece 34 = .ok (.iload_n 1, 1) := by decide +kernel
theorem dX0_tryPiece_35 : decode cX0_tryPiece 35 = .ok (.bipush (-5), 2) := by decide +kernel
theorem dX0_tryPiece_37 : decode cX0_tryPiece 37 = .ok (.iastore, 1) := by decide +kernel
theorem dX0_tryPiece_38 : decode cX0_tryPiece 38 = .ok (.aload_n 0, 1) := by decide +kernel
theorem dX0_tryPiece_39 : decode cX0_tryPiece 39 = .ok (.iload_n 1, 1) := by decide +kernel
theorem dX0_tryPiece_40 : decode cX0_tryPiece 40 = .ok (.iconst 1, 1) := by decide +kernel
theorem dX0_tryPiece_41 : decode cX0_tryPiece 41 = .ok (.iadd, 1) := by decide +kernel
theorem dX0_tryPiece_42 : decode cX0_tryPiece 42 = .ok (.iload_n 2, 1) := by decide +kernel
theorem dX0_tryPiece_43 : decode cX0_tryPiece 43 = .ok (.invokevirtual 54, 3) := by decide +kernel
theorem dX0_tryPiece_46 : decode cX0_tryPiece 46 = .ok (.return_, 1) := by decide +kernel
theorem dX0_tryPiece_47 : decode cX0_tryPiece 47 = .ok (.iconst 0, 1) := by decide +kernel
theorem dX0_tryPiece_48 : decode cX0_tryPiece 48 = .ok (.istore 4, 2) := by decide +kernel
theorem dX0_tryPiece_50 : decode cX0_tryPiece 50 = .ok (.iload 4, 2) := by decide +kernel
theorem dX0_tryPiece_52 : decode cX0_tryPiece 52 = .ok (.aload_n 0, 1) := by decide +kernel
theorem dX0_tryPiece_53 : decode cX0_tryPiece 53 = .ok (.getfield 32, 3) := by decide +kernel
theorem dX0_tryPiece_56 : decode cX0_tryPiece 56 = .ok (.getfield 58, 3) := by decide +kernel
theorem dX0_tryPiece_59 : decode cX0_tryPiece 59 = .ok (.if_icmp .ge 98, 3) := by decide +kernel
theorem dX0_tryPiece_62 : decode cX0_tryPiece 62 = .ok (.iload_n 2, 1) := by decide +kernel
theorem dX0_tryPiece_63 : decode cX0_tryPiece 63 = .ok (.aload_n 0, 1) := by decide +kernel
theorem dX0_tryPiece_64 : decode cX0_tryPiece 64 = .ok (.getfield 36, 3) := by decide +kernel
theorem dX0_tryPiece_67 : decode cX0_tryPiece 67 = .ok (.iload 4, 2) := by decide +kernel
theorem dX0_tryPiece_69 : decode cX0_tryPiece 69 = .ok (.aload_n 0, 1) := by decide +kernel
theorem dX0_tryPiece_70 : decode cX0_tryPiece 70 = .ok (.getfield 29, 3) := by decide +kernel
theorem dX0_tryPiece_73 : decode cX0_tryPiece 73 = .ok (.iload 4, 2) := by decide +kernel
theorem dX0_tryPiece_75 : decode cX0_tryPiece 75 = .ok (.iaload, 1) := by decide +kernel
theorem dX0_tryPiece_76 : decode cX0_tryPiece 76 = .ok (.invokevirtual 63, 3) := by decide +kernel
theorem dX0_tryPiece_79 : decode cX0_tryPiece 79 = .ok (.isub, 1) := by decide +kernel
theorem dX0_tryPiece_80 : decode cX0_tryPiece 80 = .ok (.aload_n 0, 1) := by decide +kernel
theorem dX0_tryPiece_81 : decode cX0_tryPiece 81 = .ok (.getfield 36, 3) := by decide +kernel
theorem dX0_tryPiece_84 : decode cX0_tryPiece 84 = .ok (.iload 4, 2) := by decide +kernel
theorem dX0_tryPiece_86 : decode cX0_tryPiece 86 = .ok (.aload_n 0, 1) := by decide +kernel
theorem dX0_tryPiece_87 : decode cX0_tryPiece 87 = .ok (.getfield 29, 3) := by decide +kernel
theorem dX0_tryPiece_90 : decode cX0_tryPiece 90 = .ok (.iload 4, 2) := by decide +kernel
theorem dX0_tryPiece_92 : decode cX0_tryPiece 92 = .ok (.iaload, 1) := by decide +kernel
theorem dX0_tryPiece_93 : decode cX0_tryPiece 93 = .ok (.iload_n 3, 1) := by decide +kernel
theorem dX0_tryPiece_94 : decode cX0_tryPiece 94 = .ok (.ior, 1) := by decide +kernel
theorem dX0_tryPiece_95 : decode cX0_tryPiece 95 = .ok (.invokevirtual 63, 3) := by decide +kernel
theorem dX0_tryPiece_98 : decode cX0_tryPiece 98 = .ok (.iadd, 1) := by decide +kernel
theorem dX0_tryPiece_99 : decode cX0_tryPiece 99 = .ok (.istore 5, 2) := by decide +kernel
theorem dX0_tryPiece_101 : decode cX0_tryPiece 101 = .ok (.iload 5, 2) := by decide +kernel
theorem dX0_tryPiece_103 : decode cX0_tryPiece 103 = .ok (.aload_n 0, 1) := by decide +kernel
theorem dX0_tryPiece_104 : decode cX0_tryPiece 104 = .ok (.getfield 19, 3) := by decide +kernel
theorem dX0_tryPiece_107 : decode cX0_tryPiece 107 = .ok (.if_icmp .ge 44, 3) := by decide +kernel
theorem dX0_tryPiece_110 : decode cX0_tryPiece 110 = .ok (.aload_n 0, 1) := by decide +kernel
theorem dX0_tryPiece_111 : decode cX0_tryPiece 111 = .ok (.getfield 26, 3) := by decide +kernel
theorem dX0_tryPiece_114 : decode cX0_tryPiece 114 = .ok (.iload_n 1, 1) := by decide +kernel
theorem dX0_tryPiece_115 : decode cX0_tryPiece 115 = .ok (.iload 4, 2) := by decide +kernel
theorem dX0_tryPiece_117 : decode cX0_tryPiece 117 = .ok (.iastore, 1) := by decide +kernel
theorem dX0_tryPiece_118 : decode cX0_tryPiece 118 = .ok (.aload_n 0, 1) := by decide +kernel
theorem dX0_tryPiece_119 : decode cX0_tryPiece 119 = .ok (.getfield 29, 3) := by decide +kernel
theorem dX0_tryPiece_122 : decode cX0_tryPiece 122 = .ok (.iload 4, 2) := by decide +kernel
theorem dX0_tryPiece_124 : decode cX0_tryPiece 124 = .ok (.dup2, 1) := by decide +kernel
theorem dX0_tryPiece_125 : decode cX0_tryPiece 125 = .ok (.iaload, 1) := by decide +kernel
theorem dX0_tryPiece_126 : decode cX0_tryPiece 126 = .ok (.iload_n 3, 1) := by decide +kernel
theorem dX0_tryPiece_127 : decode cX0_tryPiece 127 = .ok (.ior, 1) := by decide +kernel
theorem dX0_tryPiece_128 : decode cX0_tryPiece 128 = .ok (.iastore, 1) := by decide +kernel
theorem dX0_tryPiece_129 : decode cX0_tryPiece 129 = .ok (.aload_n 0, 1) := by decide +kernel
theorem dX0_tryPiece_130 : decode cX0_tryPiece 130 = .ok (.iload_n 1, 1) := by decide +kernel
theorem dX0_tryPiece_131 : decode cX0_tryPiece 131 = .ok (.iconst 1, 1) := by decide +kernel
theorem dX0_tryPiece_132 : decode cX0_tryPiece 132 = .ok (.iadd, 1) := by decide +kernel
theorem dX0_tryPiece_133 : decode cX0_tryPiece 133 = .ok (.iload 5, 2) := by decide +kernel
theorem dX0_tryPiece_135 : decode cX0_tryPiece 135 = .ok (.invokevirtual 54, 3) := by decide +kernel
theorem dX0_tryPiece_138 : decode cX0_tryPiece 138 = .ok (.aload_n 0, 1) := by decide +kernel
theorem dX0_tryPiece_139 : decode cX0_tryPiece 139 = .ok (.getfield 29, 3) := by decide +kernel
theorem dX0_tryPiece_142 : decode cX0_tryPiece 142 = .ok (.iload 4, 2) := by decide +kernel
theorem dX0_tryPiece_144 : decode cX0_tryPiece 144 = .ok (.dup2, 1) := by decide +kernel
theorem dX0_tryPiece_145 : decode cX0_tryPiece 145 = .ok (.iaload, 1) := by decide +kernel
theorem dX0_tryPiece_146 : decode cX0_tryPiece 146 = .ok (.iload_n 3, 1) := by decide +kernel
theorem dX0_tryPiece_147 : decode cX0_tryPiece 147 = .ok (.iconst (-1), 1) := by decide +kernel
theorem dX0_tryPiece_148 : decode cX0_tryPiece 148 = .ok (.ixor, 1) := by decide +kernel
theorem dX0_tryPiece_149 : decode cX0_tryPiece 149 = .ok (.iand, 1) := by decide +kernel
theorem dX0_tryPiece_150 : decode cX0_tryPiece 150 = .ok (.iastore, 1) := by decide +kernel
theorem dX0_tryPiece_151 : decode cX0_tryPiece 151 = .ok (.iinc 4 1, 3) := by decide +kernel
theorem dX0_tryPiece_154 : decode cX0_tryPiece 154 = .ok (.goto (-104), 3) := by decide +kernel
theorem dX0_tryPiece_157 : decode cX0_tryPiece 157 = .ok (.return_, 1) := by decide +kernel
theorem dX0_take_0 : decode cX0_take 0 = .ok (.aload_n 0, 1) := by decide +kernel
theorem dX0_take_1 : decode cX0_take 1 = .ok (.iload_n 1, 1) := by decide +kernel
theorem dX0_take_2 : decode cX0_take 2 = .ok (.putfield 19, 3) := by decide +kernel
theorem dX0_take_5 : decode cX0_take 5 = .ok (.aload_n 0, 1) := by decide +kernel
theorem dX0_take_6 : decode cX0_take 6 = .ok (.getfield 26, 3) := by decide +kernel
theorem dX0_take_9 : decode cX0_take 9 = .ok (.iconst 0, 1) := by decide +kernel
theorem dX0_take_10 : decode cX0_take 10 = .ok (.aload_n 0, 1) := by decide +kernel
theorem dX0_take_11 : decode cX0_take 11 = .ok (.getfield 22, 3) := by decide +kernel
theorem dX0_take_14 : decode cX0_take 14 = .ok (.iconst 0, 1) := by decide +kernel
theorem dX0_take_15 : decode cX0_take 15 = .ok (.bipush 8, 2) := by decide +kernel
theorem dX0_take_17 : decode cX0_take 17 = .ok (.invokestatic 91, 3) := by decide +kernel
theorem dX0_take_20 : decode cX0_take 20 = .ok (.return_, 1) := by decide +kernel
theorem dX1_init_0 : decode cX1_init 0 = .ok (.aload_n 0, 1) := by decide +kernel
theorem dX1_init_1 : decode cX1_init 1 = .ok (.invokespecial 3, 3) := by decide +kernel
theorem dX1_init_4 : decode cX1_init 4 = .ok (.aload_n 0, 1) := by decide +kernel
theorem dX1_init_5 : decode cX1_init 5 = .ok (.bipush 8, 2) := by decide +kernel
theorem dX1_init_7 : decode cX1_init 7 = .ok (.newarray .int, 2) := by decide +kernel
theorem dX1_init_9 : decode cX1_init 9 = .ok (.putfield 9, 3) := by decide +kernel
theorem dX1_init_12 : decode cX1_init 12 = .ok (.aload_n 0, 1) := by decide +kernel
theorem dX1_init_13 : decode cX1_init 13 = .ok (.aload_n 1, 1) := by decide +kernel
theorem dX1_init_14 : decode cX1_init 14 = .ok (.putfield 15, 3) := by decide +kernel
theorem dX1_init_17 : decode cX1_init 17 = .ok (.aload_n 0, 1) := by decide +kernel
theorem dX1_init_18 : decode cX1_init 18 = .ok (.aload_n 2, 1) := by decide +kernel
theorem dX1_init_19 : decode cX1_init 19 = .ok (.putfield 19, 3) := by decide +kernel
theorem dX1_init_22 : decode cX1_init 22 = .ok (.return_, 1) := by decide +kernel
theorem dX1_firstOf_0 : decode cX1_firstOf 0 = .ok (.iconst 0, 1) := by decide +kernel
theorem dX1_firstOf_1 : decode cX1_firstOf 1 = .ok (.istore_n 2, 1) := by decide +kernel
theorem dX1_firstOf_2 : decode cX1_firstOf 2 = .ok (.iload_n 2, 1) := by decide +kernel
theorem dX1_firstOf_3 : decode cX1_firstOf 3 = .ok (.aload_n 0, 1) := by decide +kernel
theorem dX1_firstOf_4 : decode cX1_firstOf 4 = .ok (.getfield 15, 3) := by decide +kernel
theorem dX1_firstOf_7 : decode cX1_firstOf 7 = .ok (.getfield 23, 3) := by decide +kernel
theorem dX1_firstOf_10 : decode cX1_firstOf 10 = .ok (.if_icmp .ge 94, 3) := by decide +kernel
theorem dX1_firstOf_13 : decode cX1_firstOf 13 = .ok (.iload_n 2, 1) := by decide +kernel
theorem dX1_firstOf_14 : decode cX1_firstOf 14 = .ok (.iconst 1, 1) := by decide +kernel
theorem dX1_firstOf_15 : decode cX1_firstOf 15 = .ok (.iadd, 1) := by decide +kernel
theorem dX1_firstOf_16 : decode cX1_firstOf 16 = .ok (.istore_n 3, 1) := by decide +kernel
theorem dX1_firstOf_17 : decode cX1_firstOf 17 = .ok (.iload_n 3, 1) := by decide +kernel
theorem dX1_firstOf_18 : decode cX1_firstOf 18 = .ok (.aload_n 0, 1) := by decide +kernel
theorem dX1_firstOf_19 : decode cX1_firstOf 19 = .ok (.getfield 15, 3) := by decide +kernel
theorem dX1_firstOf_22 : decode cX1_firstOf 22 = .ok (.getfield 23, 3) := by decide +kernel
theorem dX1_firstOf_25 : decode cX1_firstOf 25 = .ok (.if_icmp .ge 73, 3) := by decide +kernel
theorem dX1_firstOf_28 : decode cX1_firstOf 28 = .ok (.aload_n 1, 1) := by decide +kernel
theorem dX1_firstOf_29 : decode cX1_firstOf 29 = .ok (.iload_n 2, 1) := by decide +kernel
theorem dX1_firstOf_30 : decode cX1_firstOf 30 = .ok (.iaload, 1) := by decide +kernel
theorem dX1_firstOf_31 : decode cX1_firstOf 31 = .ok (.bipush (-9), 2) := by decide +kernel
theorem dX1_firstOf_33 : decode cX1_firstOf 33 = .ok (.if_icmp .eq 24, 3) := by decide +kernel
theorem dX1_firstOf_36 : decode cX1_firstOf 36 = .ok (.aload_n 1, 1) := by decide +kernel
theorem dX1_firstOf_37 : decode cX1_firstOf 37 = .ok (.iload_n 3, 1) := by decide +kernel
theorem dX1_firstOf_38 : decode cX1_firstOf 38 = .ok (.iaload, 1) := by decide +kernel
theorem dX1_firstOf_39 : decode cX1_firstOf 39 = .ok (.bipush (-9), 2) := by decide +kernel
theorem dX1_firstOf_41 : decode cX1_firstOf 41 = .ok (.if_icmp .eq 16, 3) := by decide +kernel
theorem dX1_firstOf_44 : decode cX1_firstOf 44 = .ok (.aload_n 1, 1) := by decide +kernel
theorem dX1_firstOf_45 : decode cX1_firstOf 45 = .ok (.iload_n 2, 1) := by decide +kernel
theorem dX1_firstOf_46 : decode cX1_firstOf 46 = .ok (.iaload, 1) := by decide +kernel
theorem dX1_firstOf_47 : decode cX1_firstOf 47 = .ok (.aload_n 1, 1) := by decide +kernel
theorem dX1_firstOf_48 : decode cX1_firstOf 48 = .ok (.iload_n 3, 1) := by decide +kernel
theorem dX1_firstOf_49 : decode cX1_firstOf 49 = .ok (.iaload, 1) := by decide +kernel
theorem dX1_firstOf_50 : decode cX1_firstOf 50 = .ok (.if_icmp .eq 7, 3) := by decide +kernel
theorem dX1_firstOf_53 : decode cX1_firstOf 53 = .ok (.iconst 1, 1) := by decide +kernel
theorem dX1_firstOf_54 : decode cX1_firstOf 54 = .ok (.goto 4, 3) := by decide +kernel
theorem dX1_firstOf_57 : decode cX1_firstOf 57 = .ok (.iconst 0, 1) := by decide +kernel
theorem dX1_firstOf_58 : decode cX1_firstOf 58 = .ok (.istore 4, 2) := by decide +kernel
theorem dX1_firstOf_60 : decode cX1_firstOf 60 = .ok (.iload 4, 2) := by decide +kernel
theorem dX1_firstOf_62 : decode cX1_firstOf 62 = .ok (.ifCond .eq 30, 3) := by decide +kernel
theorem dX1_firstOf_65 : decode cX1_firstOf 65 = .ok (.aload_n 0, 1) := by decide +kernel
theorem dX1_firstOf_66 : decode cX1_firstOf 66 = .ok (.aload_n 1, 1) := by decide +kernel
theorem dX1_firstOf_67 : decode cX1_firstOf 67 = .ok (.iload_n 2, 1) := by decide +kernel
theorem dX1_firstOf_68 : decode cX1_firstOf 68 = .ok (.iload_n 3, 1) := by decide +kernel
theorem dX1_firstOf_69 : decode cX1_firstOf 69 = .ok (.invokevirtual 29, 3) := by decide +kernel
theorem dX1_firstOf_72 : decode cX1_firstOf 72 = .ok (.ifCond .eq 20, 3) := by decide +kernel
theorem dX1_firstOf_75 : decode cX1_firstOf 75 = .ok (.aload_n 0, 1) := by decide +kernel
theorem dX1_firstOf_76 : decode cX1_firstOf 76 = .ok (.aload_n 1, 1) := by decide +kernel
theorem dX1_firstOf_77 : decode cX1_firstOf 77 = .ok (.iload_n 3, 1) := by decide +kernel
theorem dX1_firstOf_78 : decode cX1_firstOf 78 = .ok (.iload_n 2, 1) := by decide +kernel
theorem dX1_firstOf_79 : decode cX1_firstOf 79 = .ok (.invokevirtual 29, 3) := by decide +kernel
theorem dX1_firstOf_82 : decode cX1_firstOf 82 = .ok (.ifCond .eq 10, 3) := by decide +kernel
theorem dX1_firstOf_85 : decode cX1_firstOf 85 = .ok (.bipush 10, 2) := by decide +kernel
theorem dX1_firstOf_87 : decode cX1_firstOf 87 = .ok (.iload_n 2, 1) := by decide +kernel
theorem dX1_firstOf_88 : decode cX1_firstOf 88 = .ok (.imul, 1) := by decide +kernel
theorem dX1_firstOf_89 : decode cX1_firstOf 89 = .ok (.iload_n 3, 1) := by decide +kernel
theorem dX1_firstOf_90 : decode cX1_firstOf 90 = .ok (.iadd, 1) := by decide +kernel
theorem dX1_firstOf_91 : decode cX1_firstOf 91 = .ok (.ireturn, 1) := by decide +kernel
theorem dX1_firstOf_92 : decode cX1_firstOf 92 = .ok (.iinc 3 1, 3) := by decide +kernel
theorem dX1_firstOf_95 : decode cX1_firstOf 95 = .ok (.goto (-78), 3) := by decide +kernel
theorem dX1_firstOf_98 : decode cX1_firstOf 98 = .ok (.iinc 2 1, 3) := by decide +kernel
theorem dX1_firstOf_101 : decode cX1_firstOf 101 = .ok (.goto (-99), 3) := by decide +kernel
theorem dX1_firstOf_104 : decode cX1_firstOf 104 = .ok (.bipush (-9), 2) := by decide +kernel
theorem dX1_firstOf_106 : decode cX1_firstOf 106 = .ok (.ireturn, 1) := by decide +kernel
theorem dX1_numberOf_0 : decode cX1_numberOf 0 = .ok (.aload_n 1, 1) := by decide +kernel
theorem dX1_numberOf_1 : decode cX1_numberOf 1 = .ok (.iconst 0, 1) := by decide +kernel
theorem dX1_numberOf_2 : decode cX1_numberOf 2 = .ok (.aload_n 0, 1) := by decide +kernel
theorem dX1_numberOf_3 : decode cX1_numberOf 3 = .ok (.getfield 9, 3) := by decide +kernel
theorem dX1_numberOf_6 : decode cX1_numberOf 6 = .ok (.iconst 0, 1) := by decide +kernel
theorem dX1_numberOf_7 : decode cX1_numberOf 7 = .ok (.bipush 8, 2) := by decide +kernel
theorem dX1_numberOf_9 : decode cX1_numberOf 9 = .ok (.invokestatic 33, 3) := by decide +kernel
theorem dX1_numberOf_12 : decode cX1_numberOf 12 = .ok (.aload_n 0, 1) := by decide +kernel
theorem dX1_numberOf_13 : decode cX1_numberOf 13 = .ok (.aload_n 0, 1) := by decide +kernel
theorem dX1_numberOf_14 : decode cX1_numberOf 14 = .ok (.getfield 9, 3) := by decide +kernel
theorem dX1_numberOf_17 : decode cX1_numberOf 17 = .ok (.invokevirtual 39, 3) := by decide +kernel
theorem dX1_numberOf_20 : decode cX1_numberOf 20 = .ok (.istore_n 2, 1) := by decide +kernel
theorem dX1_numberOf_21 : decode cX1_numberOf 21 = .ok (.iconst 0, 1) := by decide +kernel
theorem dX1_numberOf_22 : decode cX1_numberOf 22 = .ok (.istore_n 3, 1) := by decide +kernel
theorem dX1_numberOf_23 : decode cX1_numberOf 23 = .ok (.iload_n 2, 1) := by decide +kernel
theorem dX1_numberOf_24 : decode cX1_numberOf 24 = .ok (.bipush (-9), 2) := by decide +kernel
theorem dX1_numberOf_26 : decode cX1_numberOf 26 = .ok (.if_icmp .eq 37, 3) := by decide +kernel
theorem dX1_numberOf_29 : decode cX1_numberOf 29 = .ok (.iload_n 3, 1) := by decide +kernel
theorem dX1_numberOf_30 : decode cX1_numberOf 30 = .ok (.sipush 10000, 3) := by decide +kernel
theorem dX1_numberOf_33 : decode cX1_numberOf 33 = .ok (.if_icmp .ge 30, 3) := by decide +kernel
theorem dX1_numberOf_36 : decode cX1_numberOf 36 = .ok (.aload_n 0, 1) := by decide +kernel
theorem dX1_numberOf_37 : decode cX1_numberOf 37 = .ok (.iload_n 2, 1) := by decide +kernel
theorem dX1_numberOf_38 : decode cX1_numberOf 38 = .ok (.bipush 10, 2) := by decide +kernel
theorem dX1_numberOf_40 : decode cX1_numberOf 40 = .ok (.idiv, 1) := by decide +kernel
theorem dX1_numberOf_41 : decode cX1_numberOf 41 = .ok (.iload_n 2, 1) := by decide +kernel
theorem dX1_numberOf_42 : decode cX1_numberOf 42 = .ok (.bipush 10, 2) := by decide +kernel
theorem dX1_numberOf_44 : decode cX1_numberOf 44 = .ok (.irem, 1) := by decide +kernel
theorem dX1_numberOf_45 : decode cX1_numberOf 45 = .ok (.invokevirtual 43, 3) := by decide +kernel
theorem dX1_numberOf_48 : decode cX1_numberOf 48 = .ok (.iinc 3 1, 3) := by decide +kernel
theorem dX1_numberOf_51 : decode cX1_numberOf 51 = .ok (.aload_n 0, 1) := by decide +kernel
theorem dX1_numberOf_52 : decode cX1_numberOf 52 = .ok (.aload_n 0, 1) := by decide +kernel
theorem dX1_numberOf_53 : decode cX1_numberOf 53 = .ok (.getfield 9, 3) := by decide +kernel
theorem dX1_numberOf_56 : decode cX1_numberOf 56 = .ok (.invokevirtual 39, 3) := by decide +kernel
theorem dX1_numberOf_59 : decode cX1_numberOf 59 = .ok (.istore_n 2, 1) := by decide +kernel
theorem dX1_numberOf_60 : decode cX1_numberOf 60 = .ok (.goto (-37), 3) := by decide +kernel
theorem dX1_numberOf_63 : decode cX1_numberOf 63 = .ok (.iload_n 3, 1) := by decide +kernel
theorem dX1_numberOf_64 : decode cX1_numberOf 64 = .ok (.ireturn, 1) := by decide +kernel
theorem dX1_exchange_0 : decode cX1_exchange 0 = .ok (.aload_n 0, 1) := by decide +kernel
theorem dX1_exchange_1 : decode cX1_exchange 1 = .ok (.getfield 9, 3) := by decide +kernel
theorem dX1_exchange_4 : decode cX1_exchange 4 = .ok (.iload_n 1, 1) := by decide +kernel
theorem dX1_exchange_5 : decode cX1_exchange 5 = .ok (.iaload, 1) := by decide +kernel
theorem dX1_exchange_6 : decode cX1_exchange 6 = .ok (.istore_n 3, 1) := by decide +kernel
theorem dX1_exchange_7 : decode cX1_exchange 7 = .ok (.aload_n 0, 1) := by decide +kernel
theorem dX1_exchange_8 : decode cX1_exchange 8 = .ok (.getfield 9, 3) := by decide +kernel
theorem dX1_exchange_11 : decode cX1_exchange 11 = .ok (.iload_n 1, 1) := by decide +kernel
theorem dX1_exchange_12 : decode cX1_exchange 12 = .ok (.aload_n 0, 1) := by decide +kernel
theorem dX1_exchange_13 : decode cX1_exchange 13 = .ok (.getfield 9, 3) := by decide +kernel
theorem dX1_exchange_16 : decode cX1_exchange 16 = .ok (.iload_n 2, 1) := by decide +kernel
theorem dX1_exchange_17 : decode cX1_exchange 17 = .ok (.iaload, 1) := by decide +kernel
theorem dX1_exchange_18 : decode cX1_exchange 18 = .ok (.iastore, 1) := by decide +kernel
theorem dX1_exchange_19 : decode cX1_exchange 19 = .ok (.aload_n 0, 1) := by decide +kernel
theorem dX1_exchange_20 : decode cX1_exchange 20 = .ok (.getfield 9, 3) := by decide +kernel
theorem dX1_exchange_23 : decode cX1_exchange 23 = .ok (.iload_n 2, 1) := by decide +kernel
theorem dX1_exchange_24 : decode cX1_exchange 24 = .ok (.iload_n 3, 1) := by decide +kernel
theorem dX1_exchange_25 : decode cX1_exchange 25 = .ok (.iastore, 1) := by decide +kernel
theorem dX1_exchange_26 : decode cX1_exchange 26 = .ok (.return_, 1) := by decide +kernel
theorem dX1_gains_0 : decode cX1_gains 0 = .ok (.aload_n 1, 1) := by decide +kernel
theorem dX1_gains_1 : decode cX1_gains 1 = .ok (.iload_n 2, 1) := by decide +kernel
theorem dX1_gains_2 : decode cX1_gains 2 = .ok (.iaload, 1) := by decide +kernel
theorem dX1_gains_3 : decode cX1_gains 3 = .ok (.istore 4, 2) := by decide +kernel
theorem dX1_gains_5 : decode cX1_gains 5 = .ok (.aload_n 1, 1) := by decide +kernel
theorem dX1_gains_6 : decode cX1_gains 6 = .ok (.iload 4, 2) := by decide +kernel
theorem dX1_gains_8 : decode cX1_gains 8 = .ok (.invokestatic 47, 3) := by decide +kernel
theorem dX1_gains_11 : decode cX1_gains 11 = .ok (.istore 5, 2) := by decide +kernel
theorem dX1_gains_13 : decode cX1_gains 13 = .ok (.iload 5, 2) := by decide +kernel
theorem dX1_gains_15 : decode cX1_gains 15 = .ok (.iconst 1, 1) := by decide +kernel
theorem dX1_gains_16 : decode cX1_gains 16 = .ok (.iload_n 2, 1) := by decide +kernel
theorem dX1_gains_17 : decode cX1_gains 17 = .ok (.ishl, 1) := by decide +kernel
theorem dX1_gains_18 : decode cX1_gains 18 = .ok (.iconst (-1), 1) := by decide +kernel
theorem dX1_gains_19 : decode cX1_gains 19 = .ok (.ixor, 1) := by decide +kernel
theorem dX1_gains_20 : decode cX1_gains 20 = .ok (.iand, 1) := by decide +kernel
theorem dX1_gains_21 : decode cX1_gains 21 = .ok (.iconst 1, 1) := by decide +kernel
theorem dX1_gains_22 : decode cX1_gains 22 = .ok (.iload_n 3, 1) := by decide +kernel
theorem dX1_gains_23 : decode cX1_gains 23 = .ok (.ishl, 1) := by decide +kernel
theorem dX1_gains_24 : decode cX1_gains 24 = .ok (.ior, 1) := by decide +kernel
theorem dX1_gains_25 : decode cX1_gains 25 = .ok (.istore 6, 2) := by decide +kernel
theorem dX1_gains_27 : decode cX1_gains 27 = .ok (.aload_n 0, 1) := by decide +kernel
theorem dX1_gains_28 : decode cX1_gains 28 = .ok (.getfield 19, 3) := by decide +kernel
theorem dX1_gains_31 : decode cX1_gains 31 = .ok (.iload 4, 2) := by decide +kernel
theorem dX1_gains_33 : decode cX1_gains 33 = .ok (.iload 6, 2) := by decide +kernel
theorem dX1_gains_35 : decode cX1_gains 35 = .ok (.invokevirtual 53, 3) := by decide +kernel
theorem dX1_gains_38 : decode cX1_gains 38 = .ok (.aload_n 0, 1) := by decide +kernel
theorem dX1_gains_39 : decode cX1_gains 39 = .ok (.getfield 19, 3) := by decide +kernel
theorem dX1_gains_42 : decode cX1_gains 42 = .ok (.iload 4, 2) := by decide +kernel
theorem dX1_gains_44 : decode cX1_gains 44 = .ok (.iload 5, 2) := by decide +kernel
theorem dX1_gains_46 : decode cX1_gains 46 = .ok (.invokevirtual 53, 3) := by decide +kernel
theorem dX1_gains_49 : decode cX1_gains 49 = .ok (.if_icmp .ge 7, 3) := by decide +kernel
theorem dX1_gains_52 : decode cX1_gains 52 = .ok (.iconst 1, 1) := by decide +kernel
theorem dX1_gains_53 : decode cX1_gains 53 = .ok (.goto 4, 3) := by decide +kernel
theorem dX1_gains_56 : decode cX1_gains 56 = .ok (.iconst 0, 1) := by decide +kernel
theorem dX1_gains_57 : decode cX1_gains 57 = .ok (.ireturn, 1) := by decide +kernel
theorem dX2_init_0 : decode cX2_init 0 = .ok (.aload_n 0, 1) := by decide +kernel
theorem dX2_init_1 : decode cX2_init 1 = .ok (.invokespecial 3, 3) := by decide +kernel
theorem dX2_init_4 : decode cX2_init 4 = .ok (.aload_n 0, 1) := by decide +kernel
theorem dX2_init_5 : decode cX2_init 5 = .ok (.lconst 0, 1) := by decide +kernel
theorem dX2_init_6 : decode cX2_init 6 = .ok (.putfield 9, 3) := by decide +kernel
theorem dX2_init_9 : decode cX2_init 9 = .ok (.aload_n 0, 1) := by decide +kernel
theorem dX2_init_10 : decode cX2_init 10 = .ok (.lconst 1, 1) := by decide +kernel
theorem dX2_init_11 : decode cX2_init 11 = .ok (.putfield 15, 3) := by decide +kernel
theorem dX2_init_14 : decode cX2_init 14 = .ok (.aload_n 0, 1) := by decide +kernel
theorem dX2_init_15 : decode cX2_init 15 = .ok (.aload_n 1, 1) := by decide +kernel
theorem dX2_init_16 : decode cX2_init 16 = .ok (.putfield 18, 3) := by decide +kernel
theorem dX2_init_19 : decode cX2_init 19 = .ok (.aload_n 0, 1) := by decide +kernel
theorem dX2_init_20 : decode cX2_init 20 = .ok (.aload_n 2, 1) := by decide +kernel
theorem dX2_init_21 : decode cX2_init 21 = .ok (.putfield 22, 3) := by decide +kernel
theorem dX2_init_24 : decode cX2_init 24 = .ok (.return_, 1) := by decide +kernel
theorem dX2_reckon_0 : decode cX2_reckon 0 = .ok (.aload_n 2, 1) := by decide +kernel
theorem dX2_reckon_1 : decode cX2_reckon 1 = .ok (.iload_n 1, 1) := by decide +kernel
theorem dX2_reckon_2 : decode cX2_reckon 2 = .ok (.invokevirtual 26, 3) := by decide +kernel
theorem dX2_reckon_5 : decode cX2_reckon 5 = .ok (.istore_n 3, 1) := by decide +kernel
theorem dX2_reckon_6 : decode cX2_reckon 6 = .ok (.aload_n 0, 1) := by decide +kernel
theorem dX2_reckon_7 : decode cX2_reckon 7 = .ok (.lconst 0, 1) := by decide +kernel
theorem dX2_reckon_8 : decode cX2_reckon 8 = .ok (.putfield 9, 3) := by decide +kernel
theorem dX2_reckon_11 : decode cX2_reckon 11 = .ok (.iconst 0, 1) := by decide +kernel
theorem dX2_reckon_12 : decode cX2_reckon 12 = .ok (.istore 4, 2) := by decide +kernel
theorem dX2_reckon_14 : decode cX2_reckon 14 = .ok (.iload 4, 2) := by decide +kernel
theorem dX2_reckon_16 : decode cX2_reckon 16 = .ok (.iconst 1, 1) := by decide +kernel
theorem dX2_reckon_17 : decode cX2_reckon 17 = .ok (.aload_n 0, 1) := by decide +kernel
theorem dX2_reckon_18 : decode cX2_reckon 18 = .ok (.getfield 18, 3) := by decide +kernel
theorem dX2_reckon_21 : decode cX2_reckon 21 = .ok (.getfield 32, 3) := by decide +kernel
theorem dX2_reckon_24 : decode cX2_reckon 24 = .ok (.ishl, 1) := by decide +kernel
theorem dX2_reckon_25 : decode cX2_reckon 25 = .ok (.if_icmp .ge 56, 3) := by decide +kernel
theorem dX2_reckon_28 : decode cX2_reckon 28 = .ok (.aload_n 0, 1) := by decide +kernel
theorem dX2_reckon_29 : decode cX2_reckon 29 = .ok (.iload 4, 2) := by decide +kernel
theorem dX2_reckon_31 : decode cX2_reckon 31 = .ok (.aload_n 2, 1) := by decide +kernel
theorem dX2_reckon_32 : decode cX2_reckon 32 = .ok (.getfield 38, 3) := by decide +kernel
theorem dX2_reckon_35 : decode cX2_reckon 35 = .ok (.invokevirtual 42, 3) := by decide +kernel
theorem dX2_reckon_38 : decode cX2_reckon 38 = .ok (.lstore 5, 2) := by decide +kernel
theorem dX2_reckon_40 : decode cX2_reckon 40 = .ok (.lload 5, 2) := by decide +kernel
theorem dX2_reckon_42 : decode cX2_reckon 42 = .ok (.lconst 0, 1) := by decide +kernel
theorem dX2_reckon_43 : decode cX2_reckon 43 = .ok (.lcmp, 1) := by decide +kernel
theorem dX2_reckon_44 : decode cX2_reckon 44 = .ok (.ifCond .le 31, 3) := by decide +kernel
theorem dX2_reckon_47 : decode cX2_reckon 47 = .ok (.aload_n 0, 1) := by decide +kernel
theorem dX2_reckon_48 : decode cX2_reckon 48 = .ok (.getfield 22, 3) := by decide +kernel
theorem dX2_reckon_51 : decode cX2_reckon 51 = .ok (.iload_n 1, 1) := by decide +kernel
theorem dX2_reckon_52 : decode cX2_reckon 52 = .ok (.iload_n 3, 1) := by decide +kernel
theorem dX2_reckon_53 : decode cX2_reckon 53 = .ok (.iload 4, 2) := by decide +kernel
theorem dX2_reckon_55 : decode cX2_reckon 55 = .ok (.ior, 1) := by decide +kernel
theorem dX2_reckon_56 : decode cX2_reckon 56 = .ok (.invokevirtual 46, 3) := by decide +kernel
theorem dX2_reckon_59 : decode cX2_reckon 59 = .ok (.ldc 52, 2) := by decide +kernel
theorem dX2_reckon_61 : decode cX2_reckon 61 = .ok (.if_icmp .lt 14, 3) := by decide +kernel
theorem dX2_reckon_64 : decode cX2_reckon 64 = .ok (.aload_n 0, 1) := by decide +kernel
theorem dX2_reckon_65 : decode cX2_reckon 65 = .ok (.dup, 1) := by decide +kernel
theorem dX2_reckon_66 : decode cX2_reckon 66 = .ok (.getfield 9, 3) := by decide +kernel
theorem dX2_reckon_69 : decode cX2_reckon 69 = .ok (.lload 5, 2) := by decide +kernel
theorem dX2_reckon_71 : decode cX2_reckon 71 = .ok (.ladd, 1) := by decide +kernel
theorem dX2_reckon_72 : decode cX2_reckon 72 = .ok (.putfield 9, 3) := by decide +kernel
theorem dX2_reckon_75 : decode cX2_reckon 75 = .ok (.iinc 4 1, 3) := by decide +kernel
theorem dX2_reckon_78 : decode cX2_reckon 78 = .ok (.goto (-64), 3) := by decide +kernel
theorem dX2_reckon_81 : decode cX2_reckon 81 = .ok (.aload_n 0, 1) := by decide +kernel
theorem dX2_reckon_82 : decode cX2_reckon 82 = .ok (.lconst 1, 1) := by decide +kernel
theorem dX2_reckon_83 : decode cX2_reckon 83 = .ok (.putfield 15, 3) := by decide +kernel
theorem dX2_reckon_86 : decode cX2_reckon 86 = .ok (.iconst 0, 1) := by decide +kernel
theorem dX2_reckon_87 : decode cX2_reckon 87 = .ok (.istore 4, 2) := by decide +kernel
theorem dX2_reckon_89 : decode cX2_reckon 89 = .ok (.iload 4, 2) := by decide +kernel
theorem dX2_reckon_91 : decode cX2_reckon 91 = .ok (.aload_n 0, 1) := by decide +kernel
theorem dX2_reckon_92 : decode cX2_reckon 92 = .ok (.getfield 18, 3) := by decide +kernel
theorem dX2_reckon_95 : decode cX2_reckon 95 = .ok (.getfield 32, 3) := by decide +kernel
theorem dX2_reckon_98 : decode cX2_reckon 98 = .ok (.if_icmp .ge 21, 3) := by decide +kernel
theorem dX2_reckon_101 : decode cX2_reckon 101 = .ok (.aload_n 0, 1) := by decide +kernel
theorem dX2_reckon_102 : decode cX2_reckon 102 = .ok (.dup, 1) := by decide +kernel
theorem dX2_reckon_103 : decode cX2_reckon 103 = .ok (.getfield 15, 3) := by decide +kernel
theorem dX2_reckon_106 : decode cX2_reckon 106 = .ok (.ldc2_w 53, 3) := by decide +kernel
theorem dX2_reckon_109 : decode cX2_reckon 109 = .ok (.lmul, 1) := by decide +kernel
theorem dX2_reckon_110 : decode cX2_reckon 110 = .ok (.putfield 15, 3) := by decide +kernel
theorem dX2_reckon_113 : decode cX2_reckon 113 = .ok (.iinc 4 1, 3) := by decide +kernel
theorem dX2_reckon_116 : decode cX2_reckon 116 = .ok (.goto (-27), 3) := by decide +kernel
theorem dX2_reckon_119 : decode cX2_reckon 119 = .ok (.aload_n 0, 1) := by decide +kernel
theorem dX2_reckon_120 : decode cX2_reckon 120 = .ok (.invokevirtual 55, 3) := by decide +kernel
theorem dX2_reckon_123 : decode cX2_reckon 123 = .ok (.return_, 1) := by decide +kernel
theorem dX2_chanceOf_0 : decode cX2_chanceOf 0 = .ok (.lconst 1, 1) := by decide +kernel
theorem dX2_chanceOf_1 : decode cX2_chanceOf 1 = .ok (.lstore_n 3, 1) := by decide +kernel
theorem dX2_chanceOf_2 : decode cX2_chanceOf 2 = .ok (.iconst 0, 1) := by decide +kernel
theorem dX2_chanceOf_3 : decode cX2_chanceOf 3 = .ok (.istore 5, 2) := by decide +kernel
theorem dX2_chanceOf_5 : decode cX2_chanceOf 5 = .ok (.iload 5, 2) := by decide +kernel
theorem dX2_chanceOf_7 : decode cX2_chanceOf 7 = .ok (.aload_n 0, 1) := by decide +kernel
theorem dX2_chanceOf_8 : decode cX2_chanceOf 8 = .ok (.getfield 18, 3) := by decide +kernel
theorem dX2_chanceOf_11 : decode cX2_chanceOf 11 = .ok (.getfield 32, 3) := by decide +kernel
theorem dX2_chanceOf_14 : decode cX2_chanceOf 14 = .ok (.if_icmp .ge 37, 3) := by decide +kernel
theorem dX2_chanceOf_17 : decode cX2_chanceOf 17 = .ok (.lload_n 3, 1) := by decide +kernel
theorem dX2_chanceOf_18 : decode cX2_chanceOf 18 = .ok (.iload_n 1, 1) := by decide +kernel
theorem dX2_chanceOf_19 : decode cX2_chanceOf 19 = .ok (.iload 5, 2) := by decide +kernel
theorem dX2_chanceOf_21 : decode cX2_chanceOf 21 = .ok (.ishr, 1) := by decide +kernel
theorem dX2_chanceOf_22 : decode cX2_chanceOf 22 = .ok (.iconst 1, 1) := by decide +kernel
theorem dX2_chanceOf_23 : decode cX2_chanceOf 23 = .ok (.iand, 1) := by decide +kernel
theorem dX2_chanceOf_24 : decode cX2_chanceOf 24 = .ok (.ifCond .eq 11, 3) := by decide +kernel
theorem dX2_chanceOf_27 : decode cX2_chanceOf 27 = .ok (.aload_n 2, 1) := by decide +kernel
theorem dX2_chanceOf_28 : decode cX2_chanceOf 28 = .ok (.iload 5, 2) := by decide +kernel
theorem dX2_chanceOf_30 : decode cX2_chanceOf 30 = .ok (.iaload, 1) := by decide +kernel
theorem dX2_chanceOf_31 : decode cX2_chanceOf 31 = .ok (.i2l, 1) := by decide +kernel
theorem dX2_chanceOf_32 : decode cX2_chanceOf 32 = .ok (.goto 11, 3) := by decide +kernel
theorem dX2_chanceOf_35 : decode cX2_chanceOf 35 = .ok (.bipush 10, 2) := by decide +kernel
theorem dX2_chanceOf_37 : decode cX2_chanceOf 37 = .ok (.aload_n 2, 1) := by decide +kernel
theorem dX2_chanceOf_38 : decode cX2_chanceOf 38 = .ok (.iload 5, 2) := by decide +kernel
theorem dX2_chanceOf_40 : decode cX2_chanceOf 40 = .ok (.iaload, 1) := by decide +kernel
theorem dX2_chanceOf_41 : decode cX2_chanceOf 41 = .ok (.isub, 1) := by decide +kernel
theorem dX2_chanceOf_42 : decode cX2_chanceOf 42 = .ok (.i2l, 1) := by decide +kernel
theorem dX2_chanceOf_43 : decode cX2_chanceOf 43 = .ok (.lmul, 1) := by decide +kernel
theorem dX2_chanceOf_44 : decode cX2_chanceOf 44 = .ok (.lstore_n 3, 1) := by decide +kernel
theorem dX2_chanceOf_45 : decode cX2_chanceOf 45 = .ok (.iinc 5 1, 3) := by decide +kernel
theorem dX2_chanceOf_48 : decode cX2_chanceOf 48 = .ok (.goto (-43), 3) := by decide +kernel
theorem dX2_chanceOf_51 : decode cX2_chanceOf 51 = .ok (.lload_n 3, 1) := by decide +kernel
theorem dX2_chanceOf_52 : decode cX2_chanceOf 52 = .ok (.lreturn, 1) := by decide +kernel
theorem dX2_reduce_0 : decode cX2_reduce 0 = .ok (.iconst 0, 1) := by decide +kernel
theorem dX2_reduce_1 : decode cX2_reduce 1 = .ok (.istore_n 1, 1) := by decide +kernel
theorem dX2_reduce_2 : decode cX2_reduce 2 = .ok (.iload_n 1, 1) := by decide +kernel
theorem dX2_reduce_3 : decode cX2_reduce 3 = .ok (.aload_n 0, 1) := by decide +kernel
theorem dX2_reduce_4 : decode cX2_reduce 4 = .ok (.getfield 18, 3) := by decide +kernel
theorem dX2_reduce_7 : decode cX2_reduce 7 = .ok (.getfield 32, 3) := by decide +kernel
theorem dX2_reduce_10 : decode cX2_reduce 10 = .ok (.if_icmp .ge 19, 3) := by decide +kernel
theorem dX2_reduce_13 : decode cX2_reduce 13 = .ok (.aload_n 0, 1) := by decide +kernel
theorem dX2_reduce_14 : decode cX2_reduce 14 = .ok (.iconst 2, 1) := by decide +kernel
theorem dX2_reduce_15 : decode cX2_reduce 15 = .ok (.invokevirtual 58, 3) := by decide +kernel
theorem dX2_reduce_18 : decode cX2_reduce 18 = .ok (.aload_n 0, 1) := by decide +kernel
theorem dX2_reduce_19 : decode cX2_reduce 19 = .ok (.iconst 5, 1) := by decide +kernel
theorem dX2_reduce_20 : decode cX2_reduce 20 = .ok (.invokevirtual 58, 3) := by decide +kernel
theorem dX2_reduce_23 : decode cX2_reduce 23 = .ok (.iinc 1 1, 3) := by decide +kernel
theorem dX2_reduce_26 : decode cX2_reduce 26 = .ok (.goto (-24), 3) := by decide +kernel
theorem dX2_reduce_29 : decode cX2_reduce 29 = .ok (.return_, 1) := by decide +kernel
theorem dX2_divideBoth_0 : decode cX2_divideBoth 0 = .ok (.iload_n 1, 1) := by decide +kernel
theorem dX2_divideBoth_1 : decode cX2_divideBoth 1 = .ok (.iconst 1, 1) := by decide +kernel
theorem dX2_divideBoth_2 : decode cX2_divideBoth 2 = .ok (.if_icmp .le 49, 3) := by decide +kernel
theorem dX2_divideBoth_5 : decode cX2_divideBoth 5 = .ok (.aload_n 0, 1) := by decide +kernel
theorem dX2_divideBoth_6 : decode cX2_divideBoth 6 = .ok (.getfield 9, 3) := by decide +kernel
theorem dX2_divideBoth_9 : decode cX2_divideBoth 9 = .ok (.iload_n 1, 1) := by decide +kernel
theorem dX2_divideBoth_10 : decode cX2_divideBoth 10 = .ok (.i2l, 1) := by decide +kernel
theorem dX2_divideBoth_11 : decode cX2_divideBoth 11 = .ok (.lrem, 1) := by decide +kernel
theorem dX2_divideBoth_12 : decode cX2_divideBoth 12 = .ok (.lconst 0, 1) := by decide +kernel
theorem dX2_divideBoth_13 : decode cX2_divideBoth 13 = .ok (.lcmp, 1) := by decide +kernel
theorem dX2_divideBoth_14 : decode cX2_divideBoth 14 = .ok (.ifCond .ne 37, 3) := by decide +kernel
theorem dX2_divideBoth_17 : decode cX2_divideBoth 17 = .ok (.aload_n 0, 1) := by decide +kernel
theorem dX2_divideBoth_18 : decode cX2_divideBoth 18 = .ok (.getfield 15, 3) := by decide +kernel
theorem dX2_divideBoth_21 : decode cX2_divideBoth 21 = .ok (.iload_n 1, 1) := by decide +kernel
theorem dX2_divideBoth_22 : decode cX2_divideBoth 22 = .ok (.i2l, 1) := by decide +kernel
theorem dX2_divideBoth_23 : decode cX2_divideBoth 23 = .ok (.lrem, 1) := by decide +kernel
theorem dX2_divideBoth_24 : decode cX2_divideBoth 24 = .ok (.lconst 0, 1) := by decide +kernel
theorem dX2_divideBoth_25 : decode cX2_divideBoth 25 = .ok (.lcmp, 1) := by decide +kernel
theorem dX2_divideBoth_26 : decode cX2_divideBoth 26 = .ok (.ifCond .ne 25, 3) := by decide +kernel
theorem dX2_divideBoth_29 : decode cX2_divideBoth 29 = .ok (.aload_n 0, 1) := by decide +kernel
theorem dX2_divideBoth_30 : decode cX2_divideBoth 30 = .ok (.dup, 1) := by decide +kernel
theorem dX2_divideBoth_31 : decode cX2_divideBoth 31 = .ok (.getfield 9, 3) := by decide +kernel
theorem dX2_divideBoth_34 : decode cX2_divideBoth 34 = .ok (.iload_n 1, 1) := by decide +kernel
theorem dX2_divideBoth_35 : decode cX2_divideBoth 35 = .ok (.i2l, 1) := by decide +kernel
theorem dX2_divideBoth_36 : decode cX2_divideBoth 36 = .ok (.ldiv, 1) := by decide +kernel
theorem dX2_divideBoth_37 : decode cX2_divideBoth 37 = .ok (.putfield 9, 3) := by decide +kernel
theorem dX2_divideBoth_40 : decode cX2_divideBoth 40 = .ok (.aload_n 0, 1) := by decide +kernel
theorem dX2_divideBoth_41 : decode cX2_divideBoth 41 = .ok (.dup, 1) := by decide +kernel
theorem dX2_divideBoth_42 : decode cX2_divideBoth 42 = .ok (.getfield 15, 3) := by decide +kernel
theorem dX2_divideBoth_45 : decode cX2_divideBoth 45 = .ok (.iload_n 1, 1) := by decide +kernel
theorem dX2_divideBoth_46 : decode cX2_divideBoth 46 = .ok (.i2l, 1) := by decide +kernel
theorem dX2_divideBoth_47 : decode cX2_divideBoth 47 = .ok (.ldiv, 1) := by decide +kernel
theorem dX2_divideBoth_48 : decode cX2_divideBoth 48 = .ok (.putfield 15, 3) := by decide +kernel
theorem dX2_divideBoth_51 : decode cX2_divideBoth 51 = .ok (.return_, 1) := by decide +kernel
theorem dX3_init_0 : decode cX3_init 0 = .ok (.aload_n 0, 1) := by decide +kernel
theorem dX3_init_1 : decode cX3_init 1 = .ok (.invokespecial 3, 3) := by decide +kernel
theorem dX3_init_4 : decode cX3_init 4 = .ok (.aload_n 0, 1) := by decide +kernel
theorem dX3_init_5 : decode cX3_init 5 = .ok (.bipush 8, 2) := by decide +kernel
theorem dX3_init_7 : decode cX3_init 7 = .ok (.newarray .int, 2) := by decide +kernel
theorem dX3_init_9 : decode cX3_init 9 = .ok (.putfield 9, 3) := by decide +kernel
theorem dX3_init_12 : decode cX3_init 12 = .ok (.aload_n 0, 1) := by decide +kernel
theorem dX3_init_13 : decode cX3_init 13 = .ok (.bipush 8, 2) := by decide +kernel
theorem dX3_init_15 : decode cX3_init 15 = .ok (.newarray .int, 2) := by decide +kernel
theorem dX3_init_17 : decode cX3_init 17 = .ok (.putfield 15, 3) := by decide +kernel
theorem dX3_init_20 : decode cX3_init 20 = .ok (.aload_n 0, 1) := by decide +kernel
theorem dX3_init_21 : decode cX3_init 21 = .ok (.iconst 0, 1) := by decide +kernel
theorem dX3_init_22 : decode cX3_init 22 = .ok (.putfield 18, 3) := by decide +kernel
theorem dX3_init_25 : decode cX3_init 25 = .ok (.aload_n 0, 1) := by decide +kernel
theorem dX3_init_26 : decode cX3_init 26 = .ok (.iconst 0, 1) := by decide +kernel
theorem dX3_init_27 : decode cX3_init 27 = .ok (.putfield 22, 3) := by decide +kernel
theorem dX3_init_30 : decode cX3_init 30 = .ok (.aload_n 0, 1) := by decide +kernel
theorem dX3_init_31 : decode cX3_init 31 = .ok (.iconst 4, 1) := by decide +kernel
theorem dX3_init_32 : decode cX3_init 32 = .ok (.newarray .int, 2) := by decide +kernel
theorem dX3_init_34 : decode cX3_init 34 = .ok (.putfield 25, 3) := by decide +kernel
theorem dX3_init_37 : decode cX3_init 37 = .ok (.aload_n 0, 1) := by decide +kernel
theorem dX3_init_38 : decode cX3_init 38 = .ok (.getfield 9, 3) := by decide +kernel
theorem dX3_init_41 : decode cX3_init 41 = .ok (.bipush (-9), 2) := by decide +kernel
theorem dX3_init_43 : decode cX3_init 43 = .ok (.invokestatic 28, 3) := by decide +kernel
theorem dX3_init_46 : decode cX3_init 46 = .ok (.return_, 1) := by decide +kernel
theorem dX3_empty_0 : decode cX3_empty 0 = .ok (.aload_n 0, 1) := by decide +kernel
theorem dX3_empty_1 : decode cX3_empty 1 = .ok (.getfield 9, 3) := by decide +kernel
theorem dX3_empty_4 : decode cX3_empty 4 = .ok (.bipush (-9), 2) := by decide +kernel
theorem dX3_empty_6 : decode cX3_empty 6 = .ok (.invokestatic 28, 3) := by decide +kernel
theorem dX3_empty_9 : decode cX3_empty 9 = .ok (.aload_n 0, 1) := by decide +kernel
theorem dX3_empty_10 : decode cX3_empty 10 = .ok (.getfield 15, 3) := by decide +kernel
theorem dX3_empty_13 : decode cX3_empty 13 = .ok (.iconst 0, 1) := by decide +kernel
theorem dX3_empty_14 : decode cX3_empty 14 = .ok (.invokestatic 28, 3) := by decide +kernel
theorem dX3_empty_17 : decode cX3_empty 17 = .ok (.aload_n 0, 1) := by decide +kernel
theorem dX3_empty_18 : decode cX3_empty 18 = .ok (.iconst 0, 1) := by decide +kernel
theorem dX3_empty_19 : decode cX3_empty 19 = .ok (.putfield 18, 3) := by decide +kernel
theorem dX3_empty_22 : decode cX3_empty 22 = .ok (.aload_n 0, 1) := by decide +kernel
theorem dX3_empty_23 : decode cX3_empty 23 = .ok (.invokevirtual 34, 3) := by decide +kernel
theorem dX3_empty_26 : decode cX3_empty 26 = .ok (.return_, 1) := by decide +kernel
theorem dX3_become_0 : decode cX3_become 0 = .ok (.aload_n 1, 1) := by decide +kernel
theorem dX3_become_1 : decode cX3_become 1 = .ok (.getfield 9, 3) := by decide +kernel
theorem dX3_become_4 : decode cX3_become 4 = .ok (.iconst 0, 1) := by decide +kernel
theorem dX3_become_5 : decode cX3_become 5 = .ok (.aload_n 0, 1) := by decide +kernel
theorem dX3_become_6 : decode cX3_become 6 = .ok (.getfield 9, 3) := by decide +kernel
theorem dX3_become_9 : decode cX3_become 9 = .ok (.iconst 0, 1) := by decide +kernel
theorem dX3_become_10 : decode cX3_become 10 = .ok (.bipush 8, 2) := by decide +kernel
theorem dX3_become_12 : decode cX3_become 12 = .ok (.invokestatic 37, 3) := by decide +kernel
theorem dX3_become_15 : decode cX3_become 15 = .ok (.aload_n 1, 1) := by decide +kernel
theorem dX3_become_16 : decode cX3_become 16 = .ok (.getfield 15, 3) := by decide +kernel
theorem dX3_become_19 : decode cX3_become 19 = .ok (.iconst 0, 1) := by decide +kernel
theorem dX3_become_20 : decode cX3_become 20 = .ok (.aload_n 0, 1) := by decide +kernel
theorem dX3_become_21 : decode cX3_become 21 = .ok (.getfield 15, 3) := by decide +kernel
theorem dX3_become_24 : decode cX3_become 24 = .ok (.iconst 0, 1) := by decide +kernel
theorem dX3_become_25 : decode cX3_become 25 = .ok (.bipush 8, 2) := by decide +kernel
theorem dX3_become_27 : decode cX3_become 27 = .ok (.invokestatic 37, 3) := by decide +kernel
theorem dX3_become_30 : decode cX3_become 30 = .ok (.aload_n 0, 1) := by decide +kernel
theorem dX3_become_31 : decode cX3_become 31 = .ok (.aload_n 1, 1) := by decide +kernel
theorem dX3_become_32 : decode cX3_become 32 = .ok (.getfield 18, 3) := by decide +kernel
theorem dX3_become_35 : decode cX3_become 35 = .ok (.putfield 18, 3) := by decide +kernel
theorem dX3_become_38 : decode cX3_become 38 = .ok (.aload_n 0, 1) := by decide +kernel
theorem dX3_become_39 : decode cX3_become 39 = .ok (.aload_n 1, 1) := by decide +kernel
theorem dX3_become_40 : decode cX3_become 40 = .ok (.getfield 22, 3) := by decide +kernel
theorem dX3_become_43 : decode cX3_become 43 = .ok (.putfield 22, 3) := by decide +kernel
theorem dX3_become_46 : decode cX3_become 46 = .ok (.aload_n 1, 1) := by decide +kernel
theorem dX3_become_47 : decode cX3_become 47 = .ok (.getfield 25, 3) := by decide +kernel
theorem dX3_become_50 : decode cX3_become 50 = .ok (.iconst 0, 1) := by decide +kernel
theorem dX3_become_51 : decode cX3_become 51 = .ok (.aload_n 0, 1) := by decide +kernel
theorem dX3_become_52 : decode cX3_become 52 = .ok (.getfield 25, 3) := by decide +kernel
theorem dX3_become_55 : decode cX3_become 55 = .ok (.iconst 0, 1) := by decide +kernel
theorem dX3_become_56 : decode cX3_become 56 = .ok (.iconst 4, 1) := by decide +kernel
theorem dX3_become_57 : decode cX3_become 57 = .ok (.invokestatic 37, 3) := by decide +kernel
theorem dX3_become_60 : decode cX3_become 60 = .ok (.return_, 1) := by decide +kernel
theorem dX3_unsee_0 : decode cX3_unsee 0 = .ok (.aload_n 0, 1) := by decide +kernel
theorem dX3_unsee_1 : decode cX3_unsee 1 = .ok (.iconst 0, 1) := by decide +kernel
theorem dX3_unsee_2 : decode cX3_unsee 2 = .ok (.putfield 22, 3) := by decide +kernel
theorem dX3_unsee_5 : decode cX3_unsee 5 = .ok (.aload_n 0, 1) := by decide +kernel
theorem dX3_unsee_6 : decode cX3_unsee 6 = .ok (.getfield 25, 3) := by decide +kernel
theorem dX3_unsee_9 : decode cX3_unsee 9 = .ok (.iconst 0, 1) := by decide +kernel
theorem dX3_unsee_10 : decode cX3_unsee 10 = .ok (.invokestatic 28, 3) := by decide +kernel
theorem dX3_unsee_13 : decode cX3_unsee 13 = .ok (.return_, 1) := by decide +kernel
theorem dX3_isStone_0 : decode cX3_isStone 0 = .ok (.aload_n 0, 1) := by decide +kernel
theorem dX3_isStone_1 : decode cX3_isStone 1 = .ok (.getfield 18, 3) := by decide +kernel
theorem dX3_isStone_4 : decode cX3_isStone 4 = .ok (.iload_n 1, 1) := by decide +kernel
theorem dX3_isStone_5 : decode cX3_isStone 5 = .ok (.ishr, 1) := by decide +kernel
theorem dX3_isStone_6 : decode cX3_isStone 6 = .ok (.iconst 1, 1) := by decide +kernel
theorem dX3_isStone_7 : decode cX3_isStone 7 = .ok (.iand, 1) := by decide +kernel
theorem dX3_isStone_8 : decode cX3_isStone 8 = .ok (.ifCond .eq 7, 3) := by decide +kernel
theorem dX3_isStone_11 : decode cX3_isStone 11 = .ok (.iconst 1, 1) := by decide +kernel
theorem dX3_isStone_12 : decode cX3_isStone 12 = .ok (.goto 4, 3) := by decide +kernel
theorem dX3_isStone_15 : decode cX3_isStone 15 = .ok (.iconst 0, 1) := by decide +kernel
theorem dX3_isStone_16 : decode cX3_isStone 16 = .ok (.ireturn, 1) := by decide +kernel
theorem dX3_makeStone_0 : decode cX3_makeStone 0 = .ok (.aload_n 0, 1) := by decide +kernel
theorem dX3_makeStone_1 : decode cX3_makeStone 1 = .ok (.getfield 9, 3) := by decide +kernel
theorem dX3_makeStone_4 : decode cX3_makeStone 4 = .ok (.iload_n 1, 1) := by decide +kernel
theorem dX3_makeStone_5 : decode cX3_makeStone 5 = .ok (.bipush (-9), 2) := by decide +kernel
theorem dX3_makeStone_7 : decode cX3_makeStone 7 = .ok (.iastore, 1) := by decide +kernel
theorem dX3_makeStone_8 : decode cX3_makeStone 8 = .ok (.aload_n 0, 1) := by decide +kernel
theorem dX3_makeStone_9 : decode cX3_makeStone 9 = .ok (.dup, 1) := by decide +kernel
theorem dX3_makeStone_10 : decode cX3_makeStone 10 = .ok (.getfield 18, 3) := by decide +kernel
theorem dX3_makeStone_13 : decode cX3_makeStone 13 = .ok (.iconst 1, 1) := by decide +kernel
theorem dX3_makeStone_14 : decode cX3_makeStone 14 = .ok (.iload_n 1, 1) := by decide +kernel
theorem dX3_makeStone_15 : decode cX3_makeStone 15 = .ok (.ishl, 1) := by decide +kernel
theorem dX3_makeStone_16 : decode cX3_makeStone 16 = .ok (.ior, 1) := by decide +kernel
theorem dX3_makeStone_17 : decode cX3_makeStone 17 = .ok (.putfield 18, 3) := by decide +kernel
theorem dX3_makeStone_20 : decode cX3_makeStone 20 = .ok (.return_, 1) := by decide +kernel
theorem dX3_makeNoStone_0 : decode cX3_makeNoStone 0 = .ok (.aload_n 0, 1) := by decide +kernel
theorem dX3_makeNoStone_1 : decode cX3_makeNoStone 1 = .ok (.dup, 1) := by decide +kernel
theorem dX3_makeNoStone_2 : decode cX3_makeNoStone 2 = .ok (.getfield 18, 3) := by decide +kernel
theorem dX3_makeNoStone_5 : decode cX3_makeNoStone 5 = .ok (.iconst 1, 1) := by decide +kernel
theorem dX3_makeNoStone_6 : decode cX3_makeNoStone 6 = .ok (.iload_n 1, 1) := by decide +kernel
theorem dX3_makeNoStone_7 : decode cX3_makeNoStone 7 = .ok (.ishl, 1) := by decide +kernel
theorem dX3_makeNoStone_8 : decode cX3_makeNoStone 8 = .ok (.iconst (-1), 1) := by decide +kernel
theorem dX3_makeNoStone_9 : decode cX3_makeNoStone 9 = .ok (.ixor, 1) := by decide +kernel
theorem dX3_makeNoStone_10 : decode cX3_makeNoStone 10 = .ok (.iand, 1) := by decide +kernel
theorem dX3_makeNoStone_11 : decode cX3_makeNoStone 11 = .ok (.putfield 18, 3) := by decide +kernel
theorem dX3_makeNoStone_14 : decode cX3_makeNoStone 14 = .ok (.return_, 1) := by decide +kernel
theorem dX3_ownedBy_0 : decode cX3_ownedBy 0 = .ok (.aload_n 0, 1) := by decide +kernel
theorem dX3_ownedBy_1 : decode cX3_ownedBy 1 = .ok (.getfield 9, 3) := by decide +kernel
theorem dX3_ownedBy_4 : decode cX3_ownedBy 4 = .ok (.iload_n 1, 1) := by decide +kernel
theorem dX3_ownedBy_5 : decode cX3_ownedBy 5 = .ok (.invokestatic 43, 3) := by decide +kernel
theorem dX3_ownedBy_8 : decode cX3_ownedBy 8 = .ok (.ireturn, 1) := by decide +kernel
theorem dX3_ownedPieces_0 : decode cX3_ownedPieces 0 = .ok (.iconst 0, 1) := by decide +kernel
theorem dX3_ownedPieces_1 : decode cX3_ownedPieces 1 = .ok (.istore_n 1, 1) := by decide +kernel
theorem dX3_ownedPieces_2 : decode cX3_ownedPieces 2 = .ok (.iconst 0, 1) := by decide +kernel
theorem dX3_ownedPieces_3 : decode cX3_ownedPieces 3 = .ok (.istore_n 2, 1) := by decide +kernel
theorem dX3_ownedPieces_4 : decode cX3_ownedPieces 4 = .ok (.iload_n 2, 1) := by decide +kernel
theorem dX3_ownedPieces_5 : decode cX3_ownedPieces 5 = .ok (.bipush 8, 2) := by decide +kernel
theorem dX3_ownedPieces_7 : decode cX3_ownedPieces 7 = .ok (.if_icmp .ge 28, 3) := by decide +kernel
theorem dX3_ownedPieces_10 : decode cX3_ownedPieces 10 = .ok (.iload_n 1, 1) := by decide +kernel
theorem dX3_ownedPieces_11 : decode cX3_ownedPieces 11 = .ok (.aload_n 0, 1) := by decide +kernel
theorem dX3_ownedPieces_12 : decode cX3_ownedPieces 12 = .ok (.getfield 9, 3) := by decide +kernel
theorem dX3_ownedPieces_15 : decode cX3_ownedPieces 15 = .ok (.iload_n 2, 1) := by decide +kernel
theorem dX3_ownedPieces_16 : decode cX3_ownedPieces 16 = .ok (.iaload, 1) := by decide +kernel
theorem dX3_ownedPieces_17 : decode cX3_ownedPieces 17 = .ok (.bipush (-9), 2) := by decide +kernel
theorem dX3_ownedPieces_19 : decode cX3_ownedPieces 19 = .ok (.if_icmp .ne 7, 3) := by decide +kernel
theorem dX3_ownedPieces_22 : decode cX3_ownedPieces 22 = .ok (.iconst 0, 1) := by decide +kernel
theorem dX3_ownedPieces_23 : decode cX3_ownedPieces 23 = .ok (.goto 4, 3) := by decide +kernel
theorem dX3_ownedPieces_26 : decode cX3_ownedPieces 26 = .ok (.iconst 1, 1) := by decide +kernel
theorem dX3_ownedPieces_27 : decode cX3_ownedPieces 27 = .ok (.iadd, 1) := by decide +kernel
theorem dX3_ownedPieces_28 : decode cX3_ownedPieces 28 = .ok (.istore_n 1, 1) := by decide +kernel
theorem dX3_ownedPieces_29 : decode cX3_ownedPieces 29 = .ok (.iinc 2 1, 3) := by decide +kernel
theorem dX3_ownedPieces_32 : decode cX3_ownedPieces 32 = .ok (.goto (-28), 3) := by decide +kernel
theorem dX3_ownedPieces_35 : decode cX3_ownedPieces 35 = .ok (.iload_n 1, 1) := by decide +kernel
theorem dX3_ownedPieces_36 : decode cX3_ownedPieces 36 = .ok (.ireturn, 1) := by decide +kernel
theorem dX3_ownedIn_0 : decode cX3_ownedIn 0 = .ok (.iconst 0, 1) := by decide +kernel
theorem dX3_ownedIn_1 : decode cX3_ownedIn 1 = .ok (.istore_n 2, 1) := by decide +kernel
theorem dX3_ownedIn_2 : decode cX3_ownedIn 2 = .ok (.iconst 0, 1) := by decide +kernel
theorem dX3_ownedIn_3 : decode cX3_ownedIn 3 = .ok (.istore_n 3, 1) := by decide +kernel
theorem dX3_ownedIn_4 : decode cX3_ownedIn 4 = .ok (.iload_n 3, 1) := by decide +kernel
theorem dX3_ownedIn_5 : decode cX3_ownedIn 5 = .ok (.aload_n 0, 1) := by decide +kernel
theorem dX3_ownedIn_6 : decode cX3_ownedIn 6 = .ok (.arraylength, 1) := by decide +kernel
theorem dX3_ownedIn_7 : decode cX3_ownedIn 7 = .ok (.if_icmp .ge 26, 3) := by decide +kernel
theorem dX3_ownedIn_10 : decode cX3_ownedIn 10 = .ok (.iload_n 2, 1) := by decide +kernel
theorem dX3_ownedIn_11 : decode cX3_ownedIn 11 = .ok (.aload_n 0, 1) := by decide +kernel
theorem dX3_ownedIn_12 : decode cX3_ownedIn 12 = .ok (.iload_n 3, 1) := by decide +kernel
theorem dX3_ownedIn_13 : decode cX3_ownedIn 13 = .ok (.iaload, 1) := by decide +kernel
theorem dX3_ownedIn_14 : decode cX3_ownedIn 14 = .ok (.iload_n 1, 1) := by decide +kernel
theorem dX3_ownedIn_15 : decode cX3_ownedIn 15 = .ok (.if_icmp .ne 9, 3) := by decide +kernel
theorem dX3_ownedIn_18 : decode cX3_ownedIn 18 = .ok (.iconst 1, 1) := by decide +kernel
theorem dX3_ownedIn_19 : decode cX3_ownedIn 19 = .ok (.iload_n 3, 1) := by decide +kernel
theorem dX3_ownedIn_20 : decode cX3_ownedIn 20 = .ok (.ishl, 1) := by decide +kernel
theorem dX3_ownedIn_21 : decode cX3_ownedIn 21 = .ok (.goto 4, 3) := by decide +kernel
theorem dX3_ownedIn_24 : decode cX3_ownedIn 24 = .ok (.iconst 0, 1) := by decide +kernel
theorem dX3_ownedIn_25 : decode cX3_ownedIn 25 = .ok (.ior, 1) := by decide +kernel
theorem dX3_ownedIn_26 : decode cX3_ownedIn 26 = .ok (.istore_n 2, 1) := by decide +kernel
theorem dX3_ownedIn_27 : decode cX3_ownedIn 27 = .ok (.iinc 3 1, 3) := by decide +kernel
theorem dX3_ownedIn_30 : decode cX3_ownedIn 30 = .ok (.goto (-26), 3) := by decide +kernel
theorem dX3_ownedIn_33 : decode cX3_ownedIn 33 = .ok (.iload_n 2, 1) := by decide +kernel
theorem dX3_ownedIn_34 : decode cX3_ownedIn 34 = .ok (.ireturn, 1) := by decide +kernel
theorem dX5_init_0 : decode cX5_init 0 = .ok (.aload_n 0, 1) := by decide +kernel
theorem dX5_init_1 : decode cX5_init 1 = .ok (.invokespecial 3, 3) := by decide +kernel
theorem dX5_init_4 : decode cX5_init 4 = .ok (.aload_n 0, 1) := by decide +kernel
theorem dX5_init_5 : decode cX5_init 5 = .ok (.iconst 0, 1) := by decide +kernel
theorem dX5_init_6 : decode cX5_init 6 = .ok (.putfield 9, 3) := by decide +kernel
theorem dX5_init_9 : decode cX5_init 9 = .ok (.aload_n 0, 1) := by decide +kernel
theorem dX5_init_10 : decode cX5_init 10 = .ok (.bipush 8, 2) := by decide +kernel
theorem dX5_init_12 : decode cX5_init 12 = .ok (.newarray .int, 2) := by decide +kernel
theorem dX5_init_14 : decode cX5_init 14 = .ok (.putfield 15, 3) := by decide +kernel
theorem dX5_init_17 : decode cX5_init 17 = .ok (.aload_n 0, 1) := by decide +kernel
theorem dX5_init_18 : decode cX5_init 18 = .ok (.bipush 8, 2) := by decide +kernel
theorem dX5_init_20 : decode cX5_init 20 = .ok (.newarray .int, 2) := by decide +kernel
theorem dX5_init_22 : decode cX5_init 22 = .ok (.putfield 19, 3) := by decide +kernel
theorem dX5_init_25 : decode cX5_init 25 = .ok (.aload_n 0, 1) := by decide +kernel
theorem dX5_init_26 : decode cX5_init 26 = .ok (.bipush 8, 2) := by decide +kernel
theorem dX5_init_28 : decode cX5_init 28 = .ok (.newarray .int, 2) := by decide +kernel
theorem dX5_init_30 : decode cX5_init 30 = .ok (.putfield 22, 3) := by decide +kernel
theorem dX5_init_33 : decode cX5_init 33 = .ok (.aload_n 0, 1) := by decide +kernel
theorem dX5_init_34 : decode cX5_init 34 = .ok (.iconst 0, 1) := by decide +kernel
theorem dX5_init_35 : decode cX5_init 35 = .ok (.putfield 25, 3) := by decide +kernel
theorem dX5_init_38 : decode cX5_init 38 = .ok (.aload_n 0, 1) := by decide +kernel
theorem dX5_init_39 : decode cX5_init 39 = .ok (.iconst 4, 1) := by decide +kernel
theorem dX5_init_40 : decode cX5_init 40 = .ok (.newarray .int, 2) := by decide +kernel
theorem dX5_init_42 : decode cX5_init 42 = .ok (.putfield 28, 3) := by decide +kernel
theorem dX5_init_45 : decode cX5_init 45 = .ok (.aload_n 0, 1) := by decide +kernel
theorem dX5_init_46 : decode cX5_init 46 = .ok (.iconst 4, 1) := by decide +kernel
theorem dX5_init_47 : decode cX5_init 47 = .ok (.newarray .int, 2) := by decide +kernel
theorem dX5_init_49 : decode cX5_init 49 = .ok (.putfield 31, 3) := by decide +kernel
theorem dX5_init_52 : decode cX5_init 52 = .ok (.aload_n 0, 1) := by decide +kernel
theorem dX5_init_53 : decode cX5_init 53 = .ok (.iconst 4, 1) := by decide +kernel
theorem dX5_init_54 : decode cX5_init 54 = .ok (.newarray .int, 2) := by decide +kernel
theorem dX5_init_56 : decode cX5_init 56 = .ok (.putfield 34, 3) := by decide +kernel
theorem dX5_init_59 : decode cX5_init 59 = .ok (.return_, 1) := by decide +kernel
theorem dX5_empty_0 : decode cX5_empty 0 = .ok (.aload_n 0, 1) := by decide +kernel
theorem dX5_empty_1 : decode cX5_empty 1 = .ok (.iconst 0, 1) := by decide +kernel
theorem dX5_empty_2 : decode cX5_empty 2 = .ok (.putfield 9, 3) := by decide +kernel
theorem dX5_empty_5 : decode cX5_empty 5 = .ok (.aload_n 0, 1) := by decide +kernel
theorem dX5_empty_6 : decode cX5_empty 6 = .ok (.iconst 0, 1) := by decide +kernel
theorem dX5_empty_7 : decode cX5_empty 7 = .ok (.putfield 25, 3) := by decide +kernel
theorem dX5_empty_10 : decode cX5_empty 10 = .ok (.return_, 1) := by decide +kernel
theorem dX5_become_0 : decode cX5_become 0 = .ok (.aload_n 0, 1) := by decide +kernel
theorem dX5_become_1 : decode cX5_become 1 = .ok (.aload_n 1, 1) := by decide +kernel
theorem dX5_become_2 : decode cX5_become 2 = .ok (.getfield 9, 3) := by decide +kernel
theorem dX5_become_5 : decode cX5_become 5 = .ok (.putfield 9, 3) := by decide +kernel
theorem dX5_become_8 : decode cX5_become 8 = .ok (.aload_n 1, 1) := by decide +kernel
theorem dX5_become_9 : decode cX5_become 9 = .ok (.getfield 15, 3) := by decide +kernel
theorem dX5_become_12 : decode cX5_become 12 = .ok (.iconst 0, 1) := by decide +kernel
theorem dX5_become_13 : decode cX5_become 13 = .ok (.aload_n 0, 1) := by decide +kernel
theorem dX5_become_14 : decode cX5_become 14 = .ok (.getfield 15, 3) := by decide +kernel
theorem dX5_become_17 : decode cX5_become 17 = .ok (.iconst 0, 1) := by decide +kernel
theorem dX5_become_18 : decode cX5_become 18 = .ok (.bipush 8, 2) := by decide +kernel
theorem dX5_become_20 : decode cX5_become 20 = .ok (.invokestatic 37, 3) := by decide +kernel
theorem dX5_become_23 : decode cX5_become 23 = .ok (.aload_n 1, 1) := by decide +kernel
theorem dX5_become_24 : decode cX5_become 24 = .ok (.getfield 19, 3) := by decide +kernel
theorem dX5_become_27 : decode cX5_become 27 = .ok (.iconst 0, 1) := by decide +kernel
theorem dX5_become_28 : decode cX5_become 28 = .ok (.aload_n 0, 1) := by decide +kernel
theorem dX5_become_29 : decode cX5_become 29 = .ok (.getfield 19, 3) := by decide +kernel
theorem dX5_become_32 : decode cX5_become 32 = .ok (.iconst 0, 1) := by decide +kernel
theorem dX5_become_33 : decode cX5_become 33 = .ok (.bipush 8, 2) := by decide +kernel
theorem dX5_become_35 : decode cX5_become 35 = .ok (.invokestatic 37, 3) := by decide +kernel
theorem dX5_become_38 : decode cX5_become 38 = .ok (.aload_n 1, 1) := by decide +kernel
theorem dX5_become_39 : decode cX5_become 39 = .ok (.getfield 22, 3) := by decide +kernel
theorem dX5_become_42 : decode cX5_become 42 = .ok (.iconst 0, 1) := by decide +kernel
theorem dX5_become_43 : decode cX5_become 43 = .ok (.aload_n 0, 1) := by decide +kernel
theorem dX5_become_44 : decode cX5_become 44 = .ok (.getfield 22, 3) := by decide +kernel
theorem dX5_become_47 : decode cX5_become 47 = .ok (.iconst 0, 1) := by decide +kernel
theorem dX5_become_48 : decode cX5_become 48 = .ok (.bipush 8, 2) := by decide +kernel
theorem dX5_become_50 : decode cX5_become 50 = .ok (.invokestatic 37, 3) := by decide +kernel
theorem dX5_become_53 : decode cX5_become 53 = .ok (.aload_n 0, 1) := by decide +kernel
theorem dX5_become_54 : decode cX5_become 54 = .ok (.aload_n 1, 1) := by decide +kernel
theorem dX5_become_55 : decode cX5_become 55 = .ok (.getfield 25, 3) := by decide +kernel
theorem dX5_become_58 : decode cX5_become 58 = .ok (.putfield 25, 3) := by decide +kernel
theorem dX5_become_61 : decode cX5_become 61 = .ok (.aload_n 1, 1) := by decide +kernel
theorem dX5_become_62 : decode cX5_become 62 = .ok (.getfield 28, 3) := by decide +kernel
theorem dX5_become_65 : decode cX5_become 65 = .ok (.iconst 0, 1) := by decide +kernel
theorem dX5_become_66 : decode cX5_become 66 = .ok (.aload_n 0, 1) := by decide +kernel
theorem dX5_become_67 : decode cX5_become 67 = .ok (.getfield 28, 3) := by decide +kernel
theorem dX5_become_70 : decode cX5_become 70 = .ok (.iconst 0, 1) := by decide +kernel
theorem dX5_become_71 : decode cX5_become 71 = .ok (.iconst 4, 1) := by decide +kernel
theorem dX5_become_72 : decode cX5_become 72 = .ok (.invokestatic 37, 3) := by decide +kernel
theorem dX5_become_75 : decode cX5_become 75 = .ok (.aload_n 1, 1) := by decide +kernel
theorem dX5_become_76 : decode cX5_become 76 = .ok (.getfield 31, 3) := by decide +kernel
theorem dX5_become_79 : decode cX5_become 79 = .ok (.iconst 0, 1) := by decide +kernel
theorem dX5_become_80 : decode cX5_become 80 = .ok (.aload_n 0, 1) := by decide +kernel
theorem dX5_become_81 : decode cX5_become 81 = .ok (.getfield 31, 3) := by decide +kernel
theorem dX5_become_84 : decode cX5_become 84 = .ok (.iconst 0, 1) := by decide +kernel
theorem dX5_become_85 : decode cX5_become 85 = .ok (.iconst 4, 1) := by decide +kernel
theorem dX5_become_86 : decode cX5_become 86 = .ok (.invokestatic 37, 3) := by decide +kernel
theorem dX5_become_89 : decode cX5_become 89 = .ok (.aload_n 1, 1) := by decide +kernel
theorem dX5_become_90 : decode cX5_become 90 = .ok (.getfield 34, 3) := by decide +kernel
theorem dX5_become_93 : decode cX5_become 93 = .ok (.iconst 0, 1) := by decide +kernel
theorem dX5_become_94 : decode cX5_become 94 = .ok (.aload_n 0, 1) := by decide +kernel
theorem dX5_become_95 : decode cX5_become 95 = .ok (.getfield 34, 3) := by decide +kernel
theorem dX5_become_98 : decode cX5_become 98 = .ok (.iconst 0, 1) := by decide +kernel
theorem dX5_become_99 : decode cX5_become 99 = .ok (.iconst 4, 1) := by decide +kernel
theorem dX5_become_100 : decode cX5_become 100 = .ok (.invokestatic 37, 3) := by decide +kernel
theorem dX5_become_103 : decode cX5_become 103 = .ok (.return_, 1) := by decide +kernel
theorem dX5_addPiece_0 : decode cX5_addPiece 0 = .ok (.aload_n 0, 1) := by decide +kernel
theorem dX5_addPiece_1 : decode cX5_addPiece 1 = .ok (.getfield 15, 3) := by decide +kernel
theorem dX5_addPiece_4 : decode cX5_addPiece 4 = .ok (.aload_n 0, 1) := by decide +kernel
theorem dX5_addPiece_5 : decode cX5_addPiece 5 = .ok (.getfield 9, 3) := by decide +kernel
theorem dX5_addPiece_8 : decode cX5_addPiece 8 = .ok (.iload_n 1, 1) := by decide +kernel
theorem dX5_addPiece_9 : decode cX5_addPiece 9 = .ok (.iastore, 1) := by decide +kernel
theorem dX5_addPiece_10 : decode cX5_addPiece 10 = .ok (.aload_n 0, 1) := by decide +kernel
theorem dX5_addPiece_11 : decode cX5_addPiece 11 = .ok (.getfield 19, 3) := by decide +kernel
theorem dX5_addPiece_14 : decode cX5_addPiece 14 = .ok (.aload_n 0, 1) := by decide +kernel
theorem dX5_addPiece_15 : decode cX5_addPiece 15 = .ok (.getfield 9, 3) := by decide +kernel
theorem dX5_addPiece_18 : decode cX5_addPiece 18 = .ok (.iload_n 2, 1) := by decide +kernel
theorem dX5_addPiece_19 : decode cX5_addPiece 19 = .ok (.iastore, 1) := by decide +kernel
theorem dX5_addPiece_20 : decode cX5_addPiece 20 = .ok (.aload_n 0, 1) := by decide +kernel
theorem dX5_addPiece_21 : decode cX5_addPiece 21 = .ok (.getfield 22, 3) := by decide +kernel
theorem dX5_addPiece_24 : decode cX5_addPiece 24 = .ok (.aload_n 0, 1) := by decide +kernel
theorem dX5_addPiece_25 : decode cX5_addPiece 25 = .ok (.getfield 9, 3) := by decide +kernel
theorem dX5_addPiece_28 : decode cX5_addPiece 28 = .ok (.iload_n 3, 1) := by decide +kernel
theorem dX5_addPiece_29 : decode cX5_addPiece 29 = .ok (.iastore, 1) := by decide +kernel
theorem dX5_addPiece_30 : decode cX5_addPiece 30 = .ok (.aload_n 0, 1) := by decide +kernel
theorem dX5_addPiece_31 : decode cX5_addPiece 31 = .ok (.dup, 1) := by decide +kernel
theorem dX5_addPiece_32 : decode cX5_addPiece 32 = .ok (.getfield 9, 3) := by decide +kernel
theorem dX5_addPiece_35 : decode cX5_addPiece 35 = .ok (.iconst 1, 1) := by decide +kernel
theorem dX5_addPiece_36 : decode cX5_addPiece 36 = .ok (.iadd, 1) := by decide +kernel
theorem dX5_addPiece_37 : decode cX5_addPiece 37 = .ok (.putfield 9, 3) := by decide +kernel
theorem dX5_addPiece_40 : decode cX5_addPiece 40 = .ok (.return_, 1) := by decide +kernel
theorem dX5_addFamily_0 : decode cX5_addFamily 0 = .ok (.aload_n 0, 1) := by decide +kernel
theorem dX5_addFamily_1 : decode cX5_addFamily 1 = .ok (.getfield 28, 3) := by decide +kernel
theorem dX5_addFamily_4 : decode cX5_addFamily 4 = .ok (.aload_n 0, 1) := by decide +kernel
theorem dX5_addFamily_5 : decode cX5_addFamily 5 = .ok (.getfield 25, 3) := by decide +kernel
theorem dX5_addFamily_8 : decode cX5_addFamily 8 = .ok (.iload_n 1, 1) := by decide +kernel
theorem dX5_addFamily_9 : decode cX5_addFamily 9 = .ok (.iastore, 1) := by decide +kernel
theorem dX5_addFamily_10 : decode cX5_addFamily 10 = .ok (.aload_n 0, 1) := by decide +kernel
theorem dX5_addFamily_11 : decode cX5_addFamily 11 = .ok (.getfield 31, 3) := by decide +kernel
theorem dX5_addFamily_14 : decode cX5_addFamily 14 = .ok (.aload_n 0, 1) := by decide +kernel
theorem dX5_addFamily_15 : decode cX5_addFamily 15 = .ok (.getfield 25, 3) := by decide +kernel
theorem dX5_addFamily_18 : decode cX5_addFamily 18 = .ok (.iload_n 2, 1) := by decide +kernel
theorem dX5_addFamily_19 : decode cX5_addFamily 19 = .ok (.iastore, 1) := by decide +kernel
theorem dX5_addFamily_20 : decode cX5_addFamily 20 = .ok (.aload_n 0, 1) := by decide +kernel
theorem dX5_addFamily_21 : decode cX5_addFamily 21 = .ok (.getfield 34, 3) := by decide +kernel
theorem dX5_addFamily_24 : decode cX5_addFamily 24 = .ok (.aload_n 0, 1) := by decide +kernel
theorem dX5_addFamily_25 : decode cX5_addFamily 25 = .ok (.getfield 25, 3) := by decide +kernel
theorem dX5_addFamily_28 : decode cX5_addFamily 28 = .ok (.iload_n 3, 1) := by decide +kernel
theorem dX5_addFamily_29 : decode cX5_addFamily 29 = .ok (.iastore, 1) := by decide +kernel
theorem dX5_addFamily_30 : decode cX5_addFamily 30 = .ok (.aload_n 0, 1) := by decide +kernel
theorem dX5_addFamily_31 : decode cX5_addFamily 31 = .ok (.dup, 1) := by decide +kernel
theorem dX5_addFamily_32 : decode cX5_addFamily 32 = .ok (.getfield 25, 3) := by decide +kernel
theorem dX5_addFamily_35 : decode cX5_addFamily 35 = .ok (.iconst 1, 1) := by decide +kernel
theorem dX5_addFamily_36 : decode cX5_addFamily 36 = .ok (.iadd, 1) := by decide +kernel
theorem dX5_addFamily_37 : decode cX5_addFamily 37 = .ok (.putfield 25, 3) := by decide +kernel
theorem dX5_addFamily_40 : decode cX5_addFamily 40 = .ok (.return_, 1) := by decide +kernel
theorem dX5_widerThan_0 : decode cX5_widerThan 0 = .ok (.iconst 0, 1) := by decide +kernel
theorem dX5_widerThan_1 : decode cX5_widerThan 1 = .ok (.istore_n 2, 1) := by decide +kernel
theorem dX5_widerThan_2 : decode cX5_widerThan 2 = .ok (.iconst 0, 1) := by decide +kernel
theorem dX5_widerThan_3 : decode cX5_widerThan 3 = .ok (.istore_n 3, 1) := by decide +kernel
theorem dX5_widerThan_4 : decode cX5_widerThan 4 = .ok (.iload_n 3, 1) := by decide +kernel
theorem dX5_widerThan_5 : decode cX5_widerThan 5 = .ok (.aload_n 0, 1) := by decide +kernel
theorem dX5_widerThan_6 : decode cX5_widerThan 6 = .ok (.getfield 9, 3) := by decide +kernel
theorem dX5_widerThan_9 : decode cX5_widerThan 9 = .ok (.if_icmp .ge 29, 3) := by decide +kernel
theorem dX5_widerThan_12 : decode cX5_widerThan 12 = .ok (.iload_n 2, 1) := by decide +kernel
theorem dX5_widerThan_13 : decode cX5_widerThan 13 = .ok (.aload_n 0, 1) := by decide +kernel
theorem dX5_widerThan_14 : decode cX5_widerThan 14 = .ok (.getfield 22, 3) := by decide +kernel
theorem dX5_widerThan_17 : decode cX5_widerThan 17 = .ok (.iload_n 3, 1) := by decide +kernel
theorem dX5_widerThan_18 : decode cX5_widerThan 18 = .ok (.iaload, 1) := by decide +kernel
theorem dX5_widerThan_19 : decode cX5_widerThan 19 = .ok (.iload_n 1, 1) := by decide +kernel
theorem dX5_widerThan_20 : decode cX5_widerThan 20 = .ok (.if_icmp .le 9, 3) := by decide +kernel
theorem dX5_widerThan_23 : decode cX5_widerThan 23 = .ok (.iconst 1, 1) := by decide +kernel
theorem dX5_widerThan_24 : decode cX5_widerThan 24 = .ok (.iload_n 3, 1) := by decide +kernel
theorem dX5_widerThan_25 : decode cX5_widerThan 25 = .ok (.ishl, 1) := by decide +kernel
theorem dX5_widerThan_26 : decode cX5_widerThan 26 = .ok (.goto 4, 3) := by decide +kernel
theorem dX5_widerThan_29 : decode cX5_widerThan 29 = .ok (.iconst 0, 1) := by decide +kernel
theorem dX5_widerThan_30 : decode cX5_widerThan 30 = .ok (.ior, 1) := by decide +kernel
theorem dX5_widerThan_31 : decode cX5_widerThan 31 = .ok (.istore_n 2, 1) := by decide +kernel
theorem dX5_widerThan_32 : decode cX5_widerThan 32 = .ok (.iinc 3 1, 3) := by decide +kernel
theorem dX5_widerThan_35 : decode cX5_widerThan 35 = .ok (.goto (-31), 3) := by decide +kernel
theorem dX5_widerThan_38 : decode cX5_widerThan 38 = .ok (.iload_n 2, 1) := by decide +kernel
theorem dX5_widerThan_39 : decode cX5_widerThan 39 = .ok (.ireturn, 1) := by decide +kernel
theorem dX5_yardsOf_0 : decode cX5_yardsOf 0 = .ok (.iconst 0, 1) := by decide +kernel
theorem dX5_yardsOf_1 : decode cX5_yardsOf 1 = .ok (.istore_n 2, 1) := by decide +kernel
theorem dX5_yardsOf_2 : decode cX5_yardsOf 2 = .ok (.iconst 0, 1) := by decide +kernel
theorem dX5_yardsOf_3 : decode cX5_yardsOf 3 = .ok (.istore_n 3, 1) := by decide +kernel
theorem dX5_yardsOf_4 : decode cX5_yardsOf 4 = .ok (.iload_n 3, 1) := by decide +kernel
theorem dX5_yardsOf_5 : decode cX5_yardsOf 5 = .ok (.aload_n 0, 1) := by decide +kernel
theorem dX5_yardsOf_6 : decode cX5_yardsOf 6 = .ok (.getfield 9, 3) := by decide +kernel
theorem dX5_yardsOf_9 : decode cX5_yardsOf 9 = .ok (.if_icmp .ge 24, 3) := by decide +kernel
theorem dX5_yardsOf_12 : decode cX5_yardsOf 12 = .ok (.iload_n 2, 1) := by decide +kernel
theorem dX5_yardsOf_13 : decode cX5_yardsOf 13 = .ok (.iload_n 1, 1) := by decide +kernel
theorem dX5_yardsOf_14 : decode cX5_yardsOf 14 = .ok (.iload_n 3, 1) := by decide +kernel
theorem dX5_yardsOf_15 : decode cX5_yardsOf 15 = .ok (.ishr, 1) := by decide +kernel
theorem dX5_yardsOf_16 : decode cX5_yardsOf 16 = .ok (.iconst 1, 1) := by decide +kernel
theorem dX5_yardsOf_17 : decode cX5_yardsOf 17 = .ok (.iand, 1) := by decide +kernel
theorem dX5_yardsOf_18 : decode cX5_yardsOf 18 = .ok (.aload_n 0, 1) := by decide +kernel
theorem dX5_yardsOf_19 : decode cX5_yardsOf 19 = .ok (.getfield 22, 3) := by decide +kernel
theorem dX5_yardsOf_22 : decode cX5_yardsOf 22 = .ok (.iload_n 3, 1) := by decide +kernel
theorem dX5_yardsOf_23 : decode cX5_yardsOf 23 = .ok (.iaload, 1) := by decide +kernel
theorem dX5_yardsOf_24 : decode cX5_yardsOf 24 = .ok (.imul, 1) := by decide +kernel
theorem dX5_yardsOf_25 : decode cX5_yardsOf 25 = .ok (.iadd, 1) := by decide +kernel
theorem dX5_yardsOf_26 : decode cX5_yardsOf 26 = .ok (.istore_n 2, 1) := by decide +kernel
theorem dX5_yardsOf_27 : decode cX5_yardsOf 27 = .ok (.iinc 3 1, 3) := by decide +kernel
theorem dX5_yardsOf_30 : decode cX5_yardsOf 30 = .ok (.goto (-26), 3) := by decide +kernel
theorem dX5_yardsOf_33 : decode cX5_yardsOf 33 = .ok (.iload_n 2, 1) := by decide +kernel
theorem dX5_yardsOf_34 : decode cX5_yardsOf 34 = .ok (.ireturn, 1) := by decide +kernel
theorem dX6_init_0 : decode cX6_init 0 = .ok (.aload_n 0, 1) := by decide +kernel
theorem dX6_init_1 : decode cX6_init 1 = .ok (.invokespecial 3, 3) := by decide +kernel
theorem dX6_init_4 : decode cX6_init 4 = .ok (.aload_n 0, 1) := by decide +kernel
theorem dX6_init_5 : decode cX6_init 5 = .ok (.bipush 16, 2) := by decide +kernel
theorem dX6_init_7 : decode cX6_init 7 = .ok (.newarray .int, 2) := by decide +kernel
theorem dX6_init_9 : decode cX6_init 9 = .ok (.putfield 9, 3) := by decide +kernel
theorem dX6_init_12 : decode cX6_init 12 = .ok (.aload_n 0, 1) := by decide +kernel
theorem dX6_init_13 : decode cX6_init 13 = .ok (.bipush 16, 2) := by decide +kernel
theorem dX6_init_15 : decode cX6_init 15 = .ok (.newarray .int, 2) := by decide +kernel
theorem dX6_init_17 : decode cX6_init 17 = .ok (.putfield 15, 3) := by decide +kernel
theorem dX6_init_20 : decode cX6_init 20 = .ok (.aload_n 0, 1) := by decide +kernel
theorem dX6_init_21 : decode cX6_init 21 = .ok (.aload_n 1, 1) := by decide +kernel
theorem dX6_init_22 : decode cX6_init 22 = .ok (.putfield 18, 3) := by decide +kernel
theorem dX6_init_25 : decode cX6_init 25 = .ok (.return_, 1) := by decide +kernel
theorem dX6_waysOf_0 : decode cX6_waysOf 0 = .ok (.aload_n 0, 1) := by decide +kernel
theorem dX6_waysOf_1 : decode cX6_waysOf 1 = .ok (.getfield 9, 3) := by decide +kernel
theorem dX6_waysOf_4 : decode cX6_waysOf 4 = .ok (.iconst 0, 1) := by decide +kernel
theorem dX6_waysOf_5 : decode cX6_waysOf 5 = .ok (.invokestatic 22, 3) := by decide +kernel
theorem dX6_waysOf_8 : decode cX6_waysOf 8 = .ok (.aload_n 0, 1) := by decide +kernel
theorem dX6_waysOf_9 : decode cX6_waysOf 9 = .ok (.getfield 9, 3) := by decide +kernel
theorem dX6_waysOf_12 : decode cX6_waysOf 12 = .ok (.iconst 0, 1) := by decide +kernel
theorem dX6_waysOf_13 : decode cX6_waysOf 13 = .ok (.iconst 1, 1) := by decide +kernel
theorem dX6_waysOf_14 : decode cX6_waysOf 14 = .ok (.iastore, 1) := by decide +kernel
theorem dX6_waysOf_15 : decode cX6_waysOf 15 = .ok (.iconst 0, 1) := by decide +kernel
theorem dX6_waysOf_16 : decode cX6_waysOf 16 = .ok (.istore 4, 2) := by decide +kernel
theorem dX6_waysOf_18 : decode cX6_waysOf 18 = .ok (.iload 4, 2) := by decide +kernel
theorem dX6_waysOf_20 : decode cX6_waysOf 20 = .ok (.aload_n 0, 1) := by decide +kernel
theorem dX6_waysOf_21 : decode cX6_waysOf 21 = .ok (.getfield 18, 3) := by decide +kernel
theorem dX6_waysOf_24 : decode cX6_waysOf 24 = .ok (.getfield 28, 3) := by decide +kernel
theorem dX6_waysOf_27 : decode cX6_waysOf 27 = .ok (.if_icmp .ge 36, 3) := by decide +kernel
theorem dX6_waysOf_30 : decode cX6_waysOf 30 = .ok (.aload_n 1, 1) := by decide +kernel
theorem dX6_waysOf_31 : decode cX6_waysOf 31 = .ok (.iload 4, 2) := by decide +kernel
theorem dX6_waysOf_33 : decode cX6_waysOf 33 = .ok (.invokevirtual 34, 3) := by decide +kernel
theorem dX6_waysOf_36 : decode cX6_waysOf 36 = .ok (.ifCond .ne 21, 3) := by decide +kernel
theorem dX6_waysOf_39 : decode cX6_waysOf 39 = .ok (.aload_n 0, 1) := by decide +kernel
theorem dX6_waysOf_40 : decode cX6_waysOf 40 = .ok (.aload_n 1, 1) := by decide +kernel
theorem dX6_waysOf_41 : decode cX6_waysOf 41 = .ok (.iload 4, 2) := by decide +kernel
theorem dX6_waysOf_43 : decode cX6_waysOf 43 = .ok (.iload 4, 2) := by decide +kernel
theorem dX6_waysOf_45 : decode cX6_waysOf 45 = .ok (.iload_n 2, 1) := by decide +kernel
theorem dX6_waysOf_46 : decode cX6_waysOf 46 = .ok (.if_icmp .ne 7, 3) := by decide +kernel
theorem dX6_waysOf_49 : decode cX6_waysOf 49 = .ok (.iload_n 3, 1) := by decide +kernel
theorem dX6_waysOf_50 : decode cX6_waysOf 50 = .ok (.goto 4, 3) := by decide +kernel
theorem dX6_waysOf_53 : decode cX6_waysOf 53 = .ok (.iconst (-1), 1) := by decide +kernel
theorem dX6_waysOf_54 : decode cX6_waysOf 54 = .ok (.invokevirtual 40, 3) := by decide +kernel
theorem dX6_waysOf_57 : decode cX6_waysOf 57 = .ok (.iinc 4 1, 3) := by decide +kernel
theorem dX6_waysOf_60 : decode cX6_waysOf 60 = .ok (.goto (-42), 3) := by decide +kernel
theorem dX6_waysOf_63 : decode cX6_waysOf 63 = .ok (.aload_n 0, 1) := by decide +kernel
theorem dX6_waysOf_64 : decode cX6_waysOf 64 = .ok (.getfield 9, 3) := by decide +kernel
theorem dX6_waysOf_67 : decode cX6_waysOf 67 = .ok (.iconst 1, 1) := by decide +kernel
theorem dX6_waysOf_68 : decode cX6_waysOf 68 = .ok (.aload_n 0, 1) := by decide +kernel
theorem dX6_waysOf_69 : decode cX6_waysOf 69 = .ok (.getfield 18, 3) := by decide +kernel
theorem dX6_waysOf_72 : decode cX6_waysOf 72 = .ok (.getfield 44, 3) := by decide +kernel
theorem dX6_waysOf_75 : decode cX6_waysOf 75 = .ok (.ishl, 1) := by decide +kernel
theorem dX6_waysOf_76 : decode cX6_waysOf 76 = .ok (.iconst 1, 1) := by decide +kernel
theorem dX6_waysOf_77 : decode cX6_waysOf 77 = .ok (.isub, 1) := by decide +kernel
theorem dX6_waysOf_78 : decode cX6_waysOf 78 = .ok (.iaload, 1) := by decide +kernel
theorem dX6_waysOf_79 : decode cX6_waysOf 79 = .ok (.ireturn, 1) := by decide +kernel
theorem dX6_onlyOwner_0 : decode cX6_onlyOwner 0 = .ok (.bipush (-9), 2) := by decide +kernel
theorem dX6_onlyOwner_2 : decode cX6_onlyOwner 2 = .ok (.istore_n 3, 1) := by decide +kernel
theorem dX6_onlyOwner_3 : decode cX6_onlyOwner 3 = .ok (.iconst 0, 1) := by decide +kernel
theorem dX6_onlyOwner_4 : decode cX6_onlyOwner 4 = .ok (.istore 4, 2) := by decide +kernel
theorem dX6_onlyOwner_6 : decode cX6_onlyOwner 6 = .ok (.iload 4, 2) := by decide +kernel
theorem dX6_onlyOwner_8 : decode cX6_onlyOwner 8 = .ok (.aload_n 0, 1) := by decide +kernel
theorem dX6_onlyOwner_9 : decode cX6_onlyOwner 9 = .ok (.getfield 18, 3) := by decide +kernel
theorem dX6_onlyOwner_12 : decode cX6_onlyOwner 12 = .ok (.getfield 44, 3) := by decide +kernel
theorem dX6_onlyOwner_15 : decode cX6_onlyOwner 15 = .ok (.if_icmp .ge 32, 3) := by decide +kernel
theorem dX6_onlyOwner_18 : decode cX6_onlyOwner 18 = .ok (.aload_n 0, 1) := by decide +kernel
theorem dX6_onlyOwner_19 : decode cX6_onlyOwner 19 = .ok (.aload_n 1, 1) := by decide +kernel
theorem dX6_onlyOwner_20 : decode cX6_onlyOwner 20 = .ok (.iload_n 2, 1) := by decide +kernel
theorem dX6_onlyOwner_21 : decode cX6_onlyOwner 21 = .ok (.iload 4, 2) := by decide +kernel
theorem dX6_onlyOwner_23 : decode cX6_onlyOwner 23 = .ok (.invokevirtual 47, 3) := by decide +kernel
theorem dX6_onlyOwner_26 : decode cX6_onlyOwner 26 = .ok (.ifCond .le 15, 3) := by decide +kernel
theorem dX6_onlyOwner_29 : decode cX6_onlyOwner 29 = .ok (.iload_n 3, 1) := by decide +kernel
theorem dX6_onlyOwner_30 : decode cX6_onlyOwner 30 = .ok (.bipush (-9), 2) := by decide +kernel
theorem dX6_onlyOwner_32 : decode cX6_onlyOwner 32 = .ok (.if_icmp .eq 6, 3) := by decide +kernel
theorem dX6_onlyOwner_35 : decode cX6_onlyOwner 35 = .ok (.bipush (-9), 2) := by decide +kernel
theorem dX6_onlyOwner_37 : decode cX6_onlyOwner 37 = .ok (.ireturn, 1) := by decide +kernel
theorem dX6_onlyOwner_38 : decode cX6_onlyOwner 38 = .ok (.iload 4, 2) := by decide +kernel
theorem dX6_onlyOwner_40 : decode cX6_onlyOwner 40 = .ok (.istore_n 3, 1) := by decide +kernel
theorem dX6_onlyOwner_41 : decode cX6_onlyOwner 41 = .ok (.iinc 4 1, 3) := by decide +kernel
theorem dX6_onlyOwner_44 : decode cX6_onlyOwner 44 = .ok (.goto (-38), 3) := by decide +kernel
theorem dX6_onlyOwner_47 : decode cX6_onlyOwner 47 = .ok (.iload_n 3, 1) := by decide +kernel
theorem dX6_onlyOwner_48 : decode cX6_onlyOwner 48 = .ok (.ireturn, 1) := by decide +kernel
theorem dX6_addPiece_0 : decode cX6_addPiece 0 = .ok (.aload_n 0, 1) := by decide +kernel
theorem dX6_addPiece_1 : decode cX6_addPiece 1 = .ok (.getfield 15, 3) := by decide +kernel
theorem dX6_addPiece_4 : decode cX6_addPiece 4 = .ok (.iconst 0, 1) := by decide +kernel
theorem dX6_addPiece_5 : decode cX6_addPiece 5 = .ok (.invokestatic 22, 3) := by decide +kernel
theorem dX6_addPiece_8 : decode cX6_addPiece 8 = .ok (.iconst 0, 1) := by decide +kernel
theorem dX6_addPiece_9 : decode cX6_addPiece 9 = .ok (.istore 4, 2) := by decide +kernel
theorem dX6_addPiece_11 : decode cX6_addPiece 11 = .ok (.iload 4, 2) := by decide +kernel
theorem dX6_addPiece_13 : decode cX6_addPiece 13 = .ok (.aload_n 0, 1) := by decide +kernel
theorem dX6_addPiece_14 : decode cX6_addPiece 14 = .ok (.getfield 18, 3) := by decide +kernel
theorem dX6_addPiece_17 : decode cX6_addPiece 17 = .ok (.getfield 44, 3) := by decide +kernel
theorem dX6_addPiece_20 : decode cX6_addPiece 20 = .ok (.if_icmp .ge 91, 3) := by decide +kernel
theorem dX6_addPiece_23 : decode cX6_addPiece 23 = .ok (.aload_n 1, 1) := by decide +kernel
theorem dX6_addPiece_24 : decode cX6_addPiece 24 = .ok (.getfield 51, 3) := by decide +kernel
theorem dX6_addPiece_27 : decode cX6_addPiece 27 = .ok (.iload 4, 2) := by decide +kernel
theorem dX6_addPiece_29 : decode cX6_addPiece 29 = .ok (.iaload, 1) := by decide +kernel
theorem dX6_addPiece_30 : decode cX6_addPiece 30 = .ok (.iload_n 2, 1) := by decide +kernel
theorem dX6_addPiece_31 : decode cX6_addPiece 31 = .ok (.ishr, 1) := by decide +kernel
theorem dX6_addPiece_32 : decode cX6_addPiece 32 = .ok (.iconst 1, 1) := by decide +kernel
theorem dX6_addPiece_33 : decode cX6_addPiece 33 = .ok (.iand, 1) := by decide +kernel
theorem dX6_addPiece_34 : decode cX6_addPiece 34 = .ok (.ifCond .ne 18, 3) := by decide +kernel
theorem dX6_addPiece_37 : decode cX6_addPiece 37 = .ok (.iload_n 3, 1) := by decide +kernel
theorem dX6_addPiece_38 : decode cX6_addPiece 38 = .ok (.iconst (-1), 1) := by decide +kernel
theorem dX6_addPiece_39 : decode cX6_addPiece 39 = .ok (.if_icmp .eq 9, 3) := by decide +kernel
theorem dX6_addPiece_42 : decode cX6_addPiece 42 = .ok (.iload_n 3, 1) := by decide +kernel
theorem dX6_addPiece_43 : decode cX6_addPiece 43 = .ok (.iload 4, 2) := by decide +kernel
theorem dX6_addPiece_45 : decode cX6_addPiece 45 = .ok (.if_icmp .ne 7, 3) := by decide +kernel
theorem dX6_addPiece_48 : decode cX6_addPiece 48 = .ok (.iconst 1, 1) := by decide +kernel
theorem dX6_addPiece_49 : decode cX6_addPiece 49 = .ok (.goto 4, 3) := by decide +kernel
theorem dX6_addPiece_52 : decode cX6_addPiece 52 = .ok (.iconst 0, 1) := by decide +kernel
theorem dX6_addPiece_53 : decode cX6_addPiece 53 = .ok (.istore 5, 2) := by decide +kernel
theorem dX6_addPiece_55 : decode cX6_addPiece 55 = .ok (.iconst 0, 1) := by decide +kernel
theorem dX6_addPiece_56 : decode cX6_addPiece 56 = .ok (.istore 6, 2) := by decide +kernel
theorem dX6_addPiece_58 : decode cX6_addPiece 58 = .ok (.iload 5, 2) := by decide +kernel
theorem dX6_addPiece_60 : decode cX6_addPiece 60 = .ok (.ifCond .eq 45, 3) := by decide +kernel
theorem dX6_addPiece_63 : decode cX6_addPiece 63 = .ok (.iload 6, 2) := by decide +kernel
theorem dX6_addPiece_65 : decode cX6_addPiece 65 = .ok (.iconst 1, 1) := by decide +kernel
theorem dX6_addPiece_66 : decode cX6_addPiece 66 = .ok (.aload_n 0, 1) := by decide +kernel
theorem dX6_addPiece_67 : decode cX6_addPiece 67 = .ok (.getfield 18, 3) := by decide +kernel
theorem dX6_addPiece_70 : decode cX6_addPiece 70 = .ok (.getfield 44, 3) := by decide +kernel
theorem dX6_addPiece_73 : decode cX6_addPiece 73 = .ok (.ishl, 1) := by decide +kernel
theorem dX6_addPiece_74 : decode cX6_addPiece 74 = .ok (.if_icmp .ge 31, 3) := by decide +kernel
theorem dX6_addPiece_77 : decode cX6_addPiece 77 = .ok (.aload_n 0, 1) := by decide +kernel
theorem dX6_addPiece_78 : decode cX6_addPiece 78 = .ok (.getfield 15, 3) := by decide +kernel
theorem dX6_addPiece_81 : decode cX6_addPiece 81 = .ok (.iload 6, 2) := by decide +kernel
theorem dX6_addPiece_83 : decode cX6_addPiece 83 = .ok (.iconst 1, 1) := by decide +kernel
theorem dX6_addPiece_84 : decode cX6_addPiece 84 = .ok (.iload 4, 2) := by decide +kernel
theorem dX6_addPiece_86 : decode cX6_addPiece 86 = .ok (.ishl, 1) := by decide +kernel
theorem dX6_addPiece_87 : decode cX6_addPiece 87 = .ok (.ior, 1) := by decide +kernel
theorem dX6_addPiece_88 : decode cX6_addPiece 88 = .ok (.dup2, 1) := by decide +kernel
theorem dX6_addPiece_89 : decode cX6_addPiece 89 = .ok (.iaload, 1) := by decide +kernel
theorem dX6_addPiece_90 : decode cX6_addPiece 90 = .ok (.aload_n 0, 1) := by decide +kernel
theorem dX6_addPiece_91 : decode cX6_addPiece 91 = .ok (.getfield 9, 3) := by decide +kernel
theorem dX6_addPiece_94 : decode cX6_addPiece 94 = .ok (.iload 6, 2) := by decide +kernel
theorem dX6_addPiece_96 : decode cX6_addPiece 96 = .ok (.iaload, 1) := by decide +kernel
theorem dX6_addPiece_97 : decode cX6_addPiece 97 = .ok (.iadd, 1) := by decide +kernel
theorem dX6_addPiece_98 : decode cX6_addPiece 98 = .ok (.iastore, 1) := by decide +kernel
theorem dX6_addPiece_99 : decode cX6_addPiece 99 = .ok (.iinc 6 1, 3) := by decide +kernel
theorem dX6_addPiece_102 : decode cX6_addPiece 102 = .ok (.goto (-44), 3) := by decide +kernel
theorem dX6_addPiece_105 : decode cX6_addPiece 105 = .ok (.iinc 4 1, 3) := by decide +kernel
theorem dX6_addPiece_108 : decode cX6_addPiece 108 = .ok (.goto (-97), 3) := by decide +kernel
theorem dX6_addPiece_111 : decode cX6_addPiece 111 = .ok (.aload_n 0, 1) := by decide +kernel
theorem dX6_addPiece_112 : decode cX6_addPiece 112 = .ok (.getfield 15, 3) := by decide +kernel
theorem dX6_addPiece_115 : decode cX6_addPiece 115 = .ok (.iconst 0, 1) := by decide +kernel
theorem dX6_addPiece_116 : decode cX6_addPiece 116 = .ok (.aload_n 0, 1) := by decide +kernel
theorem dX6_addPiece_117 : decode cX6_addPiece 117 = .ok (.getfield 9, 3) := by decide +kernel
theorem dX6_addPiece_120 : decode cX6_addPiece 120 = .ok (.iconst 0, 1) := by decide +kernel
theorem dX6_addPiece_121 : decode cX6_addPiece 121 = .ok (.aload_n 0, 1) := by decide +kernel
theorem dX6_addPiece_122 : decode cX6_addPiece 122 = .ok (.getfield 9, 3) := by decide +kernel
theorem dX6_addPiece_125 : decode cX6_addPiece 125 = .ok (.arraylength, 1) := by decide +kernel
theorem dX6_addPiece_126 : decode cX6_addPiece 126 = .ok (.invokestatic 54, 3) := by decide +kernel
theorem dX6_addPiece_129 : decode cX6_addPiece 129 = .ok (.return_, 1) := by decide +kernel
theorem dX7_init_0 : decode cX7_init 0 = .ok (.aload_n 0, 1) := by decide +kernel
theorem dX7_init_1 : decode cX7_init 1 = .ok (.invokespecial 3, 3) := by decide +kernel
theorem dX7_init_4 : decode cX7_init 4 = .ok (.aload_n 0, 1) := by decide +kernel
theorem dX7_init_5 : decode cX7_init 5 = .ok (.sipush 300, 3) := by decide +kernel
theorem dX7_init_8 : decode cX7_init 8 = .ok (.newarray .byte, 2) := by decide +kernel
theorem dX7_init_10 : decode cX7_init 10 = .ok (.putfield 9, 3) := by decide +kernel
theorem dX7_init_13 : decode cX7_init 13 = .ok (.aload_n 0, 1) := by decide +kernel
theorem dX7_init_14 : decode cX7_init 14 = .ok (.iconst 0, 1) := by decide +kernel
theorem dX7_init_15 : decode cX7_init 15 = .ok (.putfield 15, 3) := by decide +kernel
theorem dX7_init_18 : decode cX7_init 18 = .ok (.return_, 1) := by decide +kernel
theorem dX7_append_0 : decode cX7_append 0 = .ok (.iload_n 3, 1) := by decide +kernel
theorem dX7_append_1 : decode cX7_append 1 = .ok (.iconst 1, 1) := by decide +kernel
theorem dX7_append_2 : decode cX7_append 2 = .ok (.isub, 1) := by decide +kernel
theorem dX7_append_3 : decode cX7_append 3 = .ok (.istore 4, 2) := by decide +kernel
theorem dX7_append_5 : decode cX7_append 5 = .ok (.iload 4, 2) := by decide +kernel
theorem dX7_append_7 : decode cX7_append 7 = .ok (.ifCond .lt 47, 3) := by decide +kernel
theorem dX7_append_10 : decode cX7_append 10 = .ok (.aload_n 0, 1) := by decide +kernel
theorem dX7_append_11 : decode cX7_append 11 = .ok (.getfield 15, 3) := by decide +kernel
theorem dX7_append_14 : decode cX7_append 14 = .ok (.sipush 300, 3) := by decide +kernel
theorem dX7_append_17 : decode cX7_append 17 = .ok (.if_icmp .ge 37, 3) := by decide +kernel
theorem dX7_append_20 : decode cX7_append 20 = .ok (.aload_n 0, 1) := by decide +kernel
theorem dX7_append_21 : decode cX7_append 21 = .ok (.getfield 9, 3) := by decide +kernel
theorem dX7_append_24 : decode cX7_append 24 = .ok (.aload_n 0, 1) := by decide +kernel
theorem dX7_append_25 : decode cX7_append 25 = .ok (.getfield 15, 3) := by decide +kernel
theorem dX7_append_28 : decode cX7_append 28 = .ok (.lload_n 1, 1) := by decide +kernel
theorem dX7_append_29 : decode cX7_append 29 = .ok (.bipush 8, 2) := by decide +kernel
theorem dX7_append_31 : decode cX7_append 31 = .ok (.iload 4, 2) := by decide +kernel
theorem dX7_append_33 : decode cX7_append 33 = .ok (.imul, 1) := by decide +kernel
theorem dX7_append_34 : decode cX7_append 34 = .ok (.lshr, 1) := by decide +kernel
theorem dX7_append_35 : decode cX7_append 35 = .ok (.l2i, 1) := by decide +kernel
theorem dX7_append_36 : decode cX7_append 36 = .ok (.i2b, 1) := by decide +kernel
theorem dX7_append_37 : decode cX7_append 37 = .ok (.bastore, 1) := by decide +kernel
theorem dX7_append_38 : decode cX7_append 38 = .ok (.aload_n 0, 1) := by decide +kernel
theorem dX7_append_39 : decode cX7_append 39 = .ok (.dup, 1) := by decide +kernel
theorem dX7_append_40 : decode cX7_append 40 = .ok (.getfield 15, 3) := by decide +kernel
theorem dX7_append_43 : decode cX7_append 43 = .ok (.iconst 1, 1) := by decide +kernel
theorem dX7_append_44 : decode cX7_append 44 = .ok (.iadd, 1) := by decide +kernel
theorem dX7_append_45 : decode cX7_append 45 = .ok (.putfield 15, 3) := by decide +kernel
theorem dX7_append_48 : decode cX7_append 48 = .ok (.iinc 4 (-1), 3) := by decide +kernel
theorem dX7_append_51 : decode cX7_append 51 = .ok (.goto (-46), 3) := by decide +kernel
theorem dX7_append_54 : decode cX7_append 54 = .ok (.return_, 1) := by decide +kernel
theorem dX8_init_0 : decode cX8_init 0 = .ok (.aload_n 0, 1) := by decide +kernel
theorem dX8_init_1 : decode cX8_init 1 = .ok (.invokespecial 3, 3) := by decide +kernel
theorem dX8_init_4 : decode cX8_init 4 = .ok (.aload_n 0, 1) := by decide +kernel
theorem dX8_init_5 : decode cX8_init 5 = .ok (.sipush 1024, 3) := by decide +kernel
theorem dX8_init_8 : decode cX8_init 8 = .ok (.newarray .int, 2) := by decide +kernel
theorem dX8_init_10 : decode cX8_init 10 = .ok (.putfield 9, 3) := by decide +kernel
theorem dX8_init_13 : decode cX8_init 13 = .ok (.aload_n 0, 1) := by decide +kernel
theorem dX8_init_14 : decode cX8_init 14 = .ok (.bipush 6, 2) := by decide +kernel
theorem dX8_init_16 : decode cX8_init 16 = .ok (.newarray .int, 2) := by decide +kernel
theorem dX8_init_18 : decode cX8_init 18 = .ok (.putfield 15, 3) := by decide +kernel
theorem dX8_init_21 : decode cX8_init 21 = .ok (.aload_n 0, 1) := by decide +kernel
theorem dX8_init_22 : decode cX8_init 22 = .ok (.aload_n 1, 1) := by decide +kernel
theorem dX8_init_23 : decode cX8_init 23 = .ok (.putfield 18, 3) := by decide +kernel
theorem dX8_init_26 : decode cX8_init 26 = .ok (.return_, 1) := by decide +kernel
theorem dX8_startAnew_0 : decode cX8_startAnew 0 = .ok (.aload_n 0, 1) := by decide +kernel
theorem dX8_startAnew_1 : decode cX8_startAnew 1 = .ok (.getfield 9, 3) := by decide +kernel
theorem dX8_startAnew_4 : decode cX8_startAnew 4 = .ok (.iconst 0, 1) := by decide +kernel
theorem dX8_startAnew_5 : decode cX8_startAnew 5 = .ok (.invokestatic 22, 3) := by decide +kernel
theorem dX8_startAnew_8 : decode cX8_startAnew 8 = .ok (.return_, 1) := by decide +kernel
theorem dX8_yards_0 : decode cX8_yards 0 = .ok (.iload_n 1, 1) := by decide +kernel
theorem dX8_yards_1 : decode cX8_yards 1 = .ok (.bipush 8, 2) := by decide +kernel
theorem dX8_yards_3 : decode cX8_yards 3 = .ok (.ishl, 1) := by decide +kernel
theorem dX8_yards_4 : decode cX8_yards 4 = .ok (.iload_n 2, 1) := by decide +kernel
theorem dX8_yards_5 : decode cX8_yards 5 = .ok (.iadd, 1) := by decide +kernel
theorem dX8_yards_6 : decode cX8_yards 6 = .ok (.istore_n 3, 1) := by decide +kernel
theorem dX8_yards_7 : decode cX8_yards 7 = .ok (.aload_n 0, 1) := by decide +kernel
theorem dX8_yards_8 : decode cX8_yards 8 = .ok (.getfield 9, 3) := by decide +kernel
theorem dX8_yards_11 : decode cX8_yards 11 = .ok (.iload_n 3, 1) := by decide +kernel
theorem dX8_yards_12 : decode cX8_yards 12 = .ok (.iaload, 1) := by decide +kernel
theorem dX8_yards_13 : decode cX8_yards 13 = .ok (.ifCond .ne 34, 3) := by decide +kernel
theorem dX8_yards_16 : decode cX8_yards 16 = .ok (.aload_n 0, 1) := by decide +kernel
theorem dX8_yards_17 : decode cX8_yards 17 = .ok (.iload_n 1, 1) := by decide +kernel
theorem dX8_yards_18 : decode cX8_yards 18 = .ok (.iload_n 2, 1) := by decide +kernel
theorem dX8_yards_19 : decode cX8_yards 19 = .ok (.invokevirtual 28, 3) := by decide +kernel
theorem dX8_yards_22 : decode cX8_yards 22 = .ok (.aload_n 0, 1) := by decide +kernel
theorem dX8_yards_23 : decode cX8_yards 23 = .ok (.getfield 9, 3) := by decide +kernel
theorem dX8_yards_26 : decode cX8_yards 26 = .ok (.iload_n 3, 1) := by decide +kernel
theorem dX8_yards_27 : decode cX8_yards 27 = .ok (.aload_n 0, 1) := by decide +kernel
theorem dX8_yards_28 : decode cX8_yards 28 = .ok (.getfield 15, 3) := by decide +kernel
theorem dX8_yards_31 : decode cX8_yards 31 = .ok (.aload_n 0, 1) := by decide +kernel
theorem dX8_yards_32 : decode cX8_yards 32 = .ok (.getfield 18, 3) := by decide +kernel
theorem dX8_yards_35 : decode cX8_yards 35 = .ok (.getfield 32, 3) := by decide +kernel
theorem dX8_yards_38 : decode cX8_yards 38 = .ok (.iload_n 1, 1) := by decide +kernel
theorem dX8_yards_39 : decode cX8_yards 39 = .ok (.iaload, 1) := by decide +kernel
theorem dX8_yards_40 : decode cX8_yards 40 = .ok (.iaload, 1) := by decide +kernel
theorem dX8_yards_41 : decode cX8_yards 41 = .ok (.bipush 16, 2) := by decide +kernel
theorem dX8_yards_43 : decode cX8_yards 43 = .ok (.idiv, 1) := by decide +kernel
theorem dX8_yards_44 : decode cX8_yards 44 = .ok (.iconst 1, 1) := by decide +kernel
theorem dX8_yards_45 : decode cX8_yards 45 = .ok (.iadd, 1) := by decide +kernel
theorem dX8_yards_46 : decode cX8_yards 46 = .ok (.iastore, 1) := by decide +kernel
theorem dX8_yards_47 : decode cX8_yards 47 = .ok (.aload_n 0, 1) := by decide +kernel
theorem dX8_yards_48 : decode cX8_yards 48 = .ok (.getfield 9, 3) := by decide +kernel
theorem dX8_yards_51 : decode cX8_yards 51 = .ok (.iload_n 3, 1) := by decide +kernel
theorem dX8_yards_52 : decode cX8_yards 52 = .ok (.iaload, 1) := by decide +kernel
theorem dX8_yards_53 : decode cX8_yards 53 = .ok (.iconst 1, 1) := by decide +kernel
theorem dX8_yards_54 : decode cX8_yards 54 = .ok (.isub, 1) := by decide +kernel
theorem dX8_yards_55 : decode cX8_yards 55 = .ok (.ireturn, 1) := by decide +kernel
theorem dX8_cost_0 : decode cX8_cost 0 = .ok (.aload_n 0, 1) := by decide +kernel
theorem dX8_cost_1 : decode cX8_cost 1 = .ok (.iload_n 1, 1) := by decide +kernel
theorem dX8_cost_2 : decode cX8_cost 2 = .ok (.iload_n 2, 1) := by decide +kernel
theorem dX8_cost_3 : decode cX8_cost 3 = .ok (.invokevirtual 37, 3) := by decide +kernel
theorem dX8_cost_6 : decode cX8_cost 6 = .ok (.aload_n 0, 1) := by decide +kernel
theorem dX8_cost_7 : decode cX8_cost 7 = .ok (.getfield 18, 3) := by decide +kernel
theorem dX8_cost_10 : decode cX8_cost 10 = .ok (.getfield 41, 3) := by decide +kernel
theorem dX8_cost_13 : decode cX8_cost 13 = .ok (.iload_n 1, 1) := by decide +kernel
theorem dX8_cost_14 : decode cX8_cost 14 = .ok (.iaload, 1) := by decide +kernel
theorem dX8_cost_15 : decode cX8_cost 15 = .ok (.imul, 1) := by decide +kernel
theorem dX8_cost_16 : decode cX8_cost 16 = .ok (.ireturn, 1) := by decide +kernel
theorem dX8_neededBy_0 : decode cX8_neededBy 0 = .ok (.iconst 0, 1) := by decide +kernel
theorem dX8_neededBy_1 : decode cX8_neededBy 1 = .ok (.istore_n 2, 1) := by decide +kernel
theorem dX8_neededBy_2 : decode cX8_neededBy 2 = .ok (.iconst 0, 1) := by decide +kernel
theorem dX8_neededBy_3 : decode cX8_neededBy 3 = .ok (.istore_n 3, 1) := by decide +kernel
theorem dX8_neededBy_4 : decode cX8_neededBy 4 = .ok (.iload_n 3, 1) := by decide +kernel
theorem dX8_neededBy_5 : decode cX8_neededBy 5 = .ok (.aload_n 0, 1) := by decide +kernel
theorem dX8_neededBy_6 : decode cX8_neededBy 6 = .ok (.getfield 18, 3) := by decide +kernel
theorem dX8_neededBy_9 : decode cX8_neededBy 9 = .ok (.getfield 44, 3) := by decide +kernel
theorem dX8_neededBy_12 : decode cX8_neededBy 12 = .ok (.if_icmp .ge 32, 3) := by decide +kernel
theorem dX8_neededBy_15 : decode cX8_neededBy 15 = .ok (.iload_n 2, 1) := by decide +kernel
theorem dX8_neededBy_16 : decode cX8_neededBy 16 = .ok (.aload_n 0, 1) := by decide +kernel
theorem dX8_neededBy_17 : decode cX8_neededBy 17 = .ok (.iload_n 1, 1) := by decide +kernel
theorem dX8_neededBy_18 : decode cX8_neededBy 18 = .ok (.iconst 1, 1) := by decide +kernel
theorem dX8_neededBy_19 : decode cX8_neededBy 19 = .ok (.iload_n 3, 1) := by decide +kernel
theorem dX8_neededBy_20 : decode cX8_neededBy 20 = .ok (.ishl, 1) := by decide +kernel
theorem dX8_neededBy_21 : decode cX8_neededBy 21 = .ok (.invokevirtual 37, 3) := by decide +kernel
theorem dX8_neededBy_24 : decode cX8_neededBy 24 = .ok (.ldc 48, 2) := by decide +kernel
theorem dX8_neededBy_26 : decode cX8_neededBy 26 = .ok (.if_icmp .lt 9, 3) := by decide +kernel
theorem dX8_neededBy_29 : decode cX8_neededBy 29 = .ok (.iconst 1, 1) := by decide +kernel
theorem dX8_neededBy_30 : decode cX8_neededBy 30 = .ok (.iload_n 3, 1) := by decide +kernel
theorem dX8_neededBy_31 : decode cX8_neededBy 31 = .ok (.ishl, 1) := by decide +kernel
theorem dX8_neededBy_32 : decode cX8_neededBy 32 = .ok (.goto 4, 3) := by decide +kernel
theorem dX8_neededBy_35 : decode cX8_neededBy 35 = .ok (.iconst 0, 1) := by decide +kernel
theorem dX8_neededBy_36 : decode cX8_neededBy 36 = .ok (.ior, 1) := by decide +kernel
theorem dX8_neededBy_37 : decode cX8_neededBy 37 = .ok (.istore_n 2, 1) := by decide +kernel
theorem dX8_neededBy_38 : decode cX8_neededBy 38 = .ok (.iinc 3 1, 3) := by decide +kernel
theorem dX8_neededBy_41 : decode cX8_neededBy 41 = .ok (.goto (-37), 3) := by decide +kernel
theorem dX8_neededBy_44 : decode cX8_neededBy 44 = .ok (.iload_n 2, 1) := by decide +kernel
theorem dX8_neededBy_45 : decode cX8_neededBy 45 = .ok (.ireturn, 1) := by decide +kernel
theorem dX8_placeOnWay_0 : decode cX8_placeOnWay 0 = .ok (.aload_n 0, 1) := by decide +kernel
theorem dX8_placeOnWay_1 : decode cX8_placeOnWay 1 = .ok (.iload_n 1, 1) := by decide +kernel
theorem dX8_placeOnWay_2 : decode cX8_placeOnWay 2 = .ok (.iload_n 2, 1) := by decide +kernel
theorem dX8_placeOnWay_3 : decode cX8_placeOnWay 3 = .ok (.invokevirtual 28, 3) := by decide +kernel
theorem dX8_placeOnWay_6 : decode cX8_placeOnWay 6 = .ok (.aload_n 0, 1) := by decide +kernel
theorem dX8_placeOnWay_7 : decode cX8_placeOnWay 7 = .ok (.getfield 18, 3) := by decide +kernel
theorem dX8_placeOnWay_10 : decode cX8_placeOnWay 10 = .ok (.getfield 32, 3) := by decide +kernel
theorem dX8_placeOnWay_13 : decode cX8_placeOnWay 13 = .ok (.iload_n 1, 1) := by decide +kernel
theorem dX8_placeOnWay_14 : decode cX8_placeOnWay 14 = .ok (.iaload, 1) := by decide +kernel
theorem dX8_placeOnWay_15 : decode cX8_placeOnWay 15 = .ok (.istore 4, 2) := by decide +kernel
theorem dX8_placeOnWay_17 : decode cX8_placeOnWay 17 = .ok (.aload_n 0, 1) := by decide +kernel
theorem dX8_placeOnWay_18 : decode cX8_placeOnWay 18 = .ok (.getfield 15, 3) := by decide +kernel
theorem dX8_placeOnWay_21 : decode cX8_placeOnWay 21 = .ok (.iload 4, 2) := by decide +kernel
theorem dX8_placeOnWay_23 : decode cX8_placeOnWay 23 = .ok (.iaload, 1) := by decide +kernel
theorem dX8_placeOnWay_24 : decode cX8_placeOnWay 24 = .ok (.ldc 49, 2) := by decide +kernel
theorem dX8_placeOnWay_26 : decode cX8_placeOnWay 26 = .ok (.if_icmp .lt 6, 3) := by decide +kernel
theorem dX8_placeOnWay_29 : decode cX8_placeOnWay 29 = .ok (.bipush (-9), 2) := by decide +kernel
theorem dX8_placeOnWay_31 : decode cX8_placeOnWay 31 = .ok (.ireturn, 1) := by decide +kernel
theorem dX8_placeOnWay_32 : decode cX8_placeOnWay 32 = .ok (.iload_n 3, 1) := by decide +kernel
theorem dX8_placeOnWay_33 : decode cX8_placeOnWay 33 = .ok (.aload_n 0, 1) := by decide +kernel
theorem dX8_placeOnWay_34 : decode cX8_placeOnWay 34 = .ok (.getfield 15, 3) := by decide +kernel
theorem dX8_placeOnWay_37 : decode cX8_placeOnWay 37 = .ok (.iload 4, 2) := by decide +kernel
theorem dX8_placeOnWay_39 : decode cX8_placeOnWay 39 = .ok (.iaload, 1) := by decide +kernel
theorem dX8_placeOnWay_40 : decode cX8_placeOnWay 40 = .ok (.bipush 16, 2) := by decide +kernel
theorem dX8_placeOnWay_42 : decode cX8_placeOnWay 42 = .ok (.irem, 1) := by decide +kernel
theorem dX8_placeOnWay_43 : decode cX8_placeOnWay 43 = .ok (.if_icmp .le 6, 3) := by decide +kernel
theorem dX8_placeOnWay_46 : decode cX8_placeOnWay 46 = .ok (.bipush (-5), 2) := by decide +kernel
theorem dX8_placeOnWay_48 : decode cX8_placeOnWay 48 = .ok (.ireturn, 1) := by decide +kernel
theorem dX8_placeOnWay_49 : decode cX8_placeOnWay 49 = .ok (.iconst 0, 1) := by decide +kernel
theorem dX8_placeOnWay_50 : decode cX8_placeOnWay 50 = .ok (.istore 5, 2) := by decide +kernel
theorem dX8_placeOnWay_52 : decode cX8_placeOnWay 52 = .ok (.iload 5, 2) := by decide +kernel
theorem dX8_placeOnWay_54 : decode cX8_placeOnWay 54 = .ok (.iload_n 3, 1) := by decide +kernel
theorem dX8_placeOnWay_55 : decode cX8_placeOnWay 55 = .ok (.if_icmp .ge 18, 3) := by decide +kernel
theorem dX8_placeOnWay_58 : decode cX8_placeOnWay 58 = .ok (.aload_n 0, 1) := by decide +kernel
theorem dX8_placeOnWay_59 : decode cX8_placeOnWay 59 = .ok (.iload 4, 2) := by decide +kernel
theorem dX8_placeOnWay_61 : decode cX8_placeOnWay 61 = .ok (.iload_n 2, 1) := by decide +kernel
theorem dX8_placeOnWay_62 : decode cX8_placeOnWay 62 = .ok (.invokevirtual 50, 3) := by decide +kernel
theorem dX8_placeOnWay_65 : decode cX8_placeOnWay 65 = .ok (.istore 4, 2) := by decide +kernel
theorem dX8_placeOnWay_67 : decode cX8_placeOnWay 67 = .ok (.iinc 5 1, 3) := by decide +kernel
theorem dX8_placeOnWay_70 : decode cX8_placeOnWay 70 = .ok (.goto (-18), 3) := by decide +kernel
theorem dX8_placeOnWay_73 : decode cX8_placeOnWay 73 = .ok (.iload 4, 2) := by decide +kernel
theorem dX8_placeOnWay_75 : decode cX8_placeOnWay 75 = .ok (.ireturn, 1) := by decide +kernel
theorem dX8_measure_0 : decode cX8_measure 0 = .ok (.aload_n 0, 1) := by decide +kernel
theorem dX8_measure_1 : decode cX8_measure 1 = .ok (.getfield 15, 3) := by decide +kernel
theorem dX8_measure_4 : decode cX8_measure 4 = .ok (.ldc 49, 2) := by decide +kernel
theorem dX8_measure_6 : decode cX8_measure 6 = .ok (.invokestatic 22, 3) := by decide +kernel
theorem dX8_measure_9 : decode cX8_measure 9 = .ok (.aload_n 0, 1) := by decide +kernel
theorem dX8_measure_10 : decode cX8_measure 10 = .ok (.getfield 15, 3) := by decide +kernel
theorem dX8_measure_13 : decode cX8_measure 13 = .ok (.aload_n 0, 1) := by decide +kernel
theorem dX8_measure_14 : decode cX8_measure 14 = .ok (.getfield 18, 3) := by decide +kernel
theorem dX8_measure_17 : decode cX8_measure 17 = .ok (.getfield 53, 3) := by decide +kernel
theorem dX8_measure_20 : decode cX8_measure 20 = .ok (.iload_n 1, 1) := by decide +kernel
theorem dX8_measure_21 : decode cX8_measure 21 = .ok (.iaload, 1) := by decide +kernel
theorem dX8_measure_22 : decode cX8_measure 22 = .ok (.iconst 0, 1) := by decide +kernel
theorem dX8_measure_23 : decode cX8_measure 23 = .ok (.iastore, 1) := by decide +kernel
theorem dX8_measure_24 : decode cX8_measure 24 = .ok (.iconst 1, 1) := by decide +kernel
theorem dX8_measure_25 : decode cX8_measure 25 = .ok (.istore_n 3, 1) := by decide +kernel
theorem dX8_measure_26 : decode cX8_measure 26 = .ok (.iconst 1, 1) := by decide +kernel
theorem dX8_measure_27 : decode cX8_measure 27 = .ok (.istore 4, 2) := by decide +kernel
theorem dX8_measure_29 : decode cX8_measure 29 = .ok (.iload_n 3, 1) := by decide +kernel
theorem dX8_measure_30 : decode cX8_measure 30 = .ok (.ifCond .eq 114, 3) := by decide +kernel
theorem dX8_measure_33 : decode cX8_measure 33 = .ok (.iload 4, 2) := by decide +kernel
theorem dX8_measure_35 : decode cX8_measure 35 = .ok (.bipush 6, 2) := by decide +kernel
theorem dX8_measure_37 : decode cX8_measure 37 = .ok (.if_icmp .ge 107, 3) := by decide +kernel
theorem dX8_measure_40 : decode cX8_measure 40 = .ok (.iconst 0, 1) := by decide +kernel
theorem dX8_measure_41 : decode cX8_measure 41 = .ok (.istore_n 3, 1) := by decide +kernel
theorem dX8_measure_42 : decode cX8_measure 42 = .ok (.iconst 0, 1) := by decide +kernel
theorem dX8_measure_43 : decode cX8_measure 43 = .ok (.istore 5, 2) := by decide +kernel
theorem dX8_measure_45 : decode cX8_measure 45 = .ok (.iload 5, 2) := by decide +kernel
theorem dX8_measure_47 : decode cX8_measure 47 = .ok (.aload_n 0, 1) := by decide +kernel
theorem dX8_measure_48 : decode cX8_measure 48 = .ok (.getfield 18, 3) := by decide +kernel
theorem dX8_measure_51 : decode cX8_measure 51 = .ok (.getfield 44, 3) := by decide +kernel
theorem dX8_measure_54 : decode cX8_measure 54 = .ok (.if_icmp .ge 84, 3) := by decide +kernel
theorem dX8_measure_57 : decode cX8_measure 57 = .ok (.iload_n 2, 1) := by decide +kernel
theorem dX8_measure_58 : decode cX8_measure 58 = .ok (.iload 5, 2) := by decide +kernel
theorem dX8_measure_60 : decode cX8_measure 60 = .ok (.ishr, 1) := by decide +kernel
theorem dX8_measure_61 : decode cX8_measure 61 = .ok (.iconst 1, 1) := by decide +kernel
theorem dX8_measure_62 : decode cX8_measure 62 = .ok (.iand, 1) := by decide +kernel
theorem dX8_measure_63 : decode cX8_measure 63 = .ok (.ifCond .ne 69, 3) := by decide +kernel
theorem dX8_measure_66 : decode cX8_measure 66 = .ok (.iload_n 3, 1) := by decide +kernel
theorem dX8_measure_67 : decode cX8_measure 67 = .ok (.aload_n 0, 1) := by decide +kernel
theorem dX8_measure_68 : decode cX8_measure 68 = .ok (.aload_n 0, 1) := by decide +kernel
theorem dX8_measure_69 : decode cX8_measure 69 = .ok (.getfield 18, 3) := by decide +kernel
theorem dX8_measure_72 : decode cX8_measure 72 = .ok (.getfield 56, 3) := by decide +kernel
theorem dX8_measure_75 : decode cX8_measure 75 = .ok (.iload 5, 2) := by decide +kernel
theorem dX8_measure_77 : decode cX8_measure 77 = .ok (.iaload, 1) := by decide +kernel
theorem dX8_measure_78 : decode cX8_measure 78 = .ok (.aload_n 0, 1) := by decide +kernel
theorem dX8_measure_79 : decode cX8_measure 79 = .ok (.getfield 18, 3) := by decide +kernel
theorem dX8_measure_82 : decode cX8_measure 82 = .ok (.getfield 59, 3) := by decide +kernel
theorem dX8_measure_85 : decode cX8_measure 85 = .ok (.iload 5, 2) := by decide +kernel
theorem dX8_measure_87 : decode cX8_measure 87 = .ok (.iaload, 1) := by decide +kernel
theorem dX8_measure_88 : decode cX8_measure 88 = .ok (.aload_n 0, 1) := by decide +kernel
theorem dX8_measure_89 : decode cX8_measure 89 = .ok (.iload 5, 2) := by decide +kernel
theorem dX8_measure_91 : decode cX8_measure 91 = .ok (.invokevirtual 62, 3) := by decide +kernel
theorem dX8_measure_94 : decode cX8_measure 94 = .ok (.invokevirtual 66, 3) := by decide +kernel
theorem dX8_measure_97 : decode cX8_measure 97 = .ok (.ior, 1) := by decide +kernel
theorem dX8_measure_98 : decode cX8_measure 98 = .ok (.istore_n 3, 1) := by decide +kernel
theorem dX8_measure_99 : decode cX8_measure 99 = .ok (.iload_n 3, 1) := by decide +kernel
theorem dX8_measure_100 : decode cX8_measure 100 = .ok (.aload_n 0, 1) := by decide +kernel
theorem dX8_measure_101 : decode cX8_measure 101 = .ok (.aload_n 0, 1) := by decide +kernel
theorem dX8_measure_102 : decode cX8_measure 102 = .ok (.getfield 18, 3) := by decide +kernel
theorem dX8_measure_105 : decode cX8_measure 105 = .ok (.getfield 59, 3) := by decide +kernel
theorem dX8_measure_108 : decode cX8_measure 108 = .ok (.iload 5, 2) := by decide +kernel
theorem dX8_measure_110 : decode cX8_measure 110 = .ok (.iaload, 1) := by decide +kernel
theorem dX8_measure_111 : decode cX8_measure 111 = .ok (.aload_n 0, 1) := by decide +kernel
theorem dX8_measure_112 : decode cX8_measure 112 = .ok (.getfield 18, 3) := by decide +kernel
theorem dX8_measure_115 : decode cX8_measure 115 = .ok (.getfield 56, 3) := by decide +kernel
theorem dX8_measure_118 : decode cX8_measure 118 = .ok (.iload 5, 2) := by decide +kernel
theorem dX8_measure_120 : decode cX8_measure 120 = .ok (.iaload, 1) := by decide +kernel
theorem dX8_measure_121 : decode cX8_measure 121 = .ok (.aload_n 0, 1) := by decide +kernel
theorem dX8_measure_122 : decode cX8_measure 122 = .ok (.iload 5, 2) := by decide +kernel
theorem dX8_measure_124 : decode cX8_measure 124 = .ok (.invokevirtual 62, 3) := by decide +kernel
theorem dX8_measure_127 : decode cX8_measure 127 = .ok (.invokevirtual 66, 3) := by decide +kernel
theorem dX8_measure_130 : decode cX8_measure 130 = .ok (.ior, 1) := by decide +kernel
theorem dX8_measure_131 : decode cX8_measure 131 = .ok (.istore_n 3, 1) := by decide +kernel
theorem dX8_measure_132 : decode cX8_measure 132 = .ok (.iinc 5 1, 3) := by decide +kernel
theorem dX8_measure_135 : decode cX8_measure 135 = .ok (.goto (-90), 3) := by decide +kernel
theorem dX8_measure_138 : decode cX8_measure 138 = .ok (.iinc 4 1, 3) := by decide +kernel
theorem dX8_measure_141 : decode cX8_measure 141 = .ok (.goto (-112), 3) := by decide +kernel
theorem dX8_measure_144 : decode cX8_measure 144 = .ok (.return_, 1) := by decide +kernel
theorem dX8_shorten_0 : decode cX8_shorten 0 = .ok (.aload_n 0, 1) := by decide +kernel
theorem dX8_shorten_1 : decode cX8_shorten 1 = .ok (.getfield 15, 3) := by decide +kernel
theorem dX8_shorten_4 : decode cX8_shorten 4 = .ok (.iload_n 2, 1) := by decide +kernel
theorem dX8_shorten_5 : decode cX8_shorten 5 = .ok (.iaload, 1) := by decide +kernel
theorem dX8_shorten_6 : decode cX8_shorten 6 = .ok (.iload_n 3, 1) := by decide +kernel
theorem dX8_shorten_7 : decode cX8_shorten 7 = .ok (.iadd, 1) := by decide +kernel
theorem dX8_shorten_8 : decode cX8_shorten 8 = .ok (.aload_n 0, 1) := by decide +kernel
theorem dX8_shorten_9 : decode cX8_shorten 9 = .ok (.getfield 15, 3) := by decide +kernel
theorem dX8_shorten_12 : decode cX8_shorten 12 = .ok (.iload_n 1, 1) := by decide +kernel
theorem dX8_shorten_13 : decode cX8_shorten 13 = .ok (.iaload, 1) := by decide +kernel
theorem dX8_shorten_14 : decode cX8_shorten 14 = .ok (.if_icmp .lt 5, 3) := by decide +kernel
theorem dX8_shorten_17 : decode cX8_shorten 17 = .ok (.iconst 0, 1) := by decide +kernel
theorem dX8_shorten_18 : decode cX8_shorten 18 = .ok (.ireturn, 1) := by decide +kernel
theorem dX8_shorten_19 : decode cX8_shorten 19 = .ok (.aload_n 0, 1) := by decide +kernel
theorem dX8_shorten_20 : decode cX8_shorten 20 = .ok (.getfield 15, 3) := by decide +kernel
theorem dX8_shorten_23 : decode cX8_shorten 23 = .ok (.iload_n 1, 1) := by decide +kernel
theorem dX8_shorten_24 : decode cX8_shorten 24 = .ok (.aload_n 0, 1) := by decide +kernel
theorem dX8_shorten_25 : decode cX8_shorten 25 = .ok (.getfield 15, 3) := by decide +kernel
theorem dX8_shorten_28 : decode cX8_shorten 28 = .ok (.iload_n 2, 1) := by decide +kernel
theorem dX8_shorten_29 : decode cX8_shorten 29 = .ok (.iaload, 1) := by decide +kernel
theorem dX8_shorten_30 : decode cX8_shorten 30 = .ok (.iload_n 3, 1) := by decide +kernel
theorem dX8_shorten_31 : decode cX8_shorten 31 = .ok (.iadd, 1) := by decide +kernel
theorem dX8_shorten_32 : decode cX8_shorten 32 = .ok (.iastore, 1) := by decide +kernel
theorem dX8_shorten_33 : decode cX8_shorten 33 = .ok (.iconst 1, 1) := by decide +kernel
theorem dX8_shorten_34 : decode cX8_shorten 34 = .ok (.ireturn, 1) := by decide +kernel
theorem dX8_leg_0 : decode cX8_leg 0 = .ok (.aload_n 0, 1) := by decide +kernel
theorem dX8_leg_1 : decode cX8_leg 1 = .ok (.getfield 18, 3) := by decide +kernel
theorem dX8_leg_4 : decode cX8_leg 4 = .ok (.getfield 70, 3) := by decide +kernel
theorem dX8_leg_7 : decode cX8_leg 7 = .ok (.iload_n 1, 1) := by decide +kernel
theorem dX8_leg_8 : decode cX8_leg 8 = .ok (.iaload, 1) := by decide +kernel
theorem dX8_leg_9 : decode cX8_leg 9 = .ok (.bipush 16, 2) := by decide +kernel
theorem dX8_leg_11 : decode cX8_leg 11 = .ok (.imul, 1) := by decide +kernel
theorem dX8_leg_12 : decode cX8_leg 12 = .ok (.iconst 1, 1) := by decide +kernel
theorem dX8_leg_13 : decode cX8_leg 13 = .ok (.iadd, 1) := by decide +kernel
theorem dX8_leg_14 : decode cX8_leg 14 = .ok (.ireturn, 1) := by decide +kernel
theorem dX8_nextPlace_0 : decode cX8_nextPlace 0 = .ok (.bipush 6, 2) := by decide +kernel
theorem dX8_nextPlace_2 : decode cX8_nextPlace 2 = .ok (.istore_n 3, 1) := by decide +kernel
theorem dX8_nextPlace_3 : decode cX8_nextPlace 3 = .ok (.iconst 0, 1) := by decide +kernel
theorem dX8_nextPlace_4 : decode cX8_nextPlace 4 = .ok (.istore 4, 2) := by decide +kernel
theorem dX8_nextPlace_6 : decode cX8_nextPlace 6 = .ok (.iload 4, 2) := by decide +kernel
theorem dX8_nextPlace_8 : decode cX8_nextPlace 8 = .ok (.aload_n 0, 1) := by decide +kernel
theorem dX8_nextPlace_9 : decode cX8_nextPlace 9 = .ok (.getfield 18, 3) := by decide +kernel
theorem dX8_nextPlace_12 : decode cX8_nextPlace 12 = .ok (.getfield 44, 3) := by decide +kernel
theorem dX8_nextPlace_15 : decode cX8_nextPlace 15 = .ok (.if_icmp .ge 62, 3) := by decide +kernel
theorem dX8_nextPlace_18 : decode cX8_nextPlace 18 = .ok (.iload_n 2, 1) := by decide +kernel
theorem dX8_nextPlace_19 : decode cX8_nextPlace 19 = .ok (.iload 4, 2) := by decide +kernel
theorem dX8_nextPlace_21 : decode cX8_nextPlace 21 = .ok (.ishr, 1) := by decide +kernel
theorem dX8_nextPlace_22 : decode cX8_nextPlace 22 = .ok (.iconst 1, 1) := by decide +kernel
theorem dX8_nextPlace_23 : decode cX8_nextPlace 23 = .ok (.iand, 1) := by decide +kernel
theorem dX8_nextPlace_24 : decode cX8_nextPlace 24 = .ok (.ifCond .ne 47, 3) := by decide +kernel
theorem dX8_nextPlace_27 : decode cX8_nextPlace 27 = .ok (.aload_n 0, 1) := by decide +kernel
theorem dX8_nextPlace_28 : decode cX8_nextPlace 28 = .ok (.iload 4, 2) := by decide +kernel
theorem dX8_nextPlace_30 : decode cX8_nextPlace 30 = .ok (.iload_n 1, 1) := by decide +kernel
theorem dX8_nextPlace_31 : decode cX8_nextPlace 31 = .ok (.invokevirtual 72, 3) := by decide +kernel
theorem dX8_nextPlace_34 : decode cX8_nextPlace 34 = .ok (.istore 5, 2) := by decide +kernel
theorem dX8_nextPlace_36 : decode cX8_nextPlace 36 = .ok (.iload 5, 2) := by decide +kernel
theorem dX8_nextPlace_38 : decode cX8_nextPlace 38 = .ok (.ifCond .lt 33, 3) := by decide +kernel
theorem dX8_nextPlace_41 : decode cX8_nextPlace 41 = .ok (.aload_n 0, 1) := by decide +kernel
theorem dX8_nextPlace_42 : decode cX8_nextPlace 42 = .ok (.getfield 15, 3) := by decide +kernel
theorem dX8_nextPlace_45 : decode cX8_nextPlace 45 = .ok (.iload 5, 2) := by decide +kernel
theorem dX8_nextPlace_47 : decode cX8_nextPlace 47 = .ok (.iaload, 1) := by decide +kernel
theorem dX8_nextPlace_48 : decode cX8_nextPlace 48 = .ok (.aload_n 0, 1) := by decide +kernel
theorem dX8_nextPlace_49 : decode cX8_nextPlace 49 = .ok (.iload 4, 2) := by decide +kernel
theorem dX8_nextPlace_51 : decode cX8_nextPlace 51 = .ok (.invokevirtual 62, 3) := by decide +kernel
theorem dX8_nextPlace_54 : decode cX8_nextPlace 54 = .ok (.iadd, 1) := by decide +kernel
theorem dX8_nextPlace_55 : decode cX8_nextPlace 55 = .ok (.aload_n 0, 1) := by decide +kernel
theorem dX8_nextPlace_56 : decode cX8_nextPlace 56 = .ok (.getfield 15, 3) := by decide +kernel
theorem dX8_nextPlace_59 : decode cX8_nextPlace 59 = .ok (.iload_n 1, 1) := by decide +kernel
theorem dX8_nextPlace_60 : decode cX8_nextPlace 60 = .ok (.iaload, 1) := by decide +kernel
theorem dX8_nextPlace_61 : decode cX8_nextPlace 61 = .ok (.if_icmp .ne 10, 3) := by decide +kernel
theorem dX8_nextPlace_64 : decode cX8_nextPlace 64 = .ok (.iload_n 3, 1) := by decide +kernel
theorem dX8_nextPlace_65 : decode cX8_nextPlace 65 = .ok (.iload 5, 2) := by decide +kernel
theorem dX8_nextPlace_67 : decode cX8_nextPlace 67 = .ok (.invokestatic 75, 3) := by decide +kernel
theorem dX8_nextPlace_70 : decode cX8_nextPlace 70 = .ok (.istore_n 3, 1) := by decide +kernel
theorem dX8_nextPlace_71 : decode cX8_nextPlace 71 = .ok (.iinc 4 1, 3) := by decide +kernel
theorem dX8_nextPlace_74 : decode cX8_nextPlace 74 = .ok (.goto (-68), 3) := by decide +kernel
theorem dX8_nextPlace_77 : decode cX8_nextPlace 77 = .ok (.iload_n 3, 1) := by decide +kernel
theorem dX8_nextPlace_78 : decode cX8_nextPlace 78 = .ok (.bipush 6, 2) := by decide +kernel
theorem dX8_nextPlace_80 : decode cX8_nextPlace 80 = .ok (.if_icmp .ge 7, 3) := by decide +kernel
theorem dX8_nextPlace_83 : decode cX8_nextPlace 83 = .ok (.iload_n 3, 1) := by decide +kernel
theorem dX8_nextPlace_84 : decode cX8_nextPlace 84 = .ok (.goto 4, 3) := by decide +kernel
theorem dX8_nextPlace_87 : decode cX8_nextPlace 87 = .ok (.iload_n 1, 1) := by decide +kernel
theorem dX8_nextPlace_88 : decode cX8_nextPlace 88 = .ok (.ireturn, 1) := by decide +kernel
theorem dX8_otherEnd_0 : decode cX8_otherEnd 0 = .ok (.aload_n 0, 1) := by decide +kernel
theorem dX8_otherEnd_1 : decode cX8_otherEnd 1 = .ok (.getfield 18, 3) := by decide +kernel
theorem dX8_otherEnd_4 : decode cX8_otherEnd 4 = .ok (.getfield 56, 3) := by decide +kernel
theorem dX8_otherEnd_7 : decode cX8_otherEnd 7 = .ok (.iload_n 1, 1) := by decide +kernel
theorem dX8_otherEnd_8 : decode cX8_otherEnd 8 = .ok (.iaload, 1) := by decide +kernel
theorem dX8_otherEnd_9 : decode cX8_otherEnd 9 = .ok (.iload_n 2, 1) := by decide +kernel
theorem dX8_otherEnd_10 : decode cX8_otherEnd 10 = .ok (.if_icmp .ne 13, 3) := by decide +kernel
theorem dX8_otherEnd_13 : decode cX8_otherEnd 13 = .ok (.aload_n 0, 1) := by decide +kernel
theorem dX8_otherEnd_14 : decode cX8_otherEnd 14 = .ok (.getfield 18, 3) := by decide +kernel
theorem dX8_otherEnd_17 : decode cX8_otherEnd 17 = .ok (.getfield 59, 3) := by decide +kernel
theorem dX8_otherEnd_20 : decode cX8_otherEnd 20 = .ok (.iload_n 1, 1) := by decide +kernel
theorem dX8_otherEnd_21 : decode cX8_otherEnd 21 = .ok (.iaload, 1) := by decide +kernel
theorem dX8_otherEnd_22 : decode cX8_otherEnd 22 = .ok (.ireturn, 1) := by decide +kernel
theorem dX8_otherEnd_23 : decode cX8_otherEnd 23 = .ok (.aload_n 0, 1) := by decide +kernel
theorem dX8_otherEnd_24 : decode cX8_otherEnd 24 = .ok (.getfield 18, 3) := by decide +kernel
theorem dX8_otherEnd_27 : decode cX8_otherEnd 27 = .ok (.getfield 59, 3) := by decide +kernel
theorem dX8_otherEnd_30 : decode cX8_otherEnd 30 = .ok (.iload_n 1, 1) := by decide +kernel
theorem dX8_otherEnd_31 : decode cX8_otherEnd 31 = .ok (.iaload, 1) := by decide +kernel
theorem dX8_otherEnd_32 : decode cX8_otherEnd 32 = .ok (.iload_n 2, 1) := by decide +kernel
theorem dX8_otherEnd_33 : decode cX8_otherEnd 33 = .ok (.if_icmp .ne 15, 3) := by decide +kernel
theorem dX8_otherEnd_36 : decode cX8_otherEnd 36 = .ok (.aload_n 0, 1) := by decide +kernel
theorem dX8_otherEnd_37 : decode cX8_otherEnd 37 = .ok (.getfield 18, 3) := by decide +kernel
theorem dX8_otherEnd_40 : decode cX8_otherEnd 40 = .ok (.getfield 56, 3) := by decide +kernel
theorem dX8_otherEnd_43 : decode cX8_otherEnd 43 = .ok (.iload_n 1, 1) := by decide +kernel
theorem dX8_otherEnd_44 : decode cX8_otherEnd 44 = .ok (.iaload, 1) := by decide +kernel
theorem dX8_otherEnd_45 : decode cX8_otherEnd 45 = .ok (.goto 4, 3) := by decide +kernel
theorem dX8_otherEnd_48 : decode cX8_otherEnd 48 = .ok (.iconst (-1), 1) := by decide +kernel
theorem dX8_otherEnd_49 : decode cX8_otherEnd 49 = .ok (.ireturn, 1) := by decide +kernel
