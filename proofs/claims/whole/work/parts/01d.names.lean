theorem dX11_init_0 : decode cX11_init 0 = .ok (.aload_n 0, 1) := by decide +kernel
theorem dX11_init_1 : decode cX11_init 1 = .ok (.invokespecial 1, 3) := by decide +kernel
theorem dX11_init_4 : decode cX11_init 4 = .ok (.aload_n 0, 1) := by decide +kernel
theorem dX11_init_5 : decode cX11_init 5 = .ok (.bipush 8, 2) := by decide +kernel
theorem dX11_init_7 : decode cX11_init 7 = .ok (.newarray .int, 2) := by decide +kernel
theorem dX11_init_9 : decode cX11_init 9 = .ok (.putfield 7, 3) := by decide +kernel
theorem dX11_init_12 : decode cX11_init 12 = .ok (.aload_n 0, 1) := by decide +kernel
theorem dX11_init_13 : decode cX11_init 13 = .ok (.bipush 72, 2) := by decide +kernel
theorem dX11_init_15 : decode cX11_init 15 = .ok (.newarray .int, 2) := by decide +kernel
theorem dX11_init_17 : decode cX11_init 17 = .ok (.putfield 13, 3) := by decide +kernel
theorem dX11_init_20 : decode cX11_init 20 = .ok (.aload_n 0, 1) := by decide +kernel
theorem dX11_init_21 : decode cX11_init 21 = .ok (.bipush 9, 2) := by decide +kernel
theorem dX11_init_23 : decode cX11_init 23 = .ok (.newarray .int, 2) := by decide +kernel
theorem dX11_init_25 : decode cX11_init 25 = .ok (.putfield 16, 3) := by decide +kernel
theorem dX11_init_28 : decode cX11_init 28 = .ok (.aload_n 0, 1) := by decide +kernel
theorem dX11_init_29 : decode cX11_init 29 = .ok (.sipush 301, 3) := by decide +kernel
theorem dX11_init_32 : decode cX11_init 32 = .ok (.newarray .int, 2) := by decide +kernel
theorem dX11_init_34 : decode cX11_init 34 = .ok (.putfield 19, 3) := by decide +kernel
theorem dX11_init_37 : decode cX11_init 37 = .ok (.aload_n 0, 1) := by decide +kernel
theorem dX11_init_38 : decode cX11_init 38 = .ok (.sipush 602, 3) := by decide +kernel
theorem dX11_init_41 : decode cX11_init 41 = .ok (.newarray .int, 2) := by decide +kernel
theorem dX11_init_43 : decode cX11_init 43 = .ok (.putfield 22, 3) := by decide +kernel
theorem dX11_init_46 : decode cX11_init 46 = .ok (.aload_n 0, 1) := by decide +kernel
theorem dX11_init_47 : decode cX11_init 47 = .ok (.sipush 602, 3) := by decide +kernel
theorem dX11_init_50 : decode cX11_init 50 = .ok (.newarray .int, 2) := by decide +kernel
theorem dX11_init_52 : decode cX11_init 52 = .ok (.putfield 25, 3) := by decide +kernel
theorem dX11_init_55 : decode cX11_init 55 = .ok (.aload_n 0, 1) := by decide +kernel
theorem dX11_init_56 : decode cX11_init 56 = .ok (.bipush 30, 2) := by decide +kernel
theorem dX11_init_58 : decode cX11_init 58 = .ok (.newarray .int, 2) := by decide +kernel
theorem dX11_init_60 : decode cX11_init 60 = .ok (.putfield 28, 3) := by decide +kernel
theorem dX11_init_63 : decode cX11_init 63 = .ok (.aload_n 0, 1) := by decide +kernel
theorem dX11_init_64 : decode cX11_init 64 = .ok (.iconst 4, 1) := by decide +kernel
theorem dX11_init_65 : decode cX11_init 65 = .ok (.newarray .int, 2) := by decide +kernel
theorem dX11_init_67 : decode cX11_init 67 = .ok (.putfield 31, 3) := by decide +kernel
theorem dX11_init_70 : decode cX11_init 70 = .ok (.aload_n 0, 1) := by decide +kernel
theorem dX11_init_71 : decode cX11_init 71 = .ok (.iconst 4, 1) := by decide +kernel
theorem dX11_init_72 : decode cX11_init 72 = .ok (.newarray .int, 2) := by decide +kernel
theorem dX11_init_74 : decode cX11_init 74 = .ok (.putfield 34, 3) := by decide +kernel
theorem dX11_init_77 : decode cX11_init 77 = .ok (.aload_n 0, 1) := by decide +kernel
theorem dX11_init_78 : decode cX11_init 78 = .ok (.sipush 240, 3) := by decide +kernel
theorem dX11_init_81 : decode cX11_init 81 = .ok (.newarray .int, 2) := by decide +kernel
theorem dX11_init_83 : decode cX11_init 83 = .ok (.putfield 37, 3) := by decide +kernel
theorem dX11_init_86 : decode cX11_init 86 = .ok (.aload_n 0, 1) := by decide +kernel
theorem dX11_init_87 : decode cX11_init 87 = .ok (.bipush 60, 2) := by decide +kernel
theorem dX11_init_89 : decode cX11_init 89 = .ok (.newarray .int, 2) := by decide +kernel
theorem dX11_init_91 : decode cX11_init 91 = .ok (.putfield 40, 3) := by decide +kernel
theorem dX11_init_94 : decode cX11_init 94 = .ok (.iconst 0, 1) := by decide +kernel
theorem dX11_init_95 : decode cX11_init 95 = .ok (.istore_n 1, 1) := by decide +kernel
theorem dX11_init_96 : decode cX11_init 96 = .ok (.iload_n 1, 1) := by decide +kernel
theorem dX11_init_97 : decode cX11_init 97 = .ok (.iconst 4, 1) := by decide +kernel
theorem dX11_init_98 : decode cX11_init 98 = .ok (.if_icmp .ge 16, 3) := by decide +kernel
theorem dX11_init_101 : decode cX11_init 101 = .ok (.aload_n 0, 1) := by decide +kernel
theorem dX11_init_102 : decode cX11_init 102 = .ok (.getfield 31, 3) := by decide +kernel
theorem dX11_init_105 : decode cX11_init 105 = .ok (.iload_n 1, 1) := by decide +kernel
theorem dX11_init_106 : decode cX11_init 106 = .ok (.iconst (-1), 1) := by decide +kernel
theorem dX11_init_107 : decode cX11_init 107 = .ok (.iastore, 1) := by decide +kernel
theorem dX11_init_108 : decode cX11_init 108 = .ok (.iinc 1 1, 3) := by decide +kernel
theorem dX11_init_111 : decode cX11_init 111 = .ok (.goto (-15), 3) := by decide +kernel
theorem dX11_init_114 : decode cX11_init 114 = .ok (.return_, 1) := by decide +kernel
theorem dX11_in_0 : decode cX11_in 0 = .ok (.lload_n 0, 1) := by decide +kernel
theorem dX11_in_1 : decode cX11_in 1 = .ok (.lload_n 2, 1) := by decide +kernel
theorem dX11_in_2 : decode cX11_in 2 = .ok (.lcmp, 1) := by decide +kernel
theorem dX11_in_3 : decode cX11_in 3 = .ok (.ifCond .lt 14, 3) := by decide +kernel
theorem dX11_in_6 : decode cX11_in 6 = .ok (.lload_n 0, 1) := by decide +kernel
theorem dX11_in_7 : decode cX11_in 7 = .ok (.lload 4, 2) := by decide +kernel
theorem dX11_in_9 : decode cX11_in 9 = .ok (.lcmp, 1) := by decide +kernel
theorem dX11_in_10 : decode cX11_in 10 = .ok (.ifCond .gt 7, 3) := by decide +kernel
theorem dX11_in_13 : decode cX11_in 13 = .ok (.iconst 1, 1) := by decide +kernel
theorem dX11_in_14 : decode cX11_in 14 = .ok (.goto 4, 3) := by decide +kernel
theorem dX11_in_17 : decode cX11_in 17 = .ok (.iconst 0, 1) := by decide +kernel
theorem dX11_in_18 : decode cX11_in 18 = .ok (.ireturn, 1) := by decide +kernel
theorem dX11_lost_0 : decode cX11_lost 0 = .ok (.ldc2_w 43, 3) := by decide +kernel
theorem dX11_lost_3 : decode cX11_lost 3 = .ok (.lreturn, 1) := by decide +kernel
theorem dX11_held_0 : decode cX11_held 0 = .ok (.iload_n 0, 1) := by decide +kernel
theorem dX11_held_1 : decode cX11_held 1 = .ok (.iload_n 1, 1) := by decide +kernel
theorem dX11_held_2 : decode cX11_held 2 = .ok (.if_icmp .ge 7, 3) := by decide +kernel
theorem dX11_held_5 : decode cX11_held 5 = .ok (.iload_n 1, 1) := by decide +kernel
theorem dX11_held_6 : decode cX11_held 6 = .ok (.goto 13, 3) := by decide +kernel
theorem dX11_held_9 : decode cX11_held 9 = .ok (.iload_n 0, 1) := by decide +kernel
theorem dX11_held_10 : decode cX11_held 10 = .ok (.iload_n 2, 1) := by decide +kernel
theorem dX11_held_11 : decode cX11_held 11 = .ok (.if_icmp .le 7, 3) := by decide +kernel
theorem dX11_held_14 : decode cX11_held 14 = .ok (.iload_n 2, 1) := by decide +kernel
theorem dX11_held_15 : decode cX11_held 15 = .ok (.goto 4, 3) := by decide +kernel
theorem dX11_held_18 : decode cX11_held 18 = .ok (.iload_n 0, 1) := by decide +kernel
theorem dX11_held_19 : decode cX11_held 19 = .ok (.ireturn, 1) := by decide +kernel
theorem dX11_sizeOf_0 : decode cX11_sizeOf 0 = .ok (.iload_n 0, 1) := by decide +kernel
theorem dX11_sizeOf_1 : decode cX11_sizeOf 1 = .ok (.ifCond .ge 8, 3) := by decide +kernel
theorem dX11_sizeOf_4 : decode cX11_sizeOf 4 = .ok (.iload_n 0, 1) := by decide +kernel
theorem dX11_sizeOf_5 : decode cX11_sizeOf 5 = .ok (.ineg, 1) := by decide +kernel
theorem dX11_sizeOf_6 : decode cX11_sizeOf 6 = .ok (.goto 4, 3) := by decide +kernel
theorem dX11_sizeOf_9 : decode cX11_sizeOf 9 = .ok (.iload_n 0, 1) := by decide +kernel
theorem dX11_sizeOf_10 : decode cX11_sizeOf 10 = .ok (.ireturn, 1) := by decide +kernel
theorem dX11_reduced_0 : decode cX11_reduced 0 = .ok (.lload_n 0, 1) := by decide +kernel
theorem dX11_reduced_1 : decode cX11_reduced 1 = .ok (.lconst 0, 1) := by decide +kernel
theorem dX11_reduced_2 : decode cX11_reduced 2 = .ok (.lcmp, 1) := by decide +kernel
theorem dX11_reduced_3 : decode cX11_reduced 3 = .ok (.ifCond .ge 8, 3) := by decide +kernel
theorem dX11_reduced_6 : decode cX11_reduced 6 = .ok (.lload_n 0, 1) := by decide +kernel
theorem dX11_reduced_7 : decode cX11_reduced 7 = .ok (.lneg, 1) := by decide +kernel
theorem dX11_reduced_8 : decode cX11_reduced 8 = .ok (.goto 4, 3) := by decide +kernel
theorem dX11_reduced_11 : decode cX11_reduced 11 = .ok (.lload_n 0, 1) := by decide +kernel
theorem dX11_reduced_12 : decode cX11_reduced 12 = .ok (.lstore 5, 2) := by decide +kernel
theorem dX11_reduced_14 : decode cX11_reduced 14 = .ok (.lload_n 2, 1) := by decide +kernel
theorem dX11_reduced_15 : decode cX11_reduced 15 = .ok (.lstore 7, 2) := by decide +kernel
theorem dX11_reduced_17 : decode cX11_reduced 17 = .ok (.lload 7, 2) := by decide +kernel
theorem dX11_reduced_19 : decode cX11_reduced 19 = .ok (.lconst 0, 1) := by decide +kernel
theorem dX11_reduced_20 : decode cX11_reduced 20 = .ok (.lcmp, 1) := by decide +kernel
theorem dX11_reduced_21 : decode cX11_reduced 21 = .ok (.ifCond .eq 21, 3) := by decide +kernel
theorem dX11_reduced_24 : decode cX11_reduced 24 = .ok (.lload 5, 2) := by decide +kernel
theorem dX11_reduced_26 : decode cX11_reduced 26 = .ok (.lload 7, 2) := by decide +kernel
theorem dX11_reduced_28 : decode cX11_reduced 28 = .ok (.lrem, 1) := by decide +kernel
theorem dX11_reduced_29 : decode cX11_reduced 29 = .ok (.lstore 9, 2) := by decide +kernel
theorem dX11_reduced_31 : decode cX11_reduced 31 = .ok (.lload 7, 2) := by decide +kernel
theorem dX11_reduced_33 : decode cX11_reduced 33 = .ok (.lstore 5, 2) := by decide +kernel
theorem dX11_reduced_35 : decode cX11_reduced 35 = .ok (.lload 9, 2) := by decide +kernel
theorem dX11_reduced_37 : decode cX11_reduced 37 = .ok (.lstore 7, 2) := by decide +kernel
theorem dX11_reduced_39 : decode cX11_reduced 39 = .ok (.goto (-22), 3) := by decide +kernel
theorem dX11_reduced_42 : decode cX11_reduced 42 = .ok (.iload 4, 2) := by decide +kernel
theorem dX11_reduced_44 : decode cX11_reduced 44 = .ok (.ifCond .ne 7, 3) := by decide +kernel
theorem dX11_reduced_47 : decode cX11_reduced 47 = .ok (.lload_n 0, 1) := by decide +kernel
theorem dX11_reduced_48 : decode cX11_reduced 48 = .ok (.goto 4, 3) := by decide +kernel
theorem dX11_reduced_51 : decode cX11_reduced 51 = .ok (.lload_n 2, 1) := by decide +kernel
theorem dX11_reduced_52 : decode cX11_reduced 52 = .ok (.lload 5, 2) := by decide +kernel
theorem dX11_reduced_54 : decode cX11_reduced 54 = .ok (.ldiv, 1) := by decide +kernel
theorem dX11_reduced_55 : decode cX11_reduced 55 = .ok (.lreturn, 1) := by decide +kernel
theorem dX11_refused_0 : decode cX11_refused 0 = .ok (.aload_n 0, 1) := by decide +kernel
theorem dX11_refused_1 : decode cX11_refused 1 = .ok (.iconst 0, 1) := by decide +kernel
theorem dX11_refused_2 : decode cX11_refused 2 = .ok (.putfield 45, 3) := by decide +kernel
theorem dX11_refused_5 : decode cX11_refused 5 = .ok (.iload_n 1, 1) := by decide +kernel
theorem dX11_refused_6 : decode cX11_refused 6 = .ok (.ireturn, 1) := by decide +kernel
theorem dX11_failed_0 : decode cX11_failed 0 = .ok (.aload_n 0, 1) := by decide +kernel
theorem dX11_failed_1 : decode cX11_failed 1 = .ok (.iload_n 1, 1) := by decide +kernel
theorem dX11_failed_2 : decode cX11_failed 2 = .ok (.putfield 45, 3) := by decide +kernel
theorem dX11_failed_5 : decode cX11_failed 5 = .ok (.bipush (-10), 2) := by decide +kernel
theorem dX11_failed_7 : decode cX11_failed 7 = .ok (.iload_n 1, 1) := by decide +kernel
theorem dX11_failed_8 : decode cX11_failed 8 = .ok (.isub, 1) := by decide +kernel
theorem dX11_failed_9 : decode cX11_failed 9 = .ok (.ireturn, 1) := by decide +kernel
set_option maxRecDepth 20000 in
theorem ggX11_failedLong_X11_lost : GoodIn wsX11_failedLong wsX11_lost := goodIn_r _ [5, 6] (by decide +kernel) (by decide +kernel)
set_option maxRecDepth 20000 in
theorem gX11_failedLong_X11_lost : GoodIn wsX11_failedLong (va_wsS RX11 49 yX11_lost wsX11_lost) := goodIn_app (goodIn_of _ (by decide +kernel)) ggX11_failedLong_X11_lost
theorem dX11_failedLong_0 : decode cX11_failedLong 0 = .ok (.aload_n 0, 1) := by decide +kernel
theorem dX11_failedLong_1 : decode cX11_failedLong 1 = .ok (.iload_n 1, 1) := by decide +kernel
theorem dX11_failedLong_2 : decode cX11_failedLong 2 = .ok (.putfield 45, 3) := by decide +kernel
theorem dX11_failedLong_5 : decode cX11_failedLong 5 = .ok (.invokestatic 49, 3) := by decide +kernel
theorem dX11_failedLong_8 : decode cX11_failedLong 8 = .ok (.lreturn, 1) := by decide +kernel
set_option maxRecDepth 20000 in
theorem ggX11_barred_X11_failed : GoodIn wsX11_barred wsX11_failed := goodIn_r _ [7, 8, 12, 13, 14, 15, 16, 17, 18, 19, 20, 21, 22, 23, 24, 25, 26, 27, 28, 29, 30, 31, 32] (by decide +kernel) (by decide +kernel)
set_option maxRecDepth 20000 in
theorem gX11_barred_X11_failed : GoodIn wsX11_barred (wsV RX11 53 RX11 yX11_failed wsX11_failed) := goodIn_app (goodIn_of _ (by decide +kernel)) ggX11_barred_X11_failed
set_option maxRecDepth 20000 in
theorem ggX11_barred_X11_isBeyond : GoodIn wsX11_barred wsX11_isBeyond := goodIn_r _ [11] (by decide +kernel) (by decide +kernel)
set_option maxRecDepth 20000 in
theorem gX11_barred_X11_isBeyond : GoodIn wsX11_barred (va_wsS RX11 57 yX11_isBeyond wsX11_isBeyond) := goodIn_app (goodIn_of _ (by decide +kernel)) ggX11_barred_X11_isBeyond
theorem dX11_barred_0 : decode cX11_barred 0 = .ok (.aload_n 0, 1) := by decide +kernel
theorem dX11_barred_1 : decode cX11_barred 1 = .ok (.getfield 31, 3) := by decide +kernel
theorem dX11_barred_4 : decode cX11_barred 4 = .ok (.iload_n 1, 1) := by decide +kernel
theorem dX11_barred_5 : decode cX11_barred 5 = .ok (.iaload, 1) := by decide +kernel
theorem dX11_barred_6 : decode cX11_barred 6 = .ok (.ifCond .lt 19, 3) := by decide +kernel
theorem dX11_barred_9 : decode cX11_barred 9 = .ok (.aload_n 0, 1) := by decide +kernel
theorem dX11_barred_10 : decode cX11_barred 10 = .ok (.getfield 34, 3) := by decide +kernel
theorem dX11_barred_13 : decode cX11_barred 13 = .ok (.iload_n 1, 1) := by decide +kernel
theorem dX11_barred_14 : decode cX11_barred 14 = .ok (.iaload, 1) := by decide +kernel
theorem dX11_barred_15 : decode cX11_barred 15 = .ok (.iload_n 2, 1) := by decide +kernel
theorem dX11_barred_16 : decode cX11_barred 16 = .ok (.if_icmp .eq 9, 3) := by decide +kernel
theorem dX11_barred_19 : decode cX11_barred 19 = .ok (.aload_n 0, 1) := by decide +kernel
theorem dX11_barred_20 : decode cX11_barred 20 = .ok (.iconst 2, 1) := by decide +kernel
theorem dX11_barred_21 : decode cX11_barred 21 = .ok (.invokevirtual 53, 3) := by decide +kernel
theorem dX11_barred_24 : decode cX11_barred 24 = .ok (.ireturn, 1) := by decide +kernel
theorem dX11_barred_25 : decode cX11_barred 25 = .ok (.aload_n 0, 1) := by decide +kernel
theorem dX11_barred_26 : decode cX11_barred 26 = .ok (.getfield 31, 3) := by decide +kernel
theorem dX11_barred_29 : decode cX11_barred 29 = .ok (.iload_n 1, 1) := by decide +kernel
theorem dX11_barred_30 : decode cX11_barred 30 = .ok (.iaload, 1) := by decide +kernel
theorem dX11_barred_31 : decode cX11_barred 31 = .ok (.ifCond .ge 9, 3) := by decide +kernel
theorem dX11_barred_34 : decode cX11_barred 34 = .ok (.aload_n 0, 1) := by decide +kernel
theorem dX11_barred_35 : decode cX11_barred 35 = .ok (.iconst 1, 1) := by decide +kernel
theorem dX11_barred_36 : decode cX11_barred 36 = .ok (.invokevirtual 53, 3) := by decide +kernel
theorem dX11_barred_39 : decode cX11_barred 39 = .ok (.ireturn, 1) := by decide +kernel
theorem dX11_barred_40 : decode cX11_barred 40 = .ok (.lload 4, 2) := by decide +kernel
theorem dX11_barred_42 : decode cX11_barred 42 = .ok (.lconst 0, 1) := by decide +kernel
theorem dX11_barred_43 : decode cX11_barred 43 = .ok (.lcmp, 1) := by decide +kernel
theorem dX11_barred_44 : decode cX11_barred 44 = .ok (.ifCond .ge 9, 3) := by decide +kernel
theorem dX11_barred_47 : decode cX11_barred 47 = .ok (.aload_n 0, 1) := by decide +kernel
theorem dX11_barred_48 : decode cX11_barred 48 = .ok (.iconst 4, 1) := by decide +kernel
theorem dX11_barred_49 : decode cX11_barred 49 = .ok (.invokevirtual 53, 3) := by decide +kernel
theorem dX11_barred_52 : decode cX11_barred 52 = .ok (.ireturn, 1) := by decide +kernel
theorem dX11_barred_53 : decode cX11_barred 53 = .ok (.iload_n 3, 1) := by decide +kernel
theorem dX11_barred_54 : decode cX11_barred 54 = .ok (.lload 4, 2) := by decide +kernel
theorem dX11_barred_56 : decode cX11_barred 56 = .ok (.aload_n 0, 1) := by decide +kernel
theorem dX11_barred_57 : decode cX11_barred 57 = .ok (.getfield 31, 3) := by decide +kernel
theorem dX11_barred_60 : decode cX11_barred 60 = .ok (.iload_n 1, 1) := by decide +kernel
theorem dX11_barred_61 : decode cX11_barred 61 = .ok (.iaload, 1) := by decide +kernel
theorem dX11_barred_62 : decode cX11_barred 62 = .ok (.invokestatic 57, 3) := by decide +kernel
theorem dX11_barred_65 : decode cX11_barred 65 = .ok (.ifCond .eq 11, 3) := by decide +kernel
theorem dX11_barred_68 : decode cX11_barred 68 = .ok (.aload_n 0, 1) := by decide +kernel
theorem dX11_barred_69 : decode cX11_barred 69 = .ok (.iconst 3, 1) := by decide +kernel
theorem dX11_barred_70 : decode cX11_barred 70 = .ok (.invokevirtual 53, 3) := by decide +kernel
theorem dX11_barred_73 : decode cX11_barred 73 = .ok (.goto 4, 3) := by decide +kernel
theorem dX11_barred_76 : decode cX11_barred 76 = .ok (.iconst 0, 1) := by decide +kernel
theorem dX11_barred_77 : decode cX11_barred 77 = .ok (.ireturn, 1) := by decide +kernel
theorem dX11_leastOf_0 : decode cX11_leastOf 0 = .ok (.iload_n 0, 1) := by decide +kernel
theorem dX11_leastOf_1 : decode cX11_leastOf 1 = .ok (.ifCond .eq 19, 3) := by decide +kernel
theorem dX11_leastOf_4 : decode cX11_leastOf 4 = .ok (.iload_n 0, 1) := by decide +kernel
theorem dX11_leastOf_5 : decode cX11_leastOf 5 = .ok (.iconst 2, 1) := by decide +kernel
theorem dX11_leastOf_6 : decode cX11_leastOf 6 = .ok (.if_icmp .eq 14, 3) := by decide +kernel
theorem dX11_leastOf_9 : decode cX11_leastOf 9 = .ok (.iload_n 0, 1) := by decide +kernel
theorem dX11_leastOf_10 : decode cX11_leastOf 10 = .ok (.iconst 5, 1) := by decide +kernel
theorem dX11_leastOf_11 : decode cX11_leastOf 11 = .ok (.if_icmp .eq 9, 3) := by decide +kernel
theorem dX11_leastOf_14 : decode cX11_leastOf 14 = .ok (.iload_n 0, 1) := by decide +kernel
theorem dX11_leastOf_15 : decode cX11_leastOf 15 = .ok (.bipush 8, 2) := by decide +kernel
theorem dX11_leastOf_17 : decode cX11_leastOf 17 = .ok (.if_icmp .ne 7, 3) := by decide +kernel
theorem dX11_leastOf_20 : decode cX11_leastOf 20 = .ok (.iconst 1, 1) := by decide +kernel
theorem dX11_leastOf_21 : decode cX11_leastOf 21 = .ok (.goto 4, 3) := by decide +kernel
theorem dX11_leastOf_24 : decode cX11_leastOf 24 = .ok (.iconst 0, 1) := by decide +kernel
theorem dX11_leastOf_25 : decode cX11_leastOf 25 = .ok (.ireturn, 1) := by decide +kernel
theorem dX11_greatestOf_0 : decode cX11_greatestOf 0 = .ok (.iload_n 0, 1) := by decide +kernel
theorem dX11_greatestOf_1 : decode cX11_greatestOf 1 = .ok (.iconst 1, 1) := by decide +kernel
theorem dX11_greatestOf_2 : decode cX11_greatestOf 2 = .ok (.if_icmp .eq 9, 3) := by decide +kernel
theorem dX11_greatestOf_5 : decode cX11_greatestOf 5 = .ok (.iload_n 0, 1) := by decide +kernel
theorem dX11_greatestOf_6 : decode cX11_greatestOf 6 = .ok (.bipush 6, 2) := by decide +kernel
theorem dX11_greatestOf_8 : decode cX11_greatestOf 8 = .ok (.if_icmp .ne 8, 3) := by decide +kernel
theorem dX11_greatestOf_11 : decode cX11_greatestOf 11 = .ok (.bipush 20, 2) := by decide +kernel
theorem dX11_greatestOf_13 : decode cX11_greatestOf 13 = .ok (.goto 26, 3) := by decide +kernel
theorem dX11_greatestOf_16 : decode cX11_greatestOf 16 = .ok (.iload_n 0, 1) := by decide +kernel
theorem dX11_greatestOf_17 : decode cX11_greatestOf 17 = .ok (.bipush 7, 2) := by decide +kernel
theorem dX11_greatestOf_19 : decode cX11_greatestOf 19 = .ok (.if_icmp .ne 7, 3) := by decide +kernel
theorem dX11_greatestOf_22 : decode cX11_greatestOf 22 = .ok (.iconst 3, 1) := by decide +kernel
theorem dX11_greatestOf_23 : decode cX11_greatestOf 23 = .ok (.goto 16, 3) := by decide +kernel
theorem dX11_greatestOf_26 : decode cX11_greatestOf 26 = .ok (.iload_n 0, 1) := by decide +kernel
theorem dX11_greatestOf_27 : decode cX11_greatestOf 27 = .ok (.bipush 8, 2) := by decide +kernel
theorem dX11_greatestOf_29 : decode cX11_greatestOf 29 = .ok (.if_icmp .ne 8, 3) := by decide +kernel
theorem dX11_greatestOf_32 : decode cX11_greatestOf 32 = .ok (.bipush 50, 2) := by decide +kernel
theorem dX11_greatestOf_34 : decode cX11_greatestOf 34 = .ok (.goto 5, 3) := by decide +kernel
theorem dX11_greatestOf_37 : decode cX11_greatestOf 37 = .ok (.bipush 99, 2) := by decide +kernel
theorem dX11_greatestOf_39 : decode cX11_greatestOf 39 = .ok (.ireturn, 1) := by decide +kernel
theorem dX11_firstOf_0 : decode cX11_firstOf 0 = .ok (.iload_n 0, 1) := by decide +kernel
theorem dX11_firstOf_1 : decode cX11_firstOf 1 = .ok (.ifCond .eq 8, 3) := by decide +kernel
theorem dX11_firstOf_4 : decode cX11_firstOf 4 = .ok (.iload_n 0, 1) := by decide +kernel
theorem dX11_firstOf_5 : decode cX11_firstOf 5 = .ok (.iconst 5, 1) := by decide +kernel
theorem dX11_firstOf_6 : decode cX11_firstOf 6 = .ok (.if_icmp .ne 8, 3) := by decide +kernel
theorem dX11_firstOf_9 : decode cX11_firstOf 9 = .ok (.bipush 10, 2) := by decide +kernel
theorem dX11_firstOf_11 : decode cX11_firstOf 11 = .ok (.goto 29, 3) := by decide +kernel
theorem dX11_firstOf_14 : decode cX11_firstOf 14 = .ok (.iload_n 0, 1) := by decide +kernel
theorem dX11_firstOf_15 : decode cX11_firstOf 15 = .ok (.iconst 3, 1) := by decide +kernel
theorem dX11_firstOf_16 : decode cX11_firstOf 16 = .ok (.if_icmp .ge 7, 3) := by decide +kernel
theorem dX11_firstOf_19 : decode cX11_firstOf 19 = .ok (.iconst 1, 1) := by decide +kernel
theorem dX11_firstOf_20 : decode cX11_firstOf 20 = .ok (.goto 20, 3) := by decide +kernel
theorem dX11_firstOf_23 : decode cX11_firstOf 23 = .ok (.iload_n 0, 1) := by decide +kernel
theorem dX11_firstOf_24 : decode cX11_firstOf 24 = .ok (.bipush 6, 2) := by decide +kernel
theorem dX11_firstOf_26 : decode cX11_firstOf 26 = .ok (.if_icmp .eq 9, 3) := by decide +kernel
theorem dX11_firstOf_29 : decode cX11_firstOf 29 = .ok (.iload_n 0, 1) := by decide +kernel
theorem dX11_firstOf_30 : decode cX11_firstOf 30 = .ok (.bipush 7, 2) := by decide +kernel
theorem dX11_firstOf_32 : decode cX11_firstOf 32 = .ok (.if_icmp .ne 7, 3) := by decide +kernel
theorem dX11_firstOf_35 : decode cX11_firstOf 35 = .ok (.iconst 0, 1) := by decide +kernel
theorem dX11_firstOf_36 : decode cX11_firstOf 36 = .ok (.goto 4, 3) := by decide +kernel
theorem dX11_firstOf_39 : decode cX11_firstOf 39 = .ok (.iconst 5, 1) := by decide +kernel
theorem dX11_firstOf_40 : decode cX11_firstOf 40 = .ok (.ireturn, 1) := by decide +kernel
set_option maxRecDepth 20000 in
theorem ggX11_isNumber_X11_leastOf : GoodIn wsX11_isNumber wsX11_leastOf := goodIn_r _ [4] (by decide +kernel) (by decide +kernel)
set_option maxRecDepth 20000 in
theorem gX11_isNumber_X11_leastOf : GoodIn wsX11_isNumber (va_wsS RX11 61 yX11_leastOf wsX11_leastOf) := goodIn_app (goodIn_of _ (by decide +kernel)) ggX11_isNumber_X11_leastOf
set_option maxRecDepth 20000 in
theorem ggX11_isNumber_X11_greatestOf : GoodIn wsX11_isNumber wsX11_greatestOf := goodIn_r _ [7] (by decide +kernel) (by decide +kernel)
set_option maxRecDepth 20000 in
theorem gX11_isNumber_X11_greatestOf : GoodIn wsX11_isNumber (va_wsS RX11 64 yX11_greatestOf wsX11_greatestOf) := goodIn_app (goodIn_of _ (by decide +kernel)) ggX11_isNumber_X11_greatestOf
set_option maxRecDepth 20000 in
theorem ggX11_isNumber_X11_in : GoodIn wsX11_isNumber wsX11_in := goodIn_r _ [10] (by decide +kernel) (by decide +kernel)
set_option maxRecDepth 20000 in
theorem gX11_isNumber_X11_in : GoodIn wsX11_isNumber (va_wsS RX11 67 yX11_in wsX11_in) := goodIn_app (goodIn_of _ (by decide +kernel)) ggX11_isNumber_X11_in
theorem dX11_isNumber_0 : decode cX11_isNumber 0 = .ok (.iload_n 1, 1) := by decide +kernel
theorem dX11_isNumber_1 : decode cX11_isNumber 1 = .ok (.i2l, 1) := by decide +kernel
theorem dX11_isNumber_2 : decode cX11_isNumber 2 = .ok (.iload_n 0, 1) := by decide +kernel
theorem dX11_isNumber_3 : decode cX11_isNumber 3 = .ok (.invokestatic 61, 3) := by decide +kernel
theorem dX11_isNumber_6 : decode cX11_isNumber 6 = .ok (.i2l, 1) := by decide +kernel
theorem dX11_isNumber_7 : decode cX11_isNumber 7 = .ok (.iload_n 0, 1) := by decide +kernel
theorem dX11_isNumber_8 : decode cX11_isNumber 8 = .ok (.invokestatic 64, 3) := by decide +kernel
theorem dX11_isNumber_11 : decode cX11_isNumber 11 = .ok (.i2l, 1) := by decide +kernel
theorem dX11_isNumber_12 : decode cX11_isNumber 12 = .ok (.invokestatic 67, 3) := by decide +kernel
theorem dX11_isNumber_15 : decode cX11_isNumber 15 = .ok (.ireturn, 1) := by decide +kernel
theorem dX11_whatBy_0 : decode cX11_whatBy 0 = .ok (.iload_n 0, 1) := by decide +kernel
theorem dX11_whatBy_1 : decode cX11_whatBy 1 = .ok (.tableswitch 124 98 119 #[107, 124, 118, 124, 124, 113, 124, 115, 124, 111, 124, 124, 124, 109, 124, 124, 105, 121, 124, 124, 124, 103], 103) := by decide +kernel
theorem dX11_whatBy_104 : decode cX11_whatBy 104 = .ok (.iconst 0, 1) := by decide +kernel
theorem dX11_whatBy_105 : decode cX11_whatBy 105 = .ok (.ireturn, 1) := by decide +kernel
theorem dX11_whatBy_106 : decode cX11_whatBy 106 = .ok (.iconst 1, 1) := by decide +kernel
theorem dX11_whatBy_107 : decode cX11_whatBy 107 = .ok (.ireturn, 1) := by decide +kernel
theorem dX11_whatBy_108 : decode cX11_whatBy 108 = .ok (.iconst 2, 1) := by decide +kernel
theorem dX11_whatBy_109 : decode cX11_whatBy 109 = .ok (.ireturn, 1) := by decide +kernel
theorem dX11_whatBy_110 : decode cX11_whatBy 110 = .ok (.iconst 3, 1) := by decide +kernel
theorem dX11_whatBy_111 : decode cX11_whatBy 111 = .ok (.ireturn, 1) := by decide +kernel
theorem dX11_whatBy_112 : decode cX11_whatBy 112 = .ok (.iconst 4, 1) := by decide +kernel
theorem dX11_whatBy_113 : decode cX11_whatBy 113 = .ok (.ireturn, 1) := by decide +kernel
theorem dX11_whatBy_114 : decode cX11_whatBy 114 = .ok (.iconst 5, 1) := by decide +kernel
theorem dX11_whatBy_115 : decode cX11_whatBy 115 = .ok (.ireturn, 1) := by decide +kernel
theorem dX11_whatBy_116 : decode cX11_whatBy 116 = .ok (.bipush 6, 2) := by decide +kernel
theorem dX11_whatBy_118 : decode cX11_whatBy 118 = .ok (.ireturn, 1) := by decide +kernel
theorem dX11_whatBy_119 : decode cX11_whatBy 119 = .ok (.bipush 7, 2) := by decide +kernel
theorem dX11_whatBy_121 : decode cX11_whatBy 121 = .ok (.ireturn, 1) := by decide +kernel
theorem dX11_whatBy_122 : decode cX11_whatBy 122 = .ok (.bipush 8, 2) := by decide +kernel
theorem dX11_whatBy_124 : decode cX11_whatBy 124 = .ok (.ireturn, 1) := by decide +kernel
theorem dX11_whatBy_125 : decode cX11_whatBy 125 = .ok (.bipush (-9), 2) := by decide +kernel
theorem dX11_whatBy_127 : decode cX11_whatBy 127 = .ok (.ireturn, 1) := by decide +kernel
set_option maxRecDepth 20000 in
theorem ggX11_noMill_X11_in : GoodIn wsX11_noMill wsX11_in := goodIn_r _ [5] (by decide +kernel) (by decide +kernel)
set_option maxRecDepth 20000 in
theorem gX11_noMill_X11_in : GoodIn wsX11_noMill (va_wsS RX11 67 yX11_in wsX11_in) := goodIn_app (goodIn_of _ (by decide +kernel)) ggX11_noMill_X11_in
theorem dX11_noMill_0 : decode cX11_noMill 0 = .ok (.iload_n 1, 1) := by decide +kernel
theorem dX11_noMill_1 : decode cX11_noMill 1 = .ok (.i2l, 1) := by decide +kernel
theorem dX11_noMill_2 : decode cX11_noMill 2 = .ok (.lconst 0, 1) := by decide +kernel
theorem dX11_noMill_3 : decode cX11_noMill 3 = .ok (.aload_n 0, 1) := by decide +kernel
theorem dX11_noMill_4 : decode cX11_noMill 4 = .ok (.getfield 71, 3) := by decide +kernel
theorem dX11_noMill_7 : decode cX11_noMill 7 = .ok (.i2l, 1) := by decide +kernel
theorem dX11_noMill_8 : decode cX11_noMill 8 = .ok (.lconst 1, 1) := by decide +kernel
theorem dX11_noMill_9 : decode cX11_noMill 9 = .ok (.lsub, 1) := by decide +kernel
theorem dX11_noMill_10 : decode cX11_noMill 10 = .ok (.invokestatic 67, 3) := by decide +kernel
theorem dX11_noMill_13 : decode cX11_noMill 13 = .ok (.ifCond .ne 7, 3) := by decide +kernel
theorem dX11_noMill_16 : decode cX11_noMill 16 = .ok (.iconst 1, 1) := by decide +kernel
theorem dX11_noMill_17 : decode cX11_noMill 17 = .ok (.goto 4, 3) := by decide +kernel
theorem dX11_noMill_20 : decode cX11_noMill 20 = .ok (.iconst 0, 1) := by decide +kernel
theorem dX11_noMill_21 : decode cX11_noMill 21 = .ok (.ireturn, 1) := by decide +kernel
theorem dX11_of_0 : decode cX11_of 0 = .ok (.aload_n 0, 1) := by decide +kernel
theorem dX11_of_1 : decode cX11_of 1 = .ok (.getfield 13, 3) := by decide +kernel
theorem dX11_of_4 : decode cX11_of 4 = .ok (.bipush 9, 2) := by decide +kernel
theorem dX11_of_6 : decode cX11_of 6 = .ok (.iload_n 1, 1) := by decide +kernel
theorem dX11_of_7 : decode cX11_of 7 = .ok (.imul, 1) := by decide +kernel
theorem dX11_of_8 : decode cX11_of 8 = .ok (.iload_n 2, 1) := by decide +kernel
theorem dX11_of_9 : decode cX11_of 9 = .ok (.iadd, 1) := by decide +kernel
theorem dX11_of_10 : decode cX11_of 10 = .ok (.iaload, 1) := by decide +kernel
theorem dX11_of_11 : decode cX11_of 11 = .ok (.ireturn, 1) := by decide +kernel
set_option maxRecDepth 20000 in
theorem ggX11_readDrawing_X11_whatBy : GoodIn wsX11_readDrawing wsX11_whatBy := goodIn_r _ [8] (by decide +kernel) (by decide +kernel)
set_option maxRecDepth 20000 in
theorem gX11_readDrawing_X11_whatBy : GoodIn wsX11_readDrawing (va_wsS RX11 74 yX11_whatBy wsX11_whatBy) := goodIn_app (goodIn_of _ (by decide +kernel)) ggX11_readDrawing_X11_whatBy
set_option maxRecDepth 20000 in
theorem ggX11_readDrawing_X11_in : GoodIn wsX11_readDrawing wsX11_in := goodIn_r _ [11] (by decide +kernel) (by decide +kernel)
set_option maxRecDepth 20000 in
theorem gX11_readDrawing_X11_in : GoodIn wsX11_readDrawing (va_wsS RX11 67 yX11_in wsX11_in) := goodIn_app (goodIn_of _ (by decide +kernel)) ggX11_readDrawing_X11_in
set_option maxRecDepth 20000 in
theorem ggX11_readDrawing_X11_isNumber : GoodIn wsX11_readDrawing wsX11_isNumber := goodIn_r _ [14, 15, 16, 7, 17, 18, 19, 20, 9, 10, 11] (by decide +kernel) (by decide +kernel)
set_option maxRecDepth 20000 in
theorem gX11_readDrawing_X11_isNumber : GoodIn wsX11_readDrawing (va_wsS RX11 81 yX11_isNumber wsX11_isNumber) := goodIn_app (goodIn_of _ (by decide +kernel)) ggX11_readDrawing_X11_isNumber
theorem dX11_readDrawing_0 : decode cX11_readDrawing 0 = .ok (.iconst 0, 1) := by decide +kernel
theorem dX11_readDrawing_1 : decode cX11_readDrawing 1 = .ok (.istore_n 3, 1) := by decide +kernel
theorem dX11_readDrawing_2 : decode cX11_readDrawing 2 = .ok (.iload_n 3, 1) := by decide +kernel
theorem dX11_readDrawing_3 : decode cX11_readDrawing 3 = .ok (.bipush 9, 2) := by decide +kernel
theorem dX11_readDrawing_5 : decode cX11_readDrawing 5 = .ok (.if_icmp .ge 17, 3) := by decide +kernel
theorem dX11_readDrawing_8 : decode cX11_readDrawing 8 = .ok (.aload_n 0, 1) := by decide +kernel
theorem dX11_readDrawing_9 : decode cX11_readDrawing 9 = .ok (.getfield 16, 3) := by decide +kernel
theorem dX11_readDrawing_12 : decode cX11_readDrawing 12 = .ok (.iload_n 3, 1) := by decide +kernel
theorem dX11_readDrawing_13 : decode cX11_readDrawing 13 = .ok (.bipush (-9), 2) := by decide +kernel
theorem dX11_readDrawing_15 : decode cX11_readDrawing 15 = .ok (.iastore, 1) := by decide +kernel
theorem dX11_readDrawing_16 : decode cX11_readDrawing 16 = .ok (.iinc 3 1, 3) := by decide +kernel
theorem dX11_readDrawing_19 : decode cX11_readDrawing 19 = .ok (.goto (-17), 3) := by decide +kernel
theorem dX11_readDrawing_22 : decode cX11_readDrawing 22 = .ok (.iconst 0, 1) := by decide +kernel
theorem dX11_readDrawing_23 : decode cX11_readDrawing 23 = .ok (.istore_n 3, 1) := by decide +kernel
theorem dX11_readDrawing_24 : decode cX11_readDrawing 24 = .ok (.iconst 0, 1) := by decide +kernel
theorem dX11_readDrawing_25 : decode cX11_readDrawing 25 = .ok (.istore 4, 2) := by decide +kernel
theorem dX11_readDrawing_27 : decode cX11_readDrawing 27 = .ok (.iconst 1, 1) := by decide +kernel
theorem dX11_readDrawing_28 : decode cX11_readDrawing 28 = .ok (.istore 5, 2) := by decide +kernel
theorem dX11_readDrawing_30 : decode cX11_readDrawing 30 = .ok (.iload 5, 2) := by decide +kernel
theorem dX11_readDrawing_32 : decode cX11_readDrawing 32 = .ok (.ifCond .eq 197, 3) := by decide +kernel
theorem dX11_readDrawing_35 : decode cX11_readDrawing 35 = .ok (.iload_n 3, 1) := by decide +kernel
theorem dX11_readDrawing_36 : decode cX11_readDrawing 36 = .ok (.iload_n 2, 1) := by decide +kernel
theorem dX11_readDrawing_37 : decode cX11_readDrawing 37 = .ok (.if_icmp .ge 17, 3) := by decide +kernel
theorem dX11_readDrawing_40 : decode cX11_readDrawing 40 = .ok (.aload_n 0, 1) := by decide +kernel
theorem dX11_readDrawing_41 : decode cX11_readDrawing 41 = .ok (.getfield 37, 3) := by decide +kernel
theorem dX11_readDrawing_44 : decode cX11_readDrawing 44 = .ok (.iload_n 1, 1) := by decide +kernel
theorem dX11_readDrawing_45 : decode cX11_readDrawing 45 = .ok (.iload_n 3, 1) := by decide +kernel
theorem dX11_readDrawing_46 : decode cX11_readDrawing 46 = .ok (.iadd, 1) := by decide +kernel
theorem dX11_readDrawing_47 : decode cX11_readDrawing 47 = .ok (.iaload, 1) := by decide +kernel
theorem dX11_readDrawing_48 : decode cX11_readDrawing 48 = .ok (.invokestatic 74, 3) := by decide +kernel
theorem dX11_readDrawing_51 : decode cX11_readDrawing 51 = .ok (.goto 5, 3) := by decide +kernel
theorem dX11_readDrawing_54 : decode cX11_readDrawing 54 = .ok (.bipush (-9), 2) := by decide +kernel
theorem dX11_readDrawing_56 : decode cX11_readDrawing 56 = .ok (.istore 6, 2) := by decide +kernel
theorem dX11_readDrawing_58 : decode cX11_readDrawing 58 = .ok (.iload 6, 2) := by decide +kernel
theorem dX11_readDrawing_60 : decode cX11_readDrawing 60 = .ok (.ifCond .lt 13, 3) := by decide +kernel
theorem dX11_readDrawing_63 : decode cX11_readDrawing 63 = .ok (.aload_n 0, 1) := by decide +kernel
theorem dX11_readDrawing_64 : decode cX11_readDrawing 64 = .ok (.getfield 16, 3) := by decide +kernel
theorem dX11_readDrawing_67 : decode cX11_readDrawing 67 = .ok (.iload 6, 2) := by decide +kernel
theorem dX11_readDrawing_69 : decode cX11_readDrawing 69 = .ok (.iaload, 1) := by decide +kernel
theorem dX11_readDrawing_70 : decode cX11_readDrawing 70 = .ok (.ifCond .lt 5, 3) := by decide +kernel
theorem dX11_readDrawing_73 : decode cX11_readDrawing 73 = .ok (.iload_n 3, 1) := by decide +kernel
theorem dX11_readDrawing_74 : decode cX11_readDrawing 74 = .ok (.ireturn, 1) := by decide +kernel
theorem dX11_readDrawing_75 : decode cX11_readDrawing 75 = .ok (.iinc 3 1, 3) := by decide +kernel
theorem dX11_readDrawing_78 : decode cX11_readDrawing 78 = .ok (.iload_n 3, 1) := by decide +kernel
theorem dX11_readDrawing_79 : decode cX11_readDrawing 79 = .ok (.istore 7, 2) := by decide +kernel
theorem dX11_readDrawing_81 : decode cX11_readDrawing 81 = .ok (.iconst 0, 1) := by decide +kernel
theorem dX11_readDrawing_82 : decode cX11_readDrawing 82 = .ok (.istore 8, 2) := by decide +kernel
theorem dX11_readDrawing_84 : decode cX11_readDrawing 84 = .ok (.iload_n 3, 1) := by decide +kernel
theorem dX11_readDrawing_85 : decode cX11_readDrawing 85 = .ok (.iload_n 2, 1) := by decide +kernel
theorem dX11_readDrawing_86 : decode cX11_readDrawing 86 = .ok (.if_icmp .ge 57, 3) := by decide +kernel
theorem dX11_readDrawing_89 : decode cX11_readDrawing 89 = .ok (.iload_n 3, 1) := by decide +kernel
theorem dX11_readDrawing_90 : decode cX11_readDrawing 90 = .ok (.iload 7, 2) := by decide +kernel
theorem dX11_readDrawing_92 : decode cX11_readDrawing 92 = .ok (.iconst 2, 1) := by decide +kernel
theorem dX11_readDrawing_93 : decode cX11_readDrawing 93 = .ok (.iadd, 1) := by decide +kernel
theorem dX11_readDrawing_94 : decode cX11_readDrawing 94 = .ok (.if_icmp .ge 49, 3) := by decide +kernel
theorem dX11_readDrawing_97 : decode cX11_readDrawing 97 = .ok (.aload_n 0, 1) := by decide +kernel
theorem dX11_readDrawing_98 : decode cX11_readDrawing 98 = .ok (.getfield 37, 3) := by decide +kernel
theorem dX11_readDrawing_101 : decode cX11_readDrawing 101 = .ok (.iload_n 1, 1) := by decide +kernel
theorem dX11_readDrawing_102 : decode cX11_readDrawing 102 = .ok (.iload_n 3, 1) := by decide +kernel
theorem dX11_readDrawing_103 : decode cX11_readDrawing 103 = .ok (.iadd, 1) := by decide +kernel
theorem dX11_readDrawing_104 : decode cX11_readDrawing 104 = .ok (.iaload, 1) := by decide +kernel
theorem dX11_readDrawing_105 : decode cX11_readDrawing 105 = .ok (.i2l, 1) := by decide +kernel
theorem dX11_readDrawing_106 : decode cX11_readDrawing 106 = .ok (.ldc2_w 77, 3) := by decide +kernel
theorem dX11_readDrawing_109 : decode cX11_readDrawing 109 = .ok (.ldc2_w 79, 3) := by decide +kernel
theorem dX11_readDrawing_112 : decode cX11_readDrawing 112 = .ok (.invokestatic 67, 3) := by decide +kernel
theorem dX11_readDrawing_115 : decode cX11_readDrawing 115 = .ok (.ifCond .eq 28, 3) := by decide +kernel
theorem dX11_readDrawing_118 : decode cX11_readDrawing 118 = .ok (.bipush 10, 2) := by decide +kernel
theorem dX11_readDrawing_120 : decode cX11_readDrawing 120 = .ok (.iload 8, 2) := by decide +kernel
theorem dX11_readDrawing_122 : decode cX11_readDrawing 122 = .ok (.imul, 1) := by decide +kernel
theorem dX11_readDrawing_123 : decode cX11_readDrawing 123 = .ok (.aload_n 0, 1) := by decide +kernel
theorem dX11_readDrawing_124 : decode cX11_readDrawing 124 = .ok (.getfield 37, 3) := by decide +kernel
theorem dX11_readDrawing_127 : decode cX11_readDrawing 127 = .ok (.iload_n 1, 1) := by decide +kernel
theorem dX11_readDrawing_128 : decode cX11_readDrawing 128 = .ok (.iload_n 3, 1) := by decide +kernel
theorem dX11_readDrawing_129 : decode cX11_readDrawing 129 = .ok (.iadd, 1) := by decide +kernel
theorem dX11_readDrawing_130 : decode cX11_readDrawing 130 = .ok (.iaload, 1) := by decide +kernel
theorem dX11_readDrawing_131 : decode cX11_readDrawing 131 = .ok (.iadd, 1) := by decide +kernel
theorem dX11_readDrawing_132 : decode cX11_readDrawing 132 = .ok (.bipush 48, 2) := by decide +kernel
theorem dX11_readDrawing_134 : decode cX11_readDrawing 134 = .ok (.isub, 1) := by decide +kernel
theorem dX11_readDrawing_135 : decode cX11_readDrawing 135 = .ok (.istore 8, 2) := by decide +kernel
theorem dX11_readDrawing_137 : decode cX11_readDrawing 137 = .ok (.iinc 3 1, 3) := by decide +kernel
theorem dX11_readDrawing_140 : decode cX11_readDrawing 140 = .ok (.goto (-56), 3) := by decide +kernel
theorem dX11_readDrawing_143 : decode cX11_readDrawing 143 = .ok (.iload_n 3, 1) := by decide +kernel
theorem dX11_readDrawing_144 : decode cX11_readDrawing 144 = .ok (.iload 7, 2) := by decide +kernel
theorem dX11_readDrawing_146 : decode cX11_readDrawing 146 = .ok (.if_icmp .eq 13, 3) := by decide +kernel
theorem dX11_readDrawing_149 : decode cX11_readDrawing 149 = .ok (.iload 6, 2) := by decide +kernel
theorem dX11_readDrawing_151 : decode cX11_readDrawing 151 = .ok (.iload 8, 2) := by decide +kernel
theorem dX11_readDrawing_153 : decode cX11_readDrawing 153 = .ok (.invokestatic 81, 3) := by decide +kernel
theorem dX11_readDrawing_156 : decode cX11_readDrawing 156 = .ok (.ifCond .ne 6, 3) := by decide +kernel
theorem dX11_readDrawing_159 : decode cX11_readDrawing 159 = .ok (.iload 7, 2) := by decide +kernel
theorem dX11_readDrawing_161 : decode cX11_readDrawing 161 = .ok (.ireturn, 1) := by decide +kernel
theorem dX11_readDrawing_162 : decode cX11_readDrawing 162 = .ok (.aload_n 0, 1) := by decide +kernel
theorem dX11_readDrawing_163 : decode cX11_readDrawing 163 = .ok (.getfield 16, 3) := by decide +kernel
theorem dX11_readDrawing_166 : decode cX11_readDrawing 166 = .ok (.iload 6, 2) := by decide +kernel
theorem dX11_readDrawing_168 : decode cX11_readDrawing 168 = .ok (.iload 8, 2) := by decide +kernel
theorem dX11_readDrawing_170 : decode cX11_readDrawing 170 = .ok (.iastore, 1) := by decide +kernel
theorem dX11_readDrawing_171 : decode cX11_readDrawing 171 = .ok (.iinc 4 1, 3) := by decide +kernel
theorem dX11_readDrawing_174 : decode cX11_readDrawing 174 = .ok (.iload_n 3, 1) := by decide +kernel
theorem dX11_readDrawing_175 : decode cX11_readDrawing 175 = .ok (.iload_n 2, 1) := by decide +kernel
theorem dX11_readDrawing_176 : decode cX11_readDrawing 176 = .ok (.if_icmp .ge 7, 3) := by decide +kernel
theorem dX11_readDrawing_179 : decode cX11_readDrawing 179 = .ok (.iconst 1, 1) := by decide +kernel
theorem dX11_readDrawing_180 : decode cX11_readDrawing 180 = .ok (.goto 4, 3) := by decide +kernel
theorem dX11_readDrawing_183 : decode cX11_readDrawing 183 = .ok (.iconst 0, 1) := by decide +kernel
theorem dX11_readDrawing_184 : decode cX11_readDrawing 184 = .ok (.istore 5, 2) := by decide +kernel
theorem dX11_readDrawing_186 : decode cX11_readDrawing 186 = .ok (.iload 5, 2) := by decide +kernel
theorem dX11_readDrawing_188 : decode cX11_readDrawing 188 = .ok (.ifCond .eq 25, 3) := by decide +kernel
theorem dX11_readDrawing_191 : decode cX11_readDrawing 191 = .ok (.aload_n 0, 1) := by decide +kernel
theorem dX11_readDrawing_192 : decode cX11_readDrawing 192 = .ok (.getfield 37, 3) := by decide +kernel
theorem dX11_readDrawing_195 : decode cX11_readDrawing 195 = .ok (.iload_n 1, 1) := by decide +kernel
theorem dX11_readDrawing_196 : decode cX11_readDrawing 196 = .ok (.iload_n 3, 1) := by decide +kernel
theorem dX11_readDrawing_197 : decode cX11_readDrawing 197 = .ok (.iadd, 1) := by decide +kernel
theorem dX11_readDrawing_198 : decode cX11_readDrawing 198 = .ok (.iaload, 1) := by decide +kernel
theorem dX11_readDrawing_199 : decode cX11_readDrawing 199 = .ok (.bipush 59, 2) := by decide +kernel
theorem dX11_readDrawing_201 : decode cX11_readDrawing 201 = .ok (.if_icmp .ne 10, 3) := by decide +kernel
theorem dX11_readDrawing_204 : decode cX11_readDrawing 204 = .ok (.iload 4, 2) := by decide +kernel
theorem dX11_readDrawing_206 : decode cX11_readDrawing 206 = .ok (.bipush 9, 2) := by decide +kernel
theorem dX11_readDrawing_208 : decode cX11_readDrawing 208 = .ok (.if_icmp .ne 5, 3) := by decide +kernel
theorem dX11_readDrawing_211 : decode cX11_readDrawing 211 = .ok (.iload_n 3, 1) := by decide +kernel
theorem dX11_readDrawing_212 : decode cX11_readDrawing 212 = .ok (.ireturn, 1) := by decide +kernel
theorem dX11_readDrawing_213 : decode cX11_readDrawing 213 = .ok (.iload_n 3, 1) := by decide +kernel
theorem dX11_readDrawing_214 : decode cX11_readDrawing 214 = .ok (.iload 5, 2) := by decide +kernel
theorem dX11_readDrawing_216 : decode cX11_readDrawing 216 = .ok (.ifCond .eq 7, 3) := by decide +kernel
theorem dX11_readDrawing_219 : decode cX11_readDrawing 219 = .ok (.iconst 1, 1) := by decide +kernel
theorem dX11_readDrawing_220 : decode cX11_readDrawing 220 = .ok (.goto 4, 3) := by decide +kernel
theorem dX11_readDrawing_223 : decode cX11_readDrawing 223 = .ok (.iconst 0, 1) := by decide +kernel
theorem dX11_readDrawing_224 : decode cX11_readDrawing 224 = .ok (.iadd, 1) := by decide +kernel
theorem dX11_readDrawing_225 : decode cX11_readDrawing 225 = .ok (.istore_n 3, 1) := by decide +kernel
theorem dX11_readDrawing_226 : decode cX11_readDrawing 226 = .ok (.goto (-196), 3) := by decide +kernel
theorem dX11_readDrawing_229 : decode cX11_readDrawing 229 = .ok (.bipush (-9), 2) := by decide +kernel
theorem dX11_readDrawing_231 : decode cX11_readDrawing 231 = .ok (.ireturn, 1) := by decide +kernel
set_option maxRecDepth 20000 in
theorem ggX11_mill_X11_noSheet : GoodIn wsX11_mill wsX11_noSheet := goodIn_r _ [9, 10, 11, 12, 8, 13] (by decide +kernel) (by decide +kernel)
set_option maxRecDepth 20000 in
theorem gX11_mill_X11_noSheet : GoodIn wsX11_mill (va_wsS RX11 85 yX11_noSheet wsX11_noSheet) := goodIn_app (goodIn_of _ (by decide +kernel)) ggX11_mill_X11_noSheet
set_option maxRecDepth 20000 in
theorem ggX11_mill_X11_refused : GoodIn wsX11_mill wsX11_refused := goodIn_r _ [17, 18, 54, 55, 56, 57, 58, 59, 60, 61, 62, 63, 64, 65, 66, 67, 68, 69, 70, 71, 72, 73, 74] (by decide +kernel) (by decide +kernel)
set_option maxRecDepth 20000 in
theorem gX11_mill_X11_refused : GoodIn wsX11_mill (wsV RX11 89 RX11 yX11_refused wsX11_refused) := goodIn_app (goodIn_of _ (by decide +kernel)) ggX11_mill_X11_refused
set_option maxRecDepth 20000 in
theorem ggX11_mill_X11_in : GoodIn wsX11_mill wsX11_in := goodIn_r _ [13] (by decide +kernel) (by decide +kernel)
set_option maxRecDepth 20000 in
theorem gX11_mill_X11_in : GoodIn wsX11_mill (va_wsS RX11 67 yX11_in wsX11_in) := goodIn_app (goodIn_of _ (by decide +kernel)) ggX11_mill_X11_in
set_option maxRecDepth 20000 in
theorem ggX11_mill_X11_barred : GoodIn wsX11_mill wsX11_barred := goodIn_r _ [22, 23, 24, 25, 26, 27, 8, 28, 18, 29, 30, 31, 54, 55, 56, 57, 58, 59, 60, 61, 62, 63, 64, 65, 66, 67, 68, 69, 70, 71, 72, 73, 74] (by decide +kernel) (by decide +kernel)
set_option maxRecDepth 20000 in
theorem gX11_mill_X11_barred : GoodIn wsX11_mill (wsV RX11 94 RX11 yX11_barred wsX11_barred) := goodIn_app (goodIn_of _ (by decide +kernel)) ggX11_mill_X11_barred
set_option maxRecDepth 20000 in
theorem ggX11_mill_X11_readDrawing : GoodIn wsX11_mill wsX11_readDrawing := goodIn_r _ [35, 5, 36, 37, 38, 39, 40, 8, 41, 11, 12, 13, 42, 43, 44, 45, 46, 47, 48, 49, 50, 54, 55, 56, 57, 58, 59, 60, 61, 62, 63, 64, 65, 66, 67, 68, 69, 70, 71, 72, 73, 74] (by decide +kernel) (by decide +kernel)
set_option maxRecDepth 20000 in
theorem gX11_mill_X11_readDrawing : GoodIn wsX11_mill (wsV RX11 98 RX11 yX11_readDrawing wsX11_readDrawing) := goodIn_app (goodIn_of _ (by decide +kernel)) ggX11_mill_X11_readDrawing
set_option maxRecDepth 20000 in
theorem ggX11_mill_X11_firstOf : GoodIn wsX11_mill wsX11_firstOf := goodIn_r _ [53] (by decide +kernel) (by decide +kernel)
set_option maxRecDepth 20000 in
theorem gX11_mill_X11_firstOf : GoodIn wsX11_mill (va_wsS RX11 102 yX11_firstOf wsX11_firstOf) := goodIn_app (goodIn_of _ (by decide +kernel)) ggX11_mill_X11_firstOf
theorem dX11_mill_0 : decode cX11_mill 0 = .ok (.iload_n 2, 1) := by decide +kernel
theorem dX11_mill_1 : decode cX11_mill 1 = .ok (.invokestatic 85, 3) := by decide +kernel
theorem dX11_mill_4 : decode cX11_mill 4 = .ok (.ifCond .eq 9, 3) := by decide +kernel
theorem dX11_mill_7 : decode cX11_mill 7 = .ok (.aload_n 0, 1) := by decide +kernel
theorem dX11_mill_8 : decode cX11_mill 8 = .ok (.iconst (-1), 1) := by decide +kernel
theorem dX11_mill_9 : decode cX11_mill 9 = .ok (.invokevirtual 89, 3) := by decide +kernel
theorem dX11_mill_12 : decode cX11_mill 12 = .ok (.ireturn, 1) := by decide +kernel
theorem dX11_mill_13 : decode cX11_mill 13 = .ok (.iload_n 1, 1) := by decide +kernel
theorem dX11_mill_14 : decode cX11_mill 14 = .ok (.i2l, 1) := by decide +kernel
theorem dX11_mill_15 : decode cX11_mill 15 = .ok (.lconst 0, 1) := by decide +kernel
theorem dX11_mill_16 : decode cX11_mill 16 = .ok (.ldc2_w 92, 3) := by decide +kernel
theorem dX11_mill_19 : decode cX11_mill 19 = .ok (.invokestatic 67, 3) := by decide +kernel
theorem dX11_mill_22 : decode cX11_mill 22 = .ok (.ifCond .eq 15, 3) := by decide +kernel
theorem dX11_mill_25 : decode cX11_mill 25 = .ok (.iload_n 3, 1) := by decide +kernel
theorem dX11_mill_26 : decode cX11_mill 26 = .ok (.i2l, 1) := by decide +kernel
theorem dX11_mill_27 : decode cX11_mill 27 = .ok (.lconst 0, 1) := by decide +kernel
theorem dX11_mill_28 : decode cX11_mill 28 = .ok (.ldc2_w 92, 3) := by decide +kernel
theorem dX11_mill_31 : decode cX11_mill 31 = .ok (.invokestatic 67, 3) := by decide +kernel
theorem dX11_mill_34 : decode cX11_mill 34 = .ok (.ifCond .ne 10, 3) := by decide +kernel
theorem dX11_mill_37 : decode cX11_mill 37 = .ok (.aload_n 0, 1) := by decide +kernel
theorem dX11_mill_38 : decode cX11_mill 38 = .ok (.bipush (-2), 2) := by decide +kernel
theorem dX11_mill_40 : decode cX11_mill 40 = .ok (.invokevirtual 89, 3) := by decide +kernel
theorem dX11_mill_43 : decode cX11_mill 43 = .ok (.ireturn, 1) := by decide +kernel
theorem dX11_mill_44 : decode cX11_mill 44 = .ok (.aload_n 0, 1) := by decide +kernel
theorem dX11_mill_45 : decode cX11_mill 45 = .ok (.iload_n 2, 1) := by decide +kernel
theorem dX11_mill_46 : decode cX11_mill 46 = .ok (.iload_n 3, 1) := by decide +kernel
theorem dX11_mill_47 : decode cX11_mill 47 = .ok (.iload 4, 2) := by decide +kernel
theorem dX11_mill_49 : decode cX11_mill 49 = .ok (.iload 5, 2) := by decide +kernel
theorem dX11_mill_51 : decode cX11_mill 51 = .ok (.i2l, 1) := by decide +kernel
theorem dX11_mill_52 : decode cX11_mill 52 = .ok (.invokevirtual 94, 3) := by decide +kernel
theorem dX11_mill_55 : decode cX11_mill 55 = .ok (.istore 6, 2) := by decide +kernel
theorem dX11_mill_57 : decode cX11_mill 57 = .ok (.iload 6, 2) := by decide +kernel
theorem dX11_mill_59 : decode cX11_mill 59 = .ok (.ifCond .ge 6, 3) := by decide +kernel
theorem dX11_mill_62 : decode cX11_mill 62 = .ok (.iload 6, 2) := by decide +kernel
theorem dX11_mill_64 : decode cX11_mill 64 = .ok (.ireturn, 1) := by decide +kernel
theorem dX11_mill_65 : decode cX11_mill 65 = .ok (.aload_n 0, 1) := by decide +kernel
theorem dX11_mill_66 : decode cX11_mill 66 = .ok (.bipush 60, 2) := by decide +kernel
theorem dX11_mill_68 : decode cX11_mill 68 = .ok (.iload_n 2, 1) := by decide +kernel
theorem dX11_mill_69 : decode cX11_mill 69 = .ok (.imul, 1) := by decide +kernel
theorem dX11_mill_70 : decode cX11_mill 70 = .ok (.iload 4, 2) := by decide +kernel
theorem dX11_mill_72 : decode cX11_mill 72 = .ok (.iadd, 1) := by decide +kernel
theorem dX11_mill_73 : decode cX11_mill 73 = .ok (.iload 5, 2) := by decide +kernel
theorem dX11_mill_75 : decode cX11_mill 75 = .ok (.invokevirtual 98, 3) := by decide +kernel
theorem dX11_mill_78 : decode cX11_mill 78 = .ok (.istore 7, 2) := by decide +kernel
theorem dX11_mill_80 : decode cX11_mill 80 = .ok (.iload 7, 2) := by decide +kernel
theorem dX11_mill_82 : decode cX11_mill 82 = .ok (.ifCond .lt 13, 3) := by decide +kernel
theorem dX11_mill_85 : decode cX11_mill 85 = .ok (.aload_n 0, 1) := by decide +kernel
theorem dX11_mill_86 : decode cX11_mill 86 = .ok (.bipush (-100), 2) := by decide +kernel
theorem dX11_mill_88 : decode cX11_mill 88 = .ok (.iload 7, 2) := by decide +kernel
theorem dX11_mill_90 : decode cX11_mill 90 = .ok (.isub, 1) := by decide +kernel
theorem dX11_mill_91 : decode cX11_mill 91 = .ok (.invokevirtual 89, 3) := by decide +kernel
theorem dX11_mill_94 : decode cX11_mill 94 = .ok (.ireturn, 1) := by decide +kernel
theorem dX11_mill_95 : decode cX11_mill 95 = .ok (.aload_n 0, 1) := by decide +kernel
theorem dX11_mill_96 : decode cX11_mill 96 = .ok (.getfield 71, 3) := by decide +kernel
theorem dX11_mill_99 : decode cX11_mill 99 = .ok (.bipush 8, 2) := by decide +kernel
theorem dX11_mill_101 : decode cX11_mill 101 = .ok (.if_icmp .ne 10, 3) := by decide +kernel
theorem dX11_mill_104 : decode cX11_mill 104 = .ok (.aload_n 0, 1) := by decide +kernel
theorem dX11_mill_105 : decode cX11_mill 105 = .ok (.bipush (-4), 2) := by decide +kernel
theorem dX11_mill_107 : decode cX11_mill 107 = .ok (.invokevirtual 89, 3) := by decide +kernel
theorem dX11_mill_110 : decode cX11_mill 110 = .ok (.ireturn, 1) := by decide +kernel
theorem dX11_mill_111 : decode cX11_mill 111 = .ok (.aload_n 0, 1) := by decide +kernel
theorem dX11_mill_112 : decode cX11_mill 112 = .ok (.getfield 7, 3) := by decide +kernel
theorem dX11_mill_115 : decode cX11_mill 115 = .ok (.aload_n 0, 1) := by decide +kernel
theorem dX11_mill_116 : decode cX11_mill 116 = .ok (.getfield 71, 3) := by decide +kernel
theorem dX11_mill_119 : decode cX11_mill 119 = .ok (.iload_n 1, 1) := by decide +kernel
theorem dX11_mill_120 : decode cX11_mill 120 = .ok (.iastore, 1) := by decide +kernel
theorem dX11_mill_121 : decode cX11_mill 121 = .ok (.iconst 0, 1) := by decide +kernel
theorem dX11_mill_122 : decode cX11_mill 122 = .ok (.istore 8, 2) := by decide +kernel
theorem dX11_mill_124 : decode cX11_mill 124 = .ok (.iload 8, 2) := by decide +kernel
theorem dX11_mill_126 : decode cX11_mill 126 = .ok (.bipush 9, 2) := by decide +kernel
theorem dX11_mill_128 : decode cX11_mill 128 = .ok (.if_icmp .ge 49, 3) := by decide +kernel
theorem dX11_mill_131 : decode cX11_mill 131 = .ok (.aload_n 0, 1) := by decide +kernel
theorem dX11_mill_132 : decode cX11_mill 132 = .ok (.getfield 13, 3) := by decide +kernel
theorem dX11_mill_135 : decode cX11_mill 135 = .ok (.bipush 9, 2) := by decide +kernel
theorem dX11_mill_137 : decode cX11_mill 137 = .ok (.aload_n 0, 1) := by decide +kernel
theorem dX11_mill_138 : decode cX11_mill 138 = .ok (.getfield 71, 3) := by decide +kernel
theorem dX11_mill_141 : decode cX11_mill 141 = .ok (.imul, 1) := by decide +kernel
theorem dX11_mill_142 : decode cX11_mill 142 = .ok (.iload 8, 2) := by decide +kernel
theorem dX11_mill_144 : decode cX11_mill 144 = .ok (.iadd, 1) := by decide +kernel
theorem dX11_mill_145 : decode cX11_mill 145 = .ok (.aload_n 0, 1) := by decide +kernel
theorem dX11_mill_146 : decode cX11_mill 146 = .ok (.getfield 16, 3) := by decide +kernel
theorem dX11_mill_149 : decode cX11_mill 149 = .ok (.iload 8, 2) := by decide +kernel
theorem dX11_mill_151 : decode cX11_mill 151 = .ok (.iaload, 1) := by decide +kernel
theorem dX11_mill_152 : decode cX11_mill 152 = .ok (.ifCond .ge 11, 3) := by decide +kernel
theorem dX11_mill_155 : decode cX11_mill 155 = .ok (.iload 8, 2) := by decide +kernel
theorem dX11_mill_157 : decode cX11_mill 157 = .ok (.invokestatic 102, 3) := by decide +kernel
theorem dX11_mill_160 : decode cX11_mill 160 = .ok (.goto 10, 3) := by decide +kernel
theorem dX11_mill_163 : decode cX11_mill 163 = .ok (.aload_n 0, 1) := by decide +kernel
theorem dX11_mill_164 : decode cX11_mill 164 = .ok (.getfield 16, 3) := by decide +kernel
theorem dX11_mill_167 : decode cX11_mill 167 = .ok (.iload 8, 2) := by decide +kernel
theorem dX11_mill_169 : decode cX11_mill 169 = .ok (.iaload, 1) := by decide +kernel
theorem dX11_mill_170 : decode cX11_mill 170 = .ok (.iastore, 1) := by decide +kernel
theorem dX11_mill_171 : decode cX11_mill 171 = .ok (.iinc 8 1, 3) := by decide +kernel
theorem dX11_mill_174 : decode cX11_mill 174 = .ok (.goto (-50), 3) := by decide +kernel
theorem dX11_mill_177 : decode cX11_mill 177 = .ok (.aload_n 0, 1) := by decide +kernel
theorem dX11_mill_178 : decode cX11_mill 178 = .ok (.dup, 1) := by decide +kernel
theorem dX11_mill_179 : decode cX11_mill 179 = .ok (.getfield 71, 3) := by decide +kernel
theorem dX11_mill_182 : decode cX11_mill 182 = .ok (.iconst 1, 1) := by decide +kernel
theorem dX11_mill_183 : decode cX11_mill 183 = .ok (.iadd, 1) := by decide +kernel
theorem dX11_mill_184 : decode cX11_mill 184 = .ok (.putfield 71, 3) := by decide +kernel
theorem dX11_mill_187 : decode cX11_mill 187 = .ok (.aload_n 0, 1) := by decide +kernel
theorem dX11_mill_188 : decode cX11_mill 188 = .ok (.aload_n 0, 1) := by decide +kernel
theorem dX11_mill_189 : decode cX11_mill 189 = .ok (.getfield 71, 3) := by decide +kernel
theorem dX11_mill_192 : decode cX11_mill 192 = .ok (.iconst 1, 1) := by decide +kernel
theorem dX11_mill_193 : decode cX11_mill 193 = .ok (.isub, 1) := by decide +kernel
theorem dX11_mill_194 : decode cX11_mill 194 = .ok (.invokevirtual 89, 3) := by decide +kernel
theorem dX11_mill_197 : decode cX11_mill 197 = .ok (.ireturn, 1) := by decide +kernel
set_option maxRecDepth 20000 in
theorem ggX11_ofMill_X11_noMill : GoodIn wsX11_ofMill wsX11_noMill := goodIn_r _ [7, 8, 9, 10, 6, 11, 17, 18, 19, 20, 21, 22, 23, 24, 25, 26, 27, 28, 29, 30, 31, 32, 33, 34, 35, 36, 37] (by decide +kernel) (by decide +kernel)
set_option maxRecDepth 20000 in
theorem gX11_ofMill_X11_noMill : GoodIn wsX11_ofMill (wsV RX11 105 RX11 yX11_noMill wsX11_noMill) := goodIn_app (goodIn_of _ (by decide +kernel)) ggX11_ofMill_X11_noMill
set_option maxRecDepth 20000 in
theorem ggX11_ofMill_X11_in : GoodIn wsX11_ofMill wsX11_in := goodIn_r _ [11] (by decide +kernel) (by decide +kernel)
set_option maxRecDepth 20000 in
theorem gX11_ofMill_X11_in : GoodIn wsX11_ofMill (va_wsS RX11 67 yX11_in wsX11_in) := goodIn_app (goodIn_of _ (by decide +kernel)) ggX11_ofMill_X11_in
set_option maxRecDepth 20000 in
theorem ggX11_ofMill_X11_of : GoodIn wsX11_ofMill wsX11_of := goodIn_r _ [15, 16, 17, 18, 19, 20, 21, 22, 23, 24, 25, 26, 27, 28, 29, 30, 31, 32, 33, 34, 35, 36, 37] (by decide +kernel) (by decide +kernel)
set_option maxRecDepth 20000 in
theorem gX11_ofMill_X11_of : GoodIn wsX11_ofMill (wsV RX11 110 RX11 yX11_of wsX11_of) := goodIn_app (goodIn_of _ (by decide +kernel)) ggX11_ofMill_X11_of
theorem dX11_ofMill_0 : decode cX11_ofMill 0 = .ok (.aload_n 0, 1) := by decide +kernel
theorem dX11_ofMill_1 : decode cX11_ofMill 1 = .ok (.iload_n 1, 1) := by decide +kernel
theorem dX11_ofMill_2 : decode cX11_ofMill 2 = .ok (.invokevirtual 105, 3) := by decide +kernel
theorem dX11_ofMill_5 : decode cX11_ofMill 5 = .ok (.ifCond .ne 15, 3) := by decide +kernel
theorem dX11_ofMill_8 : decode cX11_ofMill 8 = .ok (.iload_n 2, 1) := by decide +kernel
theorem dX11_ofMill_9 : decode cX11_ofMill 9 = .ok (.i2l, 1) := by decide +kernel
theorem dX11_ofMill_10 : decode cX11_ofMill 10 = .ok (.lconst 0, 1) := by decide +kernel
theorem dX11_ofMill_11 : decode cX11_ofMill 11 = .ok (.ldc2_w 108, 3) := by decide +kernel
theorem dX11_ofMill_14 : decode cX11_ofMill 14 = .ok (.invokestatic 67, 3) := by decide +kernel
theorem dX11_ofMill_17 : decode cX11_ofMill 17 = .ok (.ifCond .ne 5, 3) := by decide +kernel
theorem dX11_ofMill_20 : decode cX11_ofMill 20 = .ok (.iconst (-1), 1) := by decide +kernel
theorem dX11_ofMill_21 : decode cX11_ofMill 21 = .ok (.ireturn, 1) := by decide +kernel
theorem dX11_ofMill_22 : decode cX11_ofMill 22 = .ok (.iload_n 2, 1) := by decide +kernel
theorem dX11_ofMill_23 : decode cX11_ofMill 23 = .ok (.bipush 9, 2) := by decide +kernel
theorem dX11_ofMill_25 : decode cX11_ofMill 25 = .ok (.if_icmp .ne 12, 3) := by decide +kernel
theorem dX11_ofMill_28 : decode cX11_ofMill 28 = .ok (.aload_n 0, 1) := by decide +kernel
theorem dX11_ofMill_29 : decode cX11_ofMill 29 = .ok (.getfield 7, 3) := by decide +kernel
theorem dX11_ofMill_32 : decode cX11_ofMill 32 = .ok (.iload_n 1, 1) := by decide +kernel
theorem dX11_ofMill_33 : decode cX11_ofMill 33 = .ok (.iaload, 1) := by decide +kernel
theorem dX11_ofMill_34 : decode cX11_ofMill 34 = .ok (.goto 9, 3) := by decide +kernel
theorem dX11_ofMill_37 : decode cX11_ofMill 37 = .ok (.aload_n 0, 1) := by decide +kernel
theorem dX11_ofMill_38 : decode cX11_ofMill 38 = .ok (.iload_n 1, 1) := by decide +kernel
theorem dX11_ofMill_39 : decode cX11_ofMill 39 = .ok (.iload_n 2, 1) := by decide +kernel
theorem dX11_ofMill_40 : decode cX11_ofMill 40 = .ok (.invokevirtual 110, 3) := by decide +kernel
theorem dX11_ofMill_43 : decode cX11_ofMill 43 = .ok (.ireturn, 1) := by decide +kernel
set_option maxRecDepth 20000 in
theorem ggX11_turn_X11_noMill : GoodIn wsX11_turn wsX11_noMill := goodIn_r _ [7, 8, 9, 10, 6, 11, 25, 26, 27, 28, 29, 30, 31, 32, 33, 34, 35, 36, 37, 38, 39, 40, 41, 42, 43, 44, 45] (by decide +kernel) (by decide +kernel)
set_option maxRecDepth 20000 in
theorem gX11_turn_X11_noMill : GoodIn wsX11_turn (wsV RX11 105 RX11 yX11_noMill wsX11_noMill) := goodIn_app (goodIn_of _ (by decide +kernel)) ggX11_turn_X11_noMill
set_option maxRecDepth 20000 in
theorem ggX11_turn_X11_in : GoodIn wsX11_turn wsX11_in := goodIn_r _ [11] (by decide +kernel) (by decide +kernel)
set_option maxRecDepth 20000 in
theorem gX11_turn_X11_in : GoodIn wsX11_turn (va_wsS RX11 67 yX11_in wsX11_in) := goodIn_app (goodIn_of _ (by decide +kernel)) ggX11_turn_X11_in
set_option maxRecDepth 20000 in
theorem ggX11_turn_X11_isNumber : GoodIn wsX11_turn wsX11_isNumber := goodIn_r _ [14, 15, 16, 6, 17, 18, 19, 20, 9, 10, 11] (by decide +kernel) (by decide +kernel)
set_option maxRecDepth 20000 in
theorem gX11_turn_X11_isNumber : GoodIn wsX11_turn (va_wsS RX11 81 yX11_isNumber wsX11_isNumber) := goodIn_app (goodIn_of _ (by decide +kernel)) ggX11_turn_X11_isNumber
set_option maxRecDepth 20000 in
theorem ggX11_turn_X11_of : GoodIn wsX11_turn wsX11_of := goodIn_r _ [24, 2, 25, 26, 27, 28, 29, 30, 31, 32, 33, 34, 35, 36, 37, 38, 39, 40, 41, 42, 43, 44, 45] (by decide +kernel) (by decide +kernel)
set_option maxRecDepth 20000 in
theorem gX11_turn_X11_of : GoodIn wsX11_turn (wsV RX11 110 RX11 yX11_of wsX11_of) := goodIn_app (goodIn_of _ (by decide +kernel)) ggX11_turn_X11_of
theorem dX11_turn_0 : decode cX11_turn 0 = .ok (.aload_n 0, 1) := by decide +kernel
theorem dX11_turn_1 : decode cX11_turn 1 = .ok (.iload_n 1, 1) := by decide +kernel
theorem dX11_turn_2 : decode cX11_turn 2 = .ok (.invokevirtual 105, 3) := by decide +kernel
theorem dX11_turn_5 : decode cX11_turn 5 = .ok (.ifCond .ne 15, 3) := by decide +kernel
theorem dX11_turn_8 : decode cX11_turn 8 = .ok (.iload_n 2, 1) := by decide +kernel
theorem dX11_turn_9 : decode cX11_turn 9 = .ok (.i2l, 1) := by decide +kernel
theorem dX11_turn_10 : decode cX11_turn 10 = .ok (.lconst 0, 1) := by decide +kernel
theorem dX11_turn_11 : decode cX11_turn 11 = .ok (.ldc2_w 113, 3) := by decide +kernel
theorem dX11_turn_14 : decode cX11_turn 14 = .ok (.invokestatic 67, 3) := by decide +kernel
theorem dX11_turn_17 : decode cX11_turn 17 = .ok (.ifCond .ne 5, 3) := by decide +kernel
theorem dX11_turn_20 : decode cX11_turn 20 = .ok (.iconst (-1), 1) := by decide +kernel
theorem dX11_turn_21 : decode cX11_turn 21 = .ok (.ireturn, 1) := by decide +kernel
theorem dX11_turn_22 : decode cX11_turn 22 = .ok (.iload_n 2, 1) := by decide +kernel
theorem dX11_turn_23 : decode cX11_turn 23 = .ok (.iload_n 3, 1) := by decide +kernel
theorem dX11_turn_24 : decode cX11_turn 24 = .ok (.invokestatic 81, 3) := by decide +kernel
theorem dX11_turn_27 : decode cX11_turn 27 = .ok (.ifCond .ne 6, 3) := by decide +kernel
theorem dX11_turn_30 : decode cX11_turn 30 = .ok (.bipush (-2), 2) := by decide +kernel
theorem dX11_turn_32 : decode cX11_turn 32 = .ok (.ireturn, 1) := by decide +kernel
theorem dX11_turn_33 : decode cX11_turn 33 = .ok (.aload_n 0, 1) := by decide +kernel
theorem dX11_turn_34 : decode cX11_turn 34 = .ok (.iload_n 1, 1) := by decide +kernel
theorem dX11_turn_35 : decode cX11_turn 35 = .ok (.iload_n 2, 1) := by decide +kernel
theorem dX11_turn_36 : decode cX11_turn 36 = .ok (.invokevirtual 110, 3) := by decide +kernel
theorem dX11_turn_39 : decode cX11_turn 39 = .ok (.istore 4, 2) := by decide +kernel
theorem dX11_turn_41 : decode cX11_turn 41 = .ok (.aload_n 0, 1) := by decide +kernel
theorem dX11_turn_42 : decode cX11_turn 42 = .ok (.getfield 13, 3) := by decide +kernel
theorem dX11_turn_45 : decode cX11_turn 45 = .ok (.bipush 9, 2) := by decide +kernel
theorem dX11_turn_47 : decode cX11_turn 47 = .ok (.iload_n 1, 1) := by decide +kernel
theorem dX11_turn_48 : decode cX11_turn 48 = .ok (.imul, 1) := by decide +kernel
theorem dX11_turn_49 : decode cX11_turn 49 = .ok (.iload_n 2, 1) := by decide +kernel
theorem dX11_turn_50 : decode cX11_turn 50 = .ok (.iadd, 1) := by decide +kernel
theorem dX11_turn_51 : decode cX11_turn 51 = .ok (.iload_n 3, 1) := by decide +kernel
theorem dX11_turn_52 : decode cX11_turn 52 = .ok (.iastore, 1) := by decide +kernel
theorem dX11_turn_53 : decode cX11_turn 53 = .ok (.iload 4, 2) := by decide +kernel
theorem dX11_turn_55 : decode cX11_turn 55 = .ok (.ireturn, 1) := by decide +kernel
set_option maxRecDepth 20000 in
theorem ggX11_sumOf_X11_of : GoodIn wsX11_sumOf wsX11_of := goodIn_r _ [5, 6, 7, 8, 9, 10, 11, 12, 13, 14, 15, 16, 17, 18, 19, 20, 21, 22, 23, 24, 25, 26, 27] (by decide +kernel) (by decide +kernel)
set_option maxRecDepth 20000 in
theorem gX11_sumOf_X11_of : GoodIn wsX11_sumOf (wsV RX11 110 RX11 yX11_of wsX11_of) := goodIn_app (goodIn_of _ (by decide +kernel)) ggX11_sumOf_X11_of
theorem dX11_sumOf_0 : decode cX11_sumOf 0 = .ok (.aload_n 0, 1) := by decide +kernel
theorem dX11_sumOf_1 : decode cX11_sumOf 1 = .ok (.iload_n 1, 1) := by decide +kernel
theorem dX11_sumOf_2 : decode cX11_sumOf 2 = .ok (.iconst 0, 1) := by decide +kernel
theorem dX11_sumOf_3 : decode cX11_sumOf 3 = .ok (.invokevirtual 110, 3) := by decide +kernel
theorem dX11_sumOf_6 : decode cX11_sumOf 6 = .ok (.i2l, 1) := by decide +kernel
theorem dX11_sumOf_7 : decode cX11_sumOf 7 = .ok (.lstore_n 3, 1) := by decide +kernel
theorem dX11_sumOf_8 : decode cX11_sumOf 8 = .ok (.aload_n 0, 1) := by decide +kernel
theorem dX11_sumOf_9 : decode cX11_sumOf 9 = .ok (.iload_n 1, 1) := by decide +kernel
theorem dX11_sumOf_10 : decode cX11_sumOf 10 = .ok (.iconst 1, 1) := by decide +kernel
theorem dX11_sumOf_11 : decode cX11_sumOf 11 = .ok (.invokevirtual 110, 3) := by decide +kernel
theorem dX11_sumOf_14 : decode cX11_sumOf 14 = .ok (.i2l, 1) := by decide +kernel
theorem dX11_sumOf_15 : decode cX11_sumOf 15 = .ok (.lstore 5, 2) := by decide +kernel
theorem dX11_sumOf_17 : decode cX11_sumOf 17 = .ok (.aload_n 0, 1) := by decide +kernel
theorem dX11_sumOf_18 : decode cX11_sumOf 18 = .ok (.iload_n 1, 1) := by decide +kernel
theorem dX11_sumOf_19 : decode cX11_sumOf 19 = .ok (.iconst 2, 1) := by decide +kernel
theorem dX11_sumOf_20 : decode cX11_sumOf 20 = .ok (.invokevirtual 110, 3) := by decide +kernel
theorem dX11_sumOf_23 : decode cX11_sumOf 23 = .ok (.i2l, 1) := by decide +kernel
theorem dX11_sumOf_24 : decode cX11_sumOf 24 = .ok (.lstore 7, 2) := by decide +kernel
theorem dX11_sumOf_26 : decode cX11_sumOf 26 = .ok (.aload_n 0, 1) := by decide +kernel
theorem dX11_sumOf_27 : decode cX11_sumOf 27 = .ok (.iload_n 1, 1) := by decide +kernel
theorem dX11_sumOf_28 : decode cX11_sumOf 28 = .ok (.iconst 3, 1) := by decide +kernel
theorem dX11_sumOf_29 : decode cX11_sumOf 29 = .ok (.invokevirtual 110, 3) := by decide +kernel
theorem dX11_sumOf_32 : decode cX11_sumOf 32 = .ok (.i2l, 1) := by decide +kernel
theorem dX11_sumOf_33 : decode cX11_sumOf 33 = .ok (.lstore 9, 2) := by decide +kernel
theorem dX11_sumOf_35 : decode cX11_sumOf 35 = .ok (.aload_n 0, 1) := by decide +kernel
theorem dX11_sumOf_36 : decode cX11_sumOf 36 = .ok (.iload_n 1, 1) := by decide +kernel
theorem dX11_sumOf_37 : decode cX11_sumOf 37 = .ok (.iconst 4, 1) := by decide +kernel
theorem dX11_sumOf_38 : decode cX11_sumOf 38 = .ok (.invokevirtual 110, 3) := by decide +kernel
theorem dX11_sumOf_41 : decode cX11_sumOf 41 = .ok (.i2l, 1) := by decide +kernel
theorem dX11_sumOf_42 : decode cX11_sumOf 42 = .ok (.lstore 11, 2) := by decide +kernel
theorem dX11_sumOf_44 : decode cX11_sumOf 44 = .ok (.aload_n 0, 1) := by decide +kernel
theorem dX11_sumOf_45 : decode cX11_sumOf 45 = .ok (.iload_n 1, 1) := by decide +kernel
theorem dX11_sumOf_46 : decode cX11_sumOf 46 = .ok (.bipush 6, 2) := by decide +kernel
theorem dX11_sumOf_48 : decode cX11_sumOf 48 = .ok (.invokevirtual 110, 3) := by decide +kernel
theorem dX11_sumOf_51 : decode cX11_sumOf 51 = .ok (.ifCond .le 7, 3) := by decide +kernel
theorem dX11_sumOf_54 : decode cX11_sumOf 54 = .ok (.iload_n 2, 1) := by decide +kernel
theorem dX11_sumOf_55 : decode cX11_sumOf 55 = .ok (.goto 6, 3) := by decide +kernel
theorem dX11_sumOf_58 : decode cX11_sumOf 58 = .ok (.iload_n 2, 1) := by decide +kernel
theorem dX11_sumOf_59 : decode cX11_sumOf 59 = .ok (.iconst 1, 1) := by decide +kernel
theorem dX11_sumOf_60 : decode cX11_sumOf 60 = .ok (.iadd, 1) := by decide +kernel
theorem dX11_sumOf_61 : decode cX11_sumOf 61 = .ok (.istore 13, 2) := by decide +kernel
theorem dX11_sumOf_63 : decode cX11_sumOf 63 = .ok (.iload 13, 2) := by decide +kernel
theorem dX11_sumOf_65 : decode cX11_sumOf 65 = .ok (.iconst 4, 1) := by decide +kernel
theorem dX11_sumOf_66 : decode cX11_sumOf 66 = .ok (.if_icmp .ne 10, 3) := by decide +kernel
theorem dX11_sumOf_69 : decode cX11_sumOf 69 = .ok (.lload_n 3, 1) := by decide +kernel
theorem dX11_sumOf_70 : decode cX11_sumOf 70 = .ok (.lload 7, 2) := by decide +kernel
theorem dX11_sumOf_72 : decode cX11_sumOf 72 = .ok (.lmul, 1) := by decide +kernel
theorem dX11_sumOf_73 : decode cX11_sumOf 73 = .ok (.goto 80, 3) := by decide +kernel
theorem dX11_sumOf_76 : decode cX11_sumOf 76 = .ok (.iload 13, 2) := by decide +kernel
theorem dX11_sumOf_78 : decode cX11_sumOf 78 = .ok (.iconst 3, 1) := by decide +kernel
theorem dX11_sumOf_79 : decode cX11_sumOf 79 = .ok (.if_icmp .ne 16, 3) := by decide +kernel
theorem dX11_sumOf_82 : decode cX11_sumOf 82 = .ok (.lload_n 3, 1) := by decide +kernel
theorem dX11_sumOf_83 : decode cX11_sumOf 83 = .ok (.lload 9, 2) := by decide +kernel
theorem dX11_sumOf_85 : decode cX11_sumOf 85 = .ok (.lmul, 1) := by decide +kernel
theorem dX11_sumOf_86 : decode cX11_sumOf 86 = .ok (.lload 5, 2) := by decide +kernel
theorem dX11_sumOf_88 : decode cX11_sumOf 88 = .ok (.lload 7, 2) := by decide +kernel
theorem dX11_sumOf_90 : decode cX11_sumOf 90 = .ok (.lmul, 1) := by decide +kernel
theorem dX11_sumOf_91 : decode cX11_sumOf 91 = .ok (.ladd, 1) := by decide +kernel
theorem dX11_sumOf_92 : decode cX11_sumOf 92 = .ok (.goto 61, 3) := by decide +kernel
theorem dX11_sumOf_95 : decode cX11_sumOf 95 = .ok (.iload 13, 2) := by decide +kernel
theorem dX11_sumOf_97 : decode cX11_sumOf 97 = .ok (.iconst 2, 1) := by decide +kernel
theorem dX11_sumOf_98 : decode cX11_sumOf 98 = .ok (.if_icmp .ne 16, 3) := by decide +kernel
theorem dX11_sumOf_101 : decode cX11_sumOf 101 = .ok (.lload_n 3, 1) := by decide +kernel
theorem dX11_sumOf_102 : decode cX11_sumOf 102 = .ok (.lload 11, 2) := by decide +kernel
theorem dX11_sumOf_104 : decode cX11_sumOf 104 = .ok (.lmul, 1) := by decide +kernel
theorem dX11_sumOf_105 : decode cX11_sumOf 105 = .ok (.lload 5, 2) := by decide +kernel
theorem dX11_sumOf_107 : decode cX11_sumOf 107 = .ok (.lload 9, 2) := by decide +kernel
theorem dX11_sumOf_109 : decode cX11_sumOf 109 = .ok (.lmul, 1) := by decide +kernel
theorem dX11_sumOf_110 : decode cX11_sumOf 110 = .ok (.ladd, 1) := by decide +kernel
theorem dX11_sumOf_111 : decode cX11_sumOf 111 = .ok (.goto 42, 3) := by decide +kernel
theorem dX11_sumOf_114 : decode cX11_sumOf 114 = .ok (.iload 13, 2) := by decide +kernel
theorem dX11_sumOf_116 : decode cX11_sumOf 116 = .ok (.iconst 1, 1) := by decide +kernel
theorem dX11_sumOf_117 : decode cX11_sumOf 117 = .ok (.if_icmp .ne 19, 3) := by decide +kernel
theorem dX11_sumOf_120 : decode cX11_sumOf 120 = .ok (.lload 5, 2) := by decide +kernel
theorem dX11_sumOf_122 : decode cX11_sumOf 122 = .ok (.lload 11, 2) := by decide +kernel
theorem dX11_sumOf_124 : decode cX11_sumOf 124 = .ok (.lmul, 1) := by decide +kernel
theorem dX11_sumOf_125 : decode cX11_sumOf 125 = .ok (.aload_n 0, 1) := by decide +kernel
theorem dX11_sumOf_126 : decode cX11_sumOf 126 = .ok (.iload_n 1, 1) := by decide +kernel
theorem dX11_sumOf_127 : decode cX11_sumOf 127 = .ok (.iconst 5, 1) := by decide +kernel
theorem dX11_sumOf_128 : decode cX11_sumOf 128 = .ok (.invokevirtual 110, 3) := by decide +kernel
theorem dX11_sumOf_131 : decode cX11_sumOf 131 = .ok (.i2l, 1) := by decide +kernel
theorem dX11_sumOf_132 : decode cX11_sumOf 132 = .ok (.ladd, 1) := by decide +kernel
theorem dX11_sumOf_133 : decode cX11_sumOf 133 = .ok (.goto 20, 3) := by decide +kernel
theorem dX11_sumOf_136 : decode cX11_sumOf 136 = .ok (.iload 13, 2) := by decide +kernel
theorem dX11_sumOf_138 : decode cX11_sumOf 138 = .ok (.ifCond .ne 14, 3) := by decide +kernel
theorem dX11_sumOf_141 : decode cX11_sumOf 141 = .ok (.aload_n 0, 1) := by decide +kernel
theorem dX11_sumOf_142 : decode cX11_sumOf 142 = .ok (.iload_n 1, 1) := by decide +kernel
theorem dX11_sumOf_143 : decode cX11_sumOf 143 = .ok (.bipush 6, 2) := by decide +kernel
theorem dX11_sumOf_145 : decode cX11_sumOf 145 = .ok (.invokevirtual 110, 3) := by decide +kernel
theorem dX11_sumOf_148 : decode cX11_sumOf 148 = .ok (.i2l, 1) := by decide +kernel
theorem dX11_sumOf_149 : decode cX11_sumOf 149 = .ok (.goto 4, 3) := by decide +kernel
theorem dX11_sumOf_152 : decode cX11_sumOf 152 = .ok (.lconst 0, 1) := by decide +kernel
theorem dX11_sumOf_153 : decode cX11_sumOf 153 = .ok (.lreturn, 1) := by decide +kernel
set_option maxRecDepth 20000 in
theorem ggX11_marginOf_X11_sumOf : GoodIn wsX11_marginOf wsX11_sumOf := goodIn_r _ [5, 6, 7, 8, 4, 9, 10, 11, 12, 13, 14, 15, 16, 17, 18, 19, 20, 21, 22, 23, 24, 25, 26, 27, 28, 29, 30, 31] (by decide +kernel) (by decide +kernel)
set_option maxRecDepth 20000 in
theorem gX11_marginOf_X11_sumOf : GoodIn wsX11_marginOf (wsV RX11 115 RX11 yX11_sumOf wsX11_sumOf) := goodIn_app (goodIn_of _ (by decide +kernel)) ggX11_marginOf_X11_sumOf
set_option maxRecDepth 20000 in
theorem ggX11_marginOf_X11_of : GoodIn wsX11_marginOf wsX11_of := goodIn_r _ [9, 10, 11, 12, 13, 14, 15, 16, 17, 18, 19, 20, 21, 22, 23, 24, 25, 26, 27, 28, 29, 30, 31] (by decide +kernel) (by decide +kernel)
set_option maxRecDepth 20000 in
theorem gX11_marginOf_X11_of : GoodIn wsX11_marginOf (wsV RX11 110 RX11 yX11_of wsX11_of) := goodIn_app (goodIn_of _ (by decide +kernel)) ggX11_marginOf_X11_of
theorem dX11_marginOf_0 : decode cX11_marginOf 0 = .ok (.aload_n 0, 1) := by decide +kernel
theorem dX11_marginOf_1 : decode cX11_marginOf 1 = .ok (.iload_n 1, 1) := by decide +kernel
theorem dX11_marginOf_2 : decode cX11_marginOf 2 = .ok (.iconst 0, 1) := by decide +kernel
theorem dX11_marginOf_3 : decode cX11_marginOf 3 = .ok (.invokevirtual 115, 3) := by decide +kernel
theorem dX11_marginOf_6 : decode cX11_marginOf 6 = .ok (.lstore_n 2, 1) := by decide +kernel
theorem dX11_marginOf_7 : decode cX11_marginOf 7 = .ok (.aload_n 0, 1) := by decide +kernel
theorem dX11_marginOf_8 : decode cX11_marginOf 8 = .ok (.iload_n 1, 1) := by decide +kernel
theorem dX11_marginOf_9 : decode cX11_marginOf 9 = .ok (.iconst 1, 1) := by decide +kernel
theorem dX11_marginOf_10 : decode cX11_marginOf 10 = .ok (.invokevirtual 115, 3) := by decide +kernel
theorem dX11_marginOf_13 : decode cX11_marginOf 13 = .ok (.lstore 4, 2) := by decide +kernel
theorem dX11_marginOf_15 : decode cX11_marginOf 15 = .ok (.aload_n 0, 1) := by decide +kernel
theorem dX11_marginOf_16 : decode cX11_marginOf 16 = .ok (.iload_n 1, 1) := by decide +kernel
theorem dX11_marginOf_17 : decode cX11_marginOf 17 = .ok (.iconst 2, 1) := by decide +kernel
theorem dX11_marginOf_18 : decode cX11_marginOf 18 = .ok (.invokevirtual 115, 3) := by decide +kernel
theorem dX11_marginOf_21 : decode cX11_marginOf 21 = .ok (.lstore 6, 2) := by decide +kernel
theorem dX11_marginOf_23 : decode cX11_marginOf 23 = .ok (.aload_n 0, 1) := by decide +kernel
theorem dX11_marginOf_24 : decode cX11_marginOf 24 = .ok (.iload_n 1, 1) := by decide +kernel
theorem dX11_marginOf_25 : decode cX11_marginOf 25 = .ok (.iconst 3, 1) := by decide +kernel
theorem dX11_marginOf_26 : decode cX11_marginOf 26 = .ok (.invokevirtual 115, 3) := by decide +kernel
theorem dX11_marginOf_29 : decode cX11_marginOf 29 = .ok (.lstore 8, 2) := by decide +kernel
theorem dX11_marginOf_31 : decode cX11_marginOf 31 = .ok (.aload_n 0, 1) := by decide +kernel
theorem dX11_marginOf_32 : decode cX11_marginOf 32 = .ok (.iload_n 1, 1) := by decide +kernel
theorem dX11_marginOf_33 : decode cX11_marginOf 33 = .ok (.bipush 6, 2) := by decide +kernel
theorem dX11_marginOf_35 : decode cX11_marginOf 35 = .ok (.invokevirtual 110, 3) := by decide +kernel
theorem dX11_marginOf_38 : decode cX11_marginOf 38 = .ok (.ifCond .le 35, 3) := by decide +kernel
theorem dX11_marginOf_41 : decode cX11_marginOf 41 = .ok (.lload 8, 2) := by decide +kernel
theorem dX11_marginOf_43 : decode cX11_marginOf 43 = .ok (.lload 6, 2) := by decide +kernel
theorem dX11_marginOf_45 : decode cX11_marginOf 45 = .ok (.lmul, 1) := by decide +kernel
theorem dX11_marginOf_46 : decode cX11_marginOf 46 = .ok (.lload 4, 2) := by decide +kernel
theorem dX11_marginOf_48 : decode cX11_marginOf 48 = .ok (.lmul, 1) := by decide +kernel
theorem dX11_marginOf_49 : decode cX11_marginOf 49 = .ok (.aload_n 0, 1) := by decide +kernel
theorem dX11_marginOf_50 : decode cX11_marginOf 50 = .ok (.iload_n 1, 1) := by decide +kernel
theorem dX11_marginOf_51 : decode cX11_marginOf 51 = .ok (.iconst 4, 1) := by decide +kernel
theorem dX11_marginOf_52 : decode cX11_marginOf 52 = .ok (.invokevirtual 115, 3) := by decide +kernel
theorem dX11_marginOf_55 : decode cX11_marginOf 55 = .ok (.lload 4, 2) := by decide +kernel
theorem dX11_marginOf_57 : decode cX11_marginOf 57 = .ok (.lmul, 1) := by decide +kernel
theorem dX11_marginOf_58 : decode cX11_marginOf 58 = .ok (.lload 4, 2) := by decide +kernel
theorem dX11_marginOf_60 : decode cX11_marginOf 60 = .ok (.lmul, 1) := by decide +kernel
theorem dX11_marginOf_61 : decode cX11_marginOf 61 = .ok (.lsub, 1) := by decide +kernel
theorem dX11_marginOf_62 : decode cX11_marginOf 62 = .ok (.lload 8, 2) := by decide +kernel
theorem dX11_marginOf_64 : decode cX11_marginOf 64 = .ok (.lload 8, 2) := by decide +kernel
theorem dX11_marginOf_66 : decode cX11_marginOf 66 = .ok (.lmul, 1) := by decide +kernel
theorem dX11_marginOf_67 : decode cX11_marginOf 67 = .ok (.lload_n 2, 1) := by decide +kernel
theorem dX11_marginOf_68 : decode cX11_marginOf 68 = .ok (.lmul, 1) := by decide +kernel
theorem dX11_marginOf_69 : decode cX11_marginOf 69 = .ok (.lsub, 1) := by decide +kernel
theorem dX11_marginOf_70 : decode cX11_marginOf 70 = .ok (.goto 13, 3) := by decide +kernel
theorem dX11_marginOf_73 : decode cX11_marginOf 73 = .ok (.lload 6, 2) := by decide +kernel
theorem dX11_marginOf_75 : decode cX11_marginOf 75 = .ok (.lload 4, 2) := by decide +kernel
theorem dX11_marginOf_77 : decode cX11_marginOf 77 = .ok (.lmul, 1) := by decide +kernel
theorem dX11_marginOf_78 : decode cX11_marginOf 78 = .ok (.lload 8, 2) := by decide +kernel
theorem dX11_marginOf_80 : decode cX11_marginOf 80 = .ok (.lload_n 2, 1) := by decide +kernel
theorem dX11_marginOf_81 : decode cX11_marginOf 81 = .ok (.lmul, 1) := by decide +kernel
theorem dX11_marginOf_82 : decode cX11_marginOf 82 = .ok (.lsub, 1) := by decide +kernel
theorem dX11_marginOf_83 : decode cX11_marginOf 83 = .ok (.lreturn, 1) := by decide +kernel
set_option maxRecDepth 20000 in
theorem ggX11_nearOf_X11_of : GoodIn wsX11_nearOf wsX11_of := goodIn_r _ [5, 6, 15, 16, 17, 18, 19, 20, 21, 22, 23, 24, 25, 26, 27, 28, 29, 30, 31, 32, 33, 34, 35] (by decide +kernel) (by decide +kernel)
set_option maxRecDepth 20000 in
theorem gX11_nearOf_X11_of : GoodIn wsX11_nearOf (wsV RX11 110 RX11 yX11_of wsX11_of) := goodIn_app (goodIn_of _ (by decide +kernel)) ggX11_nearOf_X11_of
set_option maxRecDepth 20000 in
theorem ggX11_nearOf_X11_sumOf : GoodIn wsX11_nearOf wsX11_sumOf := goodIn_r _ [10, 1, 2, 3, 4, 5, 6, 15, 16, 17, 18, 19, 20, 21, 22, 23, 24, 25, 26, 27, 28, 29, 30, 31, 32, 33, 34, 35] (by decide +kernel) (by decide +kernel)
set_option maxRecDepth 20000 in
theorem gX11_nearOf_X11_sumOf : GoodIn wsX11_nearOf (wsV RX11 115 RX11 yX11_sumOf wsX11_sumOf) := goodIn_app (goodIn_of _ (by decide +kernel)) ggX11_nearOf_X11_sumOf
set_option maxRecDepth 20000 in
theorem ggX11_nearOf_X11_marginOf : GoodIn wsX11_nearOf wsX11_marginOf := goodIn_r _ [14, 7, 8, 9, 4, 10, 1, 2, 3, 5, 6, 15, 16, 17, 18, 19, 20, 21, 22, 23, 24, 25, 26, 27, 28, 29, 30, 31, 32, 33, 34, 35] (by decide +kernel) (by decide +kernel)
set_option maxRecDepth 20000 in
theorem gX11_nearOf_X11_marginOf : GoodIn wsX11_nearOf (wsV RX11 119 RX11 yX11_marginOf wsX11_marginOf) := goodIn_app (goodIn_of _ (by decide +kernel)) ggX11_nearOf_X11_marginOf
theorem dX11_nearOf_0 : decode cX11_nearOf 0 = .ok (.iconst 1, 1) := by decide +kernel
theorem dX11_nearOf_1 : decode cX11_nearOf 1 = .ok (.istore_n 2, 1) := by decide +kernel
theorem dX11_nearOf_2 : decode cX11_nearOf 2 = .ok (.iconst 0, 1) := by decide +kernel
theorem dX11_nearOf_3 : decode cX11_nearOf 3 = .ok (.istore_n 3, 1) := by decide +kernel
theorem dX11_nearOf_4 : decode cX11_nearOf 4 = .ok (.iload_n 3, 1) := by decide +kernel
theorem dX11_nearOf_5 : decode cX11_nearOf 5 = .ok (.aload_n 0, 1) := by decide +kernel
theorem dX11_nearOf_6 : decode cX11_nearOf 6 = .ok (.iload_n 1, 1) := by decide +kernel
theorem dX11_nearOf_7 : decode cX11_nearOf 7 = .ok (.bipush 6, 2) := by decide +kernel
theorem dX11_nearOf_9 : decode cX11_nearOf 9 = .ok (.invokevirtual 110, 3) := by decide +kernel
theorem dX11_nearOf_12 : decode cX11_nearOf 12 = .ok (.ifCond .le 7, 3) := by decide +kernel
theorem dX11_nearOf_15 : decode cX11_nearOf 15 = .ok (.iconst 5, 1) := by decide +kernel
theorem dX11_nearOf_16 : decode cX11_nearOf 16 = .ok (.goto 4, 3) := by decide +kernel
theorem dX11_nearOf_19 : decode cX11_nearOf 19 = .ok (.iconst 4, 1) := by decide +kernel
theorem dX11_nearOf_20 : decode cX11_nearOf 20 = .ok (.if_icmp .ge 30, 3) := by decide +kernel
theorem dX11_nearOf_23 : decode cX11_nearOf 23 = .ok (.iload_n 2, 1) := by decide +kernel
theorem dX11_nearOf_24 : decode cX11_nearOf 24 = .ok (.ifCond .eq 18, 3) := by decide +kernel
theorem dX11_nearOf_27 : decode cX11_nearOf 27 = .ok (.aload_n 0, 1) := by decide +kernel
theorem dX11_nearOf_28 : decode cX11_nearOf 28 = .ok (.iload_n 1, 1) := by decide +kernel
theorem dX11_nearOf_29 : decode cX11_nearOf 29 = .ok (.iload_n 3, 1) := by decide +kernel
theorem dX11_nearOf_30 : decode cX11_nearOf 30 = .ok (.invokevirtual 115, 3) := by decide +kernel
theorem dX11_nearOf_33 : decode cX11_nearOf 33 = .ok (.lconst 0, 1) := by decide +kernel
theorem dX11_nearOf_34 : decode cX11_nearOf 34 = .ok (.lcmp, 1) := by decide +kernel
theorem dX11_nearOf_35 : decode cX11_nearOf 35 = .ok (.ifCond .le 7, 3) := by decide +kernel
theorem dX11_nearOf_38 : decode cX11_nearOf 38 = .ok (.iconst 1, 1) := by decide +kernel
theorem dX11_nearOf_39 : decode cX11_nearOf 39 = .ok (.goto 4, 3) := by decide +kernel
theorem dX11_nearOf_42 : decode cX11_nearOf 42 = .ok (.iconst 0, 1) := by decide +kernel
theorem dX11_nearOf_43 : decode cX11_nearOf 43 = .ok (.istore_n 2, 1) := by decide +kernel
theorem dX11_nearOf_44 : decode cX11_nearOf 44 = .ok (.iinc 3 1, 3) := by decide +kernel
theorem dX11_nearOf_47 : decode cX11_nearOf 47 = .ok (.goto (-43), 3) := by decide +kernel
theorem dX11_nearOf_50 : decode cX11_nearOf 50 = .ok (.aload_n 0, 1) := by decide +kernel
theorem dX11_nearOf_51 : decode cX11_nearOf 51 = .ok (.iload_n 1, 1) := by decide +kernel
theorem dX11_nearOf_52 : decode cX11_nearOf 52 = .ok (.invokevirtual 119, 3) := by decide +kernel
theorem dX11_nearOf_55 : decode cX11_nearOf 55 = .ok (.lstore_n 3, 1) := by decide +kernel
theorem dX11_nearOf_56 : decode cX11_nearOf 56 = .ok (.iload_n 2, 1) := by decide +kernel
theorem dX11_nearOf_57 : decode cX11_nearOf 57 = .ok (.ifCond .eq 9, 3) := by decide +kernel
theorem dX11_nearOf_60 : decode cX11_nearOf 60 = .ok (.lload_n 3, 1) := by decide +kernel
theorem dX11_nearOf_61 : decode cX11_nearOf 61 = .ok (.lconst 0, 1) := by decide +kernel
theorem dX11_nearOf_62 : decode cX11_nearOf 62 = .ok (.lcmp, 1) := by decide +kernel
theorem dX11_nearOf_63 : decode cX11_nearOf 63 = .ok (.ifCond .ge 7, 3) := by decide +kernel
theorem dX11_nearOf_66 : decode cX11_nearOf 66 = .ok (.iconst 0, 1) := by decide +kernel
theorem dX11_nearOf_67 : decode cX11_nearOf 67 = .ok (.goto 14, 3) := by decide +kernel
theorem dX11_nearOf_70 : decode cX11_nearOf 70 = .ok (.lload_n 3, 1) := by decide +kernel
theorem dX11_nearOf_71 : decode cX11_nearOf 71 = .ok (.lconst 0, 1) := by decide +kernel
theorem dX11_nearOf_72 : decode cX11_nearOf 72 = .ok (.lcmp, 1) := by decide +kernel
theorem dX11_nearOf_73 : decode cX11_nearOf 73 = .ok (.ifCond .le 7, 3) := by decide +kernel
theorem dX11_nearOf_76 : decode cX11_nearOf 76 = .ok (.iconst 2, 1) := by decide +kernel
theorem dX11_nearOf_77 : decode cX11_nearOf 77 = .ok (.goto 4, 3) := by decide +kernel
theorem dX11_nearOf_80 : decode cX11_nearOf 80 = .ok (.iconst 1, 1) := by decide +kernel
theorem dX11_nearOf_81 : decode cX11_nearOf 81 = .ok (.ireturn, 1) := by decide +kernel
set_option maxRecDepth 20000 in
theorem ggX11_row_X11_noMill : GoodIn wsX11_row wsX11_noMill := goodIn_r _ [6, 7, 8, 9, 5, 10, 24, 25, 26, 27, 28, 29, 30, 31, 32, 33, 34, 35, 36, 37, 38, 39, 40, 41, 42, 43, 44] (by decide +kernel) (by decide +kernel)
set_option maxRecDepth 20000 in
theorem gX11_row_X11_noMill : GoodIn wsX11_row (wsV RX11 105 RX11 yX11_noMill wsX11_noMill) := goodIn_app (goodIn_of _ (by decide +kernel)) ggX11_row_X11_noMill
set_option maxRecDepth 20000 in
theorem ggX11_row_X11_in : GoodIn wsX11_row wsX11_in := goodIn_r _ [10] (by decide +kernel) (by decide +kernel)
set_option maxRecDepth 20000 in
theorem gX11_row_X11_in : GoodIn wsX11_row (va_wsS RX11 67 yX11_in wsX11_in) := goodIn_app (goodIn_of _ (by decide +kernel)) ggX11_row_X11_in
set_option maxRecDepth 20000 in
theorem ggX11_row_X11_lost : GoodIn wsX11_row wsX11_lost := goodIn_r _ [13, 14] (by decide +kernel) (by decide +kernel)
set_option maxRecDepth 20000 in
theorem gX11_row_X11_lost : GoodIn wsX11_row (va_wsS RX11 49 yX11_lost wsX11_lost) := goodIn_app (goodIn_of _ (by decide +kernel)) ggX11_row_X11_lost
set_option maxRecDepth 20000 in
theorem ggX11_row_X11_sumOf : GoodIn wsX11_row wsX11_sumOf := goodIn_r _ [18, 19, 20, 21, 5, 22, 23, 24, 25, 26, 27, 28, 29, 30, 31, 32, 33, 34, 35, 36, 37, 38, 39, 40, 41, 42, 43, 44] (by decide +kernel) (by decide +kernel)
set_option maxRecDepth 20000 in
theorem gX11_row_X11_sumOf : GoodIn wsX11_row (wsV RX11 115 RX11 yX11_sumOf wsX11_sumOf) := goodIn_app (goodIn_of _ (by decide +kernel)) ggX11_row_X11_sumOf
theorem dX11_row_0 : decode cX11_row 0 = .ok (.aload_n 0, 1) := by decide +kernel
theorem dX11_row_1 : decode cX11_row 1 = .ok (.iload_n 1, 1) := by decide +kernel
theorem dX11_row_2 : decode cX11_row 2 = .ok (.invokevirtual 105, 3) := by decide +kernel
theorem dX11_row_5 : decode cX11_row 5 = .ok (.ifCond .ne 15, 3) := by decide +kernel
theorem dX11_row_8 : decode cX11_row 8 = .ok (.iload_n 2, 1) := by decide +kernel
theorem dX11_row_9 : decode cX11_row 9 = .ok (.i2l, 1) := by decide +kernel
theorem dX11_row_10 : decode cX11_row 10 = .ok (.lconst 0, 1) := by decide +kernel
theorem dX11_row_11 : decode cX11_row 11 = .ok (.ldc2_w 123, 3) := by decide +kernel
theorem dX11_row_14 : decode cX11_row 14 = .ok (.invokestatic 67, 3) := by decide +kernel
theorem dX11_row_17 : decode cX11_row 17 = .ok (.ifCond .ne 9, 3) := by decide +kernel
theorem dX11_row_20 : decode cX11_row 20 = .ok (.invokestatic 49, 3) := by decide +kernel
theorem dX11_row_23 : decode cX11_row 23 = .ok (.goto 9, 3) := by decide +kernel
theorem dX11_row_26 : decode cX11_row 26 = .ok (.aload_n 0, 1) := by decide +kernel
theorem dX11_row_27 : decode cX11_row 27 = .ok (.iload_n 1, 1) := by decide +kernel
theorem dX11_row_28 : decode cX11_row 28 = .ok (.iload_n 2, 1) := by decide +kernel
theorem dX11_row_29 : decode cX11_row 29 = .ok (.invokevirtual 115, 3) := by decide +kernel
theorem dX11_row_32 : decode cX11_row 32 = .ok (.lreturn, 1) := by decide +kernel
set_option maxRecDepth 20000 in
theorem ggX11_margin_X11_noMill : GoodIn wsX11_margin wsX11_noMill := goodIn_r _ [5, 6, 7, 8, 4, 9, 27, 28, 29, 30, 31, 32, 33, 34, 35, 36, 37, 38, 39, 40, 41, 42, 43, 44, 45, 46, 47] (by decide +kernel) (by decide +kernel)
set_option maxRecDepth 20000 in
theorem gX11_margin_X11_noMill : GoodIn wsX11_margin (wsV RX11 105 RX11 yX11_noMill wsX11_noMill) := goodIn_app (goodIn_of _ (by decide +kernel)) ggX11_margin_X11_noMill
set_option maxRecDepth 20000 in
theorem ggX11_margin_X11_lost : GoodIn wsX11_margin wsX11_lost := goodIn_r _ [12, 13] (by decide +kernel) (by decide +kernel)
set_option maxRecDepth 20000 in
theorem gX11_margin_X11_lost : GoodIn wsX11_margin (va_wsS RX11 49 yX11_lost wsX11_lost) := goodIn_app (goodIn_of _ (by decide +kernel)) ggX11_margin_X11_lost
set_option maxRecDepth 20000 in
theorem ggX11_margin_X11_marginOf : GoodIn wsX11_margin wsX11_marginOf := goodIn_r _ [17, 18, 19, 20, 4, 21, 22, 23, 24, 25, 26, 27, 28, 29, 30, 31, 32, 33, 34, 35, 36, 37, 38, 39, 40, 41, 42, 43, 44, 45, 46, 47] (by decide +kernel) (by decide +kernel)
set_option maxRecDepth 20000 in
theorem gX11_margin_X11_marginOf : GoodIn wsX11_margin (wsV RX11 119 RX11 yX11_marginOf wsX11_marginOf) := goodIn_app (goodIn_of _ (by decide +kernel)) ggX11_margin_X11_marginOf
theorem dX11_margin_0 : decode cX11_margin 0 = .ok (.aload_n 0, 1) := by decide +kernel
theorem dX11_margin_1 : decode cX11_margin 1 = .ok (.iload_n 1, 1) := by decide +kernel
theorem dX11_margin_2 : decode cX11_margin 2 = .ok (.invokevirtual 105, 3) := by decide +kernel
theorem dX11_margin_5 : decode cX11_margin 5 = .ok (.ifCond .eq 9, 3) := by decide +kernel
theorem dX11_margin_8 : decode cX11_margin 8 = .ok (.invokestatic 49, 3) := by decide +kernel
theorem dX11_margin_11 : decode cX11_margin 11 = .ok (.goto 8, 3) := by decide +kernel
theorem dX11_margin_14 : decode cX11_margin 14 = .ok (.aload_n 0, 1) := by decide +kernel
theorem dX11_margin_15 : decode cX11_margin 15 = .ok (.iload_n 1, 1) := by decide +kernel
theorem dX11_margin_16 : decode cX11_margin 16 = .ok (.invokevirtual 119, 3) := by decide +kernel
theorem dX11_margin_19 : decode cX11_margin 19 = .ok (.lreturn, 1) := by decide +kernel
set_option maxRecDepth 20000 in
theorem ggX11_near_X11_noMill : GoodIn wsX11_near wsX11_noMill := goodIn_r _ [5, 6, 7, 8, 4, 9, 27, 28, 29, 30, 31, 32, 33, 34, 35, 36, 37, 38, 39, 40, 41, 42, 43, 44, 45, 46, 47] (by decide +kernel) (by decide +kernel)
set_option maxRecDepth 20000 in
theorem gX11_near_X11_noMill : GoodIn wsX11_near (wsV RX11 105 RX11 yX11_noMill wsX11_noMill) := goodIn_app (goodIn_of _ (by decide +kernel)) ggX11_near_X11_noMill
set_option maxRecDepth 20000 in
theorem ggX11_near_X11_nearOf : GoodIn wsX11_near wsX11_nearOf := goodIn_r _ [13, 14, 15, 16, 4, 17, 18, 19, 20, 21, 22, 23, 24, 25, 26, 27, 28, 29, 30, 31, 32, 33, 34, 35, 36, 37, 38, 39, 40, 41, 42, 43, 44, 45, 46, 47] (by decide +kernel) (by decide +kernel)
set_option maxRecDepth 20000 in
theorem gX11_near_X11_nearOf : GoodIn wsX11_near (wsV RX11 125 RX11 yX11_nearOf wsX11_nearOf) := goodIn_app (goodIn_of _ (by decide +kernel)) ggX11_near_X11_nearOf
theorem dX11_near_0 : decode cX11_near 0 = .ok (.aload_n 0, 1) := by decide +kernel
theorem dX11_near_1 : decode cX11_near 1 = .ok (.iload_n 1, 1) := by decide +kernel
theorem dX11_near_2 : decode cX11_near 2 = .ok (.invokevirtual 105, 3) := by decide +kernel
theorem dX11_near_5 : decode cX11_near 5 = .ok (.ifCond .eq 7, 3) := by decide +kernel
theorem dX11_near_8 : decode cX11_near 8 = .ok (.iconst (-1), 1) := by decide +kernel
theorem dX11_near_9 : decode cX11_near 9 = .ok (.goto 8, 3) := by decide +kernel
theorem dX11_near_12 : decode cX11_near 12 = .ok (.aload_n 0, 1) := by decide +kernel
theorem dX11_near_13 : decode cX11_near 13 = .ok (.iload_n 1, 1) := by decide +kernel
theorem dX11_near_14 : decode cX11_near 14 = .ok (.invokevirtual 125, 3) := by decide +kernel
theorem dX11_near_17 : decode cX11_near 17 = .ok (.ireturn, 1) := by decide +kernel
set_option maxRecDepth 20000 in
theorem ggX11_line_X11_noMill : GoodIn wsX11_line wsX11_noMill := goodIn_r _ [8, 9, 10, 11, 7, 12, 35, 36, 37, 38, 39, 40, 41, 42, 43, 44, 45, 46, 47, 48, 49, 50, 51, 52, 53, 54, 55] (by decide +kernel) (by decide +kernel)
set_option maxRecDepth 20000 in
theorem gX11_line_X11_noMill : GoodIn wsX11_line (wsV RX11 105 RX11 yX11_noMill wsX11_noMill) := goodIn_app (goodIn_of _ (by decide +kernel)) ggX11_line_X11_noMill
set_option maxRecDepth 20000 in
theorem ggX11_line_X11_in : GoodIn wsX11_line wsX11_in := goodIn_r _ [12] (by decide +kernel) (by decide +kernel)
set_option maxRecDepth 20000 in
theorem gX11_line_X11_in : GoodIn wsX11_line (va_wsS RX11 67 yX11_in wsX11_in) := goodIn_app (goodIn_of _ (by decide +kernel)) ggX11_line_X11_in
set_option maxRecDepth 20000 in
theorem ggX11_line_X11_of : GoodIn wsX11_line wsX11_of := goodIn_r _ [16, 3, 35, 36, 37, 38, 39, 40, 41, 42, 43, 44, 45, 46, 47, 48, 49, 50, 51, 52, 53, 54, 55] (by decide +kernel) (by decide +kernel)
set_option maxRecDepth 20000 in
theorem gX11_line_X11_of : GoodIn wsX11_line (wsV RX11 110 RX11 yX11_of wsX11_of) := goodIn_app (goodIn_of _ (by decide +kernel)) ggX11_line_X11_of
set_option maxRecDepth 20000 in
theorem ggX11_line_X11_leastOf : GoodIn wsX11_line wsX11_leastOf := goodIn_r _ [19] (by decide +kernel) (by decide +kernel)
set_option maxRecDepth 20000 in
theorem gX11_line_X11_leastOf : GoodIn wsX11_line (va_wsS RX11 61 yX11_leastOf wsX11_leastOf) := goodIn_app (goodIn_of _ (by decide +kernel)) ggX11_line_X11_leastOf
set_option maxRecDepth 20000 in
theorem ggX11_line_X11_greatestOf : GoodIn wsX11_line wsX11_greatestOf := goodIn_r _ [22] (by decide +kernel) (by decide +kernel)
set_option maxRecDepth 20000 in
theorem gX11_line_X11_greatestOf : GoodIn wsX11_line (va_wsS RX11 64 yX11_greatestOf wsX11_greatestOf) := goodIn_app (goodIn_of _ (by decide +kernel)) ggX11_line_X11_greatestOf
set_option maxRecDepth 20000 in
theorem ggX11_line_X11_nearOf : GoodIn wsX11_line wsX11_nearOf := goodIn_r _ [26, 13, 14, 15, 7, 16, 3, 27, 28, 29, 30, 31, 32, 33, 34, 35, 36, 37, 38, 39, 40, 41, 42, 43, 44, 45, 46, 47, 48, 49, 50, 51, 52, 53, 54, 55] (by decide +kernel) (by decide +kernel)
set_option maxRecDepth 20000 in
theorem gX11_line_X11_nearOf : GoodIn wsX11_line (wsV RX11 125 RX11 yX11_nearOf wsX11_nearOf) := goodIn_app (goodIn_of _ (by decide +kernel)) ggX11_line_X11_nearOf
theorem dX11_line_0 : decode cX11_line 0 = .ok (.aload_n 0, 1) := by decide +kernel
theorem dX11_line_1 : decode cX11_line 1 = .ok (.iload_n 1, 1) := by decide +kernel
theorem dX11_line_2 : decode cX11_line 2 = .ok (.invokevirtual 105, 3) := by decide +kernel
theorem dX11_line_5 : decode cX11_line 5 = .ok (.ifCond .ne 15, 3) := by decide +kernel
theorem dX11_line_8 : decode cX11_line 8 = .ok (.iload_n 2, 1) := by decide +kernel
theorem dX11_line_9 : decode cX11_line 9 = .ok (.i2l, 1) := by decide +kernel
theorem dX11_line_10 : decode cX11_line 10 = .ok (.lconst 0, 1) := by decide +kernel
theorem dX11_line_11 : decode cX11_line 11 = .ok (.ldc2_w 128, 3) := by decide +kernel
theorem dX11_line_14 : decode cX11_line 14 = .ok (.invokestatic 67, 3) := by decide +kernel
theorem dX11_line_17 : decode cX11_line 17 = .ok (.ifCond .ne 5, 3) := by decide +kernel
theorem dX11_line_20 : decode cX11_line 20 = .ok (.iconst (-1), 1) := by decide +kernel
theorem dX11_line_21 : decode cX11_line 21 = .ok (.ireturn, 1) := by decide +kernel
theorem dX11_line_22 : decode cX11_line 22 = .ok (.iload_n 3, 1) := by decide +kernel
theorem dX11_line_23 : decode cX11_line 23 = .ok (.i2l, 1) := by decide +kernel
theorem dX11_line_24 : decode cX11_line 24 = .ok (.lconst 0, 1) := by decide +kernel
theorem dX11_line_25 : decode cX11_line 25 = .ok (.ldc2_w 92, 3) := by decide +kernel
theorem dX11_line_28 : decode cX11_line 28 = .ok (.invokestatic 67, 3) := by decide +kernel
theorem dX11_line_31 : decode cX11_line 31 = .ok (.ifCond .ne 6, 3) := by decide +kernel
theorem dX11_line_34 : decode cX11_line 34 = .ok (.bipush (-2), 2) := by decide +kernel
theorem dX11_line_36 : decode cX11_line 36 = .ok (.ireturn, 1) := by decide +kernel
theorem dX11_line_37 : decode cX11_line 37 = .ok (.aload_n 0, 1) := by decide +kernel
theorem dX11_line_38 : decode cX11_line 38 = .ok (.iload_n 1, 1) := by decide +kernel
theorem dX11_line_39 : decode cX11_line 39 = .ok (.iload_n 2, 1) := by decide +kernel
theorem dX11_line_40 : decode cX11_line 40 = .ok (.invokevirtual 110, 3) := by decide +kernel
theorem dX11_line_43 : decode cX11_line 43 = .ok (.istore 4, 2) := by decide +kernel
theorem dX11_line_45 : decode cX11_line 45 = .ok (.iconst 0, 1) := by decide +kernel
theorem dX11_line_46 : decode cX11_line 46 = .ok (.istore 5, 2) := by decide +kernel
theorem dX11_line_48 : decode cX11_line 48 = .ok (.bipush (-9), 2) := by decide +kernel
theorem dX11_line_50 : decode cX11_line 50 = .ok (.istore 6, 2) := by decide +kernel
theorem dX11_line_52 : decode cX11_line 52 = .ok (.bipush (-9), 2) := by decide +kernel
theorem dX11_line_54 : decode cX11_line 54 = .ok (.istore 7, 2) := by decide +kernel
theorem dX11_line_56 : decode cX11_line 56 = .ok (.iload_n 2, 1) := by decide +kernel
theorem dX11_line_57 : decode cX11_line 57 = .ok (.invokestatic 61, 3) := by decide +kernel
theorem dX11_line_60 : decode cX11_line 60 = .ok (.istore 8, 2) := by decide +kernel
theorem dX11_line_62 : decode cX11_line 62 = .ok (.iload 8, 2) := by decide +kernel
theorem dX11_line_64 : decode cX11_line 64 = .ok (.iload_n 2, 1) := by decide +kernel
theorem dX11_line_65 : decode cX11_line 65 = .ok (.invokestatic 64, 3) := by decide +kernel
theorem dX11_line_68 : decode cX11_line 68 = .ok (.if_icmp .gt 86, 3) := by decide +kernel
theorem dX11_line_71 : decode cX11_line 71 = .ok (.aload_n 0, 1) := by decide +kernel
theorem dX11_line_72 : decode cX11_line 72 = .ok (.getfield 13, 3) := by decide +kernel
theorem dX11_line_75 : decode cX11_line 75 = .ok (.bipush 9, 2) := by decide +kernel
theorem dX11_line_77 : decode cX11_line 77 = .ok (.iload_n 1, 1) := by decide +kernel
theorem dX11_line_78 : decode cX11_line 78 = .ok (.imul, 1) := by decide +kernel
theorem dX11_line_79 : decode cX11_line 79 = .ok (.iload_n 2, 1) := by decide +kernel
theorem dX11_line_80 : decode cX11_line 80 = .ok (.iadd, 1) := by decide +kernel
theorem dX11_line_81 : decode cX11_line 81 = .ok (.iload 8, 2) := by decide +kernel
theorem dX11_line_83 : decode cX11_line 83 = .ok (.iastore, 1) := by decide +kernel
theorem dX11_line_84 : decode cX11_line 84 = .ok (.aload_n 0, 1) := by decide +kernel
theorem dX11_line_85 : decode cX11_line 85 = .ok (.iload_n 1, 1) := by decide +kernel
theorem dX11_line_86 : decode cX11_line 86 = .ok (.invokevirtual 125, 3) := by decide +kernel
theorem dX11_line_89 : decode cX11_line 89 = .ok (.iconst 2, 1) := by decide +kernel
theorem dX11_line_90 : decode cX11_line 90 = .ok (.if_icmp .ne 7, 3) := by decide +kernel
theorem dX11_line_93 : decode cX11_line 93 = .ok (.iconst 1, 1) := by decide +kernel
theorem dX11_line_94 : decode cX11_line 94 = .ok (.goto 4, 3) := by decide +kernel
theorem dX11_line_97 : decode cX11_line 97 = .ok (.iconst 0, 1) := by decide +kernel
theorem dX11_line_98 : decode cX11_line 98 = .ok (.istore 9, 2) := by decide +kernel
theorem dX11_line_100 : decode cX11_line 100 = .ok (.iload 5, 2) := by decide +kernel
theorem dX11_line_102 : decode cX11_line 102 = .ok (.iload 9, 2) := by decide +kernel
theorem dX11_line_104 : decode cX11_line 104 = .ok (.ifCond .eq 7, 3) := by decide +kernel
theorem dX11_line_107 : decode cX11_line 107 = .ok (.iconst 1, 1) := by decide +kernel
theorem dX11_line_108 : decode cX11_line 108 = .ok (.goto 4, 3) := by decide +kernel
theorem dX11_line_111 : decode cX11_line 111 = .ok (.iconst 0, 1) := by decide +kernel
theorem dX11_line_112 : decode cX11_line 112 = .ok (.iadd, 1) := by decide +kernel
theorem dX11_line_113 : decode cX11_line 113 = .ok (.istore 5, 2) := by decide +kernel
theorem dX11_line_115 : decode cX11_line 115 = .ok (.iload 9, 2) := by decide +kernel
theorem dX11_line_117 : decode cX11_line 117 = .ok (.ifCond .eq 13, 3) := by decide +kernel
theorem dX11_line_120 : decode cX11_line 120 = .ok (.iload 6, 2) := by decide +kernel
theorem dX11_line_122 : decode cX11_line 122 = .ok (.ifCond .ge 8, 3) := by decide +kernel
theorem dX11_line_125 : decode cX11_line 125 = .ok (.iload 8, 2) := by decide +kernel
theorem dX11_line_127 : decode cX11_line 127 = .ok (.goto 5, 3) := by decide +kernel
theorem dX11_line_130 : decode cX11_line 130 = .ok (.iload 6, 2) := by decide +kernel
theorem dX11_line_132 : decode cX11_line 132 = .ok (.istore 6, 2) := by decide +kernel
theorem dX11_line_134 : decode cX11_line 134 = .ok (.iload 9, 2) := by decide +kernel
theorem dX11_line_136 : decode cX11_line 136 = .ok (.ifCond .eq 8, 3) := by decide +kernel
theorem dX11_line_139 : decode cX11_line 139 = .ok (.iload 8, 2) := by decide +kernel
theorem dX11_line_141 : decode cX11_line 141 = .ok (.goto 5, 3) := by decide +kernel
theorem dX11_line_144 : decode cX11_line 144 = .ok (.iload 7, 2) := by decide +kernel
theorem dX11_line_146 : decode cX11_line 146 = .ok (.istore 7, 2) := by decide +kernel
theorem dX11_line_148 : decode cX11_line 148 = .ok (.iinc 8 1, 3) := by decide +kernel
theorem dX11_line_151 : decode cX11_line 151 = .ok (.goto (-89), 3) := by decide +kernel
theorem dX11_line_154 : decode cX11_line 154 = .ok (.aload_n 0, 1) := by decide +kernel
theorem dX11_line_155 : decode cX11_line 155 = .ok (.getfield 13, 3) := by decide +kernel
theorem dX11_line_158 : decode cX11_line 158 = .ok (.bipush 9, 2) := by decide +kernel
theorem dX11_line_160 : decode cX11_line 160 = .ok (.iload_n 1, 1) := by decide +kernel
theorem dX11_line_161 : decode cX11_line 161 = .ok (.imul, 1) := by decide +kernel
theorem dX11_line_162 : decode cX11_line 162 = .ok (.iload_n 2, 1) := by decide +kernel
theorem dX11_line_163 : decode cX11_line 163 = .ok (.iadd, 1) := by decide +kernel
theorem dX11_line_164 : decode cX11_line 164 = .ok (.iload 4, 2) := by decide +kernel
theorem dX11_line_166 : decode cX11_line 166 = .ok (.iastore, 1) := by decide +kernel
theorem dX11_line_167 : decode cX11_line 167 = .ok (.iload_n 3, 1) := by decide +kernel
theorem dX11_line_168 : decode cX11_line 168 = .ok (.ifCond .ne 8, 3) := by decide +kernel
theorem dX11_line_171 : decode cX11_line 171 = .ok (.iload 6, 2) := by decide +kernel
theorem dX11_line_173 : decode cX11_line 173 = .ok (.goto 15, 3) := by decide +kernel
theorem dX11_line_176 : decode cX11_line 176 = .ok (.iload_n 3, 1) := by decide +kernel
theorem dX11_line_177 : decode cX11_line 177 = .ok (.iconst 1, 1) := by decide +kernel
theorem dX11_line_178 : decode cX11_line 178 = .ok (.if_icmp .ne 8, 3) := by decide +kernel
theorem dX11_line_181 : decode cX11_line 181 = .ok (.iload 7, 2) := by decide +kernel
theorem dX11_line_183 : decode cX11_line 183 = .ok (.goto 5, 3) := by decide +kernel
theorem dX11_line_186 : decode cX11_line 186 = .ok (.iload 5, 2) := by decide +kernel
theorem dX11_line_188 : decode cX11_line 188 = .ok (.ireturn, 1) := by decide +kernel
set_option maxRecDepth 20000 in
theorem ggX11_better_X11_noMill : GoodIn wsX11_better wsX11_noMill := goodIn_r _ [7, 8, 9, 10, 6, 11, 27, 28, 29, 30, 31, 32, 33, 34, 35, 36, 37, 38, 39, 40, 41, 42, 43, 44, 45, 46, 47] (by decide +kernel) (by decide +kernel)
set_option maxRecDepth 20000 in
theorem gX11_better_X11_noMill : GoodIn wsX11_better (wsV RX11 105 RX11 yX11_noMill wsX11_noMill) := goodIn_app (goodIn_of _ (by decide +kernel)) ggX11_better_X11_noMill
set_option maxRecDepth 20000 in
theorem ggX11_better_X11_in : GoodIn wsX11_better wsX11_in := goodIn_r _ [11] (by decide +kernel) (by decide +kernel)
set_option maxRecDepth 20000 in
theorem gX11_better_X11_in : GoodIn wsX11_better (va_wsS RX11 67 yX11_in wsX11_in) := goodIn_app (goodIn_of _ (by decide +kernel)) ggX11_better_X11_in
set_option maxRecDepth 20000 in
theorem ggX11_better_X11_of : GoodIn wsX11_better wsX11_of := goodIn_r _ [15, 2, 27, 28, 29, 30, 31, 32, 33, 34, 35, 36, 37, 38, 39, 40, 41, 42, 43, 44, 45, 46, 47] (by decide +kernel) (by decide +kernel)
set_option maxRecDepth 20000 in
theorem gX11_better_X11_of : GoodIn wsX11_better (wsV RX11 110 RX11 yX11_of wsX11_of) := goodIn_app (goodIn_of _ (by decide +kernel)) ggX11_better_X11_of
set_option maxRecDepth 20000 in
theorem ggX11_better_X11_greatestOf : GoodIn wsX11_better wsX11_greatestOf := goodIn_r _ [18] (by decide +kernel) (by decide +kernel)
set_option maxRecDepth 20000 in
theorem gX11_better_X11_greatestOf : GoodIn wsX11_better (va_wsS RX11 64 yX11_greatestOf wsX11_greatestOf) := goodIn_app (goodIn_of _ (by decide +kernel)) ggX11_better_X11_greatestOf
set_option maxRecDepth 20000 in
theorem ggX11_better_X11_marginOf : GoodIn wsX11_better wsX11_marginOf := goodIn_r _ [22, 23, 24, 25, 6, 26, 12, 13, 14, 15, 2, 27, 28, 29, 30, 31, 32, 33, 34, 35, 36, 37, 38, 39, 40, 41, 42, 43, 44, 45, 46, 47] (by decide +kernel) (by decide +kernel)
set_option maxRecDepth 20000 in
theorem gX11_better_X11_marginOf : GoodIn wsX11_better (wsV RX11 119 RX11 yX11_marginOf wsX11_marginOf) := goodIn_app (goodIn_of _ (by decide +kernel)) ggX11_better_X11_marginOf
theorem dX11_better_0 : decode cX11_better 0 = .ok (.aload_n 0, 1) := by decide +kernel
theorem dX11_better_1 : decode cX11_better 1 = .ok (.iload_n 1, 1) := by decide +kernel
theorem dX11_better_2 : decode cX11_better 2 = .ok (.invokevirtual 105, 3) := by decide +kernel
theorem dX11_better_5 : decode cX11_better 5 = .ok (.ifCond .ne 15, 3) := by decide +kernel
theorem dX11_better_8 : decode cX11_better 8 = .ok (.iload_n 2, 1) := by decide +kernel
theorem dX11_better_9 : decode cX11_better 9 = .ok (.i2l, 1) := by decide +kernel
theorem dX11_better_10 : decode cX11_better 10 = .ok (.lconst 0, 1) := by decide +kernel
theorem dX11_better_11 : decode cX11_better 11 = .ok (.ldc2_w 128, 3) := by decide +kernel
theorem dX11_better_14 : decode cX11_better 14 = .ok (.invokestatic 67, 3) := by decide +kernel
theorem dX11_better_17 : decode cX11_better 17 = .ok (.ifCond .ne 5, 3) := by decide +kernel
theorem dX11_better_20 : decode cX11_better 20 = .ok (.iconst (-1), 1) := by decide +kernel
theorem dX11_better_21 : decode cX11_better 21 = .ok (.ireturn, 1) := by decide +kernel
theorem dX11_better_22 : decode cX11_better 22 = .ok (.aload_n 0, 1) := by decide +kernel
theorem dX11_better_23 : decode cX11_better 23 = .ok (.iload_n 1, 1) := by decide +kernel
theorem dX11_better_24 : decode cX11_better 24 = .ok (.iload_n 2, 1) := by decide +kernel
theorem dX11_better_25 : decode cX11_better 25 = .ok (.invokevirtual 110, 3) := by decide +kernel
theorem dX11_better_28 : decode cX11_better 28 = .ok (.iload_n 2, 1) := by decide +kernel
theorem dX11_better_29 : decode cX11_better 29 = .ok (.invokestatic 64, 3) := by decide +kernel
theorem dX11_better_32 : decode cX11_better 32 = .ok (.if_icmp .ne 6, 3) := by decide +kernel
theorem dX11_better_35 : decode cX11_better 35 = .ok (.bipush (-3), 2) := by decide +kernel
theorem dX11_better_37 : decode cX11_better 37 = .ok (.ireturn, 1) := by decide +kernel
theorem dX11_better_38 : decode cX11_better 38 = .ok (.aload_n 0, 1) := by decide +kernel
theorem dX11_better_39 : decode cX11_better 39 = .ok (.iload_n 1, 1) := by decide +kernel
theorem dX11_better_40 : decode cX11_better 40 = .ok (.invokevirtual 119, 3) := by decide +kernel
theorem dX11_better_43 : decode cX11_better 43 = .ok (.lstore_n 3, 1) := by decide +kernel
theorem dX11_better_44 : decode cX11_better 44 = .ok (.aload_n 0, 1) := by decide +kernel
theorem dX11_better_45 : decode cX11_better 45 = .ok (.getfield 13, 3) := by decide +kernel
theorem dX11_better_48 : decode cX11_better 48 = .ok (.bipush 9, 2) := by decide +kernel
theorem dX11_better_50 : decode cX11_better 50 = .ok (.iload_n 1, 1) := by decide +kernel
theorem dX11_better_51 : decode cX11_better 51 = .ok (.imul, 1) := by decide +kernel
theorem dX11_better_52 : decode cX11_better 52 = .ok (.iload_n 2, 1) := by decide +kernel
theorem dX11_better_53 : decode cX11_better 53 = .ok (.iadd, 1) := by decide +kernel
theorem dX11_better_54 : decode cX11_better 54 = .ok (.dup2, 1) := by decide +kernel
theorem dX11_better_55 : decode cX11_better 55 = .ok (.iaload, 1) := by decide +kernel
theorem dX11_better_56 : decode cX11_better 56 = .ok (.iconst 1, 1) := by decide +kernel
theorem dX11_better_57 : decode cX11_better 57 = .ok (.iadd, 1) := by decide +kernel
theorem dX11_better_58 : decode cX11_better 58 = .ok (.iastore, 1) := by decide +kernel
theorem dX11_better_59 : decode cX11_better 59 = .ok (.aload_n 0, 1) := by decide +kernel
theorem dX11_better_60 : decode cX11_better 60 = .ok (.iload_n 1, 1) := by decide +kernel
theorem dX11_better_61 : decode cX11_better 61 = .ok (.invokevirtual 119, 3) := by decide +kernel
theorem dX11_better_64 : decode cX11_better 64 = .ok (.lstore 5, 2) := by decide +kernel
theorem dX11_better_66 : decode cX11_better 66 = .ok (.aload_n 0, 1) := by decide +kernel
theorem dX11_better_67 : decode cX11_better 67 = .ok (.getfield 13, 3) := by decide +kernel
theorem dX11_better_70 : decode cX11_better 70 = .ok (.bipush 9, 2) := by decide +kernel
theorem dX11_better_72 : decode cX11_better 72 = .ok (.iload_n 1, 1) := by decide +kernel
theorem dX11_better_73 : decode cX11_better 73 = .ok (.imul, 1) := by decide +kernel
theorem dX11_better_74 : decode cX11_better 74 = .ok (.iload_n 2, 1) := by decide +kernel
theorem dX11_better_75 : decode cX11_better 75 = .ok (.iadd, 1) := by decide +kernel
theorem dX11_better_76 : decode cX11_better 76 = .ok (.dup2, 1) := by decide +kernel
theorem dX11_better_77 : decode cX11_better 77 = .ok (.iaload, 1) := by decide +kernel
theorem dX11_better_78 : decode cX11_better 78 = .ok (.iconst 1, 1) := by decide +kernel
theorem dX11_better_79 : decode cX11_better 79 = .ok (.isub, 1) := by decide +kernel
theorem dX11_better_80 : decode cX11_better 80 = .ok (.iastore, 1) := by decide +kernel
theorem dX11_better_81 : decode cX11_better 81 = .ok (.lload 5, 2) := by decide +kernel
theorem dX11_better_83 : decode cX11_better 83 = .ok (.lload_n 3, 1) := by decide +kernel
theorem dX11_better_84 : decode cX11_better 84 = .ok (.lcmp, 1) := by decide +kernel
theorem dX11_better_85 : decode cX11_better 85 = .ok (.ifCond .le 7, 3) := by decide +kernel
theorem dX11_better_88 : decode cX11_better 88 = .ok (.iconst 1, 1) := by decide +kernel
theorem dX11_better_89 : decode cX11_better 89 = .ok (.goto 15, 3) := by decide +kernel
theorem dX11_better_92 : decode cX11_better 92 = .ok (.lload 5, 2) := by decide +kernel
theorem dX11_better_94 : decode cX11_better 94 = .ok (.lload_n 3, 1) := by decide +kernel
theorem dX11_better_95 : decode cX11_better 95 = .ok (.lcmp, 1) := by decide +kernel
theorem dX11_better_96 : decode cX11_better 96 = .ok (.ifCond .ne 7, 3) := by decide +kernel
theorem dX11_better_99 : decode cX11_better 99 = .ok (.iconst 0, 1) := by decide +kernel
theorem dX11_better_100 : decode cX11_better 100 = .ok (.goto 4, 3) := by decide +kernel
theorem dX11_better_103 : decode cX11_better 103 = .ok (.iconst (-1), 1) := by decide +kernel
theorem dX11_better_104 : decode cX11_better 104 = .ok (.ireturn, 1) := by decide +kernel
set_option maxRecDepth 20000 in
theorem ggX11_off_X11_noMill : GoodIn wsX11_off wsX11_noMill := goodIn_r _ [7, 8, 9, 10, 6, 11, 24, 25, 26, 27, 28, 29, 30, 31, 32, 33, 34, 35, 36, 37, 38, 39, 40, 41, 42, 43, 44] (by decide +kernel) (by decide +kernel)
set_option maxRecDepth 20000 in
theorem gX11_off_X11_noMill : GoodIn wsX11_off (wsV RX11 105 RX11 yX11_noMill wsX11_noMill) := goodIn_app (goodIn_of _ (by decide +kernel)) ggX11_off_X11_noMill
set_option maxRecDepth 20000 in
theorem ggX11_off_X11_in : GoodIn wsX11_off wsX11_in := goodIn_r _ [11] (by decide +kernel) (by decide +kernel)
set_option maxRecDepth 20000 in
theorem gX11_off_X11_in : GoodIn wsX11_off (va_wsS RX11 67 yX11_in wsX11_in) := goodIn_app (goodIn_of _ (by decide +kernel)) ggX11_off_X11_in
set_option maxRecDepth 20000 in
theorem ggX11_off_X11_lost : GoodIn wsX11_off wsX11_lost := goodIn_r _ [14, 15] (by decide +kernel) (by decide +kernel)
set_option maxRecDepth 20000 in
theorem gX11_off_X11_lost : GoodIn wsX11_off (va_wsS RX11 49 yX11_lost wsX11_lost) := goodIn_app (goodIn_of _ (by decide +kernel)) ggX11_off_X11_lost
set_option maxRecDepth 20000 in
theorem ggX11_off_X11_of : GoodIn wsX11_off wsX11_of := goodIn_r _ [19, 20, 24, 25, 26, 27, 28, 29, 30, 31, 32, 33, 34, 35, 36, 37, 38, 39, 40, 41, 42, 43, 44] (by decide +kernel) (by decide +kernel)
set_option maxRecDepth 20000 in
theorem gX11_off_X11_of : GoodIn wsX11_off (wsV RX11 110 RX11 yX11_of wsX11_of) := goodIn_app (goodIn_of _ (by decide +kernel)) ggX11_off_X11_of
set_option maxRecDepth 20000 in
theorem ggX11_off_X11_reduced : GoodIn wsX11_off wsX11_reduced := goodIn_r _ [23] (by decide +kernel) (by decide +kernel)
set_option maxRecDepth 20000 in
theorem gX11_off_X11_reduced : GoodIn wsX11_off (va_wsS RX11 134 yX11_reduced wsX11_reduced) := goodIn_app (goodIn_of _ (by decide +kernel)) ggX11_off_X11_reduced
theorem dX11_off_0 : decode cX11_off 0 = .ok (.aload_n 0, 1) := by decide +kernel
theorem dX11_off_1 : decode cX11_off 1 = .ok (.iload_n 1, 1) := by decide +kernel
theorem dX11_off_2 : decode cX11_off 2 = .ok (.invokevirtual 105, 3) := by decide +kernel
theorem dX11_off_5 : decode cX11_off 5 = .ok (.ifCond .ne 27, 3) := by decide +kernel
theorem dX11_off_8 : decode cX11_off 8 = .ok (.iload_n 2, 1) := by decide +kernel
theorem dX11_off_9 : decode cX11_off 9 = .ok (.i2l, 1) := by decide +kernel
theorem dX11_off_10 : decode cX11_off 10 = .ok (.ldc2_w 130, 3) := by decide +kernel
theorem dX11_off_13 : decode cX11_off 13 = .ok (.ldc2_w 132, 3) := by decide +kernel
theorem dX11_off_16 : decode cX11_off 16 = .ok (.invokestatic 67, 3) := by decide +kernel
theorem dX11_off_19 : decode cX11_off 19 = .ok (.ifCond .eq 13, 3) := by decide +kernel
theorem dX11_off_22 : decode cX11_off 22 = .ok (.iload_n 3, 1) := by decide +kernel
theorem dX11_off_23 : decode cX11_off 23 = .ok (.i2l, 1) := by decide +kernel
theorem dX11_off_24 : decode cX11_off 24 = .ok (.lconst 0, 1) := by decide +kernel
theorem dX11_off_25 : decode cX11_off 25 = .ok (.lconst 1, 1) := by decide +kernel
theorem dX11_off_26 : decode cX11_off 26 = .ok (.invokestatic 67, 3) := by decide +kernel
theorem dX11_off_29 : decode cX11_off 29 = .ok (.ifCond .ne 7, 3) := by decide +kernel
theorem dX11_off_32 : decode cX11_off 32 = .ok (.invokestatic 49, 3) := by decide +kernel
theorem dX11_off_35 : decode cX11_off 35 = .ok (.lreturn, 1) := by decide +kernel
theorem dX11_off_36 : decode cX11_off 36 = .ok (.aload_n 0, 1) := by decide +kernel
theorem dX11_off_37 : decode cX11_off 37 = .ok (.iload_n 1, 1) := by decide +kernel
theorem dX11_off_38 : decode cX11_off 38 = .ok (.bipush 6, 2) := by decide +kernel
theorem dX11_off_40 : decode cX11_off 40 = .ok (.invokevirtual 110, 3) := by decide +kernel
theorem dX11_off_43 : decode cX11_off 43 = .ok (.ifCond .le 7, 3) := by decide +kernel
theorem dX11_off_46 : decode cX11_off 46 = .ok (.lconst 0, 1) := by decide +kernel
theorem dX11_off_47 : decode cX11_off 47 = .ok (.goto 14, 3) := by decide +kernel
theorem dX11_off_50 : decode cX11_off 50 = .ok (.iload_n 2, 1) := by decide +kernel
theorem dX11_off_51 : decode cX11_off 51 = .ok (.ineg, 1) := by decide +kernel
theorem dX11_off_52 : decode cX11_off 52 = .ok (.i2l, 1) := by decide +kernel
theorem dX11_off_53 : decode cX11_off 53 = .ok (.aload_n 0, 1) := by decide +kernel
theorem dX11_off_54 : decode cX11_off 54 = .ok (.iload_n 1, 1) := by decide +kernel
theorem dX11_off_55 : decode cX11_off 55 = .ok (.iconst 4, 1) := by decide +kernel
theorem dX11_off_56 : decode cX11_off 56 = .ok (.invokevirtual 110, 3) := by decide +kernel
theorem dX11_off_59 : decode cX11_off 59 = .ok (.i2l, 1) := by decide +kernel
theorem dX11_off_60 : decode cX11_off 60 = .ok (.lmul, 1) := by decide +kernel
theorem dX11_off_61 : decode cX11_off 61 = .ok (.lstore 4, 2) := by decide +kernel
theorem dX11_off_63 : decode cX11_off 63 = .ok (.lload 4, 2) := by decide +kernel
theorem dX11_off_65 : decode cX11_off 65 = .ok (.aload_n 0, 1) := by decide +kernel
theorem dX11_off_66 : decode cX11_off 66 = .ok (.iload_n 1, 1) := by decide +kernel
theorem dX11_off_67 : decode cX11_off 67 = .ok (.iconst 1, 1) := by decide +kernel
theorem dX11_off_68 : decode cX11_off 68 = .ok (.invokevirtual 110, 3) := by decide +kernel
theorem dX11_off_71 : decode cX11_off 71 = .ok (.aload_n 0, 1) := by decide +kernel
theorem dX11_off_72 : decode cX11_off 72 = .ok (.iload_n 1, 1) := by decide +kernel
theorem dX11_off_73 : decode cX11_off 73 = .ok (.iconst 4, 1) := by decide +kernel
theorem dX11_off_74 : decode cX11_off 74 = .ok (.invokevirtual 110, 3) := by decide +kernel
theorem dX11_off_77 : decode cX11_off 77 = .ok (.imul, 1) := by decide +kernel
theorem dX11_off_78 : decode cX11_off 78 = .ok (.aload_n 0, 1) := by decide +kernel
theorem dX11_off_79 : decode cX11_off 79 = .ok (.iload_n 1, 1) := by decide +kernel
theorem dX11_off_80 : decode cX11_off 80 = .ok (.iconst 5, 1) := by decide +kernel
theorem dX11_off_81 : decode cX11_off 81 = .ok (.invokevirtual 110, 3) := by decide +kernel
theorem dX11_off_84 : decode cX11_off 84 = .ok (.iadd, 1) := by decide +kernel
theorem dX11_off_85 : decode cX11_off 85 = .ok (.i2l, 1) := by decide +kernel
theorem dX11_off_86 : decode cX11_off 86 = .ok (.iload_n 3, 1) := by decide +kernel
theorem dX11_off_87 : decode cX11_off 87 = .ok (.invokestatic 134, 3) := by decide +kernel
theorem dX11_off_90 : decode cX11_off 90 = .ok (.lreturn, 1) := by decide +kernel
set_option maxRecDepth 20000 in
theorem ggX11_years_X11_noMill : GoodIn wsX11_years wsX11_noMill := goodIn_r _ [9, 10, 11, 12, 8, 13, 39, 40, 41, 42, 43, 44, 45, 46, 47, 48, 49, 50, 51, 52, 53, 54, 55, 56, 57, 58, 59] (by decide +kernel) (by decide +kernel)
set_option maxRecDepth 20000 in
theorem gX11_years_X11_noMill : GoodIn wsX11_years (wsV RX11 105 RX11 yX11_noMill wsX11_noMill) := goodIn_app (goodIn_of _ (by decide +kernel)) ggX11_years_X11_noMill
set_option maxRecDepth 20000 in
theorem ggX11_years_X11_in : GoodIn wsX11_years wsX11_in := goodIn_r _ [13] (by decide +kernel) (by decide +kernel)
set_option maxRecDepth 20000 in
theorem gX11_years_X11_in : GoodIn wsX11_years (va_wsS RX11 67 yX11_in wsX11_in) := goodIn_app (goodIn_of _ (by decide +kernel)) ggX11_years_X11_in
set_option maxRecDepth 20000 in
theorem ggX11_years_X11_of : GoodIn wsX11_years wsX11_of := goodIn_r _ [17, 4, 39, 40, 41, 42, 43, 44, 45, 46, 47, 48, 49, 50, 51, 52, 53, 54, 55, 56, 57, 58, 59] (by decide +kernel) (by decide +kernel)
set_option maxRecDepth 20000 in
theorem gX11_years_X11_of : GoodIn wsX11_years (wsV RX11 110 RX11 yX11_of wsX11_of) := goodIn_app (goodIn_of _ (by decide +kernel)) ggX11_years_X11_of
set_option maxRecDepth 20000 in
theorem ggX11_years_X11_leastOf : GoodIn wsX11_years wsX11_leastOf := goodIn_r _ [20] (by decide +kernel) (by decide +kernel)
set_option maxRecDepth 20000 in
theorem gX11_years_X11_leastOf : GoodIn wsX11_years (va_wsS RX11 61 yX11_leastOf wsX11_leastOf) := goodIn_app (goodIn_of _ (by decide +kernel)) ggX11_years_X11_leastOf
set_option maxRecDepth 20000 in
theorem ggX11_years_X11_greatestOf : GoodIn wsX11_years wsX11_greatestOf := goodIn_r _ [23] (by decide +kernel) (by decide +kernel)
set_option maxRecDepth 20000 in
theorem gX11_years_X11_greatestOf : GoodIn wsX11_years (va_wsS RX11 64 yX11_greatestOf wsX11_greatestOf) := goodIn_app (goodIn_of _ (by decide +kernel)) ggX11_years_X11_greatestOf
set_option maxRecDepth 20000 in
theorem ggX11_years_X11_held : GoodIn wsX11_years wsX11_held := goodIn_r _ [26] (by decide +kernel) (by decide +kernel)
set_option maxRecDepth 20000 in
theorem gX11_years_X11_held : GoodIn wsX11_years (va_wsS RX11 140 yX11_held wsX11_held) := goodIn_app (goodIn_of _ (by decide +kernel)) ggX11_years_X11_held
set_option maxRecDepth 20000 in
theorem ggX11_years_X11_nearOf : GoodIn wsX11_years wsX11_nearOf := goodIn_r _ [30, 14, 15, 16, 8, 17, 4, 31, 32, 33, 34, 35, 36, 37, 38, 39, 40, 41, 42, 43, 44, 45, 46, 47, 48, 49, 50, 51, 52, 53, 54, 55, 56, 57, 58, 59] (by decide +kernel) (by decide +kernel)
set_option maxRecDepth 20000 in
theorem gX11_years_X11_nearOf : GoodIn wsX11_years (wsV RX11 125 RX11 yX11_nearOf wsX11_nearOf) := goodIn_app (goodIn_of _ (by decide +kernel)) ggX11_years_X11_nearOf
theorem dX11_years_0 : decode cX11_years 0 = .ok (.aload_n 0, 1) := by decide +kernel
theorem dX11_years_1 : decode cX11_years 1 = .ok (.iload_n 1, 1) := by decide +kernel
theorem dX11_years_2 : decode cX11_years 2 = .ok (.invokevirtual 105, 3) := by decide +kernel
theorem dX11_years_5 : decode cX11_years 5 = .ok (.ifCond .ne 15, 3) := by decide +kernel
theorem dX11_years_8 : decode cX11_years 8 = .ok (.iload_n 2, 1) := by decide +kernel
theorem dX11_years_9 : decode cX11_years 9 = .ok (.i2l, 1) := by decide +kernel
theorem dX11_years_10 : decode cX11_years 10 = .ok (.lconst 0, 1) := by decide +kernel
theorem dX11_years_11 : decode cX11_years 11 = .ok (.ldc2_w 128, 3) := by decide +kernel
theorem dX11_years_14 : decode cX11_years 14 = .ok (.invokestatic 67, 3) := by decide +kernel
theorem dX11_years_17 : decode cX11_years 17 = .ok (.ifCond .ne 5, 3) := by decide +kernel
theorem dX11_years_20 : decode cX11_years 20 = .ok (.iconst (-1), 1) := by decide +kernel
theorem dX11_years_21 : decode cX11_years 21 = .ok (.ireturn, 1) := by decide +kernel
theorem dX11_years_22 : decode cX11_years 22 = .ok (.iload_n 3, 1) := by decide +kernel
theorem dX11_years_23 : decode cX11_years 23 = .ok (.i2l, 1) := by decide +kernel
theorem dX11_years_24 : decode cX11_years 24 = .ok (.ldc2_w 138, 3) := by decide +kernel
theorem dX11_years_27 : decode cX11_years 27 = .ok (.ldc2_w 108, 3) := by decide +kernel
theorem dX11_years_30 : decode cX11_years 30 = .ok (.invokestatic 67, 3) := by decide +kernel
theorem dX11_years_33 : decode cX11_years 33 = .ok (.ifCond .ne 6, 3) := by decide +kernel
theorem dX11_years_36 : decode cX11_years 36 = .ok (.bipush (-2), 2) := by decide +kernel
theorem dX11_years_38 : decode cX11_years 38 = .ok (.ireturn, 1) := by decide +kernel
theorem dX11_years_39 : decode cX11_years 39 = .ok (.aload_n 0, 1) := by decide +kernel
theorem dX11_years_40 : decode cX11_years 40 = .ok (.iload_n 1, 1) := by decide +kernel
theorem dX11_years_41 : decode cX11_years 41 = .ok (.iload_n 2, 1) := by decide +kernel
theorem dX11_years_42 : decode cX11_years 42 = .ok (.invokevirtual 110, 3) := by decide +kernel
theorem dX11_years_45 : decode cX11_years 45 = .ok (.istore 4, 2) := by decide +kernel
theorem dX11_years_47 : decode cX11_years 47 = .ok (.bipush (-9), 2) := by decide +kernel
theorem dX11_years_49 : decode cX11_years 49 = .ok (.istore 5, 2) := by decide +kernel
theorem dX11_years_51 : decode cX11_years 51 = .ok (.iconst 1, 1) := by decide +kernel
theorem dX11_years_52 : decode cX11_years 52 = .ok (.istore 6, 2) := by decide +kernel
theorem dX11_years_54 : decode cX11_years 54 = .ok (.iload 6, 2) := by decide +kernel
theorem dX11_years_56 : decode cX11_years 56 = .ok (.bipush 61, 2) := by decide +kernel
theorem dX11_years_58 : decode cX11_years 58 = .ok (.if_icmp .ge 61, 3) := by decide +kernel
theorem dX11_years_61 : decode cX11_years 61 = .ok (.iload 5, 2) := by decide +kernel
theorem dX11_years_63 : decode cX11_years 63 = .ok (.ifCond .ge 56, 3) := by decide +kernel
theorem dX11_years_66 : decode cX11_years 66 = .ok (.aload_n 0, 1) := by decide +kernel
theorem dX11_years_67 : decode cX11_years 67 = .ok (.getfield 13, 3) := by decide +kernel
theorem dX11_years_70 : decode cX11_years 70 = .ok (.bipush 9, 2) := by decide +kernel
theorem dX11_years_72 : decode cX11_years 72 = .ok (.iload_n 1, 1) := by decide +kernel
theorem dX11_years_73 : decode cX11_years 73 = .ok (.imul, 1) := by decide +kernel
theorem dX11_years_74 : decode cX11_years 74 = .ok (.iload_n 2, 1) := by decide +kernel
theorem dX11_years_75 : decode cX11_years 75 = .ok (.iadd, 1) := by decide +kernel
theorem dX11_years_76 : decode cX11_years 76 = .ok (.iload 4, 2) := by decide +kernel
theorem dX11_years_78 : decode cX11_years 78 = .ok (.iload_n 3, 1) := by decide +kernel
theorem dX11_years_79 : decode cX11_years 79 = .ok (.iload 6, 2) := by decide +kernel
theorem dX11_years_81 : decode cX11_years 81 = .ok (.imul, 1) := by decide +kernel
theorem dX11_years_82 : decode cX11_years 82 = .ok (.iadd, 1) := by decide +kernel
theorem dX11_years_83 : decode cX11_years 83 = .ok (.iload_n 2, 1) := by decide +kernel
theorem dX11_years_84 : decode cX11_years 84 = .ok (.invokestatic 61, 3) := by decide +kernel
theorem dX11_years_87 : decode cX11_years 87 = .ok (.iload_n 2, 1) := by decide +kernel
theorem dX11_years_88 : decode cX11_years 88 = .ok (.invokestatic 64, 3) := by decide +kernel
theorem dX11_years_91 : decode cX11_years 91 = .ok (.invokestatic 140, 3) := by decide +kernel
theorem dX11_years_94 : decode cX11_years 94 = .ok (.iastore, 1) := by decide +kernel
theorem dX11_years_95 : decode cX11_years 95 = .ok (.aload_n 0, 1) := by decide +kernel
theorem dX11_years_96 : decode cX11_years 96 = .ok (.iload_n 1, 1) := by decide +kernel
theorem dX11_years_97 : decode cX11_years 97 = .ok (.invokevirtual 125, 3) := by decide +kernel
theorem dX11_years_100 : decode cX11_years 100 = .ok (.iconst 2, 1) := by decide +kernel
theorem dX11_years_101 : decode cX11_years 101 = .ok (.if_icmp .ne 8, 3) := by decide +kernel
theorem dX11_years_104 : decode cX11_years 104 = .ok (.bipush (-9), 2) := by decide +kernel
theorem dX11_years_106 : decode cX11_years 106 = .ok (.goto 5, 3) := by decide +kernel
theorem dX11_years_109 : decode cX11_years 109 = .ok (.iload 6, 2) := by decide +kernel
theorem dX11_years_111 : decode cX11_years 111 = .ok (.istore 5, 2) := by decide +kernel
theorem dX11_years_113 : decode cX11_years 113 = .ok (.iinc 6 1, 3) := by decide +kernel
theorem dX11_years_116 : decode cX11_years 116 = .ok (.goto (-62), 3) := by decide +kernel
theorem dX11_years_119 : decode cX11_years 119 = .ok (.aload_n 0, 1) := by decide +kernel
theorem dX11_years_120 : decode cX11_years 120 = .ok (.getfield 13, 3) := by decide +kernel
theorem dX11_years_123 : decode cX11_years 123 = .ok (.bipush 9, 2) := by decide +kernel
theorem dX11_years_125 : decode cX11_years 125 = .ok (.iload_n 1, 1) := by decide +kernel
theorem dX11_years_126 : decode cX11_years 126 = .ok (.imul, 1) := by decide +kernel
theorem dX11_years_127 : decode cX11_years 127 = .ok (.iload_n 2, 1) := by decide +kernel
theorem dX11_years_128 : decode cX11_years 128 = .ok (.iadd, 1) := by decide +kernel
theorem dX11_years_129 : decode cX11_years 129 = .ok (.iload 4, 2) := by decide +kernel
theorem dX11_years_131 : decode cX11_years 131 = .ok (.iastore, 1) := by decide +kernel
theorem dX11_years_132 : decode cX11_years 132 = .ok (.iload 5, 2) := by decide +kernel
theorem dX11_years_134 : decode cX11_years 134 = .ok (.ireturn, 1) := by decide +kernel
set_option maxRecDepth 20000 in
theorem ggX11_begin_X11_of : GoodIn wsX11_begin wsX11_of := goodIn_r _ [12, 13, 14, 15, 16, 17, 18, 19, 20, 21, 22, 23, 24, 25, 26, 27, 28, 29, 30, 31, 32, 33, 34] (by decide +kernel) (by decide +kernel)
set_option maxRecDepth 20000 in
theorem gX11_begin_X11_of : GoodIn wsX11_begin (wsV RX11 110 RX11 yX11_of wsX11_of) := goodIn_app (goodIn_of _ (by decide +kernel)) ggX11_begin_X11_of
theorem dX11_begin_0 : decode cX11_begin 0 = .ok (.aload_n 0, 1) := by decide +kernel
theorem dX11_begin_1 : decode cX11_begin 1 = .ok (.iload_n 1, 1) := by decide +kernel
theorem dX11_begin_2 : decode cX11_begin 2 = .ok (.putfield 144, 3) := by decide +kernel
theorem dX11_begin_5 : decode cX11_begin 5 = .ok (.aload_n 0, 1) := by decide +kernel
theorem dX11_begin_6 : decode cX11_begin 6 = .ok (.iload_n 2, 1) := by decide +kernel
theorem dX11_begin_7 : decode cX11_begin 7 = .ok (.putfield 147, 3) := by decide +kernel
theorem dX11_begin_10 : decode cX11_begin 10 = .ok (.aload_n 0, 1) := by decide +kernel
theorem dX11_begin_11 : decode cX11_begin 11 = .ok (.iload 5, 2) := by decide +kernel
theorem dX11_begin_13 : decode cX11_begin 13 = .ok (.putfield 150, 3) := by decide +kernel
theorem dX11_begin_16 : decode cX11_begin 16 = .ok (.aload_n 0, 1) := by decide +kernel
theorem dX11_begin_17 : decode cX11_begin 17 = .ok (.iload_n 2, 1) := by decide +kernel
theorem dX11_begin_18 : decode cX11_begin 18 = .ok (.ifCond .lt 20, 3) := by decide +kernel
theorem dX11_begin_21 : decode cX11_begin 21 = .ok (.aload_n 0, 1) := by decide +kernel
theorem dX11_begin_22 : decode cX11_begin 22 = .ok (.iload_n 1, 1) := by decide +kernel
theorem dX11_begin_23 : decode cX11_begin 23 = .ok (.bipush 7, 2) := by decide +kernel
theorem dX11_begin_25 : decode cX11_begin 25 = .ok (.invokevirtual 110, 3) := by decide +kernel
theorem dX11_begin_28 : decode cX11_begin 28 = .ok (.aload_n 0, 1) := by decide +kernel
theorem dX11_begin_29 : decode cX11_begin 29 = .ok (.iload_n 2, 1) := by decide +kernel
theorem dX11_begin_30 : decode cX11_begin 30 = .ok (.bipush 7, 2) := by decide +kernel
theorem dX11_begin_32 : decode cX11_begin 32 = .ok (.invokevirtual 110, 3) := by decide +kernel
theorem dX11_begin_35 : decode cX11_begin 35 = .ok (.if_icmp .le 13, 3) := by decide +kernel
theorem dX11_begin_38 : decode cX11_begin 38 = .ok (.aload_n 0, 1) := by decide +kernel
theorem dX11_begin_39 : decode cX11_begin 39 = .ok (.iload_n 1, 1) := by decide +kernel
theorem dX11_begin_40 : decode cX11_begin 40 = .ok (.bipush 7, 2) := by decide +kernel
theorem dX11_begin_42 : decode cX11_begin 42 = .ok (.invokevirtual 110, 3) := by decide +kernel
theorem dX11_begin_45 : decode cX11_begin 45 = .ok (.goto 10, 3) := by decide +kernel
theorem dX11_begin_48 : decode cX11_begin 48 = .ok (.aload_n 0, 1) := by decide +kernel
theorem dX11_begin_49 : decode cX11_begin 49 = .ok (.iload_n 2, 1) := by decide +kernel
theorem dX11_begin_50 : decode cX11_begin 50 = .ok (.bipush 7, 2) := by decide +kernel
theorem dX11_begin_52 : decode cX11_begin 52 = .ok (.invokevirtual 110, 3) := by decide +kernel
theorem dX11_begin_55 : decode cX11_begin 55 = .ok (.putfield 153, 3) := by decide +kernel
theorem dX11_begin_58 : decode cX11_begin 58 = .ok (.aload_n 0, 1) := by decide +kernel
theorem dX11_begin_59 : decode cX11_begin 59 = .ok (.getfield 19, 3) := by decide +kernel
theorem dX11_begin_62 : decode cX11_begin 62 = .ok (.iconst 0, 1) := by decide +kernel
theorem dX11_begin_63 : decode cX11_begin 63 = .ok (.iload_n 3, 1) := by decide +kernel
theorem dX11_begin_64 : decode cX11_begin 64 = .ok (.iastore, 1) := by decide +kernel
theorem dX11_begin_65 : decode cX11_begin 65 = .ok (.aload_n 0, 1) := by decide +kernel
theorem dX11_begin_66 : decode cX11_begin 66 = .ok (.getfield 22, 3) := by decide +kernel
theorem dX11_begin_69 : decode cX11_begin 69 = .ok (.iconst 0, 1) := by decide +kernel
theorem dX11_begin_70 : decode cX11_begin 70 = .ok (.iload 4, 2) := by decide +kernel
theorem dX11_begin_72 : decode cX11_begin 72 = .ok (.iastore, 1) := by decide +kernel
theorem dX11_begin_73 : decode cX11_begin 73 = .ok (.aload_n 0, 1) := by decide +kernel
theorem dX11_begin_74 : decode cX11_begin 74 = .ok (.getfield 22, 3) := by decide +kernel
theorem dX11_begin_77 : decode cX11_begin 77 = .ok (.sipush 301, 3) := by decide +kernel
theorem dX11_begin_80 : decode cX11_begin 80 = .ok (.iload_n 2, 1) := by decide +kernel
theorem dX11_begin_81 : decode cX11_begin 81 = .ok (.ifCond .ge 7, 3) := by decide +kernel
theorem dX11_begin_84 : decode cX11_begin 84 = .ok (.iconst 0, 1) := by decide +kernel
theorem dX11_begin_85 : decode cX11_begin 85 = .ok (.goto 5, 3) := by decide +kernel
theorem dX11_begin_88 : decode cX11_begin 88 = .ok (.iload 4, 2) := by decide +kernel
theorem dX11_begin_90 : decode cX11_begin 90 = .ok (.iastore, 1) := by decide +kernel
theorem dX11_begin_91 : decode cX11_begin 91 = .ok (.aload_n 0, 1) := by decide +kernel
theorem dX11_begin_92 : decode cX11_begin 92 = .ok (.getfield 25, 3) := by decide +kernel
theorem dX11_begin_95 : decode cX11_begin 95 = .ok (.iconst 0, 1) := by decide +kernel
theorem dX11_begin_96 : decode cX11_begin 96 = .ok (.iconst 0, 1) := by decide +kernel
theorem dX11_begin_97 : decode cX11_begin 97 = .ok (.iastore, 1) := by decide +kernel
theorem dX11_begin_98 : decode cX11_begin 98 = .ok (.aload_n 0, 1) := by decide +kernel
theorem dX11_begin_99 : decode cX11_begin 99 = .ok (.getfield 25, 3) := by decide +kernel
theorem dX11_begin_102 : decode cX11_begin 102 = .ok (.sipush 301, 3) := by decide +kernel
theorem dX11_begin_105 : decode cX11_begin 105 = .ok (.iconst 0, 1) := by decide +kernel
theorem dX11_begin_106 : decode cX11_begin 106 = .ok (.iastore, 1) := by decide +kernel
theorem dX11_begin_107 : decode cX11_begin 107 = .ok (.return_, 1) := by decide +kernel
theorem dX11_beatAgo_0 : decode cX11_beatAgo 0 = .ok (.aload_n 0, 1) := by decide +kernel
theorem dX11_beatAgo_1 : decode cX11_beatAgo 1 = .ok (.getfield 19, 3) := by decide +kernel
theorem dX11_beatAgo_4 : decode cX11_beatAgo 4 = .ok (.iload_n 1, 1) := by decide +kernel
theorem dX11_beatAgo_5 : decode cX11_beatAgo 5 = .ok (.iload_n 2, 1) := by decide +kernel
theorem dX11_beatAgo_6 : decode cX11_beatAgo 6 = .ok (.if_icmp .le 9, 3) := by decide +kernel
theorem dX11_beatAgo_9 : decode cX11_beatAgo 9 = .ok (.iload_n 1, 1) := by decide +kernel
theorem dX11_beatAgo_10 : decode cX11_beatAgo 10 = .ok (.iload_n 2, 1) := by decide +kernel
theorem dX11_beatAgo_11 : decode cX11_beatAgo 11 = .ok (.isub, 1) := by decide +kernel
theorem dX11_beatAgo_12 : decode cX11_beatAgo 12 = .ok (.goto 4, 3) := by decide +kernel
theorem dX11_beatAgo_15 : decode cX11_beatAgo 15 = .ok (.iconst 0, 1) := by decide +kernel
theorem dX11_beatAgo_16 : decode cX11_beatAgo 16 = .ok (.iaload, 1) := by decide +kernel
theorem dX11_beatAgo_17 : decode cX11_beatAgo 17 = .ok (.ireturn, 1) := by decide +kernel
set_option maxRecDepth 20000 in
theorem ggX11_towards_X11_of : GoodIn wsX11_towards wsX11_of := goodIn_r _ [6, 7, 14, 15, 16, 17, 18, 19, 20, 21, 22, 23, 24, 25, 26, 27, 28, 29, 30, 31, 32, 33, 34] (by decide +kernel) (by decide +kernel)
set_option maxRecDepth 20000 in
theorem gX11_towards_X11_of : GoodIn wsX11_towards (wsV RX11 110 RX11 yX11_of wsX11_of) := goodIn_app (goodIn_of _ (by decide +kernel)) ggX11_towards_X11_of
set_option maxRecDepth 20000 in
theorem ggX11_towards_X11_sizeOf : GoodIn wsX11_towards wsX11_sizeOf := goodIn_r _ [10] (by decide +kernel) (by decide +kernel)
set_option maxRecDepth 20000 in
theorem gX11_towards_X11_sizeOf : GoodIn wsX11_towards (va_wsS RX11 156 yX11_sizeOf wsX11_sizeOf) := goodIn_app (goodIn_of _ (by decide +kernel)) ggX11_towards_X11_sizeOf
set_option maxRecDepth 20000 in
theorem ggX11_towards_X11_held : GoodIn wsX11_towards wsX11_held := goodIn_r _ [13] (by decide +kernel) (by decide +kernel)
set_option maxRecDepth 20000 in
theorem gX11_towards_X11_held : GoodIn wsX11_towards (va_wsS RX11 140 yX11_held wsX11_held) := goodIn_app (goodIn_of _ (by decide +kernel)) ggX11_towards_X11_held
theorem dX11_towards_0 : decode cX11_towards 0 = .ok (.iload_n 3, 1) := by decide +kernel
theorem dX11_towards_1 : decode cX11_towards 1 = .ok (.iload_n 2, 1) := by decide +kernel
theorem dX11_towards_2 : decode cX11_towards 2 = .ok (.isub, 1) := by decide +kernel
theorem dX11_towards_3 : decode cX11_towards 3 = .ok (.istore 4, 2) := by decide +kernel
theorem dX11_towards_5 : decode cX11_towards 5 = .ok (.aload_n 0, 1) := by decide +kernel
theorem dX11_towards_6 : decode cX11_towards 6 = .ok (.iload_n 1, 1) := by decide +kernel
theorem dX11_towards_7 : decode cX11_towards 7 = .ok (.iconst 3, 1) := by decide +kernel
theorem dX11_towards_8 : decode cX11_towards 8 = .ok (.invokevirtual 110, 3) := by decide +kernel
theorem dX11_towards_11 : decode cX11_towards 11 = .ok (.bipush 39, 2) := by decide +kernel
theorem dX11_towards_13 : decode cX11_towards 13 = .ok (.if_icmp .le 7, 3) := by decide +kernel
theorem dX11_towards_16 : decode cX11_towards 16 = .ok (.iconst 1, 1) := by decide +kernel
theorem dX11_towards_17 : decode cX11_towards 17 = .ok (.goto 14, 3) := by decide +kernel
theorem dX11_towards_20 : decode cX11_towards 20 = .ok (.bipush 40, 2) := by decide +kernel
theorem dX11_towards_22 : decode cX11_towards 22 = .ok (.aload_n 0, 1) := by decide +kernel
theorem dX11_towards_23 : decode cX11_towards 23 = .ok (.iload_n 1, 1) := by decide +kernel
theorem dX11_towards_24 : decode cX11_towards 24 = .ok (.iconst 3, 1) := by decide +kernel
theorem dX11_towards_25 : decode cX11_towards 25 = .ok (.invokevirtual 110, 3) := by decide +kernel
theorem dX11_towards_28 : decode cX11_towards 28 = .ok (.iconst 1, 1) := by decide +kernel
theorem dX11_towards_29 : decode cX11_towards 29 = .ok (.iadd, 1) := by decide +kernel
theorem dX11_towards_30 : decode cX11_towards 30 = .ok (.idiv, 1) := by decide +kernel
theorem dX11_towards_31 : decode cX11_towards 31 = .ok (.istore 5, 2) := by decide +kernel
theorem dX11_towards_33 : decode cX11_towards 33 = .ok (.aload_n 0, 1) := by decide +kernel
theorem dX11_towards_34 : decode cX11_towards 34 = .ok (.getfield 7, 3) := by decide +kernel
theorem dX11_towards_37 : decode cX11_towards 37 = .ok (.iload_n 1, 1) := by decide +kernel
theorem dX11_towards_38 : decode cX11_towards 38 = .ok (.iaload, 1) := by decide +kernel
theorem dX11_towards_39 : decode cX11_towards 39 = .ok (.ifCond .ne 5, 3) := by decide +kernel
theorem dX11_towards_42 : decode cX11_towards 42 = .ok (.iload_n 3, 1) := by decide +kernel
theorem dX11_towards_43 : decode cX11_towards 43 = .ok (.ireturn, 1) := by decide +kernel
theorem dX11_towards_44 : decode cX11_towards 44 = .ok (.aload_n 0, 1) := by decide +kernel
theorem dX11_towards_45 : decode cX11_towards 45 = .ok (.getfield 7, 3) := by decide +kernel
theorem dX11_towards_48 : decode cX11_towards 48 = .ok (.iload_n 1, 1) := by decide +kernel
theorem dX11_towards_49 : decode cX11_towards 49 = .ok (.iaload, 1) := by decide +kernel
theorem dX11_towards_50 : decode cX11_towards 50 = .ok (.iconst 2, 1) := by decide +kernel
theorem dX11_towards_51 : decode cX11_towards 51 = .ok (.if_icmp .ne 20, 3) := by decide +kernel
theorem dX11_towards_54 : decode cX11_towards 54 = .ok (.iload 4, 2) := by decide +kernel
theorem dX11_towards_56 : decode cX11_towards 56 = .ok (.invokestatic 156, 3) := by decide +kernel
theorem dX11_towards_59 : decode cX11_towards 59 = .ok (.aload_n 0, 1) := by decide +kernel
theorem dX11_towards_60 : decode cX11_towards 60 = .ok (.iload_n 1, 1) := by decide +kernel
theorem dX11_towards_61 : decode cX11_towards 61 = .ok (.bipush 8, 2) := by decide +kernel
theorem dX11_towards_63 : decode cX11_towards 63 = .ok (.invokevirtual 110, 3) := by decide +kernel
theorem dX11_towards_66 : decode cX11_towards 66 = .ok (.if_icmp .ge 5, 3) := by decide +kernel
theorem dX11_towards_69 : decode cX11_towards 69 = .ok (.iload_n 2, 1) := by decide +kernel
theorem dX11_towards_70 : decode cX11_towards 70 = .ok (.ireturn, 1) := by decide +kernel
theorem dX11_towards_71 : decode cX11_towards 71 = .ok (.iload_n 2, 1) := by decide +kernel
theorem dX11_towards_72 : decode cX11_towards 72 = .ok (.iload 4, 2) := by decide +kernel
theorem dX11_towards_74 : decode cX11_towards 74 = .ok (.iload 5, 2) := by decide +kernel
theorem dX11_towards_76 : decode cX11_towards 76 = .ok (.ineg, 1) := by decide +kernel
theorem dX11_towards_77 : decode cX11_towards 77 = .ok (.iload 5, 2) := by decide +kernel
theorem dX11_towards_79 : decode cX11_towards 79 = .ok (.invokestatic 140, 3) := by decide +kernel
theorem dX11_towards_82 : decode cX11_towards 82 = .ok (.iadd, 1) := by decide +kernel
theorem dX11_towards_83 : decode cX11_towards 83 = .ok (.ireturn, 1) := by decide +kernel
set_option maxRecDepth 20000 in
theorem ggX11_stepValve_X11_of : GoodIn wsX11_stepValve wsX11_of := goodIn_r _ [7, 8, 25, 26, 27, 28, 29, 30, 31, 32, 33, 34, 35, 36, 37, 38, 39, 40, 41, 42, 43, 44, 45] (by decide +kernel) (by decide +kernel)
set_option maxRecDepth 20000 in
theorem gX11_stepValve_X11_of : GoodIn wsX11_stepValve (wsV RX11 110 RX11 yX11_of wsX11_of) := goodIn_app (goodIn_of _ (by decide +kernel)) ggX11_stepValve_X11_of
set_option maxRecDepth 20000 in
theorem ggX11_stepValve_X11_beatAgo : GoodIn wsX11_stepValve wsX11_beatAgo := goodIn_r _ [12, 13, 25, 26, 27, 28, 29, 30, 31, 32, 33, 34, 35, 36, 37, 38, 39, 40, 41, 42, 43, 44, 45] (by decide +kernel) (by decide +kernel)
set_option maxRecDepth 20000 in
theorem gX11_stepValve_X11_beatAgo : GoodIn wsX11_stepValve (wsV RX11 159 RX11 yX11_beatAgo wsX11_beatAgo) := goodIn_app (goodIn_of _ (by decide +kernel)) ggX11_stepValve_X11_beatAgo
set_option maxRecDepth 20000 in
theorem ggX11_stepValve_X11_held : GoodIn wsX11_stepValve wsX11_held := goodIn_r _ [16] (by decide +kernel) (by decide +kernel)
set_option maxRecDepth 20000 in
theorem gX11_stepValve_X11_held : GoodIn wsX11_stepValve (va_wsS RX11 140 yX11_held wsX11_held) := goodIn_app (goodIn_of _ (by decide +kernel)) ggX11_stepValve_X11_held
set_option maxRecDepth 20000 in
theorem ggX11_stepValve_X11_towards : GoodIn wsX11_stepValve wsX11_towards := goodIn_r _ [20, 21, 3, 4, 5, 6, 7, 8, 22, 23, 24, 14, 15, 16, 25, 26, 27, 28, 29, 30, 31, 32, 33, 34, 35, 36, 37, 38, 39, 40, 41, 42, 43, 44, 45] (by decide +kernel) (by decide +kernel)
set_option maxRecDepth 20000 in
theorem gX11_stepValve_X11_towards : GoodIn wsX11_stepValve (wsV RX11 162 RX11 yX11_towards wsX11_towards) := goodIn_app (goodIn_of _ (by decide +kernel)) ggX11_stepValve_X11_towards
theorem dX11_stepValve_0 : decode cX11_stepValve 0 = .ok (.aload_n 0, 1) := by decide +kernel
theorem dX11_stepValve_1 : decode cX11_stepValve 1 = .ok (.iload_n 3, 1) := by decide +kernel
theorem dX11_stepValve_2 : decode cX11_stepValve 2 = .ok (.aload_n 0, 1) := by decide +kernel
theorem dX11_stepValve_3 : decode cX11_stepValve 3 = .ok (.iload_n 1, 1) := by decide +kernel
theorem dX11_stepValve_4 : decode cX11_stepValve 4 = .ok (.bipush 7, 2) := by decide +kernel
theorem dX11_stepValve_6 : decode cX11_stepValve 6 = .ok (.invokevirtual 110, 3) := by decide +kernel
theorem dX11_stepValve_9 : decode cX11_stepValve 9 = .ok (.invokevirtual 159, 3) := by decide +kernel
theorem dX11_stepValve_12 : decode cX11_stepValve 12 = .ok (.bipush 100, 2) := by decide +kernel
theorem dX11_stepValve_14 : decode cX11_stepValve 14 = .ok (.isub, 1) := by decide +kernel
theorem dX11_stepValve_15 : decode cX11_stepValve 15 = .ok (.istore 4, 2) := by decide +kernel
theorem dX11_stepValve_17 : decode cX11_stepValve 17 = .ok (.aload_n 0, 1) := by decide +kernel
theorem dX11_stepValve_18 : decode cX11_stepValve 18 = .ok (.iload_n 1, 1) := by decide +kernel
theorem dX11_stepValve_19 : decode cX11_stepValve 19 = .ok (.bipush 6, 2) := by decide +kernel
theorem dX11_stepValve_21 : decode cX11_stepValve 21 = .ok (.invokevirtual 110, 3) := by decide +kernel
theorem dX11_stepValve_24 : decode cX11_stepValve 24 = .ok (.aload_n 0, 1) := by decide +kernel
theorem dX11_stepValve_25 : decode cX11_stepValve 25 = .ok (.getfield 25, 3) := by decide +kernel
theorem dX11_stepValve_28 : decode cX11_stepValve 28 = .ok (.iload_n 2, 1) := by decide +kernel
theorem dX11_stepValve_29 : decode cX11_stepValve 29 = .ok (.iload_n 3, 1) := by decide +kernel
theorem dX11_stepValve_30 : decode cX11_stepValve 30 = .ok (.iadd, 1) := by decide +kernel
theorem dX11_stepValve_31 : decode cX11_stepValve 31 = .ok (.iaload, 1) := by decide +kernel
theorem dX11_stepValve_32 : decode cX11_stepValve 32 = .ok (.imul, 1) := by decide +kernel
theorem dX11_stepValve_33 : decode cX11_stepValve 33 = .ok (.bipush 10, 2) := by decide +kernel
theorem dX11_stepValve_35 : decode cX11_stepValve 35 = .ok (.idiv, 1) := by decide +kernel
theorem dX11_stepValve_36 : decode cX11_stepValve 36 = .ok (.istore 5, 2) := by decide +kernel
theorem dX11_stepValve_38 : decode cX11_stepValve 38 = .ok (.bipush 50, 2) := by decide +kernel
theorem dX11_stepValve_40 : decode cX11_stepValve 40 = .ok (.aload_n 0, 1) := by decide +kernel
theorem dX11_stepValve_41 : decode cX11_stepValve 41 = .ok (.iload_n 1, 1) := by decide +kernel
theorem dX11_stepValve_42 : decode cX11_stepValve 42 = .ok (.iconst 5, 1) := by decide +kernel
theorem dX11_stepValve_43 : decode cX11_stepValve 43 = .ok (.invokevirtual 110, 3) := by decide +kernel
theorem dX11_stepValve_46 : decode cX11_stepValve 46 = .ok (.iload 4, 2) := by decide +kernel
theorem dX11_stepValve_48 : decode cX11_stepValve 48 = .ok (.imul, 1) := by decide +kernel
theorem dX11_stepValve_49 : decode cX11_stepValve 49 = .ok (.iload 5, 2) := by decide +kernel
theorem dX11_stepValve_51 : decode cX11_stepValve 51 = .ok (.iadd, 1) := by decide +kernel
theorem dX11_stepValve_52 : decode cX11_stepValve 52 = .ok (.bipush 10, 2) := by decide +kernel
theorem dX11_stepValve_54 : decode cX11_stepValve 54 = .ok (.idiv, 1) := by decide +kernel
theorem dX11_stepValve_55 : decode cX11_stepValve 55 = .ok (.isub, 1) := by decide +kernel
theorem dX11_stepValve_56 : decode cX11_stepValve 56 = .ok (.iconst 0, 1) := by decide +kernel
theorem dX11_stepValve_57 : decode cX11_stepValve 57 = .ok (.bipush 100, 2) := by decide +kernel
theorem dX11_stepValve_59 : decode cX11_stepValve 59 = .ok (.invokestatic 140, 3) := by decide +kernel
theorem dX11_stepValve_62 : decode cX11_stepValve 62 = .ok (.istore 6, 2) := by decide +kernel
theorem dX11_stepValve_64 : decode cX11_stepValve 64 = .ok (.aload_n 0, 1) := by decide +kernel
theorem dX11_stepValve_65 : decode cX11_stepValve 65 = .ok (.getfield 25, 3) := by decide +kernel
theorem dX11_stepValve_68 : decode cX11_stepValve 68 = .ok (.iload_n 2, 1) := by decide +kernel
theorem dX11_stepValve_69 : decode cX11_stepValve 69 = .ok (.iload_n 3, 1) := by decide +kernel
theorem dX11_stepValve_70 : decode cX11_stepValve 70 = .ok (.iadd, 1) := by decide +kernel
theorem dX11_stepValve_71 : decode cX11_stepValve 71 = .ok (.iconst 1, 1) := by decide +kernel
theorem dX11_stepValve_72 : decode cX11_stepValve 72 = .ok (.iadd, 1) := by decide +kernel
theorem dX11_stepValve_73 : decode cX11_stepValve 73 = .ok (.aload_n 0, 1) := by decide +kernel
theorem dX11_stepValve_74 : decode cX11_stepValve 74 = .ok (.iload_n 1, 1) := by decide +kernel
theorem dX11_stepValve_75 : decode cX11_stepValve 75 = .ok (.bipush 6, 2) := by decide +kernel
theorem dX11_stepValve_77 : decode cX11_stepValve 77 = .ok (.invokevirtual 110, 3) := by decide +kernel
theorem dX11_stepValve_80 : decode cX11_stepValve 80 = .ok (.ifCond .le 26, 3) := by decide +kernel
theorem dX11_stepValve_83 : decode cX11_stepValve 83 = .ok (.aload_n 0, 1) := by decide +kernel
theorem dX11_stepValve_84 : decode cX11_stepValve 84 = .ok (.getfield 25, 3) := by decide +kernel
theorem dX11_stepValve_87 : decode cX11_stepValve 87 = .ok (.iload_n 2, 1) := by decide +kernel
theorem dX11_stepValve_88 : decode cX11_stepValve 88 = .ok (.iload_n 3, 1) := by decide +kernel
theorem dX11_stepValve_89 : decode cX11_stepValve 89 = .ok (.iadd, 1) := by decide +kernel
theorem dX11_stepValve_90 : decode cX11_stepValve 90 = .ok (.iaload, 1) := by decide +kernel
theorem dX11_stepValve_91 : decode cX11_stepValve 91 = .ok (.iload 4, 2) := by decide +kernel
theorem dX11_stepValve_93 : decode cX11_stepValve 93 = .ok (.iadd, 1) := by decide +kernel
theorem dX11_stepValve_94 : decode cX11_stepValve 94 = .ok (.sipush (-9999), 3) := by decide +kernel
theorem dX11_stepValve_97 : decode cX11_stepValve 97 = .ok (.sipush 9999, 3) := by decide +kernel
theorem dX11_stepValve_100 : decode cX11_stepValve 100 = .ok (.invokestatic 140, 3) := by decide +kernel
theorem dX11_stepValve_103 : decode cX11_stepValve 103 = .ok (.goto 11, 3) := by decide +kernel
theorem dX11_stepValve_106 : decode cX11_stepValve 106 = .ok (.aload_n 0, 1) := by decide +kernel
theorem dX11_stepValve_107 : decode cX11_stepValve 107 = .ok (.getfield 25, 3) := by decide +kernel
theorem dX11_stepValve_110 : decode cX11_stepValve 110 = .ok (.iload_n 2, 1) := by decide +kernel
theorem dX11_stepValve_111 : decode cX11_stepValve 111 = .ok (.iload_n 3, 1) := by decide +kernel
theorem dX11_stepValve_112 : decode cX11_stepValve 112 = .ok (.iadd, 1) := by decide +kernel
theorem dX11_stepValve_113 : decode cX11_stepValve 113 = .ok (.iaload, 1) := by decide +kernel
theorem dX11_stepValve_114 : decode cX11_stepValve 114 = .ok (.iastore, 1) := by decide +kernel
theorem dX11_stepValve_115 : decode cX11_stepValve 115 = .ok (.aload_n 0, 1) := by decide +kernel
theorem dX11_stepValve_116 : decode cX11_stepValve 116 = .ok (.getfield 22, 3) := by decide +kernel
theorem dX11_stepValve_119 : decode cX11_stepValve 119 = .ok (.iload_n 2, 1) := by decide +kernel
theorem dX11_stepValve_120 : decode cX11_stepValve 120 = .ok (.iload_n 3, 1) := by decide +kernel
theorem dX11_stepValve_121 : decode cX11_stepValve 121 = .ok (.iadd, 1) := by decide +kernel
theorem dX11_stepValve_122 : decode cX11_stepValve 122 = .ok (.iconst 1, 1) := by decide +kernel
theorem dX11_stepValve_123 : decode cX11_stepValve 123 = .ok (.iadd, 1) := by decide +kernel
theorem dX11_stepValve_124 : decode cX11_stepValve 124 = .ok (.aload_n 0, 1) := by decide +kernel
theorem dX11_stepValve_125 : decode cX11_stepValve 125 = .ok (.iload_n 1, 1) := by decide +kernel
theorem dX11_stepValve_126 : decode cX11_stepValve 126 = .ok (.aload_n 0, 1) := by decide +kernel
theorem dX11_stepValve_127 : decode cX11_stepValve 127 = .ok (.getfield 22, 3) := by decide +kernel
theorem dX11_stepValve_130 : decode cX11_stepValve 130 = .ok (.iload_n 2, 1) := by decide +kernel
theorem dX11_stepValve_131 : decode cX11_stepValve 131 = .ok (.iload_n 3, 1) := by decide +kernel
theorem dX11_stepValve_132 : decode cX11_stepValve 132 = .ok (.iadd, 1) := by decide +kernel
theorem dX11_stepValve_133 : decode cX11_stepValve 133 = .ok (.iaload, 1) := by decide +kernel
theorem dX11_stepValve_134 : decode cX11_stepValve 134 = .ok (.iload 6, 2) := by decide +kernel
theorem dX11_stepValve_136 : decode cX11_stepValve 136 = .ok (.invokevirtual 162, 3) := by decide +kernel
theorem dX11_stepValve_139 : decode cX11_stepValve 139 = .ok (.iastore, 1) := by decide +kernel
theorem dX11_stepValve_140 : decode cX11_stepValve 140 = .ok (.return_, 1) := by decide +kernel
set_option maxRecDepth 20000 in
theorem ggX11_stepOn_X11_stepValve : GoodIn wsX11_stepOn wsX11_stepValve := goodIn_r _ [11, 4, 2, 12, 13, 14, 10, 15, 16, 17, 18, 19, 20, 5, 21, 22, 23, 24, 25, 26, 27, 28, 29, 30, 31, 32, 33, 34, 35, 36, 37, 38, 39, 40, 41, 42, 43, 44, 45, 46, 47, 48, 49, 50, 51, 52] (by decide +kernel) (by decide +kernel)
set_option maxRecDepth 20000 in
theorem gX11_stepOn_X11_stepValve : GoodIn wsX11_stepOn (wsV RX11 165 RX11 yX11_stepValve wsX11_stepValve) := goodIn_app (goodIn_of _ (by decide +kernel)) ggX11_stepOn_X11_stepValve
set_option maxRecDepth 20000 in
theorem ggX11_stepOn_X11_of : GoodIn wsX11_stepOn wsX11_of := goodIn_r _ [15, 16, 32, 33, 34, 35, 36, 37, 38, 39, 40, 41, 42, 43, 44, 45, 46, 47, 48, 49, 50, 51, 52] (by decide +kernel) (by decide +kernel)
set_option maxRecDepth 20000 in
theorem gX11_stepOn_X11_of : GoodIn wsX11_stepOn (wsV RX11 110 RX11 yX11_of wsX11_of) := goodIn_app (goodIn_of _ (by decide +kernel)) ggX11_stepOn_X11_of
set_option maxRecDepth 20000 in
theorem ggX11_stepOn_X11_held : GoodIn wsX11_stepOn wsX11_held := goodIn_r _ [23] (by decide +kernel) (by decide +kernel)
set_option maxRecDepth 20000 in
theorem gX11_stepOn_X11_held : GoodIn wsX11_stepOn (va_wsS RX11 140 yX11_held wsX11_held) := goodIn_app (goodIn_of _ (by decide +kernel)) ggX11_stepOn_X11_held
theorem dX11_stepOn_0 : decode cX11_stepOn 0 = .ok (.aload_n 0, 1) := by decide +kernel
theorem dX11_stepOn_1 : decode cX11_stepOn 1 = .ok (.aload_n 0, 1) := by decide +kernel
theorem dX11_stepOn_2 : decode cX11_stepOn 2 = .ok (.getfield 144, 3) := by decide +kernel
theorem dX11_stepOn_5 : decode cX11_stepOn 5 = .ok (.iconst 0, 1) := by decide +kernel
theorem dX11_stepOn_6 : decode cX11_stepOn 6 = .ok (.iload_n 1, 1) := by decide +kernel
theorem dX11_stepOn_7 : decode cX11_stepOn 7 = .ok (.invokevirtual 165, 3) := by decide +kernel
theorem dX11_stepOn_10 : decode cX11_stepOn 10 = .ok (.aload_n 0, 1) := by decide +kernel
theorem dX11_stepOn_11 : decode cX11_stepOn 11 = .ok (.getfield 22, 3) := by decide +kernel
theorem dX11_stepOn_14 : decode cX11_stepOn 14 = .ok (.iload_n 1, 1) := by decide +kernel
theorem dX11_stepOn_15 : decode cX11_stepOn 15 = .ok (.iconst 1, 1) := by decide +kernel
theorem dX11_stepOn_16 : decode cX11_stepOn 16 = .ok (.iadd, 1) := by decide +kernel
theorem dX11_stepOn_17 : decode cX11_stepOn 17 = .ok (.iaload, 1) := by decide +kernel
theorem dX11_stepOn_18 : decode cX11_stepOn 18 = .ok (.istore_n 2, 1) := by decide +kernel
theorem dX11_stepOn_19 : decode cX11_stepOn 19 = .ok (.aload_n 0, 1) := by decide +kernel
theorem dX11_stepOn_20 : decode cX11_stepOn 20 = .ok (.aload_n 0, 1) := by decide +kernel
theorem dX11_stepOn_21 : decode cX11_stepOn 21 = .ok (.getfield 144, 3) := by decide +kernel
theorem dX11_stepOn_24 : decode cX11_stepOn 24 = .ok (.iconst 1, 1) := by decide +kernel
theorem dX11_stepOn_25 : decode cX11_stepOn 25 = .ok (.invokevirtual 110, 3) := by decide +kernel
theorem dX11_stepOn_28 : decode cX11_stepOn 28 = .ok (.istore_n 3, 1) := by decide +kernel
theorem dX11_stepOn_29 : decode cX11_stepOn 29 = .ok (.aload_n 0, 1) := by decide +kernel
theorem dX11_stepOn_30 : decode cX11_stepOn 30 = .ok (.aload_n 0, 1) := by decide +kernel
theorem dX11_stepOn_31 : decode cX11_stepOn 31 = .ok (.getfield 144, 3) := by decide +kernel
theorem dX11_stepOn_34 : decode cX11_stepOn 34 = .ok (.iconst 0, 1) := by decide +kernel
theorem dX11_stepOn_35 : decode cX11_stepOn 35 = .ok (.invokevirtual 110, 3) := by decide +kernel
theorem dX11_stepOn_38 : decode cX11_stepOn 38 = .ok (.istore 4, 2) := by decide +kernel
theorem dX11_stepOn_40 : decode cX11_stepOn 40 = .ok (.aload_n 0, 1) := by decide +kernel
theorem dX11_stepOn_41 : decode cX11_stepOn 41 = .ok (.getfield 147, 3) := by decide +kernel
theorem dX11_stepOn_44 : decode cX11_stepOn 44 = .ok (.ifCond .ge 32, 3) := by decide +kernel
theorem dX11_stepOn_47 : decode cX11_stepOn 47 = .ok (.aload_n 0, 1) := by decide +kernel
theorem dX11_stepOn_48 : decode cX11_stepOn 48 = .ok (.getfield 22, 3) := by decide +kernel
theorem dX11_stepOn_51 : decode cX11_stepOn 51 = .ok (.sipush 301, 3) := by decide +kernel
theorem dX11_stepOn_54 : decode cX11_stepOn 54 = .ok (.iload_n 1, 1) := by decide +kernel
theorem dX11_stepOn_55 : decode cX11_stepOn 55 = .ok (.iadd, 1) := by decide +kernel
theorem dX11_stepOn_56 : decode cX11_stepOn 56 = .ok (.iconst 1, 1) := by decide +kernel
theorem dX11_stepOn_57 : decode cX11_stepOn 57 = .ok (.iadd, 1) := by decide +kernel
theorem dX11_stepOn_58 : decode cX11_stepOn 58 = .ok (.iconst 0, 1) := by decide +kernel
theorem dX11_stepOn_59 : decode cX11_stepOn 59 = .ok (.iastore, 1) := by decide +kernel
theorem dX11_stepOn_60 : decode cX11_stepOn 60 = .ok (.aload_n 0, 1) := by decide +kernel
theorem dX11_stepOn_61 : decode cX11_stepOn 61 = .ok (.getfield 25, 3) := by decide +kernel
theorem dX11_stepOn_64 : decode cX11_stepOn 64 = .ok (.sipush 301, 3) := by decide +kernel
theorem dX11_stepOn_67 : decode cX11_stepOn 67 = .ok (.iload_n 1, 1) := by decide +kernel
theorem dX11_stepOn_68 : decode cX11_stepOn 68 = .ok (.iadd, 1) := by decide +kernel
theorem dX11_stepOn_69 : decode cX11_stepOn 69 = .ok (.iconst 1, 1) := by decide +kernel
theorem dX11_stepOn_70 : decode cX11_stepOn 70 = .ok (.iadd, 1) := by decide +kernel
theorem dX11_stepOn_71 : decode cX11_stepOn 71 = .ok (.iconst 0, 1) := by decide +kernel
theorem dX11_stepOn_72 : decode cX11_stepOn 72 = .ok (.iastore, 1) := by decide +kernel
theorem dX11_stepOn_73 : decode cX11_stepOn 73 = .ok (.goto 56, 3) := by decide +kernel
theorem dX11_stepOn_76 : decode cX11_stepOn 76 = .ok (.aload_n 0, 1) := by decide +kernel
theorem dX11_stepOn_77 : decode cX11_stepOn 77 = .ok (.aload_n 0, 1) := by decide +kernel
theorem dX11_stepOn_78 : decode cX11_stepOn 78 = .ok (.getfield 147, 3) := by decide +kernel
theorem dX11_stepOn_81 : decode cX11_stepOn 81 = .ok (.sipush 301, 3) := by decide +kernel
theorem dX11_stepOn_84 : decode cX11_stepOn 84 = .ok (.iload_n 1, 1) := by decide +kernel
theorem dX11_stepOn_85 : decode cX11_stepOn 85 = .ok (.invokevirtual 165, 3) := by decide +kernel
theorem dX11_stepOn_88 : decode cX11_stepOn 88 = .ok (.iload_n 2, 1) := by decide +kernel
theorem dX11_stepOn_89 : decode cX11_stepOn 89 = .ok (.aload_n 0, 1) := by decide +kernel
theorem dX11_stepOn_90 : decode cX11_stepOn 90 = .ok (.getfield 22, 3) := by decide +kernel
theorem dX11_stepOn_93 : decode cX11_stepOn 93 = .ok (.sipush 301, 3) := by decide +kernel
theorem dX11_stepOn_96 : decode cX11_stepOn 96 = .ok (.iload_n 1, 1) := by decide +kernel
theorem dX11_stepOn_97 : decode cX11_stepOn 97 = .ok (.iadd, 1) := by decide +kernel
theorem dX11_stepOn_98 : decode cX11_stepOn 98 = .ok (.iconst 1, 1) := by decide +kernel
theorem dX11_stepOn_99 : decode cX11_stepOn 99 = .ok (.iadd, 1) := by decide +kernel
theorem dX11_stepOn_100 : decode cX11_stepOn 100 = .ok (.iaload, 1) := by decide +kernel
theorem dX11_stepOn_101 : decode cX11_stepOn 101 = .ok (.iadd, 1) := by decide +kernel
theorem dX11_stepOn_102 : decode cX11_stepOn 102 = .ok (.istore_n 2, 1) := by decide +kernel
theorem dX11_stepOn_103 : decode cX11_stepOn 103 = .ok (.iload_n 3, 1) := by decide +kernel
theorem dX11_stepOn_104 : decode cX11_stepOn 104 = .ok (.aload_n 0, 1) := by decide +kernel
theorem dX11_stepOn_105 : decode cX11_stepOn 105 = .ok (.aload_n 0, 1) := by decide +kernel
theorem dX11_stepOn_106 : decode cX11_stepOn 106 = .ok (.getfield 147, 3) := by decide +kernel
theorem dX11_stepOn_109 : decode cX11_stepOn 109 = .ok (.iconst 1, 1) := by decide +kernel
theorem dX11_stepOn_110 : decode cX11_stepOn 110 = .ok (.invokevirtual 110, 3) := by decide +kernel
theorem dX11_stepOn_113 : decode cX11_stepOn 113 = .ok (.iadd, 1) := by decide +kernel
theorem dX11_stepOn_114 : decode cX11_stepOn 114 = .ok (.istore_n 3, 1) := by decide +kernel
theorem dX11_stepOn_115 : decode cX11_stepOn 115 = .ok (.iload 4, 2) := by decide +kernel
theorem dX11_stepOn_117 : decode cX11_stepOn 117 = .ok (.aload_n 0, 1) := by decide +kernel
theorem dX11_stepOn_118 : decode cX11_stepOn 118 = .ok (.aload_n 0, 1) := by decide +kernel
theorem dX11_stepOn_119 : decode cX11_stepOn 119 = .ok (.getfield 147, 3) := by decide +kernel
theorem dX11_stepOn_122 : decode cX11_stepOn 122 = .ok (.iconst 0, 1) := by decide +kernel
theorem dX11_stepOn_123 : decode cX11_stepOn 123 = .ok (.invokevirtual 110, 3) := by decide +kernel
theorem dX11_stepOn_126 : decode cX11_stepOn 126 = .ok (.iadd, 1) := by decide +kernel
theorem dX11_stepOn_127 : decode cX11_stepOn 127 = .ok (.istore 4, 2) := by decide +kernel
theorem dX11_stepOn_129 : decode cX11_stepOn 129 = .ok (.aload_n 0, 1) := by decide +kernel
theorem dX11_stepOn_130 : decode cX11_stepOn 130 = .ok (.getfield 19, 3) := by decide +kernel
theorem dX11_stepOn_133 : decode cX11_stepOn 133 = .ok (.iload_n 1, 1) := by decide +kernel
theorem dX11_stepOn_134 : decode cX11_stepOn 134 = .ok (.iconst 1, 1) := by decide +kernel
theorem dX11_stepOn_135 : decode cX11_stepOn 135 = .ok (.iadd, 1) := by decide +kernel
theorem dX11_stepOn_136 : decode cX11_stepOn 136 = .ok (.aload_n 0, 1) := by decide +kernel
theorem dX11_stepOn_137 : decode cX11_stepOn 137 = .ok (.getfield 19, 3) := by decide +kernel
theorem dX11_stepOn_140 : decode cX11_stepOn 140 = .ok (.iload_n 1, 1) := by decide +kernel
theorem dX11_stepOn_141 : decode cX11_stepOn 141 = .ok (.iaload, 1) := by decide +kernel
theorem dX11_stepOn_142 : decode cX11_stepOn 142 = .ok (.bipush 10, 2) := by decide +kernel
theorem dX11_stepOn_144 : decode cX11_stepOn 144 = .ok (.iload_n 2, 1) := by decide +kernel
theorem dX11_stepOn_145 : decode cX11_stepOn 145 = .ok (.imul, 1) := by decide +kernel
theorem dX11_stepOn_146 : decode cX11_stepOn 146 = .ok (.bipush 10, 2) := by decide +kernel
theorem dX11_stepOn_148 : decode cX11_stepOn 148 = .ok (.aload_n 0, 1) := by decide +kernel
theorem dX11_stepOn_149 : decode cX11_stepOn 149 = .ok (.getfield 150, 3) := by decide +kernel
theorem dX11_stepOn_152 : decode cX11_stepOn 152 = .ok (.imul, 1) := by decide +kernel
theorem dX11_stepOn_153 : decode cX11_stepOn 153 = .ok (.isub, 1) := by decide +kernel
theorem dX11_stepOn_154 : decode cX11_stepOn 154 = .ok (.iload_n 3, 1) := by decide +kernel
theorem dX11_stepOn_155 : decode cX11_stepOn 155 = .ok (.aload_n 0, 1) := by decide +kernel
theorem dX11_stepOn_156 : decode cX11_stepOn 156 = .ok (.getfield 19, 3) := by decide +kernel
theorem dX11_stepOn_159 : decode cX11_stepOn 159 = .ok (.iload_n 1, 1) := by decide +kernel
theorem dX11_stepOn_160 : decode cX11_stepOn 160 = .ok (.iaload, 1) := by decide +kernel
theorem dX11_stepOn_161 : decode cX11_stepOn 161 = .ok (.bipush 100, 2) := by decide +kernel
theorem dX11_stepOn_163 : decode cX11_stepOn 163 = .ok (.isub, 1) := by decide +kernel
theorem dX11_stepOn_164 : decode cX11_stepOn 164 = .ok (.imul, 1) := by decide +kernel
theorem dX11_stepOn_165 : decode cX11_stepOn 165 = .ok (.isub, 1) := by decide +kernel
theorem dX11_stepOn_166 : decode cX11_stepOn 166 = .ok (.iload 4, 2) := by decide +kernel
theorem dX11_stepOn_168 : decode cX11_stepOn 168 = .ok (.idiv, 1) := by decide +kernel
theorem dX11_stepOn_169 : decode cX11_stepOn 169 = .ok (.iadd, 1) := by decide +kernel
theorem dX11_stepOn_170 : decode cX11_stepOn 170 = .ok (.iconst 0, 1) := by decide +kernel
theorem dX11_stepOn_171 : decode cX11_stepOn 171 = .ok (.sipush 999, 3) := by decide +kernel
theorem dX11_stepOn_174 : decode cX11_stepOn 174 = .ok (.invokestatic 140, 3) := by decide +kernel
theorem dX11_stepOn_177 : decode cX11_stepOn 177 = .ok (.iastore, 1) := by decide +kernel
theorem dX11_stepOn_178 : decode cX11_stepOn 178 = .ok (.return_, 1) := by decide +kernel
set_option maxRecDepth 20000 in
theorem ggX11_isAs_X11_beatAgo : GoodIn wsX11_isAs wsX11_beatAgo := goodIn_r _ [9, 1, 10, 11, 12, 13, 14, 15, 16, 17, 18, 19, 20, 21, 22, 23, 24, 25, 26, 27, 28, 29, 30] (by decide +kernel) (by decide +kernel)
set_option maxRecDepth 20000 in
theorem gX11_isAs_X11_beatAgo : GoodIn wsX11_isAs (wsV RX11 159 RX11 yX11_beatAgo wsX11_beatAgo) := goodIn_app (goodIn_of _ (by decide +kernel)) ggX11_isAs_X11_beatAgo
