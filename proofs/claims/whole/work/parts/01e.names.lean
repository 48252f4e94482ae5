theorem dX11_isAs_0 : decode cX11_isAs 0 = .ok (.aload_n 0, 1) := by decide +kernel
theorem dX11_isAs_1 : decode cX11_isAs 1 = .ok (.getfield 19, 3) := by decide +kernel
theorem dX11_isAs_4 : decode cX11_isAs 4 = .ok (.iload_n 1, 1) := by decide +kernel
theorem dX11_isAs_5 : decode cX11_isAs 5 = .ok (.iaload, 1) := by decide +kernel
theorem dX11_isAs_6 : decode cX11_isAs 6 = .ok (.aload_n 0, 1) := by decide +kernel
theorem dX11_isAs_7 : decode cX11_isAs 7 = .ok (.getfield 19, 3) := by decide +kernel
theorem dX11_isAs_10 : decode cX11_isAs 10 = .ok (.iload_n 2, 1) := by decide +kernel
theorem dX11_isAs_11 : decode cX11_isAs 11 = .ok (.iaload, 1) := by decide +kernel
theorem dX11_isAs_12 : decode cX11_isAs 12 = .ok (.if_icmp .ne 45, 3) := by decide +kernel
theorem dX11_isAs_15 : decode cX11_isAs 15 = .ok (.aload_n 0, 1) := by decide +kernel
theorem dX11_isAs_16 : decode cX11_isAs 16 = .ok (.getfield 22, 3) := by decide +kernel
theorem dX11_isAs_19 : decode cX11_isAs 19 = .ok (.iload_n 1, 1) := by decide +kernel
theorem dX11_isAs_20 : decode cX11_isAs 20 = .ok (.iaload, 1) := by decide +kernel
theorem dX11_isAs_21 : decode cX11_isAs 21 = .ok (.aload_n 0, 1) := by decide +kernel
theorem dX11_isAs_22 : decode cX11_isAs 22 = .ok (.getfield 22, 3) := by decide +kernel
theorem dX11_isAs_25 : decode cX11_isAs 25 = .ok (.iload_n 2, 1) := by decide +kernel
theorem dX11_isAs_26 : decode cX11_isAs 26 = .ok (.iaload, 1) := by decide +kernel
theorem dX11_isAs_27 : decode cX11_isAs 27 = .ok (.if_icmp .ne 30, 3) := by decide +kernel
theorem dX11_isAs_30 : decode cX11_isAs 30 = .ok (.aload_n 0, 1) := by decide +kernel
theorem dX11_isAs_31 : decode cX11_isAs 31 = .ok (.getfield 22, 3) := by decide +kernel
theorem dX11_isAs_34 : decode cX11_isAs 34 = .ok (.sipush 301, 3) := by decide +kernel
theorem dX11_isAs_37 : decode cX11_isAs 37 = .ok (.iload_n 1, 1) := by decide +kernel
theorem dX11_isAs_38 : decode cX11_isAs 38 = .ok (.iadd, 1) := by decide +kernel
theorem dX11_isAs_39 : decode cX11_isAs 39 = .ok (.iaload, 1) := by decide +kernel
theorem dX11_isAs_40 : decode cX11_isAs 40 = .ok (.aload_n 0, 1) := by decide +kernel
theorem dX11_isAs_41 : decode cX11_isAs 41 = .ok (.getfield 22, 3) := by decide +kernel
theorem dX11_isAs_44 : decode cX11_isAs 44 = .ok (.sipush 301, 3) := by decide +kernel
theorem dX11_isAs_47 : decode cX11_isAs 47 = .ok (.iload_n 2, 1) := by decide +kernel
theorem dX11_isAs_48 : decode cX11_isAs 48 = .ok (.iadd, 1) := by decide +kernel
theorem dX11_isAs_49 : decode cX11_isAs 49 = .ok (.iaload, 1) := by decide +kernel
theorem dX11_isAs_50 : decode cX11_isAs 50 = .ok (.if_icmp .ne 7, 3) := by decide +kernel
theorem dX11_isAs_53 : decode cX11_isAs 53 = .ok (.iconst 1, 1) := by decide +kernel
theorem dX11_isAs_54 : decode cX11_isAs 54 = .ok (.goto 4, 3) := by decide +kernel
theorem dX11_isAs_57 : decode cX11_isAs 57 = .ok (.iconst 0, 1) := by decide +kernel
theorem dX11_isAs_58 : decode cX11_isAs 58 = .ok (.istore_n 3, 1) := by decide +kernel
theorem dX11_isAs_59 : decode cX11_isAs 59 = .ok (.iload_n 3, 1) := by decide +kernel
theorem dX11_isAs_60 : decode cX11_isAs 60 = .ok (.ifCond .eq 45, 3) := by decide +kernel
theorem dX11_isAs_63 : decode cX11_isAs 63 = .ok (.aload_n 0, 1) := by decide +kernel
theorem dX11_isAs_64 : decode cX11_isAs 64 = .ok (.getfield 25, 3) := by decide +kernel
theorem dX11_isAs_67 : decode cX11_isAs 67 = .ok (.iload_n 1, 1) := by decide +kernel
theorem dX11_isAs_68 : decode cX11_isAs 68 = .ok (.iaload, 1) := by decide +kernel
theorem dX11_isAs_69 : decode cX11_isAs 69 = .ok (.aload_n 0, 1) := by decide +kernel
theorem dX11_isAs_70 : decode cX11_isAs 70 = .ok (.getfield 25, 3) := by decide +kernel
theorem dX11_isAs_73 : decode cX11_isAs 73 = .ok (.iload_n 2, 1) := by decide +kernel
theorem dX11_isAs_74 : decode cX11_isAs 74 = .ok (.iaload, 1) := by decide +kernel
theorem dX11_isAs_75 : decode cX11_isAs 75 = .ok (.if_icmp .ne 30, 3) := by decide +kernel
theorem dX11_isAs_78 : decode cX11_isAs 78 = .ok (.aload_n 0, 1) := by decide +kernel
theorem dX11_isAs_79 : decode cX11_isAs 79 = .ok (.getfield 25, 3) := by decide +kernel
theorem dX11_isAs_82 : decode cX11_isAs 82 = .ok (.sipush 301, 3) := by decide +kernel
theorem dX11_isAs_85 : decode cX11_isAs 85 = .ok (.iload_n 1, 1) := by decide +kernel
theorem dX11_isAs_86 : decode cX11_isAs 86 = .ok (.iadd, 1) := by decide +kernel
theorem dX11_isAs_87 : decode cX11_isAs 87 = .ok (.iaload, 1) := by decide +kernel
theorem dX11_isAs_88 : decode cX11_isAs 88 = .ok (.aload_n 0, 1) := by decide +kernel
theorem dX11_isAs_89 : decode cX11_isAs 89 = .ok (.getfield 25, 3) := by decide +kernel
theorem dX11_isAs_92 : decode cX11_isAs 92 = .ok (.sipush 301, 3) := by decide +kernel
theorem dX11_isAs_95 : decode cX11_isAs 95 = .ok (.iload_n 2, 1) := by decide +kernel
theorem dX11_isAs_96 : decode cX11_isAs 96 = .ok (.iadd, 1) := by decide +kernel
theorem dX11_isAs_97 : decode cX11_isAs 97 = .ok (.iaload, 1) := by decide +kernel
theorem dX11_isAs_98 : decode cX11_isAs 98 = .ok (.if_icmp .ne 7, 3) := by decide +kernel
theorem dX11_isAs_101 : decode cX11_isAs 101 = .ok (.iconst 1, 1) := by decide +kernel
theorem dX11_isAs_102 : decode cX11_isAs 102 = .ok (.goto 4, 3) := by decide +kernel
theorem dX11_isAs_105 : decode cX11_isAs 105 = .ok (.iconst 0, 1) := by decide +kernel
theorem dX11_isAs_106 : decode cX11_isAs 106 = .ok (.istore_n 3, 1) := by decide +kernel
theorem dX11_isAs_107 : decode cX11_isAs 107 = .ok (.iconst 1, 1) := by decide +kernel
theorem dX11_isAs_108 : decode cX11_isAs 108 = .ok (.istore 4, 2) := by decide +kernel
theorem dX11_isAs_110 : decode cX11_isAs 110 = .ok (.iload 4, 2) := by decide +kernel
theorem dX11_isAs_112 : decode cX11_isAs 112 = .ok (.aload_n 0, 1) := by decide +kernel
theorem dX11_isAs_113 : decode cX11_isAs 113 = .ok (.getfield 153, 3) := by decide +kernel
theorem dX11_isAs_116 : decode cX11_isAs 116 = .ok (.if_icmp .gt 36, 3) := by decide +kernel
theorem dX11_isAs_119 : decode cX11_isAs 119 = .ok (.iload_n 3, 1) := by decide +kernel
theorem dX11_isAs_120 : decode cX11_isAs 120 = .ok (.ifCond .eq 32, 3) := by decide +kernel
theorem dX11_isAs_123 : decode cX11_isAs 123 = .ok (.aload_n 0, 1) := by decide +kernel
theorem dX11_isAs_124 : decode cX11_isAs 124 = .ok (.iload_n 1, 1) := by decide +kernel
theorem dX11_isAs_125 : decode cX11_isAs 125 = .ok (.iload 4, 2) := by decide +kernel
theorem dX11_isAs_127 : decode cX11_isAs 127 = .ok (.invokevirtual 159, 3) := by decide +kernel
theorem dX11_isAs_130 : decode cX11_isAs 130 = .ok (.aload_n 0, 1) := by decide +kernel
theorem dX11_isAs_131 : decode cX11_isAs 131 = .ok (.iload_n 2, 1) := by decide +kernel
theorem dX11_isAs_132 : decode cX11_isAs 132 = .ok (.iload 4, 2) := by decide +kernel
theorem dX11_isAs_134 : decode cX11_isAs 134 = .ok (.invokevirtual 159, 3) := by decide +kernel
theorem dX11_isAs_137 : decode cX11_isAs 137 = .ok (.if_icmp .ne 7, 3) := by decide +kernel
theorem dX11_isAs_140 : decode cX11_isAs 140 = .ok (.iconst 1, 1) := by decide +kernel
theorem dX11_isAs_141 : decode cX11_isAs 141 = .ok (.goto 4, 3) := by decide +kernel
theorem dX11_isAs_144 : decode cX11_isAs 144 = .ok (.iconst 0, 1) := by decide +kernel
theorem dX11_isAs_145 : decode cX11_isAs 145 = .ok (.istore_n 3, 1) := by decide +kernel
theorem dX11_isAs_146 : decode cX11_isAs 146 = .ok (.iinc 4 1, 3) := by decide +kernel
theorem dX11_isAs_149 : decode cX11_isAs 149 = .ok (.goto (-39), 3) := by decide +kernel
theorem dX11_isAs_152 : decode cX11_isAs 152 = .ok (.iload_n 3, 1) := by decide +kernel
theorem dX11_isAs_153 : decode cX11_isAs 153 = .ok (.ireturn, 1) := by decide +kernel
set_option maxRecDepth 20000 in
theorem ggX11_goRound_X11_stepOn : GoodIn wsX11_goRound wsX11_stepOn := goodIn_r _ [7, 8, 9, 10, 11, 12, 13, 14, 15, 16, 6, 17, 18, 19, 20, 21, 22, 23, 24, 25, 26, 27, 28, 29, 30, 31, 32, 33, 34, 35, 36, 37, 43, 44, 45, 46, 47, 48, 49, 50, 51, 52, 53, 54, 55, 56, 57, 58, 59, 60, 61, 62, 63] (by decide +kernel) (by decide +kernel)
set_option maxRecDepth 20000 in
theorem gX11_goRound_X11_stepOn : GoodIn wsX11_goRound (wsV RX11 175 RX11 yX11_stepOn wsX11_stepOn) := goodIn_app (goodIn_of _ (by decide +kernel)) ggX11_goRound_X11_stepOn
set_option maxRecDepth 20000 in
theorem ggX11_goRound_X11_isAs : GoodIn wsX11_goRound wsX11_isAs := goodIn_r _ [41, 12, 9, 11, 42, 23, 24, 25, 6, 26, 43, 44, 45, 46, 47, 48, 49, 50, 51, 52, 53, 54, 55, 56, 57, 58, 59, 60, 61, 62, 63] (by decide +kernel) (by decide +kernel)
set_option maxRecDepth 20000 in
theorem gX11_goRound_X11_isAs : GoodIn wsX11_goRound (wsV RX11 179 RX11 yX11_isAs wsX11_isAs) := goodIn_app (goodIn_of _ (by decide +kernel)) ggX11_goRound_X11_isAs
theorem dX11_goRound_0 : decode cX11_goRound 0 = .ok (.aload_n 0, 1) := by decide +kernel
theorem dX11_goRound_1 : decode cX11_goRound 1 = .ok (.bipush (-9), 2) := by decide +kernel
theorem dX11_goRound_3 : decode cX11_goRound 3 = .ok (.putfield 169, 3) := by decide +kernel
theorem dX11_goRound_6 : decode cX11_goRound 6 = .ok (.aload_n 0, 1) := by decide +kernel
theorem dX11_goRound_7 : decode cX11_goRound 7 = .ok (.iconst 0, 1) := by decide +kernel
theorem dX11_goRound_8 : decode cX11_goRound 8 = .ok (.putfield 172, 3) := by decide +kernel
theorem dX11_goRound_11 : decode cX11_goRound 11 = .ok (.aload_n 0, 1) := by decide +kernel
theorem dX11_goRound_12 : decode cX11_goRound 12 = .ok (.getfield 172, 3) := by decide +kernel
theorem dX11_goRound_15 : decode cX11_goRound 15 = .ok (.sipush 300, 3) := by decide +kernel
theorem dX11_goRound_18 : decode cX11_goRound 18 = .ok (.if_icmp .ge 81, 3) := by decide +kernel
theorem dX11_goRound_21 : decode cX11_goRound 21 = .ok (.aload_n 0, 1) := by decide +kernel
theorem dX11_goRound_22 : decode cX11_goRound 22 = .ok (.getfield 169, 3) := by decide +kernel
theorem dX11_goRound_25 : decode cX11_goRound 25 = .ok (.ifCond .ge 74, 3) := by decide +kernel
theorem dX11_goRound_28 : decode cX11_goRound 28 = .ok (.aload_n 0, 1) := by decide +kernel
theorem dX11_goRound_29 : decode cX11_goRound 29 = .ok (.aload_n 0, 1) := by decide +kernel
theorem dX11_goRound_30 : decode cX11_goRound 30 = .ok (.getfield 172, 3) := by decide +kernel
theorem dX11_goRound_33 : decode cX11_goRound 33 = .ok (.invokevirtual 175, 3) := by decide +kernel
theorem dX11_goRound_36 : decode cX11_goRound 36 = .ok (.aload_n 0, 1) := by decide +kernel
theorem dX11_goRound_37 : decode cX11_goRound 37 = .ok (.dup, 1) := by decide +kernel
theorem dX11_goRound_38 : decode cX11_goRound 38 = .ok (.getfield 172, 3) := by decide +kernel
theorem dX11_goRound_41 : decode cX11_goRound 41 = .ok (.iconst 1, 1) := by decide +kernel
theorem dX11_goRound_42 : decode cX11_goRound 42 = .ok (.iadd, 1) := by decide +kernel
theorem dX11_goRound_43 : decode cX11_goRound 43 = .ok (.putfield 172, 3) := by decide +kernel
theorem dX11_goRound_46 : decode cX11_goRound 46 = .ok (.iconst 0, 1) := by decide +kernel
theorem dX11_goRound_47 : decode cX11_goRound 47 = .ok (.istore_n 1, 1) := by decide +kernel
theorem dX11_goRound_48 : decode cX11_goRound 48 = .ok (.iload_n 1, 1) := by decide +kernel
theorem dX11_goRound_49 : decode cX11_goRound 49 = .ok (.aload_n 0, 1) := by decide +kernel
theorem dX11_goRound_50 : decode cX11_goRound 50 = .ok (.getfield 172, 3) := by decide +kernel
theorem dX11_goRound_53 : decode cX11_goRound 53 = .ok (.if_icmp .ge 43, 3) := by decide +kernel
theorem dX11_goRound_56 : decode cX11_goRound 56 = .ok (.aload_n 0, 1) := by decide +kernel
theorem dX11_goRound_57 : decode cX11_goRound 57 = .ok (.getfield 169, 3) := by decide +kernel
theorem dX11_goRound_60 : decode cX11_goRound 60 = .ok (.ifCond .ge 36, 3) := by decide +kernel
theorem dX11_goRound_63 : decode cX11_goRound 63 = .ok (.aload_n 0, 1) := by decide +kernel
theorem dX11_goRound_64 : decode cX11_goRound 64 = .ok (.aload_n 0, 1) := by decide +kernel
theorem dX11_goRound_65 : decode cX11_goRound 65 = .ok (.aload_n 0, 1) := by decide +kernel
theorem dX11_goRound_66 : decode cX11_goRound 66 = .ok (.getfield 172, 3) := by decide +kernel
theorem dX11_goRound_69 : decode cX11_goRound 69 = .ok (.iload_n 1, 1) := by decide +kernel
theorem dX11_goRound_70 : decode cX11_goRound 70 = .ok (.invokevirtual 179, 3) := by decide +kernel
theorem dX11_goRound_73 : decode cX11_goRound 73 = .ok (.ifCond .eq 12, 3) := by decide +kernel
theorem dX11_goRound_76 : decode cX11_goRound 76 = .ok (.aload_n 0, 1) := by decide +kernel
theorem dX11_goRound_77 : decode cX11_goRound 77 = .ok (.getfield 172, 3) := by decide +kernel
theorem dX11_goRound_80 : decode cX11_goRound 80 = .ok (.iload_n 1, 1) := by decide +kernel
theorem dX11_goRound_81 : decode cX11_goRound 81 = .ok (.isub, 1) := by decide +kernel
theorem dX11_goRound_82 : decode cX11_goRound 82 = .ok (.goto 5, 3) := by decide +kernel
theorem dX11_goRound_85 : decode cX11_goRound 85 = .ok (.bipush (-9), 2) := by decide +kernel
theorem dX11_goRound_87 : decode cX11_goRound 87 = .ok (.putfield 169, 3) := by decide +kernel
theorem dX11_goRound_90 : decode cX11_goRound 90 = .ok (.iinc 1 1, 3) := by decide +kernel
theorem dX11_goRound_93 : decode cX11_goRound 93 = .ok (.goto (-45), 3) := by decide +kernel
theorem dX11_goRound_96 : decode cX11_goRound 96 = .ok (.goto (-85), 3) := by decide +kernel
theorem dX11_goRound_99 : decode cX11_goRound 99 = .ok (.return_, 1) := by decide +kernel
theorem dX11_extreme_0 : decode cX11_extreme 0 = .ok (.aload_n 0, 1) := by decide +kernel
theorem dX11_extreme_1 : decode cX11_extreme 1 = .ok (.getfield 19, 3) := by decide +kernel
theorem dX11_extreme_4 : decode cX11_extreme 4 = .ok (.iconst 0, 1) := by decide +kernel
theorem dX11_extreme_5 : decode cX11_extreme 5 = .ok (.iaload, 1) := by decide +kernel
theorem dX11_extreme_6 : decode cX11_extreme 6 = .ok (.istore_n 2, 1) := by decide +kernel
theorem dX11_extreme_7 : decode cX11_extreme 7 = .ok (.iconst 1, 1) := by decide +kernel
theorem dX11_extreme_8 : decode cX11_extreme 8 = .ok (.istore_n 3, 1) := by decide +kernel
theorem dX11_extreme_9 : decode cX11_extreme 9 = .ok (.iload_n 3, 1) := by decide +kernel
theorem dX11_extreme_10 : decode cX11_extreme 10 = .ok (.aload_n 0, 1) := by decide +kernel
theorem dX11_extreme_11 : decode cX11_extreme 11 = .ok (.getfield 172, 3) := by decide +kernel
theorem dX11_extreme_14 : decode cX11_extreme 14 = .ok (.if_icmp .gt 62, 3) := by decide +kernel
theorem dX11_extreme_17 : decode cX11_extreme 17 = .ok (.aload_n 0, 1) := by decide +kernel
theorem dX11_extreme_18 : decode cX11_extreme 18 = .ok (.getfield 19, 3) := by decide +kernel
theorem dX11_extreme_21 : decode cX11_extreme 21 = .ok (.iload_n 3, 1) := by decide +kernel
theorem dX11_extreme_22 : decode cX11_extreme 22 = .ok (.iaload, 1) := by decide +kernel
theorem dX11_extreme_23 : decode cX11_extreme 23 = .ok (.iload_n 2, 1) := by decide +kernel
theorem dX11_extreme_24 : decode cX11_extreme 24 = .ok (.if_icmp .ge 7, 3) := by decide +kernel
theorem dX11_extreme_27 : decode cX11_extreme 27 = .ok (.iconst 1, 1) := by decide +kernel
theorem dX11_extreme_28 : decode cX11_extreme 28 = .ok (.goto 4, 3) := by decide +kernel
theorem dX11_extreme_31 : decode cX11_extreme 31 = .ok (.iconst 0, 1) := by decide +kernel
theorem dX11_extreme_32 : decode cX11_extreme 32 = .ok (.istore 4, 2) := by decide +kernel
theorem dX11_extreme_34 : decode cX11_extreme 34 = .ok (.aload_n 0, 1) := by decide +kernel
theorem dX11_extreme_35 : decode cX11_extreme 35 = .ok (.getfield 19, 3) := by decide +kernel
theorem dX11_extreme_38 : decode cX11_extreme 38 = .ok (.iload_n 3, 1) := by decide +kernel
theorem dX11_extreme_39 : decode cX11_extreme 39 = .ok (.iaload, 1) := by decide +kernel
theorem dX11_extreme_40 : decode cX11_extreme 40 = .ok (.iload_n 2, 1) := by decide +kernel
theorem dX11_extreme_41 : decode cX11_extreme 41 = .ok (.if_icmp .eq 27, 3) := by decide +kernel
theorem dX11_extreme_44 : decode cX11_extreme 44 = .ok (.iload 4, 2) := by decide +kernel
theorem dX11_extreme_46 : decode cX11_extreme 46 = .ok (.iload_n 1, 1) := by decide +kernel
theorem dX11_extreme_47 : decode cX11_extreme 47 = .ok (.iconst 3, 1) := by decide +kernel
theorem dX11_extreme_48 : decode cX11_extreme 48 = .ok (.if_icmp .ne 7, 3) := by decide +kernel
theorem dX11_extreme_51 : decode cX11_extreme 51 = .ok (.iconst 1, 1) := by decide +kernel
theorem dX11_extreme_52 : decode cX11_extreme 52 = .ok (.goto 4, 3) := by decide +kernel
theorem dX11_extreme_55 : decode cX11_extreme 55 = .ok (.iconst 0, 1) := by decide +kernel
theorem dX11_extreme_56 : decode cX11_extreme 56 = .ok (.if_icmp .ne 12, 3) := by decide +kernel
theorem dX11_extreme_59 : decode cX11_extreme 59 = .ok (.aload_n 0, 1) := by decide +kernel
theorem dX11_extreme_60 : decode cX11_extreme 60 = .ok (.getfield 19, 3) := by decide +kernel
theorem dX11_extreme_63 : decode cX11_extreme 63 = .ok (.iload_n 3, 1) := by decide +kernel
theorem dX11_extreme_64 : decode cX11_extreme 64 = .ok (.iaload, 1) := by decide +kernel
theorem dX11_extreme_65 : decode cX11_extreme 65 = .ok (.goto 4, 3) := by decide +kernel
theorem dX11_extreme_68 : decode cX11_extreme 68 = .ok (.iload_n 2, 1) := by decide +kernel
theorem dX11_extreme_69 : decode cX11_extreme 69 = .ok (.istore_n 2, 1) := by decide +kernel
theorem dX11_extreme_70 : decode cX11_extreme 70 = .ok (.iinc 3 1, 3) := by decide +kernel
theorem dX11_extreme_73 : decode cX11_extreme 73 = .ok (.goto (-64), 3) := by decide +kernel
theorem dX11_extreme_76 : decode cX11_extreme 76 = .ok (.iload_n 2, 1) := by decide +kernel
theorem dX11_extreme_77 : decode cX11_extreme 77 = .ok (.ireturn, 1) := by decide +kernel
set_option maxRecDepth 20000 in
theorem ggX11_toldOf_X11_extreme : GoodIn wsX11_toldOf wsX11_extreme := goodIn_r _ [7, 8, 2, 9, 10, 11, 12, 13, 14, 15, 16, 17, 18, 19, 20, 21, 22, 23, 24, 25, 26, 27, 28, 29] (by decide +kernel) (by decide +kernel)
set_option maxRecDepth 20000 in
theorem gX11_toldOf_X11_extreme : GoodIn wsX11_toldOf (wsV RX11 182 RX11 yX11_extreme wsX11_extreme) := goodIn_app (goodIn_of _ (by decide +kernel)) ggX11_toldOf_X11_extreme
theorem dX11_toldOf_0 : decode cX11_toldOf 0 = .ok (.iload_n 1, 1) := by decide +kernel
theorem dX11_toldOf_1 : decode cX11_toldOf 1 = .ok (.tableswitch 74 0 2 #[27, 52, 69], 27) := by decide +kernel
theorem dX11_toldOf_28 : decode cX11_toldOf 28 = .ok (.aload_n 0, 1) := by decide +kernel
theorem dX11_toldOf_29 : decode cX11_toldOf 29 = .ok (.getfield 169, 3) := by decide +kernel
theorem dX11_toldOf_32 : decode cX11_toldOf 32 = .ok (.ifCond .ge 7, 3) := by decide +kernel
theorem dX11_toldOf_35 : decode cX11_toldOf 35 = .ok (.iconst 2, 1) := by decide +kernel
theorem dX11_toldOf_36 : decode cX11_toldOf 36 = .ok (.goto 16, 3) := by decide +kernel
theorem dX11_toldOf_39 : decode cX11_toldOf 39 = .ok (.aload_n 0, 1) := by decide +kernel
theorem dX11_toldOf_40 : decode cX11_toldOf 40 = .ok (.getfield 169, 3) := by decide +kernel
theorem dX11_toldOf_43 : decode cX11_toldOf 43 = .ok (.iconst 1, 1) := by decide +kernel
theorem dX11_toldOf_44 : decode cX11_toldOf 44 = .ok (.if_icmp .ne 7, 3) := by decide +kernel
theorem dX11_toldOf_47 : decode cX11_toldOf 47 = .ok (.iconst 0, 1) := by decide +kernel
theorem dX11_toldOf_48 : decode cX11_toldOf 48 = .ok (.goto 4, 3) := by decide +kernel
theorem dX11_toldOf_51 : decode cX11_toldOf 51 = .ok (.iconst 1, 1) := by decide +kernel
theorem dX11_toldOf_52 : decode cX11_toldOf 52 = .ok (.ireturn, 1) := by decide +kernel
theorem dX11_toldOf_53 : decode cX11_toldOf 53 = .ok (.aload_n 0, 1) := by decide +kernel
theorem dX11_toldOf_54 : decode cX11_toldOf 54 = .ok (.getfield 169, 3) := by decide +kernel
theorem dX11_toldOf_57 : decode cX11_toldOf 57 = .ok (.ifCond .ge 8, 3) := by decide +kernel
theorem dX11_toldOf_60 : decode cX11_toldOf 60 = .ok (.bipush (-9), 2) := by decide +kernel
theorem dX11_toldOf_62 : decode cX11_toldOf 62 = .ok (.goto 7, 3) := by decide +kernel
theorem dX11_toldOf_65 : decode cX11_toldOf 65 = .ok (.aload_n 0, 1) := by decide +kernel
theorem dX11_toldOf_66 : decode cX11_toldOf 66 = .ok (.getfield 172, 3) := by decide +kernel
theorem dX11_toldOf_69 : decode cX11_toldOf 69 = .ok (.ireturn, 1) := by decide +kernel
theorem dX11_toldOf_70 : decode cX11_toldOf 70 = .ok (.aload_n 0, 1) := by decide +kernel
theorem dX11_toldOf_71 : decode cX11_toldOf 71 = .ok (.getfield 169, 3) := by decide +kernel
theorem dX11_toldOf_74 : decode cX11_toldOf 74 = .ok (.ireturn, 1) := by decide +kernel
theorem dX11_toldOf_75 : decode cX11_toldOf 75 = .ok (.aload_n 0, 1) := by decide +kernel
theorem dX11_toldOf_76 : decode cX11_toldOf 76 = .ok (.iload_n 1, 1) := by decide +kernel
theorem dX11_toldOf_77 : decode cX11_toldOf 77 = .ok (.invokevirtual 182, 3) := by decide +kernel
theorem dX11_toldOf_80 : decode cX11_toldOf 80 = .ok (.ireturn, 1) := by decide +kernel
set_option maxRecDepth 20000 in
theorem ggX11_isStart_X11_in : GoodIn wsX11_isStart wsX11_in := goodIn_r _ [6] (by decide +kernel) (by decide +kernel)
set_option maxRecDepth 20000 in
theorem gX11_isStart_X11_in : GoodIn wsX11_isStart (va_wsS RX11 67 yX11_in wsX11_in) := goodIn_app (goodIn_of _ (by decide +kernel)) ggX11_isStart_X11_in
theorem dX11_isStart_0 : decode cX11_isStart 0 = .ok (.iload_n 0, 1) := by decide +kernel
theorem dX11_isStart_1 : decode cX11_isStart 1 = .ok (.i2l, 1) := by decide +kernel
theorem dX11_isStart_2 : decode cX11_isStart 2 = .ok (.lconst 0, 1) := by decide +kernel
theorem dX11_isStart_3 : decode cX11_isStart 3 = .ok (.ldc2_w 185, 3) := by decide +kernel
theorem dX11_isStart_6 : decode cX11_isStart 6 = .ok (.invokestatic 67, 3) := by decide +kernel
theorem dX11_isStart_9 : decode cX11_isStart 9 = .ok (.ifCond .eq 31, 3) := by decide +kernel
theorem dX11_isStart_12 : decode cX11_isStart 12 = .ok (.iload_n 1, 1) := by decide +kernel
theorem dX11_isStart_13 : decode cX11_isStart 13 = .ok (.i2l, 1) := by decide +kernel
theorem dX11_isStart_14 : decode cX11_isStart 14 = .ok (.lconst 0, 1) := by decide +kernel
theorem dX11_isStart_15 : decode cX11_isStart 15 = .ok (.ldc2_w 187, 3) := by decide +kernel
theorem dX11_isStart_18 : decode cX11_isStart 18 = .ok (.invokestatic 67, 3) := by decide +kernel
theorem dX11_isStart_21 : decode cX11_isStart 21 = .ok (.ifCond .eq 19, 3) := by decide +kernel
theorem dX11_isStart_24 : decode cX11_isStart 24 = .ok (.iload_n 2, 1) := by decide +kernel
theorem dX11_isStart_25 : decode cX11_isStart 25 = .ok (.i2l, 1) := by decide +kernel
theorem dX11_isStart_26 : decode cX11_isStart 26 = .ok (.lconst 0, 1) := by decide +kernel
theorem dX11_isStart_27 : decode cX11_isStart 27 = .ok (.ldc2_w 187, 3) := by decide +kernel
theorem dX11_isStart_30 : decode cX11_isStart 30 = .ok (.invokestatic 67, 3) := by decide +kernel
theorem dX11_isStart_33 : decode cX11_isStart 33 = .ok (.ifCond .eq 7, 3) := by decide +kernel
theorem dX11_isStart_36 : decode cX11_isStart 36 = .ok (.iconst 1, 1) := by decide +kernel
theorem dX11_isStart_37 : decode cX11_isStart 37 = .ok (.goto 4, 3) := by decide +kernel
theorem dX11_isStart_40 : decode cX11_isStart 40 = .ok (.iconst 0, 1) := by decide +kernel
theorem dX11_isStart_41 : decode cX11_isStart 41 = .ok (.ireturn, 1) := by decide +kernel
set_option maxRecDepth 20000 in
theorem ggX11_far_X11_noMill : GoodIn wsX11_far wsX11_noMill := goodIn_r _ [6, 7, 8, 9, 5, 10, 73, 74, 75, 76, 77, 78, 79, 80, 81, 82, 83, 84, 85, 86, 87, 88, 89, 90, 91, 92, 93] (by decide +kernel) (by decide +kernel)
set_option maxRecDepth 20000 in
theorem gX11_far_X11_noMill : GoodIn wsX11_far (wsV RX11 105 RX11 yX11_noMill wsX11_noMill) := goodIn_app (goodIn_of _ (by decide +kernel)) ggX11_far_X11_noMill
set_option maxRecDepth 20000 in
theorem ggX11_far_X11_isStart : GoodIn wsX11_far wsX11_isStart := goodIn_r _ [13, 14, 15, 8, 9, 5, 10] (by decide +kernel) (by decide +kernel)
set_option maxRecDepth 20000 in
theorem gX11_far_X11_isStart : GoodIn wsX11_far (va_wsS RX11 189 yX11_isStart wsX11_isStart) := goodIn_app (goodIn_of _ (by decide +kernel)) ggX11_far_X11_isStart
set_option maxRecDepth 20000 in
theorem ggX11_far_X11_in : GoodIn wsX11_far wsX11_in := goodIn_r _ [10] (by decide +kernel) (by decide +kernel)
set_option maxRecDepth 20000 in
theorem gX11_far_X11_in : GoodIn wsX11_far (va_wsS RX11 67 yX11_in wsX11_in) := goodIn_app (goodIn_of _ (by decide +kernel)) ggX11_far_X11_in
set_option maxRecDepth 20000 in
theorem ggX11_far_X11_begin : GoodIn wsX11_far wsX11_begin := goodIn_r _ [19, 20, 21, 22, 23, 24, 25, 26, 27, 28, 29, 5, 30, 31, 73, 74, 75, 76, 77, 78, 79, 80, 81, 82, 83, 84, 85, 86, 87, 88, 89, 90, 91, 92, 93] (by decide +kernel) (by decide +kernel)
set_option maxRecDepth 20000 in
theorem gX11_far_X11_begin : GoodIn wsX11_far (wsV RX11 193 RX11 yX11_begin wsX11_begin) := goodIn_app (goodIn_of _ (by decide +kernel)) ggX11_far_X11_begin
set_option maxRecDepth 20000 in
theorem ggX11_far_X11_goRound : GoodIn wsX11_far wsX11_goRound := goodIn_r _ [35, 36, 37, 38, 39, 40, 5, 41, 20, 25, 21, 26, 24, 22, 42, 43, 44, 45, 27, 28, 29, 30, 31, 46, 47, 48, 49, 50, 51, 52, 53, 54, 55, 56, 57, 58, 59, 60, 61, 62, 63, 64, 23, 73, 74, 75, 76, 77, 78, 79, 80, 81, 82, 83, 84, 85, 86, 87, 88, 89, 90, 91, 92, 93] (by decide +kernel) (by decide +kernel)
set_option maxRecDepth 20000 in
theorem gX11_far_X11_goRound : GoodIn wsX11_far (wsV RX11 197 RX11 yX11_goRound wsX11_goRound) := goodIn_app (goodIn_of _ (by decide +kernel)) ggX11_far_X11_goRound
set_option maxRecDepth 20000 in
theorem ggX11_far_X11_toldOf : GoodIn wsX11_far wsX11_toldOf := goodIn_r _ [68, 36, 37, 69, 70, 71, 5, 72, 24, 73, 74, 75, 76, 77, 78, 79, 80, 81, 82, 83, 84, 85, 86, 87, 88, 89, 90, 91, 92, 93] (by decide +kernel) (by decide +kernel)
set_option maxRecDepth 20000 in
theorem gX11_far_X11_toldOf : GoodIn wsX11_far (wsV RX11 200 RX11 yX11_toldOf wsX11_toldOf) := goodIn_app (goodIn_of _ (by decide +kernel)) ggX11_far_X11_toldOf
theorem dX11_far_0 : decode cX11_far 0 = .ok (.aload_n 0, 1) := by decide +kernel
theorem dX11_far_1 : decode cX11_far 1 = .ok (.iload_n 1, 1) := by decide +kernel
theorem dX11_far_2 : decode cX11_far 2 = .ok (.invokevirtual 105, 3) := by decide +kernel
theorem dX11_far_5 : decode cX11_far 5 = .ok (.ifCond .eq 5, 3) := by decide +kernel
theorem dX11_far_8 : decode cX11_far 8 = .ok (.iconst (-1), 1) := by decide +kernel
theorem dX11_far_9 : decode cX11_far 9 = .ok (.ireturn, 1) := by decide +kernel
theorem dX11_far_10 : decode cX11_far 10 = .ok (.iload_n 2, 1) := by decide +kernel
theorem dX11_far_11 : decode cX11_far 11 = .ok (.iload_n 3, 1) := by decide +kernel
theorem dX11_far_12 : decode cX11_far 12 = .ok (.iload 4, 2) := by decide +kernel
theorem dX11_far_14 : decode cX11_far 14 = .ok (.invokestatic 189, 3) := by decide +kernel
theorem dX11_far_17 : decode cX11_far 17 = .ok (.ifCond .eq 16, 3) := by decide +kernel
theorem dX11_far_20 : decode cX11_far 20 = .ok (.iload 5, 2) := by decide +kernel
theorem dX11_far_22 : decode cX11_far 22 = .ok (.i2l, 1) := by decide +kernel
theorem dX11_far_23 : decode cX11_far 23 = .ok (.lconst 0, 1) := by decide +kernel
theorem dX11_far_24 : decode cX11_far 24 = .ok (.ldc2_w 123, 3) := by decide +kernel
theorem dX11_far_27 : decode cX11_far 27 = .ok (.invokestatic 67, 3) := by decide +kernel
theorem dX11_far_30 : decode cX11_far 30 = .ok (.ifCond .ne 6, 3) := by decide +kernel
theorem dX11_far_33 : decode cX11_far 33 = .ok (.bipush (-2), 2) := by decide +kernel
theorem dX11_far_35 : decode cX11_far 35 = .ok (.ireturn, 1) := by decide +kernel
theorem dX11_far_36 : decode cX11_far 36 = .ok (.aload_n 0, 1) := by decide +kernel
theorem dX11_far_37 : decode cX11_far 37 = .ok (.iload_n 1, 1) := by decide +kernel
theorem dX11_far_38 : decode cX11_far 38 = .ok (.bipush (-9), 2) := by decide +kernel
theorem dX11_far_40 : decode cX11_far 40 = .ok (.iload_n 2, 1) := by decide +kernel
theorem dX11_far_41 : decode cX11_far 41 = .ok (.iload_n 3, 1) := by decide +kernel
theorem dX11_far_42 : decode cX11_far 42 = .ok (.iload 4, 2) := by decide +kernel
theorem dX11_far_44 : decode cX11_far 44 = .ok (.invokevirtual 193, 3) := by decide +kernel
theorem dX11_far_47 : decode cX11_far 47 = .ok (.aload_n 0, 1) := by decide +kernel
theorem dX11_far_48 : decode cX11_far 48 = .ok (.invokevirtual 197, 3) := by decide +kernel
theorem dX11_far_51 : decode cX11_far 51 = .ok (.aload_n 0, 1) := by decide +kernel
theorem dX11_far_52 : decode cX11_far 52 = .ok (.iload 5, 2) := by decide +kernel
theorem dX11_far_54 : decode cX11_far 54 = .ok (.invokevirtual 200, 3) := by decide +kernel
theorem dX11_far_57 : decode cX11_far 57 = .ok (.ireturn, 1) := by decide +kernel
set_option maxRecDepth 20000 in
theorem ggX11_after_X11_noMill : GoodIn wsX11_after wsX11_noMill := goodIn_r _ [10, 11, 12, 13, 9, 14, 56, 57, 58, 59, 60, 61, 62, 63, 64, 65, 66, 67, 68, 69, 70, 71, 72, 73, 74, 75, 76] (by decide +kernel) (by decide +kernel)
set_option maxRecDepth 20000 in
theorem gX11_after_X11_noMill : GoodIn wsX11_after (wsV RX11 105 RX11 yX11_noMill wsX11_noMill) := goodIn_app (goodIn_of _ (by decide +kernel)) ggX11_after_X11_noMill
set_option maxRecDepth 20000 in
theorem ggX11_after_X11_isStart : GoodIn wsX11_after wsX11_isStart := goodIn_r _ [17, 18, 19, 12, 13, 9, 14] (by decide +kernel) (by decide +kernel)
set_option maxRecDepth 20000 in
theorem gX11_after_X11_isStart : GoodIn wsX11_after (va_wsS RX11 189 yX11_isStart wsX11_isStart) := goodIn_app (goodIn_of _ (by decide +kernel)) ggX11_after_X11_isStart
set_option maxRecDepth 20000 in
theorem ggX11_after_X11_in : GoodIn wsX11_after wsX11_in := goodIn_r _ [14] (by decide +kernel) (by decide +kernel)
set_option maxRecDepth 20000 in
theorem gX11_after_X11_in : GoodIn wsX11_after (va_wsS RX11 67 yX11_in wsX11_in) := goodIn_app (goodIn_of _ (by decide +kernel)) ggX11_after_X11_in
set_option maxRecDepth 20000 in
theorem ggX11_after_X11_begin : GoodIn wsX11_after wsX11_begin := goodIn_r _ [23, 24, 25, 26, 27, 3, 4, 5, 28, 29, 30, 9, 31, 32, 56, 57, 58, 59, 60, 61, 62, 63, 64, 65, 66, 67, 68, 69, 70, 71, 72, 73, 74, 75, 76] (by decide +kernel) (by decide +kernel)
set_option maxRecDepth 20000 in
theorem gX11_after_X11_begin : GoodIn wsX11_after (wsV RX11 193 RX11 yX11_begin wsX11_begin) := goodIn_app (goodIn_of _ (by decide +kernel)) ggX11_after_X11_begin
set_option maxRecDepth 20000 in
theorem ggX11_after_X11_stepOn : GoodIn wsX11_after wsX11_stepOn := goodIn_r _ [36, 24, 4, 25, 5, 3, 26, 37, 38, 39, 9, 40, 28, 29, 30, 31, 32, 41, 42, 43, 44, 45, 46, 47, 48, 49, 50, 51, 52, 53, 54, 55, 56, 57, 58, 59, 60, 61, 62, 63, 64, 65, 66, 67, 68, 69, 70, 71, 72, 73, 74, 75, 76] (by decide +kernel) (by decide +kernel)
set_option maxRecDepth 20000 in
theorem gX11_after_X11_stepOn : GoodIn wsX11_after (wsV RX11 175 RX11 yX11_stepOn wsX11_stepOn) := goodIn_app (goodIn_of _ (by decide +kernel)) ggX11_after_X11_stepOn
theorem dX11_after_0 : decode cX11_after 0 = .ok (.aload_n 0, 1) := by decide +kernel
theorem dX11_after_1 : decode cX11_after 1 = .ok (.iload_n 1, 1) := by decide +kernel
theorem dX11_after_2 : decode cX11_after 2 = .ok (.invokevirtual 105, 3) := by decide +kernel
theorem dX11_after_5 : decode cX11_after 5 = .ok (.ifCond .eq 5, 3) := by decide +kernel
theorem dX11_after_8 : decode cX11_after 8 = .ok (.iconst (-1), 1) := by decide +kernel
theorem dX11_after_9 : decode cX11_after 9 = .ok (.ireturn, 1) := by decide +kernel
theorem dX11_after_10 : decode cX11_after 10 = .ok (.iload_n 2, 1) := by decide +kernel
theorem dX11_after_11 : decode cX11_after 11 = .ok (.iload_n 3, 1) := by decide +kernel
theorem dX11_after_12 : decode cX11_after 12 = .ok (.iload 4, 2) := by decide +kernel
theorem dX11_after_14 : decode cX11_after 14 = .ok (.invokestatic 189, 3) := by decide +kernel
theorem dX11_after_17 : decode cX11_after 17 = .ok (.ifCond .eq 29, 3) := by decide +kernel
theorem dX11_after_20 : decode cX11_after 20 = .ok (.iload 5, 2) := by decide +kernel
theorem dX11_after_22 : decode cX11_after 22 = .ok (.i2l, 1) := by decide +kernel
theorem dX11_after_23 : decode cX11_after 23 = .ok (.lconst 0, 1) := by decide +kernel
theorem dX11_after_24 : decode cX11_after 24 = .ok (.ldc2_w 203, 3) := by decide +kernel
theorem dX11_after_27 : decode cX11_after 27 = .ok (.invokestatic 67, 3) := by decide +kernel
theorem dX11_after_30 : decode cX11_after 30 = .ok (.ifCond .eq 16, 3) := by decide +kernel
theorem dX11_after_33 : decode cX11_after 33 = .ok (.iload 6, 2) := by decide +kernel
theorem dX11_after_35 : decode cX11_after 35 = .ok (.i2l, 1) := by decide +kernel
theorem dX11_after_36 : decode cX11_after 36 = .ok (.lconst 0, 1) := by decide +kernel
theorem dX11_after_37 : decode cX11_after 37 = .ok (.ldc2_w 92, 3) := by decide +kernel
theorem dX11_after_40 : decode cX11_after 40 = .ok (.invokestatic 67, 3) := by decide +kernel
theorem dX11_after_43 : decode cX11_after 43 = .ok (.ifCond .ne 6, 3) := by decide +kernel
theorem dX11_after_46 : decode cX11_after 46 = .ok (.bipush (-2), 2) := by decide +kernel
theorem dX11_after_48 : decode cX11_after 48 = .ok (.ireturn, 1) := by decide +kernel
theorem dX11_after_49 : decode cX11_after 49 = .ok (.aload_n 0, 1) := by decide +kernel
theorem dX11_after_50 : decode cX11_after 50 = .ok (.iload_n 1, 1) := by decide +kernel
theorem dX11_after_51 : decode cX11_after 51 = .ok (.bipush (-9), 2) := by decide +kernel
theorem dX11_after_53 : decode cX11_after 53 = .ok (.iload_n 2, 1) := by decide +kernel
theorem dX11_after_54 : decode cX11_after 54 = .ok (.iload_n 3, 1) := by decide +kernel
theorem dX11_after_55 : decode cX11_after 55 = .ok (.iload 4, 2) := by decide +kernel
theorem dX11_after_57 : decode cX11_after 57 = .ok (.invokevirtual 193, 3) := by decide +kernel
theorem dX11_after_60 : decode cX11_after 60 = .ok (.iconst 0, 1) := by decide +kernel
theorem dX11_after_61 : decode cX11_after 61 = .ok (.istore 7, 2) := by decide +kernel
theorem dX11_after_63 : decode cX11_after 63 = .ok (.iload 7, 2) := by decide +kernel
theorem dX11_after_65 : decode cX11_after 65 = .ok (.iload 5, 2) := by decide +kernel
theorem dX11_after_67 : decode cX11_after 67 = .ok (.if_icmp .ge 15, 3) := by decide +kernel
theorem dX11_after_70 : decode cX11_after 70 = .ok (.aload_n 0, 1) := by decide +kernel
theorem dX11_after_71 : decode cX11_after 71 = .ok (.iload 7, 2) := by decide +kernel
theorem dX11_after_73 : decode cX11_after 73 = .ok (.invokevirtual 175, 3) := by decide +kernel
theorem dX11_after_76 : decode cX11_after 76 = .ok (.iinc 7 1, 3) := by decide +kernel
theorem dX11_after_79 : decode cX11_after 79 = .ok (.goto (-16), 3) := by decide +kernel
theorem dX11_after_82 : decode cX11_after 82 = .ok (.iload 6, 2) := by decide +kernel
theorem dX11_after_84 : decode cX11_after 84 = .ok (.ifCond .ne 13, 3) := by decide +kernel
theorem dX11_after_87 : decode cX11_after 87 = .ok (.aload_n 0, 1) := by decide +kernel
theorem dX11_after_88 : decode cX11_after 88 = .ok (.getfield 19, 3) := by decide +kernel
theorem dX11_after_91 : decode cX11_after 91 = .ok (.iload 5, 2) := by decide +kernel
theorem dX11_after_93 : decode cX11_after 93 = .ok (.iaload, 1) := by decide +kernel
theorem dX11_after_94 : decode cX11_after 94 = .ok (.goto 26, 3) := by decide +kernel
theorem dX11_after_97 : decode cX11_after 97 = .ok (.iload 6, 2) := by decide +kernel
theorem dX11_after_99 : decode cX11_after 99 = .ok (.iconst 1, 1) := by decide +kernel
theorem dX11_after_100 : decode cX11_after 100 = .ok (.if_icmp .ne 13, 3) := by decide +kernel
theorem dX11_after_103 : decode cX11_after 103 = .ok (.aload_n 0, 1) := by decide +kernel
theorem dX11_after_104 : decode cX11_after 104 = .ok (.getfield 22, 3) := by decide +kernel
theorem dX11_after_107 : decode cX11_after 107 = .ok (.iload 5, 2) := by decide +kernel
theorem dX11_after_109 : decode cX11_after 109 = .ok (.iaload, 1) := by decide +kernel
theorem dX11_after_110 : decode cX11_after 110 = .ok (.goto 10, 3) := by decide +kernel
theorem dX11_after_113 : decode cX11_after 113 = .ok (.aload_n 0, 1) := by decide +kernel
theorem dX11_after_114 : decode cX11_after 114 = .ok (.getfield 25, 3) := by decide +kernel
theorem dX11_after_117 : decode cX11_after 117 = .ok (.iload 5, 2) := by decide +kernel
theorem dX11_after_119 : decode cX11_after 119 = .ok (.iaload, 1) := by decide +kernel
theorem dX11_after_120 : decode cX11_after 120 = .ok (.ireturn, 1) := by decide +kernel
set_option maxRecDepth 20000 in
theorem ggX11_reach_X11_noMill : GoodIn wsX11_reach wsX11_noMill := goodIn_r _ [6, 7, 8, 9, 5, 10, 59, 60, 61, 62, 63, 64, 65, 66, 67, 68, 69, 70, 71, 72, 73, 74, 75, 76, 77, 78, 79] (by decide +kernel) (by decide +kernel)
set_option maxRecDepth 20000 in
theorem gX11_reach_X11_noMill : GoodIn wsX11_reach (wsV RX11 105 RX11 yX11_noMill wsX11_noMill) := goodIn_app (goodIn_of _ (by decide +kernel)) ggX11_reach_X11_noMill
set_option maxRecDepth 20000 in
theorem ggX11_reach_X11_begin : GoodIn wsX11_reach wsX11_begin := goodIn_r _ [14, 15, 16, 17, 18, 19, 20, 21, 22, 23, 24, 5, 25, 26, 59, 60, 61, 62, 63, 64, 65, 66, 67, 68, 69, 70, 71, 72, 73, 74, 75, 76, 77, 78, 79] (by decide +kernel) (by decide +kernel)
set_option maxRecDepth 20000 in
theorem gX11_reach_X11_begin : GoodIn wsX11_reach (wsV RX11 193 RX11 yX11_begin wsX11_begin) := goodIn_app (goodIn_of _ (by decide +kernel)) ggX11_reach_X11_begin
set_option maxRecDepth 20000 in
theorem ggX11_reach_X11_goRound : GoodIn wsX11_reach wsX11_goRound := goodIn_r _ [30, 1, 31, 32, 33, 34, 5, 35, 15, 20, 16, 21, 19, 17, 36, 37, 38, 39, 22, 23, 24, 25, 26, 40, 41, 42, 43, 44, 45, 46, 47, 48, 49, 50, 51, 52, 53, 54, 55, 56, 57, 58, 18, 59, 60, 61, 62, 63, 64, 65, 66, 67, 68, 69, 70, 71, 72, 73, 74, 75, 76, 77, 78, 79] (by decide +kernel) (by decide +kernel)
set_option maxRecDepth 20000 in
theorem gX11_reach_X11_goRound : GoodIn wsX11_reach (wsV RX11 197 RX11 yX11_goRound wsX11_goRound) := goodIn_app (goodIn_of _ (by decide +kernel)) ggX11_reach_X11_goRound
theorem dX11_reach_0 : decode cX11_reach 0 = .ok (.aload_n 0, 1) := by decide +kernel
theorem dX11_reach_1 : decode cX11_reach 1 = .ok (.iload_n 1, 1) := by decide +kernel
theorem dX11_reach_2 : decode cX11_reach 2 = .ok (.invokevirtual 105, 3) := by decide +kernel
theorem dX11_reach_5 : decode cX11_reach 5 = .ok (.ifCond .eq 5, 3) := by decide +kernel
theorem dX11_reach_8 : decode cX11_reach 8 = .ok (.iconst (-1), 1) := by decide +kernel
theorem dX11_reach_9 : decode cX11_reach 9 = .ok (.ireturn, 1) := by decide +kernel
theorem dX11_reach_10 : decode cX11_reach 10 = .ok (.iconst 0, 1) := by decide +kernel
theorem dX11_reach_11 : decode cX11_reach 11 = .ok (.istore_n 2, 1) := by decide +kernel
theorem dX11_reach_12 : decode cX11_reach 12 = .ok (.iload_n 2, 1) := by decide +kernel
theorem dX11_reach_13 : decode cX11_reach 13 = .ok (.bipush 100, 2) := by decide +kernel
theorem dX11_reach_15 : decode cX11_reach 15 = .ok (.if_icmp .ge 49, 3) := by decide +kernel
theorem dX11_reach_18 : decode cX11_reach 18 = .ok (.aload_n 0, 1) := by decide +kernel
theorem dX11_reach_19 : decode cX11_reach 19 = .ok (.iload_n 1, 1) := by decide +kernel
theorem dX11_reach_20 : decode cX11_reach 20 = .ok (.bipush (-9), 2) := by decide +kernel
theorem dX11_reach_22 : decode cX11_reach 22 = .ok (.bipush 100, 2) := by decide +kernel
theorem dX11_reach_24 : decode cX11_reach 24 = .ok (.iload_n 2, 1) := by decide +kernel
theorem dX11_reach_25 : decode cX11_reach 25 = .ok (.iadd, 1) := by decide +kernel
theorem dX11_reach_26 : decode cX11_reach 26 = .ok (.bipush 50, 2) := by decide +kernel
theorem dX11_reach_28 : decode cX11_reach 28 = .ok (.bipush 50, 2) := by decide +kernel
theorem dX11_reach_30 : decode cX11_reach 30 = .ok (.invokevirtual 193, 3) := by decide +kernel
theorem dX11_reach_33 : decode cX11_reach 33 = .ok (.aload_n 0, 1) := by decide +kernel
theorem dX11_reach_34 : decode cX11_reach 34 = .ok (.invokevirtual 197, 3) := by decide +kernel
theorem dX11_reach_37 : decode cX11_reach 37 = .ok (.aload_n 0, 1) := by decide +kernel
theorem dX11_reach_38 : decode cX11_reach 38 = .ok (.getfield 169, 3) := by decide +kernel
theorem dX11_reach_41 : decode cX11_reach 41 = .ok (.iconst 1, 1) := by decide +kernel
theorem dX11_reach_42 : decode cX11_reach 42 = .ok (.if_icmp .eq 16, 3) := by decide +kernel
theorem dX11_reach_45 : decode cX11_reach 45 = .ok (.iload_n 2, 1) := by decide +kernel
theorem dX11_reach_46 : decode cX11_reach 46 = .ok (.ifCond .ne 8, 3) := by decide +kernel
theorem dX11_reach_49 : decode cX11_reach 49 = .ok (.bipush (-9), 2) := by decide +kernel
theorem dX11_reach_51 : decode cX11_reach 51 = .ok (.goto 6, 3) := by decide +kernel
theorem dX11_reach_54 : decode cX11_reach 54 = .ok (.iload_n 2, 1) := by decide +kernel
theorem dX11_reach_55 : decode cX11_reach 55 = .ok (.iconst 1, 1) := by decide +kernel
theorem dX11_reach_56 : decode cX11_reach 56 = .ok (.isub, 1) := by decide +kernel
theorem dX11_reach_57 : decode cX11_reach 57 = .ok (.ireturn, 1) := by decide +kernel
theorem dX11_reach_58 : decode cX11_reach 58 = .ok (.iinc 2 1, 3) := by decide +kernel
theorem dX11_reach_61 : decode cX11_reach 61 = .ok (.goto (-49), 3) := by decide +kernel
theorem dX11_reach_64 : decode cX11_reach 64 = .ok (.bipush 99, 2) := by decide +kernel
theorem dX11_reach_66 : decode cX11_reach 66 = .ok (.ireturn, 1) := by decide +kernel
set_option maxRecDepth 20000 in
theorem ggX11_two_X11_noMill : GoodIn wsX11_two wsX11_noMill := goodIn_r _ [10, 11, 12, 13, 9, 14, 70, 71, 72, 73, 74, 75, 76, 77, 78, 79, 80, 81, 82, 83, 84, 85, 86, 87, 88, 89, 90] (by decide +kernel) (by decide +kernel)
set_option maxRecDepth 20000 in
theorem gX11_two_X11_noMill : GoodIn wsX11_two (wsV RX11 105 RX11 yX11_noMill wsX11_noMill) := goodIn_app (goodIn_of _ (by decide +kernel)) ggX11_two_X11_noMill
set_option maxRecDepth 20000 in
theorem ggX11_two_X11_in : GoodIn wsX11_two wsX11_in := goodIn_r _ [14] (by decide +kernel) (by decide +kernel)
set_option maxRecDepth 20000 in
theorem gX11_two_X11_in : GoodIn wsX11_two (va_wsS RX11 67 yX11_in wsX11_in) := goodIn_app (goodIn_of _ (by decide +kernel)) ggX11_two_X11_in
set_option maxRecDepth 20000 in
theorem ggX11_two_X11_begin : GoodIn wsX11_two wsX11_begin := goodIn_r _ [18, 19, 20, 21, 22, 23, 4, 24, 25, 26, 27, 9, 28, 29, 70, 71, 72, 73, 74, 75, 76, 77, 78, 79, 80, 81, 82, 83, 84, 85, 86, 87, 88, 89, 90] (by decide +kernel) (by decide +kernel)
set_option maxRecDepth 20000 in
theorem gX11_two_X11_begin : GoodIn wsX11_two (wsV RX11 193 RX11 yX11_begin wsX11_begin) := goodIn_app (goodIn_of _ (by decide +kernel)) ggX11_two_X11_begin
set_option maxRecDepth 20000 in
theorem ggX11_two_X11_goRound : GoodIn wsX11_two wsX11_goRound := goodIn_r _ [33, 34, 5, 35, 36, 37, 9, 38, 19, 4, 20, 24, 23, 21, 39, 40, 41, 42, 25, 26, 27, 28, 29, 43, 44, 45, 46, 47, 48, 49, 50, 51, 52, 53, 54, 55, 56, 57, 58, 59, 60, 61, 22, 70, 71, 72, 73, 74, 75, 76, 77, 78, 79, 80, 81, 82, 83, 84, 85, 86, 87, 88, 89, 90] (by decide +kernel) (by decide +kernel)
set_option maxRecDepth 20000 in
theorem gX11_two_X11_goRound : GoodIn wsX11_two (wsV RX11 197 RX11 yX11_goRound wsX11_goRound) := goodIn_app (goodIn_of _ (by decide +kernel)) ggX11_two_X11_goRound
set_option maxRecDepth 20000 in
theorem ggX11_two_X11_toldOf : GoodIn wsX11_two wsX11_toldOf := goodIn_r _ [65, 34, 5, 66, 67, 68, 9, 69, 23, 70, 71, 72, 73, 74, 75, 76, 77, 78, 79, 80, 81, 82, 83, 84, 85, 86, 87, 88, 89, 90] (by decide +kernel) (by decide +kernel)
set_option maxRecDepth 20000 in
theorem gX11_two_X11_toldOf : GoodIn wsX11_two (wsV RX11 200 RX11 yX11_toldOf wsX11_toldOf) := goodIn_app (goodIn_of _ (by decide +kernel)) ggX11_two_X11_toldOf
theorem dX11_two_0 : decode cX11_two 0 = .ok (.aload_n 0, 1) := by decide +kernel
theorem dX11_two_1 : decode cX11_two 1 = .ok (.iload_n 1, 1) := by decide +kernel
theorem dX11_two_2 : decode cX11_two 2 = .ok (.invokevirtual 105, 3) := by decide +kernel
theorem dX11_two_5 : decode cX11_two 5 = .ok (.ifCond .ne 11, 3) := by decide +kernel
theorem dX11_two_8 : decode cX11_two 8 = .ok (.aload_n 0, 1) := by decide +kernel
theorem dX11_two_9 : decode cX11_two 9 = .ok (.iload_n 2, 1) := by decide +kernel
theorem dX11_two_10 : decode cX11_two 10 = .ok (.invokevirtual 105, 3) := by decide +kernel
theorem dX11_two_13 : decode cX11_two 13 = .ok (.ifCond .eq 5, 3) := by decide +kernel
theorem dX11_two_16 : decode cX11_two 16 = .ok (.iconst (-1), 1) := by decide +kernel
theorem dX11_two_17 : decode cX11_two 17 = .ok (.ireturn, 1) := by decide +kernel
theorem dX11_two_18 : decode cX11_two 18 = .ok (.iload_n 3, 1) := by decide +kernel
theorem dX11_two_19 : decode cX11_two 19 = .ok (.i2l, 1) := by decide +kernel
theorem dX11_two_20 : decode cX11_two 20 = .ok (.lconst 0, 1) := by decide +kernel
theorem dX11_two_21 : decode cX11_two 21 = .ok (.ldc2_w 185, 3) := by decide +kernel
theorem dX11_two_24 : decode cX11_two 24 = .ok (.invokestatic 67, 3) := by decide +kernel
theorem dX11_two_27 : decode cX11_two 27 = .ok (.ifCond .eq 34, 3) := by decide +kernel
theorem dX11_two_30 : decode cX11_two 30 = .ok (.iload 4, 2) := by decide +kernel
theorem dX11_two_32 : decode cX11_two 32 = .ok (.i2l, 1) := by decide +kernel
theorem dX11_two_33 : decode cX11_two 33 = .ok (.lconst 0, 1) := by decide +kernel
theorem dX11_two_34 : decode cX11_two 34 = .ok (.ldc2_w 205, 3) := by decide +kernel
theorem dX11_two_37 : decode cX11_two 37 = .ok (.invokestatic 67, 3) := by decide +kernel
theorem dX11_two_40 : decode cX11_two 40 = .ok (.ifCond .eq 21, 3) := by decide +kernel
theorem dX11_two_43 : decode cX11_two 43 = .ok (.iload 5, 2) := by decide +kernel
theorem dX11_two_45 : decode cX11_two 45 = .ok (.i2l, 1) := by decide +kernel
theorem dX11_two_46 : decode cX11_two 46 = .ok (.lconst 0, 1) := by decide +kernel
theorem dX11_two_47 : decode cX11_two 47 = .ok (.ldc2_w 128, 3) := by decide +kernel
theorem dX11_two_50 : decode cX11_two 50 = .ok (.invokestatic 67, 3) := by decide +kernel
theorem dX11_two_53 : decode cX11_two 53 = .ok (.ifCond .eq 8, 3) := by decide +kernel
theorem dX11_two_56 : decode cX11_two 56 = .ok (.iload_n 1, 1) := by decide +kernel
theorem dX11_two_57 : decode cX11_two 57 = .ok (.iload_n 2, 1) := by decide +kernel
theorem dX11_two_58 : decode cX11_two 58 = .ok (.if_icmp .ne 6, 3) := by decide +kernel
theorem dX11_two_61 : decode cX11_two 61 = .ok (.bipush (-2), 2) := by decide +kernel
theorem dX11_two_63 : decode cX11_two 63 = .ok (.ireturn, 1) := by decide +kernel
theorem dX11_two_64 : decode cX11_two 64 = .ok (.aload_n 0, 1) := by decide +kernel
theorem dX11_two_65 : decode cX11_two 65 = .ok (.iload_n 1, 1) := by decide +kernel
theorem dX11_two_66 : decode cX11_two 66 = .ok (.iload_n 2, 1) := by decide +kernel
theorem dX11_two_67 : decode cX11_two 67 = .ok (.iload_n 3, 1) := by decide +kernel
theorem dX11_two_68 : decode cX11_two 68 = .ok (.bipush 50, 2) := by decide +kernel
theorem dX11_two_70 : decode cX11_two 70 = .ok (.iload 4, 2) := by decide +kernel
theorem dX11_two_72 : decode cX11_two 72 = .ok (.invokevirtual 193, 3) := by decide +kernel
theorem dX11_two_75 : decode cX11_two 75 = .ok (.aload_n 0, 1) := by decide +kernel
theorem dX11_two_76 : decode cX11_two 76 = .ok (.invokevirtual 197, 3) := by decide +kernel
theorem dX11_two_79 : decode cX11_two 79 = .ok (.iload 5, 2) := by decide +kernel
theorem dX11_two_81 : decode cX11_two 81 = .ok (.iconst 5, 1) := by decide +kernel
theorem dX11_two_82 : decode cX11_two 82 = .ok (.if_icmp .ne 15, 3) := by decide +kernel
theorem dX11_two_85 : decode cX11_two 85 = .ok (.aload_n 0, 1) := by decide +kernel
theorem dX11_two_86 : decode cX11_two 86 = .ok (.getfield 22, 3) := by decide +kernel
theorem dX11_two_89 : decode cX11_two 89 = .ok (.aload_n 0, 1) := by decide +kernel
theorem dX11_two_90 : decode cX11_two 90 = .ok (.getfield 172, 3) := by decide +kernel
theorem dX11_two_93 : decode cX11_two 93 = .ok (.iaload, 1) := by decide +kernel
theorem dX11_two_94 : decode cX11_two 94 = .ok (.goto 32, 3) := by decide +kernel
theorem dX11_two_97 : decode cX11_two 97 = .ok (.iload 5, 2) := by decide +kernel
theorem dX11_two_99 : decode cX11_two 99 = .ok (.bipush 6, 2) := by decide +kernel
theorem dX11_two_101 : decode cX11_two 101 = .ok (.if_icmp .ne 19, 3) := by decide +kernel
theorem dX11_two_104 : decode cX11_two 104 = .ok (.aload_n 0, 1) := by decide +kernel
theorem dX11_two_105 : decode cX11_two 105 = .ok (.getfield 22, 3) := by decide +kernel
theorem dX11_two_108 : decode cX11_two 108 = .ok (.sipush 301, 3) := by decide +kernel
theorem dX11_two_111 : decode cX11_two 111 = .ok (.aload_n 0, 1) := by decide +kernel
theorem dX11_two_112 : decode cX11_two 112 = .ok (.getfield 172, 3) := by decide +kernel
theorem dX11_two_115 : decode cX11_two 115 = .ok (.iadd, 1) := by decide +kernel
theorem dX11_two_116 : decode cX11_two 116 = .ok (.iaload, 1) := by decide +kernel
theorem dX11_two_117 : decode cX11_two 117 = .ok (.goto 9, 3) := by decide +kernel
theorem dX11_two_120 : decode cX11_two 120 = .ok (.aload_n 0, 1) := by decide +kernel
theorem dX11_two_121 : decode cX11_two 121 = .ok (.iload 5, 2) := by decide +kernel
theorem dX11_two_123 : decode cX11_two 123 = .ok (.invokevirtual 200, 3) := by decide +kernel
theorem dX11_two_126 : decode cX11_two 126 = .ok (.ireturn, 1) := by decide +kernel
set_option maxRecDepth 20000 in
theorem ggX11_share_X11_noMill : GoodIn wsX11_share wsX11_noMill := goodIn_r _ [5, 6, 7, 8, 4, 9, 22, 23, 24, 25, 26, 27, 28, 29, 30, 31, 32, 33, 34, 35, 36, 37, 38, 39, 40, 41, 42] (by decide +kernel) (by decide +kernel)
set_option maxRecDepth 20000 in
theorem gX11_share_X11_noMill : GoodIn wsX11_share (wsV RX11 105 RX11 yX11_noMill wsX11_noMill) := goodIn_app (goodIn_of _ (by decide +kernel)) ggX11_share_X11_noMill
set_option maxRecDepth 20000 in
theorem ggX11_share_X11_in : GoodIn wsX11_share wsX11_in := goodIn_r _ [9] (by decide +kernel) (by decide +kernel)
set_option maxRecDepth 20000 in
theorem gX11_share_X11_in : GoodIn wsX11_share (va_wsS RX11 67 yX11_in wsX11_in) := goodIn_app (goodIn_of _ (by decide +kernel)) ggX11_share_X11_in
set_option maxRecDepth 20000 in
theorem ggX11_share_X11_lost : GoodIn wsX11_share wsX11_lost := goodIn_r _ [12, 13] (by decide +kernel) (by decide +kernel)
set_option maxRecDepth 20000 in
theorem gX11_share_X11_lost : GoodIn wsX11_share (va_wsS RX11 49 yX11_lost wsX11_lost) := goodIn_app (goodIn_of _ (by decide +kernel)) ggX11_share_X11_lost
set_option maxRecDepth 20000 in
theorem ggX11_share_X11_of : GoodIn wsX11_share wsX11_of := goodIn_r _ [17, 18, 22, 23, 24, 25, 26, 27, 28, 29, 30, 31, 32, 33, 34, 35, 36, 37, 38, 39, 40, 41, 42] (by decide +kernel) (by decide +kernel)
set_option maxRecDepth 20000 in
theorem gX11_share_X11_of : GoodIn wsX11_share (wsV RX11 110 RX11 yX11_of wsX11_of) := goodIn_app (goodIn_of _ (by decide +kernel)) ggX11_share_X11_of
set_option maxRecDepth 20000 in
theorem ggX11_share_X11_reduced : GoodIn wsX11_share wsX11_reduced := goodIn_r _ [21] (by decide +kernel) (by decide +kernel)
set_option maxRecDepth 20000 in
theorem gX11_share_X11_reduced : GoodIn wsX11_share (va_wsS RX11 134 yX11_reduced wsX11_reduced) := goodIn_app (goodIn_of _ (by decide +kernel)) ggX11_share_X11_reduced
theorem dX11_share_0 : decode cX11_share 0 = .ok (.aload_n 0, 1) := by decide +kernel
theorem dX11_share_1 : decode cX11_share 1 = .ok (.iload_n 1, 1) := by decide +kernel
theorem dX11_share_2 : decode cX11_share 2 = .ok (.invokevirtual 105, 3) := by decide +kernel
theorem dX11_share_5 : decode cX11_share 5 = .ok (.ifCond .ne 26, 3) := by decide +kernel
theorem dX11_share_8 : decode cX11_share 8 = .ok (.aload_n 0, 1) := by decide +kernel
theorem dX11_share_9 : decode cX11_share 9 = .ok (.iload_n 2, 1) := by decide +kernel
theorem dX11_share_10 : decode cX11_share 10 = .ok (.invokevirtual 105, 3) := by decide +kernel
theorem dX11_share_13 : decode cX11_share 13 = .ok (.ifCond .ne 18, 3) := by decide +kernel
theorem dX11_share_16 : decode cX11_share 16 = .ok (.iload_n 3, 1) := by decide +kernel
theorem dX11_share_17 : decode cX11_share 17 = .ok (.i2l, 1) := by decide +kernel
theorem dX11_share_18 : decode cX11_share 18 = .ok (.lconst 0, 1) := by decide +kernel
theorem dX11_share_19 : decode cX11_share 19 = .ok (.lconst 1, 1) := by decide +kernel
theorem dX11_share_20 : decode cX11_share 20 = .ok (.invokestatic 67, 3) := by decide +kernel
theorem dX11_share_23 : decode cX11_share 23 = .ok (.ifCond .eq 8, 3) := by decide +kernel
theorem dX11_share_26 : decode cX11_share 26 = .ok (.iload_n 1, 1) := by decide +kernel
theorem dX11_share_27 : decode cX11_share 27 = .ok (.iload_n 2, 1) := by decide +kernel
theorem dX11_share_28 : decode cX11_share 28 = .ok (.if_icmp .ne 7, 3) := by decide +kernel
theorem dX11_share_31 : decode cX11_share 31 = .ok (.invokestatic 49, 3) := by decide +kernel
theorem dX11_share_34 : decode cX11_share 34 = .ok (.lreturn, 1) := by decide +kernel
theorem dX11_share_35 : decode cX11_share 35 = .ok (.aload_n 0, 1) := by decide +kernel
theorem dX11_share_36 : decode cX11_share 36 = .ok (.iload_n 1, 1) := by decide +kernel
theorem dX11_share_37 : decode cX11_share 37 = .ok (.iconst 4, 1) := by decide +kernel
theorem dX11_share_38 : decode cX11_share 38 = .ok (.invokevirtual 110, 3) := by decide +kernel
theorem dX11_share_41 : decode cX11_share 41 = .ok (.ifCond .eq 32, 3) := by decide +kernel
theorem dX11_share_44 : decode cX11_share 44 = .ok (.aload_n 0, 1) := by decide +kernel
theorem dX11_share_45 : decode cX11_share 45 = .ok (.iload_n 2, 1) := by decide +kernel
theorem dX11_share_46 : decode cX11_share 46 = .ok (.iconst 4, 1) := by decide +kernel
theorem dX11_share_47 : decode cX11_share 47 = .ok (.invokevirtual 110, 3) := by decide +kernel
theorem dX11_share_50 : decode cX11_share 50 = .ok (.ifCond .eq 23, 3) := by decide +kernel
theorem dX11_share_53 : decode cX11_share 53 = .ok (.aload_n 0, 1) := by decide +kernel
theorem dX11_share_54 : decode cX11_share 54 = .ok (.iload_n 1, 1) := by decide +kernel
theorem dX11_share_55 : decode cX11_share 55 = .ok (.bipush 6, 2) := by decide +kernel
theorem dX11_share_57 : decode cX11_share 57 = .ok (.invokevirtual 110, 3) := by decide +kernel
theorem dX11_share_60 : decode cX11_share 60 = .ok (.ifCond .gt 13, 3) := by decide +kernel
theorem dX11_share_63 : decode cX11_share 63 = .ok (.aload_n 0, 1) := by decide +kernel
theorem dX11_share_64 : decode cX11_share 64 = .ok (.iload_n 2, 1) := by decide +kernel
theorem dX11_share_65 : decode cX11_share 65 = .ok (.bipush 6, 2) := by decide +kernel
theorem dX11_share_67 : decode cX11_share 67 = .ok (.invokevirtual 110, 3) := by decide +kernel
theorem dX11_share_70 : decode cX11_share 70 = .ok (.ifCond .le 7, 3) := by decide +kernel
theorem dX11_share_73 : decode cX11_share 73 = .ok (.invokestatic 49, 3) := by decide +kernel
theorem dX11_share_76 : decode cX11_share 76 = .ok (.lreturn, 1) := by decide +kernel
theorem dX11_share_77 : decode cX11_share 77 = .ok (.aload_n 0, 1) := by decide +kernel
theorem dX11_share_78 : decode cX11_share 78 = .ok (.iload_n 1, 1) := by decide +kernel
theorem dX11_share_79 : decode cX11_share 79 = .ok (.iconst 5, 1) := by decide +kernel
theorem dX11_share_80 : decode cX11_share 80 = .ok (.invokevirtual 110, 3) := by decide +kernel
theorem dX11_share_83 : decode cX11_share 83 = .ok (.aload_n 0, 1) := by decide +kernel
theorem dX11_share_84 : decode cX11_share 84 = .ok (.iload_n 2, 1) := by decide +kernel
theorem dX11_share_85 : decode cX11_share 85 = .ok (.iconst 4, 1) := by decide +kernel
theorem dX11_share_86 : decode cX11_share 86 = .ok (.invokevirtual 110, 3) := by decide +kernel
theorem dX11_share_89 : decode cX11_share 89 = .ok (.imul, 1) := by decide +kernel
theorem dX11_share_90 : decode cX11_share 90 = .ok (.i2l, 1) := by decide +kernel
theorem dX11_share_91 : decode cX11_share 91 = .ok (.lstore 4, 2) := by decide +kernel
theorem dX11_share_93 : decode cX11_share 93 = .ok (.lload 4, 2) := by decide +kernel
theorem dX11_share_95 : decode cX11_share 95 = .ok (.lload 4, 2) := by decide +kernel
theorem dX11_share_97 : decode cX11_share 97 = .ok (.aload_n 0, 1) := by decide +kernel
theorem dX11_share_98 : decode cX11_share 98 = .ok (.iload_n 2, 1) := by decide +kernel
theorem dX11_share_99 : decode cX11_share 99 = .ok (.iconst 5, 1) := by decide +kernel
theorem dX11_share_100 : decode cX11_share 100 = .ok (.invokevirtual 110, 3) := by decide +kernel
theorem dX11_share_103 : decode cX11_share 103 = .ok (.aload_n 0, 1) := by decide +kernel
theorem dX11_share_104 : decode cX11_share 104 = .ok (.iload_n 1, 1) := by decide +kernel
theorem dX11_share_105 : decode cX11_share 105 = .ok (.iconst 4, 1) := by decide +kernel
theorem dX11_share_106 : decode cX11_share 106 = .ok (.invokevirtual 110, 3) := by decide +kernel
theorem dX11_share_109 : decode cX11_share 109 = .ok (.imul, 1) := by decide +kernel
theorem dX11_share_110 : decode cX11_share 110 = .ok (.i2l, 1) := by decide +kernel
theorem dX11_share_111 : decode cX11_share 111 = .ok (.ladd, 1) := by decide +kernel
theorem dX11_share_112 : decode cX11_share 112 = .ok (.iload_n 3, 1) := by decide +kernel
theorem dX11_share_113 : decode cX11_share 113 = .ok (.invokestatic 134, 3) := by decide +kernel
theorem dX11_share_116 : decode cX11_share 116 = .ok (.lreturn, 1) := by decide +kernel
set_option maxRecDepth 20000 in
theorem ggX11_best_X11_in : GoodIn wsX11_best wsX11_in := goodIn_r _ [6] (by decide +kernel) (by decide +kernel)
set_option maxRecDepth 20000 in
theorem gX11_best_X11_in : GoodIn wsX11_best (va_wsS RX11 67 yX11_in wsX11_in) := goodIn_app (goodIn_of _ (by decide +kernel)) ggX11_best_X11_in
set_option maxRecDepth 20000 in
theorem ggX11_best_X11_begin : GoodIn wsX11_best wsX11_begin := goodIn_r _ [10, 11, 12, 13, 14, 15, 16, 17, 18, 19, 20, 5, 21, 22, 60, 61, 62, 63, 64, 65, 66, 67, 68, 69, 70, 71, 72, 73, 74, 75, 76, 77, 78, 79, 80] (by decide +kernel) (by decide +kernel)
set_option maxRecDepth 20000 in
theorem gX11_best_X11_begin : GoodIn wsX11_best (wsV RX11 193 RX11 yX11_begin wsX11_begin) := goodIn_app (goodIn_of _ (by decide +kernel)) ggX11_best_X11_begin
set_option maxRecDepth 20000 in
theorem ggX11_best_X11_goRound : GoodIn wsX11_best wsX11_goRound := goodIn_r _ [26, 27, 28, 29, 30, 31, 5, 32, 11, 16, 12, 17, 15, 13, 33, 34, 35, 36, 18, 19, 20, 21, 22, 37, 38, 39, 40, 41, 42, 43, 44, 45, 46, 47, 48, 49, 50, 51, 52, 53, 54, 55, 14, 60, 61, 62, 63, 64, 65, 66, 67, 68, 69, 70, 71, 72, 73, 74, 75, 76, 77, 78, 79, 80] (by decide +kernel) (by decide +kernel)
set_option maxRecDepth 20000 in
theorem gX11_best_X11_goRound : GoodIn wsX11_best (wsV RX11 197 RX11 yX11_goRound wsX11_goRound) := goodIn_app (goodIn_of _ (by decide +kernel)) ggX11_best_X11_goRound
set_option maxRecDepth 20000 in
theorem ggX11_best_X11_extreme : GoodIn wsX11_best wsX11_extreme := goodIn_r _ [59, 15, 28, 60, 61, 62, 63, 64, 65, 66, 67, 68, 69, 70, 71, 72, 73, 74, 75, 76, 77, 78, 79, 80] (by decide +kernel) (by decide +kernel)
set_option maxRecDepth 20000 in
theorem gX11_best_X11_extreme : GoodIn wsX11_best (wsV RX11 182 RX11 yX11_extreme wsX11_extreme) := goodIn_app (goodIn_of _ (by decide +kernel)) ggX11_best_X11_extreme
theorem dX11_best_0 : decode cX11_best 0 = .ok (.iload_n 1, 1) := by decide +kernel
theorem dX11_best_1 : decode cX11_best 1 = .ok (.i2l, 1) := by decide +kernel
theorem dX11_best_2 : decode cX11_best 2 = .ok (.lconst 0, 1) := by decide +kernel
theorem dX11_best_3 : decode cX11_best 3 = .ok (.lconst 1, 1) := by decide +kernel
theorem dX11_best_4 : decode cX11_best 4 = .ok (.aload_n 0, 1) := by decide +kernel
theorem dX11_best_5 : decode cX11_best 5 = .ok (.getfield 71, 3) := by decide +kernel
theorem dX11_best_8 : decode cX11_best 8 = .ok (.lshl, 1) := by decide +kernel
theorem dX11_best_9 : decode cX11_best 9 = .ok (.lconst 1, 1) := by decide +kernel
theorem dX11_best_10 : decode cX11_best 10 = .ok (.lsub, 1) := by decide +kernel
theorem dX11_best_11 : decode cX11_best 11 = .ok (.invokestatic 67, 3) := by decide +kernel
theorem dX11_best_14 : decode cX11_best 14 = .ok (.ifCond .eq 15, 3) := by decide +kernel
theorem dX11_best_17 : decode cX11_best 17 = .ok (.iload_n 2, 1) := by decide +kernel
theorem dX11_best_18 : decode cX11_best 18 = .ok (.i2l, 1) := by decide +kernel
theorem dX11_best_19 : decode cX11_best 19 = .ok (.lconst 0, 1) := by decide +kernel
theorem dX11_best_20 : decode cX11_best 20 = .ok (.ldc2_w 187, 3) := by decide +kernel
theorem dX11_best_23 : decode cX11_best 23 = .ok (.invokestatic 67, 3) := by decide +kernel
theorem dX11_best_26 : decode cX11_best 26 = .ok (.ifCond .ne 6, 3) := by decide +kernel
theorem dX11_best_29 : decode cX11_best 29 = .ok (.bipush (-2), 2) := by decide +kernel
theorem dX11_best_31 : decode cX11_best 31 = .ok (.ireturn, 1) := by decide +kernel
theorem dX11_best_32 : decode cX11_best 32 = .ok (.bipush (-9), 2) := by decide +kernel
theorem dX11_best_34 : decode cX11_best 34 = .ok (.istore_n 3, 1) := by decide +kernel
theorem dX11_best_35 : decode cX11_best 35 = .ok (.iconst 0, 1) := by decide +kernel
theorem dX11_best_36 : decode cX11_best 36 = .ok (.istore 4, 2) := by decide +kernel
theorem dX11_best_38 : decode cX11_best 38 = .ok (.iconst 0, 1) := by decide +kernel
theorem dX11_best_39 : decode cX11_best 39 = .ok (.istore 5, 2) := by decide +kernel
theorem dX11_best_41 : decode cX11_best 41 = .ok (.iload 5, 2) := by decide +kernel
theorem dX11_best_43 : decode cX11_best 43 = .ok (.aload_n 0, 1) := by decide +kernel
theorem dX11_best_44 : decode cX11_best 44 = .ok (.getfield 71, 3) := by decide +kernel
theorem dX11_best_47 : decode cX11_best 47 = .ok (.if_icmp .ge 87, 3) := by decide +kernel
theorem dX11_best_50 : decode cX11_best 50 = .ok (.iload_n 1, 1) := by decide +kernel
theorem dX11_best_51 : decode cX11_best 51 = .ok (.iload 5, 2) := by decide +kernel
theorem dX11_best_53 : decode cX11_best 53 = .ok (.ishr, 1) := by decide +kernel
theorem dX11_best_54 : decode cX11_best 54 = .ok (.iconst 1, 1) := by decide +kernel
theorem dX11_best_55 : decode cX11_best 55 = .ok (.iand, 1) := by decide +kernel
theorem dX11_best_56 : decode cX11_best 56 = .ok (.iconst 1, 1) := by decide +kernel
theorem dX11_best_57 : decode cX11_best 57 = .ok (.if_icmp .ne 71, 3) := by decide +kernel
theorem dX11_best_60 : decode cX11_best 60 = .ok (.aload_n 0, 1) := by decide +kernel
theorem dX11_best_61 : decode cX11_best 61 = .ok (.iload 5, 2) := by decide +kernel
theorem dX11_best_63 : decode cX11_best 63 = .ok (.bipush (-9), 2) := by decide +kernel
theorem dX11_best_65 : decode cX11_best 65 = .ok (.bipush 100, 2) := by decide +kernel
theorem dX11_best_67 : decode cX11_best 67 = .ok (.bipush 50, 2) := by decide +kernel
theorem dX11_best_69 : decode cX11_best 69 = .ok (.iload_n 2, 1) := by decide +kernel
theorem dX11_best_70 : decode cX11_best 70 = .ok (.invokevirtual 193, 3) := by decide +kernel
theorem dX11_best_73 : decode cX11_best 73 = .ok (.aload_n 0, 1) := by decide +kernel
theorem dX11_best_74 : decode cX11_best 74 = .ok (.invokevirtual 197, 3) := by decide +kernel
theorem dX11_best_77 : decode cX11_best 77 = .ok (.aload_n 0, 1) := by decide +kernel
theorem dX11_best_78 : decode cX11_best 78 = .ok (.iconst 3, 1) := by decide +kernel
theorem dX11_best_79 : decode cX11_best 79 = .ok (.invokevirtual 182, 3) := by decide +kernel
theorem dX11_best_82 : decode cX11_best 82 = .ok (.istore 6, 2) := by decide +kernel
theorem dX11_best_84 : decode cX11_best 84 = .ok (.iload_n 3, 1) := by decide +kernel
theorem dX11_best_85 : decode cX11_best 85 = .ok (.ifCond .lt 10, 3) := by decide +kernel
theorem dX11_best_88 : decode cX11_best 88 = .ok (.iload 6, 2) := by decide +kernel
theorem dX11_best_90 : decode cX11_best 90 = .ok (.iload 4, 2) := by decide +kernel
theorem dX11_best_92 : decode cX11_best 92 = .ok (.if_icmp .le 7, 3) := by decide +kernel
theorem dX11_best_95 : decode cX11_best 95 = .ok (.iconst 1, 1) := by decide +kernel
theorem dX11_best_96 : decode cX11_best 96 = .ok (.goto 4, 3) := by decide +kernel
theorem dX11_best_99 : decode cX11_best 99 = .ok (.iconst 0, 1) := by decide +kernel
theorem dX11_best_100 : decode cX11_best 100 = .ok (.istore 7, 2) := by decide +kernel
theorem dX11_best_102 : decode cX11_best 102 = .ok (.iload 7, 2) := by decide +kernel
theorem dX11_best_104 : decode cX11_best 104 = .ok (.ifCond .eq 8, 3) := by decide +kernel
theorem dX11_best_107 : decode cX11_best 107 = .ok (.iload 5, 2) := by decide +kernel
theorem dX11_best_109 : decode cX11_best 109 = .ok (.goto 4, 3) := by decide +kernel
theorem dX11_best_112 : decode cX11_best 112 = .ok (.iload_n 3, 1) := by decide +kernel
theorem dX11_best_113 : decode cX11_best 113 = .ok (.istore_n 3, 1) := by decide +kernel
theorem dX11_best_114 : decode cX11_best 114 = .ok (.iload 7, 2) := by decide +kernel
theorem dX11_best_116 : decode cX11_best 116 = .ok (.ifCond .eq 8, 3) := by decide +kernel
theorem dX11_best_119 : decode cX11_best 119 = .ok (.iload 6, 2) := by decide +kernel
theorem dX11_best_121 : decode cX11_best 121 = .ok (.goto 5, 3) := by decide +kernel
theorem dX11_best_124 : decode cX11_best 124 = .ok (.iload 4, 2) := by decide +kernel
theorem dX11_best_126 : decode cX11_best 126 = .ok (.istore 4, 2) := by decide +kernel
theorem dX11_best_128 : decode cX11_best 128 = .ok (.iinc 5 1, 3) := by decide +kernel
theorem dX11_best_131 : decode cX11_best 131 = .ok (.goto (-90), 3) := by decide +kernel
theorem dX11_best_134 : decode cX11_best 134 = .ok (.iload_n 3, 1) := by decide +kernel
theorem dX11_best_135 : decode cX11_best 135 = .ok (.ireturn, 1) := by decide +kernel
set_option maxRecDepth 20000 in
theorem ggX11_watch_X11_noSheet : GoodIn wsX11_watch wsX11_noSheet := goodIn_r _ [10, 11, 12, 13, 9, 14] (by decide +kernel) (by decide +kernel)
set_option maxRecDepth 20000 in
theorem gX11_watch_X11_noSheet : GoodIn wsX11_watch (va_wsS RX11 85 yX11_noSheet wsX11_noSheet) := goodIn_app (goodIn_of _ (by decide +kernel)) ggX11_watch_X11_noSheet
set_option maxRecDepth 20000 in
theorem ggX11_watch_X11_refused : GoodIn wsX11_watch wsX11_refused := goodIn_r _ [18, 19, 33, 34, 35, 36, 37, 38, 39, 40, 41, 42, 43, 44, 45, 46, 47, 48, 49, 50, 51, 52, 53] (by decide +kernel) (by decide +kernel)
set_option maxRecDepth 20000 in
theorem gX11_watch_X11_refused : GoodIn wsX11_watch (wsV RX11 89 RX11 yX11_refused wsX11_refused) := goodIn_app (goodIn_of _ (by decide +kernel)) ggX11_watch_X11_refused
set_option maxRecDepth 20000 in
theorem ggX11_watch_X11_in : GoodIn wsX11_watch wsX11_in := goodIn_r _ [14] (by decide +kernel) (by decide +kernel)
set_option maxRecDepth 20000 in
theorem gX11_watch_X11_in : GoodIn wsX11_watch (va_wsS RX11 67 yX11_in wsX11_in) := goodIn_app (goodIn_of _ (by decide +kernel)) ggX11_watch_X11_in
set_option maxRecDepth 20000 in
theorem ggX11_watch_X11_barred : GoodIn wsX11_watch wsX11_barred := goodIn_r _ [23, 24, 25, 26, 27, 28, 9, 29, 19, 30, 31, 32, 33, 34, 35, 36, 37, 38, 39, 40, 41, 42, 43, 44, 45, 46, 47, 48, 49, 50, 51, 52, 53] (by decide +kernel) (by decide +kernel)
set_option maxRecDepth 20000 in
theorem gX11_watch_X11_barred : GoodIn wsX11_watch (wsV RX11 94 RX11 yX11_barred wsX11_barred) := goodIn_app (goodIn_of _ (by decide +kernel)) ggX11_watch_X11_barred
theorem dX11_watch_0 : decode cX11_watch 0 = .ok (.iload_n 1, 1) := by decide +kernel
theorem dX11_watch_1 : decode cX11_watch 1 = .ok (.invokestatic 85, 3) := by decide +kernel
theorem dX11_watch_4 : decode cX11_watch 4 = .ok (.ifCond .eq 9, 3) := by decide +kernel
theorem dX11_watch_7 : decode cX11_watch 7 = .ok (.aload_n 0, 1) := by decide +kernel
theorem dX11_watch_8 : decode cX11_watch 8 = .ok (.iconst (-1), 1) := by decide +kernel
theorem dX11_watch_9 : decode cX11_watch 9 = .ok (.invokevirtual 89, 3) := by decide +kernel
theorem dX11_watch_12 : decode cX11_watch 12 = .ok (.ireturn, 1) := by decide +kernel
theorem dX11_watch_13 : decode cX11_watch 13 = .ok (.iload_n 2, 1) := by decide +kernel
theorem dX11_watch_14 : decode cX11_watch 14 = .ok (.i2l, 1) := by decide +kernel
theorem dX11_watch_15 : decode cX11_watch 15 = .ok (.lconst 0, 1) := by decide +kernel
theorem dX11_watch_16 : decode cX11_watch 16 = .ok (.ldc2_w 92, 3) := by decide +kernel
theorem dX11_watch_19 : decode cX11_watch 19 = .ok (.invokestatic 67, 3) := by decide +kernel
theorem dX11_watch_22 : decode cX11_watch 22 = .ok (.ifCond .ne 10, 3) := by decide +kernel
theorem dX11_watch_25 : decode cX11_watch 25 = .ok (.aload_n 0, 1) := by decide +kernel
theorem dX11_watch_26 : decode cX11_watch 26 = .ok (.bipush (-2), 2) := by decide +kernel
theorem dX11_watch_28 : decode cX11_watch 28 = .ok (.invokevirtual 89, 3) := by decide +kernel
theorem dX11_watch_31 : decode cX11_watch 31 = .ok (.ireturn, 1) := by decide +kernel
theorem dX11_watch_32 : decode cX11_watch 32 = .ok (.aload_n 0, 1) := by decide +kernel
theorem dX11_watch_33 : decode cX11_watch 33 = .ok (.iload_n 1, 1) := by decide +kernel
theorem dX11_watch_34 : decode cX11_watch 34 = .ok (.iload_n 2, 1) := by decide +kernel
theorem dX11_watch_35 : decode cX11_watch 35 = .ok (.iload_n 3, 1) := by decide +kernel
theorem dX11_watch_36 : decode cX11_watch 36 = .ok (.iload 4, 2) := by decide +kernel
theorem dX11_watch_38 : decode cX11_watch 38 = .ok (.i2l, 1) := by decide +kernel
theorem dX11_watch_39 : decode cX11_watch 39 = .ok (.invokevirtual 94, 3) := by decide +kernel
theorem dX11_watch_42 : decode cX11_watch 42 = .ok (.istore 5, 2) := by decide +kernel
theorem dX11_watch_44 : decode cX11_watch 44 = .ok (.iload 5, 2) := by decide +kernel
theorem dX11_watch_46 : decode cX11_watch 46 = .ok (.ifCond .ge 6, 3) := by decide +kernel
theorem dX11_watch_49 : decode cX11_watch 49 = .ok (.iload 5, 2) := by decide +kernel
theorem dX11_watch_51 : decode cX11_watch 51 = .ok (.ireturn, 1) := by decide +kernel
theorem dX11_watch_52 : decode cX11_watch 52 = .ok (.iload 4, 2) := by decide +kernel
theorem dX11_watch_54 : decode cX11_watch 54 = .ok (.i2l, 1) := by decide +kernel
theorem dX11_watch_55 : decode cX11_watch 55 = .ok (.ldc2_w 92, 3) := by decide +kernel
theorem dX11_watch_58 : decode cX11_watch 58 = .ok (.ldc2_w 207, 3) := by decide +kernel
theorem dX11_watch_61 : decode cX11_watch 61 = .ok (.invokestatic 67, 3) := by decide +kernel
theorem dX11_watch_64 : decode cX11_watch 64 = .ok (.istore 6, 2) := by decide +kernel
theorem dX11_watch_66 : decode cX11_watch 66 = .ok (.iconst 0, 1) := by decide +kernel
theorem dX11_watch_67 : decode cX11_watch 67 = .ok (.istore 7, 2) := by decide +kernel
theorem dX11_watch_69 : decode cX11_watch 69 = .ok (.iload 7, 2) := by decide +kernel
theorem dX11_watch_71 : decode cX11_watch 71 = .ok (.iload 4, 2) := by decide +kernel
theorem dX11_watch_73 : decode cX11_watch 73 = .ok (.if_icmp .ge 38, 3) := by decide +kernel
theorem dX11_watch_76 : decode cX11_watch 76 = .ok (.iload 6, 2) := by decide +kernel
theorem dX11_watch_78 : decode cX11_watch 78 = .ok (.ifCond .eq 33, 3) := by decide +kernel
theorem dX11_watch_81 : decode cX11_watch 81 = .ok (.aload_n 0, 1) := by decide +kernel
theorem dX11_watch_82 : decode cX11_watch 82 = .ok (.getfield 37, 3) := by decide +kernel
theorem dX11_watch_85 : decode cX11_watch 85 = .ok (.bipush 60, 2) := by decide +kernel
theorem dX11_watch_87 : decode cX11_watch 87 = .ok (.iload_n 1, 1) := by decide +kernel
theorem dX11_watch_88 : decode cX11_watch 88 = .ok (.imul, 1) := by decide +kernel
theorem dX11_watch_89 : decode cX11_watch 89 = .ok (.iload_n 3, 1) := by decide +kernel
theorem dX11_watch_90 : decode cX11_watch 90 = .ok (.iadd, 1) := by decide +kernel
theorem dX11_watch_91 : decode cX11_watch 91 = .ok (.iload 7, 2) := by decide +kernel
theorem dX11_watch_93 : decode cX11_watch 93 = .ok (.iadd, 1) := by decide +kernel
theorem dX11_watch_94 : decode cX11_watch 94 = .ok (.iaload, 1) := by decide +kernel
theorem dX11_watch_95 : decode cX11_watch 95 = .ok (.i2l, 1) := by decide +kernel
theorem dX11_watch_96 : decode cX11_watch 96 = .ok (.lconst 0, 1) := by decide +kernel
theorem dX11_watch_97 : decode cX11_watch 97 = .ok (.ldc2_w 185, 3) := by decide +kernel
theorem dX11_watch_100 : decode cX11_watch 100 = .ok (.invokestatic 67, 3) := by decide +kernel
theorem dX11_watch_103 : decode cX11_watch 103 = .ok (.istore 6, 2) := by decide +kernel
theorem dX11_watch_105 : decode cX11_watch 105 = .ok (.iinc 7 1, 3) := by decide +kernel
theorem dX11_watch_108 : decode cX11_watch 108 = .ok (.goto (-39), 3) := by decide +kernel
theorem dX11_watch_111 : decode cX11_watch 111 = .ok (.iload 6, 2) := by decide +kernel
theorem dX11_watch_113 : decode cX11_watch 113 = .ok (.ifCond .ne 10, 3) := by decide +kernel
theorem dX11_watch_116 : decode cX11_watch 116 = .ok (.aload_n 0, 1) := by decide +kernel
theorem dX11_watch_117 : decode cX11_watch 117 = .ok (.bipush (-2), 2) := by decide +kernel
theorem dX11_watch_119 : decode cX11_watch 119 = .ok (.invokevirtual 89, 3) := by decide +kernel
theorem dX11_watch_122 : decode cX11_watch 122 = .ok (.ireturn, 1) := by decide +kernel
theorem dX11_watch_123 : decode cX11_watch 123 = .ok (.aload_n 0, 1) := by decide +kernel
theorem dX11_watch_124 : decode cX11_watch 124 = .ok (.iload 4, 2) := by decide +kernel
theorem dX11_watch_126 : decode cX11_watch 126 = .ok (.putfield 209, 3) := by decide +kernel
theorem dX11_watch_129 : decode cX11_watch 129 = .ok (.iconst 0, 1) := by decide +kernel
theorem dX11_watch_130 : decode cX11_watch 130 = .ok (.istore 7, 2) := by decide +kernel
theorem dX11_watch_132 : decode cX11_watch 132 = .ok (.iload 7, 2) := by decide +kernel
theorem dX11_watch_134 : decode cX11_watch 134 = .ok (.iload 4, 2) := by decide +kernel
theorem dX11_watch_136 : decode cX11_watch 136 = .ok (.if_icmp .ge 30, 3) := by decide +kernel
theorem dX11_watch_139 : decode cX11_watch 139 = .ok (.aload_n 0, 1) := by decide +kernel
theorem dX11_watch_140 : decode cX11_watch 140 = .ok (.getfield 28, 3) := by decide +kernel
theorem dX11_watch_143 : decode cX11_watch 143 = .ok (.iload 7, 2) := by decide +kernel
theorem dX11_watch_145 : decode cX11_watch 145 = .ok (.aload_n 0, 1) := by decide +kernel
theorem dX11_watch_146 : decode cX11_watch 146 = .ok (.getfield 37, 3) := by decide +kernel
theorem dX11_watch_149 : decode cX11_watch 149 = .ok (.bipush 60, 2) := by decide +kernel
theorem dX11_watch_151 : decode cX11_watch 151 = .ok (.iload_n 1, 1) := by decide +kernel
theorem dX11_watch_152 : decode cX11_watch 152 = .ok (.imul, 1) := by decide +kernel
theorem dX11_watch_153 : decode cX11_watch 153 = .ok (.iload_n 3, 1) := by decide +kernel
theorem dX11_watch_154 : decode cX11_watch 154 = .ok (.iadd, 1) := by decide +kernel
theorem dX11_watch_155 : decode cX11_watch 155 = .ok (.iload 7, 2) := by decide +kernel
theorem dX11_watch_157 : decode cX11_watch 157 = .ok (.iadd, 1) := by decide +kernel
theorem dX11_watch_158 : decode cX11_watch 158 = .ok (.iaload, 1) := by decide +kernel
theorem dX11_watch_159 : decode cX11_watch 159 = .ok (.iastore, 1) := by decide +kernel
theorem dX11_watch_160 : decode cX11_watch 160 = .ok (.iinc 7 1, 3) := by decide +kernel
theorem dX11_watch_163 : decode cX11_watch 163 = .ok (.goto (-31), 3) := by decide +kernel
theorem dX11_watch_166 : decode cX11_watch 166 = .ok (.aload_n 0, 1) := by decide +kernel
theorem dX11_watch_167 : decode cX11_watch 167 = .ok (.iload 4, 2) := by decide +kernel
theorem dX11_watch_169 : decode cX11_watch 169 = .ok (.invokevirtual 89, 3) := by decide +kernel
theorem dX11_watch_172 : decode cX11_watch 172 = .ok (.ireturn, 1) := by decide +kernel
set_option maxRecDepth 20000 in
theorem ggX11_doesFit_X11_begin : GoodIn wsX11_doesFit wsX11_begin := goodIn_r _ [8, 9, 10, 11, 12, 3, 13, 14, 15, 16, 17, 7, 18, 19, 43, 44, 45, 46, 47, 48, 49, 50, 51, 52, 53, 54, 55, 56, 57, 58, 59, 60, 61, 62, 63] (by decide +kernel) (by decide +kernel)
set_option maxRecDepth 20000 in
theorem gX11_doesFit_X11_begin : GoodIn wsX11_doesFit (wsV RX11 193 RX11 yX11_begin wsX11_begin) := goodIn_app (goodIn_of _ (by decide +kernel)) ggX11_doesFit_X11_begin
set_option maxRecDepth 20000 in
theorem ggX11_doesFit_X11_stepOn : GoodIn wsX11_doesFit wsX11_stepOn := goodIn_r _ [23, 9, 13, 10, 14, 3, 11, 24, 25, 26, 7, 27, 15, 16, 17, 18, 19, 28, 29, 30, 31, 32, 33, 34, 35, 36, 37, 38, 39, 40, 41, 42, 43, 44, 45, 46, 47, 48, 49, 50, 51, 52, 53, 54, 55, 56, 57, 58, 59, 60, 61, 62, 63] (by decide +kernel) (by decide +kernel)
set_option maxRecDepth 20000 in
theorem gX11_doesFit_X11_stepOn : GoodIn wsX11_doesFit (wsV RX11 175 RX11 yX11_stepOn wsX11_stepOn) := goodIn_app (goodIn_of _ (by decide +kernel)) ggX11_doesFit_X11_stepOn
theorem dX11_doesFit_0 : decode cX11_doesFit 0 = .ok (.aload_n 0, 1) := by decide +kernel
theorem dX11_doesFit_1 : decode cX11_doesFit 1 = .ok (.iload_n 1, 1) := by decide +kernel
theorem dX11_doesFit_2 : decode cX11_doesFit 2 = .ok (.bipush (-9), 2) := by decide +kernel
theorem dX11_doesFit_4 : decode cX11_doesFit 4 = .ok (.aload_n 0, 1) := by decide +kernel
theorem dX11_doesFit_5 : decode cX11_doesFit 5 = .ok (.getfield 28, 3) := by decide +kernel
theorem dX11_doesFit_8 : decode cX11_doesFit 8 = .ok (.iconst 0, 1) := by decide +kernel
theorem dX11_doesFit_9 : decode cX11_doesFit 9 = .ok (.iaload, 1) := by decide +kernel
theorem dX11_doesFit_10 : decode cX11_doesFit 10 = .ok (.bipush 50, 2) := by decide +kernel
theorem dX11_doesFit_12 : decode cX11_doesFit 12 = .ok (.iload_n 2, 1) := by decide +kernel
theorem dX11_doesFit_13 : decode cX11_doesFit 13 = .ok (.invokevirtual 193, 3) := by decide +kernel
theorem dX11_doesFit_16 : decode cX11_doesFit 16 = .ok (.iconst 1, 1) := by decide +kernel
theorem dX11_doesFit_17 : decode cX11_doesFit 17 = .ok (.istore_n 3, 1) := by decide +kernel
theorem dX11_doesFit_18 : decode cX11_doesFit 18 = .ok (.iconst 1, 1) := by decide +kernel
theorem dX11_doesFit_19 : decode cX11_doesFit 19 = .ok (.istore 4, 2) := by decide +kernel
theorem dX11_doesFit_21 : decode cX11_doesFit 21 = .ok (.iload 4, 2) := by decide +kernel
theorem dX11_doesFit_23 : decode cX11_doesFit 23 = .ok (.aload_n 0, 1) := by decide +kernel
theorem dX11_doesFit_24 : decode cX11_doesFit 24 = .ok (.getfield 209, 3) := by decide +kernel
theorem dX11_doesFit_27 : decode cX11_doesFit 27 = .ok (.if_icmp .ge 44, 3) := by decide +kernel
theorem dX11_doesFit_30 : decode cX11_doesFit 30 = .ok (.iload_n 3, 1) := by decide +kernel
theorem dX11_doesFit_31 : decode cX11_doesFit 31 = .ok (.ifCond .eq 40, 3) := by decide +kernel
theorem dX11_doesFit_34 : decode cX11_doesFit 34 = .ok (.aload_n 0, 1) := by decide +kernel
theorem dX11_doesFit_35 : decode cX11_doesFit 35 = .ok (.iload 4, 2) := by decide +kernel
theorem dX11_doesFit_37 : decode cX11_doesFit 37 = .ok (.iconst 1, 1) := by decide +kernel
theorem dX11_doesFit_38 : decode cX11_doesFit 38 = .ok (.isub, 1) := by decide +kernel
theorem dX11_doesFit_39 : decode cX11_doesFit 39 = .ok (.invokevirtual 175, 3) := by decide +kernel
theorem dX11_doesFit_42 : decode cX11_doesFit 42 = .ok (.aload_n 0, 1) := by decide +kernel
theorem dX11_doesFit_43 : decode cX11_doesFit 43 = .ok (.getfield 19, 3) := by decide +kernel
theorem dX11_doesFit_46 : decode cX11_doesFit 46 = .ok (.iload 4, 2) := by decide +kernel
theorem dX11_doesFit_48 : decode cX11_doesFit 48 = .ok (.iaload, 1) := by decide +kernel
theorem dX11_doesFit_49 : decode cX11_doesFit 49 = .ok (.aload_n 0, 1) := by decide +kernel
theorem dX11_doesFit_50 : decode cX11_doesFit 50 = .ok (.getfield 28, 3) := by decide +kernel
theorem dX11_doesFit_53 : decode cX11_doesFit 53 = .ok (.iload 4, 2) := by decide +kernel
theorem dX11_doesFit_55 : decode cX11_doesFit 55 = .ok (.iaload, 1) := by decide +kernel
theorem dX11_doesFit_56 : decode cX11_doesFit 56 = .ok (.if_icmp .ne 7, 3) := by decide +kernel
theorem dX11_doesFit_59 : decode cX11_doesFit 59 = .ok (.iconst 1, 1) := by decide +kernel
theorem dX11_doesFit_60 : decode cX11_doesFit 60 = .ok (.goto 4, 3) := by decide +kernel
theorem dX11_doesFit_63 : decode cX11_doesFit 63 = .ok (.iconst 0, 1) := by decide +kernel
theorem dX11_doesFit_64 : decode cX11_doesFit 64 = .ok (.istore_n 3, 1) := by decide +kernel
theorem dX11_doesFit_65 : decode cX11_doesFit 65 = .ok (.iinc 4 1, 3) := by decide +kernel
theorem dX11_doesFit_68 : decode cX11_doesFit 68 = .ok (.goto (-47), 3) := by decide +kernel
theorem dX11_doesFit_71 : decode cX11_doesFit 71 = .ok (.iload_n 3, 1) := by decide +kernel
theorem dX11_doesFit_72 : decode cX11_doesFit 72 = .ok (.ireturn, 1) := by decide +kernel
set_option maxRecDepth 20000 in
theorem ggX11_fits_X11_noMill : GoodIn wsX11_fits wsX11_noMill := goodIn_r _ [10, 11, 12, 13, 9, 14, 64, 65, 66, 67, 68, 69, 70, 71, 72, 73, 74, 75, 76, 77, 78, 79, 80, 81, 82, 83, 84] (by decide +kernel) (by decide +kernel)
set_option maxRecDepth 20000 in
theorem gX11_fits_X11_noMill : GoodIn wsX11_fits (wsV RX11 105 RX11 yX11_noMill wsX11_noMill) := goodIn_app (goodIn_of _ (by decide +kernel)) ggX11_fits_X11_noMill
set_option maxRecDepth 20000 in
theorem ggX11_fits_X11_in : GoodIn wsX11_fits wsX11_in := goodIn_r _ [14] (by decide +kernel) (by decide +kernel)
set_option maxRecDepth 20000 in
theorem gX11_fits_X11_in : GoodIn wsX11_fits (va_wsS RX11 67 yX11_in wsX11_in) := goodIn_app (goodIn_of _ (by decide +kernel)) ggX11_fits_X11_in
set_option maxRecDepth 20000 in
theorem ggX11_fits_X11_of : GoodIn wsX11_fits wsX11_of := goodIn_r _ [18, 5, 64, 65, 66, 67, 68, 69, 70, 71, 72, 73, 74, 75, 76, 77, 78, 79, 80, 81, 82, 83, 84] (by decide +kernel) (by decide +kernel)
set_option maxRecDepth 20000 in
theorem gX11_fits_X11_of : GoodIn wsX11_fits (wsV RX11 110 RX11 yX11_of wsX11_of) := goodIn_app (goodIn_of _ (by decide +kernel)) ggX11_fits_X11_of
set_option maxRecDepth 20000 in
theorem ggX11_fits_X11_leastOf : GoodIn wsX11_fits wsX11_leastOf := goodIn_r _ [21] (by decide +kernel) (by decide +kernel)
set_option maxRecDepth 20000 in
theorem gX11_fits_X11_leastOf : GoodIn wsX11_fits (va_wsS RX11 61 yX11_leastOf wsX11_leastOf) := goodIn_app (goodIn_of _ (by decide +kernel)) ggX11_fits_X11_leastOf
set_option maxRecDepth 20000 in
theorem ggX11_fits_X11_greatestOf : GoodIn wsX11_fits wsX11_greatestOf := goodIn_r _ [24] (by decide +kernel) (by decide +kernel)
set_option maxRecDepth 20000 in
theorem gX11_fits_X11_greatestOf : GoodIn wsX11_fits (va_wsS RX11 64 yX11_greatestOf wsX11_greatestOf) := goodIn_app (goodIn_of _ (by decide +kernel)) ggX11_fits_X11_greatestOf
set_option maxRecDepth 20000 in
theorem ggX11_fits_X11_doesFit : GoodIn wsX11_fits wsX11_doesFit := goodIn_r _ [28, 29, 4, 30, 31, 32, 33, 9, 34, 35, 36, 37, 38, 39, 40, 15, 16, 17, 18, 5, 41, 42, 43, 44, 45, 46, 47, 48, 49, 50, 51, 52, 53, 54, 55, 56, 57, 58, 59, 60, 61, 62, 63, 64, 65, 66, 67, 68, 69, 70, 71, 72, 73, 74, 75, 76, 77, 78, 79, 80, 81, 82, 83, 84] (by decide +kernel) (by decide +kernel)
set_option maxRecDepth 20000 in
theorem gX11_fits_X11_doesFit : GoodIn wsX11_fits (wsV RX11 212 RX11 yX11_doesFit wsX11_doesFit) := goodIn_app (goodIn_of _ (by decide +kernel)) ggX11_fits_X11_doesFit
theorem dX11_fits_0 : decode cX11_fits 0 = .ok (.aload_n 0, 1) := by decide +kernel
theorem dX11_fits_1 : decode cX11_fits 1 = .ok (.iload_n 1, 1) := by decide +kernel
theorem dX11_fits_2 : decode cX11_fits 2 = .ok (.invokevirtual 105, 3) := by decide +kernel
theorem dX11_fits_5 : decode cX11_fits 5 = .ok (.ifCond .ne 15, 3) := by decide +kernel
theorem dX11_fits_8 : decode cX11_fits 8 = .ok (.iload_n 2, 1) := by decide +kernel
theorem dX11_fits_9 : decode cX11_fits 9 = .ok (.i2l, 1) := by decide +kernel
theorem dX11_fits_10 : decode cX11_fits 10 = .ok (.lconst 0, 1) := by decide +kernel
theorem dX11_fits_11 : decode cX11_fits 11 = .ok (.ldc2_w 113, 3) := by decide +kernel
theorem dX11_fits_14 : decode cX11_fits 14 = .ok (.invokestatic 67, 3) := by decide +kernel
theorem dX11_fits_17 : decode cX11_fits 17 = .ok (.ifCond .ne 5, 3) := by decide +kernel
theorem dX11_fits_20 : decode cX11_fits 20 = .ok (.iconst (-1), 1) := by decide +kernel
theorem dX11_fits_21 : decode cX11_fits 21 = .ok (.ireturn, 1) := by decide +kernel
theorem dX11_fits_22 : decode cX11_fits 22 = .ok (.iload_n 3, 1) := by decide +kernel
theorem dX11_fits_23 : decode cX11_fits 23 = .ok (.i2l, 1) := by decide +kernel
theorem dX11_fits_24 : decode cX11_fits 24 = .ok (.lconst 0, 1) := by decide +kernel
theorem dX11_fits_25 : decode cX11_fits 25 = .ok (.ldc2_w 187, 3) := by decide +kernel
theorem dX11_fits_28 : decode cX11_fits 28 = .ok (.invokestatic 67, 3) := by decide +kernel
theorem dX11_fits_31 : decode cX11_fits 31 = .ok (.ifCond .eq 16, 3) := by decide +kernel
theorem dX11_fits_34 : decode cX11_fits 34 = .ok (.iload 4, 2) := by decide +kernel
theorem dX11_fits_36 : decode cX11_fits 36 = .ok (.i2l, 1) := by decide +kernel
theorem dX11_fits_37 : decode cX11_fits 37 = .ok (.lconst 0, 1) := by decide +kernel
theorem dX11_fits_38 : decode cX11_fits 38 = .ok (.ldc2_w 92, 3) := by decide +kernel
theorem dX11_fits_41 : decode cX11_fits 41 = .ok (.invokestatic 67, 3) := by decide +kernel
theorem dX11_fits_44 : decode cX11_fits 44 = .ok (.ifCond .ne 6, 3) := by decide +kernel
theorem dX11_fits_47 : decode cX11_fits 47 = .ok (.bipush (-2), 2) := by decide +kernel
theorem dX11_fits_49 : decode cX11_fits 49 = .ok (.ireturn, 1) := by decide +kernel
theorem dX11_fits_50 : decode cX11_fits 50 = .ok (.aload_n 0, 1) := by decide +kernel
theorem dX11_fits_51 : decode cX11_fits 51 = .ok (.getfield 209, 3) := by decide +kernel
theorem dX11_fits_54 : decode cX11_fits 54 = .ok (.ifCond .ne 6, 3) := by decide +kernel
theorem dX11_fits_57 : decode cX11_fits 57 = .ok (.bipush (-3), 2) := by decide +kernel
theorem dX11_fits_59 : decode cX11_fits 59 = .ok (.ireturn, 1) := by decide +kernel
theorem dX11_fits_60 : decode cX11_fits 60 = .ok (.aload_n 0, 1) := by decide +kernel
theorem dX11_fits_61 : decode cX11_fits 61 = .ok (.iload_n 1, 1) := by decide +kernel
theorem dX11_fits_62 : decode cX11_fits 62 = .ok (.iload_n 2, 1) := by decide +kernel
theorem dX11_fits_63 : decode cX11_fits 63 = .ok (.invokevirtual 110, 3) := by decide +kernel
theorem dX11_fits_66 : decode cX11_fits 66 = .ok (.istore 5, 2) := by decide +kernel
theorem dX11_fits_68 : decode cX11_fits 68 = .ok (.iconst 0, 1) := by decide +kernel
theorem dX11_fits_69 : decode cX11_fits 69 = .ok (.istore 6, 2) := by decide +kernel
theorem dX11_fits_71 : decode cX11_fits 71 = .ok (.bipush (-9), 2) := by decide +kernel
theorem dX11_fits_73 : decode cX11_fits 73 = .ok (.istore 7, 2) := by decide +kernel
theorem dX11_fits_75 : decode cX11_fits 75 = .ok (.bipush (-9), 2) := by decide +kernel
theorem dX11_fits_77 : decode cX11_fits 77 = .ok (.istore 8, 2) := by decide +kernel
theorem dX11_fits_79 : decode cX11_fits 79 = .ok (.iload_n 2, 1) := by decide +kernel
theorem dX11_fits_80 : decode cX11_fits 80 = .ok (.invokestatic 61, 3) := by decide +kernel
theorem dX11_fits_83 : decode cX11_fits 83 = .ok (.istore 9, 2) := by decide +kernel
theorem dX11_fits_85 : decode cX11_fits 85 = .ok (.iload 9, 2) := by decide +kernel
theorem dX11_fits_87 : decode cX11_fits 87 = .ok (.iload_n 2, 1) := by decide +kernel
theorem dX11_fits_88 : decode cX11_fits 88 = .ok (.invokestatic 64, 3) := by decide +kernel
theorem dX11_fits_91 : decode cX11_fits 91 = .ok (.if_icmp .gt 78, 3) := by decide +kernel
theorem dX11_fits_94 : decode cX11_fits 94 = .ok (.aload_n 0, 1) := by decide +kernel
theorem dX11_fits_95 : decode cX11_fits 95 = .ok (.getfield 13, 3) := by decide +kernel
theorem dX11_fits_98 : decode cX11_fits 98 = .ok (.bipush 9, 2) := by decide +kernel
theorem dX11_fits_100 : decode cX11_fits 100 = .ok (.iload_n 1, 1) := by decide +kernel
theorem dX11_fits_101 : decode cX11_fits 101 = .ok (.imul, 1) := by decide +kernel
theorem dX11_fits_102 : decode cX11_fits 102 = .ok (.iload_n 2, 1) := by decide +kernel
theorem dX11_fits_103 : decode cX11_fits 103 = .ok (.iadd, 1) := by decide +kernel
theorem dX11_fits_104 : decode cX11_fits 104 = .ok (.iload 9, 2) := by decide +kernel
theorem dX11_fits_106 : decode cX11_fits 106 = .ok (.iastore, 1) := by decide +kernel
theorem dX11_fits_107 : decode cX11_fits 107 = .ok (.aload_n 0, 1) := by decide +kernel
theorem dX11_fits_108 : decode cX11_fits 108 = .ok (.iload_n 1, 1) := by decide +kernel
theorem dX11_fits_109 : decode cX11_fits 109 = .ok (.iload_n 3, 1) := by decide +kernel
theorem dX11_fits_110 : decode cX11_fits 110 = .ok (.invokevirtual 212, 3) := by decide +kernel
theorem dX11_fits_113 : decode cX11_fits 113 = .ok (.istore 10, 2) := by decide +kernel
theorem dX11_fits_115 : decode cX11_fits 115 = .ok (.iload 6, 2) := by decide +kernel
theorem dX11_fits_117 : decode cX11_fits 117 = .ok (.iload 10, 2) := by decide +kernel
theorem dX11_fits_119 : decode cX11_fits 119 = .ok (.ifCond .eq 7, 3) := by decide +kernel
theorem dX11_fits_122 : decode cX11_fits 122 = .ok (.iconst 1, 1) := by decide +kernel
theorem dX11_fits_123 : decode cX11_fits 123 = .ok (.goto 4, 3) := by decide +kernel
theorem dX11_fits_126 : decode cX11_fits 126 = .ok (.iconst 0, 1) := by decide +kernel
theorem dX11_fits_127 : decode cX11_fits 127 = .ok (.iadd, 1) := by decide +kernel
theorem dX11_fits_128 : decode cX11_fits 128 = .ok (.istore 6, 2) := by decide +kernel
theorem dX11_fits_130 : decode cX11_fits 130 = .ok (.iload 10, 2) := by decide +kernel
theorem dX11_fits_132 : decode cX11_fits 132 = .ok (.ifCond .eq 13, 3) := by decide +kernel
theorem dX11_fits_135 : decode cX11_fits 135 = .ok (.iload 7, 2) := by decide +kernel
theorem dX11_fits_137 : decode cX11_fits 137 = .ok (.ifCond .ge 8, 3) := by decide +kernel
theorem dX11_fits_140 : decode cX11_fits 140 = .ok (.iload 9, 2) := by decide +kernel
theorem dX11_fits_142 : decode cX11_fits 142 = .ok (.goto 5, 3) := by decide +kernel
theorem dX11_fits_145 : decode cX11_fits 145 = .ok (.iload 7, 2) := by decide +kernel
theorem dX11_fits_147 : decode cX11_fits 147 = .ok (.istore 7, 2) := by decide +kernel
theorem dX11_fits_149 : decode cX11_fits 149 = .ok (.iload 10, 2) := by decide +kernel
theorem dX11_fits_151 : decode cX11_fits 151 = .ok (.ifCond .eq 8, 3) := by decide +kernel
theorem dX11_fits_154 : decode cX11_fits 154 = .ok (.iload 9, 2) := by decide +kernel
theorem dX11_fits_156 : decode cX11_fits 156 = .ok (.goto 5, 3) := by decide +kernel
theorem dX11_fits_159 : decode cX11_fits 159 = .ok (.iload 8, 2) := by decide +kernel
theorem dX11_fits_161 : decode cX11_fits 161 = .ok (.istore 8, 2) := by decide +kernel
theorem dX11_fits_163 : decode cX11_fits 163 = .ok (.iinc 9 1, 3) := by decide +kernel
theorem dX11_fits_166 : decode cX11_fits 166 = .ok (.goto (-81), 3) := by decide +kernel
theorem dX11_fits_169 : decode cX11_fits 169 = .ok (.aload_n 0, 1) := by decide +kernel
theorem dX11_fits_170 : decode cX11_fits 170 = .ok (.getfield 13, 3) := by decide +kernel
theorem dX11_fits_173 : decode cX11_fits 173 = .ok (.bipush 9, 2) := by decide +kernel
theorem dX11_fits_175 : decode cX11_fits 175 = .ok (.iload_n 1, 1) := by decide +kernel
theorem dX11_fits_176 : decode cX11_fits 176 = .ok (.imul, 1) := by decide +kernel
theorem dX11_fits_177 : decode cX11_fits 177 = .ok (.iload_n 2, 1) := by decide +kernel
theorem dX11_fits_178 : decode cX11_fits 178 = .ok (.iadd, 1) := by decide +kernel
theorem dX11_fits_179 : decode cX11_fits 179 = .ok (.iload 5, 2) := by decide +kernel
theorem dX11_fits_181 : decode cX11_fits 181 = .ok (.iastore, 1) := by decide +kernel
theorem dX11_fits_182 : decode cX11_fits 182 = .ok (.iload 4, 2) := by decide +kernel
theorem dX11_fits_184 : decode cX11_fits 184 = .ok (.ifCond .ne 8, 3) := by decide +kernel
theorem dX11_fits_187 : decode cX11_fits 187 = .ok (.iload 7, 2) := by decide +kernel
theorem dX11_fits_189 : decode cX11_fits 189 = .ok (.goto 16, 3) := by decide +kernel
theorem dX11_fits_192 : decode cX11_fits 192 = .ok (.iload 4, 2) := by decide +kernel
theorem dX11_fits_194 : decode cX11_fits 194 = .ok (.iconst 1, 1) := by decide +kernel
theorem dX11_fits_195 : decode cX11_fits 195 = .ok (.if_icmp .ne 8, 3) := by decide +kernel
theorem dX11_fits_198 : decode cX11_fits 198 = .ok (.iload 8, 2) := by decide +kernel
theorem dX11_fits_200 : decode cX11_fits 200 = .ok (.goto 5, 3) := by decide +kernel
theorem dX11_fits_203 : decode cX11_fits 203 = .ok (.iload 6, 2) := by decide +kernel
theorem dX11_fits_205 : decode cX11_fits 205 = .ok (.ireturn, 1) := by decide +kernel
set_option maxRecDepth 20000 in
theorem ggX11_noSheet_X11_in : GoodIn wsX11_noSheet wsX11_in := goodIn_r _ [5] (by decide +kernel) (by decide +kernel)
set_option maxRecDepth 20000 in
theorem gX11_noSheet_X11_in : GoodIn wsX11_noSheet (va_wsS RX11 67 yX11_in wsX11_in) := goodIn_app (goodIn_of _ (by decide +kernel)) ggX11_noSheet_X11_in
theorem dX11_noSheet_0 : decode cX11_noSheet 0 = .ok (.iload_n 0, 1) := by decide +kernel
theorem dX11_noSheet_1 : decode cX11_noSheet 1 = .ok (.i2l, 1) := by decide +kernel
theorem dX11_noSheet_2 : decode cX11_noSheet 2 = .ok (.lconst 0, 1) := by decide +kernel
theorem dX11_noSheet_3 : decode cX11_noSheet 3 = .ok (.ldc2_w 215, 3) := by decide +kernel
theorem dX11_noSheet_6 : decode cX11_noSheet 6 = .ok (.invokestatic 67, 3) := by decide +kernel
theorem dX11_noSheet_9 : decode cX11_noSheet 9 = .ok (.ifCond .ne 7, 3) := by decide +kernel
theorem dX11_noSheet_12 : decode cX11_noSheet 12 = .ok (.iconst 1, 1) := by decide +kernel
theorem dX11_noSheet_13 : decode cX11_noSheet 13 = .ok (.goto 4, 3) := by decide +kernel
theorem dX11_noSheet_16 : decode cX11_noSheet 16 = .ok (.iconst 0, 1) := by decide +kernel
theorem dX11_noSheet_17 : decode cX11_noSheet 17 = .ok (.ireturn, 1) := by decide +kernel
set_option maxRecDepth 20000 in
theorem ggX11_sheet_X11_noSheet : GoodIn wsX11_sheet wsX11_noSheet := goodIn_r _ [8, 9, 10, 11, 7, 12] (by decide +kernel) (by decide +kernel)
set_option maxRecDepth 20000 in
theorem gX11_sheet_X11_noSheet : GoodIn wsX11_sheet (va_wsS RX11 85 yX11_noSheet wsX11_noSheet) := goodIn_app (goodIn_of _ (by decide +kernel)) ggX11_sheet_X11_noSheet
set_option maxRecDepth 20000 in
theorem ggX11_sheet_X11_refused : GoodIn wsX11_sheet wsX11_refused := goodIn_r _ [16, 17, 22, 23, 24, 25, 26, 27, 28, 29, 30, 31, 32, 33, 34, 35, 36, 37, 38, 39, 40, 41, 42] (by decide +kernel) (by decide +kernel)
set_option maxRecDepth 20000 in
theorem gX11_sheet_X11_refused : GoodIn wsX11_sheet (wsV RX11 89 RX11 yX11_refused wsX11_refused) := goodIn_app (goodIn_of _ (by decide +kernel)) ggX11_sheet_X11_refused
set_option maxRecDepth 20000 in
theorem ggX11_sheet_X11_in : GoodIn wsX11_sheet wsX11_in := goodIn_r _ [12] (by decide +kernel) (by decide +kernel)
set_option maxRecDepth 20000 in
theorem gX11_sheet_X11_in : GoodIn wsX11_sheet (va_wsS RX11 67 yX11_in wsX11_in) := goodIn_app (goodIn_of _ (by decide +kernel)) ggX11_sheet_X11_in
set_option maxRecDepth 20000 in
theorem ggX11_sheet_X11_failed : GoodIn wsX11_sheet wsX11_failed := goodIn_r _ [21, 17, 22, 23, 24, 25, 26, 27, 28, 29, 30, 31, 32, 33, 34, 35, 36, 37, 38, 39, 40, 41, 42] (by decide +kernel) (by decide +kernel)
set_option maxRecDepth 20000 in
theorem gX11_sheet_X11_failed : GoodIn wsX11_sheet (wsV RX11 53 RX11 yX11_failed wsX11_failed) := goodIn_app (goodIn_of _ (by decide +kernel)) ggX11_sheet_X11_failed
theorem dX11_sheet_0 : decode cX11_sheet 0 = .ok (.iload_n 1, 1) := by decide +kernel
theorem dX11_sheet_1 : decode cX11_sheet 1 = .ok (.invokestatic 85, 3) := by decide +kernel
theorem dX11_sheet_4 : decode cX11_sheet 4 = .ok (.ifCond .eq 9, 3) := by decide +kernel
theorem dX11_sheet_7 : decode cX11_sheet 7 = .ok (.aload_n 0, 1) := by decide +kernel
theorem dX11_sheet_8 : decode cX11_sheet 8 = .ok (.iconst (-1), 1) := by decide +kernel
theorem dX11_sheet_9 : decode cX11_sheet 9 = .ok (.invokevirtual 89, 3) := by decide +kernel
theorem dX11_sheet_12 : decode cX11_sheet 12 = .ok (.ireturn, 1) := by decide +kernel
theorem dX11_sheet_13 : decode cX11_sheet 13 = .ok (.iload_n 2, 1) := by decide +kernel
theorem dX11_sheet_14 : decode cX11_sheet 14 = .ok (.i2l, 1) := by decide +kernel
theorem dX11_sheet_15 : decode cX11_sheet 15 = .ok (.lconst 0, 1) := by decide +kernel
theorem dX11_sheet_16 : decode cX11_sheet 16 = .ok (.ldc2_w 92, 3) := by decide +kernel
theorem dX11_sheet_19 : decode cX11_sheet 19 = .ok (.invokestatic 67, 3) := by decide +kernel
theorem dX11_sheet_22 : decode cX11_sheet 22 = .ok (.ifCond .eq 9, 3) := by decide +kernel
theorem dX11_sheet_25 : decode cX11_sheet 25 = .ok (.iload_n 3, 1) := by decide +kernel
theorem dX11_sheet_26 : decode cX11_sheet 26 = .ok (.bipush 60, 2) := by decide +kernel
theorem dX11_sheet_28 : decode cX11_sheet 28 = .ok (.if_icmp .le 10, 3) := by decide +kernel
theorem dX11_sheet_31 : decode cX11_sheet 31 = .ok (.aload_n 0, 1) := by decide +kernel
theorem dX11_sheet_32 : decode cX11_sheet 32 = .ok (.bipush (-2), 2) := by decide +kernel
theorem dX11_sheet_34 : decode cX11_sheet 34 = .ok (.invokevirtual 89, 3) := by decide +kernel
theorem dX11_sheet_37 : decode cX11_sheet 37 = .ok (.ireturn, 1) := by decide +kernel
theorem dX11_sheet_38 : decode cX11_sheet 38 = .ok (.iload_n 3, 1) := by decide +kernel
theorem dX11_sheet_39 : decode cX11_sheet 39 = .ok (.ifCond .ge 9, 3) := by decide +kernel
theorem dX11_sheet_42 : decode cX11_sheet 42 = .ok (.aload_n 0, 1) := by decide +kernel
theorem dX11_sheet_43 : decode cX11_sheet 43 = .ok (.iconst 4, 1) := by decide +kernel
theorem dX11_sheet_44 : decode cX11_sheet 44 = .ok (.invokevirtual 53, 3) := by decide +kernel
theorem dX11_sheet_47 : decode cX11_sheet 47 = .ok (.ireturn, 1) := by decide +kernel
theorem dX11_sheet_48 : decode cX11_sheet 48 = .ok (.aload_n 0, 1) := by decide +kernel
theorem dX11_sheet_49 : decode cX11_sheet 49 = .ok (.getfield 31, 3) := by decide +kernel
theorem dX11_sheet_52 : decode cX11_sheet 52 = .ok (.iload_n 1, 1) := by decide +kernel
theorem dX11_sheet_53 : decode cX11_sheet 53 = .ok (.iload_n 3, 1) := by decide +kernel
theorem dX11_sheet_54 : decode cX11_sheet 54 = .ok (.iastore, 1) := by decide +kernel
theorem dX11_sheet_55 : decode cX11_sheet 55 = .ok (.aload_n 0, 1) := by decide +kernel
theorem dX11_sheet_56 : decode cX11_sheet 56 = .ok (.getfield 34, 3) := by decide +kernel
theorem dX11_sheet_59 : decode cX11_sheet 59 = .ok (.iload_n 1, 1) := by decide +kernel
theorem dX11_sheet_60 : decode cX11_sheet 60 = .ok (.iload_n 2, 1) := by decide +kernel
theorem dX11_sheet_61 : decode cX11_sheet 61 = .ok (.iastore, 1) := by decide +kernel
theorem dX11_sheet_62 : decode cX11_sheet 62 = .ok (.iconst 0, 1) := by decide +kernel
theorem dX11_sheet_63 : decode cX11_sheet 63 = .ok (.istore 4, 2) := by decide +kernel
theorem dX11_sheet_65 : decode cX11_sheet 65 = .ok (.iload 4, 2) := by decide +kernel
theorem dX11_sheet_67 : decode cX11_sheet 67 = .ok (.iload_n 3, 1) := by decide +kernel
theorem dX11_sheet_68 : decode cX11_sheet 68 = .ok (.if_icmp .ge 22, 3) := by decide +kernel
theorem dX11_sheet_71 : decode cX11_sheet 71 = .ok (.aload_n 0, 1) := by decide +kernel
theorem dX11_sheet_72 : decode cX11_sheet 72 = .ok (.getfield 37, 3) := by decide +kernel
theorem dX11_sheet_75 : decode cX11_sheet 75 = .ok (.bipush 60, 2) := by decide +kernel
theorem dX11_sheet_77 : decode cX11_sheet 77 = .ok (.iload_n 1, 1) := by decide +kernel
theorem dX11_sheet_78 : decode cX11_sheet 78 = .ok (.imul, 1) := by decide +kernel
theorem dX11_sheet_79 : decode cX11_sheet 79 = .ok (.iload 4, 2) := by decide +kernel
theorem dX11_sheet_81 : decode cX11_sheet 81 = .ok (.iadd, 1) := by decide +kernel
theorem dX11_sheet_82 : decode cX11_sheet 82 = .ok (.iconst 0, 1) := by decide +kernel
theorem dX11_sheet_83 : decode cX11_sheet 83 = .ok (.iastore, 1) := by decide +kernel
theorem dX11_sheet_84 : decode cX11_sheet 84 = .ok (.iinc 4 1, 3) := by decide +kernel
theorem dX11_sheet_87 : decode cX11_sheet 87 = .ok (.goto (-22), 3) := by decide +kernel
theorem dX11_sheet_90 : decode cX11_sheet 90 = .ok (.aload_n 0, 1) := by decide +kernel
theorem dX11_sheet_91 : decode cX11_sheet 91 = .ok (.iconst 1, 1) := by decide +kernel
theorem dX11_sheet_92 : decode cX11_sheet 92 = .ok (.invokevirtual 89, 3) := by decide +kernel
theorem dX11_sheet_95 : decode cX11_sheet 95 = .ok (.ireturn, 1) := by decide +kernel
set_option maxRecDepth 20000 in
theorem ggX11_lose_X11_noSheet : GoodIn wsX11_lose wsX11_noSheet := goodIn_r _ [5, 6, 7, 8, 4, 9] (by decide +kernel) (by decide +kernel)
set_option maxRecDepth 20000 in
theorem gX11_lose_X11_noSheet : GoodIn wsX11_lose (va_wsS RX11 85 yX11_noSheet wsX11_noSheet) := goodIn_app (goodIn_of _ (by decide +kernel)) ggX11_lose_X11_noSheet
theorem dX11_lose_0 : decode cX11_lose 0 = .ok (.iload_n 1, 1) := by decide +kernel
theorem dX11_lose_1 : decode cX11_lose 1 = .ok (.invokestatic 85, 3) := by decide +kernel
theorem dX11_lose_4 : decode cX11_lose 4 = .ok (.ifCond .eq 5, 3) := by decide +kernel
theorem dX11_lose_7 : decode cX11_lose 7 = .ok (.iconst (-1), 1) := by decide +kernel
theorem dX11_lose_8 : decode cX11_lose 8 = .ok (.ireturn, 1) := by decide +kernel
theorem dX11_lose_9 : decode cX11_lose 9 = .ok (.aload_n 0, 1) := by decide +kernel
theorem dX11_lose_10 : decode cX11_lose 10 = .ok (.getfield 31, 3) := by decide +kernel
theorem dX11_lose_13 : decode cX11_lose 13 = .ok (.iload_n 1, 1) := by decide +kernel
theorem dX11_lose_14 : decode cX11_lose 14 = .ok (.iaload, 1) := by decide +kernel
theorem dX11_lose_15 : decode cX11_lose 15 = .ok (.ifCond .ge 7, 3) := by decide +kernel
theorem dX11_lose_18 : decode cX11_lose 18 = .ok (.iconst 0, 1) := by decide +kernel
theorem dX11_lose_19 : decode cX11_lose 19 = .ok (.goto 4, 3) := by decide +kernel
theorem dX11_lose_22 : decode cX11_lose 22 = .ok (.iconst 1, 1) := by decide +kernel
theorem dX11_lose_23 : decode cX11_lose 23 = .ok (.istore_n 2, 1) := by decide +kernel
theorem dX11_lose_24 : decode cX11_lose 24 = .ok (.aload_n 0, 1) := by decide +kernel
theorem dX11_lose_25 : decode cX11_lose 25 = .ok (.getfield 31, 3) := by decide +kernel
theorem dX11_lose_28 : decode cX11_lose 28 = .ok (.iload_n 1, 1) := by decide +kernel
theorem dX11_lose_29 : decode cX11_lose 29 = .ok (.iconst (-1), 1) := by decide +kernel
theorem dX11_lose_30 : decode cX11_lose 30 = .ok (.iastore, 1) := by decide +kernel
theorem dX11_lose_31 : decode cX11_lose 31 = .ok (.iload_n 2, 1) := by decide +kernel
theorem dX11_lose_32 : decode cX11_lose 32 = .ok (.ireturn, 1) := by decide +kernel
set_option maxRecDepth 20000 in
theorem ggX11_noCell_X11_in : GoodIn wsX11_noCell wsX11_in := goodIn_r _ [5] (by decide +kernel) (by decide +kernel)
set_option maxRecDepth 20000 in
theorem gX11_noCell_X11_in : GoodIn wsX11_noCell (va_wsS RX11 67 yX11_in wsX11_in) := goodIn_app (goodIn_of _ (by decide +kernel)) ggX11_noCell_X11_in
theorem dX11_noCell_0 : decode cX11_noCell 0 = .ok (.aload_n 0, 1) := by decide +kernel
theorem dX11_noCell_1 : decode cX11_noCell 1 = .ok (.getfield 31, 3) := by decide +kernel
theorem dX11_noCell_4 : decode cX11_noCell 4 = .ok (.iload_n 1, 1) := by decide +kernel
theorem dX11_noCell_5 : decode cX11_noCell 5 = .ok (.iaload, 1) := by decide +kernel
theorem dX11_noCell_6 : decode cX11_noCell 6 = .ok (.ifCond .ge 7, 3) := by decide +kernel
theorem dX11_noCell_9 : decode cX11_noCell 9 = .ok (.iconst 1, 1) := by decide +kernel
theorem dX11_noCell_10 : decode cX11_noCell 10 = .ok (.goto 26, 3) := by decide +kernel
theorem dX11_noCell_13 : decode cX11_noCell 13 = .ok (.iload_n 2, 1) := by decide +kernel
theorem dX11_noCell_14 : decode cX11_noCell 14 = .ok (.i2l, 1) := by decide +kernel
theorem dX11_noCell_15 : decode cX11_noCell 15 = .ok (.lconst 0, 1) := by decide +kernel
theorem dX11_noCell_16 : decode cX11_noCell 16 = .ok (.aload_n 0, 1) := by decide +kernel
theorem dX11_noCell_17 : decode cX11_noCell 17 = .ok (.getfield 31, 3) := by decide +kernel
theorem dX11_noCell_20 : decode cX11_noCell 20 = .ok (.iload_n 1, 1) := by decide +kernel
theorem dX11_noCell_21 : decode cX11_noCell 21 = .ok (.iaload, 1) := by decide +kernel
theorem dX11_noCell_22 : decode cX11_noCell 22 = .ok (.i2l, 1) := by decide +kernel
theorem dX11_noCell_23 : decode cX11_noCell 23 = .ok (.lconst 1, 1) := by decide +kernel
theorem dX11_noCell_24 : decode cX11_noCell 24 = .ok (.lsub, 1) := by decide +kernel
theorem dX11_noCell_25 : decode cX11_noCell 25 = .ok (.invokestatic 67, 3) := by decide +kernel
theorem dX11_noCell_28 : decode cX11_noCell 28 = .ok (.ifCond .eq 7, 3) := by decide +kernel
theorem dX11_noCell_31 : decode cX11_noCell 31 = .ok (.iconst 0, 1) := by decide +kernel
theorem dX11_noCell_32 : decode cX11_noCell 32 = .ok (.goto 4, 3) := by decide +kernel
theorem dX11_noCell_35 : decode cX11_noCell 35 = .ok (.iconst 3, 1) := by decide +kernel
theorem dX11_noCell_36 : decode cX11_noCell 36 = .ok (.ireturn, 1) := by decide +kernel
set_option maxRecDepth 20000 in
theorem ggX11_put_X11_noSheet : GoodIn wsX11_put wsX11_noSheet := goodIn_r _ [6, 7, 8, 9, 5, 10] (by decide +kernel) (by decide +kernel)
set_option maxRecDepth 20000 in
theorem gX11_put_X11_noSheet : GoodIn wsX11_put (va_wsS RX11 85 yX11_noSheet wsX11_noSheet) := goodIn_app (goodIn_of _ (by decide +kernel)) ggX11_put_X11_noSheet
set_option maxRecDepth 20000 in
theorem ggX11_put_X11_refused : GoodIn wsX11_put wsX11_refused := goodIn_r _ [14, 15, 25, 26, 27, 28, 29, 30, 31, 32, 33, 34, 35, 36, 37, 38, 39, 40, 41, 42, 43, 44, 45] (by decide +kernel) (by decide +kernel)
set_option maxRecDepth 20000 in
theorem gX11_put_X11_refused : GoodIn wsX11_put (wsV RX11 89 RX11 yX11_refused wsX11_refused) := goodIn_app (goodIn_of _ (by decide +kernel)) ggX11_put_X11_refused
set_option maxRecDepth 20000 in
theorem ggX11_put_X11_noCell : GoodIn wsX11_put wsX11_noCell := goodIn_r _ [19, 20, 8, 9, 5, 10, 25, 26, 27, 28, 29, 30, 31, 32, 33, 34, 35, 36, 37, 38, 39, 40, 41, 42, 43, 44, 45] (by decide +kernel) (by decide +kernel)
set_option maxRecDepth 20000 in
theorem gX11_put_X11_noCell : GoodIn wsX11_put (wsV RX11 217 RX11 yX11_noCell wsX11_noCell) := goodIn_app (goodIn_of _ (by decide +kernel)) ggX11_put_X11_noCell
set_option maxRecDepth 20000 in
theorem ggX11_put_X11_failed : GoodIn wsX11_put wsX11_failed := goodIn_r _ [24, 15, 25, 26, 27, 28, 29, 30, 31, 32, 33, 34, 35, 36, 37, 38, 39, 40, 41, 42, 43, 44, 45] (by decide +kernel) (by decide +kernel)
set_option maxRecDepth 20000 in
theorem gX11_put_X11_failed : GoodIn wsX11_put (wsV RX11 53 RX11 yX11_failed wsX11_failed) := goodIn_app (goodIn_of _ (by decide +kernel)) ggX11_put_X11_failed
theorem dX11_put_0 : decode cX11_put 0 = .ok (.iload_n 1, 1) := by decide +kernel
theorem dX11_put_1 : decode cX11_put 1 = .ok (.invokestatic 85, 3) := by decide +kernel
theorem dX11_put_4 : decode cX11_put 4 = .ok (.ifCond .eq 9, 3) := by decide +kernel
theorem dX11_put_7 : decode cX11_put 7 = .ok (.aload_n 0, 1) := by decide +kernel
theorem dX11_put_8 : decode cX11_put 8 = .ok (.iconst (-1), 1) := by decide +kernel
theorem dX11_put_9 : decode cX11_put 9 = .ok (.invokevirtual 89, 3) := by decide +kernel
theorem dX11_put_12 : decode cX11_put 12 = .ok (.ireturn, 1) := by decide +kernel
theorem dX11_put_13 : decode cX11_put 13 = .ok (.aload_n 0, 1) := by decide +kernel
theorem dX11_put_14 : decode cX11_put 14 = .ok (.iload_n 1, 1) := by decide +kernel
theorem dX11_put_15 : decode cX11_put 15 = .ok (.iload_n 2, 1) := by decide +kernel
theorem dX11_put_16 : decode cX11_put 16 = .ok (.invokevirtual 217, 3) := by decide +kernel
theorem dX11_put_19 : decode cX11_put 19 = .ok (.ifCond .le 14, 3) := by decide +kernel
theorem dX11_put_22 : decode cX11_put 22 = .ok (.aload_n 0, 1) := by decide +kernel
theorem dX11_put_23 : decode cX11_put 23 = .ok (.aload_n 0, 1) := by decide +kernel
theorem dX11_put_24 : decode cX11_put 24 = .ok (.iload_n 1, 1) := by decide +kernel
theorem dX11_put_25 : decode cX11_put 25 = .ok (.iload_n 2, 1) := by decide +kernel
theorem dX11_put_26 : decode cX11_put 26 = .ok (.invokevirtual 217, 3) := by decide +kernel
theorem dX11_put_29 : decode cX11_put 29 = .ok (.invokevirtual 53, 3) := by decide +kernel
theorem dX11_put_32 : decode cX11_put 32 = .ok (.ireturn, 1) := by decide +kernel
theorem dX11_put_33 : decode cX11_put 33 = .ok (.aload_n 0, 1) := by decide +kernel
theorem dX11_put_34 : decode cX11_put 34 = .ok (.getfield 37, 3) := by decide +kernel
theorem dX11_put_37 : decode cX11_put 37 = .ok (.bipush 60, 2) := by decide +kernel
theorem dX11_put_39 : decode cX11_put 39 = .ok (.iload_n 1, 1) := by decide +kernel
theorem dX11_put_40 : decode cX11_put 40 = .ok (.imul, 1) := by decide +kernel
theorem dX11_put_41 : decode cX11_put 41 = .ok (.iload_n 2, 1) := by decide +kernel
theorem dX11_put_42 : decode cX11_put 42 = .ok (.iadd, 1) := by decide +kernel
theorem dX11_put_43 : decode cX11_put 43 = .ok (.aload_n 0, 1) := by decide +kernel
theorem dX11_put_44 : decode cX11_put 44 = .ok (.getfield 34, 3) := by decide +kernel
theorem dX11_put_47 : decode cX11_put 47 = .ok (.iload_n 1, 1) := by decide +kernel
theorem dX11_put_48 : decode cX11_put 48 = .ok (.iaload, 1) := by decide +kernel
theorem dX11_put_49 : decode cX11_put 49 = .ok (.ifCond .ne 8, 3) := by decide +kernel
theorem dX11_put_52 : decode cX11_put 52 = .ok (.iload_n 3, 1) := by decide +kernel
theorem dX11_put_53 : decode cX11_put 53 = .ok (.i2b, 1) := by decide +kernel
theorem dX11_put_54 : decode cX11_put 54 = .ok (.goto 19, 3) := by decide +kernel
theorem dX11_put_57 : decode cX11_put 57 = .ok (.aload_n 0, 1) := by decide +kernel
theorem dX11_put_58 : decode cX11_put 58 = .ok (.getfield 34, 3) := by decide +kernel
theorem dX11_put_61 : decode cX11_put 61 = .ok (.iload_n 1, 1) := by decide +kernel
theorem dX11_put_62 : decode cX11_put 62 = .ok (.iaload, 1) := by decide +kernel
theorem dX11_put_63 : decode cX11_put 63 = .ok (.iconst 1, 1) := by decide +kernel
theorem dX11_put_64 : decode cX11_put 64 = .ok (.if_icmp .ne 8, 3) := by decide +kernel
theorem dX11_put_67 : decode cX11_put 67 = .ok (.iload_n 3, 1) := by decide +kernel
theorem dX11_put_68 : decode cX11_put 68 = .ok (.i2s, 1) := by decide +kernel
theorem dX11_put_69 : decode cX11_put 69 = .ok (.goto 4, 3) := by decide +kernel
theorem dX11_put_72 : decode cX11_put 72 = .ok (.iload_n 3, 1) := by decide +kernel
theorem dX11_put_73 : decode cX11_put 73 = .ok (.iastore, 1) := by decide +kernel
theorem dX11_put_74 : decode cX11_put 74 = .ok (.aload_n 0, 1) := by decide +kernel
theorem dX11_put_75 : decode cX11_put 75 = .ok (.iconst 1, 1) := by decide +kernel
theorem dX11_put_76 : decode cX11_put 76 = .ok (.invokevirtual 89, 3) := by decide +kernel
theorem dX11_put_79 : decode cX11_put 79 = .ok (.ireturn, 1) := by decide +kernel
set_option maxRecDepth 20000 in
theorem ggX11_cell_X11_noSheet : GoodIn wsX11_cell wsX11_noSheet := goodIn_r _ [9, 10, 11, 12, 8, 13] (by decide +kernel) (by decide +kernel)
set_option maxRecDepth 20000 in
theorem gX11_cell_X11_noSheet : GoodIn wsX11_cell (va_wsS RX11 85 yX11_noSheet wsX11_noSheet) := goodIn_app (goodIn_of _ (by decide +kernel)) ggX11_cell_X11_noSheet
set_option maxRecDepth 20000 in
theorem ggX11_cell_X11_in : GoodIn wsX11_cell wsX11_in := goodIn_r _ [13] (by decide +kernel) (by decide +kernel)
set_option maxRecDepth 20000 in
theorem gX11_cell_X11_in : GoodIn wsX11_cell (va_wsS RX11 67 yX11_in wsX11_in) := goodIn_app (goodIn_of _ (by decide +kernel)) ggX11_cell_X11_in
set_option maxRecDepth 20000 in
theorem ggX11_cell_X11_lost : GoodIn wsX11_cell wsX11_lost := goodIn_r _ [16, 17] (by decide +kernel) (by decide +kernel)
set_option maxRecDepth 20000 in
theorem gX11_cell_X11_lost : GoodIn wsX11_cell (va_wsS RX11 49 yX11_lost wsX11_lost) := goodIn_app (goodIn_of _ (by decide +kernel)) ggX11_cell_X11_lost
set_option maxRecDepth 20000 in
theorem ggX11_cell_X11_failedLong : GoodIn wsX11_cell wsX11_failedLong := goodIn_r _ [21, 1, 14, 15, 8, 16, 17, 26, 27, 28, 29, 30, 31, 32, 33, 34, 35, 36, 37, 38, 39, 40, 41, 42, 43, 44, 45, 46] (by decide +kernel) (by decide +kernel)
set_option maxRecDepth 20000 in
theorem gX11_cell_X11_failedLong : GoodIn wsX11_cell (wsV RX11 220 RX11 yX11_failedLong wsX11_failedLong) := goodIn_app (goodIn_of _ (by decide +kernel)) ggX11_cell_X11_failedLong
set_option maxRecDepth 20000 in
theorem ggX11_cell_X11_noCell : GoodIn wsX11_cell wsX11_noCell := goodIn_r _ [25, 3, 11, 12, 8, 13, 26, 27, 28, 29, 30, 31, 32, 33, 34, 35, 36, 37, 38, 39, 40, 41, 42, 43, 44, 45, 46] (by decide +kernel) (by decide +kernel)
set_option maxRecDepth 20000 in
theorem gX11_cell_X11_noCell : GoodIn wsX11_cell (wsV RX11 217 RX11 yX11_noCell wsX11_noCell) := goodIn_app (goodIn_of _ (by decide +kernel)) ggX11_cell_X11_noCell
theorem dX11_cell_0 : decode cX11_cell 0 = .ok (.aload_n 0, 1) := by decide +kernel
theorem dX11_cell_1 : decode cX11_cell 1 = .ok (.iconst 0, 1) := by decide +kernel
theorem dX11_cell_2 : decode cX11_cell 2 = .ok (.putfield 45, 3) := by decide +kernel
theorem dX11_cell_5 : decode cX11_cell 5 = .ok (.iload_n 1, 1) := by decide +kernel
theorem dX11_cell_6 : decode cX11_cell 6 = .ok (.invokestatic 85, 3) := by decide +kernel
theorem dX11_cell_9 : decode cX11_cell 9 = .ok (.ifCond .ne 15, 3) := by decide +kernel
theorem dX11_cell_12 : decode cX11_cell 12 = .ok (.iload_n 3, 1) := by decide +kernel
theorem dX11_cell_13 : decode cX11_cell 13 = .ok (.i2l, 1) := by decide +kernel
theorem dX11_cell_14 : decode cX11_cell 14 = .ok (.lconst 0, 1) := by decide +kernel
theorem dX11_cell_15 : decode cX11_cell 15 = .ok (.ldc2_w 92, 3) := by decide +kernel
theorem dX11_cell_18 : decode cX11_cell 18 = .ok (.invokestatic 67, 3) := by decide +kernel
theorem dX11_cell_21 : decode cX11_cell 21 = .ok (.ifCond .ne 7, 3) := by decide +kernel
theorem dX11_cell_24 : decode cX11_cell 24 = .ok (.invokestatic 49, 3) := by decide +kernel
theorem dX11_cell_27 : decode cX11_cell 27 = .ok (.lreturn, 1) := by decide +kernel
theorem dX11_cell_28 : decode cX11_cell 28 = .ok (.aload_n 0, 1) := by decide +kernel
theorem dX11_cell_29 : decode cX11_cell 29 = .ok (.getfield 31, 3) := by decide +kernel
theorem dX11_cell_32 : decode cX11_cell 32 = .ok (.iload_n 1, 1) := by decide +kernel
theorem dX11_cell_33 : decode cX11_cell 33 = .ok (.iaload, 1) := by decide +kernel
theorem dX11_cell_34 : decode cX11_cell 34 = .ok (.ifCond .lt 19, 3) := by decide +kernel
theorem dX11_cell_37 : decode cX11_cell 37 = .ok (.aload_n 0, 1) := by decide +kernel
theorem dX11_cell_38 : decode cX11_cell 38 = .ok (.getfield 34, 3) := by decide +kernel
theorem dX11_cell_41 : decode cX11_cell 41 = .ok (.iload_n 1, 1) := by decide +kernel
theorem dX11_cell_42 : decode cX11_cell 42 = .ok (.iaload, 1) := by decide +kernel
theorem dX11_cell_43 : decode cX11_cell 43 = .ok (.iload_n 3, 1) := by decide +kernel
theorem dX11_cell_44 : decode cX11_cell 44 = .ok (.if_icmp .eq 9, 3) := by decide +kernel
theorem dX11_cell_47 : decode cX11_cell 47 = .ok (.aload_n 0, 1) := by decide +kernel
theorem dX11_cell_48 : decode cX11_cell 48 = .ok (.iconst 2, 1) := by decide +kernel
theorem dX11_cell_49 : decode cX11_cell 49 = .ok (.invokevirtual 220, 3) := by decide +kernel
theorem dX11_cell_52 : decode cX11_cell 52 = .ok (.lreturn, 1) := by decide +kernel
theorem dX11_cell_53 : decode cX11_cell 53 = .ok (.aload_n 0, 1) := by decide +kernel
theorem dX11_cell_54 : decode cX11_cell 54 = .ok (.iload_n 1, 1) := by decide +kernel
theorem dX11_cell_55 : decode cX11_cell 55 = .ok (.iload_n 2, 1) := by decide +kernel
theorem dX11_cell_56 : decode cX11_cell 56 = .ok (.invokevirtual 217, 3) := by decide +kernel
theorem dX11_cell_59 : decode cX11_cell 59 = .ok (.ifCond .le 16, 3) := by decide +kernel
theorem dX11_cell_62 : decode cX11_cell 62 = .ok (.aload_n 0, 1) := by decide +kernel
theorem dX11_cell_63 : decode cX11_cell 63 = .ok (.aload_n 0, 1) := by decide +kernel
theorem dX11_cell_64 : decode cX11_cell 64 = .ok (.iload_n 1, 1) := by decide +kernel
theorem dX11_cell_65 : decode cX11_cell 65 = .ok (.iload_n 2, 1) := by decide +kernel
theorem dX11_cell_66 : decode cX11_cell 66 = .ok (.invokevirtual 217, 3) := by decide +kernel
theorem dX11_cell_69 : decode cX11_cell 69 = .ok (.invokevirtual 220, 3) := by decide +kernel
theorem dX11_cell_72 : decode cX11_cell 72 = .ok (.goto 15, 3) := by decide +kernel
theorem dX11_cell_75 : decode cX11_cell 75 = .ok (.aload_n 0, 1) := by decide +kernel
theorem dX11_cell_76 : decode cX11_cell 76 = .ok (.getfield 37, 3) := by decide +kernel
theorem dX11_cell_79 : decode cX11_cell 79 = .ok (.bipush 60, 2) := by decide +kernel
theorem dX11_cell_81 : decode cX11_cell 81 = .ok (.iload_n 1, 1) := by decide +kernel
theorem dX11_cell_82 : decode cX11_cell 82 = .ok (.imul, 1) := by decide +kernel
theorem dX11_cell_83 : decode cX11_cell 83 = .ok (.iload_n 2, 1) := by decide +kernel
theorem dX11_cell_84 : decode cX11_cell 84 = .ok (.iadd, 1) := by decide +kernel
theorem dX11_cell_85 : decode cX11_cell 85 = .ok (.iaload, 1) := by decide +kernel
theorem dX11_cell_86 : decode cX11_cell 86 = .ok (.i2l, 1) := by decide +kernel
theorem dX11_cell_87 : decode cX11_cell 87 = .ok (.lreturn, 1) := by decide +kernel
theorem dX11_isBeyond_0 : decode cX11_isBeyond 0 = .ok (.iload_n 0, 1) := by decide +kernel
theorem dX11_isBeyond_1 : decode cX11_isBeyond 1 = .ok (.ifCond .lt 19, 3) := by decide +kernel
theorem dX11_isBeyond_4 : decode cX11_isBeyond 4 = .ok (.lload_n 1, 1) := by decide +kernel
theorem dX11_isBeyond_5 : decode cX11_isBeyond 5 = .ok (.lconst 0, 1) := by decide +kernel
theorem dX11_isBeyond_6 : decode cX11_isBeyond 6 = .ok (.lcmp, 1) := by decide +kernel
theorem dX11_isBeyond_7 : decode cX11_isBeyond 7 = .ok (.ifCond .lt 13, 3) := by decide +kernel
theorem dX11_isBeyond_10 : decode cX11_isBeyond 10 = .ok (.iload_n 0, 1) := by decide +kernel
theorem dX11_isBeyond_11 : decode cX11_isBeyond 11 = .ok (.i2l, 1) := by decide +kernel
theorem dX11_isBeyond_12 : decode cX11_isBeyond 12 = .ok (.lload_n 1, 1) := by decide +kernel
theorem dX11_isBeyond_13 : decode cX11_isBeyond 13 = .ok (.ladd, 1) := by decide +kernel
theorem dX11_isBeyond_14 : decode cX11_isBeyond 14 = .ok (.iload_n 3, 1) := by decide +kernel
theorem dX11_isBeyond_15 : decode cX11_isBeyond 15 = .ok (.i2l, 1) := by decide +kernel
theorem dX11_isBeyond_16 : decode cX11_isBeyond 16 = .ok (.lcmp, 1) := by decide +kernel
theorem dX11_isBeyond_17 : decode cX11_isBeyond 17 = .ok (.ifCond .le 7, 3) := by decide +kernel
theorem dX11_isBeyond_20 : decode cX11_isBeyond 20 = .ok (.iconst 1, 1) := by decide +kernel
theorem dX11_isBeyond_21 : decode cX11_isBeyond 21 = .ok (.goto 4, 3) := by decide +kernel
theorem dX11_isBeyond_24 : decode cX11_isBeyond 24 = .ok (.iconst 0, 1) := by decide +kernel
theorem dX11_isBeyond_25 : decode cX11_isBeyond 25 = .ok (.ireturn, 1) := by decide +kernel
set_option maxRecDepth 20000 in
theorem ggX11_copy_X11_noSheet : GoodIn wsX11_copy wsX11_noSheet := goodIn_r _ [8, 9, 10, 11, 7, 12] (by decide +kernel) (by decide +kernel)
set_option maxRecDepth 20000 in
theorem gX11_copy_X11_noSheet : GoodIn wsX11_copy (va_wsS RX11 85 yX11_noSheet wsX11_noSheet) := goodIn_app (goodIn_of _ (by decide +kernel)) ggX11_copy_X11_noSheet
set_option maxRecDepth 20000 in
theorem ggX11_copy_X11_refused : GoodIn wsX11_copy wsX11_refused := goodIn_r _ [16, 17, 25, 26, 27, 28, 29, 30, 31, 32, 33, 34, 35, 36, 37, 38, 39, 40, 41, 42, 43, 44, 45] (by decide +kernel) (by decide +kernel)
set_option maxRecDepth 20000 in
theorem gX11_copy_X11_refused : GoodIn wsX11_copy (wsV RX11 89 RX11 yX11_refused wsX11_refused) := goodIn_app (goodIn_of _ (by decide +kernel)) ggX11_copy_X11_refused
set_option maxRecDepth 20000 in
theorem ggX11_copy_X11_failed : GoodIn wsX11_copy wsX11_failed := goodIn_r _ [21, 17, 25, 26, 27, 28, 29, 30, 31, 32, 33, 34, 35, 36, 37, 38, 39, 40, 41, 42, 43, 44, 45] (by decide +kernel) (by decide +kernel)
set_option maxRecDepth 20000 in
theorem gX11_copy_X11_failed : GoodIn wsX11_copy (wsV RX11 53 RX11 yX11_failed wsX11_failed) := goodIn_app (goodIn_of _ (by decide +kernel)) ggX11_copy_X11_failed
set_option maxRecDepth 20000 in
theorem ggX11_copy_X11_isBeyond : GoodIn wsX11_copy wsX11_isBeyond := goodIn_r _ [24] (by decide +kernel) (by decide +kernel)
set_option maxRecDepth 20000 in
theorem gX11_copy_X11_isBeyond : GoodIn wsX11_copy (va_wsS RX11 57 yX11_isBeyond wsX11_isBeyond) := goodIn_app (goodIn_of _ (by decide +kernel)) ggX11_copy_X11_isBeyond
theorem dX11_copy_0 : decode cX11_copy 0 = .ok (.iload_n 1, 1) := by decide +kernel
theorem dX11_copy_1 : decode cX11_copy 1 = .ok (.invokestatic 85, 3) := by decide +kernel
theorem dX11_copy_4 : decode cX11_copy 4 = .ok (.ifCond .ne 10, 3) := by decide +kernel
theorem dX11_copy_7 : decode cX11_copy 7 = .ok (.iload_n 3, 1) := by decide +kernel
theorem dX11_copy_8 : decode cX11_copy 8 = .ok (.invokestatic 85, 3) := by decide +kernel
theorem dX11_copy_11 : decode cX11_copy 11 = .ok (.ifCond .eq 9, 3) := by decide +kernel
theorem dX11_copy_14 : decode cX11_copy 14 = .ok (.aload_n 0, 1) := by decide +kernel
theorem dX11_copy_15 : decode cX11_copy 15 = .ok (.iconst (-1), 1) := by decide +kernel
theorem dX11_copy_16 : decode cX11_copy 16 = .ok (.invokevirtual 89, 3) := by decide +kernel
theorem dX11_copy_19 : decode cX11_copy 19 = .ok (.ireturn, 1) := by decide +kernel
theorem dX11_copy_20 : decode cX11_copy 20 = .ok (.aload_n 0, 1) := by decide +kernel
theorem dX11_copy_21 : decode cX11_copy 21 = .ok (.getfield 31, 3) := by decide +kernel
theorem dX11_copy_24 : decode cX11_copy 24 = .ok (.iload_n 1, 1) := by decide +kernel
theorem dX11_copy_25 : decode cX11_copy 25 = .ok (.iaload, 1) := by decide +kernel
theorem dX11_copy_26 : decode cX11_copy 26 = .ok (.ifCond .lt 12, 3) := by decide +kernel
theorem dX11_copy_29 : decode cX11_copy 29 = .ok (.aload_n 0, 1) := by decide +kernel
theorem dX11_copy_30 : decode cX11_copy 30 = .ok (.getfield 31, 3) := by decide +kernel
theorem dX11_copy_33 : decode cX11_copy 33 = .ok (.iload_n 3, 1) := by decide +kernel
theorem dX11_copy_34 : decode cX11_copy 34 = .ok (.iaload, 1) := by decide +kernel
theorem dX11_copy_35 : decode cX11_copy 35 = .ok (.ifCond .ge 9, 3) := by decide +kernel
theorem dX11_copy_38 : decode cX11_copy 38 = .ok (.aload_n 0, 1) := by decide +kernel
theorem dX11_copy_39 : decode cX11_copy 39 = .ok (.iconst 1, 1) := by decide +kernel
theorem dX11_copy_40 : decode cX11_copy 40 = .ok (.invokevirtual 53, 3) := by decide +kernel
theorem dX11_copy_43 : decode cX11_copy 43 = .ok (.ireturn, 1) := by decide +kernel
theorem dX11_copy_44 : decode cX11_copy 44 = .ok (.aload_n 0, 1) := by decide +kernel
theorem dX11_copy_45 : decode cX11_copy 45 = .ok (.getfield 34, 3) := by decide +kernel
theorem dX11_copy_48 : decode cX11_copy 48 = .ok (.iload_n 1, 1) := by decide +kernel
theorem dX11_copy_49 : decode cX11_copy 49 = .ok (.iaload, 1) := by decide +kernel
theorem dX11_copy_50 : decode cX11_copy 50 = .ok (.aload_n 0, 1) := by decide +kernel
theorem dX11_copy_51 : decode cX11_copy 51 = .ok (.getfield 34, 3) := by decide +kernel
theorem dX11_copy_54 : decode cX11_copy 54 = .ok (.iload_n 3, 1) := by decide +kernel
theorem dX11_copy_55 : decode cX11_copy 55 = .ok (.iaload, 1) := by decide +kernel
theorem dX11_copy_56 : decode cX11_copy 56 = .ok (.if_icmp .eq 9, 3) := by decide +kernel
theorem dX11_copy_59 : decode cX11_copy 59 = .ok (.aload_n 0, 1) := by decide +kernel
theorem dX11_copy_60 : decode cX11_copy 60 = .ok (.iconst 2, 1) := by decide +kernel
theorem dX11_copy_61 : decode cX11_copy 61 = .ok (.invokevirtual 53, 3) := by decide +kernel
theorem dX11_copy_64 : decode cX11_copy 64 = .ok (.ireturn, 1) := by decide +kernel
theorem dX11_copy_65 : decode cX11_copy 65 = .ok (.iload_n 2, 1) := by decide +kernel
theorem dX11_copy_66 : decode cX11_copy 66 = .ok (.iload 5, 2) := by decide +kernel
theorem dX11_copy_68 : decode cX11_copy 68 = .ok (.i2l, 1) := by decide +kernel
theorem dX11_copy_69 : decode cX11_copy 69 = .ok (.aload_n 0, 1) := by decide +kernel
theorem dX11_copy_70 : decode cX11_copy 70 = .ok (.getfield 31, 3) := by decide +kernel
theorem dX11_copy_73 : decode cX11_copy 73 = .ok (.iload_n 1, 1) := by decide +kernel
theorem dX11_copy_74 : decode cX11_copy 74 = .ok (.iaload, 1) := by decide +kernel
theorem dX11_copy_75 : decode cX11_copy 75 = .ok (.invokestatic 57, 3) := by decide +kernel
theorem dX11_copy_78 : decode cX11_copy 78 = .ok (.ifCond .ne 20, 3) := by decide +kernel
theorem dX11_copy_81 : decode cX11_copy 81 = .ok (.iload 4, 2) := by decide +kernel
theorem dX11_copy_83 : decode cX11_copy 83 = .ok (.iload 5, 2) := by decide +kernel
theorem dX11_copy_85 : decode cX11_copy 85 = .ok (.i2l, 1) := by decide +kernel
theorem dX11_copy_86 : decode cX11_copy 86 = .ok (.aload_n 0, 1) := by decide +kernel
theorem dX11_copy_87 : decode cX11_copy 87 = .ok (.getfield 31, 3) := by decide +kernel
theorem dX11_copy_90 : decode cX11_copy 90 = .ok (.iload_n 3, 1) := by decide +kernel
theorem dX11_copy_91 : decode cX11_copy 91 = .ok (.iaload, 1) := by decide +kernel
theorem dX11_copy_92 : decode cX11_copy 92 = .ok (.invokestatic 57, 3) := by decide +kernel
theorem dX11_copy_95 : decode cX11_copy 95 = .ok (.ifCond .eq 9, 3) := by decide +kernel
theorem dX11_copy_98 : decode cX11_copy 98 = .ok (.aload_n 0, 1) := by decide +kernel
theorem dX11_copy_99 : decode cX11_copy 99 = .ok (.iconst 3, 1) := by decide +kernel
theorem dX11_copy_100 : decode cX11_copy 100 = .ok (.invokevirtual 53, 3) := by decide +kernel
theorem dX11_copy_103 : decode cX11_copy 103 = .ok (.ireturn, 1) := by decide +kernel
theorem dX11_copy_104 : decode cX11_copy 104 = .ok (.iconst 0, 1) := by decide +kernel
theorem dX11_copy_105 : decode cX11_copy 105 = .ok (.istore 6, 2) := by decide +kernel
theorem dX11_copy_107 : decode cX11_copy 107 = .ok (.iload 6, 2) := by decide +kernel
theorem dX11_copy_109 : decode cX11_copy 109 = .ok (.iload 5, 2) := by decide +kernel
theorem dX11_copy_111 : decode cX11_copy 111 = .ok (.if_icmp .ge 30, 3) := by decide +kernel
theorem dX11_copy_114 : decode cX11_copy 114 = .ok (.aload_n 0, 1) := by decide +kernel
theorem dX11_copy_115 : decode cX11_copy 115 = .ok (.getfield 40, 3) := by decide +kernel
theorem dX11_copy_118 : decode cX11_copy 118 = .ok (.iload 6, 2) := by decide +kernel
theorem dX11_copy_120 : decode cX11_copy 120 = .ok (.aload_n 0, 1) := by decide +kernel
theorem dX11_copy_121 : decode cX11_copy 121 = .ok (.getfield 37, 3) := by decide +kernel
theorem dX11_copy_124 : decode cX11_copy 124 = .ok (.bipush 60, 2) := by decide +kernel
theorem dX11_copy_126 : decode cX11_copy 126 = .ok (.iload_n 1, 1) := by decide +kernel
theorem dX11_copy_127 : decode cX11_copy 127 = .ok (.imul, 1) := by decide +kernel
theorem dX11_copy_128 : decode cX11_copy 128 = .ok (.iload_n 2, 1) := by decide +kernel
theorem dX11_copy_129 : decode cX11_copy 129 = .ok (.iadd, 1) := by decide +kernel
theorem dX11_copy_130 : decode cX11_copy 130 = .ok (.iload 6, 2) := by decide +kernel
theorem dX11_copy_132 : decode cX11_copy 132 = .ok (.iadd, 1) := by decide +kernel
theorem dX11_copy_133 : decode cX11_copy 133 = .ok (.iaload, 1) := by decide +kernel
theorem dX11_copy_134 : decode cX11_copy 134 = .ok (.iastore, 1) := by decide +kernel
theorem dX11_copy_135 : decode cX11_copy 135 = .ok (.iinc 6 1, 3) := by decide +kernel
theorem dX11_copy_138 : decode cX11_copy 138 = .ok (.goto (-31), 3) := by decide +kernel
theorem dX11_copy_141 : decode cX11_copy 141 = .ok (.iconst 0, 1) := by decide +kernel
theorem dX11_copy_142 : decode cX11_copy 142 = .ok (.istore 6, 2) := by decide +kernel
theorem dX11_copy_144 : decode cX11_copy 144 = .ok (.iload 6, 2) := by decide +kernel
theorem dX11_copy_146 : decode cX11_copy 146 = .ok (.iload 5, 2) := by decide +kernel
theorem dX11_copy_148 : decode cX11_copy 148 = .ok (.if_icmp .ge 31, 3) := by decide +kernel
theorem dX11_copy_151 : decode cX11_copy 151 = .ok (.aload_n 0, 1) := by decide +kernel
theorem dX11_copy_152 : decode cX11_copy 152 = .ok (.getfield 37, 3) := by decide +kernel
theorem dX11_copy_155 : decode cX11_copy 155 = .ok (.bipush 60, 2) := by decide +kernel
theorem dX11_copy_157 : decode cX11_copy 157 = .ok (.iload_n 3, 1) := by decide +kernel
theorem dX11_copy_158 : decode cX11_copy 158 = .ok (.imul, 1) := by decide +kernel
theorem dX11_copy_159 : decode cX11_copy 159 = .ok (.iload 4, 2) := by decide +kernel
theorem dX11_copy_161 : decode cX11_copy 161 = .ok (.iadd, 1) := by decide +kernel
theorem dX11_copy_162 : decode cX11_copy 162 = .ok (.iload 6, 2) := by decide +kernel
theorem dX11_copy_164 : decode cX11_copy 164 = .ok (.iadd, 1) := by decide +kernel
theorem dX11_copy_165 : decode cX11_copy 165 = .ok (.aload_n 0, 1) := by decide +kernel
theorem dX11_copy_166 : decode cX11_copy 166 = .ok (.getfield 40, 3) := by decide +kernel
theorem dX11_copy_169 : decode cX11_copy 169 = .ok (.iload 6, 2) := by decide +kernel
theorem dX11_copy_171 : decode cX11_copy 171 = .ok (.iaload, 1) := by decide +kernel
theorem dX11_copy_172 : decode cX11_copy 172 = .ok (.iastore, 1) := by decide +kernel
theorem dX11_copy_173 : decode cX11_copy 173 = .ok (.iinc 6 1, 3) := by decide +kernel
theorem dX11_copy_176 : decode cX11_copy 176 = .ok (.goto (-32), 3) := by decide +kernel
theorem dX11_copy_179 : decode cX11_copy 179 = .ok (.aload_n 0, 1) := by decide +kernel
theorem dX11_copy_180 : decode cX11_copy 180 = .ok (.iload 5, 2) := by decide +kernel
theorem dX11_copy_182 : decode cX11_copy 182 = .ok (.invokevirtual 89, 3) := by decide +kernel
theorem dX11_copy_185 : decode cX11_copy 185 = .ok (.ireturn, 1) := by decide +kernel
theorem dX11_traced_0 : decode cX11_traced 0 = .ok (.aload_n 0, 1) := by decide +kernel
theorem dX11_traced_1 : decode cX11_traced 1 = .ok (.bipush 31, 2) := by decide +kernel
theorem dX11_traced_3 : decode cX11_traced 3 = .ok (.aload_n 0, 1) := by decide +kernel
theorem dX11_traced_4 : decode cX11_traced 4 = .ok (.getfield 223, 3) := by decide +kernel
theorem dX11_traced_7 : decode cX11_traced 7 = .ok (.imul, 1) := by decide +kernel
theorem dX11_traced_8 : decode cX11_traced 8 = .ok (.iload_n 1, 1) := by decide +kernel
theorem dX11_traced_9 : decode cX11_traced 9 = .ok (.iadd, 1) := by decide +kernel
theorem dX11_traced_10 : decode cX11_traced 10 = .ok (.putfield 223, 3) := by decide +kernel
theorem dX11_traced_13 : decode cX11_traced 13 = .ok (.return_, 1) := by decide +kernel
set_option maxRecDepth 20000 in
theorem ggX11_tell_X11_noMill : GoodIn wsX11_tell wsX11_noMill := goodIn_r _ [6, 7, 8, 9, 5, 10, 21, 22, 23, 24, 25, 26, 27, 28, 29, 30, 31, 32, 33, 34, 35, 36, 37, 38, 39, 40, 41] (by decide +kernel) (by decide +kernel)
set_option maxRecDepth 20000 in
theorem gX11_tell_X11_noMill : GoodIn wsX11_tell (wsV RX11 105 RX11 yX11_noMill wsX11_noMill) := goodIn_app (goodIn_of _ (by decide +kernel)) ggX11_tell_X11_noMill
set_option maxRecDepth 20000 in
theorem ggX11_tell_X11_traced : GoodIn wsX11_tell wsX11_traced := goodIn_r _ [14, 15, 21, 22, 23, 24, 25, 26, 27, 28, 29, 30, 31, 32, 33, 34, 35, 36, 37, 38, 39, 40, 41] (by decide +kernel) (by decide +kernel)
set_option maxRecDepth 20000 in
theorem gX11_tell_X11_traced : GoodIn wsX11_tell (wsV RX11 226 RX11 yX11_traced wsX11_traced) := goodIn_app (goodIn_of _ (by decide +kernel)) ggX11_tell_X11_traced
set_option maxRecDepth 20000 in
theorem ggX11_tell_X11_of : GoodIn wsX11_tell wsX11_of := goodIn_r _ [19, 20, 21, 22, 23, 24, 25, 26, 27, 28, 29, 30, 31, 32, 33, 34, 35, 36, 37, 38, 39, 40, 41] (by decide +kernel) (by decide +kernel)
set_option maxRecDepth 20000 in
theorem gX11_tell_X11_of : GoodIn wsX11_tell (wsV RX11 110 RX11 yX11_of wsX11_of) := goodIn_app (goodIn_of _ (by decide +kernel)) ggX11_tell_X11_of
theorem dX11_tell_0 : decode cX11_tell 0 = .ok (.aload_n 0, 1) := by decide +kernel
theorem dX11_tell_1 : decode cX11_tell 1 = .ok (.iload_n 1, 1) := by decide +kernel
theorem dX11_tell_2 : decode cX11_tell 2 = .ok (.invokevirtual 105, 3) := by decide +kernel
theorem dX11_tell_5 : decode cX11_tell 5 = .ok (.ifCond .eq 5, 3) := by decide +kernel
theorem dX11_tell_8 : decode cX11_tell 8 = .ok (.iconst (-1), 1) := by decide +kernel
theorem dX11_tell_9 : decode cX11_tell 9 = .ok (.ireturn, 1) := by decide +kernel
theorem dX11_tell_10 : decode cX11_tell 10 = .ok (.aload_n 0, 1) := by decide +kernel
theorem dX11_tell_11 : decode cX11_tell 11 = .ok (.getfield 7, 3) := by decide +kernel
theorem dX11_tell_14 : decode cX11_tell 14 = .ok (.iload_n 1, 1) := by decide +kernel
theorem dX11_tell_15 : decode cX11_tell 15 = .ok (.iaload, 1) := by decide +kernel
theorem dX11_tell_16 : decode cX11_tell 16 = .ok (.istore_n 2, 1) := by decide +kernel
theorem dX11_tell_17 : decode cX11_tell 17 = .ok (.iload_n 2, 1) := by decide +kernel
theorem dX11_tell_18 : decode cX11_tell 18 = .ok (.iconst 2, 1) := by decide +kernel
theorem dX11_tell_19 : decode cX11_tell 19 = .ok (.if_icmp .ne 8, 3) := by decide +kernel
theorem dX11_tell_22 : decode cX11_tell 22 = .ok (.aload_n 0, 1) := by decide +kernel
theorem dX11_tell_23 : decode cX11_tell 23 = .ok (.iconst 3, 1) := by decide +kernel
theorem dX11_tell_24 : decode cX11_tell 24 = .ok (.invokevirtual 226, 3) := by decide +kernel
theorem dX11_tell_27 : decode cX11_tell 27 = .ok (.iload_n 2, 1) := by decide +kernel
theorem dX11_tell_28 : decode cX11_tell 28 = .ok (.ifCond .le 8, 3) := by decide +kernel
theorem dX11_tell_31 : decode cX11_tell 31 = .ok (.aload_n 0, 1) := by decide +kernel
theorem dX11_tell_32 : decode cX11_tell 32 = .ok (.iconst 2, 1) := by decide +kernel
theorem dX11_tell_33 : decode cX11_tell 33 = .ok (.invokevirtual 226, 3) := by decide +kernel
theorem dX11_tell_36 : decode cX11_tell 36 = .ok (.aload_n 0, 1) := by decide +kernel
theorem dX11_tell_37 : decode cX11_tell 37 = .ok (.iconst 1, 1) := by decide +kernel
theorem dX11_tell_38 : decode cX11_tell 38 = .ok (.invokevirtual 226, 3) := by decide +kernel
theorem dX11_tell_41 : decode cX11_tell 41 = .ok (.iload_n 2, 1) := by decide +kernel
theorem dX11_tell_42 : decode cX11_tell 42 = .ok (.iconst 2, 1) := by decide +kernel
theorem dX11_tell_43 : decode cX11_tell 43 = .ok (.if_icmp .ne 8, 3) := by decide +kernel
theorem dX11_tell_46 : decode cX11_tell 46 = .ok (.aload_n 0, 1) := by decide +kernel
theorem dX11_tell_47 : decode cX11_tell 47 = .ok (.iconst 1, 1) := by decide +kernel
theorem dX11_tell_48 : decode cX11_tell 48 = .ok (.invokevirtual 226, 3) := by decide +kernel
theorem dX11_tell_51 : decode cX11_tell 51 = .ok (.aload_n 0, 1) := by decide +kernel
theorem dX11_tell_52 : decode cX11_tell 52 = .ok (.iload_n 1, 1) := by decide +kernel
theorem dX11_tell_53 : decode cX11_tell 53 = .ok (.iconst 0, 1) := by decide +kernel
theorem dX11_tell_54 : decode cX11_tell 54 = .ok (.invokevirtual 110, 3) := by decide +kernel
theorem dX11_tell_57 : decode cX11_tell 57 = .ok (.istore_n 3, 1) := by decide +kernel
theorem dX11_tell_58 : decode cX11_tell 58 = .ok (.iload_n 2, 1) := by decide +kernel
theorem dX11_tell_59 : decode cX11_tell 59 = .ok (.ifCond .ne 7, 3) := by decide +kernel
theorem dX11_tell_62 : decode cX11_tell 62 = .ok (.iload_n 3, 1) := by decide +kernel
theorem dX11_tell_63 : decode cX11_tell 63 = .ok (.goto 21, 3) := by decide +kernel
theorem dX11_tell_66 : decode cX11_tell 66 = .ok (.iload_n 2, 1) := by decide +kernel
theorem dX11_tell_67 : decode cX11_tell 67 = .ok (.iconst 1, 1) := by decide +kernel
theorem dX11_tell_68 : decode cX11_tell 68 = .ok (.if_icmp .ne 10, 3) := by decide +kernel
theorem dX11_tell_71 : decode cX11_tell 71 = .ok (.iload_n 3, 1) := by decide +kernel
theorem dX11_tell_72 : decode cX11_tell 72 = .ok (.bipush 100, 2) := by decide +kernel
theorem dX11_tell_74 : decode cX11_tell 74 = .ok (.iadd, 1) := by decide +kernel
theorem dX11_tell_75 : decode cX11_tell 75 = .ok (.goto 9, 3) := by decide +kernel
theorem dX11_tell_78 : decode cX11_tell 78 = .ok (.iconst 2, 1) := by decide +kernel
theorem dX11_tell_79 : decode cX11_tell 79 = .ok (.iload_n 3, 1) := by decide +kernel
theorem dX11_tell_80 : decode cX11_tell 80 = .ok (.imul, 1) := by decide +kernel
theorem dX11_tell_81 : decode cX11_tell 81 = .ok (.bipush 100, 2) := by decide +kernel
theorem dX11_tell_83 : decode cX11_tell 83 = .ok (.iadd, 1) := by decide +kernel
theorem dX11_tell_84 : decode cX11_tell 84 = .ok (.ireturn, 1) := by decide +kernel
set_option maxRecDepth 20000 in
theorem ggX11_ring_X11_noMill : GoodIn wsX11_ring wsX11_noMill := goodIn_r _ [6, 7, 8, 9, 5, 10, 16, 17, 18, 19, 20, 21, 22, 23, 24, 25, 26, 27, 28, 29, 30, 31, 32, 33, 34, 35, 36] (by decide +kernel) (by decide +kernel)
set_option maxRecDepth 20000 in
theorem gX11_ring_X11_noMill : GoodIn wsX11_ring (wsV RX11 105 RX11 yX11_noMill wsX11_noMill) := goodIn_app (goodIn_of _ (by decide +kernel)) ggX11_ring_X11_noMill
set_option maxRecDepth 20000 in
theorem ggX11_ring_X11_traced : GoodIn wsX11_ring wsX11_traced := goodIn_r _ [14, 15, 16, 17, 18, 19, 20, 21, 22, 23, 24, 25, 26, 27, 28, 29, 30, 31, 32, 33, 34, 35, 36] (by decide +kernel) (by decide +kernel)
set_option maxRecDepth 20000 in
theorem gX11_ring_X11_traced : GoodIn wsX11_ring (wsV RX11 226 RX11 yX11_traced wsX11_traced) := goodIn_app (goodIn_of _ (by decide +kernel)) ggX11_ring_X11_traced
theorem dX11_ring_0 : decode cX11_ring 0 = .ok (.aload_n 0, 1) := by decide +kernel
theorem dX11_ring_1 : decode cX11_ring 1 = .ok (.iload_n 1, 1) := by decide +kernel
theorem dX11_ring_2 : decode cX11_ring 2 = .ok (.invokevirtual 105, 3) := by decide +kernel
theorem dX11_ring_5 : decode cX11_ring 5 = .ok (.ifCond .eq 5, 3) := by decide +kernel
theorem dX11_ring_8 : decode cX11_ring 8 = .ok (.iconst (-1), 1) := by decide +kernel
theorem dX11_ring_9 : decode cX11_ring 9 = .ok (.ireturn, 1) := by decide +kernel
theorem dX11_ring_10 : decode cX11_ring 10 = .ok (.aload_n 0, 1) := by decide +kernel
theorem dX11_ring_11 : decode cX11_ring 11 = .ok (.aload_n 0, 1) := by decide +kernel
theorem dX11_ring_12 : decode cX11_ring 12 = .ok (.getfield 7, 3) := by decide +kernel
theorem dX11_ring_15 : decode cX11_ring 15 = .ok (.iload_n 1, 1) := by decide +kernel
theorem dX11_ring_16 : decode cX11_ring 16 = .ok (.iaload, 1) := by decide +kernel
theorem dX11_ring_17 : decode cX11_ring 17 = .ok (.iconst 2, 1) := by decide +kernel
theorem dX11_ring_18 : decode cX11_ring 18 = .ok (.if_icmp .ne 7, 3) := by decide +kernel
theorem dX11_ring_21 : decode cX11_ring 21 = .ok (.iconst 5, 1) := by decide +kernel
theorem dX11_ring_22 : decode cX11_ring 22 = .ok (.goto 4, 3) := by decide +kernel
theorem dX11_ring_25 : decode cX11_ring 25 = .ok (.iconst 4, 1) := by decide +kernel
theorem dX11_ring_26 : decode cX11_ring 26 = .ok (.invokevirtual 226, 3) := by decide +kernel
theorem dX11_ring_29 : decode cX11_ring 29 = .ok (.aload_n 0, 1) := by decide +kernel
theorem dX11_ring_30 : decode cX11_ring 30 = .ok (.getfield 7, 3) := by decide +kernel
theorem dX11_ring_33 : decode cX11_ring 33 = .ok (.iload_n 1, 1) := by decide +kernel
theorem dX11_ring_34 : decode cX11_ring 34 = .ok (.iaload, 1) := by decide +kernel
theorem dX11_ring_35 : decode cX11_ring 35 = .ok (.iconst 2, 1) := by decide +kernel
theorem dX11_ring_36 : decode cX11_ring 36 = .ok (.if_icmp .ne 8, 3) := by decide +kernel
theorem dX11_ring_39 : decode cX11_ring 39 = .ok (.bipush 50, 2) := by decide +kernel
theorem dX11_ring_41 : decode cX11_ring 41 = .ok (.goto 4, 3) := by decide +kernel
theorem dX11_ring_44 : decode cX11_ring 44 = .ok (.iload_n 1, 1) := by decide +kernel
theorem dX11_ring_45 : decode cX11_ring 45 = .ok (.ireturn, 1) := by decide +kernel
set_option maxRecDepth 20000 in
theorem ggX11_as_X11_noMill : GoodIn wsX11_as wsX11_noMill := goodIn_r _ [7, 8, 9, 10, 6, 11, 21, 22, 23, 24, 25, 26, 27, 28, 29, 30, 31, 32, 33, 34, 35, 36, 37, 38, 39, 40, 41] (by decide +kernel) (by decide +kernel)
set_option maxRecDepth 20000 in
theorem gX11_as_X11_noMill : GoodIn wsX11_as (wsV RX11 105 RX11 yX11_noMill wsX11_noMill) := goodIn_app (goodIn_of _ (by decide +kernel)) ggX11_as_X11_noMill
set_option maxRecDepth 20000 in
theorem ggX11_as_X11_refused : GoodIn wsX11_as wsX11_refused := goodIn_r _ [15, 16, 21, 22, 23, 24, 25, 26, 27, 28, 29, 30, 31, 32, 33, 34, 35, 36, 37, 38, 39, 40, 41] (by decide +kernel) (by decide +kernel)
set_option maxRecDepth 20000 in
theorem gX11_as_X11_refused : GoodIn wsX11_as (wsV RX11 89 RX11 yX11_refused wsX11_refused) := goodIn_app (goodIn_of _ (by decide +kernel)) ggX11_as_X11_refused
set_option maxRecDepth 20000 in
theorem ggX11_as_X11_in : GoodIn wsX11_as wsX11_in := goodIn_r _ [11] (by decide +kernel) (by decide +kernel)
set_option maxRecDepth 20000 in
theorem gX11_as_X11_in : GoodIn wsX11_as (va_wsS RX11 67 yX11_in wsX11_in) := goodIn_app (goodIn_of _ (by decide +kernel)) ggX11_as_X11_in
set_option maxRecDepth 20000 in
theorem ggX11_as_X11_failed : GoodIn wsX11_as wsX11_failed := goodIn_r _ [20, 16, 21, 22, 23, 24, 25, 26, 27, 28, 29, 30, 31, 32, 33, 34, 35, 36, 37, 38, 39, 40, 41] (by decide +kernel) (by decide +kernel)
set_option maxRecDepth 20000 in
theorem gX11_as_X11_failed : GoodIn wsX11_as (wsV RX11 53 RX11 yX11_failed wsX11_failed) := goodIn_app (goodIn_of _ (by decide +kernel)) ggX11_as_X11_failed
theorem dX11_as_0 : decode cX11_as 0 = .ok (.aload_n 0, 1) := by decide +kernel
theorem dX11_as_1 : decode cX11_as 1 = .ok (.iload_n 1, 1) := by decide +kernel
theorem dX11_as_2 : decode cX11_as 2 = .ok (.invokevirtual 105, 3) := by decide +kernel
theorem dX11_as_5 : decode cX11_as 5 = .ok (.ifCond .eq 9, 3) := by decide +kernel
theorem dX11_as_8 : decode cX11_as 8 = .ok (.aload_n 0, 1) := by decide +kernel
theorem dX11_as_9 : decode cX11_as 9 = .ok (.iconst (-1), 1) := by decide +kernel
theorem dX11_as_10 : decode cX11_as 10 = .ok (.invokevirtual 89, 3) := by decide +kernel
theorem dX11_as_13 : decode cX11_as 13 = .ok (.ireturn, 1) := by decide +kernel
theorem dX11_as_14 : decode cX11_as 14 = .ok (.iload_n 2, 1) := by decide +kernel
theorem dX11_as_15 : decode cX11_as 15 = .ok (.i2l, 1) := by decide +kernel
theorem dX11_as_16 : decode cX11_as 16 = .ok (.lconst 0, 1) := by decide +kernel
theorem dX11_as_17 : decode cX11_as 17 = .ok (.ldc2_w 92, 3) := by decide +kernel
theorem dX11_as_20 : decode cX11_as 20 = .ok (.invokestatic 67, 3) := by decide +kernel
theorem dX11_as_23 : decode cX11_as 23 = .ok (.ifCond .ne 10, 3) := by decide +kernel
theorem dX11_as_26 : decode cX11_as 26 = .ok (.aload_n 0, 1) := by decide +kernel
theorem dX11_as_27 : decode cX11_as 27 = .ok (.bipush (-2), 2) := by decide +kernel
theorem dX11_as_29 : decode cX11_as 29 = .ok (.invokevirtual 89, 3) := by decide +kernel
theorem dX11_as_32 : decode cX11_as 32 = .ok (.ireturn, 1) := by decide +kernel
theorem dX11_as_33 : decode cX11_as 33 = .ok (.aload_n 0, 1) := by decide +kernel
theorem dX11_as_34 : decode cX11_as 34 = .ok (.getfield 7, 3) := by decide +kernel
theorem dX11_as_37 : decode cX11_as 37 = .ok (.iload_n 1, 1) := by decide +kernel
theorem dX11_as_38 : decode cX11_as 38 = .ok (.iaload, 1) := by decide +kernel
theorem dX11_as_39 : decode cX11_as 39 = .ok (.iload_n 2, 1) := by decide +kernel
theorem dX11_as_40 : decode cX11_as 40 = .ok (.if_icmp .lt 11, 3) := by decide +kernel
theorem dX11_as_43 : decode cX11_as 43 = .ok (.aload_n 0, 1) := by decide +kernel
theorem dX11_as_44 : decode cX11_as 44 = .ok (.iconst 1, 1) := by decide +kernel
theorem dX11_as_45 : decode cX11_as 45 = .ok (.invokevirtual 89, 3) := by decide +kernel
theorem dX11_as_48 : decode cX11_as 48 = .ok (.goto 8, 3) := by decide +kernel
theorem dX11_as_51 : decode cX11_as 51 = .ok (.aload_n 0, 1) := by decide +kernel
theorem dX11_as_52 : decode cX11_as 52 = .ok (.iconst 2, 1) := by decide +kernel
theorem dX11_as_53 : decode cX11_as 53 = .ok (.invokevirtual 53, 3) := by decide +kernel
theorem dX11_as_56 : decode cX11_as 56 = .ok (.ireturn, 1) := by decide +kernel
theorem dX11_trace_0 : decode cX11_trace 0 = .ok (.aload_n 0, 1) := by decide +kernel
theorem dX11_trace_1 : decode cX11_trace 1 = .ok (.getfield 223, 3) := by decide +kernel
theorem dX11_trace_4 : decode cX11_trace 4 = .ok (.ireturn, 1) := by decide +kernel
theorem dX11_fault_0 : decode cX11_fault 0 = .ok (.aload_n 0, 1) := by decide +kernel
theorem dX11_fault_1 : decode cX11_fault 1 = .ok (.getfield 45, 3) := by decide +kernel
theorem dX11_fault_4 : decode cX11_fault 4 = .ok (.ireturn, 1) := by decide +kernel
theorem dX11_many_0 : decode cX11_many 0 = .ok (.iload_n 1, 1) := by decide +kernel
theorem dX11_many_1 : decode cX11_many 1 = .ok (.ifCond .ne 10, 3) := by decide +kernel
theorem dX11_many_4 : decode cX11_many 4 = .ok (.aload_n 0, 1) := by decide +kernel
theorem dX11_many_5 : decode cX11_many 5 = .ok (.getfield 71, 3) := by decide +kernel
theorem dX11_many_8 : decode cX11_many 8 = .ok (.goto 17, 3) := by decide +kernel
theorem dX11_many_11 : decode cX11_many 11 = .ok (.iload_n 1, 1) := by decide +kernel
theorem dX11_many_12 : decode cX11_many 12 = .ok (.iconst 1, 1) := by decide +kernel
theorem dX11_many_13 : decode cX11_many 13 = .ok (.if_icmp .ne 10, 3) := by decide +kernel
theorem dX11_many_16 : decode cX11_many 16 = .ok (.aload_n 0, 1) := by decide +kernel
theorem dX11_many_17 : decode cX11_many 17 = .ok (.getfield 209, 3) := by decide +kernel
theorem dX11_many_20 : decode cX11_many 20 = .ok (.goto 5, 3) := by decide +kernel
theorem dX11_many_23 : decode cX11_many 23 = .ok (.bipush (-2), 2) := by decide +kernel
theorem dX11_many_25 : decode cX11_many 25 = .ok (.ireturn, 1) := by decide +kernel
theorem dJ13_compare_74951_0 : decode cJ13_compare_74951 0 = .ok (.lload_n 0, 1) := by decide +kernel
theorem dJ13_compare_74951_1 : decode cJ13_compare_74951 1 = .ok (.lload_n 2, 1) := by decide +kernel
theorem dJ13_compare_74951_2 : decode cJ13_compare_74951 2 = .ok (.lcmp, 1) := by decide +kernel
theorem dJ13_compare_74951_3 : decode cJ13_compare_74951 3 = .ok (.ifCond .ge 7, 3) := by decide +kernel
theorem dJ13_compare_74951_6 : decode cJ13_compare_74951 6 = .ok (.iconst (-1), 1) := by decide +kernel
theorem dJ13_compare_74951_7 : decode cJ13_compare_74951 7 = .ok (.goto 14, 3) := by decide +kernel
theorem dJ13_compare_74951_10 : decode cJ13_compare_74951 10 = .ok (.lload_n 0, 1) := by decide +kernel
theorem dJ13_compare_74951_11 : decode cJ13_compare_74951 11 = .ok (.lload_n 2, 1) := by decide +kernel
theorem dJ13_compare_74951_12 : decode cJ13_compare_74951 12 = .ok (.lcmp, 1) := by decide +kernel
theorem dJ13_compare_74951_13 : decode cJ13_compare_74951 13 = .ok (.ifCond .ne 7, 3) := by decide +kernel
theorem dJ13_compare_74951_16 : decode cJ13_compare_74951 16 = .ok (.iconst 0, 1) := by decide +kernel
theorem dJ13_compare_74951_17 : decode cJ13_compare_74951 17 = .ok (.goto 4, 3) := by decide +kernel
theorem dJ13_compare_74951_20 : decode cJ13_compare_74951 20 = .ok (.iconst 1, 1) := by decide +kernel
theorem dJ13_compare_74951_21 : decode cJ13_compare_74951 21 = .ok (.ireturn, 1) := by decide +kernel
theorem dJ9_abs_0f7a4_0 : decode cJ9_abs_0f7a4 0 = .ok (.iload_n 0, 1) := by decide +kernel
theorem dJ9_abs_0f7a4_1 : decode cJ9_abs_0f7a4 1 = .ok (.ifCond .ge 8, 3) := by decide +kernel
theorem dJ9_abs_0f7a4_4 : decode cJ9_abs_0f7a4 4 = .ok (.iload_n 0, 1) := by decide +kernel
theorem dJ9_abs_0f7a4_5 : decode cJ9_abs_0f7a4 5 = .ok (.ineg, 1) := by decide +kernel
theorem dJ9_abs_0f7a4_6 : decode cJ9_abs_0f7a4 6 = .ok (.goto 4, 3) := by decide +kernel
theorem dJ9_abs_0f7a4_9 : decode cJ9_abs_0f7a4 9 = .ok (.iload_n 0, 1) := by decide +kernel
theorem dJ9_abs_0f7a4_10 : decode cJ9_abs_0f7a4 10 = .ok (.ireturn, 1) := by decide +kernel
theorem dJ9_abs_067f4_0 : decode cJ9_abs_067f4 0 = .ok (.lload_n 0, 1) := by decide +kernel
theorem dJ9_abs_067f4_1 : decode cJ9_abs_067f4 1 = .ok (.lconst 0, 1) := by decide +kernel
theorem dJ9_abs_067f4_2 : decode cJ9_abs_067f4 2 = .ok (.lcmp, 1) := by decide +kernel
theorem dJ9_abs_067f4_3 : decode cJ9_abs_067f4 3 = .ok (.ifCond .ge 8, 3) := by decide +kernel
theorem dJ9_abs_067f4_6 : decode cJ9_abs_067f4 6 = .ok (.lload_n 0, 1) := by decide +kernel
theorem dJ9_abs_067f4_7 : decode cJ9_abs_067f4 7 = .ok (.lneg, 1) := by decide +kernel
theorem dJ9_abs_067f4_8 : decode cJ9_abs_067f4 8 = .ok (.goto 4, 3) := by decide +kernel
theorem dJ9_abs_067f4_11 : decode cJ9_abs_067f4 11 = .ok (.lload_n 0, 1) := by decide +kernel
theorem dJ9_abs_067f4_12 : decode cJ9_abs_067f4 12 = .ok (.lreturn, 1) := by decide +kernel
theorem dJ9_max_7cf53_0 : decode cJ9_max_7cf53 0 = .ok (.iload_n 0, 1) := by decide +kernel
theorem dJ9_max_7cf53_1 : decode cJ9_max_7cf53 1 = .ok (.iload_n 1, 1) := by decide +kernel
theorem dJ9_max_7cf53_2 : decode cJ9_max_7cf53 2 = .ok (.if_icmp .lt 7, 3) := by decide +kernel
theorem dJ9_max_7cf53_5 : decode cJ9_max_7cf53 5 = .ok (.iload_n 0, 1) := by decide +kernel
theorem dJ9_max_7cf53_6 : decode cJ9_max_7cf53 6 = .ok (.goto 4, 3) := by decide +kernel
theorem dJ9_max_7cf53_9 : decode cJ9_max_7cf53 9 = .ok (.iload_n 1, 1) := by decide +kernel
theorem dJ9_max_7cf53_10 : decode cJ9_max_7cf53 10 = .ok (.ireturn, 1) := by decide +kernel
theorem dJ9_min_7cf53_0 : decode cJ9_min_7cf53 0 = .ok (.iload_n 0, 1) := by decide +kernel
theorem dJ9_min_7cf53_1 : decode cJ9_min_7cf53 1 = .ok (.iload_n 1, 1) := by decide +kernel
theorem dJ9_min_7cf53_2 : decode cJ9_min_7cf53 2 = .ok (.if_icmp .gt 7, 3) := by decide +kernel
theorem dJ9_min_7cf53_5 : decode cJ9_min_7cf53 5 = .ok (.iload_n 0, 1) := by decide +kernel
theorem dJ9_min_7cf53_6 : decode cJ9_min_7cf53 6 = .ok (.goto 4, 3) := by decide +kernel
theorem dJ9_min_7cf53_9 : decode cJ9_min_7cf53 9 = .ok (.iload_n 1, 1) := by decide +kernel
theorem dJ9_min_7cf53_10 : decode cJ9_min_7cf53 10 = .ok (.ireturn, 1) := by decide +kernel
theorem dJ7_fill_53178_0 : decode cJ7_fill_53178 0 = .ok (.iconst 0, 1) := by decide +kernel
theorem dJ7_fill_53178_1 : decode cJ7_fill_53178 1 = .ok (.istore_n 2, 1) := by decide +kernel
theorem dJ7_fill_53178_2 : decode cJ7_fill_53178 2 = .ok (.aload_n 0, 1) := by decide +kernel
theorem dJ7_fill_53178_3 : decode cJ7_fill_53178 3 = .ok (.arraylength, 1) := by decide +kernel
theorem dJ7_fill_53178_4 : decode cJ7_fill_53178 4 = .ok (.istore_n 3, 1) := by decide +kernel
theorem dJ7_fill_53178_5 : decode cJ7_fill_53178 5 = .ok (.iload_n 2, 1) := by decide +kernel
theorem dJ7_fill_53178_6 : decode cJ7_fill_53178 6 = .ok (.iload_n 3, 1) := by decide +kernel
theorem dJ7_fill_53178_7 : decode cJ7_fill_53178 7 = .ok (.if_icmp .ge 13, 3) := by decide +kernel
theorem dJ7_fill_53178_10 : decode cJ7_fill_53178 10 = .ok (.aload_n 0, 1) := by decide +kernel
theorem dJ7_fill_53178_11 : decode cJ7_fill_53178 11 = .ok (.iload_n 2, 1) := by decide +kernel
theorem dJ7_fill_53178_12 : decode cJ7_fill_53178 12 = .ok (.iload_n 1, 1) := by decide +kernel
theorem dJ7_fill_53178_13 : decode cJ7_fill_53178 13 = .ok (.iastore, 1) := by decide +kernel
theorem dJ7_fill_53178_14 : decode cJ7_fill_53178 14 = .ok (.iinc 2 1, 3) := by decide +kernel
theorem dJ7_fill_53178_17 : decode cJ7_fill_53178 17 = .ok (.goto (-12), 3) := by decide +kernel
theorem dJ7_fill_53178_20 : decode cJ7_fill_53178 20 = .ok (.return_, 1) := by decide +kernel
