theorem dX0_init_0 : decode cX0_init 0 = .ok (.aload_n 0, 1) := by decide +kernel
theorem dX0_init_1 : decode cX0_init 1 = .ok (.invokespecial 3, 3) := by decide +kernel
theorem dX0_init_4 : decode cX0_init 4 = .ok (.aload_n 0, 1) := by decide +kernel
theorem dX0_init_5 : decode cX0_init 5 = .ok (.bipush 9, 2) := by decide +kernel
theorem dX0_init_7 : decode cX0_init 7 = .ok (.newarray .int, 2) := by decide +kernel
theorem dX0_init_9 : decode cX0_init 9 = .ok (.putfield 9, 3) := by decide +kernel
theorem dX0_init_12 : decode cX0_init 12 = .ok (.aload_n 0, 1) := by decide +kernel
theorem dX0_init_13 : decode cX0_init 13 = .ok (.bipush 9, 2) := by decide +kernel
theorem dX0_init_15 : decode cX0_init 15 = .ok (.newarray .boolean, 2) := by decide +kernel
theorem dX0_init_17 : decode cX0_init 17 = .ok (.putfield 15, 3) := by decide +kernel
theorem dX0_init_20 : decode cX0_init 20 = .ok (.return_, 1) := by decide +kernel
set_option maxRecDepth 20000 in
theorem ggX0_read_X0_begin : GoodIn wsX0_read wsX0_begin := goodIn_r _ [8, 9, 10, 3, 2, 1, 41, 42, 43, 44, 45] (by decide +kernel) (by decide +kernel)
set_option maxRecDepth 20000 in
theorem gX0_read_X0_begin : GoodIn wsX0_read (wsV RX0 19 RX0 yX0_begin wsX0_begin) := goodIn_app (goodIn_of _ (by decide +kernel)) ggX0_read_X0_begin
set_option maxRecDepth 20000 in
theorem ggX0_read_X0_letterAt : GoodIn wsX0_read wsX0_letterAt := goodIn_r _ [14, 15, 16, 17, 7, 18, 3, 9, 10, 19, 20, 21, 22, 23, 24, 25, 26, 27, 28, 29, 30, 31, 32, 41, 42, 43, 44, 45, 46, 47, 48, 49] (by decide +kernel) (by decide +kernel)
set_option maxRecDepth 20000 in
theorem gX0_read_X0_letterAt : GoodIn wsX0_read (wsV RX0 23 RX0 yX0_letterAt wsX0_letterAt) := goodIn_app (goodIn_of _ (by decide +kernel)) ggX0_read_X0_letterAt
set_option maxRecDepth 20000 in
theorem ggX0_read_X0_digitsFrom : GoodIn wsX0_read wsX0_digitsFrom := goodIn_r _ [36, 15, 16, 17, 7, 18, 3, 9, 10, 19, 20, 21, 22, 23, 24, 25, 26, 27, 28, 29, 30, 31, 32, 41, 42, 43, 44, 45, 46, 47, 48, 49] (by decide +kernel) (by decide +kernel)
set_option maxRecDepth 20000 in
theorem gX0_read_X0_digitsFrom : GoodIn wsX0_read (wsV RX0 27 RX0 yX0_digitsFrom wsX0_digitsFrom) := goodIn_app (goodIn_of _ (by decide +kernel)) ggX0_read_X0_digitsFrom
set_option maxRecDepth 20000 in
theorem ggX0_read_X0_numberFrom : GoodIn wsX0_read wsX0_numberFrom := goodIn_r _ [40, 15, 16, 17, 7, 18, 3, 9, 10, 19, 20, 21, 22, 23, 24, 25, 26, 27, 28, 29, 30, 31, 32, 41, 42, 43, 44, 45, 46, 47, 48, 49] (by decide +kernel) (by decide +kernel)
set_option maxRecDepth 20000 in
theorem gX0_read_X0_numberFrom : GoodIn wsX0_read (wsV RX0 30 RX0 yX0_numberFrom wsX0_numberFrom) := goodIn_app (goodIn_of _ (by decide +kernel)) ggX0_read_X0_numberFrom
set_option maxRecDepth 20000 in
theorem ggX0_read_X10_within : GoodIn wsX0_read wsX10_within := goodIn_r _ [32] (by decide +kernel) (by decide +kernel)
set_option maxRecDepth 20000 in
theorem gX0_read_X10_within_n40 : GoodIn wsX0_read (wsX10_within) := ggX0_read_X10_within
set_option maxRecDepth 20000 in
theorem ggX0_read_X0_codeAt : GoodIn wsX0_read wsX0_codeAt := goodIn_r _ [18, 3, 9, 10, 19, 20, 21, 22, 23, 24, 25, 26, 27, 28, 29, 30, 31, 32, 41, 42, 43, 44, 45, 46, 47, 48, 49] (by decide +kernel) (by decide +kernel)
set_option maxRecDepth 20000 in
theorem gX0_read_X0_codeAt : GoodIn wsX0_read (wsV RX0 48 RX0 yX0_codeAt wsX0_codeAt) := goodIn_app (goodIn_of _ (by decide +kernel)) ggX0_read_X0_codeAt
theorem dX0_read_0 : decode cX0_read 0 = .ok (.aload_n 0, 1) := by decide +kernel
theorem dX0_read_1 : decode cX0_read 1 = .ok (.aload_n 1, 1) := by decide +kernel
theorem dX0_read_2 : decode cX0_read 2 = .ok (.iload_n 2, 1) := by decide +kernel
theorem dX0_read_3 : decode cX0_read 3 = .ok (.iload_n 3, 1) := by decide +kernel
theorem dX0_read_4 : decode cX0_read 4 = .ok (.invokevirtual 19, 3) := by decide +kernel
theorem dX0_read_7 : decode cX0_read 7 = .ok (.iconst 0, 1) := by decide +kernel
theorem dX0_read_8 : decode cX0_read 8 = .ok (.istore 4, 2) := by decide +kernel
theorem dX0_read_10 : decode cX0_read 10 = .ok (.iconst 1, 1) := by decide +kernel
theorem dX0_read_11 : decode cX0_read 11 = .ok (.istore 5, 2) := by decide +kernel
theorem dX0_read_13 : decode cX0_read 13 = .ok (.iload 5, 2) := by decide +kernel
theorem dX0_read_15 : decode cX0_read 15 = .ok (.bipush 9, 2) := by decide +kernel
theorem dX0_read_17 : decode cX0_read 17 = .ok (.if_icmp .gt 144, 3) := by decide +kernel
theorem dX0_read_20 : decode cX0_read 20 = .ok (.aload_n 0, 1) := by decide +kernel
theorem dX0_read_21 : decode cX0_read 21 = .ok (.iload 4, 2) := by decide +kernel
theorem dX0_read_23 : decode cX0_read 23 = .ok (.invokevirtual 23, 3) := by decide +kernel
theorem dX0_read_26 : decode cX0_read 26 = .ok (.istore 6, 2) := by decide +kernel
theorem dX0_read_28 : decode cX0_read 28 = .ok (.iload 6, 2) := by decide +kernel
theorem dX0_read_30 : decode cX0_read 30 = .ok (.iconst (-1), 1) := by decide +kernel
theorem dX0_read_31 : decode cX0_read 31 = .ok (.if_icmp .eq 13, 3) := by decide +kernel
theorem dX0_read_34 : decode cX0_read 34 = .ok (.aload_n 0, 1) := by decide +kernel
theorem dX0_read_35 : decode cX0_read 35 = .ok (.getfield 15, 3) := by decide +kernel
theorem dX0_read_38 : decode cX0_read 38 = .ok (.iload 6, 2) := by decide +kernel
theorem dX0_read_40 : decode cX0_read 40 = .ok (.baload, 1) := by decide +kernel
theorem dX0_read_41 : decode cX0_read 41 = .ok (.ifCond .eq 6, 3) := by decide +kernel
theorem dX0_read_44 : decode cX0_read 44 = .ok (.iload 4, 2) := by decide +kernel
theorem dX0_read_46 : decode cX0_read 46 = .ok (.ireturn, 1) := by decide +kernel
theorem dX0_read_47 : decode cX0_read 47 = .ok (.iinc 4 1, 3) := by decide +kernel
theorem dX0_read_50 : decode cX0_read 50 = .ok (.aload_n 0, 1) := by decide +kernel
theorem dX0_read_51 : decode cX0_read 51 = .ok (.iload 4, 2) := by decide +kernel
theorem dX0_read_53 : decode cX0_read 53 = .ok (.invokevirtual 27, 3) := by decide +kernel
theorem dX0_read_56 : decode cX0_read 56 = .ok (.istore 7, 2) := by decide +kernel
theorem dX0_read_58 : decode cX0_read 58 = .ok (.aload_n 0, 1) := by decide +kernel
theorem dX0_read_59 : decode cX0_read 59 = .ok (.iload 4, 2) := by decide +kernel
theorem dX0_read_61 : decode cX0_read 61 = .ok (.iload 7, 2) := by decide +kernel
theorem dX0_read_63 : decode cX0_read 63 = .ok (.invokevirtual 30, 3) := by decide +kernel
theorem dX0_read_66 : decode cX0_read 66 = .ok (.istore 8, 2) := by decide +kernel
theorem dX0_read_68 : decode cX0_read 68 = .ok (.iload 7, 2) := by decide +kernel
theorem dX0_read_70 : decode cX0_read 70 = .ok (.ifCond .eq 23, 3) := by decide +kernel
theorem dX0_read_73 : decode cX0_read 73 = .ok (.iload 8, 2) := by decide +kernel
theorem dX0_read_75 : decode cX0_read 75 = .ok (.getstatic 34, 3) := by decide +kernel
theorem dX0_read_78 : decode cX0_read 78 = .ok (.iload 6, 2) := by decide +kernel
theorem dX0_read_80 : decode cX0_read 80 = .ok (.iaload, 1) := by decide +kernel
theorem dX0_read_81 : decode cX0_read 81 = .ok (.getstatic 37, 3) := by decide +kernel
theorem dX0_read_84 : decode cX0_read 84 = .ok (.iload 6, 2) := by decide +kernel
theorem dX0_read_86 : decode cX0_read 86 = .ok (.iaload, 1) := by decide +kernel
theorem dX0_read_87 : decode cX0_read 87 = .ok (.invokestatic 40, 3) := by decide +kernel
theorem dX0_read_90 : decode cX0_read 90 = .ok (.ifCond .ne 6, 3) := by decide +kernel
theorem dX0_read_93 : decode cX0_read 93 = .ok (.iload 4, 2) := by decide +kernel
theorem dX0_read_95 : decode cX0_read 95 = .ok (.ireturn, 1) := by decide +kernel
theorem dX0_read_96 : decode cX0_read 96 = .ok (.aload_n 0, 1) := by decide +kernel
theorem dX0_read_97 : decode cX0_read 97 = .ok (.getfield 9, 3) := by decide +kernel
theorem dX0_read_100 : decode cX0_read 100 = .ok (.iload 6, 2) := by decide +kernel
theorem dX0_read_102 : decode cX0_read 102 = .ok (.iload 8, 2) := by decide +kernel
theorem dX0_read_104 : decode cX0_read 104 = .ok (.iastore, 1) := by decide +kernel
theorem dX0_read_105 : decode cX0_read 105 = .ok (.aload_n 0, 1) := by decide +kernel
theorem dX0_read_106 : decode cX0_read 106 = .ok (.getfield 15, 3) := by decide +kernel
theorem dX0_read_109 : decode cX0_read 109 = .ok (.iload 6, 2) := by decide +kernel
theorem dX0_read_111 : decode cX0_read 111 = .ok (.iconst 1, 1) := by decide +kernel
theorem dX0_read_112 : decode cX0_read 112 = .ok (.bastore, 1) := by decide +kernel
theorem dX0_read_113 : decode cX0_read 113 = .ok (.iload 4, 2) := by decide +kernel
theorem dX0_read_115 : decode cX0_read 115 = .ok (.iload 7, 2) := by decide +kernel
theorem dX0_read_117 : decode cX0_read 117 = .ok (.iadd, 1) := by decide +kernel
theorem dX0_read_118 : decode cX0_read 118 = .ok (.istore 4, 2) := by decide +kernel
theorem dX0_read_120 : decode cX0_read 120 = .ok (.iload 4, 2) := by decide +kernel
theorem dX0_read_122 : decode cX0_read 122 = .ok (.aload_n 0, 1) := by decide +kernel
theorem dX0_read_123 : decode cX0_read 123 = .ok (.getfield 44, 3) := by decide +kernel
theorem dX0_read_126 : decode cX0_read 126 = .ok (.if_icmp .lt 5, 3) := by decide +kernel
theorem dX0_read_129 : decode cX0_read 129 = .ok (.iconst (-1), 1) := by decide +kernel
theorem dX0_read_130 : decode cX0_read 130 = .ok (.ireturn, 1) := by decide +kernel
theorem dX0_read_131 : decode cX0_read 131 = .ok (.aload_n 0, 1) := by decide +kernel
theorem dX0_read_132 : decode cX0_read 132 = .ok (.iload 4, 2) := by decide +kernel
theorem dX0_read_134 : decode cX0_read 134 = .ok (.invokevirtual 48, 3) := by decide +kernel
theorem dX0_read_137 : decode cX0_read 137 = .ok (.bipush 59, 2) := by decide +kernel
theorem dX0_read_139 : decode cX0_read 139 = .ok (.if_icmp .ne 10, 3) := by decide +kernel
theorem dX0_read_142 : decode cX0_read 142 = .ok (.iload 5, 2) := by decide +kernel
theorem dX0_read_144 : decode cX0_read 144 = .ok (.bipush 9, 2) := by decide +kernel
theorem dX0_read_146 : decode cX0_read 146 = .ok (.if_icmp .ne 6, 3) := by decide +kernel
theorem dX0_read_149 : decode cX0_read 149 = .ok (.iload 4, 2) := by decide +kernel
theorem dX0_read_151 : decode cX0_read 151 = .ok (.ireturn, 1) := by decide +kernel
theorem dX0_read_152 : decode cX0_read 152 = .ok (.iinc 4 1, 3) := by decide +kernel
theorem dX0_read_155 : decode cX0_read 155 = .ok (.iinc 5 1, 3) := by decide +kernel
theorem dX0_read_158 : decode cX0_read 158 = .ok (.goto (-145), 3) := by decide +kernel
theorem dX0_read_161 : decode cX0_read 161 = .ok (.iload 4, 2) := by decide +kernel
theorem dX0_read_163 : decode cX0_read 163 = .ok (.ireturn, 1) := by decide +kernel
theorem dX0_begin_0 : decode cX0_begin 0 = .ok (.aload_n 0, 1) := by decide +kernel
theorem dX0_begin_1 : decode cX0_begin 1 = .ok (.aload_n 1, 1) := by decide +kernel
theorem dX0_begin_2 : decode cX0_begin 2 = .ok (.putfield 51, 3) := by decide +kernel
theorem dX0_begin_5 : decode cX0_begin 5 = .ok (.aload_n 0, 1) := by decide +kernel
theorem dX0_begin_6 : decode cX0_begin 6 = .ok (.iload_n 2, 1) := by decide +kernel
theorem dX0_begin_7 : decode cX0_begin 7 = .ok (.putfield 55, 3) := by decide +kernel
theorem dX0_begin_10 : decode cX0_begin 10 = .ok (.aload_n 0, 1) := by decide +kernel
theorem dX0_begin_11 : decode cX0_begin 11 = .ok (.iload_n 3, 1) := by decide +kernel
theorem dX0_begin_12 : decode cX0_begin 12 = .ok (.putfield 44, 3) := by decide +kernel
theorem dX0_begin_15 : decode cX0_begin 15 = .ok (.iconst 0, 1) := by decide +kernel
theorem dX0_begin_16 : decode cX0_begin 16 = .ok (.istore 4, 2) := by decide +kernel
theorem dX0_begin_18 : decode cX0_begin 18 = .ok (.iload 4, 2) := by decide +kernel
theorem dX0_begin_20 : decode cX0_begin 20 = .ok (.bipush 9, 2) := by decide +kernel
theorem dX0_begin_22 : decode cX0_begin 22 = .ok (.if_icmp .ge 30, 3) := by decide +kernel
theorem dX0_begin_25 : decode cX0_begin 25 = .ok (.aload_n 0, 1) := by decide +kernel
theorem dX0_begin_26 : decode cX0_begin 26 = .ok (.getfield 9, 3) := by decide +kernel
theorem dX0_begin_29 : decode cX0_begin 29 = .ok (.iload 4, 2) := by decide +kernel
theorem dX0_begin_31 : decode cX0_begin 31 = .ok (.getstatic 58, 3) := by decide +kernel
theorem dX0_begin_34 : decode cX0_begin 34 = .ok (.iload 4, 2) := by decide +kernel
theorem dX0_begin_36 : decode cX0_begin 36 = .ok (.iaload, 1) := by decide +kernel
theorem dX0_begin_37 : decode cX0_begin 37 = .ok (.iastore, 1) := by decide +kernel
theorem dX0_begin_38 : decode cX0_begin 38 = .ok (.aload_n 0, 1) := by decide +kernel
theorem dX0_begin_39 : decode cX0_begin 39 = .ok (.getfield 15, 3) := by decide +kernel
theorem dX0_begin_42 : decode cX0_begin 42 = .ok (.iload 4, 2) := by decide +kernel
theorem dX0_begin_44 : decode cX0_begin 44 = .ok (.iconst 0, 1) := by decide +kernel
theorem dX0_begin_45 : decode cX0_begin 45 = .ok (.bastore, 1) := by decide +kernel
theorem dX0_begin_46 : decode cX0_begin 46 = .ok (.iinc 4 1, 3) := by decide +kernel
theorem dX0_begin_49 : decode cX0_begin 49 = .ok (.goto (-31), 3) := by decide +kernel
theorem dX0_begin_52 : decode cX0_begin 52 = .ok (.return_, 1) := by decide +kernel
set_option maxRecDepth 20000 in
theorem ggX0_codeAt_X6_at : GoodIn wsX0_codeAt wsX6_at := goodIn_r _ [8, 9, 10, 11, 12, 7, 13, 14, 15, 16, 17, 23, 24, 25, 26] (by decide +kernel) (by decide +kernel)
set_option maxRecDepth 20000 in
theorem gX0_codeAt_X6_at : GoodIn wsX0_codeAt (wsV RX0 61 RX6 yX6_at wsX6_at) := goodIn_app (goodIn_of _ (by decide +kernel)) ggX0_codeAt_X6_at
theorem dX0_codeAt_0 : decode cX0_codeAt 0 = .ok (.iload_n 1, 1) := by decide +kernel
theorem dX0_codeAt_1 : decode cX0_codeAt 1 = .ok (.aload_n 0, 1) := by decide +kernel
theorem dX0_codeAt_2 : decode cX0_codeAt 2 = .ok (.getfield 44, 3) := by decide +kernel
theorem dX0_codeAt_5 : decode cX0_codeAt 5 = .ok (.if_icmp .ge 19, 3) := by decide +kernel
theorem dX0_codeAt_8 : decode cX0_codeAt 8 = .ok (.aload_n 0, 1) := by decide +kernel
theorem dX0_codeAt_9 : decode cX0_codeAt 9 = .ok (.getfield 51, 3) := by decide +kernel
theorem dX0_codeAt_12 : decode cX0_codeAt 12 = .ok (.aload_n 0, 1) := by decide +kernel
theorem dX0_codeAt_13 : decode cX0_codeAt 13 = .ok (.getfield 55, 3) := by decide +kernel
theorem dX0_codeAt_16 : decode cX0_codeAt 16 = .ok (.iload_n 1, 1) := by decide +kernel
theorem dX0_codeAt_17 : decode cX0_codeAt 17 = .ok (.iadd, 1) := by decide +kernel
theorem dX0_codeAt_18 : decode cX0_codeAt 18 = .ok (.invokevirtual 61, 3) := by decide +kernel
theorem dX0_codeAt_21 : decode cX0_codeAt 21 = .ok (.goto 4, 3) := by decide +kernel
theorem dX0_codeAt_24 : decode cX0_codeAt 24 = .ok (.iconst (-1), 1) := by decide +kernel
theorem dX0_codeAt_25 : decode cX0_codeAt 25 = .ok (.ireturn, 1) := by decide +kernel
set_option maxRecDepth 20000 in
theorem ggX0_letterAt_X0_codeAt : GoodIn wsX0_letterAt wsX0_codeAt := goodIn_r _ [5, 6, 7, 8, 9, 10, 11, 12, 13, 14, 15, 16, 17, 18, 19, 20, 21, 22, 23, 24, 25, 26, 27, 28, 29, 30, 31] (by decide +kernel) (by decide +kernel)
set_option maxRecDepth 20000 in
theorem gX0_letterAt_X0_codeAt : GoodIn wsX0_letterAt (wsV RX0 48 RX0 yX0_codeAt wsX0_codeAt) := goodIn_app (goodIn_of _ (by decide +kernel)) ggX0_letterAt_X0_codeAt
theorem dX0_letterAt_0 : decode cX0_letterAt 0 = .ok (.aload_n 0, 1) := by decide +kernel
theorem dX0_letterAt_1 : decode cX0_letterAt 1 = .ok (.iload_n 1, 1) := by decide +kernel
theorem dX0_letterAt_2 : decode cX0_letterAt 2 = .ok (.invokevirtual 48, 3) := by decide +kernel
theorem dX0_letterAt_5 : decode cX0_letterAt 5 = .ok (.istore_n 2, 1) := by decide +kernel
theorem dX0_letterAt_6 : decode cX0_letterAt 6 = .ok (.iconst 0, 1) := by decide +kernel
theorem dX0_letterAt_7 : decode cX0_letterAt 7 = .ok (.istore_n 3, 1) := by decide +kernel
theorem dX0_letterAt_8 : decode cX0_letterAt 8 = .ok (.iload_n 3, 1) := by decide +kernel
theorem dX0_letterAt_9 : decode cX0_letterAt 9 = .ok (.bipush 9, 2) := by decide +kernel
theorem dX0_letterAt_11 : decode cX0_letterAt 11 = .ok (.if_icmp .ge 20, 3) := by decide +kernel
theorem dX0_letterAt_14 : decode cX0_letterAt 14 = .ok (.getstatic 66, 3) := by decide +kernel
theorem dX0_letterAt_17 : decode cX0_letterAt 17 = .ok (.iload_n 3, 1) := by decide +kernel
theorem dX0_letterAt_18 : decode cX0_letterAt 18 = .ok (.caload, 1) := by decide +kernel
theorem dX0_letterAt_19 : decode cX0_letterAt 19 = .ok (.iload_n 2, 1) := by decide +kernel
theorem dX0_letterAt_20 : decode cX0_letterAt 20 = .ok (.if_icmp .ne 5, 3) := by decide +kernel
theorem dX0_letterAt_23 : decode cX0_letterAt 23 = .ok (.iload_n 3, 1) := by decide +kernel
theorem dX0_letterAt_24 : decode cX0_letterAt 24 = .ok (.ireturn, 1) := by decide +kernel
theorem dX0_letterAt_25 : decode cX0_letterAt 25 = .ok (.iinc 3 1, 3) := by decide +kernel
theorem dX0_letterAt_28 : decode cX0_letterAt 28 = .ok (.goto (-20), 3) := by decide +kernel
theorem dX0_letterAt_31 : decode cX0_letterAt 31 = .ok (.iconst (-1), 1) := by decide +kernel
theorem dX0_letterAt_32 : decode cX0_letterAt 32 = .ok (.ireturn, 1) := by decide +kernel
set_option maxRecDepth 20000 in
theorem ggX0_digitsFrom_X0_codeAt : GoodIn wsX0_digitsFrom wsX0_codeAt := goodIn_r _ [5, 6, 7, 8, 9, 10, 11, 12, 13, 14, 15, 16, 17, 18, 19, 20, 21, 22, 23, 24, 25, 26, 27, 28, 29, 30, 31] (by decide +kernel) (by decide +kernel)
set_option maxRecDepth 20000 in
theorem gX0_digitsFrom_X0_codeAt : GoodIn wsX0_digitsFrom (wsV RX0 48 RX0 yX0_codeAt wsX0_codeAt) := goodIn_app (goodIn_of _ (by decide +kernel)) ggX0_digitsFrom_X0_codeAt
set_option maxRecDepth 20000 in
theorem ggX0_digitsFrom_X10_within : GoodIn wsX0_digitsFrom wsX10_within := goodIn_r _ [22] (by decide +kernel) (by decide +kernel)
set_option maxRecDepth 20000 in
theorem gX0_digitsFrom_X10_within_n40 : GoodIn wsX0_digitsFrom (wsX10_within) := ggX0_digitsFrom_X10_within
theorem dX0_digitsFrom_0 : decode cX0_digitsFrom 0 = .ok (.aload_n 0, 1) := by decide +kernel
theorem dX0_digitsFrom_1 : decode cX0_digitsFrom 1 = .ok (.iload_n 1, 1) := by decide +kernel
theorem dX0_digitsFrom_2 : decode cX0_digitsFrom 2 = .ok (.invokevirtual 48, 3) := by decide +kernel
theorem dX0_digitsFrom_5 : decode cX0_digitsFrom 5 = .ok (.bipush 48, 2) := by decide +kernel
theorem dX0_digitsFrom_7 : decode cX0_digitsFrom 7 = .ok (.bipush 57, 2) := by decide +kernel
theorem dX0_digitsFrom_9 : decode cX0_digitsFrom 9 = .ok (.invokestatic 40, 3) := by decide +kernel
theorem dX0_digitsFrom_12 : decode cX0_digitsFrom 12 = .ok (.ifCond .ne 5, 3) := by decide +kernel
theorem dX0_digitsFrom_15 : decode cX0_digitsFrom 15 = .ok (.iconst 0, 1) := by decide +kernel
theorem dX0_digitsFrom_16 : decode cX0_digitsFrom 16 = .ok (.ireturn, 1) := by decide +kernel
theorem dX0_digitsFrom_17 : decode cX0_digitsFrom 17 = .ok (.aload_n 0, 1) := by decide +kernel
theorem dX0_digitsFrom_18 : decode cX0_digitsFrom 18 = .ok (.iload_n 1, 1) := by decide +kernel
theorem dX0_digitsFrom_19 : decode cX0_digitsFrom 19 = .ok (.iconst 1, 1) := by decide +kernel
theorem dX0_digitsFrom_20 : decode cX0_digitsFrom 20 = .ok (.iadd, 1) := by decide +kernel
theorem dX0_digitsFrom_21 : decode cX0_digitsFrom 21 = .ok (.invokevirtual 48, 3) := by decide +kernel
theorem dX0_digitsFrom_24 : decode cX0_digitsFrom 24 = .ok (.bipush 48, 2) := by decide +kernel
theorem dX0_digitsFrom_26 : decode cX0_digitsFrom 26 = .ok (.bipush 57, 2) := by decide +kernel
theorem dX0_digitsFrom_28 : decode cX0_digitsFrom 28 = .ok (.invokestatic 40, 3) := by decide +kernel
theorem dX0_digitsFrom_31 : decode cX0_digitsFrom 31 = .ok (.ifCond .eq 7, 3) := by decide +kernel
theorem dX0_digitsFrom_34 : decode cX0_digitsFrom 34 = .ok (.iconst 2, 1) := by decide +kernel
theorem dX0_digitsFrom_35 : decode cX0_digitsFrom 35 = .ok (.goto 4, 3) := by decide +kernel
theorem dX0_digitsFrom_38 : decode cX0_digitsFrom 38 = .ok (.iconst 1, 1) := by decide +kernel
theorem dX0_digitsFrom_39 : decode cX0_digitsFrom 39 = .ok (.ireturn, 1) := by decide +kernel
set_option maxRecDepth 20000 in
theorem ggX0_numberFrom_X0_codeAt : GoodIn wsX0_numberFrom wsX0_codeAt := goodIn_r _ [5, 6, 7, 8, 9, 10, 11, 12, 13, 14, 15, 16, 17, 18, 19, 20, 21, 22, 23, 24, 25, 26, 27, 28, 29, 30, 31] (by decide +kernel) (by decide +kernel)
set_option maxRecDepth 20000 in
theorem gX0_numberFrom_X0_codeAt : GoodIn wsX0_numberFrom (wsV RX0 48 RX0 yX0_codeAt wsX0_codeAt) := goodIn_app (goodIn_of _ (by decide +kernel)) ggX0_numberFrom_X0_codeAt
theorem dX0_numberFrom_0 : decode cX0_numberFrom 0 = .ok (.iconst 0, 1) := by decide +kernel
theorem dX0_numberFrom_1 : decode cX0_numberFrom 1 = .ok (.istore_n 3, 1) := by decide +kernel
theorem dX0_numberFrom_2 : decode cX0_numberFrom 2 = .ok (.iconst 0, 1) := by decide +kernel
theorem dX0_numberFrom_3 : decode cX0_numberFrom 3 = .ok (.istore 4, 2) := by decide +kernel
theorem dX0_numberFrom_5 : decode cX0_numberFrom 5 = .ok (.iload 4, 2) := by decide +kernel
theorem dX0_numberFrom_7 : decode cX0_numberFrom 7 = .ok (.iload_n 2, 1) := by decide +kernel
theorem dX0_numberFrom_8 : decode cX0_numberFrom 8 = .ok (.if_icmp .ge 26, 3) := by decide +kernel
theorem dX0_numberFrom_11 : decode cX0_numberFrom 11 = .ok (.bipush 10, 2) := by decide +kernel
theorem dX0_numberFrom_13 : decode cX0_numberFrom 13 = .ok (.iload_n 3, 1) := by decide +kernel
theorem dX0_numberFrom_14 : decode cX0_numberFrom 14 = .ok (.imul, 1) := by decide +kernel
theorem dX0_numberFrom_15 : decode cX0_numberFrom 15 = .ok (.aload_n 0, 1) := by decide +kernel
theorem dX0_numberFrom_16 : decode cX0_numberFrom 16 = .ok (.iload_n 1, 1) := by decide +kernel
theorem dX0_numberFrom_17 : decode cX0_numberFrom 17 = .ok (.iload 4, 2) := by decide +kernel
theorem dX0_numberFrom_19 : decode cX0_numberFrom 19 = .ok (.iadd, 1) := by decide +kernel
theorem dX0_numberFrom_20 : decode cX0_numberFrom 20 = .ok (.invokevirtual 48, 3) := by decide +kernel
theorem dX0_numberFrom_23 : decode cX0_numberFrom 23 = .ok (.iadd, 1) := by decide +kernel
theorem dX0_numberFrom_24 : decode cX0_numberFrom 24 = .ok (.bipush 48, 2) := by decide +kernel
theorem dX0_numberFrom_26 : decode cX0_numberFrom 26 = .ok (.isub, 1) := by decide +kernel
theorem dX0_numberFrom_27 : decode cX0_numberFrom 27 = .ok (.istore_n 3, 1) := by decide +kernel
theorem dX0_numberFrom_28 : decode cX0_numberFrom 28 = .ok (.iinc 4 1, 3) := by decide +kernel
theorem dX0_numberFrom_31 : decode cX0_numberFrom 31 = .ok (.goto (-26), 3) := by decide +kernel
theorem dX0_numberFrom_34 : decode cX0_numberFrom 34 = .ok (.iload_n 3, 1) := by decide +kernel
theorem dX0_numberFrom_35 : decode cX0_numberFrom 35 = .ok (.ireturn, 1) := by decide +kernel
theorem dX1_init_0 : decode cX1_init 0 = .ok (.aload_n 0, 1) := by decide +kernel
theorem dX1_init_1 : decode cX1_init 1 = .ok (.invokespecial 3, 3) := by decide +kernel
theorem dX1_init_4 : decode cX1_init 4 = .ok (.return_, 1) := by decide +kernel
theorem dX1_clear_0 : decode cX1_clear 0 = .ok (.aload_n 0, 1) := by decide +kernel
theorem dX1_clear_1 : decode cX1_clear 1 = .ok (.iconst 0, 1) := by decide +kernel
theorem dX1_clear_2 : decode cX1_clear 2 = .ok (.putfield 9, 3) := by decide +kernel
theorem dX1_clear_5 : decode cX1_clear 5 = .ok (.return_, 1) := by decide +kernel
theorem dX1_take_0 : decode cX1_take 0 = .ok (.aload_n 0, 1) := by decide +kernel
theorem dX1_take_1 : decode cX1_take 1 = .ok (.getfield 9, 3) := by decide +kernel
theorem dX1_take_4 : decode cX1_take 4 = .ok (.ifCond .ne 8, 3) := by decide +kernel
theorem dX1_take_7 : decode cX1_take 7 = .ok (.aload_n 0, 1) := by decide +kernel
theorem dX1_take_8 : decode cX1_take 8 = .ok (.iload_n 1, 1) := by decide +kernel
theorem dX1_take_9 : decode cX1_take 9 = .ok (.putfield 15, 3) := by decide +kernel
theorem dX1_take_12 : decode cX1_take 12 = .ok (.aload_n 0, 1) := by decide +kernel
theorem dX1_take_13 : decode cX1_take 13 = .ok (.iload_n 1, 1) := by decide +kernel
theorem dX1_take_14 : decode cX1_take 14 = .ok (.putfield 18, 3) := by decide +kernel
theorem dX1_take_17 : decode cX1_take 17 = .ok (.aload_n 0, 1) := by decide +kernel
theorem dX1_take_18 : decode cX1_take 18 = .ok (.dup, 1) := by decide +kernel
theorem dX1_take_19 : decode cX1_take 19 = .ok (.getfield 9, 3) := by decide +kernel
theorem dX1_take_22 : decode cX1_take 22 = .ok (.iconst 1, 1) := by decide +kernel
theorem dX1_take_23 : decode cX1_take 23 = .ok (.iadd, 1) := by decide +kernel
theorem dX1_take_24 : decode cX1_take 24 = .ok (.putfield 9, 3) := by decide +kernel
theorem dX1_take_27 : decode cX1_take 27 = .ok (.return_, 1) := by decide +kernel
theorem dX1_told_0 : decode cX1_told 0 = .ok (.iload_n 1, 1) := by decide +kernel
theorem dX1_told_1 : decode cX1_told 1 = .ok (.iconst 2, 1) := by decide +kernel
theorem dX1_told_2 : decode cX1_told 2 = .ok (.if_icmp .ne 8, 3) := by decide +kernel
theorem dX1_told_5 : decode cX1_told 5 = .ok (.aload_n 0, 1) := by decide +kernel
theorem dX1_told_6 : decode cX1_told 6 = .ok (.getfield 9, 3) := by decide +kernel
theorem dX1_told_9 : decode cX1_told 9 = .ok (.ireturn, 1) := by decide +kernel
theorem dX1_told_10 : decode cX1_told 10 = .ok (.aload_n 0, 1) := by decide +kernel
theorem dX1_told_11 : decode cX1_told 11 = .ok (.getfield 9, 3) := by decide +kernel
theorem dX1_told_14 : decode cX1_told 14 = .ok (.ifCond .ne 6, 3) := by decide +kernel
theorem dX1_told_17 : decode cX1_told 17 = .ok (.bipush (-9), 2) := by decide +kernel
theorem dX1_told_19 : decode cX1_told 19 = .ok (.ireturn, 1) := by decide +kernel
theorem dX1_told_20 : decode cX1_told 20 = .ok (.iload_n 1, 1) := by decide +kernel
theorem dX1_told_21 : decode cX1_told 21 = .ok (.ifCond .ne 10, 3) := by decide +kernel
theorem dX1_told_24 : decode cX1_told 24 = .ok (.aload_n 0, 1) := by decide +kernel
theorem dX1_told_25 : decode cX1_told 25 = .ok (.getfield 15, 3) := by decide +kernel
theorem dX1_told_28 : decode cX1_told 28 = .ok (.goto 7, 3) := by decide +kernel
theorem dX1_told_31 : decode cX1_told 31 = .ok (.aload_n 0, 1) := by decide +kernel
theorem dX1_told_32 : decode cX1_told 32 = .ok (.getfield 18, 3) := by decide +kernel
theorem dX1_told_35 : decode cX1_told 35 = .ok (.ireturn, 1) := by decide +kernel
theorem dX2_init_0 : decode cX2_init 0 = .ok (.aload_n 0, 1) := by decide +kernel
theorem dX2_init_1 : decode cX2_init 1 = .ok (.invokespecial 3, 3) := by decide +kernel
theorem dX2_init_4 : decode cX2_init 4 = .ok (.aload_n 0, 1) := by decide +kernel
theorem dX2_init_5 : decode cX2_init 5 = .ok (.sipush 301, 3) := by decide +kernel
theorem dX2_init_8 : decode cX2_init 8 = .ok (.newarray .int, 2) := by decide +kernel
theorem dX2_init_10 : decode cX2_init 10 = .ok (.putfield 9, 3) := by decide +kernel
theorem dX2_init_13 : decode cX2_init 13 = .ok (.aload_n 0, 1) := by decide +kernel
theorem dX2_init_14 : decode cX2_init 14 = .ok (.sipush 301, 3) := by decide +kernel
theorem dX2_init_17 : decode cX2_init 17 = .ok (.newarray .int, 2) := by decide +kernel
theorem dX2_init_19 : decode cX2_init 19 = .ok (.putfield 15, 3) := by decide +kernel
theorem dX2_init_22 : decode cX2_init 22 = .ok (.return_, 1) := by decide +kernel
theorem dX2_begin_0 : decode cX2_begin 0 = .ok (.aload_n 0, 1) := by decide +kernel
theorem dX2_begin_1 : decode cX2_begin 1 = .ok (.aload_n 1, 1) := by decide +kernel
theorem dX2_begin_2 : decode cX2_begin 2 = .ok (.putfield 18, 3) := by decide +kernel
theorem dX2_begin_5 : decode cX2_begin 5 = .ok (.aload_n 0, 1) := by decide +kernel
theorem dX2_begin_6 : decode cX2_begin 6 = .ok (.getfield 9, 3) := by decide +kernel
theorem dX2_begin_9 : decode cX2_begin 9 = .ok (.iconst 0, 1) := by decide +kernel
theorem dX2_begin_10 : decode cX2_begin 10 = .ok (.aload_n 1, 1) := by decide +kernel
theorem dX2_begin_11 : decode cX2_begin 11 = .ok (.ifnonnull 7, 3) := by decide +kernel
theorem dX2_begin_14 : decode cX2_begin 14 = .ok (.iconst 0, 1) := by decide +kernel
theorem dX2_begin_15 : decode cX2_begin 15 = .ok (.goto 4, 3) := by decide +kernel
theorem dX2_begin_18 : decode cX2_begin 18 = .ok (.iload_n 2, 1) := by decide +kernel
theorem dX2_begin_19 : decode cX2_begin 19 = .ok (.iastore, 1) := by decide +kernel
theorem dX2_begin_20 : decode cX2_begin 20 = .ok (.aload_n 0, 1) := by decide +kernel
theorem dX2_begin_21 : decode cX2_begin 21 = .ok (.getfield 15, 3) := by decide +kernel
theorem dX2_begin_24 : decode cX2_begin 24 = .ok (.iconst 0, 1) := by decide +kernel
theorem dX2_begin_25 : decode cX2_begin 25 = .ok (.iconst 0, 1) := by decide +kernel
theorem dX2_begin_26 : decode cX2_begin 26 = .ok (.iastore, 1) := by decide +kernel
theorem dX2_begin_27 : decode cX2_begin 27 = .ok (.return_, 1) := by decide +kernel
theorem dX2_number_0 : decode cX2_number 0 = .ok (.aload_n 0, 1) := by decide +kernel
theorem dX2_number_1 : decode cX2_number 1 = .ok (.getfield 18, 3) := by decide +kernel
theorem dX2_number_4 : decode cX2_number 4 = .ok (.ifnonnull 7, 3) := by decide +kernel
theorem dX2_number_7 : decode cX2_number 7 = .ok (.iconst 0, 1) := by decide +kernel
theorem dX2_number_8 : decode cX2_number 8 = .ok (.goto 12, 3) := by decide +kernel
theorem dX2_number_11 : decode cX2_number 11 = .ok (.aload_n 0, 1) := by decide +kernel
theorem dX2_number_12 : decode cX2_number 12 = .ok (.getfield 18, 3) := by decide +kernel
theorem dX2_number_15 : decode cX2_number 15 = .ok (.getfield 22, 3) := by decide +kernel
theorem dX2_number_18 : decode cX2_number 18 = .ok (.iload_n 1, 1) := by decide +kernel
theorem dX2_number_19 : decode cX2_number 19 = .ok (.iaload, 1) := by decide +kernel
theorem dX2_number_20 : decode cX2_number 20 = .ok (.ireturn, 1) := by decide +kernel
set_option maxRecDepth 20000 in
theorem ggX2_tick_X4_wanted : GoodIn wsX2_tick wsX4_wanted := goodIn_r _ [9, 10, 11, 12, 13, 59, 60, 61, 62, 63, 64] (by decide +kernel) (by decide +kernel)
set_option maxRecDepth 20000 in
theorem gX2_tick_X4_wanted_u27X3 : GoodIn wsX2_tick (va_wsU RX2 27 RX3 "BallMinder$Plain" ⟨"BallMinder$Plain", "wanted", "(II)I"⟩ yX4_wanted wsX4_wanted) := goodIn_app (goodIn_of _ (by decide +kernel)) ggX2_tick_X4_wanted
set_option maxRecDepth 20000 in
theorem gX2_tick_X4_wanted : GoodIn wsX2_tick (wsV RX2 27 RX4 yX4_wanted wsX4_wanted) := goodIn_app (goodIn_of _ (by decide +kernel)) ggX2_tick_X4_wanted
set_option maxRecDepth 20000 in
theorem gX2_tick_X4_wanted_u27X7 : GoodIn wsX2_tick (va_wsU RX2 27 RX7 "BallMinder$Plain" ⟨"BallMinder$Plain", "wanted", "(II)I"⟩ yX4_wanted wsX4_wanted) := goodIn_app (goodIn_of _ (by decide +kernel)) ggX2_tick_X4_wanted
set_option maxRecDepth 20000 in
theorem ggX2_tick_X3_valveBehind : GoodIn wsX2_tick wsX3_valveBehind := goodIn_r _ [23, 24, 25, 26, 27, 28, 29, 30, 12, 31, 11, 13, 59, 60, 61, 62, 63, 64] (by decide +kernel) (by decide +kernel)
set_option maxRecDepth 20000 in
theorem gX2_tick_X3_valveBehind_u31X3 : GoodIn wsX2_tick (va_wsO RX2 31 RX3 "BallMinder$Plain" ⟨"BallMinder$Plain", "valveBehind", "(II)I"⟩ yX3_valveBehind wsX3_valveBehind) := goodIn_app (goodIn_of _ (by decide +kernel)) ggX2_tick_X3_valveBehind
set_option maxRecDepth 20000 in
theorem ggX2_tick_X4_valveBehind : GoodIn wsX2_tick wsX4_valveBehind := goodIn_r _ [32] (by decide +kernel) (by decide +kernel)
set_option maxRecDepth 20000 in
theorem gX2_tick_X4_valveBehind : GoodIn wsX2_tick (wsV RX2 31 RX4 yX4_valveBehind wsX4_valveBehind) := goodIn_app (goodIn_of _ (by decide +kernel)) ggX2_tick_X4_valveBehind
set_option maxRecDepth 20000 in
theorem ggX2_tick_X7_valveBehind : GoodIn wsX2_tick wsX7_valveBehind := goodIn_r _ [39, 40, 41, 28, 42, 43, 44, 45, 46, 47, 21, 22, 23, 24, 25, 26, 27, 29, 30, 12, 31, 11, 13, 59, 60, 61, 62, 63, 64] (by decide +kernel) (by decide +kernel)
set_option maxRecDepth 20000 in
theorem gX2_tick_X7_valveBehind_u31X7 : GoodIn wsX2_tick (va_wsO RX2 31 RX7 "BallMinder$Plain" ⟨"BallMinder$Plain", "valveBehind", "(II)I"⟩ yX7_valveBehind wsX7_valveBehind) := goodIn_app (goodIn_of _ (by decide +kernel)) ggX2_tick_X7_valveBehind
set_option maxRecDepth 20000 in
theorem ggX2_tick_X4_missedBehind : GoodIn wsX2_tick wsX4_missedBehind := goodIn_r _ [52, 10, 11, 12, 13, 59, 60, 61, 62, 63, 64] (by decide +kernel) (by decide +kernel)
set_option maxRecDepth 20000 in
theorem gX2_tick_X4_missedBehind_u34X3 : GoodIn wsX2_tick (va_wsU RX2 34 RX3 "BallMinder$Plain" ⟨"BallMinder$Plain", "missedBehind", "(II)I"⟩ yX4_missedBehind wsX4_missedBehind) := goodIn_app (goodIn_of _ (by decide +kernel)) ggX2_tick_X4_missedBehind
set_option maxRecDepth 20000 in
theorem gX2_tick_X4_missedBehind : GoodIn wsX2_tick (wsV RX2 34 RX4 yX4_missedBehind wsX4_missedBehind) := goodIn_app (goodIn_of _ (by decide +kernel)) ggX2_tick_X4_missedBehind
set_option maxRecDepth 20000 in
theorem gX2_tick_X4_missedBehind_u34X7 : GoodIn wsX2_tick (va_wsU RX2 34 RX7 "BallMinder$Plain" ⟨"BallMinder$Plain", "missedBehind", "(II)I"⟩ yX4_missedBehind wsX4_missedBehind) := goodIn_app (goodIn_of _ (by decide +kernel)) ggX2_tick_X4_missedBehind
theorem dX2_tick_0 : decode cX2_tick 0 = .ok (.aload_n 0, 1) := by decide +kernel
theorem dX2_tick_1 : decode cX2_tick 1 = .ok (.getfield 18, 3) := by decide +kernel
theorem dX2_tick_4 : decode cX2_tick 4 = .ok (.ifnonnull 22, 3) := by decide +kernel
theorem dX2_tick_7 : decode cX2_tick 7 = .ok (.aload_n 0, 1) := by decide +kernel
theorem dX2_tick_8 : decode cX2_tick 8 = .ok (.getfield 9, 3) := by decide +kernel
theorem dX2_tick_11 : decode cX2_tick 11 = .ok (.iload_n 1, 1) := by decide +kernel
theorem dX2_tick_12 : decode cX2_tick 12 = .ok (.iconst 1, 1) := by decide +kernel
theorem dX2_tick_13 : decode cX2_tick 13 = .ok (.iadd, 1) := by decide +kernel
theorem dX2_tick_14 : decode cX2_tick 14 = .ok (.iconst 0, 1) := by decide +kernel
theorem dX2_tick_15 : decode cX2_tick 15 = .ok (.iastore, 1) := by decide +kernel
theorem dX2_tick_16 : decode cX2_tick 16 = .ok (.aload_n 0, 1) := by decide +kernel
theorem dX2_tick_17 : decode cX2_tick 17 = .ok (.getfield 15, 3) := by decide +kernel
theorem dX2_tick_20 : decode cX2_tick 20 = .ok (.iload_n 1, 1) := by decide +kernel
theorem dX2_tick_21 : decode cX2_tick 21 = .ok (.iconst 1, 1) := by decide +kernel
theorem dX2_tick_22 : decode cX2_tick 22 = .ok (.iadd, 1) := by decide +kernel
theorem dX2_tick_23 : decode cX2_tick 23 = .ok (.iconst 0, 1) := by decide +kernel
theorem dX2_tick_24 : decode cX2_tick 24 = .ok (.iastore, 1) := by decide +kernel
theorem dX2_tick_25 : decode cX2_tick 25 = .ok (.return_, 1) := by decide +kernel
theorem dX2_tick_26 : decode cX2_tick 26 = .ok (.aload_n 0, 1) := by decide +kernel
theorem dX2_tick_27 : decode cX2_tick 27 = .ok (.getfield 9, 3) := by decide +kernel
theorem dX2_tick_30 : decode cX2_tick 30 = .ok (.iload_n 1, 1) := by decide +kernel
theorem dX2_tick_31 : decode cX2_tick 31 = .ok (.iconst 1, 1) := by decide +kernel
theorem dX2_tick_32 : decode cX2_tick 32 = .ok (.iadd, 1) := by decide +kernel
theorem dX2_tick_33 : decode cX2_tick 33 = .ok (.aload_n 0, 1) := by decide +kernel
theorem dX2_tick_34 : decode cX2_tick 34 = .ok (.getfield 18, 3) := by decide +kernel
theorem dX2_tick_37 : decode cX2_tick 37 = .ok (.aload_n 0, 1) := by decide +kernel
theorem dX2_tick_38 : decode cX2_tick 38 = .ok (.getfield 9, 3) := by decide +kernel
theorem dX2_tick_41 : decode cX2_tick 41 = .ok (.iload_n 1, 1) := by decide +kernel
theorem dX2_tick_42 : decode cX2_tick 42 = .ok (.iaload, 1) := by decide +kernel
theorem dX2_tick_43 : decode cX2_tick 43 = .ok (.aload_n 0, 1) := by decide +kernel
theorem dX2_tick_44 : decode cX2_tick 44 = .ok (.getfield 18, 3) := by decide +kernel
theorem dX2_tick_47 : decode cX2_tick 47 = .ok (.iload_n 2, 1) := by decide +kernel
theorem dX2_tick_48 : decode cX2_tick 48 = .ok (.aload_n 0, 1) := by decide +kernel
theorem dX2_tick_49 : decode cX2_tick 49 = .ok (.getfield 15, 3) := by decide +kernel
theorem dX2_tick_52 : decode cX2_tick 52 = .ok (.iload_n 1, 1) := by decide +kernel
theorem dX2_tick_53 : decode cX2_tick 53 = .ok (.iaload, 1) := by decide +kernel
theorem dX2_tick_54 : decode cX2_tick 54 = .ok (.invokevirtual 27, 3) := by decide +kernel
theorem dX2_tick_57 : decode cX2_tick 57 = .ok (.invokevirtual 31, 3) := by decide +kernel
theorem dX2_tick_60 : decode cX2_tick 60 = .ok (.iastore, 1) := by decide +kernel
theorem dX2_tick_61 : decode cX2_tick 61 = .ok (.aload_n 0, 1) := by decide +kernel
theorem dX2_tick_62 : decode cX2_tick 62 = .ok (.getfield 15, 3) := by decide +kernel
theorem dX2_tick_65 : decode cX2_tick 65 = .ok (.iload_n 1, 1) := by decide +kernel
theorem dX2_tick_66 : decode cX2_tick 66 = .ok (.iconst 1, 1) := by decide +kernel
theorem dX2_tick_67 : decode cX2_tick 67 = .ok (.iadd, 1) := by decide +kernel
theorem dX2_tick_68 : decode cX2_tick 68 = .ok (.aload_n 0, 1) := by decide +kernel
theorem dX2_tick_69 : decode cX2_tick 69 = .ok (.getfield 18, 3) := by decide +kernel
theorem dX2_tick_72 : decode cX2_tick 72 = .ok (.iload_n 2, 1) := by decide +kernel
theorem dX2_tick_73 : decode cX2_tick 73 = .ok (.aload_n 0, 1) := by decide +kernel
theorem dX2_tick_74 : decode cX2_tick 74 = .ok (.getfield 15, 3) := by decide +kernel
theorem dX2_tick_77 : decode cX2_tick 77 = .ok (.iload_n 1, 1) := by decide +kernel
theorem dX2_tick_78 : decode cX2_tick 78 = .ok (.iaload, 1) := by decide +kernel
theorem dX2_tick_79 : decode cX2_tick 79 = .ok (.invokevirtual 34, 3) := by decide +kernel
theorem dX2_tick_82 : decode cX2_tick 82 = .ok (.iastore, 1) := by decide +kernel
theorem dX2_tick_83 : decode cX2_tick 83 = .ok (.return_, 1) := by decide +kernel
theorem dX2_isAlike_0 : decode cX2_isAlike 0 = .ok (.aload_n 0, 1) := by decide +kernel
theorem dX2_isAlike_1 : decode cX2_isAlike 1 = .ok (.getfield 9, 3) := by decide +kernel
theorem dX2_isAlike_4 : decode cX2_isAlike 4 = .ok (.iload_n 1, 1) := by decide +kernel
theorem dX2_isAlike_5 : decode cX2_isAlike 5 = .ok (.iaload, 1) := by decide +kernel
theorem dX2_isAlike_6 : decode cX2_isAlike 6 = .ok (.aload_n 0, 1) := by decide +kernel
theorem dX2_isAlike_7 : decode cX2_isAlike 7 = .ok (.getfield 9, 3) := by decide +kernel
theorem dX2_isAlike_10 : decode cX2_isAlike 10 = .ok (.iload_n 2, 1) := by decide +kernel
theorem dX2_isAlike_11 : decode cX2_isAlike 11 = .ok (.iaload, 1) := by decide +kernel
theorem dX2_isAlike_12 : decode cX2_isAlike 12 = .ok (.if_icmp .ne 22, 3) := by decide +kernel
theorem dX2_isAlike_15 : decode cX2_isAlike 15 = .ok (.aload_n 0, 1) := by decide +kernel
theorem dX2_isAlike_16 : decode cX2_isAlike 16 = .ok (.getfield 15, 3) := by decide +kernel
theorem dX2_isAlike_19 : decode cX2_isAlike 19 = .ok (.iload_n 1, 1) := by decide +kernel
theorem dX2_isAlike_20 : decode cX2_isAlike 20 = .ok (.iaload, 1) := by decide +kernel
theorem dX2_isAlike_21 : decode cX2_isAlike 21 = .ok (.aload_n 0, 1) := by decide +kernel
theorem dX2_isAlike_22 : decode cX2_isAlike 22 = .ok (.getfield 15, 3) := by decide +kernel
theorem dX2_isAlike_25 : decode cX2_isAlike 25 = .ok (.iload_n 2, 1) := by decide +kernel
theorem dX2_isAlike_26 : decode cX2_isAlike 26 = .ok (.iaload, 1) := by decide +kernel
theorem dX2_isAlike_27 : decode cX2_isAlike 27 = .ok (.if_icmp .ne 7, 3) := by decide +kernel
theorem dX2_isAlike_30 : decode cX2_isAlike 30 = .ok (.iconst 1, 1) := by decide +kernel
theorem dX2_isAlike_31 : decode cX2_isAlike 31 = .ok (.goto 4, 3) := by decide +kernel
theorem dX2_isAlike_34 : decode cX2_isAlike 34 = .ok (.iconst 0, 1) := by decide +kernel
theorem dX2_isAlike_35 : decode cX2_isAlike 35 = .ok (.ireturn, 1) := by decide +kernel
set_option maxRecDepth 20000 in
theorem ggX3_init_X4_init : GoodIn wsX3_init wsX4_init := goodIn_r _ [4, 5, 6, 7, 8, 9, 10, 11, 12, 13, 14, 15, 16, 17, 18, 19, 20, 21] (by decide +kernel) (by decide +kernel)
set_option maxRecDepth 20000 in
theorem gX3_init_X4_init : GoodIn wsX3_init (wsX4_init) := ggX3_init_X4_init
theorem dX3_init_0 : decode cX3_init 0 = .ok (.aload_n 0, 1) := by decide +kernel
theorem dX3_init_1 : decode cX3_init 1 = .ok (.iload_n 1, 1) := by decide +kernel
theorem dX3_init_2 : decode cX3_init 2 = .ok (.aload_n 2, 1) := by decide +kernel
theorem dX3_init_3 : decode cX3_init 3 = .ok (.invokespecial 3, 3) := by decide +kernel
theorem dX3_init_6 : decode cX3_init 6 = .ok (.return_, 1) := by decide +kernel
theorem dX3_kind_0 : decode cX3_kind 0 = .ok (.iconst 1, 1) := by decide +kernel
theorem dX3_kind_1 : decode cX3_kind 1 = .ok (.ireturn, 1) := by decide +kernel
set_option maxRecDepth 20000 in
theorem ggX3_telling_X9_leave : GoodIn wsX3_telling wsX9_leave := goodIn_r _ [5, 6, 23] (by decide +kernel) (by decide +kernel)
set_option maxRecDepth 20000 in
theorem gX3_telling_X9_leave : GoodIn wsX3_telling (wsV RX3 9 RX9 yX9_leave wsX9_leave) := goodIn_app (goodIn_of _ (by decide +kernel)) ggX3_telling_X9_leave
set_option maxRecDepth 20000 in
theorem ggX3_telling_X4_telling : GoodIn wsX3_telling wsX4_telling := goodIn_r _ [12, 13, 14, 15, 16, 11, 17, 18, 19, 2, 3, 4, 5, 6, 20, 21, 22, 24, 25, 26, 27, 28, 29, 23] (by decide +kernel) (by decide +kernel)
set_option maxRecDepth 20000 in
theorem gX3_telling_X4_telling_s15 : GoodIn wsX3_telling (va_wsSU RX3 15 yX4_telling wsX4_telling) := goodIn_app (goodIn_of _ (by decide +kernel)) ggX3_telling_X4_telling
theorem dX3_telling_0 : decode cX3_telling 0 = .ok (.aload_n 1, 1) := by decide +kernel
theorem dX3_telling_1 : decode cX3_telling 1 = .ok (.iconst 2, 1) := by decide +kernel
theorem dX3_telling_2 : decode cX3_telling 2 = .ok (.invokevirtual 9, 3) := by decide +kernel
theorem dX3_telling_5 : decode cX3_telling 5 = .ok (.aload_n 0, 1) := by decide +kernel
theorem dX3_telling_6 : decode cX3_telling 6 = .ok (.aload_n 1, 1) := by decide +kernel
theorem dX3_telling_7 : decode cX3_telling 7 = .ok (.invokespecial 15, 3) := by decide +kernel
theorem dX3_telling_10 : decode cX3_telling 10 = .ok (.bipush 100, 2) := by decide +kernel
theorem dX3_telling_12 : decode cX3_telling 12 = .ok (.iadd, 1) := by decide +kernel
theorem dX3_telling_13 : decode cX3_telling 13 = .ok (.ireturn, 1) := by decide +kernel
set_option maxRecDepth 20000 in
theorem ggX3_valveBehind_X10_quotient : GoodIn wsX3_valveBehind wsX10_quotient := goodIn_r _ [9] (by decide +kernel) (by decide +kernel)
set_option maxRecDepth 20000 in
theorem gX3_valveBehind_X10_quotient_n25 : GoodIn wsX3_valveBehind (wsX10_quotient) := ggX3_valveBehind_X10_quotient
set_option maxRecDepth 20000 in
theorem ggX3_valveBehind_X10_bounded : GoodIn wsX3_valveBehind wsX10_bounded := goodIn_r _ [11] (by decide +kernel) (by decide +kernel)
set_option maxRecDepth 20000 in
theorem gX3_valveBehind_X10_bounded_n34 : GoodIn wsX3_valveBehind (wsX10_bounded) := ggX3_valveBehind_X10_bounded
theorem dX3_valveBehind_0 : decode cX3_valveBehind 0 = .ok (.iconst 1, 1) := by decide +kernel
theorem dX3_valveBehind_1 : decode cX3_valveBehind 1 = .ok (.bipush 40, 2) := by decide +kernel
theorem dX3_valveBehind_3 : decode cX3_valveBehind 3 = .ok (.aload_n 0, 1) := by decide +kernel
theorem dX3_valveBehind_4 : decode cX3_valveBehind 4 = .ok (.getfield 19, 3) := by decide +kernel
theorem dX3_valveBehind_7 : decode cX3_valveBehind 7 = .ok (.iconst 3, 1) := by decide +kernel
theorem dX3_valveBehind_8 : decode cX3_valveBehind 8 = .ok (.iaload, 1) := by decide +kernel
theorem dX3_valveBehind_9 : decode cX3_valveBehind 9 = .ok (.iconst 1, 1) := by decide +kernel
theorem dX3_valveBehind_10 : decode cX3_valveBehind 10 = .ok (.iadd, 1) := by decide +kernel
theorem dX3_valveBehind_11 : decode cX3_valveBehind 11 = .ok (.invokestatic 25, 3) := by decide +kernel
theorem dX3_valveBehind_14 : decode cX3_valveBehind 14 = .ok (.invokestatic 29, 3) := by decide +kernel
theorem dX3_valveBehind_17 : decode cX3_valveBehind 17 = .ok (.istore_n 3, 1) := by decide +kernel
theorem dX3_valveBehind_18 : decode cX3_valveBehind 18 = .ok (.iload_n 1, 1) := by decide +kernel
theorem dX3_valveBehind_19 : decode cX3_valveBehind 19 = .ok (.iload_n 2, 1) := by decide +kernel
theorem dX3_valveBehind_20 : decode cX3_valveBehind 20 = .ok (.iload_n 1, 1) := by decide +kernel
theorem dX3_valveBehind_21 : decode cX3_valveBehind 21 = .ok (.isub, 1) := by decide +kernel
theorem dX3_valveBehind_22 : decode cX3_valveBehind 22 = .ok (.iload_n 3, 1) := by decide +kernel
theorem dX3_valveBehind_23 : decode cX3_valveBehind 23 = .ok (.ineg, 1) := by decide +kernel
theorem dX3_valveBehind_24 : decode cX3_valveBehind 24 = .ok (.iload_n 3, 1) := by decide +kernel
theorem dX3_valveBehind_25 : decode cX3_valveBehind 25 = .ok (.invokestatic 34, 3) := by decide +kernel
theorem dX3_valveBehind_28 : decode cX3_valveBehind 28 = .ok (.iadd, 1) := by decide +kernel
theorem dX3_valveBehind_29 : decode cX3_valveBehind 29 = .ok (.ireturn, 1) := by decide +kernel
theorem dX4_init_0 : decode cX4_init 0 = .ok (.aload_n 0, 1) := by decide +kernel
theorem dX4_init_1 : decode cX4_init 1 = .ok (.invokespecial 3, 3) := by decide +kernel
theorem dX4_init_4 : decode cX4_init 4 = .ok (.aload_n 0, 1) := by decide +kernel
theorem dX4_init_5 : decode cX4_init 5 = .ok (.iload_n 1, 1) := by decide +kernel
theorem dX4_init_6 : decode cX4_init 6 = .ok (.putfield 9, 3) := by decide +kernel
theorem dX4_init_9 : decode cX4_init 9 = .ok (.aload_n 0, 1) := by decide +kernel
theorem dX4_init_10 : decode cX4_init 10 = .ok (.aload_n 2, 1) := by decide +kernel
theorem dX4_init_11 : decode cX4_init 11 = .ok (.invokevirtual 15, 3) := by decide +kernel
theorem dX4_init_14 : decode cX4_init 14 = .ok (.checkcast 16, 3) := by decide +kernel
theorem dX4_init_17 : decode cX4_init 17 = .ok (.putfield 21, 3) := by decide +kernel
theorem dX4_init_20 : decode cX4_init 20 = .ok (.return_, 1) := by decide +kernel
theorem dX4_kind_0 : decode cX4_kind 0 = .ok (.iconst 0, 1) := by decide +kernel
theorem dX4_kind_1 : decode cX4_kind 1 = .ok (.ireturn, 1) := by decide +kernel
set_option maxRecDepth 20000 in
theorem ggX4_telling_X4_plainTelling : GoodIn wsX4_telling wsX4_plainTelling := goodIn_r _ [6, 7, 8, 9, 10, 11, 12, 13, 17, 18, 19, 20, 21, 22, 23] (by decide +kernel) (by decide +kernel)
set_option maxRecDepth 20000 in
theorem gX4_telling_X4_plainTelling_u24X3 : GoodIn wsX4_telling (va_wsU RX4 24 RX3 "BallMinder$Plain" ⟨"BallMinder$Plain", "plainTelling", "(LBallMinder$Trace;)I"⟩ yX4_plainTelling wsX4_plainTelling) := goodIn_app (goodIn_of _ (by decide +kernel)) ggX4_telling_X4_plainTelling
set_option maxRecDepth 20000 in
theorem gX4_telling_X4_plainTelling : GoodIn wsX4_telling (wsV RX4 24 RX4 yX4_plainTelling wsX4_plainTelling) := goodIn_app (goodIn_of _ (by decide +kernel)) ggX4_telling_X4_plainTelling
set_option maxRecDepth 20000 in
theorem gX4_telling_X4_plainTelling_u24X7 : GoodIn wsX4_telling (va_wsU RX4 24 RX7 "BallMinder$Plain" ⟨"BallMinder$Plain", "plainTelling", "(LBallMinder$Trace;)I"⟩ yX4_plainTelling wsX4_plainTelling) := goodIn_app (goodIn_of _ (by decide +kernel)) ggX4_telling_X4_plainTelling
theorem dX4_telling_0 : decode cX4_telling 0 = .ok (.aload_n 0, 1) := by decide +kernel
theorem dX4_telling_1 : decode cX4_telling 1 = .ok (.aload_n 1, 1) := by decide +kernel
theorem dX4_telling_2 : decode cX4_telling 2 = .ok (.invokevirtual 24, 3) := by decide +kernel
theorem dX4_telling_5 : decode cX4_telling 5 = .ok (.ireturn, 1) := by decide +kernel
set_option maxRecDepth 20000 in
theorem ggX4_plainTelling_X9_leave : GoodIn wsX4_plainTelling wsX9_leave := goodIn_r _ [6, 7, 14] (by decide +kernel) (by decide +kernel)
set_option maxRecDepth 20000 in
theorem gX4_plainTelling_X9_leave : GoodIn wsX4_plainTelling (wsV RX4 28 RX9 yX9_leave wsX9_leave) := goodIn_app (goodIn_of _ (by decide +kernel)) ggX4_plainTelling_X9_leave
theorem dX4_plainTelling_0 : decode cX4_plainTelling 0 = .ok (.aload_n 1, 1) := by decide +kernel
theorem dX4_plainTelling_1 : decode cX4_plainTelling 1 = .ok (.iconst 1, 1) := by decide +kernel
theorem dX4_plainTelling_2 : decode cX4_plainTelling 2 = .ok (.invokevirtual 28, 3) := by decide +kernel
theorem dX4_plainTelling_5 : decode cX4_plainTelling 5 = .ok (.aload_n 0, 1) := by decide +kernel
theorem dX4_plainTelling_6 : decode cX4_plainTelling 6 = .ok (.getfield 21, 3) := by decide +kernel
theorem dX4_plainTelling_9 : decode cX4_plainTelling 9 = .ok (.iconst 0, 1) := by decide +kernel
theorem dX4_plainTelling_10 : decode cX4_plainTelling 10 = .ok (.iaload, 1) := by decide +kernel
theorem dX4_plainTelling_11 : decode cX4_plainTelling 11 = .ok (.ireturn, 1) := by decide +kernel
set_option maxRecDepth 20000 in
theorem ggX4_rung_X9_leave : GoodIn wsX4_rung wsX9_leave := goodIn_r _ [6, 7, 14] (by decide +kernel) (by decide +kernel)
set_option maxRecDepth 20000 in
theorem gX4_rung_X9_leave : GoodIn wsX4_rung (wsV RX4 28 RX9 yX9_leave wsX9_leave) := goodIn_app (goodIn_of _ (by decide +kernel)) ggX4_rung_X9_leave
theorem dX4_rung_0 : decode cX4_rung 0 = .ok (.aload_n 1, 1) := by decide +kernel
theorem dX4_rung_1 : decode cX4_rung 1 = .ok (.iconst 4, 1) := by decide +kernel
theorem dX4_rung_2 : decode cX4_rung 2 = .ok (.invokevirtual 28, 3) := by decide +kernel
theorem dX4_rung_5 : decode cX4_rung 5 = .ok (.aload_n 0, 1) := by decide +kernel
theorem dX4_rung_6 : decode cX4_rung 6 = .ok (.getfield 9, 3) := by decide +kernel
theorem dX4_rung_9 : decode cX4_rung 9 = .ok (.ireturn, 1) := by decide +kernel
theorem dX4_valveBehind_0 : decode cX4_valveBehind 0 = .ok (.iload_n 2, 1) := by decide +kernel
theorem dX4_valveBehind_1 : decode cX4_valveBehind 1 = .ok (.ireturn, 1) := by decide +kernel
set_option maxRecDepth 20000 in
theorem ggX4_wanted_X10_bounded : GoodIn wsX4_wanted wsX10_bounded := goodIn_r _ [4] (by decide +kernel) (by decide +kernel)
set_option maxRecDepth 20000 in
theorem gX4_wanted_X10_bounded_n34 : GoodIn wsX4_wanted (wsX10_bounded) := ggX4_wanted_X10_bounded
theorem dX4_wanted_0 : decode cX4_wanted 0 = .ok (.aload_n 0, 1) := by decide +kernel
theorem dX4_wanted_1 : decode cX4_wanted 1 = .ok (.getfield 21, 3) := by decide +kernel
theorem dX4_wanted_4 : decode cX4_wanted 4 = .ok (.iconst 5, 1) := by decide +kernel
theorem dX4_wanted_5 : decode cX4_wanted 5 = .ok (.iaload, 1) := by decide +kernel
theorem dX4_wanted_6 : decode cX4_wanted 6 = .ok (.iload_n 1, 1) := by decide +kernel
theorem dX4_wanted_7 : decode cX4_wanted 7 = .ok (.bipush 100, 2) := by decide +kernel
theorem dX4_wanted_9 : decode cX4_wanted 9 = .ok (.isub, 1) := by decide +kernel
theorem dX4_wanted_10 : decode cX4_wanted 10 = .ok (.imul, 1) := by decide +kernel
theorem dX4_wanted_11 : decode cX4_wanted 11 = .ok (.aload_n 0, 1) := by decide +kernel
theorem dX4_wanted_12 : decode cX4_wanted 12 = .ok (.getfield 21, 3) := by decide +kernel
theorem dX4_wanted_15 : decode cX4_wanted 15 = .ok (.bipush 6, 2) := by decide +kernel
theorem dX4_wanted_17 : decode cX4_wanted 17 = .ok (.iaload, 1) := by decide +kernel
theorem dX4_wanted_18 : decode cX4_wanted 18 = .ok (.iload_n 2, 1) := by decide +kernel
theorem dX4_wanted_19 : decode cX4_wanted 19 = .ok (.imul, 1) := by decide +kernel
theorem dX4_wanted_20 : decode cX4_wanted 20 = .ok (.bipush 10, 2) := by decide +kernel
theorem dX4_wanted_22 : decode cX4_wanted 22 = .ok (.idiv, 1) := by decide +kernel
theorem dX4_wanted_23 : decode cX4_wanted 23 = .ok (.iadd, 1) := by decide +kernel
theorem dX4_wanted_24 : decode cX4_wanted 24 = .ok (.istore_n 3, 1) := by decide +kernel
theorem dX4_wanted_25 : decode cX4_wanted 25 = .ok (.bipush 50, 2) := by decide +kernel
theorem dX4_wanted_27 : decode cX4_wanted 27 = .ok (.iload_n 3, 1) := by decide +kernel
theorem dX4_wanted_28 : decode cX4_wanted 28 = .ok (.bipush 10, 2) := by decide +kernel
theorem dX4_wanted_30 : decode cX4_wanted 30 = .ok (.idiv, 1) := by decide +kernel
theorem dX4_wanted_31 : decode cX4_wanted 31 = .ok (.isub, 1) := by decide +kernel
theorem dX4_wanted_32 : decode cX4_wanted 32 = .ok (.iconst 0, 1) := by decide +kernel
theorem dX4_wanted_33 : decode cX4_wanted 33 = .ok (.bipush 100, 2) := by decide +kernel
theorem dX4_wanted_35 : decode cX4_wanted 35 = .ok (.invokestatic 34, 3) := by decide +kernel
theorem dX4_wanted_38 : decode cX4_wanted 38 = .ok (.ireturn, 1) := by decide +kernel
set_option maxRecDepth 20000 in
theorem ggX4_missedBehind_X10_bounded : GoodIn wsX4_missedBehind wsX10_bounded := goodIn_r _ [4] (by decide +kernel) (by decide +kernel)
set_option maxRecDepth 20000 in
theorem gX4_missedBehind_X10_bounded_n34 : GoodIn wsX4_missedBehind (wsX10_bounded) := ggX4_missedBehind_X10_bounded
theorem dX4_missedBehind_0 : decode cX4_missedBehind 0 = .ok (.aload_n 0, 1) := by decide +kernel
theorem dX4_missedBehind_1 : decode cX4_missedBehind 1 = .ok (.getfield 21, 3) := by decide +kernel
theorem dX4_missedBehind_4 : decode cX4_missedBehind 4 = .ok (.bipush 6, 2) := by decide +kernel
theorem dX4_missedBehind_6 : decode cX4_missedBehind 6 = .ok (.iaload, 1) := by decide +kernel
theorem dX4_missedBehind_7 : decode cX4_missedBehind 7 = .ok (.ifCond .ne 5, 3) := by decide +kernel
theorem dX4_missedBehind_10 : decode cX4_missedBehind 10 = .ok (.iload_n 2, 1) := by decide +kernel
theorem dX4_missedBehind_11 : decode cX4_missedBehind 11 = .ok (.ireturn, 1) := by decide +kernel
theorem dX4_missedBehind_12 : decode cX4_missedBehind 12 = .ok (.iload_n 2, 1) := by decide +kernel
theorem dX4_missedBehind_13 : decode cX4_missedBehind 13 = .ok (.iload_n 1, 1) := by decide +kernel
theorem dX4_missedBehind_14 : decode cX4_missedBehind 14 = .ok (.iadd, 1) := by decide +kernel
theorem dX4_missedBehind_15 : decode cX4_missedBehind 15 = .ok (.bipush 100, 2) := by decide +kernel
theorem dX4_missedBehind_17 : decode cX4_missedBehind 17 = .ok (.isub, 1) := by decide +kernel
theorem dX4_missedBehind_18 : decode cX4_missedBehind 18 = .ok (.sipush (-9999), 3) := by decide +kernel
theorem dX4_missedBehind_21 : decode cX4_missedBehind 21 = .ok (.sipush 9999, 3) := by decide +kernel
theorem dX4_missedBehind_24 : decode cX4_missedBehind 24 = .ok (.invokestatic 34, 3) := by decide +kernel
theorem dX4_missedBehind_27 : decode cX4_missedBehind 27 = .ok (.ireturn, 1) := by decide +kernel
theorem dX4_hasRestOfItsOwn_0 : decode cX4_hasRestOfItsOwn 0 = .ok (.aload_n 0, 1) := by decide +kernel
theorem dX4_hasRestOfItsOwn_1 : decode cX4_hasRestOfItsOwn 1 = .ok (.getfield 21, 3) := by decide +kernel
theorem dX4_hasRestOfItsOwn_4 : decode cX4_hasRestOfItsOwn 4 = .ok (.iconst 4, 1) := by decide +kernel
theorem dX4_hasRestOfItsOwn_5 : decode cX4_hasRestOfItsOwn 5 = .ok (.iaload, 1) := by decide +kernel
theorem dX4_hasRestOfItsOwn_6 : decode cX4_hasRestOfItsOwn 6 = .ok (.ifCond .eq 17, 3) := by decide +kernel
theorem dX4_hasRestOfItsOwn_9 : decode cX4_hasRestOfItsOwn 9 = .ok (.aload_n 0, 1) := by decide +kernel
theorem dX4_hasRestOfItsOwn_10 : decode cX4_hasRestOfItsOwn 10 = .ok (.getfield 21, 3) := by decide +kernel
theorem dX4_hasRestOfItsOwn_13 : decode cX4_hasRestOfItsOwn 13 = .ok (.bipush 6, 2) := by decide +kernel
theorem dX4_hasRestOfItsOwn_15 : decode cX4_hasRestOfItsOwn 15 = .ok (.iaload, 1) := by decide +kernel
theorem dX4_hasRestOfItsOwn_16 : decode cX4_hasRestOfItsOwn 16 = .ok (.ifCond .ne 7, 3) := by decide +kernel
theorem dX4_hasRestOfItsOwn_19 : decode cX4_hasRestOfItsOwn 19 = .ok (.iconst 1, 1) := by decide +kernel
theorem dX4_hasRestOfItsOwn_20 : decode cX4_hasRestOfItsOwn 20 = .ok (.goto 4, 3) := by decide +kernel
theorem dX4_hasRestOfItsOwn_23 : decode cX4_hasRestOfItsOwn 23 = .ok (.iconst 0, 1) := by decide +kernel
theorem dX4_hasRestOfItsOwn_24 : decode cX4_hasRestOfItsOwn 24 = .ok (.ireturn, 1) := by decide +kernel
set_option maxRecDepth 20000 in
theorem ggX5_init_X2_init : GoodIn wsX5_init wsX2_init := goodIn_r _ [14, 15, 2, 3, 4, 16, 17, 31, 32, 33] (by decide +kernel) (by decide +kernel)
set_option maxRecDepth 20000 in
theorem gX5_init_X2_init_n17 : GoodIn wsX5_init (wsX2_init) := ggX5_init_X2_init
theorem dX5_init_0 : decode cX5_init 0 = .ok (.aload_n 0, 1) := by decide +kernel
theorem dX5_init_1 : decode cX5_init 1 = .ok (.invokespecial 3, 3) := by decide +kernel
theorem dX5_init_4 : decode cX5_init 4 = .ok (.aload_n 0, 1) := by decide +kernel
theorem dX5_init_5 : decode cX5_init 5 = .ok (.sipush 304, 3) := by decide +kernel
theorem dX5_init_8 : decode cX5_init 8 = .ok (.newarray .int, 2) := by decide +kernel
theorem dX5_init_10 : decode cX5_init 10 = .ok (.putfield 9, 3) := by decide +kernel
theorem dX5_init_13 : decode cX5_init 13 = .ok (.aload_n 0, 1) := by decide +kernel
theorem dX5_init_14 : decode cX5_init 14 = .ok (.new 15, 3) := by decide +kernel
theorem dX5_init_17 : decode cX5_init 17 = .ok (.dup, 1) := by decide +kernel
theorem dX5_init_18 : decode cX5_init 18 = .ok (.invokespecial 17, 3) := by decide +kernel
theorem dX5_init_21 : decode cX5_init 21 = .ok (.putfield 18, 3) := by decide +kernel
theorem dX5_init_24 : decode cX5_init 24 = .ok (.aload_n 0, 1) := by decide +kernel
theorem dX5_init_25 : decode cX5_init 25 = .ok (.new 15, 3) := by decide +kernel
theorem dX5_init_28 : decode cX5_init 28 = .ok (.dup, 1) := by decide +kernel
theorem dX5_init_29 : decode cX5_init 29 = .ok (.invokespecial 17, 3) := by decide +kernel
theorem dX5_init_32 : decode cX5_init 32 = .ok (.putfield 22, 3) := by decide +kernel
theorem dX5_init_35 : decode cX5_init 35 = .ok (.aload_n 0, 1) := by decide +kernel
theorem dX5_init_36 : decode cX5_init 36 = .ok (.sipush 256, 3) := by decide +kernel
theorem dX5_init_39 : decode cX5_init 39 = .ok (.newarray .int, 2) := by decide +kernel
theorem dX5_init_41 : decode cX5_init 41 = .ok (.putfield 25, 3) := by decide +kernel
theorem dX5_init_44 : decode cX5_init 44 = .ok (.aload_n 0, 1) := by decide +kernel
theorem dX5_init_45 : decode cX5_init 45 = .ok (.sipush 301, 3) := by decide +kernel
theorem dX5_init_48 : decode cX5_init 48 = .ok (.newarray .int, 2) := by decide +kernel
theorem dX5_init_50 : decode cX5_init 50 = .ok (.putfield 28, 3) := by decide +kernel
theorem dX5_init_53 : decode cX5_init 53 = .ok (.return_, 1) := by decide +kernel
set_option maxRecDepth 20000 in
theorem ggX5_begin_X2_begin : GoodIn wsX5_begin wsX2_begin := goodIn_r _ [16, 17, 18, 19, 38, 39, 40] (by decide +kernel) (by decide +kernel)
set_option maxRecDepth 20000 in
theorem gX5_begin_X2_begin : GoodIn wsX5_begin (wsV RX5 31 RX2 yX2_begin wsX2_begin) := goodIn_app (goodIn_of _ (by decide +kernel)) ggX5_begin_X2_begin
set_option maxRecDepth 20000 in
theorem ggX5_begin_X2_number : GoodIn wsX5_begin wsX2_number := goodIn_r _ [23, 17, 24, 38, 39, 40, 41, 42, 43, 44, 45, 46] (by decide +kernel) (by decide +kernel)
set_option maxRecDepth 20000 in
theorem gX5_begin_X2_number : GoodIn wsX5_begin (wsV RX5 39 RX2 yX2_number wsX2_number) := goodIn_app (goodIn_of _ (by decide +kernel)) ggX5_begin_X2_number
theorem dX5_begin_0 : decode cX5_begin 0 = .ok (.aload_n 0, 1) := by decide +kernel
theorem dX5_begin_1 : decode cX5_begin 1 = .ok (.getfield 18, 3) := by decide +kernel
theorem dX5_begin_4 : decode cX5_begin 4 = .ok (.aload_n 1, 1) := by decide +kernel
theorem dX5_begin_5 : decode cX5_begin 5 = .ok (.iload 4, 2) := by decide +kernel
theorem dX5_begin_7 : decode cX5_begin 7 = .ok (.invokevirtual 31, 3) := by decide +kernel
theorem dX5_begin_10 : decode cX5_begin 10 = .ok (.aload_n 0, 1) := by decide +kernel
theorem dX5_begin_11 : decode cX5_begin 11 = .ok (.getfield 22, 3) := by decide +kernel
theorem dX5_begin_14 : decode cX5_begin 14 = .ok (.aload_n 2, 1) := by decide +kernel
theorem dX5_begin_15 : decode cX5_begin 15 = .ok (.iload 4, 2) := by decide +kernel
theorem dX5_begin_17 : decode cX5_begin 17 = .ok (.invokevirtual 31, 3) := by decide +kernel
theorem dX5_begin_20 : decode cX5_begin 20 = .ok (.aload_n 0, 1) := by decide +kernel
theorem dX5_begin_21 : decode cX5_begin 21 = .ok (.iload 5, 2) := by decide +kernel
theorem dX5_begin_23 : decode cX5_begin 23 = .ok (.putfield 35, 3) := by decide +kernel
theorem dX5_begin_26 : decode cX5_begin 26 = .ok (.aload_n 0, 1) := by decide +kernel
theorem dX5_begin_27 : decode cX5_begin 27 = .ok (.aload_n 0, 1) := by decide +kernel
theorem dX5_begin_28 : decode cX5_begin 28 = .ok (.getfield 18, 3) := by decide +kernel
theorem dX5_begin_31 : decode cX5_begin 31 = .ok (.bipush 7, 2) := by decide +kernel
theorem dX5_begin_33 : decode cX5_begin 33 = .ok (.invokevirtual 39, 3) := by decide +kernel
theorem dX5_begin_36 : decode cX5_begin 36 = .ok (.aload_n 0, 1) := by decide +kernel
theorem dX5_begin_37 : decode cX5_begin 37 = .ok (.getfield 22, 3) := by decide +kernel
theorem dX5_begin_40 : decode cX5_begin 40 = .ok (.bipush 7, 2) := by decide +kernel
theorem dX5_begin_42 : decode cX5_begin 42 = .ok (.invokevirtual 39, 3) := by decide +kernel
theorem dX5_begin_45 : decode cX5_begin 45 = .ok (.invokestatic 43, 3) := by decide +kernel
theorem dX5_begin_48 : decode cX5_begin 48 = .ok (.putfield 49, 3) := by decide +kernel
theorem dX5_begin_51 : decode cX5_begin 51 = .ok (.aload_n 0, 1) := by decide +kernel
theorem dX5_begin_52 : decode cX5_begin 52 = .ok (.aload_n 0, 1) := by decide +kernel
theorem dX5_begin_53 : decode cX5_begin 53 = .ok (.getfield 18, 3) := by decide +kernel
theorem dX5_begin_56 : decode cX5_begin 56 = .ok (.iconst 1, 1) := by decide +kernel
theorem dX5_begin_57 : decode cX5_begin 57 = .ok (.invokevirtual 39, 3) := by decide +kernel
theorem dX5_begin_60 : decode cX5_begin 60 = .ok (.aload_n 0, 1) := by decide +kernel
theorem dX5_begin_61 : decode cX5_begin 61 = .ok (.getfield 22, 3) := by decide +kernel
theorem dX5_begin_64 : decode cX5_begin 64 = .ok (.iconst 1, 1) := by decide +kernel
theorem dX5_begin_65 : decode cX5_begin 65 = .ok (.invokevirtual 39, 3) := by decide +kernel
theorem dX5_begin_68 : decode cX5_begin 68 = .ok (.iadd, 1) := by decide +kernel
theorem dX5_begin_69 : decode cX5_begin 69 = .ok (.putfield 52, 3) := by decide +kernel
theorem dX5_begin_72 : decode cX5_begin 72 = .ok (.aload_n 0, 1) := by decide +kernel
theorem dX5_begin_73 : decode cX5_begin 73 = .ok (.aload_n 0, 1) := by decide +kernel
theorem dX5_begin_74 : decode cX5_begin 74 = .ok (.getfield 18, 3) := by decide +kernel
theorem dX5_begin_77 : decode cX5_begin 77 = .ok (.iconst 0, 1) := by decide +kernel
theorem dX5_begin_78 : decode cX5_begin 78 = .ok (.invokevirtual 39, 3) := by decide +kernel
theorem dX5_begin_81 : decode cX5_begin 81 = .ok (.aload_n 0, 1) := by decide +kernel
theorem dX5_begin_82 : decode cX5_begin 82 = .ok (.getfield 22, 3) := by decide +kernel
theorem dX5_begin_85 : decode cX5_begin 85 = .ok (.iconst 0, 1) := by decide +kernel
theorem dX5_begin_86 : decode cX5_begin 86 = .ok (.invokevirtual 39, 3) := by decide +kernel
theorem dX5_begin_89 : decode cX5_begin 89 = .ok (.iadd, 1) := by decide +kernel
theorem dX5_begin_90 : decode cX5_begin 90 = .ok (.putfield 55, 3) := by decide +kernel
theorem dX5_begin_93 : decode cX5_begin 93 = .ok (.iconst 0, 1) := by decide +kernel
theorem dX5_begin_94 : decode cX5_begin 94 = .ok (.istore 6, 2) := by decide +kernel
theorem dX5_begin_96 : decode cX5_begin 96 = .ok (.iload 6, 2) := by decide +kernel
theorem dX5_begin_98 : decode cX5_begin 98 = .ok (.iconst 3, 1) := by decide +kernel
theorem dX5_begin_99 : decode cX5_begin 99 = .ok (.if_icmp .gt 17, 3) := by decide +kernel
theorem dX5_begin_102 : decode cX5_begin 102 = .ok (.aload_n 0, 1) := by decide +kernel
theorem dX5_begin_103 : decode cX5_begin 103 = .ok (.getfield 9, 3) := by decide +kernel
theorem dX5_begin_106 : decode cX5_begin 106 = .ok (.iload 6, 2) := by decide +kernel
theorem dX5_begin_108 : decode cX5_begin 108 = .ok (.iload_n 3, 1) := by decide +kernel
theorem dX5_begin_109 : decode cX5_begin 109 = .ok (.iastore, 1) := by decide +kernel
theorem dX5_begin_110 : decode cX5_begin 110 = .ok (.iinc 6 1, 3) := by decide +kernel
theorem dX5_begin_113 : decode cX5_begin 113 = .ok (.goto (-17), 3) := by decide +kernel
theorem dX5_begin_116 : decode cX5_begin 116 = .ok (.return_, 1) := by decide +kernel
theorem dX5_beatAt_0 : decode cX5_beatAt 0 = .ok (.aload_n 0, 1) := by decide +kernel
theorem dX5_beatAt_1 : decode cX5_beatAt 1 = .ok (.getfield 9, 3) := by decide +kernel
theorem dX5_beatAt_4 : decode cX5_beatAt 4 = .ok (.iconst 3, 1) := by decide +kernel
theorem dX5_beatAt_5 : decode cX5_beatAt 5 = .ok (.iload_n 1, 1) := by decide +kernel
theorem dX5_beatAt_6 : decode cX5_beatAt 6 = .ok (.iadd, 1) := by decide +kernel
theorem dX5_beatAt_7 : decode cX5_beatAt 7 = .ok (.iaload, 1) := by decide +kernel
theorem dX5_beatAt_8 : decode cX5_beatAt 8 = .ok (.ireturn, 1) := by decide +kernel
set_option maxRecDepth 20000 in
theorem ggX5_tick_X10_within : GoodIn wsX5_tick wsX10_within := goodIn_r _ [9] (by decide +kernel) (by decide +kernel)
set_option maxRecDepth 20000 in
theorem gX5_tick_X10_within_n58 : GoodIn wsX5_tick (wsX10_within) := ggX5_tick_X10_within
set_option maxRecDepth 20000 in
theorem ggX5_tick_X2_number : GoodIn wsX5_tick wsX2_number := goodIn_r _ [14, 15, 16, 92, 93, 94, 95, 96, 97, 98, 99, 100] (by decide +kernel) (by decide +kernel)
set_option maxRecDepth 20000 in
theorem gX5_tick_X2_number : GoodIn wsX5_tick (wsV RX5 39 RX2 yX2_number wsX2_number) := goodIn_app (goodIn_of _ (by decide +kernel)) ggX5_tick_X2_number
set_option maxRecDepth 20000 in
theorem ggX5_tick_X5_beatAt : GoodIn wsX5_tick wsX5_beatAt := goodIn_r _ [21, 5, 79, 80, 81, 82, 83, 84, 85, 86, 87, 88, 89, 90, 91] (by decide +kernel) (by decide +kernel)
set_option maxRecDepth 20000 in
theorem gX5_tick_X5_beatAt : GoodIn wsX5_tick (wsV RX5 62 RX5 yX5_beatAt wsX5_beatAt) := goodIn_app (goodIn_of _ (by decide +kernel)) ggX5_tick_X5_beatAt
set_option maxRecDepth 20000 in
theorem ggX5_tick_X2_tick : GoodIn wsX5_tick wsX2_tick := goodIn_r _ [25, 15, 26, 27, 28, 29, 30, 31, 32, 33, 34, 35, 8, 36, 37, 38, 39, 40, 41, 42, 43, 44, 45, 46, 47, 48, 49, 50, 51, 52, 53, 54, 55, 56, 57, 58, 59, 60, 61, 62, 63, 64, 65, 66, 67, 68, 69, 70, 71, 72, 73, 74, 75, 76, 77, 78, 92, 93, 94, 95, 96, 97, 98, 99, 100] (by decide +kernel) (by decide +kernel)
set_option maxRecDepth 20000 in
theorem gX5_tick_X2_tick : GoodIn wsX5_tick (wsV RX5 65 RX2 yX2_tick wsX2_tick) := goodIn_app (goodIn_of _ (by decide +kernel)) ggX5_tick_X2_tick
set_option maxRecDepth 20000 in
theorem ggX5_tick_X10_quotient : GoodIn wsX5_tick wsX10_quotient := goodIn_r _ [54] (by decide +kernel) (by decide +kernel)
set_option maxRecDepth 20000 in
theorem gX5_tick_X10_quotient_n72 : GoodIn wsX5_tick (wsX10_quotient) := ggX5_tick_X10_quotient
set_option maxRecDepth 20000 in
theorem ggX5_tick_X10_bounded : GoodIn wsX5_tick wsX10_bounded := goodIn_r _ [36] (by decide +kernel) (by decide +kernel)
set_option maxRecDepth 20000 in
theorem gX5_tick_X10_bounded_n75 : GoodIn wsX5_tick (wsX10_bounded) := ggX5_tick_X10_bounded
theorem dX5_tick_0 : decode cX5_tick 0 = .ok (.iload_n 1, 1) := by decide +kernel
theorem dX5_tick_1 : decode cX5_tick 1 = .ok (.iconst 0, 1) := by decide +kernel
theorem dX5_tick_2 : decode cX5_tick 2 = .ok (.sipush 299, 3) := by decide +kernel
theorem dX5_tick_5 : decode cX5_tick 5 = .ok (.invokestatic 58, 3) := by decide +kernel
theorem dX5_tick_8 : decode cX5_tick 8 = .ok (.ifCond .ne 4, 3) := by decide +kernel
theorem dX5_tick_11 : decode cX5_tick 11 = .ok (.return_, 1) := by decide +kernel
theorem dX5_tick_12 : decode cX5_tick 12 = .ok (.aload_n 0, 1) := by decide +kernel
theorem dX5_tick_13 : decode cX5_tick 13 = .ok (.getfield 18, 3) := by decide +kernel
theorem dX5_tick_16 : decode cX5_tick 16 = .ok (.iload_n 1, 1) := by decide +kernel
theorem dX5_tick_17 : decode cX5_tick 17 = .ok (.aload_n 0, 1) := by decide +kernel
theorem dX5_tick_18 : decode cX5_tick 18 = .ok (.iload_n 1, 1) := by decide +kernel
theorem dX5_tick_19 : decode cX5_tick 19 = .ok (.aload_n 0, 1) := by decide +kernel
theorem dX5_tick_20 : decode cX5_tick 20 = .ok (.getfield 18, 3) := by decide +kernel
theorem dX5_tick_23 : decode cX5_tick 23 = .ok (.bipush 7, 2) := by decide +kernel
theorem dX5_tick_25 : decode cX5_tick 25 = .ok (.invokevirtual 39, 3) := by decide +kernel
theorem dX5_tick_28 : decode cX5_tick 28 = .ok (.isub, 1) := by decide +kernel
theorem dX5_tick_29 : decode cX5_tick 29 = .ok (.invokevirtual 62, 3) := by decide +kernel
theorem dX5_tick_32 : decode cX5_tick 32 = .ok (.invokevirtual 65, 3) := by decide +kernel
theorem dX5_tick_35 : decode cX5_tick 35 = .ok (.aload_n 0, 1) := by decide +kernel
theorem dX5_tick_36 : decode cX5_tick 36 = .ok (.getfield 22, 3) := by decide +kernel
theorem dX5_tick_39 : decode cX5_tick 39 = .ok (.iload_n 1, 1) := by decide +kernel
theorem dX5_tick_40 : decode cX5_tick 40 = .ok (.aload_n 0, 1) := by decide +kernel
theorem dX5_tick_41 : decode cX5_tick 41 = .ok (.iload_n 1, 1) := by decide +kernel
theorem dX5_tick_42 : decode cX5_tick 42 = .ok (.aload_n 0, 1) := by decide +kernel
theorem dX5_tick_43 : decode cX5_tick 43 = .ok (.getfield 22, 3) := by decide +kernel
theorem dX5_tick_46 : decode cX5_tick 46 = .ok (.bipush 7, 2) := by decide +kernel
theorem dX5_tick_48 : decode cX5_tick 48 = .ok (.invokevirtual 39, 3) := by decide +kernel
theorem dX5_tick_51 : decode cX5_tick 51 = .ok (.isub, 1) := by decide +kernel
theorem dX5_tick_52 : decode cX5_tick 52 = .ok (.invokevirtual 62, 3) := by decide +kernel
theorem dX5_tick_55 : decode cX5_tick 55 = .ok (.invokevirtual 65, 3) := by decide +kernel
theorem dX5_tick_58 : decode cX5_tick 58 = .ok (.aload_n 0, 1) := by decide +kernel
theorem dX5_tick_59 : decode cX5_tick 59 = .ok (.iload_n 1, 1) := by decide +kernel
theorem dX5_tick_60 : decode cX5_tick 60 = .ok (.invokevirtual 62, 3) := by decide +kernel
theorem dX5_tick_63 : decode cX5_tick 63 = .ok (.istore_n 2, 1) := by decide +kernel
theorem dX5_tick_64 : decode cX5_tick 64 = .ok (.aload_n 0, 1) := by decide +kernel
theorem dX5_tick_65 : decode cX5_tick 65 = .ok (.getfield 18, 3) := by decide +kernel
theorem dX5_tick_68 : decode cX5_tick 68 = .ok (.getfield 69, 3) := by decide +kernel
theorem dX5_tick_71 : decode cX5_tick 71 = .ok (.iload_n 1, 1) := by decide +kernel
theorem dX5_tick_72 : decode cX5_tick 72 = .ok (.iconst 1, 1) := by decide +kernel
theorem dX5_tick_73 : decode cX5_tick 73 = .ok (.iadd, 1) := by decide +kernel
theorem dX5_tick_74 : decode cX5_tick 74 = .ok (.iaload, 1) := by decide +kernel
theorem dX5_tick_75 : decode cX5_tick 75 = .ok (.aload_n 0, 1) := by decide +kernel
theorem dX5_tick_76 : decode cX5_tick 76 = .ok (.getfield 22, 3) := by decide +kernel
theorem dX5_tick_79 : decode cX5_tick 79 = .ok (.getfield 69, 3) := by decide +kernel
theorem dX5_tick_82 : decode cX5_tick 82 = .ok (.iload_n 1, 1) := by decide +kernel
theorem dX5_tick_83 : decode cX5_tick 83 = .ok (.iconst 1, 1) := by decide +kernel
theorem dX5_tick_84 : decode cX5_tick 84 = .ok (.iadd, 1) := by decide +kernel
theorem dX5_tick_85 : decode cX5_tick 85 = .ok (.iaload, 1) := by decide +kernel
theorem dX5_tick_86 : decode cX5_tick 86 = .ok (.iadd, 1) := by decide +kernel
theorem dX5_tick_87 : decode cX5_tick 87 = .ok (.istore_n 3, 1) := by decide +kernel
theorem dX5_tick_88 : decode cX5_tick 88 = .ok (.bipush 10, 2) := by decide +kernel
theorem dX5_tick_90 : decode cX5_tick 90 = .ok (.iload_n 3, 1) := by decide +kernel
theorem dX5_tick_91 : decode cX5_tick 91 = .ok (.imul, 1) := by decide +kernel
theorem dX5_tick_92 : decode cX5_tick 92 = .ok (.bipush 10, 2) := by decide +kernel
theorem dX5_tick_94 : decode cX5_tick 94 = .ok (.aload_n 0, 1) := by decide +kernel
theorem dX5_tick_95 : decode cX5_tick 95 = .ok (.getfield 35, 3) := by decide +kernel
theorem dX5_tick_98 : decode cX5_tick 98 = .ok (.imul, 1) := by decide +kernel
theorem dX5_tick_99 : decode cX5_tick 99 = .ok (.isub, 1) := by decide +kernel
theorem dX5_tick_100 : decode cX5_tick 100 = .ok (.aload_n 0, 1) := by decide +kernel
theorem dX5_tick_101 : decode cX5_tick 101 = .ok (.getfield 52, 3) := by decide +kernel
theorem dX5_tick_104 : decode cX5_tick 104 = .ok (.iload_n 2, 1) := by decide +kernel
theorem dX5_tick_105 : decode cX5_tick 105 = .ok (.bipush 100, 2) := by decide +kernel
theorem dX5_tick_107 : decode cX5_tick 107 = .ok (.isub, 1) := by decide +kernel
theorem dX5_tick_108 : decode cX5_tick 108 = .ok (.imul, 1) := by decide +kernel
theorem dX5_tick_109 : decode cX5_tick 109 = .ok (.isub, 1) := by decide +kernel
theorem dX5_tick_110 : decode cX5_tick 110 = .ok (.istore 4, 2) := by decide +kernel
theorem dX5_tick_112 : decode cX5_tick 112 = .ok (.aload_n 0, 1) := by decide +kernel
theorem dX5_tick_113 : decode cX5_tick 113 = .ok (.getfield 9, 3) := by decide +kernel
theorem dX5_tick_116 : decode cX5_tick 116 = .ok (.iconst 3, 1) := by decide +kernel
theorem dX5_tick_117 : decode cX5_tick 117 = .ok (.iload_n 1, 1) := by decide +kernel
theorem dX5_tick_118 : decode cX5_tick 118 = .ok (.iadd, 1) := by decide +kernel
theorem dX5_tick_119 : decode cX5_tick 119 = .ok (.iconst 1, 1) := by decide +kernel
theorem dX5_tick_120 : decode cX5_tick 120 = .ok (.iadd, 1) := by decide +kernel
theorem dX5_tick_121 : decode cX5_tick 121 = .ok (.iload_n 2, 1) := by decide +kernel
theorem dX5_tick_122 : decode cX5_tick 122 = .ok (.iload 4, 2) := by decide +kernel
theorem dX5_tick_124 : decode cX5_tick 124 = .ok (.aload_n 0, 1) := by decide +kernel
theorem dX5_tick_125 : decode cX5_tick 125 = .ok (.getfield 55, 3) := by decide +kernel
theorem dX5_tick_128 : decode cX5_tick 128 = .ok (.invokestatic 72, 3) := by decide +kernel
theorem dX5_tick_131 : decode cX5_tick 131 = .ok (.iadd, 1) := by decide +kernel
theorem dX5_tick_132 : decode cX5_tick 132 = .ok (.iconst 0, 1) := by decide +kernel
theorem dX5_tick_133 : decode cX5_tick 133 = .ok (.sipush 999, 3) := by decide +kernel
theorem dX5_tick_136 : decode cX5_tick 136 = .ok (.invokestatic 75, 3) := by decide +kernel
theorem dX5_tick_139 : decode cX5_tick 139 = .ok (.iastore, 1) := by decide +kernel
theorem dX5_tick_140 : decode cX5_tick 140 = .ok (.return_, 1) := by decide +kernel
set_option maxRecDepth 20000 in
theorem ggX5_runTicks_X5_tick : GoodIn wsX5_runTicks wsX5_tick := goodIn_r _ [5, 6, 7, 8, 9, 10, 11, 12, 13, 14, 15, 16, 17, 18, 19, 20, 21, 22, 23, 24, 4, 25, 26, 27, 28, 29, 30, 31, 32, 33, 34, 35, 36, 37, 38, 39, 40, 41, 42, 43, 44, 45, 46, 47, 48, 49, 50, 51, 52, 53, 54, 55, 56, 57, 58, 59, 60, 61, 62, 63, 64, 65, 66, 67, 68, 69, 70, 71, 72, 73, 74, 75, 76, 77, 78, 79, 80, 81, 82, 83, 84, 85, 86, 87, 88, 89, 90, 91, 92, 93, 94, 95, 96, 97, 98, 99, 100, 101, 102, 103, 104] (by decide +kernel) (by decide +kernel)
set_option maxRecDepth 20000 in
theorem gX5_runTicks_X5_tick : GoodIn wsX5_runTicks (wsV RX5 79 RX5 yX5_tick wsX5_tick) := goodIn_app (goodIn_of _ (by decide +kernel)) ggX5_runTicks_X5_tick
theorem dX5_runTicks_0 : decode cX5_runTicks 0 = .ok (.iconst 0, 1) := by decide +kernel
theorem dX5_runTicks_1 : decode cX5_runTicks 1 = .ok (.istore_n 2, 1) := by decide +kernel
theorem dX5_runTicks_2 : decode cX5_runTicks 2 = .ok (.iload_n 2, 1) := by decide +kernel
theorem dX5_runTicks_3 : decode cX5_runTicks 3 = .ok (.iload_n 1, 1) := by decide +kernel
theorem dX5_runTicks_4 : decode cX5_runTicks 4 = .ok (.if_icmp .ge 14, 3) := by decide +kernel
theorem dX5_runTicks_7 : decode cX5_runTicks 7 = .ok (.aload_n 0, 1) := by decide +kernel
theorem dX5_runTicks_8 : decode cX5_runTicks 8 = .ok (.iload_n 2, 1) := by decide +kernel
theorem dX5_runTicks_9 : decode cX5_runTicks 9 = .ok (.invokevirtual 79, 3) := by decide +kernel
theorem dX5_runTicks_12 : decode cX5_runTicks 12 = .ok (.iinc 2 1, 3) := by decide +kernel
theorem dX5_runTicks_15 : decode cX5_runTicks 15 = .ok (.goto (-13), 3) := by decide +kernel
theorem dX5_runTicks_18 : decode cX5_runTicks 18 = .ok (.return_, 1) := by decide +kernel
set_option maxRecDepth 20000 in
theorem ggX5_runTillRound_J7_fill_53178 : GoodIn wsX5_runTillRound wsJ7_fill_53178 := goodIn_r _ [16] (by decide +kernel) (by decide +kernel)
set_option maxRecDepth 20000 in
theorem gX5_runTillRound_J7_fill_53178 : GoodIn wsX5_runTillRound (va_wsS RX5 82 yJ7_fill_53178 wsJ7_fill_53178) := goodIn_app (goodIn_of _ (by decide +kernel)) ggX5_runTillRound_J7_fill_53178
set_option maxRecDepth 20000 in
theorem ggX5_runTillRound_X5_beatAt : GoodIn wsX5_runTillRound wsX5_beatAt := goodIn_r _ [21, 22, 118, 119, 120, 121, 122, 123, 124, 125, 126, 127, 128, 129, 130] (by decide +kernel) (by decide +kernel)
set_option maxRecDepth 20000 in
theorem gX5_runTillRound_X5_beatAt : GoodIn wsX5_runTillRound (wsV RX5 62 RX5 yX5_beatAt wsX5_beatAt) := goodIn_app (goodIn_of _ (by decide +kernel)) ggX5_runTillRound_X5_beatAt
set_option maxRecDepth 20000 in
theorem ggX5_runTillRound_X5_remember : GoodIn wsX5_runTillRound wsX5_remember := goodIn_r _ [26, 27, 1, 28, 29, 30, 20, 31, 32, 33, 17, 18, 19, 21, 22, 118, 119, 120, 121, 122, 123, 124, 125, 126, 127, 128, 129, 130, 131, 132, 133] (by decide +kernel) (by decide +kernel)
set_option maxRecDepth 20000 in
theorem gX5_runTillRound_X5_remember : GoodIn wsX5_runTillRound (wsV RX5 97 RX5 yX5_remember wsX5_remember) := goodIn_app (goodIn_of _ (by decide +kernel)) ggX5_runTillRound_X5_remember
set_option maxRecDepth 20000 in
theorem ggX5_runTillRound_X5_tick : GoodIn wsX5_runTillRound wsX5_tick := goodIn_r _ [37, 32, 33, 38, 39, 22, 40, 41, 42, 43, 44, 45, 46, 47, 48, 49, 50, 17, 18, 19, 20, 21, 51, 52, 53, 54, 55, 56, 57, 58, 59, 60, 61, 62, 63, 64, 65, 66, 67, 68, 69, 70, 71, 72, 73, 74, 75, 76, 77, 78, 11, 8, 12, 79, 80, 81, 82, 83, 84, 85, 86, 87, 88, 89, 90, 91, 92, 93, 94, 95, 96, 97, 98, 99, 100, 101, 102, 103, 104, 118, 119, 120, 121, 122, 123, 124, 125, 126, 127, 128, 129, 130, 131, 132, 133, 134, 135, 136, 137, 138, 139] (by decide +kernel) (by decide +kernel)
set_option maxRecDepth 20000 in
theorem gX5_runTillRound_X5_tick : GoodIn wsX5_runTillRound (wsV RX5 79 RX5 yX5_tick wsX5_tick) := goodIn_app (goodIn_of _ (by decide +kernel)) ggX5_runTillRound_X5_tick
set_option maxRecDepth 20000 in
theorem ggX5_runTillRound_X5_tickLike : GoodIn wsX5_runTillRound wsX5_tickLike := goodIn_r _ [108, 1, 27, 28, 29, 30, 20, 31, 32, 33, 17, 18, 19, 21, 22, 109, 110, 111, 112, 113, 114, 115, 116, 47, 117, 55, 56, 118, 119, 120, 121, 122, 123, 124, 125, 126, 127, 128, 129, 130, 131, 132, 133] (by decide +kernel) (by decide +kernel)
set_option maxRecDepth 20000 in
theorem gX5_runTillRound_X5_tickLike : GoodIn wsX5_runTillRound (wsV RX5 106 RX5 yX5_tickLike wsX5_tickLike) := goodIn_app (goodIn_of _ (by decide +kernel)) ggX5_runTillRound_X5_tickLike
theorem dX5_runTillRound_0 : decode cX5_runTillRound 0 = .ok (.aload_n 0, 1) := by decide +kernel
theorem dX5_runTillRound_1 : decode cX5_runTillRound 1 = .ok (.getfield 25, 3) := by decide +kernel
theorem dX5_runTillRound_4 : decode cX5_runTillRound 4 = .ok (.iconst (-1), 1) := by decide +kernel
theorem dX5_runTillRound_5 : decode cX5_runTillRound 5 = .ok (.invokestatic 82, 3) := by decide +kernel
theorem dX5_runTillRound_8 : decode cX5_runTillRound 8 = .ok (.aload_n 0, 1) := by decide +kernel
theorem dX5_runTillRound_9 : decode cX5_runTillRound 9 = .ok (.iconst 0, 1) := by decide +kernel
theorem dX5_runTillRound_10 : decode cX5_runTillRound 10 = .ok (.putfield 88, 3) := by decide +kernel
theorem dX5_runTillRound_13 : decode cX5_runTillRound 13 = .ok (.aload_n 0, 1) := by decide +kernel
theorem dX5_runTillRound_14 : decode cX5_runTillRound 14 = .ok (.aload_n 0, 1) := by decide +kernel
theorem dX5_runTillRound_15 : decode cX5_runTillRound 15 = .ok (.iconst 0, 1) := by decide +kernel
theorem dX5_runTillRound_16 : decode cX5_runTillRound 16 = .ok (.invokevirtual 62, 3) := by decide +kernel
theorem dX5_runTillRound_19 : decode cX5_runTillRound 19 = .ok (.putfield 91, 3) := by decide +kernel
theorem dX5_runTillRound_22 : decode cX5_runTillRound 22 = .ok (.aload_n 0, 1) := by decide +kernel
theorem dX5_runTillRound_23 : decode cX5_runTillRound 23 = .ok (.aload_n 0, 1) := by decide +kernel
theorem dX5_runTillRound_24 : decode cX5_runTillRound 24 = .ok (.iconst 0, 1) := by decide +kernel
theorem dX5_runTillRound_25 : decode cX5_runTillRound 25 = .ok (.invokevirtual 62, 3) := by decide +kernel
theorem dX5_runTillRound_28 : decode cX5_runTillRound 28 = .ok (.putfield 94, 3) := by decide +kernel
theorem dX5_runTillRound_31 : decode cX5_runTillRound 31 = .ok (.aload_n 0, 1) := by decide +kernel
theorem dX5_runTillRound_32 : decode cX5_runTillRound 32 = .ok (.iconst 0, 1) := by decide +kernel
theorem dX5_runTillRound_33 : decode cX5_runTillRound 33 = .ok (.invokevirtual 97, 3) := by decide +kernel
theorem dX5_runTillRound_36 : decode cX5_runTillRound 36 = .ok (.iconst 1, 1) := by decide +kernel
theorem dX5_runTillRound_37 : decode cX5_runTillRound 37 = .ok (.istore_n 1, 1) := by decide +kernel
theorem dX5_runTillRound_38 : decode cX5_runTillRound 38 = .ok (.iload_n 1, 1) := by decide +kernel
theorem dX5_runTillRound_39 : decode cX5_runTillRound 39 = .ok (.sipush 300, 3) := by decide +kernel
theorem dX5_runTillRound_42 : decode cX5_runTillRound 42 = .ok (.if_icmp .gt 86, 3) := by decide +kernel
theorem dX5_runTillRound_45 : decode cX5_runTillRound 45 = .ok (.aload_n 0, 1) := by decide +kernel
theorem dX5_runTillRound_46 : decode cX5_runTillRound 46 = .ok (.getfield 88, 3) := by decide +kernel
theorem dX5_runTillRound_49 : decode cX5_runTillRound 49 = .ok (.ifCond .ne 79, 3) := by decide +kernel
theorem dX5_runTillRound_52 : decode cX5_runTillRound 52 = .ok (.aload_n 0, 1) := by decide +kernel
theorem dX5_runTillRound_53 : decode cX5_runTillRound 53 = .ok (.iload_n 1, 1) := by decide +kernel
theorem dX5_runTillRound_54 : decode cX5_runTillRound 54 = .ok (.iconst 1, 1) := by decide +kernel
theorem dX5_runTillRound_55 : decode cX5_runTillRound 55 = .ok (.isub, 1) := by decide +kernel
theorem dX5_runTillRound_56 : decode cX5_runTillRound 56 = .ok (.invokevirtual 79, 3) := by decide +kernel
theorem dX5_runTillRound_59 : decode cX5_runTillRound 59 = .ok (.aload_n 0, 1) := by decide +kernel
theorem dX5_runTillRound_60 : decode cX5_runTillRound 60 = .ok (.iload_n 1, 1) := by decide +kernel
theorem dX5_runTillRound_61 : decode cX5_runTillRound 61 = .ok (.putfield 100, 3) := by decide +kernel
theorem dX5_runTillRound_64 : decode cX5_runTillRound 64 = .ok (.aload_n 0, 1) := by decide +kernel
theorem dX5_runTillRound_65 : decode cX5_runTillRound 65 = .ok (.aload_n 0, 1) := by decide +kernel
theorem dX5_runTillRound_66 : decode cX5_runTillRound 66 = .ok (.getfield 91, 3) := by decide +kernel
theorem dX5_runTillRound_69 : decode cX5_runTillRound 69 = .ok (.aload_n 0, 1) := by decide +kernel
theorem dX5_runTillRound_70 : decode cX5_runTillRound 70 = .ok (.iload_n 1, 1) := by decide +kernel
theorem dX5_runTillRound_71 : decode cX5_runTillRound 71 = .ok (.invokevirtual 62, 3) := by decide +kernel
theorem dX5_runTillRound_74 : decode cX5_runTillRound 74 = .ok (.invokestatic 103, 3) := by decide +kernel
theorem dX5_runTillRound_77 : decode cX5_runTillRound 77 = .ok (.putfield 91, 3) := by decide +kernel
theorem dX5_runTillRound_80 : decode cX5_runTillRound 80 = .ok (.aload_n 0, 1) := by decide +kernel
theorem dX5_runTillRound_81 : decode cX5_runTillRound 81 = .ok (.aload_n 0, 1) := by decide +kernel
theorem dX5_runTillRound_82 : decode cX5_runTillRound 82 = .ok (.getfield 94, 3) := by decide +kernel
theorem dX5_runTillRound_85 : decode cX5_runTillRound 85 = .ok (.aload_n 0, 1) := by decide +kernel
theorem dX5_runTillRound_86 : decode cX5_runTillRound 86 = .ok (.iload_n 1, 1) := by decide +kernel
theorem dX5_runTillRound_87 : decode cX5_runTillRound 87 = .ok (.invokevirtual 62, 3) := by decide +kernel
theorem dX5_runTillRound_90 : decode cX5_runTillRound 90 = .ok (.invokestatic 43, 3) := by decide +kernel
theorem dX5_runTillRound_93 : decode cX5_runTillRound 93 = .ok (.putfield 94, 3) := by decide +kernel
theorem dX5_runTillRound_96 : decode cX5_runTillRound 96 = .ok (.aload_n 0, 1) := by decide +kernel
theorem dX5_runTillRound_97 : decode cX5_runTillRound 97 = .ok (.iload_n 1, 1) := by decide +kernel
theorem dX5_runTillRound_98 : decode cX5_runTillRound 98 = .ok (.invokevirtual 106, 3) := by decide +kernel
theorem dX5_runTillRound_101 : decode cX5_runTillRound 101 = .ok (.istore_n 2, 1) := by decide +kernel
theorem dX5_runTillRound_102 : decode cX5_runTillRound 102 = .ok (.iload_n 2, 1) := by decide +kernel
theorem dX5_runTillRound_103 : decode cX5_runTillRound 103 = .ok (.iconst (-1), 1) := by decide +kernel
theorem dX5_runTillRound_104 : decode cX5_runTillRound 104 = .ok (.if_icmp .ne 11, 3) := by decide +kernel
theorem dX5_runTillRound_107 : decode cX5_runTillRound 107 = .ok (.aload_n 0, 1) := by decide +kernel
theorem dX5_runTillRound_108 : decode cX5_runTillRound 108 = .ok (.iload_n 1, 1) := by decide +kernel
theorem dX5_runTillRound_109 : decode cX5_runTillRound 109 = .ok (.invokevirtual 97, 3) := by decide +kernel
theorem dX5_runTillRound_112 : decode cX5_runTillRound 112 = .ok (.goto 10, 3) := by decide +kernel
theorem dX5_runTillRound_115 : decode cX5_runTillRound 115 = .ok (.aload_n 0, 1) := by decide +kernel
theorem dX5_runTillRound_116 : decode cX5_runTillRound 116 = .ok (.iload_n 1, 1) := by decide +kernel
theorem dX5_runTillRound_117 : decode cX5_runTillRound 117 = .ok (.iload_n 2, 1) := by decide +kernel
theorem dX5_runTillRound_118 : decode cX5_runTillRound 118 = .ok (.isub, 1) := by decide +kernel
theorem dX5_runTillRound_119 : decode cX5_runTillRound 119 = .ok (.putfield 88, 3) := by decide +kernel
theorem dX5_runTillRound_122 : decode cX5_runTillRound 122 = .ok (.iinc 1 1, 3) := by decide +kernel
theorem dX5_runTillRound_125 : decode cX5_runTillRound 125 = .ok (.goto (-87), 3) := by decide +kernel
theorem dX5_runTillRound_128 : decode cX5_runTillRound 128 = .ok (.return_, 1) := by decide +kernel
theorem dX5_ending_0 : decode cX5_ending 0 = .ok (.aload_n 0, 1) := by decide +kernel
theorem dX5_ending_1 : decode cX5_ending 1 = .ok (.getfield 88, 3) := by decide +kernel
theorem dX5_ending_4 : decode cX5_ending 4 = .ok (.ifCond .ne 5, 3) := by decide +kernel
theorem dX5_ending_7 : decode cX5_ending 7 = .ok (.iconst 2, 1) := by decide +kernel
theorem dX5_ending_8 : decode cX5_ending 8 = .ok (.ireturn, 1) := by decide +kernel
theorem dX5_ending_9 : decode cX5_ending 9 = .ok (.aload_n 0, 1) := by decide +kernel
theorem dX5_ending_10 : decode cX5_ending 10 = .ok (.getfield 88, 3) := by decide +kernel
theorem dX5_ending_13 : decode cX5_ending 13 = .ok (.iconst 1, 1) := by decide +kernel
theorem dX5_ending_14 : decode cX5_ending 14 = .ok (.if_icmp .ne 7, 3) := by decide +kernel
theorem dX5_ending_17 : decode cX5_ending 17 = .ok (.iconst 0, 1) := by decide +kernel
theorem dX5_ending_18 : decode cX5_ending 18 = .ok (.goto 4, 3) := by decide +kernel
theorem dX5_ending_21 : decode cX5_ending 21 = .ok (.iconst 1, 1) := by decide +kernel
theorem dX5_ending_22 : decode cX5_ending 22 = .ok (.ireturn, 1) := by decide +kernel
set_option maxRecDepth 20000 in
theorem ggX5_told_X5_ending : GoodIn wsX5_told wsX5_ending := goodIn_r _ [11, 1, 12, 13, 14, 15, 16, 17, 18, 19, 20, 21, 22, 23, 24] (by decide +kernel) (by decide +kernel)
set_option maxRecDepth 20000 in
theorem gX5_told_X5_ending : GoodIn wsX5_told (wsV RX5 109 RX5 yX5_ending wsX5_ending) := goodIn_app (goodIn_of _ (by decide +kernel)) ggX5_told_X5_ending
theorem dX5_told_0 : decode cX5_told 0 = .ok (.iload_n 1, 1) := by decide +kernel
theorem dX5_told_1 : decode cX5_told 1 = .ok (.tableswitch 101 0 5 #[39, 44, 61, 78, 83, 88], 39) := by decide +kernel
theorem dX5_told_40 : decode cX5_told 40 = .ok (.aload_n 0, 1) := by decide +kernel
theorem dX5_told_41 : decode cX5_told 41 = .ok (.invokevirtual 109, 3) := by decide +kernel
theorem dX5_told_44 : decode cX5_told 44 = .ok (.ireturn, 1) := by decide +kernel
theorem dX5_told_45 : decode cX5_told 45 = .ok (.aload_n 0, 1) := by decide +kernel
theorem dX5_told_46 : decode cX5_told 46 = .ok (.getfield 88, 3) := by decide +kernel
theorem dX5_told_49 : decode cX5_told 49 = .ok (.ifCond .ne 8, 3) := by decide +kernel
theorem dX5_told_52 : decode cX5_told 52 = .ok (.bipush (-9), 2) := by decide +kernel
theorem dX5_told_54 : decode cX5_told 54 = .ok (.goto 7, 3) := by decide +kernel
theorem dX5_told_57 : decode cX5_told 57 = .ok (.aload_n 0, 1) := by decide +kernel
theorem dX5_told_58 : decode cX5_told 58 = .ok (.getfield 100, 3) := by decide +kernel
theorem dX5_told_61 : decode cX5_told 61 = .ok (.ireturn, 1) := by decide +kernel
theorem dX5_told_62 : decode cX5_told 62 = .ok (.aload_n 0, 1) := by decide +kernel
theorem dX5_told_63 : decode cX5_told 63 = .ok (.getfield 88, 3) := by decide +kernel
theorem dX5_told_66 : decode cX5_told 66 = .ok (.ifCond .ne 8, 3) := by decide +kernel
theorem dX5_told_69 : decode cX5_told 69 = .ok (.bipush (-9), 2) := by decide +kernel
theorem dX5_told_71 : decode cX5_told 71 = .ok (.goto 7, 3) := by decide +kernel
theorem dX5_told_74 : decode cX5_told 74 = .ok (.aload_n 0, 1) := by decide +kernel
theorem dX5_told_75 : decode cX5_told 75 = .ok (.getfield 88, 3) := by decide +kernel
theorem dX5_told_78 : decode cX5_told 78 = .ok (.ireturn, 1) := by decide +kernel
theorem dX5_told_79 : decode cX5_told 79 = .ok (.aload_n 0, 1) := by decide +kernel
theorem dX5_told_80 : decode cX5_told 80 = .ok (.getfield 91, 3) := by decide +kernel
theorem dX5_told_83 : decode cX5_told 83 = .ok (.ireturn, 1) := by decide +kernel
theorem dX5_told_84 : decode cX5_told 84 = .ok (.aload_n 0, 1) := by decide +kernel
theorem dX5_told_85 : decode cX5_told 85 = .ok (.getfield 94, 3) := by decide +kernel
theorem dX5_told_88 : decode cX5_told 88 = .ok (.ireturn, 1) := by decide +kernel
theorem dX5_told_89 : decode cX5_told 89 = .ok (.aload_n 0, 1) := by decide +kernel
theorem dX5_told_90 : decode cX5_told 90 = .ok (.getfield 18, 3) := by decide +kernel
theorem dX5_told_93 : decode cX5_told 93 = .ok (.getfield 69, 3) := by decide +kernel
theorem dX5_told_96 : decode cX5_told 96 = .ok (.aload_n 0, 1) := by decide +kernel
theorem dX5_told_97 : decode cX5_told 97 = .ok (.getfield 100, 3) := by decide +kernel
theorem dX5_told_100 : decode cX5_told 100 = .ok (.iaload, 1) := by decide +kernel
theorem dX5_told_101 : decode cX5_told 101 = .ok (.ireturn, 1) := by decide +kernel
theorem dX5_told_102 : decode cX5_told 102 = .ok (.aload_n 0, 1) := by decide +kernel
theorem dX5_told_103 : decode cX5_told 103 = .ok (.getfield 22, 3) := by decide +kernel
theorem dX5_told_106 : decode cX5_told 106 = .ok (.getfield 69, 3) := by decide +kernel
theorem dX5_told_109 : decode cX5_told 109 = .ok (.aload_n 0, 1) := by decide +kernel
theorem dX5_told_110 : decode cX5_told 110 = .ok (.getfield 100, 3) := by decide +kernel
theorem dX5_told_113 : decode cX5_told 113 = .ok (.iaload, 1) := by decide +kernel
theorem dX5_told_114 : decode cX5_told 114 = .ok (.ireturn, 1) := by decide +kernel
set_option maxRecDepth 20000 in
theorem ggX5_bucketOf_X5_beatAt : GoodIn wsX5_bucketOf wsX5_beatAt := goodIn_r _ [7, 8, 9, 10, 11, 12, 13, 14, 15, 16, 17, 18, 19, 20, 21] (by decide +kernel) (by decide +kernel)
set_option maxRecDepth 20000 in
theorem gX5_bucketOf_X5_beatAt : GoodIn wsX5_bucketOf (wsV RX5 62 RX5 yX5_beatAt wsX5_beatAt) := goodIn_app (goodIn_of _ (by decide +kernel)) ggX5_bucketOf_X5_beatAt
theorem dX5_bucketOf_0 : decode cX5_bucketOf 0 = .ok (.bipush 31, 2) := by decide +kernel
theorem dX5_bucketOf_2 : decode cX5_bucketOf 2 = .ok (.aload_n 0, 1) := by decide +kernel
theorem dX5_bucketOf_3 : decode cX5_bucketOf 3 = .ok (.iload_n 1, 1) := by decide +kernel
theorem dX5_bucketOf_4 : decode cX5_bucketOf 4 = .ok (.invokevirtual 62, 3) := by decide +kernel
theorem dX5_bucketOf_7 : decode cX5_bucketOf 7 = .ok (.imul, 1) := by decide +kernel
theorem dX5_bucketOf_8 : decode cX5_bucketOf 8 = .ok (.bipush 17, 2) := by decide +kernel
theorem dX5_bucketOf_10 : decode cX5_bucketOf 10 = .ok (.aload_n 0, 1) := by decide +kernel
theorem dX5_bucketOf_11 : decode cX5_bucketOf 11 = .ok (.getfield 18, 3) := by decide +kernel
theorem dX5_bucketOf_14 : decode cX5_bucketOf 14 = .ok (.getfield 69, 3) := by decide +kernel
theorem dX5_bucketOf_17 : decode cX5_bucketOf 17 = .ok (.iload_n 1, 1) := by decide +kernel
theorem dX5_bucketOf_18 : decode cX5_bucketOf 18 = .ok (.iaload, 1) := by decide +kernel
theorem dX5_bucketOf_19 : decode cX5_bucketOf 19 = .ok (.imul, 1) := by decide +kernel
theorem dX5_bucketOf_20 : decode cX5_bucketOf 20 = .ok (.iadd, 1) := by decide +kernel
theorem dX5_bucketOf_21 : decode cX5_bucketOf 21 = .ok (.bipush 7, 2) := by decide +kernel
theorem dX5_bucketOf_23 : decode cX5_bucketOf 23 = .ok (.aload_n 0, 1) := by decide +kernel
theorem dX5_bucketOf_24 : decode cX5_bucketOf 24 = .ok (.getfield 22, 3) := by decide +kernel
theorem dX5_bucketOf_27 : decode cX5_bucketOf 27 = .ok (.getfield 69, 3) := by decide +kernel
theorem dX5_bucketOf_30 : decode cX5_bucketOf 30 = .ok (.iload_n 1, 1) := by decide +kernel
theorem dX5_bucketOf_31 : decode cX5_bucketOf 31 = .ok (.iaload, 1) := by decide +kernel
theorem dX5_bucketOf_32 : decode cX5_bucketOf 32 = .ok (.imul, 1) := by decide +kernel
theorem dX5_bucketOf_33 : decode cX5_bucketOf 33 = .ok (.iadd, 1) := by decide +kernel
theorem dX5_bucketOf_34 : decode cX5_bucketOf 34 = .ok (.istore_n 2, 1) := by decide +kernel
theorem dX5_bucketOf_35 : decode cX5_bucketOf 35 = .ok (.iload_n 2, 1) := by decide +kernel
theorem dX5_bucketOf_36 : decode cX5_bucketOf 36 = .ok (.aload_n 0, 1) := by decide +kernel
theorem dX5_bucketOf_37 : decode cX5_bucketOf 37 = .ok (.getfield 18, 3) := by decide +kernel
theorem dX5_bucketOf_40 : decode cX5_bucketOf 40 = .ok (.getfield 113, 3) := by decide +kernel
theorem dX5_bucketOf_43 : decode cX5_bucketOf 43 = .ok (.iload_n 1, 1) := by decide +kernel
theorem dX5_bucketOf_44 : decode cX5_bucketOf 44 = .ok (.iaload, 1) := by decide +kernel
theorem dX5_bucketOf_45 : decode cX5_bucketOf 45 = .ok (.iadd, 1) := by decide +kernel
theorem dX5_bucketOf_46 : decode cX5_bucketOf 46 = .ok (.iconst 3, 1) := by decide +kernel
theorem dX5_bucketOf_47 : decode cX5_bucketOf 47 = .ok (.aload_n 0, 1) := by decide +kernel
theorem dX5_bucketOf_48 : decode cX5_bucketOf 48 = .ok (.getfield 22, 3) := by decide +kernel
theorem dX5_bucketOf_51 : decode cX5_bucketOf 51 = .ok (.getfield 113, 3) := by decide +kernel
theorem dX5_bucketOf_54 : decode cX5_bucketOf 54 = .ok (.iload_n 1, 1) := by decide +kernel
theorem dX5_bucketOf_55 : decode cX5_bucketOf 55 = .ok (.iaload, 1) := by decide +kernel
theorem dX5_bucketOf_56 : decode cX5_bucketOf 56 = .ok (.imul, 1) := by decide +kernel
theorem dX5_bucketOf_57 : decode cX5_bucketOf 57 = .ok (.iadd, 1) := by decide +kernel
theorem dX5_bucketOf_58 : decode cX5_bucketOf 58 = .ok (.sipush 255, 3) := by decide +kernel
theorem dX5_bucketOf_61 : decode cX5_bucketOf 61 = .ok (.iand, 1) := by decide +kernel
theorem dX5_bucketOf_62 : decode cX5_bucketOf 62 = .ok (.ireturn, 1) := by decide +kernel
set_option maxRecDepth 20000 in
theorem ggX5_remember_X5_bucketOf : GoodIn wsX5_remember wsX5_bucketOf := goodIn_r _ [7, 8, 9, 10, 11, 12, 6, 13, 14, 15, 16, 17, 18, 19, 20, 21, 22, 23, 24, 25, 26, 27, 28, 29, 30] (by decide +kernel) (by decide +kernel)
set_option maxRecDepth 20000 in
theorem gX5_remember_X5_bucketOf : GoodIn wsX5_remember (wsV RX5 116 RX5 yX5_bucketOf wsX5_bucketOf) := goodIn_app (goodIn_of _ (by decide +kernel)) ggX5_remember_X5_bucketOf
theorem dX5_remember_0 : decode cX5_remember 0 = .ok (.aload_n 0, 1) := by decide +kernel
theorem dX5_remember_1 : decode cX5_remember 1 = .ok (.iload_n 1, 1) := by decide +kernel
theorem dX5_remember_2 : decode cX5_remember 2 = .ok (.invokevirtual 116, 3) := by decide +kernel
theorem dX5_remember_5 : decode cX5_remember 5 = .ok (.istore_n 2, 1) := by decide +kernel
theorem dX5_remember_6 : decode cX5_remember 6 = .ok (.aload_n 0, 1) := by decide +kernel
theorem dX5_remember_7 : decode cX5_remember 7 = .ok (.getfield 28, 3) := by decide +kernel
theorem dX5_remember_10 : decode cX5_remember 10 = .ok (.iload_n 1, 1) := by decide +kernel
theorem dX5_remember_11 : decode cX5_remember 11 = .ok (.aload_n 0, 1) := by decide +kernel
theorem dX5_remember_12 : decode cX5_remember 12 = .ok (.getfield 25, 3) := by decide +kernel
theorem dX5_remember_15 : decode cX5_remember 15 = .ok (.iload_n 2, 1) := by decide +kernel
theorem dX5_remember_16 : decode cX5_remember 16 = .ok (.iaload, 1) := by decide +kernel
theorem dX5_remember_17 : decode cX5_remember 17 = .ok (.iastore, 1) := by decide +kernel
theorem dX5_remember_18 : decode cX5_remember 18 = .ok (.aload_n 0, 1) := by decide +kernel
theorem dX5_remember_19 : decode cX5_remember 19 = .ok (.getfield 25, 3) := by decide +kernel
theorem dX5_remember_22 : decode cX5_remember 22 = .ok (.iload_n 2, 1) := by decide +kernel
theorem dX5_remember_23 : decode cX5_remember 23 = .ok (.iload_n 1, 1) := by decide +kernel
theorem dX5_remember_24 : decode cX5_remember 24 = .ok (.iastore, 1) := by decide +kernel
theorem dX5_remember_25 : decode cX5_remember 25 = .ok (.return_, 1) := by decide +kernel
set_option maxRecDepth 20000 in
theorem ggX5_tickLike_X5_bucketOf : GoodIn wsX5_tickLike wsX5_bucketOf := goodIn_r _ [7, 8, 9, 10, 11, 12, 6, 13, 14, 27, 28, 29, 30, 31, 32, 33, 34, 35, 36, 37, 38, 39, 40, 41, 42] (by decide +kernel) (by decide +kernel)
set_option maxRecDepth 20000 in
theorem gX5_tickLike_X5_bucketOf : GoodIn wsX5_tickLike (wsV RX5 116 RX5 yX5_bucketOf wsX5_bucketOf) := goodIn_app (goodIn_of _ (by decide +kernel)) ggX5_tickLike_X5_bucketOf
set_option maxRecDepth 20000 in
theorem ggX5_tickLike_X5_isAlike : GoodIn wsX5_tickLike wsX5_isAlike := goodIn_r _ [18, 19, 8, 9, 10, 11, 12, 6, 13, 14, 20, 21, 22, 23, 24, 25, 26, 27, 28, 29, 30, 31, 32, 33, 34, 35, 36, 37, 38, 39, 40, 41, 42] (by decide +kernel) (by decide +kernel)
set_option maxRecDepth 20000 in
theorem gX5_tickLike_X5_isAlike : GoodIn wsX5_tickLike (wsV RX5 119 RX5 yX5_isAlike wsX5_isAlike) := goodIn_app (goodIn_of _ (by decide +kernel)) ggX5_tickLike_X5_isAlike
theorem dX5_tickLike_0 : decode cX5_tickLike 0 = .ok (.aload_n 0, 1) := by decide +kernel
theorem dX5_tickLike_1 : decode cX5_tickLike 1 = .ok (.getfield 25, 3) := by decide +kernel
theorem dX5_tickLike_4 : decode cX5_tickLike 4 = .ok (.aload_n 0, 1) := by decide +kernel
theorem dX5_tickLike_5 : decode cX5_tickLike 5 = .ok (.iload_n 1, 1) := by decide +kernel
theorem dX5_tickLike_6 : decode cX5_tickLike 6 = .ok (.invokevirtual 116, 3) := by decide +kernel
theorem dX5_tickLike_9 : decode cX5_tickLike 9 = .ok (.iaload, 1) := by decide +kernel
theorem dX5_tickLike_10 : decode cX5_tickLike 10 = .ok (.istore_n 2, 1) := by decide +kernel
theorem dX5_tickLike_11 : decode cX5_tickLike 11 = .ok (.iconst 0, 1) := by decide +kernel
theorem dX5_tickLike_12 : decode cX5_tickLike 12 = .ok (.istore_n 3, 1) := by decide +kernel
theorem dX5_tickLike_13 : decode cX5_tickLike 13 = .ok (.iload_n 3, 1) := by decide +kernel
theorem dX5_tickLike_14 : decode cX5_tickLike 14 = .ok (.sipush 300, 3) := by decide +kernel
theorem dX5_tickLike_17 : decode cX5_tickLike 17 = .ok (.if_icmp .gt 32, 3) := by decide +kernel
theorem dX5_tickLike_20 : decode cX5_tickLike 20 = .ok (.iload_n 2, 1) := by decide +kernel
theorem dX5_tickLike_21 : decode cX5_tickLike 21 = .ok (.iconst (-1), 1) := by decide +kernel
theorem dX5_tickLike_22 : decode cX5_tickLike 22 = .ok (.if_icmp .eq 27, 3) := by decide +kernel
theorem dX5_tickLike_25 : decode cX5_tickLike 25 = .ok (.aload_n 0, 1) := by decide +kernel
theorem dX5_tickLike_26 : decode cX5_tickLike 26 = .ok (.iload_n 2, 1) := by decide +kernel
theorem dX5_tickLike_27 : decode cX5_tickLike 27 = .ok (.iload_n 1, 1) := by decide +kernel
theorem dX5_tickLike_28 : decode cX5_tickLike 28 = .ok (.invokevirtual 119, 3) := by decide +kernel
theorem dX5_tickLike_31 : decode cX5_tickLike 31 = .ok (.ifCond .eq 5, 3) := by decide +kernel
theorem dX5_tickLike_34 : decode cX5_tickLike 34 = .ok (.iload_n 2, 1) := by decide +kernel
theorem dX5_tickLike_35 : decode cX5_tickLike 35 = .ok (.ireturn, 1) := by decide +kernel
theorem dX5_tickLike_36 : decode cX5_tickLike 36 = .ok (.aload_n 0, 1) := by decide +kernel
theorem dX5_tickLike_37 : decode cX5_tickLike 37 = .ok (.getfield 28, 3) := by decide +kernel
theorem dX5_tickLike_40 : decode cX5_tickLike 40 = .ok (.iload_n 2, 1) := by decide +kernel
theorem dX5_tickLike_41 : decode cX5_tickLike 41 = .ok (.iaload, 1) := by decide +kernel
theorem dX5_tickLike_42 : decode cX5_tickLike 42 = .ok (.istore_n 2, 1) := by decide +kernel
theorem dX5_tickLike_43 : decode cX5_tickLike 43 = .ok (.iinc 3 1, 3) := by decide +kernel
theorem dX5_tickLike_46 : decode cX5_tickLike 46 = .ok (.goto (-33), 3) := by decide +kernel
theorem dX5_tickLike_49 : decode cX5_tickLike 49 = .ok (.iconst (-1), 1) := by decide +kernel
theorem dX5_tickLike_50 : decode cX5_tickLike 50 = .ok (.ireturn, 1) := by decide +kernel
set_option maxRecDepth 20000 in
theorem ggX5_isAlike_X5_beatAt : GoodIn wsX5_isAlike wsX5_beatAt := goodIn_r _ [8, 9, 17, 18, 19, 20, 21, 22, 23, 24, 25, 26, 27, 28, 29] (by decide +kernel) (by decide +kernel)
set_option maxRecDepth 20000 in
theorem gX5_isAlike_X5_beatAt : GoodIn wsX5_isAlike (wsV RX5 62 RX5 yX5_beatAt wsX5_beatAt) := goodIn_app (goodIn_of _ (by decide +kernel)) ggX5_isAlike_X5_beatAt
set_option maxRecDepth 20000 in
theorem ggX5_isAlike_X2_isAlike : GoodIn wsX5_isAlike wsX2_isAlike := goodIn_r _ [14, 15, 16, 30, 31, 32] (by decide +kernel) (by decide +kernel)
set_option maxRecDepth 20000 in
theorem gX5_isAlike_X2_isAlike : GoodIn wsX5_isAlike (wsV RX5 123 RX2 yX2_isAlike wsX2_isAlike) := goodIn_app (goodIn_of _ (by decide +kernel)) ggX5_isAlike_X2_isAlike
theorem dX5_isAlike_0 : decode cX5_isAlike 0 = .ok (.iconst 0, 1) := by decide +kernel
theorem dX5_isAlike_1 : decode cX5_isAlike 1 = .ok (.istore_n 3, 1) := by decide +kernel
theorem dX5_isAlike_2 : decode cX5_isAlike 2 = .ok (.iload_n 3, 1) := by decide +kernel
theorem dX5_isAlike_3 : decode cX5_isAlike 3 = .ok (.aload_n 0, 1) := by decide +kernel
theorem dX5_isAlike_4 : decode cX5_isAlike 4 = .ok (.getfield 49, 3) := by decide +kernel
theorem dX5_isAlike_7 : decode cX5_isAlike 7 = .ok (.if_icmp .gt 28, 3) := by decide +kernel
theorem dX5_isAlike_10 : decode cX5_isAlike 10 = .ok (.aload_n 0, 1) := by decide +kernel
theorem dX5_isAlike_11 : decode cX5_isAlike 11 = .ok (.iload_n 1, 1) := by decide +kernel
theorem dX5_isAlike_12 : decode cX5_isAlike 12 = .ok (.iload_n 3, 1) := by decide +kernel
theorem dX5_isAlike_13 : decode cX5_isAlike 13 = .ok (.isub, 1) := by decide +kernel
theorem dX5_isAlike_14 : decode cX5_isAlike 14 = .ok (.invokevirtual 62, 3) := by decide +kernel
theorem dX5_isAlike_17 : decode cX5_isAlike 17 = .ok (.aload_n 0, 1) := by decide +kernel
theorem dX5_isAlike_18 : decode cX5_isAlike 18 = .ok (.iload_n 2, 1) := by decide +kernel
theorem dX5_isAlike_19 : decode cX5_isAlike 19 = .ok (.iload_n 3, 1) := by decide +kernel
theorem dX5_isAlike_20 : decode cX5_isAlike 20 = .ok (.isub, 1) := by decide +kernel
theorem dX5_isAlike_21 : decode cX5_isAlike 21 = .ok (.invokevirtual 62, 3) := by decide +kernel
theorem dX5_isAlike_24 : decode cX5_isAlike 24 = .ok (.if_icmp .eq 5, 3) := by decide +kernel
theorem dX5_isAlike_27 : decode cX5_isAlike 27 = .ok (.iconst 0, 1) := by decide +kernel
theorem dX5_isAlike_28 : decode cX5_isAlike 28 = .ok (.ireturn, 1) := by decide +kernel
theorem dX5_isAlike_29 : decode cX5_isAlike 29 = .ok (.iinc 3 1, 3) := by decide +kernel
theorem dX5_isAlike_32 : decode cX5_isAlike 32 = .ok (.goto (-30), 3) := by decide +kernel
theorem dX5_isAlike_35 : decode cX5_isAlike 35 = .ok (.aload_n 0, 1) := by decide +kernel
theorem dX5_isAlike_36 : decode cX5_isAlike 36 = .ok (.getfield 18, 3) := by decide +kernel
theorem dX5_isAlike_39 : decode cX5_isAlike 39 = .ok (.iload_n 1, 1) := by decide +kernel
theorem dX5_isAlike_40 : decode cX5_isAlike 40 = .ok (.iload_n 2, 1) := by decide +kernel
theorem dX5_isAlike_41 : decode cX5_isAlike 41 = .ok (.invokevirtual 123, 3) := by decide +kernel
theorem dX5_isAlike_44 : decode cX5_isAlike 44 = .ok (.ifCond .eq 19, 3) := by decide +kernel
theorem dX5_isAlike_47 : decode cX5_isAlike 47 = .ok (.aload_n 0, 1) := by decide +kernel
theorem dX5_isAlike_48 : decode cX5_isAlike 48 = .ok (.getfield 22, 3) := by decide +kernel
theorem dX5_isAlike_51 : decode cX5_isAlike 51 = .ok (.iload_n 1, 1) := by decide +kernel
theorem dX5_isAlike_52 : decode cX5_isAlike 52 = .ok (.iload_n 2, 1) := by decide +kernel
theorem dX5_isAlike_53 : decode cX5_isAlike 53 = .ok (.invokevirtual 123, 3) := by decide +kernel
theorem dX5_isAlike_56 : decode cX5_isAlike 56 = .ok (.ifCond .eq 7, 3) := by decide +kernel
theorem dX5_isAlike_59 : decode cX5_isAlike 59 = .ok (.iconst 1, 1) := by decide +kernel
theorem dX5_isAlike_60 : decode cX5_isAlike 60 = .ok (.goto 4, 3) := by decide +kernel
theorem dX5_isAlike_63 : decode cX5_isAlike 63 = .ok (.iconst 0, 1) := by decide +kernel
theorem dX5_isAlike_64 : decode cX5_isAlike 64 = .ok (.ireturn, 1) := by decide +kernel
theorem dX6_init_0 : decode cX6_init 0 = .ok (.aload_n 0, 1) := by decide +kernel
theorem dX6_init_1 : decode cX6_init 1 = .ok (.invokespecial 3, 3) := by decide +kernel
theorem dX6_init_4 : decode cX6_init 4 = .ok (.aload_n 0, 1) := by decide +kernel
theorem dX6_init_5 : decode cX6_init 5 = .ok (.bipush 60, 2) := by decide +kernel
theorem dX6_init_7 : decode cX6_init 7 = .ok (.newarray .int, 2) := by decide +kernel
theorem dX6_init_9 : decode cX6_init 9 = .ok (.putfield 9, 3) := by decide +kernel
theorem dX6_init_12 : decode cX6_init 12 = .ok (.return_, 1) := by decide +kernel
set_option maxRecDepth 20000 in
theorem ggX6_renew_J7_fill_53178 : GoodIn wsX6_renew wsJ7_fill_53178 := goodIn_r _ [8] (by decide +kernel) (by decide +kernel)
set_option maxRecDepth 20000 in
theorem gX6_renew_J7_fill_53178 : GoodIn wsX6_renew (va_wsS RX6 26 yJ7_fill_53178 wsJ7_fill_53178) := goodIn_app (goodIn_of _ (by decide +kernel)) ggX6_renew_J7_fill_53178
theorem dX6_renew_0 : decode cX6_renew 0 = .ok (.aload_n 0, 1) := by decide +kernel
theorem dX6_renew_1 : decode cX6_renew 1 = .ok (.iconst 1, 1) := by decide +kernel
theorem dX6_renew_2 : decode cX6_renew 2 = .ok (.putfield 15, 3) := by decide +kernel
theorem dX6_renew_5 : decode cX6_renew 5 = .ok (.aload_n 0, 1) := by decide +kernel
theorem dX6_renew_6 : decode cX6_renew 6 = .ok (.iload_n 1, 1) := by decide +kernel
theorem dX6_renew_7 : decode cX6_renew 7 = .ok (.putfield 19, 3) := by decide +kernel
theorem dX6_renew_10 : decode cX6_renew 10 = .ok (.aload_n 0, 1) := by decide +kernel
theorem dX6_renew_11 : decode cX6_renew 11 = .ok (.iload_n 2, 1) := by decide +kernel
theorem dX6_renew_12 : decode cX6_renew 12 = .ok (.putfield 23, 3) := by decide +kernel
theorem dX6_renew_15 : decode cX6_renew 15 = .ok (.aload_n 0, 1) := by decide +kernel
theorem dX6_renew_16 : decode cX6_renew 16 = .ok (.getfield 9, 3) := by decide +kernel
theorem dX6_renew_19 : decode cX6_renew 19 = .ok (.iconst 0, 1) := by decide +kernel
theorem dX6_renew_20 : decode cX6_renew 20 = .ok (.invokestatic 26, 3) := by decide +kernel
theorem dX6_renew_23 : decode cX6_renew 23 = .ok (.return_, 1) := by decide +kernel
set_option maxRecDepth 20000 in
theorem ggX6_hasCell_X10_within : GoodIn wsX6_hasCell wsX10_within := goodIn_r _ [4] (by decide +kernel) (by decide +kernel)
set_option maxRecDepth 20000 in
theorem gX6_hasCell_X10_within_n32 : GoodIn wsX6_hasCell (wsX10_within) := ggX6_hasCell_X10_within
theorem dX6_hasCell_0 : decode cX6_hasCell 0 = .ok (.iload_n 1, 1) := by decide +kernel
theorem dX6_hasCell_1 : decode cX6_hasCell 1 = .ok (.iconst 0, 1) := by decide +kernel
theorem dX6_hasCell_2 : decode cX6_hasCell 2 = .ok (.aload_n 0, 1) := by decide +kernel
theorem dX6_hasCell_3 : decode cX6_hasCell 3 = .ok (.getfield 23, 3) := by decide +kernel
theorem dX6_hasCell_6 : decode cX6_hasCell 6 = .ok (.iconst 1, 1) := by decide +kernel
theorem dX6_hasCell_7 : decode cX6_hasCell 7 = .ok (.isub, 1) := by decide +kernel
theorem dX6_hasCell_8 : decode cX6_hasCell 8 = .ok (.invokestatic 32, 3) := by decide +kernel
theorem dX6_hasCell_11 : decode cX6_hasCell 11 = .ok (.ireturn, 1) := by decide +kernel
set_option maxRecDepth 20000 in
theorem ggX6_spans_X10_within : GoodIn wsX6_spans wsX10_within := goodIn_r _ [4] (by decide +kernel) (by decide +kernel)
set_option maxRecDepth 20000 in
theorem gX6_spans_X10_within_n32 : GoodIn wsX6_spans (wsX10_within) := ggX6_spans_X10_within
theorem dX6_spans_0 : decode cX6_spans 0 = .ok (.iload_n 2, 1) := by decide +kernel
theorem dX6_spans_1 : decode cX6_spans 1 = .ok (.ifCond .lt 29, 3) := by decide +kernel
theorem dX6_spans_4 : decode cX6_spans 4 = .ok (.iload_n 1, 1) := by decide +kernel
theorem dX6_spans_5 : decode cX6_spans 5 = .ok (.iconst 0, 1) := by decide +kernel
theorem dX6_spans_6 : decode cX6_spans 6 = .ok (.aload_n 0, 1) := by decide +kernel
theorem dX6_spans_7 : decode cX6_spans 7 = .ok (.getfield 23, 3) := by decide +kernel
theorem dX6_spans_10 : decode cX6_spans 10 = .ok (.invokestatic 32, 3) := by decide +kernel
theorem dX6_spans_13 : decode cX6_spans 13 = .ok (.ifCond .eq 17, 3) := by decide +kernel
theorem dX6_spans_16 : decode cX6_spans 16 = .ok (.iload_n 2, 1) := by decide +kernel
theorem dX6_spans_17 : decode cX6_spans 17 = .ok (.aload_n 0, 1) := by decide +kernel
theorem dX6_spans_18 : decode cX6_spans 18 = .ok (.getfield 23, 3) := by decide +kernel
theorem dX6_spans_21 : decode cX6_spans 21 = .ok (.iload_n 1, 1) := by decide +kernel
theorem dX6_spans_22 : decode cX6_spans 22 = .ok (.isub, 1) := by decide +kernel
theorem dX6_spans_23 : decode cX6_spans 23 = .ok (.if_icmp .gt 7, 3) := by decide +kernel
theorem dX6_spans_26 : decode cX6_spans 26 = .ok (.iconst 1, 1) := by decide +kernel
theorem dX6_spans_27 : decode cX6_spans 27 = .ok (.goto 4, 3) := by decide +kernel
theorem dX6_spans_30 : decode cX6_spans 30 = .ok (.iconst 0, 1) := by decide +kernel
theorem dX6_spans_31 : decode cX6_spans 31 = .ok (.ireturn, 1) := by decide +kernel
theorem dX6_faultOfTakingAs_0 : decode cX6_faultOfTakingAs 0 = .ok (.aload_n 0, 1) := by decide +kernel
theorem dX6_faultOfTakingAs_1 : decode cX6_faultOfTakingAs 1 = .ok (.getfield 15, 3) := by decide +kernel
theorem dX6_faultOfTakingAs_4 : decode cX6_faultOfTakingAs 4 = .ok (.ifCond .ne 5, 3) := by decide +kernel
theorem dX6_faultOfTakingAs_7 : decode cX6_faultOfTakingAs 7 = .ok (.iconst 1, 1) := by decide +kernel
theorem dX6_faultOfTakingAs_8 : decode cX6_faultOfTakingAs 8 = .ok (.ireturn, 1) := by decide +kernel
theorem dX6_faultOfTakingAs_9 : decode cX6_faultOfTakingAs 9 = .ok (.aload_n 0, 1) := by decide +kernel
theorem dX6_faultOfTakingAs_10 : decode cX6_faultOfTakingAs 10 = .ok (.getfield 19, 3) := by decide +kernel
theorem dX6_faultOfTakingAs_13 : decode cX6_faultOfTakingAs 13 = .ok (.iload_n 1, 1) := by decide +kernel
theorem dX6_faultOfTakingAs_14 : decode cX6_faultOfTakingAs 14 = .ok (.if_icmp .ne 7, 3) := by decide +kernel
theorem dX6_faultOfTakingAs_17 : decode cX6_faultOfTakingAs 17 = .ok (.iconst 0, 1) := by decide +kernel
theorem dX6_faultOfTakingAs_18 : decode cX6_faultOfTakingAs 18 = .ok (.goto 4, 3) := by decide +kernel
theorem dX6_faultOfTakingAs_21 : decode cX6_faultOfTakingAs 21 = .ok (.iconst 2, 1) := by decide +kernel
theorem dX6_faultOfTakingAs_22 : decode cX6_faultOfTakingAs 22 = .ok (.ireturn, 1) := by decide +kernel
set_option maxRecDepth 20000 in
theorem ggX6_faultOfTaking_X6_faultOfTakingAs : GoodIn wsX6_faultOfTaking wsX6_faultOfTakingAs := goodIn_r _ [5, 6, 7, 16, 17, 18, 19] (by decide +kernel) (by decide +kernel)
set_option maxRecDepth 20000 in
theorem gX6_faultOfTaking_X6_faultOfTakingAs : GoodIn wsX6_faultOfTaking (wsV RX6 36 RX6 yX6_faultOfTakingAs wsX6_faultOfTakingAs) := goodIn_app (goodIn_of _ (by decide +kernel)) ggX6_faultOfTaking_X6_faultOfTakingAs
set_option maxRecDepth 20000 in
theorem ggX6_faultOfTaking_X6_spans : GoodIn wsX6_faultOfTaking wsX6_spans := goodIn_r _ [11, 12, 13, 14, 15, 16, 17, 18, 19] (by decide +kernel) (by decide +kernel)
set_option maxRecDepth 20000 in
theorem gX6_faultOfTaking_X6_spans : GoodIn wsX6_faultOfTaking (wsV RX6 40 RX6 yX6_spans wsX6_spans) := goodIn_app (goodIn_of _ (by decide +kernel)) ggX6_faultOfTaking_X6_spans
theorem dX6_faultOfTaking_0 : decode cX6_faultOfTaking 0 = .ok (.aload_n 0, 1) := by decide +kernel
theorem dX6_faultOfTaking_1 : decode cX6_faultOfTaking 1 = .ok (.iload_n 1, 1) := by decide +kernel
theorem dX6_faultOfTaking_2 : decode cX6_faultOfTaking 2 = .ok (.invokevirtual 36, 3) := by decide +kernel
theorem dX6_faultOfTaking_5 : decode cX6_faultOfTaking 5 = .ok (.istore 4, 2) := by decide +kernel
theorem dX6_faultOfTaking_7 : decode cX6_faultOfTaking 7 = .ok (.iload 4, 2) := by decide +kernel
theorem dX6_faultOfTaking_9 : decode cX6_faultOfTaking 9 = .ok (.ifCond .eq 6, 3) := by decide +kernel
theorem dX6_faultOfTaking_12 : decode cX6_faultOfTaking 12 = .ok (.iload 4, 2) := by decide +kernel
theorem dX6_faultOfTaking_14 : decode cX6_faultOfTaking 14 = .ok (.ireturn, 1) := by decide +kernel
theorem dX6_faultOfTaking_15 : decode cX6_faultOfTaking 15 = .ok (.iload_n 3, 1) := by decide +kernel
theorem dX6_faultOfTaking_16 : decode cX6_faultOfTaking 16 = .ok (.ifCond .ge 5, 3) := by decide +kernel
theorem dX6_faultOfTaking_19 : decode cX6_faultOfTaking 19 = .ok (.iconst 4, 1) := by decide +kernel
theorem dX6_faultOfTaking_20 : decode cX6_faultOfTaking 20 = .ok (.ireturn, 1) := by decide +kernel
theorem dX6_faultOfTaking_21 : decode cX6_faultOfTaking 21 = .ok (.aload_n 0, 1) := by decide +kernel
theorem dX6_faultOfTaking_22 : decode cX6_faultOfTaking 22 = .ok (.iload_n 2, 1) := by decide +kernel
theorem dX6_faultOfTaking_23 : decode cX6_faultOfTaking 23 = .ok (.iload_n 3, 1) := by decide +kernel
theorem dX6_faultOfTaking_24 : decode cX6_faultOfTaking 24 = .ok (.invokevirtual 40, 3) := by decide +kernel
theorem dX6_faultOfTaking_27 : decode cX6_faultOfTaking 27 = .ok (.ifCond .eq 7, 3) := by decide +kernel
theorem dX6_faultOfTaking_30 : decode cX6_faultOfTaking 30 = .ok (.iconst 0, 1) := by decide +kernel
theorem dX6_faultOfTaking_31 : decode cX6_faultOfTaking 31 = .ok (.goto 4, 3) := by decide +kernel
theorem dX6_faultOfTaking_34 : decode cX6_faultOfTaking 34 = .ok (.iconst 3, 1) := by decide +kernel
theorem dX6_faultOfTaking_35 : decode cX6_faultOfTaking 35 = .ok (.ireturn, 1) := by decide +kernel
set_option maxRecDepth 20000 in
theorem ggX6_at_X6_hasCell : GoodIn wsX6_at wsX6_hasCell := goodIn_r _ [6, 7, 8, 9, 10, 11, 12, 13, 14] (by decide +kernel) (by decide +kernel)
set_option maxRecDepth 20000 in
theorem gX6_at_X6_hasCell : GoodIn wsX6_at (wsV RX6 44 RX6 yX6_hasCell wsX6_hasCell) := goodIn_app (goodIn_of _ (by decide +kernel)) ggX6_at_X6_hasCell
theorem dX6_at_0 : decode cX6_at 0 = .ok (.aload_n 0, 1) := by decide +kernel
theorem dX6_at_1 : decode cX6_at 1 = .ok (.iload_n 1, 1) := by decide +kernel
theorem dX6_at_2 : decode cX6_at 2 = .ok (.invokevirtual 44, 3) := by decide +kernel
theorem dX6_at_5 : decode cX6_at 5 = .ok (.ifCond .eq 12, 3) := by decide +kernel
theorem dX6_at_8 : decode cX6_at 8 = .ok (.aload_n 0, 1) := by decide +kernel
theorem dX6_at_9 : decode cX6_at 9 = .ok (.getfield 9, 3) := by decide +kernel
theorem dX6_at_12 : decode cX6_at 12 = .ok (.iload_n 1, 1) := by decide +kernel
theorem dX6_at_13 : decode cX6_at 13 = .ok (.iaload, 1) := by decide +kernel
theorem dX6_at_14 : decode cX6_at 14 = .ok (.goto 4, 3) := by decide +kernel
theorem dX6_at_17 : decode cX6_at 17 = .ok (.iconst 0, 1) := by decide +kernel
theorem dX6_at_18 : decode cX6_at 18 = .ok (.ireturn, 1) := by decide +kernel
set_option maxRecDepth 20000 in
theorem ggX6_set_X6_hasCell : GoodIn wsX6_set wsX6_hasCell := goodIn_r _ [6, 7, 8, 9, 10, 16, 17, 18, 19] (by decide +kernel) (by decide +kernel)
set_option maxRecDepth 20000 in
theorem gX6_set_X6_hasCell : GoodIn wsX6_set (wsV RX6 44 RX6 yX6_hasCell wsX6_hasCell) := goodIn_app (goodIn_of _ (by decide +kernel)) ggX6_set_X6_hasCell
set_option maxRecDepth 20000 in
theorem ggX6_set_X6_cut : GoodIn wsX6_set wsX6_cut := goodIn_r _ [14, 15, 16, 17, 18, 19] (by decide +kernel) (by decide +kernel)
set_option maxRecDepth 20000 in
theorem gX6_set_X6_cut : GoodIn wsX6_set (wsV RX6 48 RX6 yX6_cut wsX6_cut) := goodIn_app (goodIn_of _ (by decide +kernel)) ggX6_set_X6_cut
theorem dX6_set_0 : decode cX6_set 0 = .ok (.aload_n 0, 1) := by decide +kernel
theorem dX6_set_1 : decode cX6_set 1 = .ok (.iload_n 1, 1) := by decide +kernel
theorem dX6_set_2 : decode cX6_set 2 = .ok (.invokevirtual 44, 3) := by decide +kernel
theorem dX6_set_5 : decode cX6_set 5 = .ok (.ifCond .eq 14, 3) := by decide +kernel
theorem dX6_set_8 : decode cX6_set 8 = .ok (.aload_n 0, 1) := by decide +kernel
theorem dX6_set_9 : decode cX6_set 9 = .ok (.getfield 9, 3) := by decide +kernel
theorem dX6_set_12 : decode cX6_set 12 = .ok (.iload_n 1, 1) := by decide +kernel
theorem dX6_set_13 : decode cX6_set 13 = .ok (.aload_n 0, 1) := by decide +kernel
theorem dX6_set_14 : decode cX6_set 14 = .ok (.iload_n 2, 1) := by decide +kernel
theorem dX6_set_15 : decode cX6_set 15 = .ok (.invokevirtual 48, 3) := by decide +kernel
theorem dX6_set_18 : decode cX6_set 18 = .ok (.iastore, 1) := by decide +kernel
theorem dX6_set_19 : decode cX6_set 19 = .ok (.return_, 1) := by decide +kernel
theorem dX6_cut_0 : decode cX6_cut 0 = .ok (.aload_n 0, 1) := by decide +kernel
theorem dX6_cut_1 : decode cX6_cut 1 = .ok (.getfield 19, 3) := by decide +kernel
theorem dX6_cut_4 : decode cX6_cut 4 = .ok (.ifCond .ne 6, 3) := by decide +kernel
theorem dX6_cut_7 : decode cX6_cut 7 = .ok (.iload_n 1, 1) := by decide +kernel
theorem dX6_cut_8 : decode cX6_cut 8 = .ok (.i2b, 1) := by decide +kernel
theorem dX6_cut_9 : decode cX6_cut 9 = .ok (.ireturn, 1) := by decide +kernel
theorem dX6_cut_10 : decode cX6_cut 10 = .ok (.aload_n 0, 1) := by decide +kernel
theorem dX6_cut_11 : decode cX6_cut 11 = .ok (.getfield 19, 3) := by decide +kernel
theorem dX6_cut_14 : decode cX6_cut 14 = .ok (.iconst 1, 1) := by decide +kernel
theorem dX6_cut_15 : decode cX6_cut 15 = .ok (.if_icmp .ne 8, 3) := by decide +kernel
theorem dX6_cut_18 : decode cX6_cut 18 = .ok (.iload_n 1, 1) := by decide +kernel
theorem dX6_cut_19 : decode cX6_cut 19 = .ok (.i2s, 1) := by decide +kernel
theorem dX6_cut_20 : decode cX6_cut 20 = .ok (.goto 4, 3) := by decide +kernel
theorem dX6_cut_23 : decode cX6_cut 23 = .ok (.iload_n 1, 1) := by decide +kernel
theorem dX6_cut_24 : decode cX6_cut 24 = .ok (.ireturn, 1) := by decide +kernel
set_option maxRecDepth 20000 in
theorem ggX7_init_X3_init : GoodIn wsX7_init wsX3_init := goodIn_r _ [4, 5, 6, 7, 8, 9, 10, 11, 12, 13, 14, 15, 16, 17, 18, 19, 20, 21, 22, 23, 24, 25] (by decide +kernel) (by decide +kernel)
set_option maxRecDepth 20000 in
theorem gX7_init_X3_init : GoodIn wsX7_init (wsX3_init) := ggX7_init_X3_init
theorem dX7_init_0 : decode cX7_init 0 = .ok (.aload_n 0, 1) := by decide +kernel
theorem dX7_init_1 : decode cX7_init 1 = .ok (.iload_n 1, 1) := by decide +kernel
theorem dX7_init_2 : decode cX7_init 2 = .ok (.aload_n 2, 1) := by decide +kernel
theorem dX7_init_3 : decode cX7_init 3 = .ok (.invokespecial 3, 3) := by decide +kernel
theorem dX7_init_6 : decode cX7_init 6 = .ok (.return_, 1) := by decide +kernel
theorem dX7_kind_0 : decode cX7_kind 0 = .ok (.iconst 2, 1) := by decide +kernel
theorem dX7_kind_1 : decode cX7_kind 1 = .ok (.ireturn, 1) := by decide +kernel
set_option maxRecDepth 20000 in
theorem ggX7_telling_X9_leave : GoodIn wsX7_telling wsX9_leave := goodIn_r _ [5, 6, 33] (by decide +kernel) (by decide +kernel)
set_option maxRecDepth 20000 in
theorem gX7_telling_X9_leave : GoodIn wsX7_telling (wsV RX7 9 RX9 yX9_leave wsX9_leave) := goodIn_app (goodIn_of _ (by decide +kernel)) ggX7_telling_X9_leave
set_option maxRecDepth 20000 in
theorem ggX7_telling_X3_telling : GoodIn wsX7_telling wsX3_telling := goodIn_r _ [12, 13, 2, 3, 4, 5, 6, 14, 15, 16, 17, 18, 19, 20, 21, 22, 23, 24, 25, 26, 27, 28, 29, 33, 34, 35, 36, 37, 38, 39] (by decide +kernel) (by decide +kernel)
set_option maxRecDepth 20000 in
theorem gX7_telling_X3_telling_s15 : GoodIn wsX7_telling (va_wsSU RX7 15 yX3_telling wsX3_telling) := goodIn_app (goodIn_of _ (by decide +kernel)) ggX7_telling_X3_telling
set_option maxRecDepth 20000 in
theorem ggX7_telling_X4_plainTelling : GoodIn wsX7_telling wsX4_plainTelling := goodIn_r _ [24, 25, 26, 2, 3, 4, 5, 6, 34, 35, 36, 37, 38, 39, 33] (by decide +kernel) (by decide +kernel)
set_option maxRecDepth 20000 in
theorem gX7_telling_X4_plainTelling_u19X7 : GoodIn wsX7_telling (va_wsU RX7 19 RX7 "BallMinder$Plain" ⟨"BallMinder$Sticky", "plainTelling", "(LBallMinder$Trace;)I"⟩ yX4_plainTelling wsX4_plainTelling) := goodIn_app (goodIn_of _ (by decide +kernel)) ggX7_telling_X4_plainTelling
theorem dX7_telling_0 : decode cX7_telling 0 = .ok (.aload_n 1, 1) := by decide +kernel
theorem dX7_telling_1 : decode cX7_telling 1 = .ok (.iconst 3, 1) := by decide +kernel
theorem dX7_telling_2 : decode cX7_telling 2 = .ok (.invokevirtual 9, 3) := by decide +kernel
theorem dX7_telling_5 : decode cX7_telling 5 = .ok (.aload_n 0, 1) := by decide +kernel
theorem dX7_telling_6 : decode cX7_telling 6 = .ok (.aload_n 1, 1) := by decide +kernel
theorem dX7_telling_7 : decode cX7_telling 7 = .ok (.invokespecial 15, 3) := by decide +kernel
theorem dX7_telling_10 : decode cX7_telling 10 = .ok (.aload_n 0, 1) := by decide +kernel
theorem dX7_telling_11 : decode cX7_telling 11 = .ok (.aload_n 1, 1) := by decide +kernel
theorem dX7_telling_12 : decode cX7_telling 12 = .ok (.invokevirtual 19, 3) := by decide +kernel
theorem dX7_telling_15 : decode cX7_telling 15 = .ok (.iadd, 1) := by decide +kernel
theorem dX7_telling_16 : decode cX7_telling 16 = .ok (.ireturn, 1) := by decide +kernel
set_option maxRecDepth 20000 in
theorem ggX7_rung_X9_leave : GoodIn wsX7_rung wsX9_leave := goodIn_r _ [5, 6, 7] (by decide +kernel) (by decide +kernel)
set_option maxRecDepth 20000 in
theorem gX7_rung_X9_leave : GoodIn wsX7_rung (wsV RX7 9 RX9 yX9_leave wsX9_leave) := goodIn_app (goodIn_of _ (by decide +kernel)) ggX7_rung_X9_leave
theorem dX7_rung_0 : decode cX7_rung 0 = .ok (.aload_n 1, 1) := by decide +kernel
theorem dX7_rung_1 : decode cX7_rung 1 = .ok (.iconst 5, 1) := by decide +kernel
theorem dX7_rung_2 : decode cX7_rung 2 = .ok (.invokevirtual 9, 3) := by decide +kernel
theorem dX7_rung_5 : decode cX7_rung 5 = .ok (.bipush 50, 2) := by decide +kernel
theorem dX7_rung_7 : decode cX7_rung 7 = .ok (.ireturn, 1) := by decide +kernel
set_option maxRecDepth 20000 in
theorem ggX7_valveBehind_X3_valveBehind : GoodIn wsX7_valveBehind wsX3_valveBehind := goodIn_r _ [12, 13, 14, 15, 16, 3, 17, 18, 19, 20, 21, 22, 23, 24, 25, 26, 27, 28] (by decide +kernel) (by decide +kernel)
set_option maxRecDepth 20000 in
theorem gX7_valveBehind_X3_valveBehind_s34 : GoodIn wsX7_valveBehind (va_wsSU RX7 34 yX3_valveBehind wsX3_valveBehind) := goodIn_app (goodIn_of _ (by decide +kernel)) ggX7_valveBehind_X3_valveBehind
theorem dX7_valveBehind_0 : decode cX7_valveBehind 0 = .ok (.iload_n 2, 1) := by decide +kernel
theorem dX7_valveBehind_1 : decode cX7_valveBehind 1 = .ok (.iload_n 1, 1) := by decide +kernel
theorem dX7_valveBehind_2 : decode cX7_valveBehind 2 = .ok (.isub, 1) := by decide +kernel
theorem dX7_valveBehind_3 : decode cX7_valveBehind 3 = .ok (.invokestatic 24, 3) := by decide +kernel
theorem dX7_valveBehind_6 : decode cX7_valveBehind 6 = .ok (.aload_n 0, 1) := by decide +kernel
theorem dX7_valveBehind_7 : decode cX7_valveBehind 7 = .ok (.getfield 30, 3) := by decide +kernel
theorem dX7_valveBehind_10 : decode cX7_valveBehind 10 = .ok (.bipush 8, 2) := by decide +kernel
theorem dX7_valveBehind_12 : decode cX7_valveBehind 12 = .ok (.iaload, 1) := by decide +kernel
theorem dX7_valveBehind_13 : decode cX7_valveBehind 13 = .ok (.if_icmp .ge 5, 3) := by decide +kernel
theorem dX7_valveBehind_16 : decode cX7_valveBehind 16 = .ok (.iload_n 1, 1) := by decide +kernel
theorem dX7_valveBehind_17 : decode cX7_valveBehind 17 = .ok (.ireturn, 1) := by decide +kernel
theorem dX7_valveBehind_18 : decode cX7_valveBehind 18 = .ok (.aload_n 0, 1) := by decide +kernel
theorem dX7_valveBehind_19 : decode cX7_valveBehind 19 = .ok (.iload_n 1, 1) := by decide +kernel
theorem dX7_valveBehind_20 : decode cX7_valveBehind 20 = .ok (.iload_n 2, 1) := by decide +kernel
theorem dX7_valveBehind_21 : decode cX7_valveBehind 21 = .ok (.invokespecial 34, 3) := by decide +kernel
theorem dX7_valveBehind_24 : decode cX7_valveBehind 24 = .ok (.ireturn, 1) := by decide +kernel
theorem dX8_init_0 : decode cX8_init 0 = .ok (.aload_n 0, 1) := by decide +kernel
theorem dX8_init_1 : decode cX8_init 1 = .ok (.invokespecial 3, 3) := by decide +kernel
theorem dX8_init_4 : decode cX8_init 4 = .ok (.aload_n 0, 1) := by decide +kernel
theorem dX8_init_5 : decode cX8_init 5 = .ok (.iconst 5, 1) := by decide +kernel
theorem dX8_init_6 : decode cX8_init 6 = .ok (.newarray .long, 2) := by decide +kernel
theorem dX8_init_8 : decode cX8_init 8 = .ok (.putfield 9, 3) := by decide +kernel
theorem dX8_init_11 : decode cX8_init 11 = .ok (.return_, 1) := by decide +kernel
theorem dX8_draw_0 : decode cX8_draw 0 = .ok (.aload_n 1, 1) := by decide +kernel
theorem dX8_draw_1 : decode cX8_draw 1 = .ok (.iconst 0, 1) := by decide +kernel
theorem dX8_draw_2 : decode cX8_draw 2 = .ok (.iaload, 1) := by decide +kernel
theorem dX8_draw_3 : decode cX8_draw 3 = .ok (.i2l, 1) := by decide +kernel
theorem dX8_draw_4 : decode cX8_draw 4 = .ok (.lstore_n 2, 1) := by decide +kernel
theorem dX8_draw_5 : decode cX8_draw 5 = .ok (.aload_n 1, 1) := by decide +kernel
theorem dX8_draw_6 : decode cX8_draw 6 = .ok (.iconst 1, 1) := by decide +kernel
theorem dX8_draw_7 : decode cX8_draw 7 = .ok (.iaload, 1) := by decide +kernel
theorem dX8_draw_8 : decode cX8_draw 8 = .ok (.i2l, 1) := by decide +kernel
theorem dX8_draw_9 : decode cX8_draw 9 = .ok (.lstore 4, 2) := by decide +kernel
theorem dX8_draw_11 : decode cX8_draw 11 = .ok (.aload_n 1, 1) := by decide +kernel
theorem dX8_draw_12 : decode cX8_draw 12 = .ok (.bipush 6, 2) := by decide +kernel
theorem dX8_draw_14 : decode cX8_draw 14 = .ok (.iaload, 1) := by decide +kernel
theorem dX8_draw_15 : decode cX8_draw 15 = .ok (.ifCond .eq 7, 3) := by decide +kernel
theorem dX8_draw_18 : decode cX8_draw 18 = .ok (.iconst 1, 1) := by decide +kernel
theorem dX8_draw_19 : decode cX8_draw 19 = .ok (.goto 4, 3) := by decide +kernel
theorem dX8_draw_22 : decode cX8_draw 22 = .ok (.iconst 0, 1) := by decide +kernel
theorem dX8_draw_23 : decode cX8_draw 23 = .ok (.istore 6, 2) := by decide +kernel
theorem dX8_draw_25 : decode cX8_draw 25 = .ok (.iload 6, 2) := by decide +kernel
theorem dX8_draw_27 : decode cX8_draw 27 = .ok (.ifCond .eq 7, 3) := by decide +kernel
theorem dX8_draw_30 : decode cX8_draw 30 = .ok (.iconst 1, 1) := by decide +kernel
theorem dX8_draw_31 : decode cX8_draw 31 = .ok (.goto 4, 3) := by decide +kernel
theorem dX8_draw_34 : decode cX8_draw 34 = .ok (.iconst 0, 1) := by decide +kernel
theorem dX8_draw_35 : decode cX8_draw 35 = .ok (.istore 7, 2) := by decide +kernel
theorem dX8_draw_37 : decode cX8_draw 37 = .ok (.aload_n 0, 1) := by decide +kernel
theorem dX8_draw_38 : decode cX8_draw 38 = .ok (.getfield 9, 3) := by decide +kernel
theorem dX8_draw_41 : decode cX8_draw 41 = .ok (.iconst 4, 1) := by decide +kernel
theorem dX8_draw_42 : decode cX8_draw 42 = .ok (.lconst 0, 1) := by decide +kernel
theorem dX8_draw_43 : decode cX8_draw 43 = .ok (.lastore, 1) := by decide +kernel
theorem dX8_draw_44 : decode cX8_draw 44 = .ok (.aload_n 0, 1) := by decide +kernel
theorem dX8_draw_45 : decode cX8_draw 45 = .ok (.getfield 9, 3) := by decide +kernel
theorem dX8_draw_48 : decode cX8_draw 48 = .ok (.iconst 0, 1) := by decide +kernel
theorem dX8_draw_49 : decode cX8_draw 49 = .ok (.aload_n 1, 1) := by decide +kernel
theorem dX8_draw_50 : decode cX8_draw 50 = .ok (.bipush 6, 2) := by decide +kernel
theorem dX8_draw_52 : decode cX8_draw 52 = .ok (.iaload, 1) := by decide +kernel
theorem dX8_draw_53 : decode cX8_draw 53 = .ok (.i2l, 1) := by decide +kernel
theorem dX8_draw_54 : decode cX8_draw 54 = .ok (.lastore, 1) := by decide +kernel
theorem dX8_draw_55 : decode cX8_draw 55 = .ok (.aload_n 0, 1) := by decide +kernel
theorem dX8_draw_56 : decode cX8_draw 56 = .ok (.getfield 9, 3) := by decide +kernel
theorem dX8_draw_59 : decode cX8_draw 59 = .ok (.iload 7, 2) := by decide +kernel
theorem dX8_draw_61 : decode cX8_draw 61 = .ok (.lload 4, 2) := by decide +kernel
theorem dX8_draw_63 : decode cX8_draw 63 = .ok (.aload_n 1, 1) := by decide +kernel
theorem dX8_draw_64 : decode cX8_draw 64 = .ok (.iconst 4, 1) := by decide +kernel
theorem dX8_draw_65 : decode cX8_draw 65 = .ok (.iaload, 1) := by decide +kernel
theorem dX8_draw_66 : decode cX8_draw 66 = .ok (.i2l, 1) := by decide +kernel
theorem dX8_draw_67 : decode cX8_draw 67 = .ok (.lmul, 1) := by decide +kernel
theorem dX8_draw_68 : decode cX8_draw 68 = .ok (.aload_n 1, 1) := by decide +kernel
theorem dX8_draw_69 : decode cX8_draw 69 = .ok (.iconst 5, 1) := by decide +kernel
theorem dX8_draw_70 : decode cX8_draw 70 = .ok (.iaload, 1) := by decide +kernel
theorem dX8_draw_71 : decode cX8_draw 71 = .ok (.i2l, 1) := by decide +kernel
theorem dX8_draw_72 : decode cX8_draw 72 = .ok (.ladd, 1) := by decide +kernel
theorem dX8_draw_73 : decode cX8_draw 73 = .ok (.lastore, 1) := by decide +kernel
theorem dX8_draw_74 : decode cX8_draw 74 = .ok (.aload_n 0, 1) := by decide +kernel
theorem dX8_draw_75 : decode cX8_draw 75 = .ok (.getfield 9, 3) := by decide +kernel
theorem dX8_draw_78 : decode cX8_draw 78 = .ok (.iload 7, 2) := by decide +kernel
theorem dX8_draw_80 : decode cX8_draw 80 = .ok (.iconst 1, 1) := by decide +kernel
theorem dX8_draw_81 : decode cX8_draw 81 = .ok (.iadd, 1) := by decide +kernel
theorem dX8_draw_82 : decode cX8_draw 82 = .ok (.lload_n 2, 1) := by decide +kernel
theorem dX8_draw_83 : decode cX8_draw 83 = .ok (.aload_n 1, 1) := by decide +kernel
theorem dX8_draw_84 : decode cX8_draw 84 = .ok (.iconst 4, 1) := by decide +kernel
theorem dX8_draw_85 : decode cX8_draw 85 = .ok (.iaload, 1) := by decide +kernel
theorem dX8_draw_86 : decode cX8_draw 86 = .ok (.i2l, 1) := by decide +kernel
theorem dX8_draw_87 : decode cX8_draw 87 = .ok (.lmul, 1) := by decide +kernel
theorem dX8_draw_88 : decode cX8_draw 88 = .ok (.lload 4, 2) := by decide +kernel
theorem dX8_draw_90 : decode cX8_draw 90 = .ok (.aload_n 1, 1) := by decide +kernel
theorem dX8_draw_91 : decode cX8_draw 91 = .ok (.iconst 3, 1) := by decide +kernel
theorem dX8_draw_92 : decode cX8_draw 92 = .ok (.iaload, 1) := by decide +kernel
theorem dX8_draw_93 : decode cX8_draw 93 = .ok (.i2l, 1) := by decide +kernel
theorem dX8_draw_94 : decode cX8_draw 94 = .ok (.lmul, 1) := by decide +kernel
theorem dX8_draw_95 : decode cX8_draw 95 = .ok (.ladd, 1) := by decide +kernel
theorem dX8_draw_96 : decode cX8_draw 96 = .ok (.lastore, 1) := by decide +kernel
theorem dX8_draw_97 : decode cX8_draw 97 = .ok (.aload_n 0, 1) := by decide +kernel
theorem dX8_draw_98 : decode cX8_draw 98 = .ok (.getfield 9, 3) := by decide +kernel
theorem dX8_draw_101 : decode cX8_draw 101 = .ok (.iload 7, 2) := by decide +kernel
theorem dX8_draw_103 : decode cX8_draw 103 = .ok (.iconst 2, 1) := by decide +kernel
theorem dX8_draw_104 : decode cX8_draw 104 = .ok (.iadd, 1) := by decide +kernel
theorem dX8_draw_105 : decode cX8_draw 105 = .ok (.lload_n 2, 1) := by decide +kernel
theorem dX8_draw_106 : decode cX8_draw 106 = .ok (.aload_n 1, 1) := by decide +kernel
theorem dX8_draw_107 : decode cX8_draw 107 = .ok (.iconst 3, 1) := by decide +kernel
theorem dX8_draw_108 : decode cX8_draw 108 = .ok (.iaload, 1) := by decide +kernel
theorem dX8_draw_109 : decode cX8_draw 109 = .ok (.i2l, 1) := by decide +kernel
theorem dX8_draw_110 : decode cX8_draw 110 = .ok (.lmul, 1) := by decide +kernel
theorem dX8_draw_111 : decode cX8_draw 111 = .ok (.lload 4, 2) := by decide +kernel
theorem dX8_draw_113 : decode cX8_draw 113 = .ok (.aload_n 1, 1) := by decide +kernel
theorem dX8_draw_114 : decode cX8_draw 114 = .ok (.iconst 2, 1) := by decide +kernel
theorem dX8_draw_115 : decode cX8_draw 115 = .ok (.iaload, 1) := by decide +kernel
theorem dX8_draw_116 : decode cX8_draw 116 = .ok (.i2l, 1) := by decide +kernel
theorem dX8_draw_117 : decode cX8_draw 117 = .ok (.lmul, 1) := by decide +kernel
theorem dX8_draw_118 : decode cX8_draw 118 = .ok (.ladd, 1) := by decide +kernel
theorem dX8_draw_119 : decode cX8_draw 119 = .ok (.lastore, 1) := by decide +kernel
theorem dX8_draw_120 : decode cX8_draw 120 = .ok (.aload_n 0, 1) := by decide +kernel
theorem dX8_draw_121 : decode cX8_draw 121 = .ok (.getfield 9, 3) := by decide +kernel
theorem dX8_draw_124 : decode cX8_draw 124 = .ok (.iload 7, 2) := by decide +kernel
theorem dX8_draw_126 : decode cX8_draw 126 = .ok (.iconst 3, 1) := by decide +kernel
theorem dX8_draw_127 : decode cX8_draw 127 = .ok (.iadd, 1) := by decide +kernel
theorem dX8_draw_128 : decode cX8_draw 128 = .ok (.lload_n 2, 1) := by decide +kernel
theorem dX8_draw_129 : decode cX8_draw 129 = .ok (.aload_n 1, 1) := by decide +kernel
theorem dX8_draw_130 : decode cX8_draw 130 = .ok (.iconst 2, 1) := by decide +kernel
theorem dX8_draw_131 : decode cX8_draw 131 = .ok (.iaload, 1) := by decide +kernel
theorem dX8_draw_132 : decode cX8_draw 132 = .ok (.i2l, 1) := by decide +kernel
theorem dX8_draw_133 : decode cX8_draw 133 = .ok (.lmul, 1) := by decide +kernel
theorem dX8_draw_134 : decode cX8_draw 134 = .ok (.lastore, 1) := by decide +kernel
theorem dX8_draw_135 : decode cX8_draw 135 = .ok (.aload_n 0, 1) := by decide +kernel
theorem dX8_draw_136 : decode cX8_draw 136 = .ok (.iload 7, 2) := by decide +kernel
theorem dX8_draw_138 : decode cX8_draw 138 = .ok (.iconst 3, 1) := by decide +kernel
theorem dX8_draw_139 : decode cX8_draw 139 = .ok (.iadd, 1) := by decide +kernel
theorem dX8_draw_140 : decode cX8_draw 140 = .ok (.putfield 15, 3) := by decide +kernel
theorem dX8_draw_143 : decode cX8_draw 143 = .ok (.return_, 1) := by decide +kernel
theorem dX8_clearance_0 : decode cX8_clearance 0 = .ok (.aload_n 0, 1) := by decide +kernel
theorem dX8_clearance_1 : decode cX8_clearance 1 = .ok (.getfield 15, 3) := by decide +kernel
theorem dX8_clearance_4 : decode cX8_clearance 4 = .ok (.iconst 4, 1) := by decide +kernel
theorem dX8_clearance_5 : decode cX8_clearance 5 = .ok (.if_icmp .ge 31, 3) := by decide +kernel
theorem dX8_clearance_8 : decode cX8_clearance 8 = .ok (.aload_n 0, 1) := by decide +kernel
theorem dX8_clearance_9 : decode cX8_clearance 9 = .ok (.getfield 9, 3) := by decide +kernel
theorem dX8_clearance_12 : decode cX8_clearance 12 = .ok (.iconst 2, 1) := by decide +kernel
theorem dX8_clearance_13 : decode cX8_clearance 13 = .ok (.laload, 1) := by decide +kernel
theorem dX8_clearance_14 : decode cX8_clearance 14 = .ok (.aload_n 0, 1) := by decide +kernel
theorem dX8_clearance_15 : decode cX8_clearance 15 = .ok (.getfield 9, 3) := by decide +kernel
theorem dX8_clearance_18 : decode cX8_clearance 18 = .ok (.iconst 1, 1) := by decide +kernel
theorem dX8_clearance_19 : decode cX8_clearance 19 = .ok (.laload, 1) := by decide +kernel
theorem dX8_clearance_20 : decode cX8_clearance 20 = .ok (.lmul, 1) := by decide +kernel
theorem dX8_clearance_21 : decode cX8_clearance 21 = .ok (.aload_n 0, 1) := by decide +kernel
theorem dX8_clearance_22 : decode cX8_clearance 22 = .ok (.getfield 9, 3) := by decide +kernel
theorem dX8_clearance_25 : decode cX8_clearance 25 = .ok (.iconst 3, 1) := by decide +kernel
theorem dX8_clearance_26 : decode cX8_clearance 26 = .ok (.laload, 1) := by decide +kernel
theorem dX8_clearance_27 : decode cX8_clearance 27 = .ok (.aload_n 0, 1) := by decide +kernel
theorem dX8_clearance_28 : decode cX8_clearance 28 = .ok (.getfield 9, 3) := by decide +kernel
theorem dX8_clearance_31 : decode cX8_clearance 31 = .ok (.iconst 0, 1) := by decide +kernel
theorem dX8_clearance_32 : decode cX8_clearance 32 = .ok (.laload, 1) := by decide +kernel
theorem dX8_clearance_33 : decode cX8_clearance 33 = .ok (.lmul, 1) := by decide +kernel
theorem dX8_clearance_34 : decode cX8_clearance 34 = .ok (.lsub, 1) := by decide +kernel
theorem dX8_clearance_35 : decode cX8_clearance 35 = .ok (.lreturn, 1) := by decide +kernel
theorem dX8_clearance_36 : decode cX8_clearance 36 = .ok (.aload_n 0, 1) := by decide +kernel
theorem dX8_clearance_37 : decode cX8_clearance 37 = .ok (.getfield 9, 3) := by decide +kernel
theorem dX8_clearance_40 : decode cX8_clearance 40 = .ok (.iconst 3, 1) := by decide +kernel
theorem dX8_clearance_41 : decode cX8_clearance 41 = .ok (.laload, 1) := by decide +kernel
theorem dX8_clearance_42 : decode cX8_clearance 42 = .ok (.aload_n 0, 1) := by decide +kernel
theorem dX8_clearance_43 : decode cX8_clearance 43 = .ok (.getfield 9, 3) := by decide +kernel
theorem dX8_clearance_46 : decode cX8_clearance 46 = .ok (.iconst 2, 1) := by decide +kernel
theorem dX8_clearance_47 : decode cX8_clearance 47 = .ok (.laload, 1) := by decide +kernel
theorem dX8_clearance_48 : decode cX8_clearance 48 = .ok (.lmul, 1) := by decide +kernel
theorem dX8_clearance_49 : decode cX8_clearance 49 = .ok (.aload_n 0, 1) := by decide +kernel
theorem dX8_clearance_50 : decode cX8_clearance 50 = .ok (.getfield 9, 3) := by decide +kernel
theorem dX8_clearance_53 : decode cX8_clearance 53 = .ok (.iconst 1, 1) := by decide +kernel
theorem dX8_clearance_54 : decode cX8_clearance 54 = .ok (.laload, 1) := by decide +kernel
theorem dX8_clearance_55 : decode cX8_clearance 55 = .ok (.lmul, 1) := by decide +kernel
theorem dX8_clearance_56 : decode cX8_clearance 56 = .ok (.aload_n 0, 1) := by decide +kernel
theorem dX8_clearance_57 : decode cX8_clearance 57 = .ok (.getfield 9, 3) := by decide +kernel
theorem dX8_clearance_60 : decode cX8_clearance 60 = .ok (.iconst 4, 1) := by decide +kernel
theorem dX8_clearance_61 : decode cX8_clearance 61 = .ok (.laload, 1) := by decide +kernel
theorem dX8_clearance_62 : decode cX8_clearance 62 = .ok (.aload_n 0, 1) := by decide +kernel
theorem dX8_clearance_63 : decode cX8_clearance 63 = .ok (.getfield 9, 3) := by decide +kernel
theorem dX8_clearance_66 : decode cX8_clearance 66 = .ok (.iconst 1, 1) := by decide +kernel
theorem dX8_clearance_67 : decode cX8_clearance 67 = .ok (.laload, 1) := by decide +kernel
theorem dX8_clearance_68 : decode cX8_clearance 68 = .ok (.lmul, 1) := by decide +kernel
theorem dX8_clearance_69 : decode cX8_clearance 69 = .ok (.aload_n 0, 1) := by decide +kernel
theorem dX8_clearance_70 : decode cX8_clearance 70 = .ok (.getfield 9, 3) := by decide +kernel
theorem dX8_clearance_73 : decode cX8_clearance 73 = .ok (.iconst 1, 1) := by decide +kernel
theorem dX8_clearance_74 : decode cX8_clearance 74 = .ok (.laload, 1) := by decide +kernel
theorem dX8_clearance_75 : decode cX8_clearance 75 = .ok (.lmul, 1) := by decide +kernel
theorem dX8_clearance_76 : decode cX8_clearance 76 = .ok (.lsub, 1) := by decide +kernel
theorem dX8_clearance_77 : decode cX8_clearance 77 = .ok (.aload_n 0, 1) := by decide +kernel
theorem dX8_clearance_78 : decode cX8_clearance 78 = .ok (.getfield 9, 3) := by decide +kernel
theorem dX8_clearance_81 : decode cX8_clearance 81 = .ok (.iconst 3, 1) := by decide +kernel
theorem dX8_clearance_82 : decode cX8_clearance 82 = .ok (.laload, 1) := by decide +kernel
theorem dX8_clearance_83 : decode cX8_clearance 83 = .ok (.aload_n 0, 1) := by decide +kernel
theorem dX8_clearance_84 : decode cX8_clearance 84 = .ok (.getfield 9, 3) := by decide +kernel
theorem dX8_clearance_87 : decode cX8_clearance 87 = .ok (.iconst 3, 1) := by decide +kernel
theorem dX8_clearance_88 : decode cX8_clearance 88 = .ok (.laload, 1) := by decide +kernel
theorem dX8_clearance_89 : decode cX8_clearance 89 = .ok (.lmul, 1) := by decide +kernel
theorem dX8_clearance_90 : decode cX8_clearance 90 = .ok (.aload_n 0, 1) := by decide +kernel
theorem dX8_clearance_91 : decode cX8_clearance 91 = .ok (.getfield 9, 3) := by decide +kernel
theorem dX8_clearance_94 : decode cX8_clearance 94 = .ok (.iconst 0, 1) := by decide +kernel
theorem dX8_clearance_95 : decode cX8_clearance 95 = .ok (.laload, 1) := by decide +kernel
theorem dX8_clearance_96 : decode cX8_clearance 96 = .ok (.lmul, 1) := by decide +kernel
theorem dX8_clearance_97 : decode cX8_clearance 97 = .ok (.lsub, 1) := by decide +kernel
theorem dX8_clearance_98 : decode cX8_clearance 98 = .ok (.lreturn, 1) := by decide +kernel
set_option maxRecDepth 20000 in
theorem ggX8_standing_X8_clearance : GoodIn wsX8_standing wsX8_clearance := goodIn_r _ [7, 1, 2, 8, 9] (by decide +kernel) (by decide +kernel)
set_option maxRecDepth 20000 in
theorem gX8_standing_X8_clearance : GoodIn wsX8_standing (wsV RX8 19 RX8 yX8_clearance wsX8_clearance) := goodIn_app (goodIn_of _ (by decide +kernel)) ggX8_standing_X8_clearance
theorem dX8_standing_0 : decode cX8_standing 0 = .ok (.iconst 0, 1) := by decide +kernel
theorem dX8_standing_1 : decode cX8_standing 1 = .ok (.istore_n 1, 1) := by decide +kernel
theorem dX8_standing_2 : decode cX8_standing 2 = .ok (.iload_n 1, 1) := by decide +kernel
theorem dX8_standing_3 : decode cX8_standing 3 = .ok (.aload_n 0, 1) := by decide +kernel
theorem dX8_standing_4 : decode cX8_standing 4 = .ok (.getfield 15, 3) := by decide +kernel
theorem dX8_standing_7 : decode cX8_standing 7 = .ok (.if_icmp .gt 22, 3) := by decide +kernel
theorem dX8_standing_10 : decode cX8_standing 10 = .ok (.aload_n 0, 1) := by decide +kernel
theorem dX8_standing_11 : decode cX8_standing 11 = .ok (.getfield 9, 3) := by decide +kernel
theorem dX8_standing_14 : decode cX8_standing 14 = .ok (.iload_n 1, 1) := by decide +kernel
theorem dX8_standing_15 : decode cX8_standing 15 = .ok (.laload, 1) := by decide +kernel
theorem dX8_standing_16 : decode cX8_standing 16 = .ok (.lconst 0, 1) := by decide +kernel
theorem dX8_standing_17 : decode cX8_standing 17 = .ok (.lcmp, 1) := by decide +kernel
theorem dX8_standing_18 : decode cX8_standing 18 = .ok (.ifCond .gt 5, 3) := by decide +kernel
theorem dX8_standing_21 : decode cX8_standing 21 = .ok (.iconst 0, 1) := by decide +kernel
theorem dX8_standing_22 : decode cX8_standing 22 = .ok (.ireturn, 1) := by decide +kernel
theorem dX8_standing_23 : decode cX8_standing 23 = .ok (.iinc 1 1, 3) := by decide +kernel
theorem dX8_standing_26 : decode cX8_standing 26 = .ok (.goto (-24), 3) := by decide +kernel
theorem dX8_standing_29 : decode cX8_standing 29 = .ok (.aload_n 0, 1) := by decide +kernel
theorem dX8_standing_30 : decode cX8_standing 30 = .ok (.invokevirtual 19, 3) := by decide +kernel
theorem dX8_standing_33 : decode cX8_standing 33 = .ok (.lstore_n 1, 1) := by decide +kernel
theorem dX8_standing_34 : decode cX8_standing 34 = .ok (.lload_n 1, 1) := by decide +kernel
theorem dX8_standing_35 : decode cX8_standing 35 = .ok (.lconst 0, 1) := by decide +kernel
theorem dX8_standing_36 : decode cX8_standing 36 = .ok (.lcmp, 1) := by decide +kernel
theorem dX8_standing_37 : decode cX8_standing 37 = .ok (.ifCond .ne 5, 3) := by decide +kernel
theorem dX8_standing_40 : decode cX8_standing 40 = .ok (.iconst 1, 1) := by decide +kernel
theorem dX8_standing_41 : decode cX8_standing 41 = .ok (.ireturn, 1) := by decide +kernel
theorem dX8_standing_42 : decode cX8_standing 42 = .ok (.lload_n 1, 1) := by decide +kernel
theorem dX8_standing_43 : decode cX8_standing 43 = .ok (.lconst 0, 1) := by decide +kernel
theorem dX8_standing_44 : decode cX8_standing 44 = .ok (.lcmp, 1) := by decide +kernel
theorem dX8_standing_45 : decode cX8_standing 45 = .ok (.ifCond .le 7, 3) := by decide +kernel
theorem dX8_standing_48 : decode cX8_standing 48 = .ok (.iconst 2, 1) := by decide +kernel
theorem dX8_standing_49 : decode cX8_standing 49 = .ok (.goto 4, 3) := by decide +kernel
theorem dX8_standing_52 : decode cX8_standing 52 = .ok (.iconst 0, 1) := by decide +kernel
theorem dX8_standing_53 : decode cX8_standing 53 = .ok (.ireturn, 1) := by decide +kernel
theorem dX9_init_0 : decode cX9_init 0 = .ok (.aload_n 0, 1) := by decide +kernel
theorem dX9_init_1 : decode cX9_init 1 = .ok (.invokespecial 1, 3) := by decide +kernel
theorem dX9_init_4 : decode cX9_init 4 = .ok (.return_, 1) := by decide +kernel
theorem dX9_leave_0 : decode cX9_leave 0 = .ok (.aload_n 0, 1) := by decide +kernel
theorem dX9_leave_1 : decode cX9_leave 1 = .ok (.bipush 31, 2) := by decide +kernel
theorem dX9_leave_3 : decode cX9_leave 3 = .ok (.aload_n 0, 1) := by decide +kernel
theorem dX9_leave_4 : decode cX9_leave 4 = .ok (.getfield 7, 3) := by decide +kernel
theorem dX9_leave_7 : decode cX9_leave 7 = .ok (.imul, 1) := by decide +kernel
theorem dX9_leave_8 : decode cX9_leave 8 = .ok (.iload_n 1, 1) := by decide +kernel
theorem dX9_leave_9 : decode cX9_leave 9 = .ok (.iadd, 1) := by decide +kernel
theorem dX9_leave_10 : decode cX9_leave 10 = .ok (.putfield 7, 3) := by decide +kernel
theorem dX9_leave_13 : decode cX9_leave 13 = .ok (.return_, 1) := by decide +kernel
set_option maxRecDepth 20000 in
theorem ggX10_init_X0_init : GoodIn wsX10_init wsX0_init := goodIn_r _ [33, 34, 2, 3, 8, 35, 36, 37, 80, 81, 82, 83, 84] (by decide +kernel) (by decide +kernel)
set_option maxRecDepth 20000 in
theorem gX10_init_X0_init_n29 : GoodIn wsX10_init (wsX0_init) := ggX10_init_X0_init
set_option maxRecDepth 20000 in
theorem ggX10_init_X8_init : GoodIn wsX10_init wsX8_init := goodIn_r _ [39, 40, 2, 3, 41, 42, 85, 86] (by decide +kernel) (by decide +kernel)
set_option maxRecDepth 20000 in
theorem gX10_init_X8_init_n36 : GoodIn wsX10_init (wsX8_init) := ggX10_init_X8_init
set_option maxRecDepth 20000 in
theorem ggX10_init_X5_init : GoodIn wsX10_init wsX5_init := goodIn_r _ [44, 45, 2, 3, 8, 46, 47, 48, 49, 50, 51, 52, 53, 54, 55, 56, 57, 58, 87, 88, 89, 90, 91, 92, 93, 94, 95, 96, 97, 98, 99, 108, 109, 110] (by decide +kernel) (by decide +kernel)
set_option maxRecDepth 20000 in
theorem gX10_init_X5_init_n43 : GoodIn wsX10_init (wsX5_init) := ggX10_init_X5_init
set_option maxRecDepth 20000 in
theorem ggX10_init_X1_init : GoodIn wsX10_init wsX1_init := goodIn_r _ [60, 61, 2, 3] (by decide +kernel) (by decide +kernel)
set_option maxRecDepth 20000 in
theorem gX10_init_X1_init_n50 : GoodIn wsX10_init (wsX1_init) := ggX10_init_X1_init
set_option maxRecDepth 20000 in
theorem ggX10_init_X9_init : GoodIn wsX10_init wsX9_init := goodIn_r _ [63, 64, 2, 3] (by decide +kernel) (by decide +kernel)
set_option maxRecDepth 20000 in
theorem gX10_init_X9_init_n57 : GoodIn wsX10_init (wsX9_init) := ggX10_init_X9_init
set_option maxRecDepth 20000 in
theorem ggX10_init_X6_init : GoodIn wsX10_init wsX6_init := goodIn_r _ [66, 67, 2, 3, 8, 68, 104, 105, 106, 107] (by decide +kernel) (by decide +kernel)
set_option maxRecDepth 20000 in
theorem gX10_init_X6_init_n62 : GoodIn wsX10_init (wsX6_init) := ggX10_init_X6_init
