theorem dX10_init_0 : decode cX10_init 0 = .ok (.aload_n 0, 1) := by decide +kernel
theorem dX10_init_1 : decode cX10_init 1 = .ok (.invokespecial 5, 3) := by decide +kernel
theorem dX10_init_4 : decode cX10_init 4 = .ok (.aload_n 0, 1) := by decide +kernel
theorem dX10_init_5 : decode cX10_init 5 = .ok (.bipush 8, 2) := by decide +kernel
theorem dX10_init_7 : decode cX10_init 7 = .ok (.anewarray 11, 3) := by decide +kernel
theorem dX10_init_10 : decode cX10_init 10 = .ok (.putfield 13, 3) := by decide +kernel
theorem dX10_init_13 : decode cX10_init 13 = .ok (.aload_n 0, 1) := by decide +kernel
theorem dX10_init_14 : decode cX10_init 14 = .ok (.iconst 4, 1) := by decide +kernel
theorem dX10_init_15 : decode cX10_init 15 = .ok (.anewarray 17, 3) := by decide +kernel
theorem dX10_init_18 : decode cX10_init 18 = .ok (.putfield 19, 3) := by decide +kernel
theorem dX10_init_21 : decode cX10_init 21 = .ok (.aload_n 0, 1) := by decide +kernel
theorem dX10_init_22 : decode cX10_init 22 = .ok (.bipush 30, 2) := by decide +kernel
theorem dX10_init_24 : decode cX10_init 24 = .ok (.newarray .int, 2) := by decide +kernel
theorem dX10_init_26 : decode cX10_init 26 = .ok (.putfield 23, 3) := by decide +kernel
theorem dX10_init_29 : decode cX10_init 29 = .ok (.aload_n 0, 1) := by decide +kernel
theorem dX10_init_30 : decode cX10_init 30 = .ok (.new 27, 3) := by decide +kernel
theorem dX10_init_33 : decode cX10_init 33 = .ok (.dup, 1) := by decide +kernel
theorem dX10_init_34 : decode cX10_init 34 = .ok (.invokespecial 29, 3) := by decide +kernel
theorem dX10_init_37 : decode cX10_init 37 = .ok (.putfield 30, 3) := by decide +kernel
theorem dX10_init_40 : decode cX10_init 40 = .ok (.aload_n 0, 1) := by decide +kernel
theorem dX10_init_41 : decode cX10_init 41 = .ok (.new 34, 3) := by decide +kernel
theorem dX10_init_44 : decode cX10_init 44 = .ok (.dup, 1) := by decide +kernel
theorem dX10_init_45 : decode cX10_init 45 = .ok (.invokespecial 36, 3) := by decide +kernel
theorem dX10_init_48 : decode cX10_init 48 = .ok (.putfield 37, 3) := by decide +kernel
theorem dX10_init_51 : decode cX10_init 51 = .ok (.aload_n 0, 1) := by decide +kernel
theorem dX10_init_52 : decode cX10_init 52 = .ok (.new 41, 3) := by decide +kernel
theorem dX10_init_55 : decode cX10_init 55 = .ok (.dup, 1) := by decide +kernel
theorem dX10_init_56 : decode cX10_init 56 = .ok (.invokespecial 43, 3) := by decide +kernel
theorem dX10_init_59 : decode cX10_init 59 = .ok (.putfield 44, 3) := by decide +kernel
theorem dX10_init_62 : decode cX10_init 62 = .ok (.aload_n 0, 1) := by decide +kernel
theorem dX10_init_63 : decode cX10_init 63 = .ok (.new 48, 3) := by decide +kernel
theorem dX10_init_66 : decode cX10_init 66 = .ok (.dup, 1) := by decide +kernel
theorem dX10_init_67 : decode cX10_init 67 = .ok (.invokespecial 50, 3) := by decide +kernel
theorem dX10_init_70 : decode cX10_init 70 = .ok (.putfield 51, 3) := by decide +kernel
theorem dX10_init_73 : decode cX10_init 73 = .ok (.aload_n 0, 1) := by decide +kernel
theorem dX10_init_74 : decode cX10_init 74 = .ok (.new 55, 3) := by decide +kernel
theorem dX10_init_77 : decode cX10_init 77 = .ok (.dup, 1) := by decide +kernel
theorem dX10_init_78 : decode cX10_init 78 = .ok (.invokespecial 57, 3) := by decide +kernel
theorem dX10_init_81 : decode cX10_init 81 = .ok (.putfield 58, 3) := by decide +kernel
theorem dX10_init_84 : decode cX10_init 84 = .ok (.iconst 0, 1) := by decide +kernel
theorem dX10_init_85 : decode cX10_init 85 = .ok (.istore_n 1, 1) := by decide +kernel
theorem dX10_init_86 : decode cX10_init 86 = .ok (.iload_n 1, 1) := by decide +kernel
theorem dX10_init_87 : decode cX10_init 87 = .ok (.iconst 4, 1) := by decide +kernel
theorem dX10_init_88 : decode cX10_init 88 = .ok (.if_icmp .ge 22, 3) := by decide +kernel
theorem dX10_init_91 : decode cX10_init 91 = .ok (.aload_n 0, 1) := by decide +kernel
theorem dX10_init_92 : decode cX10_init 92 = .ok (.getfield 19, 3) := by decide +kernel
theorem dX10_init_95 : decode cX10_init 95 = .ok (.iload_n 1, 1) := by decide +kernel
theorem dX10_init_96 : decode cX10_init 96 = .ok (.new 17, 3) := by decide +kernel
theorem dX10_init_99 : decode cX10_init 99 = .ok (.dup, 1) := by decide +kernel
theorem dX10_init_100 : decode cX10_init 100 = .ok (.invokespecial 62, 3) := by decide +kernel
theorem dX10_init_103 : decode cX10_init 103 = .ok (.aastore, 1) := by decide +kernel
theorem dX10_init_104 : decode cX10_init 104 = .ok (.iinc 1 1, 3) := by decide +kernel
theorem dX10_init_107 : decode cX10_init 107 = .ok (.goto (-21), 3) := by decide +kernel
theorem dX10_init_110 : decode cX10_init 110 = .ok (.return_, 1) := by decide +kernel
set_option maxRecDepth 20000 in
theorem ggX10_mill_X10_sheetOf : GoodIn wsX10_mill wsX10_sheetOf := goodIn_r _ [9, 10, 11, 12, 8, 13, 107, 108, 109, 110, 111, 112, 113, 114, 115, 116, 117] (by decide +kernel) (by decide +kernel)
set_option maxRecDepth 20000 in
theorem gX10_mill_X10_sheetOf : GoodIn wsX10_mill (wsV RX10 67 RX10 yX10_sheetOf wsX10_sheetOf) := goodIn_app (goodIn_of _ (by decide +kernel)) ggX10_mill_X10_sheetOf
set_option maxRecDepth 20000 in
theorem ggX10_mill_X10_within : GoodIn wsX10_mill wsX10_within := goodIn_r _ [13] (by decide +kernel) (by decide +kernel)
set_option maxRecDepth 20000 in
theorem gX10_mill_X10_within : GoodIn wsX10_mill (va_wsS RX10 71 yX10_within wsX10_within) := goodIn_app (goodIn_of _ (by decide +kernel)) ggX10_mill_X10_within
set_option maxRecDepth 20000 in
theorem ggX10_mill_X6_faultOfTaking : GoodIn wsX10_mill wsX6_faultOfTaking := goodIn_r _ [18, 19, 20, 21, 17, 22, 23, 24, 25, 26, 27, 28, 29, 12, 8, 13, 123, 124, 125, 126] (by decide +kernel) (by decide +kernel)
set_option maxRecDepth 20000 in
theorem gX10_mill_X6_faultOfTaking : GoodIn wsX10_mill (wsV RX10 75 RX6 yX6_faultOfTaking wsX6_faultOfTaking) := goodIn_app (goodIn_of _ (by decide +kernel)) ggX10_mill_X6_faultOfTaking
set_option maxRecDepth 20000 in
theorem ggX10_mill_X10_faulted : GoodIn wsX10_mill wsX10_faulted := goodIn_r _ [33, 1, 107, 108, 109, 110, 111, 112, 113, 114, 115, 116, 117] (by decide +kernel) (by decide +kernel)
set_option maxRecDepth 20000 in
theorem gX10_mill_X10_faulted : GoodIn wsX10_mill (wsV RX10 79 RX10 yX10_faulted wsX10_faulted) := goodIn_app (goodIn_of _ (by decide +kernel)) ggX10_mill_X10_faulted
set_option maxRecDepth 20000 in
theorem ggX10_mill_X0_read : GoodIn wsX10_mill wsX0_read := goodIn_r _ [38, 39, 40, 41, 42, 43, 44, 37, 45, 46, 47, 48, 49, 50, 51, 52, 53, 54, 55, 56, 57, 58, 17, 59, 60, 61, 62, 63, 64, 29, 12, 8, 13, 65, 66, 67, 68, 69, 70, 71, 72, 118, 119, 120, 121, 122, 123, 124, 125, 126] (by decide +kernel) (by decide +kernel)
set_option maxRecDepth 20000 in
theorem gX10_mill_X0_read : GoodIn wsX10_mill (wsV RX10 83 RX0 yX0_read wsX0_read) := goodIn_app (goodIn_of _ (by decide +kernel)) ggX10_mill_X0_read
set_option maxRecDepth 20000 in
theorem ggX10_mill_X10_madeMill : GoodIn wsX10_mill wsX10_madeMill := goodIn_r _ [75, 76, 77, 78, 79, 80, 81, 82, 83, 84, 85, 86, 87, 88, 89, 90, 91, 92, 93, 94, 95, 96, 97, 98, 99, 100, 101, 102, 103, 104, 105, 106, 127, 128, 129, 130, 131, 132] (by decide +kernel) (by decide +kernel)
set_option maxRecDepth 20000 in
theorem gX10_mill_X10_madeMill : GoodIn wsX10_mill (va_wsS RX10 93 yX10_madeMill wsX10_madeMill) := goodIn_app (goodIn_of _ (by decide +kernel)) ggX10_mill_X10_madeMill
theorem dX10_mill_0 : decode cX10_mill 0 = .ok (.aload_n 0, 1) := by decide +kernel
theorem dX10_mill_1 : decode cX10_mill 1 = .ok (.iconst 0, 1) := by decide +kernel
theorem dX10_mill_2 : decode cX10_mill 2 = .ok (.putfield 63, 3) := by decide +kernel
theorem dX10_mill_5 : decode cX10_mill 5 = .ok (.aload_n 0, 1) := by decide +kernel
theorem dX10_mill_6 : decode cX10_mill 6 = .ok (.iload_n 2, 1) := by decide +kernel
theorem dX10_mill_7 : decode cX10_mill 7 = .ok (.invokevirtual 67, 3) := by decide +kernel
theorem dX10_mill_10 : decode cX10_mill 10 = .ok (.astore 6, 2) := by decide +kernel
theorem dX10_mill_12 : decode cX10_mill 12 = .ok (.aload 6, 2) := by decide +kernel
theorem dX10_mill_14 : decode cX10_mill 14 = .ok (.ifnonnull 5, 3) := by decide +kernel
theorem dX10_mill_17 : decode cX10_mill 17 = .ok (.iconst (-1), 1) := by decide +kernel
theorem dX10_mill_18 : decode cX10_mill 18 = .ok (.ireturn, 1) := by decide +kernel
theorem dX10_mill_19 : decode cX10_mill 19 = .ok (.iload_n 1, 1) := by decide +kernel
theorem dX10_mill_20 : decode cX10_mill 20 = .ok (.iconst 0, 1) := by decide +kernel
theorem dX10_mill_21 : decode cX10_mill 21 = .ok (.iconst 2, 1) := by decide +kernel
theorem dX10_mill_22 : decode cX10_mill 22 = .ok (.invokestatic 71, 3) := by decide +kernel
theorem dX10_mill_25 : decode cX10_mill 25 = .ok (.ifCond .eq 12, 3) := by decide +kernel
theorem dX10_mill_28 : decode cX10_mill 28 = .ok (.iload_n 3, 1) := by decide +kernel
theorem dX10_mill_29 : decode cX10_mill 29 = .ok (.iconst 0, 1) := by decide +kernel
theorem dX10_mill_30 : decode cX10_mill 30 = .ok (.iconst 2, 1) := by decide +kernel
theorem dX10_mill_31 : decode cX10_mill 31 = .ok (.invokestatic 71, 3) := by decide +kernel
theorem dX10_mill_34 : decode cX10_mill 34 = .ok (.ifCond .ne 6, 3) := by decide +kernel
theorem dX10_mill_37 : decode cX10_mill 37 = .ok (.bipush (-2), 2) := by decide +kernel
theorem dX10_mill_39 : decode cX10_mill 39 = .ok (.ireturn, 1) := by decide +kernel
theorem dX10_mill_40 : decode cX10_mill 40 = .ok (.aload 6, 2) := by decide +kernel
theorem dX10_mill_42 : decode cX10_mill 42 = .ok (.iload_n 3, 1) := by decide +kernel
theorem dX10_mill_43 : decode cX10_mill 43 = .ok (.iload 4, 2) := by decide +kernel
theorem dX10_mill_45 : decode cX10_mill 45 = .ok (.iload 5, 2) := by decide +kernel
theorem dX10_mill_47 : decode cX10_mill 47 = .ok (.invokevirtual 75, 3) := by decide +kernel
theorem dX10_mill_50 : decode cX10_mill 50 = .ok (.istore 7, 2) := by decide +kernel
theorem dX10_mill_52 : decode cX10_mill 52 = .ok (.iload 7, 2) := by decide +kernel
theorem dX10_mill_54 : decode cX10_mill 54 = .ok (.ifCond .eq 10, 3) := by decide +kernel
theorem dX10_mill_57 : decode cX10_mill 57 = .ok (.aload_n 0, 1) := by decide +kernel
theorem dX10_mill_58 : decode cX10_mill 58 = .ok (.iload 7, 2) := by decide +kernel
theorem dX10_mill_60 : decode cX10_mill 60 = .ok (.invokevirtual 79, 3) := by decide +kernel
theorem dX10_mill_63 : decode cX10_mill 63 = .ok (.ireturn, 1) := by decide +kernel
theorem dX10_mill_64 : decode cX10_mill 64 = .ok (.aload_n 0, 1) := by decide +kernel
theorem dX10_mill_65 : decode cX10_mill 65 = .ok (.getfield 30, 3) := by decide +kernel
theorem dX10_mill_68 : decode cX10_mill 68 = .ok (.aload 6, 2) := by decide +kernel
theorem dX10_mill_70 : decode cX10_mill 70 = .ok (.iload 4, 2) := by decide +kernel
theorem dX10_mill_72 : decode cX10_mill 72 = .ok (.iload 5, 2) := by decide +kernel
theorem dX10_mill_74 : decode cX10_mill 74 = .ok (.invokevirtual 83, 3) := by decide +kernel
theorem dX10_mill_77 : decode cX10_mill 77 = .ok (.istore 8, 2) := by decide +kernel
theorem dX10_mill_79 : decode cX10_mill 79 = .ok (.iload 8, 2) := by decide +kernel
theorem dX10_mill_81 : decode cX10_mill 81 = .ok (.iconst (-1), 1) := by decide +kernel
theorem dX10_mill_82 : decode cX10_mill 82 = .ok (.if_icmp .eq 9, 3) := by decide +kernel
theorem dX10_mill_85 : decode cX10_mill 85 = .ok (.bipush (-100), 2) := by decide +kernel
theorem dX10_mill_87 : decode cX10_mill 87 = .ok (.iload 8, 2) := by decide +kernel
theorem dX10_mill_89 : decode cX10_mill 89 = .ok (.isub, 1) := by decide +kernel
theorem dX10_mill_90 : decode cX10_mill 90 = .ok (.ireturn, 1) := by decide +kernel
theorem dX10_mill_91 : decode cX10_mill 91 = .ok (.aload_n 0, 1) := by decide +kernel
theorem dX10_mill_92 : decode cX10_mill 92 = .ok (.getfield 87, 3) := by decide +kernel
theorem dX10_mill_95 : decode cX10_mill 95 = .ok (.bipush 8, 2) := by decide +kernel
theorem dX10_mill_97 : decode cX10_mill 97 = .ok (.if_icmp .lt 6, 3) := by decide +kernel
theorem dX10_mill_100 : decode cX10_mill 100 = .ok (.bipush (-4), 2) := by decide +kernel
theorem dX10_mill_102 : decode cX10_mill 102 = .ok (.ireturn, 1) := by decide +kernel
theorem dX10_mill_103 : decode cX10_mill 103 = .ok (.aload_n 0, 1) := by decide +kernel
theorem dX10_mill_104 : decode cX10_mill 104 = .ok (.getfield 13, 3) := by decide +kernel
theorem dX10_mill_107 : decode cX10_mill 107 = .ok (.aload_n 0, 1) := by decide +kernel
theorem dX10_mill_108 : decode cX10_mill 108 = .ok (.getfield 87, 3) := by decide +kernel
theorem dX10_mill_111 : decode cX10_mill 111 = .ok (.iload_n 1, 1) := by decide +kernel
theorem dX10_mill_112 : decode cX10_mill 112 = .ok (.aload_n 0, 1) := by decide +kernel
theorem dX10_mill_113 : decode cX10_mill 113 = .ok (.getfield 87, 3) := by decide +kernel
theorem dX10_mill_116 : decode cX10_mill 116 = .ok (.aload_n 0, 1) := by decide +kernel
theorem dX10_mill_117 : decode cX10_mill 117 = .ok (.getfield 30, 3) := by decide +kernel
theorem dX10_mill_120 : decode cX10_mill 120 = .ok (.getfield 90, 3) := by decide +kernel
theorem dX10_mill_123 : decode cX10_mill 123 = .ok (.invokestatic 93, 3) := by decide +kernel
theorem dX10_mill_126 : decode cX10_mill 126 = .ok (.aastore, 1) := by decide +kernel
theorem dX10_mill_127 : decode cX10_mill 127 = .ok (.aload_n 0, 1) := by decide +kernel
theorem dX10_mill_128 : decode cX10_mill 128 = .ok (.dup, 1) := by decide +kernel
theorem dX10_mill_129 : decode cX10_mill 129 = .ok (.getfield 87, 3) := by decide +kernel
theorem dX10_mill_132 : decode cX10_mill 132 = .ok (.iconst 1, 1) := by decide +kernel
theorem dX10_mill_133 : decode cX10_mill 133 = .ok (.iadd, 1) := by decide +kernel
theorem dX10_mill_134 : decode cX10_mill 134 = .ok (.putfield 87, 3) := by decide +kernel
theorem dX10_mill_137 : decode cX10_mill 137 = .ok (.aload_n 0, 1) := by decide +kernel
theorem dX10_mill_138 : decode cX10_mill 138 = .ok (.getfield 87, 3) := by decide +kernel
theorem dX10_mill_141 : decode cX10_mill 141 = .ok (.iconst 1, 1) := by decide +kernel
theorem dX10_mill_142 : decode cX10_mill 142 = .ok (.isub, 1) := by decide +kernel
theorem dX10_mill_143 : decode cX10_mill 143 = .ok (.ireturn, 1) := by decide +kernel
set_option maxRecDepth 20000 in
theorem ggX10_ofMill_X10_millOf : GoodIn wsX10_ofMill wsX10_millOf := goodIn_r _ [6, 7, 8, 9, 10, 5, 11, 34, 35, 36, 37, 38, 39, 40, 41, 42, 43, 44] (by decide +kernel) (by decide +kernel)
set_option maxRecDepth 20000 in
theorem gX10_ofMill_X10_millOf : GoodIn wsX10_ofMill (wsV RX10 97 RX10 yX10_millOf wsX10_millOf) := goodIn_app (goodIn_of _ (by decide +kernel)) ggX10_ofMill_X10_millOf
set_option maxRecDepth 20000 in
theorem ggX10_ofMill_X10_within : GoodIn wsX10_ofMill wsX10_within := goodIn_r _ [11] (by decide +kernel) (by decide +kernel)
set_option maxRecDepth 20000 in
theorem gX10_ofMill_X10_within : GoodIn wsX10_ofMill (va_wsS RX10 71 yX10_within wsX10_within) := goodIn_app (goodIn_of _ (by decide +kernel)) ggX10_ofMill_X10_within
set_option maxRecDepth 20000 in
theorem ggX10_ofMill_X3_kind : GoodIn wsX10_ofMill wsX3_kind := goodIn_r _ [18] (by decide +kernel) (by decide +kernel)
set_option maxRecDepth 20000 in
theorem gX10_ofMill_X3_kind_u101X3 : GoodIn wsX10_ofMill (va_wsO RX10 101 RX3 "BallMinder$Plain" ⟨"BallMinder$Plain", "kind", "()I"⟩ yX3_kind wsX3_kind) := goodIn_app (goodIn_of _ (by decide +kernel)) ggX10_ofMill_X3_kind
set_option maxRecDepth 20000 in
theorem ggX10_ofMill_X4_kind : GoodIn wsX10_ofMill wsX4_kind := goodIn_r _ [19] (by decide +kernel) (by decide +kernel)
set_option maxRecDepth 20000 in
theorem gX10_ofMill_X4_kind : GoodIn wsX10_ofMill (wsV RX10 101 RX4 yX4_kind wsX4_kind) := goodIn_app (goodIn_of _ (by decide +kernel)) ggX10_ofMill_X4_kind
set_option maxRecDepth 20000 in
theorem ggX10_ofMill_X7_kind : GoodIn wsX10_ofMill wsX7_kind := goodIn_r _ [27] (by decide +kernel) (by decide +kernel)
set_option maxRecDepth 20000 in
theorem gX10_ofMill_X7_kind_u101X7 : GoodIn wsX10_ofMill (va_wsO RX10 101 RX7 "BallMinder$Plain" ⟨"BallMinder$Plain", "kind", "()I"⟩ yX7_kind wsX7_kind) := goodIn_app (goodIn_of _ (by decide +kernel)) ggX10_ofMill_X7_kind
theorem dX10_ofMill_0 : decode cX10_ofMill 0 = .ok (.aload_n 0, 1) := by decide +kernel
theorem dX10_ofMill_1 : decode cX10_ofMill 1 = .ok (.iload_n 1, 1) := by decide +kernel
theorem dX10_ofMill_2 : decode cX10_ofMill 2 = .ok (.invokevirtual 97, 3) := by decide +kernel
theorem dX10_ofMill_5 : decode cX10_ofMill 5 = .ok (.astore_n 3, 1) := by decide +kernel
theorem dX10_ofMill_6 : decode cX10_ofMill 6 = .ok (.aload_n 3, 1) := by decide +kernel
theorem dX10_ofMill_7 : decode cX10_ofMill 7 = .ok (.ifnull 13, 3) := by decide +kernel
theorem dX10_ofMill_10 : decode cX10_ofMill 10 = .ok (.iload_n 2, 1) := by decide +kernel
theorem dX10_ofMill_11 : decode cX10_ofMill 11 = .ok (.iconst 0, 1) := by decide +kernel
theorem dX10_ofMill_12 : decode cX10_ofMill 12 = .ok (.bipush 9, 2) := by decide +kernel
theorem dX10_ofMill_14 : decode cX10_ofMill 14 = .ok (.invokestatic 71, 3) := by decide +kernel
theorem dX10_ofMill_17 : decode cX10_ofMill 17 = .ok (.ifCond .ne 5, 3) := by decide +kernel
theorem dX10_ofMill_20 : decode cX10_ofMill 20 = .ok (.iconst (-1), 1) := by decide +kernel
theorem dX10_ofMill_21 : decode cX10_ofMill 21 = .ok (.ireturn, 1) := by decide +kernel
theorem dX10_ofMill_22 : decode cX10_ofMill 22 = .ok (.iload_n 2, 1) := by decide +kernel
theorem dX10_ofMill_23 : decode cX10_ofMill 23 = .ok (.bipush 9, 2) := by decide +kernel
theorem dX10_ofMill_25 : decode cX10_ofMill 25 = .ok (.if_icmp .ne 10, 3) := by decide +kernel
theorem dX10_ofMill_28 : decode cX10_ofMill 28 = .ok (.aload_n 3, 1) := by decide +kernel
theorem dX10_ofMill_29 : decode cX10_ofMill 29 = .ok (.invokevirtual 101, 3) := by decide +kernel
theorem dX10_ofMill_32 : decode cX10_ofMill 32 = .ok (.goto 9, 3) := by decide +kernel
theorem dX10_ofMill_35 : decode cX10_ofMill 35 = .ok (.aload_n 3, 1) := by decide +kernel
theorem dX10_ofMill_36 : decode cX10_ofMill 36 = .ok (.getfield 105, 3) := by decide +kernel
theorem dX10_ofMill_39 : decode cX10_ofMill 39 = .ok (.iload_n 2, 1) := by decide +kernel
theorem dX10_ofMill_40 : decode cX10_ofMill 40 = .ok (.iaload, 1) := by decide +kernel
theorem dX10_ofMill_41 : decode cX10_ofMill 41 = .ok (.ireturn, 1) := by decide +kernel
set_option maxRecDepth 20000 in
theorem ggX10_turn_X10_millOf : GoodIn wsX10_turn wsX10_millOf := goodIn_r _ [8, 9, 10, 11, 12, 7, 13, 20, 21, 22, 23, 24, 25, 26, 27, 28, 29, 30] (by decide +kernel) (by decide +kernel)
set_option maxRecDepth 20000 in
theorem gX10_turn_X10_millOf : GoodIn wsX10_turn (wsV RX10 97 RX10 yX10_millOf wsX10_millOf) := goodIn_app (goodIn_of _ (by decide +kernel)) ggX10_turn_X10_millOf
set_option maxRecDepth 20000 in
theorem ggX10_turn_X10_within : GoodIn wsX10_turn wsX10_within := goodIn_r _ [13] (by decide +kernel) (by decide +kernel)
set_option maxRecDepth 20000 in
theorem gX10_turn_X10_within : GoodIn wsX10_turn (va_wsS RX10 71 yX10_within wsX10_within) := goodIn_app (goodIn_of _ (by decide +kernel)) ggX10_turn_X10_within
theorem dX10_turn_0 : decode cX10_turn 0 = .ok (.aload_n 0, 1) := by decide +kernel
theorem dX10_turn_1 : decode cX10_turn 1 = .ok (.iload_n 1, 1) := by decide +kernel
theorem dX10_turn_2 : decode cX10_turn 2 = .ok (.invokevirtual 97, 3) := by decide +kernel
theorem dX10_turn_5 : decode cX10_turn 5 = .ok (.astore 4, 2) := by decide +kernel
theorem dX10_turn_7 : decode cX10_turn 7 = .ok (.aload 4, 2) := by decide +kernel
theorem dX10_turn_9 : decode cX10_turn 9 = .ok (.ifnull 13, 3) := by decide +kernel
theorem dX10_turn_12 : decode cX10_turn 12 = .ok (.iload_n 2, 1) := by decide +kernel
theorem dX10_turn_13 : decode cX10_turn 13 = .ok (.iconst 0, 1) := by decide +kernel
theorem dX10_turn_14 : decode cX10_turn 14 = .ok (.bipush 8, 2) := by decide +kernel
theorem dX10_turn_16 : decode cX10_turn 16 = .ok (.invokestatic 71, 3) := by decide +kernel
theorem dX10_turn_19 : decode cX10_turn 19 = .ok (.ifCond .ne 5, 3) := by decide +kernel
theorem dX10_turn_22 : decode cX10_turn 22 = .ok (.iconst (-1), 1) := by decide +kernel
theorem dX10_turn_23 : decode cX10_turn 23 = .ok (.ireturn, 1) := by decide +kernel
theorem dX10_turn_24 : decode cX10_turn 24 = .ok (.iload_n 3, 1) := by decide +kernel
theorem dX10_turn_25 : decode cX10_turn 25 = .ok (.getstatic 106, 3) := by decide +kernel
theorem dX10_turn_28 : decode cX10_turn 28 = .ok (.iload_n 2, 1) := by decide +kernel
theorem dX10_turn_29 : decode cX10_turn 29 = .ok (.iaload, 1) := by decide +kernel
theorem dX10_turn_30 : decode cX10_turn 30 = .ok (.getstatic 109, 3) := by decide +kernel
theorem dX10_turn_33 : decode cX10_turn 33 = .ok (.iload_n 2, 1) := by decide +kernel
theorem dX10_turn_34 : decode cX10_turn 34 = .ok (.iaload, 1) := by decide +kernel
theorem dX10_turn_35 : decode cX10_turn 35 = .ok (.invokestatic 71, 3) := by decide +kernel
theorem dX10_turn_38 : decode cX10_turn 38 = .ok (.ifCond .ne 6, 3) := by decide +kernel
theorem dX10_turn_41 : decode cX10_turn 41 = .ok (.bipush (-2), 2) := by decide +kernel
theorem dX10_turn_43 : decode cX10_turn 43 = .ok (.ireturn, 1) := by decide +kernel
theorem dX10_turn_44 : decode cX10_turn 44 = .ok (.aload 4, 2) := by decide +kernel
theorem dX10_turn_46 : decode cX10_turn 46 = .ok (.getfield 105, 3) := by decide +kernel
theorem dX10_turn_49 : decode cX10_turn 49 = .ok (.iload_n 2, 1) := by decide +kernel
theorem dX10_turn_50 : decode cX10_turn 50 = .ok (.iaload, 1) := by decide +kernel
theorem dX10_turn_51 : decode cX10_turn 51 = .ok (.istore 5, 2) := by decide +kernel
theorem dX10_turn_53 : decode cX10_turn 53 = .ok (.aload 4, 2) := by decide +kernel
theorem dX10_turn_55 : decode cX10_turn 55 = .ok (.getfield 105, 3) := by decide +kernel
theorem dX10_turn_58 : decode cX10_turn 58 = .ok (.iload_n 2, 1) := by decide +kernel
theorem dX10_turn_59 : decode cX10_turn 59 = .ok (.iload_n 3, 1) := by decide +kernel
theorem dX10_turn_60 : decode cX10_turn 60 = .ok (.iastore, 1) := by decide +kernel
theorem dX10_turn_61 : decode cX10_turn 61 = .ok (.iload 5, 2) := by decide +kernel
theorem dX10_turn_63 : decode cX10_turn 63 = .ok (.ireturn, 1) := by decide +kernel
set_option maxRecDepth 20000 in
theorem ggX10_row_X10_millOf : GoodIn wsX10_row wsX10_millOf := goodIn_r _ [8, 9, 10, 11, 12, 7, 13, 21, 22, 23, 24, 25, 26, 27, 28, 29, 30, 31] (by decide +kernel) (by decide +kernel)
set_option maxRecDepth 20000 in
theorem gX10_row_X10_millOf : GoodIn wsX10_row (wsV RX10 97 RX10 yX10_millOf wsX10_millOf) := goodIn_app (goodIn_of _ (by decide +kernel)) ggX10_row_X10_millOf
set_option maxRecDepth 20000 in
theorem ggX10_row_X10_within : GoodIn wsX10_row wsX10_within := goodIn_r _ [13] (by decide +kernel) (by decide +kernel)
set_option maxRecDepth 20000 in
theorem gX10_row_X10_within : GoodIn wsX10_row (va_wsS RX10 71 yX10_within wsX10_within) := goodIn_app (goodIn_of _ (by decide +kernel)) ggX10_row_X10_within
set_option maxRecDepth 20000 in
theorem ggX10_row_X8_draw : GoodIn wsX10_row wsX8_draw := goodIn_r _ [18, 19, 20, 38, 39] (by decide +kernel) (by decide +kernel)
set_option maxRecDepth 20000 in
theorem gX10_row_X8_draw : GoodIn wsX10_row (wsV RX10 114 RX8 yX8_draw wsX8_draw) := goodIn_app (goodIn_of _ (by decide +kernel)) ggX10_row_X8_draw
theorem dX10_row_0 : decode cX10_row 0 = .ok (.aload_n 0, 1) := by decide +kernel
theorem dX10_row_1 : decode cX10_row 1 = .ok (.iload_n 1, 1) := by decide +kernel
theorem dX10_row_2 : decode cX10_row 2 = .ok (.invokevirtual 97, 3) := by decide +kernel
theorem dX10_row_5 : decode cX10_row 5 = .ok (.astore_n 3, 1) := by decide +kernel
theorem dX10_row_6 : decode cX10_row 6 = .ok (.aload_n 3, 1) := by decide +kernel
theorem dX10_row_7 : decode cX10_row 7 = .ok (.ifnull 12, 3) := by decide +kernel
theorem dX10_row_10 : decode cX10_row 10 = .ok (.iload_n 2, 1) := by decide +kernel
theorem dX10_row_11 : decode cX10_row 11 = .ok (.iconst 0, 1) := by decide +kernel
theorem dX10_row_12 : decode cX10_row 12 = .ok (.iconst 4, 1) := by decide +kernel
theorem dX10_row_13 : decode cX10_row 13 = .ok (.invokestatic 71, 3) := by decide +kernel
theorem dX10_row_16 : decode cX10_row 16 = .ok (.ifCond .ne 7, 3) := by decide +kernel
theorem dX10_row_19 : decode cX10_row 19 = .ok (.ldc2_w 112, 3) := by decide +kernel
theorem dX10_row_22 : decode cX10_row 22 = .ok (.lreturn, 1) := by decide +kernel
theorem dX10_row_23 : decode cX10_row 23 = .ok (.aload_n 0, 1) := by decide +kernel
theorem dX10_row_24 : decode cX10_row 24 = .ok (.getfield 37, 3) := by decide +kernel
theorem dX10_row_27 : decode cX10_row 27 = .ok (.aload_n 3, 1) := by decide +kernel
theorem dX10_row_28 : decode cX10_row 28 = .ok (.getfield 105, 3) := by decide +kernel
theorem dX10_row_31 : decode cX10_row 31 = .ok (.invokevirtual 114, 3) := by decide +kernel
theorem dX10_row_34 : decode cX10_row 34 = .ok (.aload_n 0, 1) := by decide +kernel
theorem dX10_row_35 : decode cX10_row 35 = .ok (.getfield 37, 3) := by decide +kernel
theorem dX10_row_38 : decode cX10_row 38 = .ok (.getfield 118, 3) := by decide +kernel
theorem dX10_row_41 : decode cX10_row 41 = .ok (.iload_n 2, 1) := by decide +kernel
theorem dX10_row_42 : decode cX10_row 42 = .ok (.laload, 1) := by decide +kernel
theorem dX10_row_43 : decode cX10_row 43 = .ok (.lreturn, 1) := by decide +kernel
set_option maxRecDepth 20000 in
theorem ggX10_margin_X10_millOf : GoodIn wsX10_margin wsX10_millOf := goodIn_r _ [6, 7, 8, 9, 10, 5, 11, 29, 30, 31, 32, 33, 34, 35, 36, 37, 38, 39] (by decide +kernel) (by decide +kernel)
set_option maxRecDepth 20000 in
theorem gX10_margin_X10_millOf : GoodIn wsX10_margin (wsV RX10 97 RX10 yX10_millOf wsX10_millOf) := goodIn_app (goodIn_of _ (by decide +kernel)) ggX10_margin_X10_millOf
set_option maxRecDepth 20000 in
theorem ggX10_margin_X10_marginOf : GoodIn wsX10_margin wsX10_marginOf := goodIn_r _ [15, 16, 17, 18, 19, 20, 21, 22, 23, 24, 25, 26, 27, 28, 29, 30, 31, 32, 33, 34, 35, 36, 37, 38, 39, 40, 41, 42, 43, 44, 45, 46, 47] (by decide +kernel) (by decide +kernel)
set_option maxRecDepth 20000 in
theorem gX10_margin_X10_marginOf : GoodIn wsX10_margin (wsV RX10 122 RX10 yX10_marginOf wsX10_marginOf) := goodIn_app (goodIn_of _ (by decide +kernel)) ggX10_margin_X10_marginOf
theorem dX10_margin_0 : decode cX10_margin 0 = .ok (.aload_n 0, 1) := by decide +kernel
theorem dX10_margin_1 : decode cX10_margin 1 = .ok (.iload_n 1, 1) := by decide +kernel
theorem dX10_margin_2 : decode cX10_margin 2 = .ok (.invokevirtual 97, 3) := by decide +kernel
theorem dX10_margin_5 : decode cX10_margin 5 = .ok (.astore_n 2, 1) := by decide +kernel
theorem dX10_margin_6 : decode cX10_margin 6 = .ok (.aload_n 2, 1) := by decide +kernel
theorem dX10_margin_7 : decode cX10_margin 7 = .ok (.ifnonnull 9, 3) := by decide +kernel
theorem dX10_margin_10 : decode cX10_margin 10 = .ok (.ldc2_w 112, 3) := by decide +kernel
theorem dX10_margin_13 : decode cX10_margin 13 = .ok (.goto 8, 3) := by decide +kernel
theorem dX10_margin_16 : decode cX10_margin 16 = .ok (.aload_n 0, 1) := by decide +kernel
theorem dX10_margin_17 : decode cX10_margin 17 = .ok (.aload_n 2, 1) := by decide +kernel
theorem dX10_margin_18 : decode cX10_margin 18 = .ok (.invokevirtual 122, 3) := by decide +kernel
theorem dX10_margin_21 : decode cX10_margin 21 = .ok (.lreturn, 1) := by decide +kernel
set_option maxRecDepth 20000 in
theorem ggX10_near_X10_millOf : GoodIn wsX10_near wsX10_millOf := goodIn_r _ [5, 6, 7, 8, 9, 4, 10, 32, 33, 34, 35, 36, 37, 38, 39, 40, 41, 42] (by decide +kernel) (by decide +kernel)
set_option maxRecDepth 20000 in
theorem gX10_near_X10_millOf : GoodIn wsX10_near (wsV RX10 97 RX10 yX10_millOf wsX10_millOf) := goodIn_app (goodIn_of _ (by decide +kernel)) ggX10_near_X10_millOf
set_option maxRecDepth 20000 in
theorem ggX10_near_X10_standingOf : GoodIn wsX10_near wsX10_standingOf := goodIn_r _ [14, 15, 16, 17, 18, 19, 20, 21, 22, 23, 24, 25, 26, 27, 28, 29, 30, 31, 32, 33, 34, 35, 36, 37, 38, 39, 40, 41, 42, 43, 44, 45, 46, 47, 48, 49, 50] (by decide +kernel) (by decide +kernel)
set_option maxRecDepth 20000 in
theorem gX10_near_X10_standingOf : GoodIn wsX10_near (wsV RX10 126 RX10 yX10_standingOf wsX10_standingOf) := goodIn_app (goodIn_of _ (by decide +kernel)) ggX10_near_X10_standingOf
theorem dX10_near_0 : decode cX10_near 0 = .ok (.aload_n 0, 1) := by decide +kernel
theorem dX10_near_1 : decode cX10_near 1 = .ok (.iload_n 1, 1) := by decide +kernel
theorem dX10_near_2 : decode cX10_near 2 = .ok (.invokevirtual 97, 3) := by decide +kernel
theorem dX10_near_5 : decode cX10_near 5 = .ok (.astore_n 2, 1) := by decide +kernel
theorem dX10_near_6 : decode cX10_near 6 = .ok (.aload_n 2, 1) := by decide +kernel
theorem dX10_near_7 : decode cX10_near 7 = .ok (.ifnonnull 7, 3) := by decide +kernel
theorem dX10_near_10 : decode cX10_near 10 = .ok (.iconst (-1), 1) := by decide +kernel
theorem dX10_near_11 : decode cX10_near 11 = .ok (.goto 8, 3) := by decide +kernel
theorem dX10_near_14 : decode cX10_near 14 = .ok (.aload_n 0, 1) := by decide +kernel
theorem dX10_near_15 : decode cX10_near 15 = .ok (.aload_n 2, 1) := by decide +kernel
theorem dX10_near_16 : decode cX10_near 16 = .ok (.invokevirtual 126, 3) := by decide +kernel
theorem dX10_near_19 : decode cX10_near 19 = .ok (.ireturn, 1) := by decide +kernel
set_option maxRecDepth 20000 in
theorem ggX10_line_X10_millOf : GoodIn wsX10_line wsX10_millOf := goodIn_r _ [9, 10, 11, 12, 13, 8, 14, 57, 58, 59, 60, 61, 62, 63, 64, 65, 66, 67] (by decide +kernel) (by decide +kernel)
set_option maxRecDepth 20000 in
theorem gX10_line_X10_millOf : GoodIn wsX10_line (wsV RX10 97 RX10 yX10_millOf wsX10_millOf) := goodIn_app (goodIn_of _ (by decide +kernel)) ggX10_line_X10_millOf
set_option maxRecDepth 20000 in
theorem ggX10_line_X10_within : GoodIn wsX10_line wsX10_within := goodIn_r _ [14] (by decide +kernel) (by decide +kernel)
set_option maxRecDepth 20000 in
theorem gX10_line_X10_within : GoodIn wsX10_line (va_wsS RX10 71 yX10_within wsX10_within) := goodIn_app (goodIn_of _ (by decide +kernel)) ggX10_line_X10_within
set_option maxRecDepth 20000 in
theorem ggX10_line_X1_clear : GoodIn wsX10_line wsX1_clear := goodIn_r _ [19, 20, 68, 69, 70] (by decide +kernel) (by decide +kernel)
set_option maxRecDepth 20000 in
theorem gX10_line_X1_clear : GoodIn wsX10_line (wsV RX10 130 RX1 yX1_clear wsX1_clear) := goodIn_app (goodIn_of _ (by decide +kernel)) ggX10_line_X1_clear
set_option maxRecDepth 20000 in
theorem ggX10_line_X10_standingOf : GoodIn wsX10_line wsX10_standingOf := goodIn_r _ [24, 25, 1, 26, 27, 28, 29, 30, 31, 32, 33, 34, 35, 36, 37, 38, 39, 40, 57, 58, 59, 60, 61, 62, 63, 64, 65, 66, 67, 51, 52, 53, 54, 55, 56, 71, 72] (by decide +kernel) (by decide +kernel)
set_option maxRecDepth 20000 in
theorem gX10_line_X10_standingOf : GoodIn wsX10_line (wsV RX10 126 RX10 yX10_standingOf wsX10_standingOf) := goodIn_app (goodIn_of _ (by decide +kernel)) ggX10_line_X10_standingOf
set_option maxRecDepth 20000 in
theorem ggX10_line_X1_take : GoodIn wsX10_line wsX1_take := goodIn_r _ [44, 20, 45, 46, 68, 69, 70] (by decide +kernel) (by decide +kernel)
set_option maxRecDepth 20000 in
theorem gX10_line_X1_take : GoodIn wsX10_line (wsV RX10 133 RX1 yX1_take wsX1_take) := goodIn_app (goodIn_of _ (by decide +kernel)) ggX10_line_X1_take
set_option maxRecDepth 20000 in
theorem ggX10_line_X1_told : GoodIn wsX10_line wsX1_told := goodIn_r _ [50, 20, 45, 46, 68, 69, 70] (by decide +kernel) (by decide +kernel)
set_option maxRecDepth 20000 in
theorem gX10_line_X1_told : GoodIn wsX10_line (wsV RX10 137 RX1 yX1_told wsX1_told) := goodIn_app (goodIn_of _ (by decide +kernel)) ggX10_line_X1_told
theorem dX10_line_0 : decode cX10_line 0 = .ok (.aload_n 0, 1) := by decide +kernel
theorem dX10_line_1 : decode cX10_line 1 = .ok (.iload_n 1, 1) := by decide +kernel
theorem dX10_line_2 : decode cX10_line 2 = .ok (.invokevirtual 97, 3) := by decide +kernel
theorem dX10_line_5 : decode cX10_line 5 = .ok (.astore 4, 2) := by decide +kernel
theorem dX10_line_7 : decode cX10_line 7 = .ok (.aload 4, 2) := by decide +kernel
theorem dX10_line_9 : decode cX10_line 9 = .ok (.ifnull 13, 3) := by decide +kernel
theorem dX10_line_12 : decode cX10_line 12 = .ok (.iload_n 2, 1) := by decide +kernel
theorem dX10_line_13 : decode cX10_line 13 = .ok (.iconst 0, 1) := by decide +kernel
theorem dX10_line_14 : decode cX10_line 14 = .ok (.bipush 6, 2) := by decide +kernel
theorem dX10_line_16 : decode cX10_line 16 = .ok (.invokestatic 71, 3) := by decide +kernel
theorem dX10_line_19 : decode cX10_line 19 = .ok (.ifCond .ne 5, 3) := by decide +kernel
theorem dX10_line_22 : decode cX10_line 22 = .ok (.iconst (-1), 1) := by decide +kernel
theorem dX10_line_23 : decode cX10_line 23 = .ok (.ireturn, 1) := by decide +kernel
theorem dX10_line_24 : decode cX10_line 24 = .ok (.iload_n 3, 1) := by decide +kernel
theorem dX10_line_25 : decode cX10_line 25 = .ok (.iconst 0, 1) := by decide +kernel
theorem dX10_line_26 : decode cX10_line 26 = .ok (.iconst 2, 1) := by decide +kernel
theorem dX10_line_27 : decode cX10_line 27 = .ok (.invokestatic 71, 3) := by decide +kernel
theorem dX10_line_30 : decode cX10_line 30 = .ok (.ifCond .ne 6, 3) := by decide +kernel
theorem dX10_line_33 : decode cX10_line 33 = .ok (.bipush (-2), 2) := by decide +kernel
theorem dX10_line_35 : decode cX10_line 35 = .ok (.ireturn, 1) := by decide +kernel
theorem dX10_line_36 : decode cX10_line 36 = .ok (.aload 4, 2) := by decide +kernel
theorem dX10_line_38 : decode cX10_line 38 = .ok (.getfield 105, 3) := by decide +kernel
theorem dX10_line_41 : decode cX10_line 41 = .ok (.iload_n 2, 1) := by decide +kernel
theorem dX10_line_42 : decode cX10_line 42 = .ok (.iaload, 1) := by decide +kernel
theorem dX10_line_43 : decode cX10_line 43 = .ok (.istore 5, 2) := by decide +kernel
theorem dX10_line_45 : decode cX10_line 45 = .ok (.aload_n 0, 1) := by decide +kernel
theorem dX10_line_46 : decode cX10_line 46 = .ok (.getfield 51, 3) := by decide +kernel
theorem dX10_line_49 : decode cX10_line 49 = .ok (.invokevirtual 130, 3) := by decide +kernel
theorem dX10_line_52 : decode cX10_line 52 = .ok (.getstatic 106, 3) := by decide +kernel
theorem dX10_line_55 : decode cX10_line 55 = .ok (.iload_n 2, 1) := by decide +kernel
theorem dX10_line_56 : decode cX10_line 56 = .ok (.iaload, 1) := by decide +kernel
theorem dX10_line_57 : decode cX10_line 57 = .ok (.istore 6, 2) := by decide +kernel
theorem dX10_line_59 : decode cX10_line 59 = .ok (.iload 6, 2) := by decide +kernel
theorem dX10_line_61 : decode cX10_line 61 = .ok (.getstatic 109, 3) := by decide +kernel
theorem dX10_line_64 : decode cX10_line 64 = .ok (.iload_n 2, 1) := by decide +kernel
theorem dX10_line_65 : decode cX10_line 65 = .ok (.iaload, 1) := by decide +kernel
theorem dX10_line_66 : decode cX10_line 66 = .ok (.if_icmp .gt 37, 3) := by decide +kernel
theorem dX10_line_69 : decode cX10_line 69 = .ok (.aload 4, 2) := by decide +kernel
theorem dX10_line_71 : decode cX10_line 71 = .ok (.getfield 105, 3) := by decide +kernel
theorem dX10_line_74 : decode cX10_line 74 = .ok (.iload_n 2, 1) := by decide +kernel
theorem dX10_line_75 : decode cX10_line 75 = .ok (.iload 6, 2) := by decide +kernel
theorem dX10_line_77 : decode cX10_line 77 = .ok (.iastore, 1) := by decide +kernel
theorem dX10_line_78 : decode cX10_line 78 = .ok (.aload_n 0, 1) := by decide +kernel
theorem dX10_line_79 : decode cX10_line 79 = .ok (.aload 4, 2) := by decide +kernel
theorem dX10_line_81 : decode cX10_line 81 = .ok (.invokevirtual 126, 3) := by decide +kernel
theorem dX10_line_84 : decode cX10_line 84 = .ok (.iconst 2, 1) := by decide +kernel
theorem dX10_line_85 : decode cX10_line 85 = .ok (.if_icmp .ne 12, 3) := by decide +kernel
theorem dX10_line_88 : decode cX10_line 88 = .ok (.aload_n 0, 1) := by decide +kernel
theorem dX10_line_89 : decode cX10_line 89 = .ok (.getfield 51, 3) := by decide +kernel
theorem dX10_line_92 : decode cX10_line 92 = .ok (.iload 6, 2) := by decide +kernel
theorem dX10_line_94 : decode cX10_line 94 = .ok (.invokevirtual 133, 3) := by decide +kernel
theorem dX10_line_97 : decode cX10_line 97 = .ok (.iinc 6 1, 3) := by decide +kernel
theorem dX10_line_100 : decode cX10_line 100 = .ok (.goto (-41), 3) := by decide +kernel
theorem dX10_line_103 : decode cX10_line 103 = .ok (.aload 4, 2) := by decide +kernel
theorem dX10_line_105 : decode cX10_line 105 = .ok (.getfield 105, 3) := by decide +kernel
theorem dX10_line_108 : decode cX10_line 108 = .ok (.iload_n 2, 1) := by decide +kernel
theorem dX10_line_109 : decode cX10_line 109 = .ok (.iload 5, 2) := by decide +kernel
theorem dX10_line_111 : decode cX10_line 111 = .ok (.iastore, 1) := by decide +kernel
theorem dX10_line_112 : decode cX10_line 112 = .ok (.aload_n 0, 1) := by decide +kernel
theorem dX10_line_113 : decode cX10_line 113 = .ok (.getfield 51, 3) := by decide +kernel
theorem dX10_line_116 : decode cX10_line 116 = .ok (.iload_n 3, 1) := by decide +kernel
theorem dX10_line_117 : decode cX10_line 117 = .ok (.invokevirtual 137, 3) := by decide +kernel
theorem dX10_line_120 : decode cX10_line 120 = .ok (.ireturn, 1) := by decide +kernel
set_option maxRecDepth 20000 in
theorem ggX10_better_X10_millOf : GoodIn wsX10_better wsX10_millOf := goodIn_r _ [7, 8, 9, 10, 11, 6, 12, 39, 40, 41, 42, 43, 44, 45, 46, 47, 48, 49] (by decide +kernel) (by decide +kernel)
set_option maxRecDepth 20000 in
theorem gX10_better_X10_millOf : GoodIn wsX10_better (wsV RX10 97 RX10 yX10_millOf wsX10_millOf) := goodIn_app (goodIn_of _ (by decide +kernel)) ggX10_better_X10_millOf
set_option maxRecDepth 20000 in
theorem ggX10_better_X10_within : GoodIn wsX10_better wsX10_within := goodIn_r _ [12] (by decide +kernel) (by decide +kernel)
set_option maxRecDepth 20000 in
theorem gX10_better_X10_within : GoodIn wsX10_better (va_wsS RX10 71 yX10_within wsX10_within) := goodIn_app (goodIn_of _ (by decide +kernel)) ggX10_better_X10_within
set_option maxRecDepth 20000 in
theorem ggX10_better_X10_marginOf : GoodIn wsX10_better wsX10_marginOf := goodIn_r _ [16, 17, 1, 18, 19, 20, 21, 22, 23, 24, 25, 26, 27, 28, 39, 40, 41, 42, 43, 44, 45, 46, 47, 48, 49, 33, 34, 35, 36, 37, 38, 50, 51] (by decide +kernel) (by decide +kernel)
set_option maxRecDepth 20000 in
theorem gX10_better_X10_marginOf : GoodIn wsX10_better (wsV RX10 122 RX10 yX10_marginOf wsX10_marginOf) := goodIn_app (goodIn_of _ (by decide +kernel)) ggX10_better_X10_marginOf
set_option maxRecDepth 20000 in
theorem ggX10_better_J13_compare_74951 : GoodIn wsX10_better wsJ13_compare_74951 := goodIn_r _ [32] (by decide +kernel) (by decide +kernel)
set_option maxRecDepth 20000 in
theorem gX10_better_J13_compare_74951 : GoodIn wsX10_better (va_wsS RX10 140 yJ13_compare_74951 wsJ13_compare_74951) := goodIn_app (goodIn_of _ (by decide +kernel)) ggX10_better_J13_compare_74951
theorem dX10_better_0 : decode cX10_better 0 = .ok (.aload_n 0, 1) := by decide +kernel
theorem dX10_better_1 : decode cX10_better 1 = .ok (.iload_n 1, 1) := by decide +kernel
theorem dX10_better_2 : decode cX10_better 2 = .ok (.invokevirtual 97, 3) := by decide +kernel
theorem dX10_better_5 : decode cX10_better 5 = .ok (.astore_n 3, 1) := by decide +kernel
theorem dX10_better_6 : decode cX10_better 6 = .ok (.aload_n 3, 1) := by decide +kernel
theorem dX10_better_7 : decode cX10_better 7 = .ok (.ifnull 13, 3) := by decide +kernel
theorem dX10_better_10 : decode cX10_better 10 = .ok (.iload_n 2, 1) := by decide +kernel
theorem dX10_better_11 : decode cX10_better 11 = .ok (.iconst 0, 1) := by decide +kernel
theorem dX10_better_12 : decode cX10_better 12 = .ok (.bipush 6, 2) := by decide +kernel
theorem dX10_better_14 : decode cX10_better 14 = .ok (.invokestatic 71, 3) := by decide +kernel
theorem dX10_better_17 : decode cX10_better 17 = .ok (.ifCond .ne 5, 3) := by decide +kernel
theorem dX10_better_20 : decode cX10_better 20 = .ok (.iconst (-1), 1) := by decide +kernel
theorem dX10_better_21 : decode cX10_better 21 = .ok (.ireturn, 1) := by decide +kernel
theorem dX10_better_22 : decode cX10_better 22 = .ok (.aload_n 3, 1) := by decide +kernel
theorem dX10_better_23 : decode cX10_better 23 = .ok (.getfield 105, 3) := by decide +kernel
theorem dX10_better_26 : decode cX10_better 26 = .ok (.iload_n 2, 1) := by decide +kernel
theorem dX10_better_27 : decode cX10_better 27 = .ok (.iaload, 1) := by decide +kernel
theorem dX10_better_28 : decode cX10_better 28 = .ok (.istore 4, 2) := by decide +kernel
theorem dX10_better_30 : decode cX10_better 30 = .ok (.iload 4, 2) := by decide +kernel
theorem dX10_better_32 : decode cX10_better 32 = .ok (.getstatic 109, 3) := by decide +kernel
theorem dX10_better_35 : decode cX10_better 35 = .ok (.iload_n 2, 1) := by decide +kernel
theorem dX10_better_36 : decode cX10_better 36 = .ok (.iaload, 1) := by decide +kernel
theorem dX10_better_37 : decode cX10_better 37 = .ok (.if_icmp .lt 6, 3) := by decide +kernel
theorem dX10_better_40 : decode cX10_better 40 = .ok (.bipush (-3), 2) := by decide +kernel
theorem dX10_better_42 : decode cX10_better 42 = .ok (.ireturn, 1) := by decide +kernel
theorem dX10_better_43 : decode cX10_better 43 = .ok (.aload_n 0, 1) := by decide +kernel
theorem dX10_better_44 : decode cX10_better 44 = .ok (.aload_n 3, 1) := by decide +kernel
theorem dX10_better_45 : decode cX10_better 45 = .ok (.invokevirtual 122, 3) := by decide +kernel
theorem dX10_better_48 : decode cX10_better 48 = .ok (.lstore 5, 2) := by decide +kernel
theorem dX10_better_50 : decode cX10_better 50 = .ok (.aload_n 3, 1) := by decide +kernel
theorem dX10_better_51 : decode cX10_better 51 = .ok (.getfield 105, 3) := by decide +kernel
theorem dX10_better_54 : decode cX10_better 54 = .ok (.iload_n 2, 1) := by decide +kernel
theorem dX10_better_55 : decode cX10_better 55 = .ok (.iload 4, 2) := by decide +kernel
theorem dX10_better_57 : decode cX10_better 57 = .ok (.iconst 1, 1) := by decide +kernel
theorem dX10_better_58 : decode cX10_better 58 = .ok (.iadd, 1) := by decide +kernel
theorem dX10_better_59 : decode cX10_better 59 = .ok (.iastore, 1) := by decide +kernel
theorem dX10_better_60 : decode cX10_better 60 = .ok (.aload_n 0, 1) := by decide +kernel
theorem dX10_better_61 : decode cX10_better 61 = .ok (.aload_n 3, 1) := by decide +kernel
theorem dX10_better_62 : decode cX10_better 62 = .ok (.invokevirtual 122, 3) := by decide +kernel
theorem dX10_better_65 : decode cX10_better 65 = .ok (.lstore 7, 2) := by decide +kernel
theorem dX10_better_67 : decode cX10_better 67 = .ok (.aload_n 3, 1) := by decide +kernel
theorem dX10_better_68 : decode cX10_better 68 = .ok (.getfield 105, 3) := by decide +kernel
theorem dX10_better_71 : decode cX10_better 71 = .ok (.iload_n 2, 1) := by decide +kernel
theorem dX10_better_72 : decode cX10_better 72 = .ok (.iload 4, 2) := by decide +kernel
theorem dX10_better_74 : decode cX10_better 74 = .ok (.iastore, 1) := by decide +kernel
theorem dX10_better_75 : decode cX10_better 75 = .ok (.lload 7, 2) := by decide +kernel
theorem dX10_better_77 : decode cX10_better 77 = .ok (.lload 5, 2) := by decide +kernel
theorem dX10_better_79 : decode cX10_better 79 = .ok (.invokestatic 140, 3) := by decide +kernel
theorem dX10_better_82 : decode cX10_better 82 = .ok (.ireturn, 1) := by decide +kernel
set_option maxRecDepth 20000 in
theorem ggX10_off_X10_millOf : GoodIn wsX10_off wsX10_millOf := goodIn_r _ [7, 8, 9, 10, 11, 6, 12, 29, 30, 31, 32, 33, 34, 35, 36, 37, 38, 39] (by decide +kernel) (by decide +kernel)
set_option maxRecDepth 20000 in
theorem gX10_off_X10_millOf : GoodIn wsX10_off (wsV RX10 97 RX10 yX10_millOf wsX10_millOf) := goodIn_app (goodIn_of _ (by decide +kernel)) ggX10_off_X10_millOf
set_option maxRecDepth 20000 in
theorem ggX10_off_X10_within : GoodIn wsX10_off wsX10_within := goodIn_r _ [12] (by decide +kernel) (by decide +kernel)
set_option maxRecDepth 20000 in
theorem gX10_off_X10_within : GoodIn wsX10_off (va_wsS RX10 71 yX10_within wsX10_within) := goodIn_app (goodIn_of _ (by decide +kernel)) ggX10_off_X10_within
set_option maxRecDepth 20000 in
theorem ggX10_off_X10_inLeastTerms : GoodIn wsX10_off wsX10_inLeastTerms := goodIn_r _ [15, 16, 17, 18, 19, 1, 20, 21, 6, 22] (by decide +kernel) (by decide +kernel)
set_option maxRecDepth 20000 in
theorem gX10_off_X10_inLeastTerms : GoodIn wsX10_off (va_wsS RX10 144 yX10_inLeastTerms wsX10_inLeastTerms) := goodIn_app (goodIn_of _ (by decide +kernel)) ggX10_off_X10_inLeastTerms
theorem dX10_off_0 : decode cX10_off 0 = .ok (.aload_n 0, 1) := by decide +kernel
theorem dX10_off_1 : decode cX10_off 1 = .ok (.iload_n 1, 1) := by decide +kernel
theorem dX10_off_2 : decode cX10_off 2 = .ok (.invokevirtual 97, 3) := by decide +kernel
theorem dX10_off_5 : decode cX10_off 5 = .ok (.astore 4, 2) := by decide +kernel
theorem dX10_off_7 : decode cX10_off 7 = .ok (.aload 4, 2) := by decide +kernel
theorem dX10_off_9 : decode cX10_off 9 = .ok (.ifnull 23, 3) := by decide +kernel
theorem dX10_off_12 : decode cX10_off 12 = .ok (.iload_n 2, 1) := by decide +kernel
theorem dX10_off_13 : decode cX10_off 13 = .ok (.bipush (-99), 2) := by decide +kernel
theorem dX10_off_15 : decode cX10_off 15 = .ok (.bipush 99, 2) := by decide +kernel
theorem dX10_off_17 : decode cX10_off 17 = .ok (.invokestatic 71, 3) := by decide +kernel
theorem dX10_off_20 : decode cX10_off 20 = .ok (.ifCond .eq 12, 3) := by decide +kernel
theorem dX10_off_23 : decode cX10_off 23 = .ok (.iload_n 3, 1) := by decide +kernel
theorem dX10_off_24 : decode cX10_off 24 = .ok (.iconst 0, 1) := by decide +kernel
theorem dX10_off_25 : decode cX10_off 25 = .ok (.iconst 1, 1) := by decide +kernel
theorem dX10_off_26 : decode cX10_off 26 = .ok (.invokestatic 71, 3) := by decide +kernel
theorem dX10_off_29 : decode cX10_off 29 = .ok (.ifCond .ne 7, 3) := by decide +kernel
theorem dX10_off_32 : decode cX10_off 32 = .ok (.ldc2_w 112, 3) := by decide +kernel
theorem dX10_off_35 : decode cX10_off 35 = .ok (.lreturn, 1) := by decide +kernel
theorem dX10_off_36 : decode cX10_off 36 = .ok (.aload 4, 2) := by decide +kernel
theorem dX10_off_38 : decode cX10_off 38 = .ok (.getfield 105, 3) := by decide +kernel
theorem dX10_off_41 : decode cX10_off 41 = .ok (.astore 5, 2) := by decide +kernel
theorem dX10_off_43 : decode cX10_off 43 = .ok (.aload 5, 2) := by decide +kernel
theorem dX10_off_45 : decode cX10_off 45 = .ok (.bipush 6, 2) := by decide +kernel
theorem dX10_off_47 : decode cX10_off 47 = .ok (.iaload, 1) := by decide +kernel
theorem dX10_off_48 : decode cX10_off 48 = .ok (.ifCond .ne 15, 3) := by decide +kernel
theorem dX10_off_51 : decode cX10_off 51 = .ok (.iload_n 2, 1) := by decide +kernel
theorem dX10_off_52 : decode cX10_off 52 = .ok (.i2l, 1) := by decide +kernel
theorem dX10_off_53 : decode cX10_off 53 = .ok (.lneg, 1) := by decide +kernel
theorem dX10_off_54 : decode cX10_off 54 = .ok (.aload 5, 2) := by decide +kernel
theorem dX10_off_56 : decode cX10_off 56 = .ok (.iconst 4, 1) := by decide +kernel
theorem dX10_off_57 : decode cX10_off 57 = .ok (.iaload, 1) := by decide +kernel
theorem dX10_off_58 : decode cX10_off 58 = .ok (.i2l, 1) := by decide +kernel
theorem dX10_off_59 : decode cX10_off 59 = .ok (.lmul, 1) := by decide +kernel
theorem dX10_off_60 : decode cX10_off 60 = .ok (.goto 4, 3) := by decide +kernel
theorem dX10_off_63 : decode cX10_off 63 = .ok (.lconst 0, 1) := by decide +kernel
theorem dX10_off_64 : decode cX10_off 64 = .ok (.lstore 6, 2) := by decide +kernel
theorem dX10_off_66 : decode cX10_off 66 = .ok (.aload 5, 2) := by decide +kernel
theorem dX10_off_68 : decode cX10_off 68 = .ok (.iconst 1, 1) := by decide +kernel
theorem dX10_off_69 : decode cX10_off 69 = .ok (.iaload, 1) := by decide +kernel
theorem dX10_off_70 : decode cX10_off 70 = .ok (.i2l, 1) := by decide +kernel
theorem dX10_off_71 : decode cX10_off 71 = .ok (.aload 5, 2) := by decide +kernel
theorem dX10_off_73 : decode cX10_off 73 = .ok (.iconst 4, 1) := by decide +kernel
theorem dX10_off_74 : decode cX10_off 74 = .ok (.iaload, 1) := by decide +kernel
theorem dX10_off_75 : decode cX10_off 75 = .ok (.i2l, 1) := by decide +kernel
theorem dX10_off_76 : decode cX10_off 76 = .ok (.lmul, 1) := by decide +kernel
theorem dX10_off_77 : decode cX10_off 77 = .ok (.aload 5, 2) := by decide +kernel
theorem dX10_off_79 : decode cX10_off 79 = .ok (.iconst 5, 1) := by decide +kernel
theorem dX10_off_80 : decode cX10_off 80 = .ok (.iaload, 1) := by decide +kernel
theorem dX10_off_81 : decode cX10_off 81 = .ok (.i2l, 1) := by decide +kernel
theorem dX10_off_82 : decode cX10_off 82 = .ok (.ladd, 1) := by decide +kernel
theorem dX10_off_83 : decode cX10_off 83 = .ok (.lstore 8, 2) := by decide +kernel
theorem dX10_off_85 : decode cX10_off 85 = .ok (.lload 6, 2) := by decide +kernel
theorem dX10_off_87 : decode cX10_off 87 = .ok (.lload 8, 2) := by decide +kernel
theorem dX10_off_89 : decode cX10_off 89 = .ok (.iload_n 3, 1) := by decide +kernel
theorem dX10_off_90 : decode cX10_off 90 = .ok (.invokestatic 144, 3) := by decide +kernel
theorem dX10_off_93 : decode cX10_off 93 = .ok (.lreturn, 1) := by decide +kernel
set_option maxRecDepth 20000 in
theorem ggX10_years_X10_millOf : GoodIn wsX10_years wsX10_millOf := goodIn_r _ [8, 9, 10, 11, 12, 7, 13, 43, 44, 45, 46, 47, 48, 49, 50, 51, 52, 53] (by decide +kernel) (by decide +kernel)
set_option maxRecDepth 20000 in
theorem gX10_years_X10_millOf : GoodIn wsX10_years (wsV RX10 97 RX10 yX10_millOf wsX10_millOf) := goodIn_app (goodIn_of _ (by decide +kernel)) ggX10_years_X10_millOf
set_option maxRecDepth 20000 in
theorem ggX10_years_X10_within : GoodIn wsX10_years wsX10_within := goodIn_r _ [13] (by decide +kernel) (by decide +kernel)
set_option maxRecDepth 20000 in
theorem gX10_years_X10_within : GoodIn wsX10_years (va_wsS RX10 71 yX10_within wsX10_within) := goodIn_app (goodIn_of _ (by decide +kernel)) ggX10_years_X10_within
set_option maxRecDepth 20000 in
theorem ggX10_years_X10_bounded : GoodIn wsX10_years wsX10_bounded := goodIn_r _ [16] (by decide +kernel) (by decide +kernel)
set_option maxRecDepth 20000 in
theorem gX10_years_X10_bounded : GoodIn wsX10_years (va_wsS RX10 148 yX10_bounded wsX10_bounded) := goodIn_app (goodIn_of _ (by decide +kernel)) ggX10_years_X10_bounded
set_option maxRecDepth 20000 in
theorem ggX10_years_X10_standingOf : GoodIn wsX10_years wsX10_standingOf := goodIn_r _ [20, 21, 1, 22, 23, 24, 25, 26, 27, 28, 29, 30, 31, 32, 33, 34, 35, 36, 43, 44, 45, 46, 47, 48, 49, 50, 51, 52, 53, 37, 38, 39, 40, 41, 42, 54, 55] (by decide +kernel) (by decide +kernel)
set_option maxRecDepth 20000 in
theorem gX10_years_X10_standingOf : GoodIn wsX10_years (wsV RX10 126 RX10 yX10_standingOf wsX10_standingOf) := goodIn_app (goodIn_of _ (by decide +kernel)) ggX10_years_X10_standingOf
theorem dX10_years_0 : decode cX10_years 0 = .ok (.aload_n 0, 1) := by decide +kernel
theorem dX10_years_1 : decode cX10_years 1 = .ok (.iload_n 1, 1) := by decide +kernel
theorem dX10_years_2 : decode cX10_years 2 = .ok (.invokevirtual 97, 3) := by decide +kernel
theorem dX10_years_5 : decode cX10_years 5 = .ok (.astore 4, 2) := by decide +kernel
theorem dX10_years_7 : decode cX10_years 7 = .ok (.aload 4, 2) := by decide +kernel
theorem dX10_years_9 : decode cX10_years 9 = .ok (.ifnull 13, 3) := by decide +kernel
theorem dX10_years_12 : decode cX10_years 12 = .ok (.iload_n 2, 1) := by decide +kernel
theorem dX10_years_13 : decode cX10_years 13 = .ok (.iconst 0, 1) := by decide +kernel
theorem dX10_years_14 : decode cX10_years 14 = .ok (.bipush 6, 2) := by decide +kernel
theorem dX10_years_16 : decode cX10_years 16 = .ok (.invokestatic 71, 3) := by decide +kernel
theorem dX10_years_19 : decode cX10_years 19 = .ok (.ifCond .ne 5, 3) := by decide +kernel
theorem dX10_years_22 : decode cX10_years 22 = .ok (.iconst (-1), 1) := by decide +kernel
theorem dX10_years_23 : decode cX10_years 23 = .ok (.ireturn, 1) := by decide +kernel
theorem dX10_years_24 : decode cX10_years 24 = .ok (.iload_n 3, 1) := by decide +kernel
theorem dX10_years_25 : decode cX10_years 25 = .ok (.bipush (-9), 2) := by decide +kernel
theorem dX10_years_27 : decode cX10_years 27 = .ok (.bipush 9, 2) := by decide +kernel
theorem dX10_years_29 : decode cX10_years 29 = .ok (.invokestatic 71, 3) := by decide +kernel
theorem dX10_years_32 : decode cX10_years 32 = .ok (.ifCond .ne 6, 3) := by decide +kernel
theorem dX10_years_35 : decode cX10_years 35 = .ok (.bipush (-2), 2) := by decide +kernel
theorem dX10_years_37 : decode cX10_years 37 = .ok (.ireturn, 1) := by decide +kernel
theorem dX10_years_38 : decode cX10_years 38 = .ok (.aload 4, 2) := by decide +kernel
theorem dX10_years_40 : decode cX10_years 40 = .ok (.getfield 105, 3) := by decide +kernel
theorem dX10_years_43 : decode cX10_years 43 = .ok (.iload_n 2, 1) := by decide +kernel
theorem dX10_years_44 : decode cX10_years 44 = .ok (.iaload, 1) := by decide +kernel
theorem dX10_years_45 : decode cX10_years 45 = .ok (.istore 5, 2) := by decide +kernel
theorem dX10_years_47 : decode cX10_years 47 = .ok (.bipush (-9), 2) := by decide +kernel
theorem dX10_years_49 : decode cX10_years 49 = .ok (.istore 6, 2) := by decide +kernel
theorem dX10_years_51 : decode cX10_years 51 = .ok (.iconst 1, 1) := by decide +kernel
theorem dX10_years_52 : decode cX10_years 52 = .ok (.istore 7, 2) := by decide +kernel
theorem dX10_years_54 : decode cX10_years 54 = .ok (.iload 7, 2) := by decide +kernel
theorem dX10_years_56 : decode cX10_years 56 = .ok (.bipush 60, 2) := by decide +kernel
theorem dX10_years_58 : decode cX10_years 58 = .ok (.if_icmp .gt 57, 3) := by decide +kernel
theorem dX10_years_61 : decode cX10_years 61 = .ok (.iload 6, 2) := by decide +kernel
theorem dX10_years_63 : decode cX10_years 63 = .ok (.bipush (-9), 2) := by decide +kernel
theorem dX10_years_65 : decode cX10_years 65 = .ok (.if_icmp .ne 50, 3) := by decide +kernel
theorem dX10_years_68 : decode cX10_years 68 = .ok (.aload 4, 2) := by decide +kernel
theorem dX10_years_70 : decode cX10_years 70 = .ok (.getfield 105, 3) := by decide +kernel
theorem dX10_years_73 : decode cX10_years 73 = .ok (.iload_n 2, 1) := by decide +kernel
theorem dX10_years_74 : decode cX10_years 74 = .ok (.iload 5, 2) := by decide +kernel
theorem dX10_years_76 : decode cX10_years 76 = .ok (.iload_n 3, 1) := by decide +kernel
theorem dX10_years_77 : decode cX10_years 77 = .ok (.iload 7, 2) := by decide +kernel
theorem dX10_years_79 : decode cX10_years 79 = .ok (.imul, 1) := by decide +kernel
theorem dX10_years_80 : decode cX10_years 80 = .ok (.iadd, 1) := by decide +kernel
theorem dX10_years_81 : decode cX10_years 81 = .ok (.getstatic 106, 3) := by decide +kernel
theorem dX10_years_84 : decode cX10_years 84 = .ok (.iload_n 2, 1) := by decide +kernel
theorem dX10_years_85 : decode cX10_years 85 = .ok (.iaload, 1) := by decide +kernel
theorem dX10_years_86 : decode cX10_years 86 = .ok (.getstatic 109, 3) := by decide +kernel
theorem dX10_years_89 : decode cX10_years 89 = .ok (.iload_n 2, 1) := by decide +kernel
theorem dX10_years_90 : decode cX10_years 90 = .ok (.iaload, 1) := by decide +kernel
theorem dX10_years_91 : decode cX10_years 91 = .ok (.invokestatic 148, 3) := by decide +kernel
theorem dX10_years_94 : decode cX10_years 94 = .ok (.iastore, 1) := by decide +kernel
theorem dX10_years_95 : decode cX10_years 95 = .ok (.aload_n 0, 1) := by decide +kernel
theorem dX10_years_96 : decode cX10_years 96 = .ok (.aload 4, 2) := by decide +kernel
theorem dX10_years_98 : decode cX10_years 98 = .ok (.invokevirtual 126, 3) := by decide +kernel
theorem dX10_years_101 : decode cX10_years 101 = .ok (.iconst 2, 1) := by decide +kernel
theorem dX10_years_102 : decode cX10_years 102 = .ok (.if_icmp .eq 7, 3) := by decide +kernel
theorem dX10_years_105 : decode cX10_years 105 = .ok (.iload 7, 2) := by decide +kernel
theorem dX10_years_107 : decode cX10_years 107 = .ok (.istore 6, 2) := by decide +kernel
theorem dX10_years_109 : decode cX10_years 109 = .ok (.iinc 7 1, 3) := by decide +kernel
theorem dX10_years_112 : decode cX10_years 112 = .ok (.goto (-58), 3) := by decide +kernel
theorem dX10_years_115 : decode cX10_years 115 = .ok (.aload 4, 2) := by decide +kernel
theorem dX10_years_117 : decode cX10_years 117 = .ok (.getfield 105, 3) := by decide +kernel
theorem dX10_years_120 : decode cX10_years 120 = .ok (.iload_n 2, 1) := by decide +kernel
theorem dX10_years_121 : decode cX10_years 121 = .ok (.iload 5, 2) := by decide +kernel
theorem dX10_years_123 : decode cX10_years 123 = .ok (.iastore, 1) := by decide +kernel
theorem dX10_years_124 : decode cX10_years 124 = .ok (.iload 6, 2) := by decide +kernel
theorem dX10_years_126 : decode cX10_years 126 = .ok (.ireturn, 1) := by decide +kernel
set_option maxRecDepth 20000 in
theorem ggX10_far_X10_millOf : GoodIn wsX10_far wsX10_millOf := goodIn_r _ [6, 7, 8, 9, 10, 5, 11, 149, 150, 151, 152, 153, 154, 155, 156, 157, 158, 159] (by decide +kernel) (by decide +kernel)
set_option maxRecDepth 20000 in
theorem gX10_far_X10_millOf : GoodIn wsX10_far (wsV RX10 97 RX10 yX10_millOf wsX10_millOf) := goodIn_app (goodIn_of _ (by decide +kernel)) ggX10_far_X10_millOf
set_option maxRecDepth 20000 in
theorem ggX10_far_X10_canRun : GoodIn wsX10_far wsX10_canRun := goodIn_r _ [14, 9, 10, 5, 11] (by decide +kernel) (by decide +kernel)
set_option maxRecDepth 20000 in
theorem gX10_far_X10_canRun : GoodIn wsX10_far (va_wsS RX10 151 yX10_canRun wsX10_canRun) := goodIn_app (goodIn_of _ (by decide +kernel)) ggX10_far_X10_canRun
set_option maxRecDepth 20000 in
theorem ggX10_far_X10_within : GoodIn wsX10_far wsX10_within := goodIn_r _ [11] (by decide +kernel) (by decide +kernel)
set_option maxRecDepth 20000 in
theorem gX10_far_X10_within : GoodIn wsX10_far (va_wsS RX10 71 yX10_within wsX10_within) := goodIn_app (goodIn_of _ (by decide +kernel)) ggX10_far_X10_within
set_option maxRecDepth 20000 in
theorem ggX10_far_X5_begin : GoodIn wsX10_far wsX5_begin := goodIn_r _ [19, 20, 21, 22, 23, 24, 25, 26, 27, 28, 29, 30, 31, 32, 33, 34, 35, 36, 37, 38, 39, 40, 41, 42, 43, 160, 161, 162, 163, 164, 165, 166, 167, 168, 169, 170, 171, 172, 173, 174, 175, 176, 177, 178, 179, 180, 181] (by decide +kernel) (by decide +kernel)
set_option maxRecDepth 20000 in
theorem gX10_far_X5_begin : GoodIn wsX10_far (wsV RX10 154 RX5 yX5_begin wsX5_begin) := goodIn_app (goodIn_of _ (by decide +kernel)) ggX10_far_X5_begin
set_option maxRecDepth 20000 in
theorem ggX10_far_X5_runTillRound : GoodIn wsX10_far wsX5_runTillRound := goodIn_r _ [47, 48, 49, 50, 51, 52, 53, 54, 25, 55, 23, 24, 26, 56, 57, 58, 59, 60, 61, 62, 18, 63, 30, 64, 65, 66, 67, 68, 69, 70, 71, 72, 20, 21, 73, 74, 75, 76, 22, 28, 29, 10, 5, 11, 39, 40, 41, 34, 42, 36, 43, 77, 78, 79, 80, 37, 38, 81, 82, 83, 84, 85, 86, 87, 88, 89, 90, 91, 92, 93, 94, 95, 96, 97, 98, 99, 100, 101, 102, 103, 104, 105, 106, 107, 108, 109, 110, 111, 112, 113, 114, 115, 116, 117, 118, 119, 120, 121, 122, 123, 124, 125, 126, 127, 128, 129, 130, 131, 132, 133, 134, 135, 136, 27, 137, 138, 139, 140, 160, 161, 162, 163, 164, 165, 166, 167, 168, 169, 170, 171, 172, 173, 174, 175, 176, 177, 178, 179, 180, 181] (by decide +kernel) (by decide +kernel)
set_option maxRecDepth 20000 in
theorem gX10_far_X5_runTillRound : GoodIn wsX10_far (wsV RX10 158 RX5 yX5_runTillRound wsX5_runTillRound) := goodIn_app (goodIn_of _ (by decide +kernel)) ggX10_far_X5_runTillRound
set_option maxRecDepth 20000 in
theorem ggX10_far_X5_told : GoodIn wsX10_far wsX5_told := goodIn_r _ [144, 49, 52, 50, 51, 20, 21, 145, 146, 147, 18, 148, 160, 161, 162, 163, 164, 165, 166, 167, 168, 169, 170, 171, 172, 173, 174, 175] (by decide +kernel) (by decide +kernel)
set_option maxRecDepth 20000 in
theorem gX10_far_X5_told : GoodIn wsX10_far (wsV RX10 161 RX5 yX5_told wsX5_told) := goodIn_app (goodIn_of _ (by decide +kernel)) ggX10_far_X5_told
theorem dX10_far_0 : decode cX10_far 0 = .ok (.aload_n 0, 1) := by decide +kernel
theorem dX10_far_1 : decode cX10_far 1 = .ok (.iload_n 1, 1) := by decide +kernel
theorem dX10_far_2 : decode cX10_far 2 = .ok (.invokevirtual 97, 3) := by decide +kernel
theorem dX10_far_5 : decode cX10_far 5 = .ok (.astore 6, 2) := by decide +kernel
theorem dX10_far_7 : decode cX10_far 7 = .ok (.aload 6, 2) := by decide +kernel
theorem dX10_far_9 : decode cX10_far 9 = .ok (.ifnonnull 5, 3) := by decide +kernel
theorem dX10_far_12 : decode cX10_far 12 = .ok (.iconst (-1), 1) := by decide +kernel
theorem dX10_far_13 : decode cX10_far 13 = .ok (.ireturn, 1) := by decide +kernel
theorem dX10_far_14 : decode cX10_far 14 = .ok (.iload_n 2, 1) := by decide +kernel
theorem dX10_far_15 : decode cX10_far 15 = .ok (.iload_n 3, 1) := by decide +kernel
theorem dX10_far_16 : decode cX10_far 16 = .ok (.iload 4, 2) := by decide +kernel
theorem dX10_far_18 : decode cX10_far 18 = .ok (.invokestatic 151, 3) := by decide +kernel
theorem dX10_far_21 : decode cX10_far 21 = .ok (.ifCond .eq 13, 3) := by decide +kernel
theorem dX10_far_24 : decode cX10_far 24 = .ok (.iload 5, 2) := by decide +kernel
theorem dX10_far_26 : decode cX10_far 26 = .ok (.iconst 0, 1) := by decide +kernel
theorem dX10_far_27 : decode cX10_far 27 = .ok (.iconst 4, 1) := by decide +kernel
theorem dX10_far_28 : decode cX10_far 28 = .ok (.invokestatic 71, 3) := by decide +kernel
theorem dX10_far_31 : decode cX10_far 31 = .ok (.ifCond .ne 6, 3) := by decide +kernel
theorem dX10_far_34 : decode cX10_far 34 = .ok (.bipush (-2), 2) := by decide +kernel
theorem dX10_far_36 : decode cX10_far 36 = .ok (.ireturn, 1) := by decide +kernel
theorem dX10_far_37 : decode cX10_far 37 = .ok (.aload_n 0, 1) := by decide +kernel
theorem dX10_far_38 : decode cX10_far 38 = .ok (.getfield 44, 3) := by decide +kernel
theorem dX10_far_41 : decode cX10_far 41 = .ok (.aload 6, 2) := by decide +kernel
theorem dX10_far_43 : decode cX10_far 43 = .ok (.aconst_null, 1) := by decide +kernel
theorem dX10_far_44 : decode cX10_far 44 = .ok (.iload_n 2, 1) := by decide +kernel
theorem dX10_far_45 : decode cX10_far 45 = .ok (.iload_n 3, 1) := by decide +kernel
theorem dX10_far_46 : decode cX10_far 46 = .ok (.iload 4, 2) := by decide +kernel
theorem dX10_far_48 : decode cX10_far 48 = .ok (.invokevirtual 154, 3) := by decide +kernel
theorem dX10_far_51 : decode cX10_far 51 = .ok (.aload_n 0, 1) := by decide +kernel
theorem dX10_far_52 : decode cX10_far 52 = .ok (.getfield 44, 3) := by decide +kernel
theorem dX10_far_55 : decode cX10_far 55 = .ok (.invokevirtual 158, 3) := by decide +kernel
theorem dX10_far_58 : decode cX10_far 58 = .ok (.aload_n 0, 1) := by decide +kernel
theorem dX10_far_59 : decode cX10_far 59 = .ok (.getfield 44, 3) := by decide +kernel
theorem dX10_far_62 : decode cX10_far 62 = .ok (.iload 5, 2) := by decide +kernel
theorem dX10_far_64 : decode cX10_far 64 = .ok (.invokevirtual 161, 3) := by decide +kernel
theorem dX10_far_67 : decode cX10_far 67 = .ok (.ireturn, 1) := by decide +kernel
set_option maxRecDepth 20000 in
theorem ggX10_after_X10_millOf : GoodIn wsX10_after wsX10_millOf := goodIn_r _ [6, 7, 8, 9, 10, 5, 11, 109, 110, 111, 112, 113, 114, 115, 116, 117, 118, 119] (by decide +kernel) (by decide +kernel)
set_option maxRecDepth 20000 in
theorem gX10_after_X10_millOf : GoodIn wsX10_after (wsV RX10 97 RX10 yX10_millOf wsX10_millOf) := goodIn_app (goodIn_of _ (by decide +kernel)) ggX10_after_X10_millOf
set_option maxRecDepth 20000 in
theorem ggX10_after_X10_canRun : GoodIn wsX10_after wsX10_canRun := goodIn_r _ [14, 9, 10, 5, 11] (by decide +kernel) (by decide +kernel)
set_option maxRecDepth 20000 in
theorem gX10_after_X10_canRun : GoodIn wsX10_after (va_wsS RX10 151 yX10_canRun wsX10_canRun) := goodIn_app (goodIn_of _ (by decide +kernel)) ggX10_after_X10_canRun
set_option maxRecDepth 20000 in
theorem ggX10_after_X10_within : GoodIn wsX10_after wsX10_within := goodIn_r _ [11] (by decide +kernel) (by decide +kernel)
set_option maxRecDepth 20000 in
theorem gX10_after_X10_within : GoodIn wsX10_after (va_wsS RX10 71 yX10_within wsX10_within) := goodIn_app (goodIn_of _ (by decide +kernel)) ggX10_after_X10_within
set_option maxRecDepth 20000 in
theorem ggX10_after_X5_begin : GoodIn wsX10_after wsX5_begin := goodIn_r _ [19, 20, 21, 22, 23, 24, 25, 26, 27, 28, 29, 30, 31, 32, 33, 34, 35, 36, 37, 38, 39, 40, 41, 42, 43, 120, 121, 122, 123, 124, 125, 126, 127, 128, 129, 130, 131, 132, 133, 134, 135, 136, 137, 138, 139, 140, 141] (by decide +kernel) (by decide +kernel)
set_option maxRecDepth 20000 in
theorem gX10_after_X5_begin : GoodIn wsX10_after (wsV RX10 154 RX5 yX5_begin wsX5_begin) := goodIn_app (goodIn_of _ (by decide +kernel)) ggX10_after_X5_begin
set_option maxRecDepth 20000 in
theorem ggX10_after_X5_runTicks : GoodIn wsX10_after wsX5_runTicks := goodIn_r _ [47, 48, 49, 50, 18, 51, 20, 21, 22, 28, 30, 29, 10, 5, 11, 39, 40, 41, 34, 42, 36, 43, 52, 53, 54, 55, 56, 57, 58, 59, 37, 38, 60, 61, 62, 63, 64, 65, 66, 67, 68, 69, 70, 71, 72, 73, 74, 75, 76, 77, 78, 79, 80, 81, 24, 25, 26, 82, 83, 84, 85, 86, 87, 88, 89, 90, 91, 92, 93, 94, 95, 96, 97, 98, 99, 100, 101, 102, 103, 104, 105, 106, 107, 120, 121, 122, 123, 124, 125, 126, 127, 128, 129, 130, 131, 132, 133, 134, 135, 136, 137, 138, 139, 140, 141] (by decide +kernel) (by decide +kernel)
set_option maxRecDepth 20000 in
theorem gX10_after_X5_runTicks : GoodIn wsX10_after (wsV RX10 162 RX5 yX5_runTicks wsX5_runTicks) := goodIn_app (goodIn_of _ (by decide +kernel)) ggX10_after_X5_runTicks
set_option maxRecDepth 20000 in
theorem ggX10_after_X5_beatAt : GoodIn wsX10_after wsX5_beatAt := goodIn_r _ [55, 30, 120, 121, 122, 123, 124, 125, 126, 127, 128, 129, 130, 131, 132] (by decide +kernel) (by decide +kernel)
set_option maxRecDepth 20000 in
theorem gX10_after_X5_beatAt : GoodIn wsX10_after (wsV RX10 165 RX5 yX5_beatAt wsX5_beatAt) := goodIn_app (goodIn_of _ (by decide +kernel)) ggX10_after_X5_beatAt
theorem dX10_after_0 : decode cX10_after 0 = .ok (.aload_n 0, 1) := by decide +kernel
theorem dX10_after_1 : decode cX10_after 1 = .ok (.iload_n 1, 1) := by decide +kernel
theorem dX10_after_2 : decode cX10_after 2 = .ok (.invokevirtual 97, 3) := by decide +kernel
theorem dX10_after_5 : decode cX10_after 5 = .ok (.astore 7, 2) := by decide +kernel
theorem dX10_after_7 : decode cX10_after 7 = .ok (.aload 7, 2) := by decide +kernel
theorem dX10_after_9 : decode cX10_after 9 = .ok (.ifnonnull 5, 3) := by decide +kernel
theorem dX10_after_12 : decode cX10_after 12 = .ok (.iconst (-1), 1) := by decide +kernel
theorem dX10_after_13 : decode cX10_after 13 = .ok (.ireturn, 1) := by decide +kernel
theorem dX10_after_14 : decode cX10_after 14 = .ok (.iload_n 2, 1) := by decide +kernel
theorem dX10_after_15 : decode cX10_after 15 = .ok (.iload_n 3, 1) := by decide +kernel
theorem dX10_after_16 : decode cX10_after 16 = .ok (.iload 4, 2) := by decide +kernel
theorem dX10_after_18 : decode cX10_after 18 = .ok (.invokestatic 151, 3) := by decide +kernel
theorem dX10_after_21 : decode cX10_after 21 = .ok (.ifCond .eq 25, 3) := by decide +kernel
theorem dX10_after_24 : decode cX10_after 24 = .ok (.iload 5, 2) := by decide +kernel
theorem dX10_after_26 : decode cX10_after 26 = .ok (.iconst 0, 1) := by decide +kernel
theorem dX10_after_27 : decode cX10_after 27 = .ok (.sipush 300, 3) := by decide +kernel
theorem dX10_after_30 : decode cX10_after 30 = .ok (.invokestatic 71, 3) := by decide +kernel
theorem dX10_after_33 : decode cX10_after 33 = .ok (.ifCond .eq 13, 3) := by decide +kernel
theorem dX10_after_36 : decode cX10_after 36 = .ok (.iload 6, 2) := by decide +kernel
theorem dX10_after_38 : decode cX10_after 38 = .ok (.iconst 0, 1) := by decide +kernel
theorem dX10_after_39 : decode cX10_after 39 = .ok (.iconst 2, 1) := by decide +kernel
theorem dX10_after_40 : decode cX10_after 40 = .ok (.invokestatic 71, 3) := by decide +kernel
theorem dX10_after_43 : decode cX10_after 43 = .ok (.ifCond .ne 6, 3) := by decide +kernel
theorem dX10_after_46 : decode cX10_after 46 = .ok (.bipush (-2), 2) := by decide +kernel
theorem dX10_after_48 : decode cX10_after 48 = .ok (.ireturn, 1) := by decide +kernel
theorem dX10_after_49 : decode cX10_after 49 = .ok (.aload_n 0, 1) := by decide +kernel
theorem dX10_after_50 : decode cX10_after 50 = .ok (.getfield 44, 3) := by decide +kernel
theorem dX10_after_53 : decode cX10_after 53 = .ok (.aload 7, 2) := by decide +kernel
theorem dX10_after_55 : decode cX10_after 55 = .ok (.aconst_null, 1) := by decide +kernel
theorem dX10_after_56 : decode cX10_after 56 = .ok (.iload_n 2, 1) := by decide +kernel
theorem dX10_after_57 : decode cX10_after 57 = .ok (.iload_n 3, 1) := by decide +kernel
theorem dX10_after_58 : decode cX10_after 58 = .ok (.iload 4, 2) := by decide +kernel
theorem dX10_after_60 : decode cX10_after 60 = .ok (.invokevirtual 154, 3) := by decide +kernel
theorem dX10_after_63 : decode cX10_after 63 = .ok (.aload_n 0, 1) := by decide +kernel
theorem dX10_after_64 : decode cX10_after 64 = .ok (.getfield 44, 3) := by decide +kernel
theorem dX10_after_67 : decode cX10_after 67 = .ok (.iload 5, 2) := by decide +kernel
theorem dX10_after_69 : decode cX10_after 69 = .ok (.invokevirtual 162, 3) := by decide +kernel
theorem dX10_after_72 : decode cX10_after 72 = .ok (.iload 6, 2) := by decide +kernel
theorem dX10_after_74 : decode cX10_after 74 = .ok (.ifCond .ne 13, 3) := by decide +kernel
theorem dX10_after_77 : decode cX10_after 77 = .ok (.aload_n 0, 1) := by decide +kernel
theorem dX10_after_78 : decode cX10_after 78 = .ok (.getfield 44, 3) := by decide +kernel
theorem dX10_after_81 : decode cX10_after 81 = .ok (.iload 5, 2) := by decide +kernel
theorem dX10_after_83 : decode cX10_after 83 = .ok (.invokevirtual 165, 3) := by decide +kernel
theorem dX10_after_86 : decode cX10_after 86 = .ok (.ireturn, 1) := by decide +kernel
theorem dX10_after_87 : decode cX10_after 87 = .ok (.iload 6, 2) := by decide +kernel
theorem dX10_after_89 : decode cX10_after 89 = .ok (.iconst 1, 1) := by decide +kernel
theorem dX10_after_90 : decode cX10_after 90 = .ok (.if_icmp .ne 19, 3) := by decide +kernel
theorem dX10_after_93 : decode cX10_after 93 = .ok (.aload_n 0, 1) := by decide +kernel
theorem dX10_after_94 : decode cX10_after 94 = .ok (.getfield 44, 3) := by decide +kernel
theorem dX10_after_97 : decode cX10_after 97 = .ok (.getfield 168, 3) := by decide +kernel
theorem dX10_after_100 : decode cX10_after 100 = .ok (.getfield 172, 3) := by decide +kernel
theorem dX10_after_103 : decode cX10_after 103 = .ok (.iload 5, 2) := by decide +kernel
theorem dX10_after_105 : decode cX10_after 105 = .ok (.iaload, 1) := by decide +kernel
theorem dX10_after_106 : decode cX10_after 106 = .ok (.goto 16, 3) := by decide +kernel
theorem dX10_after_109 : decode cX10_after 109 = .ok (.aload_n 0, 1) := by decide +kernel
theorem dX10_after_110 : decode cX10_after 110 = .ok (.getfield 44, 3) := by decide +kernel
theorem dX10_after_113 : decode cX10_after 113 = .ok (.getfield 168, 3) := by decide +kernel
theorem dX10_after_116 : decode cX10_after 116 = .ok (.getfield 177, 3) := by decide +kernel
theorem dX10_after_119 : decode cX10_after 119 = .ok (.iload 5, 2) := by decide +kernel
theorem dX10_after_121 : decode cX10_after 121 = .ok (.iaload, 1) := by decide +kernel
theorem dX10_after_122 : decode cX10_after 122 = .ok (.ireturn, 1) := by decide +kernel
set_option maxRecDepth 20000 in
theorem ggX10_reach_X10_millOf : GoodIn wsX10_reach wsX10_millOf := goodIn_r _ [6, 7, 8, 9, 10, 5, 11, 142, 143, 144, 145, 146, 147, 148, 149, 150, 151, 152] (by decide +kernel) (by decide +kernel)
set_option maxRecDepth 20000 in
theorem gX10_reach_X10_millOf : GoodIn wsX10_reach (wsV RX10 97 RX10 yX10_millOf wsX10_millOf) := goodIn_app (goodIn_of _ (by decide +kernel)) ggX10_reach_X10_millOf
set_option maxRecDepth 20000 in
theorem ggX10_reach_X5_begin : GoodIn wsX10_reach wsX5_begin := goodIn_r _ [16, 17, 18, 19, 20, 21, 22, 23, 24, 25, 26, 27, 28, 29, 30, 31, 32, 33, 34, 35, 36, 37, 38, 39, 40, 153, 154, 155, 156, 157, 158, 159, 160, 161, 162, 163, 164, 165, 166, 167, 168, 169, 170, 171, 172, 173, 174] (by decide +kernel) (by decide +kernel)
set_option maxRecDepth 20000 in
theorem gX10_reach_X5_begin : GoodIn wsX10_reach (wsV RX10 154 RX5 yX5_begin wsX5_begin) := goodIn_app (goodIn_of _ (by decide +kernel)) ggX10_reach_X5_begin
set_option maxRecDepth 20000 in
theorem ggX10_reach_X5_runTillRound : GoodIn wsX10_reach wsX5_runTillRound := goodIn_r _ [44, 45, 46, 47, 48, 49, 50, 51, 22, 52, 20, 21, 23, 53, 54, 55, 56, 57, 58, 59, 15, 60, 27, 61, 62, 63, 64, 65, 66, 67, 68, 69, 17, 18, 70, 71, 72, 73, 19, 25, 26, 10, 5, 11, 36, 37, 38, 31, 39, 33, 40, 74, 75, 76, 77, 34, 35, 78, 79, 80, 81, 82, 83, 84, 85, 86, 87, 88, 89, 90, 91, 92, 93, 94, 95, 96, 97, 98, 99, 100, 101, 102, 103, 104, 105, 106, 107, 108, 109, 110, 111, 112, 113, 114, 115, 116, 117, 118, 119, 120, 121, 122, 123, 124, 125, 126, 127, 128, 129, 130, 131, 132, 133, 24, 134, 135, 136, 137, 153, 154, 155, 156, 157, 158, 159, 160, 161, 162, 163, 164, 165, 166, 167, 168, 169, 170, 171, 172, 173, 174] (by decide +kernel) (by decide +kernel)
set_option maxRecDepth 20000 in
theorem gX10_reach_X5_runTillRound : GoodIn wsX10_reach (wsV RX10 158 RX5 yX5_runTillRound wsX5_runTillRound) := goodIn_app (goodIn_of _ (by decide +kernel)) ggX10_reach_X5_runTillRound
set_option maxRecDepth 20000 in
theorem ggX10_reach_X5_ending : GoodIn wsX10_reach wsX5_ending := goodIn_r _ [141, 46, 153, 154, 155, 156, 157, 158, 159, 160, 161, 162, 163, 164, 165] (by decide +kernel) (by decide +kernel)
set_option maxRecDepth 20000 in
theorem gX10_reach_X5_ending : GoodIn wsX10_reach (wsV RX10 180 RX5 yX5_ending wsX5_ending) := goodIn_app (goodIn_of _ (by decide +kernel)) ggX10_reach_X5_ending
theorem dX10_reach_0 : decode cX10_reach 0 = .ok (.aload_n 0, 1) := by decide +kernel
theorem dX10_reach_1 : decode cX10_reach 1 = .ok (.iload_n 1, 1) := by decide +kernel
theorem dX10_reach_2 : decode cX10_reach 2 = .ok (.invokevirtual 97, 3) := by decide +kernel
theorem dX10_reach_5 : decode cX10_reach 5 = .ok (.astore_n 2, 1) := by decide +kernel
theorem dX10_reach_6 : decode cX10_reach 6 = .ok (.aload_n 2, 1) := by decide +kernel
theorem dX10_reach_7 : decode cX10_reach 7 = .ok (.ifnonnull 5, 3) := by decide +kernel
theorem dX10_reach_10 : decode cX10_reach 10 = .ok (.iconst (-1), 1) := by decide +kernel
theorem dX10_reach_11 : decode cX10_reach 11 = .ok (.ireturn, 1) := by decide +kernel
theorem dX10_reach_12 : decode cX10_reach 12 = .ok (.bipush (-9), 2) := by decide +kernel
theorem dX10_reach_14 : decode cX10_reach 14 = .ok (.istore_n 3, 1) := by decide +kernel
theorem dX10_reach_15 : decode cX10_reach 15 = .ok (.iconst 0, 1) := by decide +kernel
theorem dX10_reach_16 : decode cX10_reach 16 = .ok (.istore 4, 2) := by decide +kernel
theorem dX10_reach_18 : decode cX10_reach 18 = .ok (.iload 4, 2) := by decide +kernel
theorem dX10_reach_20 : decode cX10_reach 20 = .ok (.bipush 99, 2) := by decide +kernel
theorem dX10_reach_22 : decode cX10_reach 22 = .ok (.if_icmp .gt 50, 3) := by decide +kernel
theorem dX10_reach_25 : decode cX10_reach 25 = .ok (.aload_n 0, 1) := by decide +kernel
theorem dX10_reach_26 : decode cX10_reach 26 = .ok (.getfield 44, 3) := by decide +kernel
theorem dX10_reach_29 : decode cX10_reach 29 = .ok (.aload_n 2, 1) := by decide +kernel
theorem dX10_reach_30 : decode cX10_reach 30 = .ok (.aconst_null, 1) := by decide +kernel
theorem dX10_reach_31 : decode cX10_reach 31 = .ok (.bipush 100, 2) := by decide +kernel
theorem dX10_reach_33 : decode cX10_reach 33 = .ok (.iload 4, 2) := by decide +kernel
theorem dX10_reach_35 : decode cX10_reach 35 = .ok (.iadd, 1) := by decide +kernel
theorem dX10_reach_36 : decode cX10_reach 36 = .ok (.bipush 50, 2) := by decide +kernel
theorem dX10_reach_38 : decode cX10_reach 38 = .ok (.bipush 50, 2) := by decide +kernel
theorem dX10_reach_40 : decode cX10_reach 40 = .ok (.invokevirtual 154, 3) := by decide +kernel
theorem dX10_reach_43 : decode cX10_reach 43 = .ok (.aload_n 0, 1) := by decide +kernel
theorem dX10_reach_44 : decode cX10_reach 44 = .ok (.getfield 44, 3) := by decide +kernel
theorem dX10_reach_47 : decode cX10_reach 47 = .ok (.invokevirtual 158, 3) := by decide +kernel
theorem dX10_reach_50 : decode cX10_reach 50 = .ok (.aload_n 0, 1) := by decide +kernel
theorem dX10_reach_51 : decode cX10_reach 51 = .ok (.getfield 44, 3) := by decide +kernel
theorem dX10_reach_54 : decode cX10_reach 54 = .ok (.invokevirtual 180, 3) := by decide +kernel
theorem dX10_reach_57 : decode cX10_reach 57 = .ok (.ifCond .eq 6, 3) := by decide +kernel
theorem dX10_reach_60 : decode cX10_reach 60 = .ok (.goto 12, 3) := by decide +kernel
theorem dX10_reach_63 : decode cX10_reach 63 = .ok (.iload 4, 2) := by decide +kernel
theorem dX10_reach_65 : decode cX10_reach 65 = .ok (.istore_n 3, 1) := by decide +kernel
theorem dX10_reach_66 : decode cX10_reach 66 = .ok (.iinc 4 1, 3) := by decide +kernel
theorem dX10_reach_69 : decode cX10_reach 69 = .ok (.goto (-51), 3) := by decide +kernel
theorem dX10_reach_72 : decode cX10_reach 72 = .ok (.iload_n 3, 1) := by decide +kernel
theorem dX10_reach_73 : decode cX10_reach 73 = .ok (.ireturn, 1) := by decide +kernel
set_option maxRecDepth 20000 in
theorem ggX10_two_X10_millOf : GoodIn wsX10_two wsX10_millOf := goodIn_r _ [6, 7, 8, 9, 10, 5, 11, 146, 147, 148, 149, 150, 151, 152, 153, 154, 155, 156] (by decide +kernel) (by decide +kernel)
set_option maxRecDepth 20000 in
theorem gX10_two_X10_millOf : GoodIn wsX10_two (wsV RX10 97 RX10 yX10_millOf wsX10_millOf) := goodIn_app (goodIn_of _ (by decide +kernel)) ggX10_two_X10_millOf
set_option maxRecDepth 20000 in
theorem ggX10_two_X10_within : GoodIn wsX10_two wsX10_within := goodIn_r _ [11] (by decide +kernel) (by decide +kernel)
set_option maxRecDepth 20000 in
theorem gX10_two_X10_within : GoodIn wsX10_two (va_wsS RX10 71 yX10_within wsX10_within) := goodIn_app (goodIn_of _ (by decide +kernel)) ggX10_two_X10_within
set_option maxRecDepth 20000 in
theorem ggX10_two_X5_begin : GoodIn wsX10_two wsX5_begin := goodIn_r _ [16, 17, 18, 19, 20, 21, 22, 23, 24, 25, 26, 27, 28, 29, 30, 31, 32, 33, 34, 35, 36, 37, 38, 39, 40, 157, 158, 159, 160, 161, 162, 163, 164, 165, 166, 167, 168, 169, 170, 171, 172, 173, 174, 175, 176, 177, 178] (by decide +kernel) (by decide +kernel)
set_option maxRecDepth 20000 in
theorem gX10_two_X5_begin : GoodIn wsX10_two (wsV RX10 154 RX5 yX5_begin wsX5_begin) := goodIn_app (goodIn_of _ (by decide +kernel)) ggX10_two_X5_begin
set_option maxRecDepth 20000 in
theorem ggX10_two_X5_runTillRound : GoodIn wsX10_two wsX5_runTillRound := goodIn_r _ [44, 45, 46, 47, 48, 49, 50, 51, 22, 52, 20, 21, 23, 53, 54, 55, 56, 57, 58, 59, 15, 60, 27, 61, 62, 63, 64, 65, 66, 67, 68, 69, 17, 18, 70, 71, 72, 73, 19, 25, 26, 10, 5, 11, 36, 37, 38, 31, 39, 33, 40, 74, 75, 76, 77, 34, 35, 78, 79, 80, 81, 82, 83, 84, 85, 86, 87, 88, 89, 90, 91, 92, 93, 94, 95, 96, 97, 98, 99, 100, 101, 102, 103, 104, 105, 106, 107, 108, 109, 110, 111, 112, 113, 114, 115, 116, 117, 118, 119, 120, 121, 122, 123, 124, 125, 126, 127, 128, 129, 130, 131, 132, 133, 24, 134, 135, 136, 137, 157, 158, 159, 160, 161, 162, 163, 164, 165, 166, 167, 168, 169, 170, 171, 172, 173, 174, 175, 176, 177, 178] (by decide +kernel) (by decide +kernel)
set_option maxRecDepth 20000 in
theorem gX10_two_X5_runTillRound : GoodIn wsX10_two (wsV RX10 158 RX5 yX5_runTillRound wsX5_runTillRound) := goodIn_app (goodIn_of _ (by decide +kernel)) ggX10_two_X5_runTillRound
set_option maxRecDepth 20000 in
theorem ggX10_two_X5_told : GoodIn wsX10_two wsX5_told := goodIn_r _ [141, 46, 49, 47, 48, 17, 18, 142, 143, 144, 15, 145, 157, 158, 159, 160, 161, 162, 163, 164, 165, 166, 167, 168, 169, 170, 171, 172] (by decide +kernel) (by decide +kernel)
set_option maxRecDepth 20000 in
theorem gX10_two_X5_told : GoodIn wsX10_two (wsV RX10 161 RX5 yX5_told wsX5_told) := goodIn_app (goodIn_of _ (by decide +kernel)) ggX10_two_X5_told
theorem dX10_two_0 : decode cX10_two 0 = .ok (.aload_n 0, 1) := by decide +kernel
theorem dX10_two_1 : decode cX10_two 1 = .ok (.iload_n 1, 1) := by decide +kernel
theorem dX10_two_2 : decode cX10_two 2 = .ok (.invokevirtual 97, 3) := by decide +kernel
theorem dX10_two_5 : decode cX10_two 5 = .ok (.astore 6, 2) := by decide +kernel
theorem dX10_two_7 : decode cX10_two 7 = .ok (.aload_n 0, 1) := by decide +kernel
theorem dX10_two_8 : decode cX10_two 8 = .ok (.iload_n 2, 1) := by decide +kernel
theorem dX10_two_9 : decode cX10_two 9 = .ok (.invokevirtual 97, 3) := by decide +kernel
theorem dX10_two_12 : decode cX10_two 12 = .ok (.astore 7, 2) := by decide +kernel
theorem dX10_two_14 : decode cX10_two 14 = .ok (.aload 6, 2) := by decide +kernel
theorem dX10_two_16 : decode cX10_two 16 = .ok (.ifnull 8, 3) := by decide +kernel
theorem dX10_two_19 : decode cX10_two 19 = .ok (.aload 7, 2) := by decide +kernel
theorem dX10_two_21 : decode cX10_two 21 = .ok (.ifnonnull 5, 3) := by decide +kernel
theorem dX10_two_24 : decode cX10_two 24 = .ok (.iconst (-1), 1) := by decide +kernel
theorem dX10_two_25 : decode cX10_two 25 = .ok (.ireturn, 1) := by decide +kernel
theorem dX10_two_26 : decode cX10_two 26 = .ok (.iload_n 3, 1) := by decide +kernel
theorem dX10_two_27 : decode cX10_two 27 = .ok (.iconst 0, 1) := by decide +kernel
theorem dX10_two_28 : decode cX10_two 28 = .ok (.sipush 999, 3) := by decide +kernel
theorem dX10_two_31 : decode cX10_two 31 = .ok (.invokestatic 71, 3) := by decide +kernel
theorem dX10_two_34 : decode cX10_two 34 = .ok (.ifCond .eq 31, 3) := by decide +kernel
theorem dX10_two_37 : decode cX10_two 37 = .ok (.iload 4, 2) := by decide +kernel
theorem dX10_two_39 : decode cX10_two 39 = .ok (.iconst 0, 1) := by decide +kernel
theorem dX10_two_40 : decode cX10_two 40 = .ok (.sipush 200, 3) := by decide +kernel
theorem dX10_two_43 : decode cX10_two 43 = .ok (.invokestatic 71, 3) := by decide +kernel
theorem dX10_two_46 : decode cX10_two 46 = .ok (.ifCond .eq 19, 3) := by decide +kernel
theorem dX10_two_49 : decode cX10_two 49 = .ok (.iload 5, 2) := by decide +kernel
theorem dX10_two_51 : decode cX10_two 51 = .ok (.iconst 0, 1) := by decide +kernel
theorem dX10_two_52 : decode cX10_two 52 = .ok (.bipush 6, 2) := by decide +kernel
theorem dX10_two_54 : decode cX10_two 54 = .ok (.invokestatic 71, 3) := by decide +kernel
theorem dX10_two_57 : decode cX10_two 57 = .ok (.ifCond .eq 8, 3) := by decide +kernel
theorem dX10_two_60 : decode cX10_two 60 = .ok (.iload_n 1, 1) := by decide +kernel
theorem dX10_two_61 : decode cX10_two 61 = .ok (.iload_n 2, 1) := by decide +kernel
theorem dX10_two_62 : decode cX10_two 62 = .ok (.if_icmp .ne 6, 3) := by decide +kernel
theorem dX10_two_65 : decode cX10_two 65 = .ok (.bipush (-2), 2) := by decide +kernel
theorem dX10_two_67 : decode cX10_two 67 = .ok (.ireturn, 1) := by decide +kernel
theorem dX10_two_68 : decode cX10_two 68 = .ok (.aload_n 0, 1) := by decide +kernel
theorem dX10_two_69 : decode cX10_two 69 = .ok (.getfield 44, 3) := by decide +kernel
theorem dX10_two_72 : decode cX10_two 72 = .ok (.aload 6, 2) := by decide +kernel
theorem dX10_two_74 : decode cX10_two 74 = .ok (.aload 7, 2) := by decide +kernel
theorem dX10_two_76 : decode cX10_two 76 = .ok (.iload_n 3, 1) := by decide +kernel
theorem dX10_two_77 : decode cX10_two 77 = .ok (.bipush 50, 2) := by decide +kernel
theorem dX10_two_79 : decode cX10_two 79 = .ok (.iload 4, 2) := by decide +kernel
theorem dX10_two_81 : decode cX10_two 81 = .ok (.invokevirtual 154, 3) := by decide +kernel
theorem dX10_two_84 : decode cX10_two 84 = .ok (.aload_n 0, 1) := by decide +kernel
theorem dX10_two_85 : decode cX10_two 85 = .ok (.getfield 44, 3) := by decide +kernel
theorem dX10_two_88 : decode cX10_two 88 = .ok (.invokevirtual 158, 3) := by decide +kernel
theorem dX10_two_91 : decode cX10_two 91 = .ok (.aload_n 0, 1) := by decide +kernel
theorem dX10_two_92 : decode cX10_two 92 = .ok (.getfield 44, 3) := by decide +kernel
theorem dX10_two_95 : decode cX10_two 95 = .ok (.iload 5, 2) := by decide +kernel
theorem dX10_two_97 : decode cX10_two 97 = .ok (.invokevirtual 161, 3) := by decide +kernel
theorem dX10_two_100 : decode cX10_two 100 = .ok (.ireturn, 1) := by decide +kernel
set_option maxRecDepth 20000 in
theorem ggX10_share_X10_millOf : GoodIn wsX10_share wsX10_millOf := goodIn_r _ [7, 8, 9, 10, 11, 6, 12, 39, 40, 41, 42, 43, 44, 45, 46, 47, 48, 49] (by decide +kernel) (by decide +kernel)
set_option maxRecDepth 20000 in
theorem gX10_share_X10_millOf : GoodIn wsX10_share (wsV RX10 97 RX10 yX10_millOf wsX10_millOf) := goodIn_app (goodIn_of _ (by decide +kernel)) ggX10_share_X10_millOf
set_option maxRecDepth 20000 in
theorem ggX10_share_X10_within : GoodIn wsX10_share wsX10_within := goodIn_r _ [12] (by decide +kernel) (by decide +kernel)
set_option maxRecDepth 20000 in
theorem gX10_share_X10_within : GoodIn wsX10_share (va_wsS RX10 71 yX10_within wsX10_within) := goodIn_app (goodIn_of _ (by decide +kernel)) ggX10_share_X10_within
set_option maxRecDepth 20000 in
theorem ggX10_share_X4_hasRestOfItsOwn : GoodIn wsX10_share wsX4_hasRestOfItsOwn := goodIn_r _ [18, 19, 33, 34, 35, 36, 37, 38] (by decide +kernel) (by decide +kernel)
set_option maxRecDepth 20000 in
theorem gX10_share_X4_hasRestOfItsOwn_u183X3 : GoodIn wsX10_share (va_wsU RX10 183 RX3 "BallMinder$Plain" ⟨"BallMinder$Plain", "hasRestOfItsOwn", "()Z"⟩ yX4_hasRestOfItsOwn wsX4_hasRestOfItsOwn) := goodIn_app (goodIn_of _ (by decide +kernel)) ggX10_share_X4_hasRestOfItsOwn
set_option maxRecDepth 20000 in
theorem gX10_share_X4_hasRestOfItsOwn : GoodIn wsX10_share (wsV RX10 183 RX4 yX4_hasRestOfItsOwn wsX4_hasRestOfItsOwn) := goodIn_app (goodIn_of _ (by decide +kernel)) ggX10_share_X4_hasRestOfItsOwn
set_option maxRecDepth 20000 in
theorem gX10_share_X4_hasRestOfItsOwn_u183X7 : GoodIn wsX10_share (va_wsU RX10 183 RX7 "BallMinder$Plain" ⟨"BallMinder$Plain", "hasRestOfItsOwn", "()Z"⟩ yX4_hasRestOfItsOwn wsX4_hasRestOfItsOwn) := goodIn_app (goodIn_of _ (by decide +kernel)) ggX10_share_X4_hasRestOfItsOwn
set_option maxRecDepth 20000 in
theorem ggX10_share_X10_inLeastTerms : GoodIn wsX10_share wsX10_inLeastTerms := goodIn_r _ [25, 26, 27, 28, 29, 1, 30, 31, 6, 32] (by decide +kernel) (by decide +kernel)
set_option maxRecDepth 20000 in
theorem gX10_share_X10_inLeastTerms : GoodIn wsX10_share (va_wsS RX10 144 yX10_inLeastTerms wsX10_inLeastTerms) := goodIn_app (goodIn_of _ (by decide +kernel)) ggX10_share_X10_inLeastTerms
theorem dX10_share_0 : decode cX10_share 0 = .ok (.aload_n 0, 1) := by decide +kernel
theorem dX10_share_1 : decode cX10_share 1 = .ok (.iload_n 1, 1) := by decide +kernel
theorem dX10_share_2 : decode cX10_share 2 = .ok (.invokevirtual 97, 3) := by decide +kernel
theorem dX10_share_5 : decode cX10_share 5 = .ok (.astore 4, 2) := by decide +kernel
theorem dX10_share_7 : decode cX10_share 7 = .ok (.aload_n 0, 1) := by decide +kernel
theorem dX10_share_8 : decode cX10_share 8 = .ok (.iload_n 2, 1) := by decide +kernel
theorem dX10_share_9 : decode cX10_share 9 = .ok (.invokevirtual 97, 3) := by decide +kernel
theorem dX10_share_12 : decode cX10_share 12 = .ok (.astore 5, 2) := by decide +kernel
theorem dX10_share_14 : decode cX10_share 14 = .ok (.aload 4, 2) := by decide +kernel
theorem dX10_share_16 : decode cX10_share 16 = .ok (.ifnull 22, 3) := by decide +kernel
theorem dX10_share_19 : decode cX10_share 19 = .ok (.aload 5, 2) := by decide +kernel
theorem dX10_share_21 : decode cX10_share 21 = .ok (.ifnull 17, 3) := by decide +kernel
theorem dX10_share_24 : decode cX10_share 24 = .ok (.iload_n 1, 1) := by decide +kernel
theorem dX10_share_25 : decode cX10_share 25 = .ok (.iload_n 2, 1) := by decide +kernel
theorem dX10_share_26 : decode cX10_share 26 = .ok (.if_icmp .eq 12, 3) := by decide +kernel
theorem dX10_share_29 : decode cX10_share 29 = .ok (.iload_n 3, 1) := by decide +kernel
theorem dX10_share_30 : decode cX10_share 30 = .ok (.iconst 0, 1) := by decide +kernel
theorem dX10_share_31 : decode cX10_share 31 = .ok (.iconst 1, 1) := by decide +kernel
theorem dX10_share_32 : decode cX10_share 32 = .ok (.invokestatic 71, 3) := by decide +kernel
theorem dX10_share_35 : decode cX10_share 35 = .ok (.ifCond .ne 7, 3) := by decide +kernel
theorem dX10_share_38 : decode cX10_share 38 = .ok (.ldc2_w 112, 3) := by decide +kernel
theorem dX10_share_41 : decode cX10_share 41 = .ok (.lreturn, 1) := by decide +kernel
theorem dX10_share_42 : decode cX10_share 42 = .ok (.aload 4, 2) := by decide +kernel
theorem dX10_share_44 : decode cX10_share 44 = .ok (.invokevirtual 183, 3) := by decide +kernel
theorem dX10_share_47 : decode cX10_share 47 = .ok (.ifCond .eq 11, 3) := by decide +kernel
theorem dX10_share_50 : decode cX10_share 50 = .ok (.aload 5, 2) := by decide +kernel
theorem dX10_share_52 : decode cX10_share 52 = .ok (.invokevirtual 183, 3) := by decide +kernel
theorem dX10_share_55 : decode cX10_share 55 = .ok (.ifCond .ne 7, 3) := by decide +kernel
theorem dX10_share_58 : decode cX10_share 58 = .ok (.ldc2_w 112, 3) := by decide +kernel
theorem dX10_share_61 : decode cX10_share 61 = .ok (.lreturn, 1) := by decide +kernel
theorem dX10_share_62 : decode cX10_share 62 = .ok (.aload 4, 2) := by decide +kernel
theorem dX10_share_64 : decode cX10_share 64 = .ok (.getfield 105, 3) := by decide +kernel
theorem dX10_share_67 : decode cX10_share 67 = .ok (.iconst 5, 1) := by decide +kernel
theorem dX10_share_68 : decode cX10_share 68 = .ok (.iaload, 1) := by decide +kernel
theorem dX10_share_69 : decode cX10_share 69 = .ok (.i2l, 1) := by decide +kernel
theorem dX10_share_70 : decode cX10_share 70 = .ok (.aload 5, 2) := by decide +kernel
theorem dX10_share_72 : decode cX10_share 72 = .ok (.getfield 105, 3) := by decide +kernel
theorem dX10_share_75 : decode cX10_share 75 = .ok (.iconst 4, 1) := by decide +kernel
theorem dX10_share_76 : decode cX10_share 76 = .ok (.iaload, 1) := by decide +kernel
theorem dX10_share_77 : decode cX10_share 77 = .ok (.i2l, 1) := by decide +kernel
theorem dX10_share_78 : decode cX10_share 78 = .ok (.lmul, 1) := by decide +kernel
theorem dX10_share_79 : decode cX10_share 79 = .ok (.lstore 6, 2) := by decide +kernel
theorem dX10_share_81 : decode cX10_share 81 = .ok (.aload 5, 2) := by decide +kernel
theorem dX10_share_83 : decode cX10_share 83 = .ok (.getfield 105, 3) := by decide +kernel
theorem dX10_share_86 : decode cX10_share 86 = .ok (.iconst 5, 1) := by decide +kernel
theorem dX10_share_87 : decode cX10_share 87 = .ok (.iaload, 1) := by decide +kernel
theorem dX10_share_88 : decode cX10_share 88 = .ok (.i2l, 1) := by decide +kernel
theorem dX10_share_89 : decode cX10_share 89 = .ok (.aload 4, 2) := by decide +kernel
theorem dX10_share_91 : decode cX10_share 91 = .ok (.getfield 105, 3) := by decide +kernel
theorem dX10_share_94 : decode cX10_share 94 = .ok (.iconst 4, 1) := by decide +kernel
theorem dX10_share_95 : decode cX10_share 95 = .ok (.iaload, 1) := by decide +kernel
theorem dX10_share_96 : decode cX10_share 96 = .ok (.i2l, 1) := by decide +kernel
theorem dX10_share_97 : decode cX10_share 97 = .ok (.lmul, 1) := by decide +kernel
theorem dX10_share_98 : decode cX10_share 98 = .ok (.lstore 8, 2) := by decide +kernel
theorem dX10_share_100 : decode cX10_share 100 = .ok (.lload 6, 2) := by decide +kernel
theorem dX10_share_102 : decode cX10_share 102 = .ok (.lload 6, 2) := by decide +kernel
theorem dX10_share_104 : decode cX10_share 104 = .ok (.lload 8, 2) := by decide +kernel
theorem dX10_share_106 : decode cX10_share 106 = .ok (.ladd, 1) := by decide +kernel
theorem dX10_share_107 : decode cX10_share 107 = .ok (.iload_n 3, 1) := by decide +kernel
theorem dX10_share_108 : decode cX10_share 108 = .ok (.invokestatic 144, 3) := by decide +kernel
theorem dX10_share_111 : decode cX10_share 111 = .ok (.lreturn, 1) := by decide +kernel
set_option maxRecDepth 20000 in
theorem ggX10_best_X10_within : GoodIn wsX10_best wsX10_within := goodIn_r _ [7] (by decide +kernel) (by decide +kernel)
set_option maxRecDepth 20000 in
theorem gX10_best_X10_within : GoodIn wsX10_best (va_wsS RX10 71 yX10_within wsX10_within) := goodIn_app (goodIn_of _ (by decide +kernel)) ggX10_best_X10_within
set_option maxRecDepth 20000 in
theorem ggX10_best_X5_begin : GoodIn wsX10_best wsX5_begin := goodIn_r _ [12, 13, 14, 15, 16, 17, 18, 19, 20, 21, 22, 23, 24, 25, 26, 27, 28, 29, 30, 31, 32, 33, 34, 35, 36, 145, 146, 147, 148, 149, 150, 151, 152, 153, 154, 155, 156, 157, 158, 159, 160, 161, 162, 163, 164, 165, 166] (by decide +kernel) (by decide +kernel)
set_option maxRecDepth 20000 in
theorem gX10_best_X5_begin : GoodIn wsX10_best (wsV RX10 154 RX5 yX5_begin wsX5_begin) := goodIn_app (goodIn_of _ (by decide +kernel)) ggX10_best_X5_begin
set_option maxRecDepth 20000 in
theorem ggX10_best_X5_runTillRound : GoodIn wsX10_best wsX5_runTillRound := goodIn_r _ [40, 41, 42, 43, 44, 45, 46, 47, 18, 48, 16, 17, 19, 49, 50, 51, 52, 53, 54, 55, 11, 56, 23, 57, 58, 59, 60, 61, 62, 63, 64, 65, 13, 14, 66, 67, 68, 69, 15, 21, 22, 5, 6, 7, 32, 33, 34, 27, 35, 29, 36, 70, 71, 72, 73, 30, 31, 74, 75, 76, 77, 78, 79, 80, 81, 82, 83, 84, 85, 86, 87, 88, 89, 90, 91, 92, 93, 94, 95, 96, 97, 98, 99, 100, 101, 102, 103, 104, 105, 106, 107, 108, 109, 110, 111, 112, 113, 114, 115, 116, 117, 118, 119, 120, 121, 122, 123, 124, 125, 126, 127, 128, 129, 20, 130, 131, 132, 133, 145, 146, 147, 148, 149, 150, 151, 152, 153, 154, 155, 156, 157, 158, 159, 160, 161, 162, 163, 164, 165, 166] (by decide +kernel) (by decide +kernel)
set_option maxRecDepth 20000 in
theorem gX10_best_X5_runTillRound : GoodIn wsX10_best (wsV RX10 158 RX5 yX5_runTillRound wsX5_runTillRound) := goodIn_app (goodIn_of _ (by decide +kernel)) ggX10_best_X5_runTillRound
theorem dX10_best_0 : decode cX10_best 0 = .ok (.iload_n 1, 1) := by decide +kernel
theorem dX10_best_1 : decode cX10_best 1 = .ok (.aload_n 0, 1) := by decide +kernel
theorem dX10_best_2 : decode cX10_best 2 = .ok (.getfield 87, 3) := by decide +kernel
theorem dX10_best_5 : decode cX10_best 5 = .ok (.iushr, 1) := by decide +kernel
theorem dX10_best_6 : decode cX10_best 6 = .ok (.ifCond .ne 13, 3) := by decide +kernel
theorem dX10_best_9 : decode cX10_best 9 = .ok (.iload_n 2, 1) := by decide +kernel
theorem dX10_best_10 : decode cX10_best 10 = .ok (.iconst 0, 1) := by decide +kernel
theorem dX10_best_11 : decode cX10_best 11 = .ok (.bipush 100, 2) := by decide +kernel
theorem dX10_best_13 : decode cX10_best 13 = .ok (.invokestatic 71, 3) := by decide +kernel
theorem dX10_best_16 : decode cX10_best 16 = .ok (.ifCond .ne 6, 3) := by decide +kernel
theorem dX10_best_19 : decode cX10_best 19 = .ok (.bipush (-2), 2) := by decide +kernel
theorem dX10_best_21 : decode cX10_best 21 = .ok (.ireturn, 1) := by decide +kernel
theorem dX10_best_22 : decode cX10_best 22 = .ok (.bipush (-9), 2) := by decide +kernel
theorem dX10_best_24 : decode cX10_best 24 = .ok (.istore_n 3, 1) := by decide +kernel
theorem dX10_best_25 : decode cX10_best 25 = .ok (.iconst 0, 1) := by decide +kernel
theorem dX10_best_26 : decode cX10_best 26 = .ok (.istore 4, 2) := by decide +kernel
theorem dX10_best_28 : decode cX10_best 28 = .ok (.iconst 0, 1) := by decide +kernel
theorem dX10_best_29 : decode cX10_best 29 = .ok (.istore 5, 2) := by decide +kernel
theorem dX10_best_31 : decode cX10_best 31 = .ok (.iload 5, 2) := by decide +kernel
theorem dX10_best_33 : decode cX10_best 33 = .ok (.aload_n 0, 1) := by decide +kernel
theorem dX10_best_34 : decode cX10_best 34 = .ok (.getfield 87, 3) := by decide +kernel
theorem dX10_best_37 : decode cX10_best 37 = .ok (.if_icmp .ge 78, 3) := by decide +kernel
theorem dX10_best_40 : decode cX10_best 40 = .ok (.iload_n 1, 1) := by decide +kernel
theorem dX10_best_41 : decode cX10_best 41 = .ok (.iload 5, 2) := by decide +kernel
theorem dX10_best_43 : decode cX10_best 43 = .ok (.iushr, 1) := by decide +kernel
theorem dX10_best_44 : decode cX10_best 44 = .ok (.iconst 1, 1) := by decide +kernel
theorem dX10_best_45 : decode cX10_best 45 = .ok (.iand, 1) := by decide +kernel
theorem dX10_best_46 : decode cX10_best 46 = .ok (.ifCond .ne 6, 3) := by decide +kernel
theorem dX10_best_49 : decode cX10_best 49 = .ok (.goto 60, 3) := by decide +kernel
theorem dX10_best_52 : decode cX10_best 52 = .ok (.aload_n 0, 1) := by decide +kernel
theorem dX10_best_53 : decode cX10_best 53 = .ok (.getfield 44, 3) := by decide +kernel
theorem dX10_best_56 : decode cX10_best 56 = .ok (.aload_n 0, 1) := by decide +kernel
theorem dX10_best_57 : decode cX10_best 57 = .ok (.getfield 13, 3) := by decide +kernel
theorem dX10_best_60 : decode cX10_best 60 = .ok (.iload 5, 2) := by decide +kernel
theorem dX10_best_62 : decode cX10_best 62 = .ok (.aaload, 1) := by decide +kernel
theorem dX10_best_63 : decode cX10_best 63 = .ok (.aconst_null, 1) := by decide +kernel
theorem dX10_best_64 : decode cX10_best 64 = .ok (.bipush 100, 2) := by decide +kernel
theorem dX10_best_66 : decode cX10_best 66 = .ok (.bipush 50, 2) := by decide +kernel
theorem dX10_best_68 : decode cX10_best 68 = .ok (.iload_n 2, 1) := by decide +kernel
theorem dX10_best_69 : decode cX10_best 69 = .ok (.invokevirtual 154, 3) := by decide +kernel
theorem dX10_best_72 : decode cX10_best 72 = .ok (.aload_n 0, 1) := by decide +kernel
theorem dX10_best_73 : decode cX10_best 73 = .ok (.getfield 44, 3) := by decide +kernel
theorem dX10_best_76 : decode cX10_best 76 = .ok (.invokevirtual 158, 3) := by decide +kernel
theorem dX10_best_79 : decode cX10_best 79 = .ok (.iload_n 3, 1) := by decide +kernel
theorem dX10_best_80 : decode cX10_best 80 = .ok (.bipush (-9), 2) := by decide +kernel
theorem dX10_best_82 : decode cX10_best 82 = .ok (.if_icmp .eq 15, 3) := by decide +kernel
theorem dX10_best_85 : decode cX10_best 85 = .ok (.aload_n 0, 1) := by decide +kernel
theorem dX10_best_86 : decode cX10_best 86 = .ok (.getfield 44, 3) := by decide +kernel
theorem dX10_best_89 : decode cX10_best 89 = .ok (.getfield 187, 3) := by decide +kernel
theorem dX10_best_92 : decode cX10_best 92 = .ok (.iload 4, 2) := by decide +kernel
theorem dX10_best_94 : decode cX10_best 94 = .ok (.if_icmp .le 15, 3) := by decide +kernel
theorem dX10_best_97 : decode cX10_best 97 = .ok (.iload 5, 2) := by decide +kernel
theorem dX10_best_99 : decode cX10_best 99 = .ok (.istore_n 3, 1) := by decide +kernel
theorem dX10_best_100 : decode cX10_best 100 = .ok (.aload_n 0, 1) := by decide +kernel
theorem dX10_best_101 : decode cX10_best 101 = .ok (.getfield 44, 3) := by decide +kernel
theorem dX10_best_104 : decode cX10_best 104 = .ok (.getfield 187, 3) := by decide +kernel
theorem dX10_best_107 : decode cX10_best 107 = .ok (.istore 4, 2) := by decide +kernel
theorem dX10_best_109 : decode cX10_best 109 = .ok (.iinc 5 1, 3) := by decide +kernel
theorem dX10_best_112 : decode cX10_best 112 = .ok (.goto (-81), 3) := by decide +kernel
theorem dX10_best_115 : decode cX10_best 115 = .ok (.iload_n 3, 1) := by decide +kernel
theorem dX10_best_116 : decode cX10_best 116 = .ok (.ireturn, 1) := by decide +kernel
set_option maxRecDepth 20000 in
theorem ggX10_watch_X10_sheetOf : GoodIn wsX10_watch wsX10_sheetOf := goodIn_r _ [8, 9, 10, 11, 7, 12, 45, 46, 47, 48, 49, 50, 51, 52, 53, 54, 55] (by decide +kernel) (by decide +kernel)
set_option maxRecDepth 20000 in
theorem gX10_watch_X10_sheetOf : GoodIn wsX10_watch (wsV RX10 67 RX10 yX10_sheetOf wsX10_sheetOf) := goodIn_app (goodIn_of _ (by decide +kernel)) ggX10_watch_X10_sheetOf
set_option maxRecDepth 20000 in
theorem ggX10_watch_X10_within : GoodIn wsX10_watch wsX10_within := goodIn_r _ [12] (by decide +kernel) (by decide +kernel)
set_option maxRecDepth 20000 in
theorem gX10_watch_X10_within : GoodIn wsX10_watch (va_wsS RX10 71 yX10_within wsX10_within) := goodIn_app (goodIn_of _ (by decide +kernel)) ggX10_watch_X10_within
set_option maxRecDepth 20000 in
theorem ggX10_watch_X6_faultOfTaking : GoodIn wsX10_watch wsX6_faultOfTaking := goodIn_r _ [17, 18, 19, 20, 16, 21, 22, 23, 24, 25, 26, 27, 28, 11, 7, 12, 56, 57, 58, 59] (by decide +kernel) (by decide +kernel)
set_option maxRecDepth 20000 in
theorem gX10_watch_X6_faultOfTaking : GoodIn wsX10_watch (wsV RX10 75 RX6 yX6_faultOfTaking wsX6_faultOfTaking) := goodIn_app (goodIn_of _ (by decide +kernel)) ggX10_watch_X6_faultOfTaking
set_option maxRecDepth 20000 in
theorem ggX10_watch_X10_faulted : GoodIn wsX10_watch wsX10_faulted := goodIn_r _ [32, 1, 45, 46, 47, 48, 49, 50, 51, 52, 53, 54, 55] (by decide +kernel) (by decide +kernel)
set_option maxRecDepth 20000 in
theorem gX10_watch_X10_faulted : GoodIn wsX10_watch (wsV RX10 79 RX10 yX10_faulted wsX10_faulted) := goodIn_app (goodIn_of _ (by decide +kernel)) ggX10_watch_X10_faulted
set_option maxRecDepth 20000 in
theorem ggX10_watch_X10_areBeats : GoodIn wsX10_watch wsX10_areBeats := goodIn_r _ [35, 36, 37, 38, 16, 39, 40, 41, 42, 43, 44, 28, 11, 7, 12, 10, 56, 57, 58, 59] (by decide +kernel) (by decide +kernel)
set_option maxRecDepth 20000 in
theorem gX10_watch_X10_areBeats : GoodIn wsX10_watch (va_wsS RX10 190 yX10_areBeats wsX10_areBeats) := goodIn_app (goodIn_of _ (by decide +kernel)) ggX10_watch_X10_areBeats
set_option maxRecDepth 20000 in
theorem ggX10_watch_X6_at : GoodIn wsX10_watch wsX6_at := goodIn_r _ [39, 40, 41, 42, 43, 16, 44, 28, 11, 7, 12, 56, 57, 58, 59] (by decide +kernel) (by decide +kernel)
set_option maxRecDepth 20000 in
theorem gX10_watch_X6_at : GoodIn wsX10_watch (wsV RX10 194 RX6 yX6_at wsX6_at) := goodIn_app (goodIn_of _ (by decide +kernel)) ggX10_watch_X6_at
theorem dX10_watch_0 : decode cX10_watch 0 = .ok (.aload_n 0, 1) := by decide +kernel
theorem dX10_watch_1 : decode cX10_watch 1 = .ok (.iconst 0, 1) := by decide +kernel
theorem dX10_watch_2 : decode cX10_watch 2 = .ok (.putfield 63, 3) := by decide +kernel
theorem dX10_watch_5 : decode cX10_watch 5 = .ok (.aload_n 0, 1) := by decide +kernel
theorem dX10_watch_6 : decode cX10_watch 6 = .ok (.iload_n 1, 1) := by decide +kernel
theorem dX10_watch_7 : decode cX10_watch 7 = .ok (.invokevirtual 67, 3) := by decide +kernel
theorem dX10_watch_10 : decode cX10_watch 10 = .ok (.astore 5, 2) := by decide +kernel
theorem dX10_watch_12 : decode cX10_watch 12 = .ok (.aload 5, 2) := by decide +kernel
theorem dX10_watch_14 : decode cX10_watch 14 = .ok (.ifnonnull 5, 3) := by decide +kernel
theorem dX10_watch_17 : decode cX10_watch 17 = .ok (.iconst (-1), 1) := by decide +kernel
theorem dX10_watch_18 : decode cX10_watch 18 = .ok (.ireturn, 1) := by decide +kernel
theorem dX10_watch_19 : decode cX10_watch 19 = .ok (.iload_n 2, 1) := by decide +kernel
theorem dX10_watch_20 : decode cX10_watch 20 = .ok (.iconst 0, 1) := by decide +kernel
theorem dX10_watch_21 : decode cX10_watch 21 = .ok (.iconst 2, 1) := by decide +kernel
theorem dX10_watch_22 : decode cX10_watch 22 = .ok (.invokestatic 71, 3) := by decide +kernel
theorem dX10_watch_25 : decode cX10_watch 25 = .ok (.ifCond .ne 6, 3) := by decide +kernel
theorem dX10_watch_28 : decode cX10_watch 28 = .ok (.bipush (-2), 2) := by decide +kernel
theorem dX10_watch_30 : decode cX10_watch 30 = .ok (.ireturn, 1) := by decide +kernel
theorem dX10_watch_31 : decode cX10_watch 31 = .ok (.aload 5, 2) := by decide +kernel
theorem dX10_watch_33 : decode cX10_watch 33 = .ok (.iload_n 2, 1) := by decide +kernel
theorem dX10_watch_34 : decode cX10_watch 34 = .ok (.iload_n 3, 1) := by decide +kernel
theorem dX10_watch_35 : decode cX10_watch 35 = .ok (.iload 4, 2) := by decide +kernel
theorem dX10_watch_37 : decode cX10_watch 37 = .ok (.invokevirtual 75, 3) := by decide +kernel
theorem dX10_watch_40 : decode cX10_watch 40 = .ok (.istore 6, 2) := by decide +kernel
theorem dX10_watch_42 : decode cX10_watch 42 = .ok (.iload 6, 2) := by decide +kernel
theorem dX10_watch_44 : decode cX10_watch 44 = .ok (.ifCond .eq 10, 3) := by decide +kernel
theorem dX10_watch_47 : decode cX10_watch 47 = .ok (.aload_n 0, 1) := by decide +kernel
theorem dX10_watch_48 : decode cX10_watch 48 = .ok (.iload 6, 2) := by decide +kernel
theorem dX10_watch_50 : decode cX10_watch 50 = .ok (.invokevirtual 79, 3) := by decide +kernel
theorem dX10_watch_53 : decode cX10_watch 53 = .ok (.ireturn, 1) := by decide +kernel
theorem dX10_watch_54 : decode cX10_watch 54 = .ok (.iload 4, 2) := by decide +kernel
theorem dX10_watch_56 : decode cX10_watch 56 = .ok (.iconst 2, 1) := by decide +kernel
theorem dX10_watch_57 : decode cX10_watch 57 = .ok (.bipush 30, 2) := by decide +kernel
theorem dX10_watch_59 : decode cX10_watch 59 = .ok (.invokestatic 71, 3) := by decide +kernel
theorem dX10_watch_62 : decode cX10_watch 62 = .ok (.ifCond .eq 14, 3) := by decide +kernel
theorem dX10_watch_65 : decode cX10_watch 65 = .ok (.aload 5, 2) := by decide +kernel
theorem dX10_watch_67 : decode cX10_watch 67 = .ok (.iload_n 3, 1) := by decide +kernel
theorem dX10_watch_68 : decode cX10_watch 68 = .ok (.iload 4, 2) := by decide +kernel
theorem dX10_watch_70 : decode cX10_watch 70 = .ok (.invokestatic 190, 3) := by decide +kernel
theorem dX10_watch_73 : decode cX10_watch 73 = .ok (.ifCond .ne 6, 3) := by decide +kernel
theorem dX10_watch_76 : decode cX10_watch 76 = .ok (.bipush (-2), 2) := by decide +kernel
theorem dX10_watch_78 : decode cX10_watch 78 = .ok (.ireturn, 1) := by decide +kernel
theorem dX10_watch_79 : decode cX10_watch 79 = .ok (.iconst 0, 1) := by decide +kernel
theorem dX10_watch_80 : decode cX10_watch 80 = .ok (.istore 7, 2) := by decide +kernel
theorem dX10_watch_82 : decode cX10_watch 82 = .ok (.iload 7, 2) := by decide +kernel
theorem dX10_watch_84 : decode cX10_watch 84 = .ok (.iload 4, 2) := by decide +kernel
theorem dX10_watch_86 : decode cX10_watch 86 = .ok (.if_icmp .ge 25, 3) := by decide +kernel
theorem dX10_watch_89 : decode cX10_watch 89 = .ok (.aload_n 0, 1) := by decide +kernel
theorem dX10_watch_90 : decode cX10_watch 90 = .ok (.getfield 23, 3) := by decide +kernel
theorem dX10_watch_93 : decode cX10_watch 93 = .ok (.iload 7, 2) := by decide +kernel
theorem dX10_watch_95 : decode cX10_watch 95 = .ok (.aload 5, 2) := by decide +kernel
theorem dX10_watch_97 : decode cX10_watch 97 = .ok (.iload_n 3, 1) := by decide +kernel
theorem dX10_watch_98 : decode cX10_watch 98 = .ok (.iload 7, 2) := by decide +kernel
theorem dX10_watch_100 : decode cX10_watch 100 = .ok (.iadd, 1) := by decide +kernel
theorem dX10_watch_101 : decode cX10_watch 101 = .ok (.invokevirtual 194, 3) := by decide +kernel
theorem dX10_watch_104 : decode cX10_watch 104 = .ok (.iastore, 1) := by decide +kernel
theorem dX10_watch_105 : decode cX10_watch 105 = .ok (.iinc 7 1, 3) := by decide +kernel
theorem dX10_watch_108 : decode cX10_watch 108 = .ok (.goto (-26), 3) := by decide +kernel
theorem dX10_watch_111 : decode cX10_watch 111 = .ok (.aload_n 0, 1) := by decide +kernel
theorem dX10_watch_112 : decode cX10_watch 112 = .ok (.iload 4, 2) := by decide +kernel
theorem dX10_watch_114 : decode cX10_watch 114 = .ok (.putfield 197, 3) := by decide +kernel
theorem dX10_watch_117 : decode cX10_watch 117 = .ok (.iload 4, 2) := by decide +kernel
theorem dX10_watch_119 : decode cX10_watch 119 = .ok (.ireturn, 1) := by decide +kernel
set_option maxRecDepth 20000 in
theorem ggX10_fits_X10_millOf : GoodIn wsX10_fits wsX10_millOf := goodIn_r _ [10, 11, 12, 13, 14, 9, 15, 128, 129, 130, 131, 132, 133, 134, 135, 136, 137, 138] (by decide +kernel) (by decide +kernel)
set_option maxRecDepth 20000 in
theorem gX10_fits_X10_millOf : GoodIn wsX10_fits (wsV RX10 97 RX10 yX10_millOf wsX10_millOf) := goodIn_app (goodIn_of _ (by decide +kernel)) ggX10_fits_X10_millOf
set_option maxRecDepth 20000 in
theorem ggX10_fits_X10_within : GoodIn wsX10_fits wsX10_within := goodIn_r _ [15] (by decide +kernel) (by decide +kernel)
set_option maxRecDepth 20000 in
theorem gX10_fits_X10_within : GoodIn wsX10_fits (va_wsS RX10 71 yX10_within wsX10_within) := goodIn_app (goodIn_of _ (by decide +kernel)) ggX10_fits_X10_within
set_option maxRecDepth 20000 in
theorem ggX10_fits_X1_clear : GoodIn wsX10_fits wsX1_clear := goodIn_r _ [20, 21, 145, 146, 147] (by decide +kernel) (by decide +kernel)
set_option maxRecDepth 20000 in
theorem gX10_fits_X1_clear : GoodIn wsX10_fits (wsV RX10 130 RX1 yX1_clear wsX1_clear) := goodIn_app (goodIn_of _ (by decide +kernel)) ggX10_fits_X1_clear
set_option maxRecDepth 20000 in
theorem ggX10_fits_X10_runsAsWatched : GoodIn wsX10_fits wsX10_runsAsWatched := goodIn_r _ [25, 26, 27, 1, 28, 29, 30, 31, 32, 33, 34, 35, 36, 37, 38, 39, 40, 41, 42, 43, 44, 45, 46, 47, 48, 49, 50, 51, 52, 53, 54, 55, 56, 57, 58, 59, 60, 14, 9, 15, 61, 62, 63, 64, 65, 66, 67, 68, 69, 70, 71, 72, 73, 74, 75, 76, 77, 78, 79, 80, 81, 82, 83, 84, 85, 86, 87, 88, 89, 90, 91, 92, 93, 94, 95, 96, 97, 98, 99, 100, 101, 102, 103, 104, 105, 106, 107, 108, 109, 110, 111, 112, 113, 114, 115, 116, 117, 128, 129, 130, 131, 132, 133, 134, 135, 136, 137, 138, 148, 149, 150, 151, 152, 153, 154, 155, 156, 157, 158, 159, 160, 161, 162, 163, 139, 140, 141, 142, 143, 144] (by decide +kernel) (by decide +kernel)
set_option maxRecDepth 20000 in
theorem gX10_fits_X10_runsAsWatched : GoodIn wsX10_fits (wsV RX10 200 RX10 yX10_runsAsWatched wsX10_runsAsWatched) := goodIn_app (goodIn_of _ (by decide +kernel)) ggX10_fits_X10_runsAsWatched
set_option maxRecDepth 20000 in
theorem ggX10_fits_X1_take : GoodIn wsX10_fits wsX1_take := goodIn_r _ [121, 21, 122, 123, 145, 146, 147] (by decide +kernel) (by decide +kernel)
set_option maxRecDepth 20000 in
theorem gX10_fits_X1_take : GoodIn wsX10_fits (wsV RX10 133 RX1 yX1_take wsX1_take) := goodIn_app (goodIn_of _ (by decide +kernel)) ggX10_fits_X1_take
set_option maxRecDepth 20000 in
theorem ggX10_fits_X1_told : GoodIn wsX10_fits wsX1_told := goodIn_r _ [127, 21, 122, 123, 145, 146, 147] (by decide +kernel) (by decide +kernel)
set_option maxRecDepth 20000 in
theorem gX10_fits_X1_told : GoodIn wsX10_fits (wsV RX10 137 RX1 yX1_told wsX1_told) := goodIn_app (goodIn_of _ (by decide +kernel)) ggX10_fits_X1_told
theorem dX10_fits_0 : decode cX10_fits 0 = .ok (.aload_n 0, 1) := by decide +kernel
theorem dX10_fits_1 : decode cX10_fits 1 = .ok (.iload_n 1, 1) := by decide +kernel
theorem dX10_fits_2 : decode cX10_fits 2 = .ok (.invokevirtual 97, 3) := by decide +kernel
theorem dX10_fits_5 : decode cX10_fits 5 = .ok (.astore 5, 2) := by decide +kernel
theorem dX10_fits_7 : decode cX10_fits 7 = .ok (.aload 5, 2) := by decide +kernel
theorem dX10_fits_9 : decode cX10_fits 9 = .ok (.ifnull 13, 3) := by decide +kernel
theorem dX10_fits_12 : decode cX10_fits 12 = .ok (.iload_n 2, 1) := by decide +kernel
theorem dX10_fits_13 : decode cX10_fits 13 = .ok (.iconst 0, 1) := by decide +kernel
theorem dX10_fits_14 : decode cX10_fits 14 = .ok (.bipush 8, 2) := by decide +kernel
theorem dX10_fits_16 : decode cX10_fits 16 = .ok (.invokestatic 71, 3) := by decide +kernel
theorem dX10_fits_19 : decode cX10_fits 19 = .ok (.ifCond .ne 5, 3) := by decide +kernel
theorem dX10_fits_22 : decode cX10_fits 22 = .ok (.iconst (-1), 1) := by decide +kernel
theorem dX10_fits_23 : decode cX10_fits 23 = .ok (.ireturn, 1) := by decide +kernel
theorem dX10_fits_24 : decode cX10_fits 24 = .ok (.iload_n 3, 1) := by decide +kernel
theorem dX10_fits_25 : decode cX10_fits 25 = .ok (.iconst 0, 1) := by decide +kernel
theorem dX10_fits_26 : decode cX10_fits 26 = .ok (.bipush 100, 2) := by decide +kernel
theorem dX10_fits_28 : decode cX10_fits 28 = .ok (.invokestatic 71, 3) := by decide +kernel
theorem dX10_fits_31 : decode cX10_fits 31 = .ok (.ifCond .eq 13, 3) := by decide +kernel
theorem dX10_fits_34 : decode cX10_fits 34 = .ok (.iload 4, 2) := by decide +kernel
theorem dX10_fits_36 : decode cX10_fits 36 = .ok (.iconst 0, 1) := by decide +kernel
theorem dX10_fits_37 : decode cX10_fits 37 = .ok (.iconst 2, 1) := by decide +kernel
theorem dX10_fits_38 : decode cX10_fits 38 = .ok (.invokestatic 71, 3) := by decide +kernel
theorem dX10_fits_41 : decode cX10_fits 41 = .ok (.ifCond .ne 6, 3) := by decide +kernel
theorem dX10_fits_44 : decode cX10_fits 44 = .ok (.bipush (-2), 2) := by decide +kernel
theorem dX10_fits_46 : decode cX10_fits 46 = .ok (.ireturn, 1) := by decide +kernel
theorem dX10_fits_47 : decode cX10_fits 47 = .ok (.aload_n 0, 1) := by decide +kernel
theorem dX10_fits_48 : decode cX10_fits 48 = .ok (.getfield 197, 3) := by decide +kernel
theorem dX10_fits_51 : decode cX10_fits 51 = .ok (.ifCond .ne 6, 3) := by decide +kernel
theorem dX10_fits_54 : decode cX10_fits 54 = .ok (.bipush (-3), 2) := by decide +kernel
theorem dX10_fits_56 : decode cX10_fits 56 = .ok (.ireturn, 1) := by decide +kernel
theorem dX10_fits_57 : decode cX10_fits 57 = .ok (.aload 5, 2) := by decide +kernel
theorem dX10_fits_59 : decode cX10_fits 59 = .ok (.getfield 105, 3) := by decide +kernel
theorem dX10_fits_62 : decode cX10_fits 62 = .ok (.iload_n 2, 1) := by decide +kernel
theorem dX10_fits_63 : decode cX10_fits 63 = .ok (.iaload, 1) := by decide +kernel
theorem dX10_fits_64 : decode cX10_fits 64 = .ok (.istore 6, 2) := by decide +kernel
theorem dX10_fits_66 : decode cX10_fits 66 = .ok (.aload_n 0, 1) := by decide +kernel
theorem dX10_fits_67 : decode cX10_fits 67 = .ok (.getfield 51, 3) := by decide +kernel
theorem dX10_fits_70 : decode cX10_fits 70 = .ok (.invokevirtual 130, 3) := by decide +kernel
theorem dX10_fits_73 : decode cX10_fits 73 = .ok (.getstatic 106, 3) := by decide +kernel
theorem dX10_fits_76 : decode cX10_fits 76 = .ok (.iload_n 2, 1) := by decide +kernel
theorem dX10_fits_77 : decode cX10_fits 77 = .ok (.iaload, 1) := by decide +kernel
theorem dX10_fits_78 : decode cX10_fits 78 = .ok (.istore 7, 2) := by decide +kernel
theorem dX10_fits_80 : decode cX10_fits 80 = .ok (.iload 7, 2) := by decide +kernel
theorem dX10_fits_82 : decode cX10_fits 82 = .ok (.getstatic 109, 3) := by decide +kernel
theorem dX10_fits_85 : decode cX10_fits 85 = .ok (.iload_n 2, 1) := by decide +kernel
theorem dX10_fits_86 : decode cX10_fits 86 = .ok (.iaload, 1) := by decide +kernel
theorem dX10_fits_87 : decode cX10_fits 87 = .ok (.if_icmp .gt 37, 3) := by decide +kernel
theorem dX10_fits_90 : decode cX10_fits 90 = .ok (.aload 5, 2) := by decide +kernel
theorem dX10_fits_92 : decode cX10_fits 92 = .ok (.getfield 105, 3) := by decide +kernel
theorem dX10_fits_95 : decode cX10_fits 95 = .ok (.iload_n 2, 1) := by decide +kernel
theorem dX10_fits_96 : decode cX10_fits 96 = .ok (.iload 7, 2) := by decide +kernel
theorem dX10_fits_98 : decode cX10_fits 98 = .ok (.iastore, 1) := by decide +kernel
theorem dX10_fits_99 : decode cX10_fits 99 = .ok (.aload_n 0, 1) := by decide +kernel
theorem dX10_fits_100 : decode cX10_fits 100 = .ok (.aload 5, 2) := by decide +kernel
theorem dX10_fits_102 : decode cX10_fits 102 = .ok (.iload_n 3, 1) := by decide +kernel
theorem dX10_fits_103 : decode cX10_fits 103 = .ok (.invokevirtual 200, 3) := by decide +kernel
theorem dX10_fits_106 : decode cX10_fits 106 = .ok (.ifCond .eq 12, 3) := by decide +kernel
theorem dX10_fits_109 : decode cX10_fits 109 = .ok (.aload_n 0, 1) := by decide +kernel
theorem dX10_fits_110 : decode cX10_fits 110 = .ok (.getfield 51, 3) := by decide +kernel
theorem dX10_fits_113 : decode cX10_fits 113 = .ok (.iload 7, 2) := by decide +kernel
theorem dX10_fits_115 : decode cX10_fits 115 = .ok (.invokevirtual 133, 3) := by decide +kernel
theorem dX10_fits_118 : decode cX10_fits 118 = .ok (.iinc 7 1, 3) := by decide +kernel
theorem dX10_fits_121 : decode cX10_fits 121 = .ok (.goto (-41), 3) := by decide +kernel
theorem dX10_fits_124 : decode cX10_fits 124 = .ok (.aload 5, 2) := by decide +kernel
theorem dX10_fits_126 : decode cX10_fits 126 = .ok (.getfield 105, 3) := by decide +kernel
theorem dX10_fits_129 : decode cX10_fits 129 = .ok (.iload_n 2, 1) := by decide +kernel
theorem dX10_fits_130 : decode cX10_fits 130 = .ok (.iload 6, 2) := by decide +kernel
theorem dX10_fits_132 : decode cX10_fits 132 = .ok (.iastore, 1) := by decide +kernel
theorem dX10_fits_133 : decode cX10_fits 133 = .ok (.aload_n 0, 1) := by decide +kernel
theorem dX10_fits_134 : decode cX10_fits 134 = .ok (.getfield 51, 3) := by decide +kernel
theorem dX10_fits_137 : decode cX10_fits 137 = .ok (.iload 4, 2) := by decide +kernel
theorem dX10_fits_139 : decode cX10_fits 139 = .ok (.invokevirtual 137, 3) := by decide +kernel
theorem dX10_fits_142 : decode cX10_fits 142 = .ok (.ireturn, 1) := by decide +kernel
set_option maxRecDepth 20000 in
theorem ggX10_sheet_X10_sheetOf : GoodIn wsX10_sheet wsX10_sheetOf := goodIn_r _ [6, 7, 8, 9, 5, 10, 28, 29, 30, 31, 32, 33, 34, 35, 36, 37, 38] (by decide +kernel) (by decide +kernel)
set_option maxRecDepth 20000 in
theorem gX10_sheet_X10_sheetOf : GoodIn wsX10_sheet (wsV RX10 67 RX10 yX10_sheetOf wsX10_sheetOf) := goodIn_app (goodIn_of _ (by decide +kernel)) ggX10_sheet_X10_sheetOf
set_option maxRecDepth 20000 in
theorem ggX10_sheet_X10_within : GoodIn wsX10_sheet wsX10_within := goodIn_r _ [10] (by decide +kernel) (by decide +kernel)
set_option maxRecDepth 20000 in
theorem gX10_sheet_X10_within : GoodIn wsX10_sheet (va_wsS RX10 71 yX10_within wsX10_within) := goodIn_app (goodIn_of _ (by decide +kernel)) ggX10_sheet_X10_within
set_option maxRecDepth 20000 in
theorem ggX10_sheet_X10_faulted : GoodIn wsX10_sheet wsX10_faulted := goodIn_r _ [14, 1, 28, 29, 30, 31, 32, 33, 34, 35, 36, 37, 38] (by decide +kernel) (by decide +kernel)
set_option maxRecDepth 20000 in
theorem gX10_sheet_X10_faulted : GoodIn wsX10_sheet (wsV RX10 79 RX10 yX10_faulted wsX10_faulted) := goodIn_app (goodIn_of _ (by decide +kernel)) ggX10_sheet_X10_faulted
set_option maxRecDepth 20000 in
theorem ggX10_sheet_X6_renew : GoodIn wsX10_sheet wsX6_renew := goodIn_r _ [19, 20, 21, 22, 23, 24, 25, 26, 27, 39, 40, 41, 42] (by decide +kernel) (by decide +kernel)
set_option maxRecDepth 20000 in
theorem gX10_sheet_X6_renew : GoodIn wsX10_sheet (wsV RX10 204 RX6 yX6_renew wsX6_renew) := goodIn_app (goodIn_of _ (by decide +kernel)) ggX10_sheet_X6_renew
theorem dX10_sheet_0 : decode cX10_sheet 0 = .ok (.aload_n 0, 1) := by decide +kernel
theorem dX10_sheet_1 : decode cX10_sheet 1 = .ok (.iconst 0, 1) := by decide +kernel
theorem dX10_sheet_2 : decode cX10_sheet 2 = .ok (.putfield 63, 3) := by decide +kernel
theorem dX10_sheet_5 : decode cX10_sheet 5 = .ok (.aload_n 0, 1) := by decide +kernel
theorem dX10_sheet_6 : decode cX10_sheet 6 = .ok (.iload_n 1, 1) := by decide +kernel
theorem dX10_sheet_7 : decode cX10_sheet 7 = .ok (.invokevirtual 67, 3) := by decide +kernel
theorem dX10_sheet_10 : decode cX10_sheet 10 = .ok (.astore 4, 2) := by decide +kernel
theorem dX10_sheet_12 : decode cX10_sheet 12 = .ok (.aload 4, 2) := by decide +kernel
theorem dX10_sheet_14 : decode cX10_sheet 14 = .ok (.ifnonnull 5, 3) := by decide +kernel
theorem dX10_sheet_17 : decode cX10_sheet 17 = .ok (.iconst (-1), 1) := by decide +kernel
theorem dX10_sheet_18 : decode cX10_sheet 18 = .ok (.ireturn, 1) := by decide +kernel
theorem dX10_sheet_19 : decode cX10_sheet 19 = .ok (.iload_n 2, 1) := by decide +kernel
theorem dX10_sheet_20 : decode cX10_sheet 20 = .ok (.iconst 0, 1) := by decide +kernel
theorem dX10_sheet_21 : decode cX10_sheet 21 = .ok (.iconst 2, 1) := by decide +kernel
theorem dX10_sheet_22 : decode cX10_sheet 22 = .ok (.invokestatic 71, 3) := by decide +kernel
theorem dX10_sheet_25 : decode cX10_sheet 25 = .ok (.ifCond .eq 9, 3) := by decide +kernel
theorem dX10_sheet_28 : decode cX10_sheet 28 = .ok (.iload_n 3, 1) := by decide +kernel
theorem dX10_sheet_29 : decode cX10_sheet 29 = .ok (.bipush 60, 2) := by decide +kernel
theorem dX10_sheet_31 : decode cX10_sheet 31 = .ok (.if_icmp .le 6, 3) := by decide +kernel
theorem dX10_sheet_34 : decode cX10_sheet 34 = .ok (.bipush (-2), 2) := by decide +kernel
theorem dX10_sheet_36 : decode cX10_sheet 36 = .ok (.ireturn, 1) := by decide +kernel
theorem dX10_sheet_37 : decode cX10_sheet 37 = .ok (.iload_n 3, 1) := by decide +kernel
theorem dX10_sheet_38 : decode cX10_sheet 38 = .ok (.ifCond .ge 9, 3) := by decide +kernel
theorem dX10_sheet_41 : decode cX10_sheet 41 = .ok (.aload_n 0, 1) := by decide +kernel
theorem dX10_sheet_42 : decode cX10_sheet 42 = .ok (.iconst 4, 1) := by decide +kernel
theorem dX10_sheet_43 : decode cX10_sheet 43 = .ok (.invokevirtual 79, 3) := by decide +kernel
theorem dX10_sheet_46 : decode cX10_sheet 46 = .ok (.ireturn, 1) := by decide +kernel
theorem dX10_sheet_47 : decode cX10_sheet 47 = .ok (.aload 4, 2) := by decide +kernel
theorem dX10_sheet_49 : decode cX10_sheet 49 = .ok (.iload_n 2, 1) := by decide +kernel
theorem dX10_sheet_50 : decode cX10_sheet 50 = .ok (.iload_n 3, 1) := by decide +kernel
theorem dX10_sheet_51 : decode cX10_sheet 51 = .ok (.invokevirtual 204, 3) := by decide +kernel
theorem dX10_sheet_54 : decode cX10_sheet 54 = .ok (.iconst 1, 1) := by decide +kernel
theorem dX10_sheet_55 : decode cX10_sheet 55 = .ok (.ireturn, 1) := by decide +kernel
set_option maxRecDepth 20000 in
theorem ggX10_lose_X10_sheetOf : GoodIn wsX10_lose wsX10_sheetOf := goodIn_r _ [5, 6, 7, 8, 4, 9, 14, 15, 16, 17, 18, 19, 20, 21, 22, 23, 24] (by decide +kernel) (by decide +kernel)
set_option maxRecDepth 20000 in
theorem gX10_lose_X10_sheetOf : GoodIn wsX10_lose (wsV RX10 67 RX10 yX10_sheetOf wsX10_sheetOf) := goodIn_app (goodIn_of _ (by decide +kernel)) ggX10_lose_X10_sheetOf
theorem dX10_lose_0 : decode cX10_lose 0 = .ok (.aload_n 0, 1) := by decide +kernel
theorem dX10_lose_1 : decode cX10_lose 1 = .ok (.iload_n 1, 1) := by decide +kernel
theorem dX10_lose_2 : decode cX10_lose 2 = .ok (.invokevirtual 67, 3) := by decide +kernel
theorem dX10_lose_5 : decode cX10_lose 5 = .ok (.astore_n 2, 1) := by decide +kernel
theorem dX10_lose_6 : decode cX10_lose 6 = .ok (.aload_n 2, 1) := by decide +kernel
theorem dX10_lose_7 : decode cX10_lose 7 = .ok (.ifnonnull 5, 3) := by decide +kernel
theorem dX10_lose_10 : decode cX10_lose 10 = .ok (.iconst (-1), 1) := by decide +kernel
theorem dX10_lose_11 : decode cX10_lose 11 = .ok (.ireturn, 1) := by decide +kernel
theorem dX10_lose_12 : decode cX10_lose 12 = .ok (.aload_n 2, 1) := by decide +kernel
theorem dX10_lose_13 : decode cX10_lose 13 = .ok (.getfield 208, 3) := by decide +kernel
theorem dX10_lose_16 : decode cX10_lose 16 = .ok (.istore_n 3, 1) := by decide +kernel
theorem dX10_lose_17 : decode cX10_lose 17 = .ok (.aload_n 2, 1) := by decide +kernel
theorem dX10_lose_18 : decode cX10_lose 18 = .ok (.iconst 0, 1) := by decide +kernel
theorem dX10_lose_19 : decode cX10_lose 19 = .ok (.putfield 208, 3) := by decide +kernel
theorem dX10_lose_22 : decode cX10_lose 22 = .ok (.iload_n 3, 1) := by decide +kernel
theorem dX10_lose_23 : decode cX10_lose 23 = .ok (.ifCond .eq 7, 3) := by decide +kernel
theorem dX10_lose_26 : decode cX10_lose 26 = .ok (.iconst 1, 1) := by decide +kernel
theorem dX10_lose_27 : decode cX10_lose 27 = .ok (.goto 4, 3) := by decide +kernel
theorem dX10_lose_30 : decode cX10_lose 30 = .ok (.iconst 0, 1) := by decide +kernel
theorem dX10_lose_31 : decode cX10_lose 31 = .ok (.ireturn, 1) := by decide +kernel
set_option maxRecDepth 20000 in
theorem ggX10_put_X10_sheetOf : GoodIn wsX10_put wsX10_sheetOf := goodIn_r _ [6, 7, 8, 9, 5, 10, 32, 33, 34, 35, 36, 37, 38, 39, 40, 41, 42] (by decide +kernel) (by decide +kernel)
set_option maxRecDepth 20000 in
theorem gX10_put_X10_sheetOf : GoodIn wsX10_put (wsV RX10 67 RX10 yX10_sheetOf wsX10_sheetOf) := goodIn_app (goodIn_of _ (by decide +kernel)) ggX10_put_X10_sheetOf
set_option maxRecDepth 20000 in
theorem ggX10_put_X10_faulted : GoodIn wsX10_put wsX10_faulted := goodIn_r _ [14, 1, 32, 33, 34, 35, 36, 37, 38, 39, 40, 41, 42] (by decide +kernel) (by decide +kernel)
set_option maxRecDepth 20000 in
theorem gX10_put_X10_faulted : GoodIn wsX10_put (wsV RX10 79 RX10 yX10_faulted wsX10_faulted) := goodIn_app (goodIn_of _ (by decide +kernel)) ggX10_put_X10_faulted
set_option maxRecDepth 20000 in
theorem ggX10_put_X6_hasCell : GoodIn wsX10_put wsX6_hasCell := goodIn_r _ [19, 20, 9, 5, 10, 43, 44, 45, 46] (by decide +kernel) (by decide +kernel)
set_option maxRecDepth 20000 in
theorem gX10_put_X6_hasCell : GoodIn wsX10_put (wsV RX10 212 RX6 yX6_hasCell wsX6_hasCell) := goodIn_app (goodIn_of _ (by decide +kernel)) ggX10_put_X6_hasCell
set_option maxRecDepth 20000 in
theorem ggX10_put_X6_set : GoodIn wsX10_put wsX6_set := goodIn_r _ [24, 25, 26, 16, 17, 18, 19, 20, 9, 5, 10, 27, 28, 29, 30, 31, 43, 44, 45, 46] (by decide +kernel) (by decide +kernel)
set_option maxRecDepth 20000 in
theorem gX10_put_X6_set : GoodIn wsX10_put (wsV RX10 216 RX6 yX6_set wsX6_set) := goodIn_app (goodIn_of _ (by decide +kernel)) ggX10_put_X6_set
theorem dX10_put_0 : decode cX10_put 0 = .ok (.aload_n 0, 1) := by decide +kernel
theorem dX10_put_1 : decode cX10_put 1 = .ok (.iconst 0, 1) := by decide +kernel
theorem dX10_put_2 : decode cX10_put 2 = .ok (.putfield 63, 3) := by decide +kernel
theorem dX10_put_5 : decode cX10_put 5 = .ok (.aload_n 0, 1) := by decide +kernel
theorem dX10_put_6 : decode cX10_put 6 = .ok (.iload_n 1, 1) := by decide +kernel
theorem dX10_put_7 : decode cX10_put 7 = .ok (.invokevirtual 67, 3) := by decide +kernel
theorem dX10_put_10 : decode cX10_put 10 = .ok (.astore 4, 2) := by decide +kernel
theorem dX10_put_12 : decode cX10_put 12 = .ok (.aload 4, 2) := by decide +kernel
theorem dX10_put_14 : decode cX10_put 14 = .ok (.ifnonnull 5, 3) := by decide +kernel
theorem dX10_put_17 : decode cX10_put 17 = .ok (.iconst (-1), 1) := by decide +kernel
theorem dX10_put_18 : decode cX10_put 18 = .ok (.ireturn, 1) := by decide +kernel
theorem dX10_put_19 : decode cX10_put 19 = .ok (.aload 4, 2) := by decide +kernel
theorem dX10_put_21 : decode cX10_put 21 = .ok (.getfield 208, 3) := by decide +kernel
theorem dX10_put_24 : decode cX10_put 24 = .ok (.ifCond .ne 9, 3) := by decide +kernel
theorem dX10_put_27 : decode cX10_put 27 = .ok (.aload_n 0, 1) := by decide +kernel
theorem dX10_put_28 : decode cX10_put 28 = .ok (.iconst 1, 1) := by decide +kernel
theorem dX10_put_29 : decode cX10_put 29 = .ok (.invokevirtual 79, 3) := by decide +kernel
theorem dX10_put_32 : decode cX10_put 32 = .ok (.ireturn, 1) := by decide +kernel
theorem dX10_put_33 : decode cX10_put 33 = .ok (.aload 4, 2) := by decide +kernel
theorem dX10_put_35 : decode cX10_put 35 = .ok (.iload_n 2, 1) := by decide +kernel
theorem dX10_put_36 : decode cX10_put 36 = .ok (.invokevirtual 212, 3) := by decide +kernel
theorem dX10_put_39 : decode cX10_put 39 = .ok (.ifCond .ne 9, 3) := by decide +kernel
theorem dX10_put_42 : decode cX10_put 42 = .ok (.aload_n 0, 1) := by decide +kernel
theorem dX10_put_43 : decode cX10_put 43 = .ok (.iconst 3, 1) := by decide +kernel
theorem dX10_put_44 : decode cX10_put 44 = .ok (.invokevirtual 79, 3) := by decide +kernel
theorem dX10_put_47 : decode cX10_put 47 = .ok (.ireturn, 1) := by decide +kernel
theorem dX10_put_48 : decode cX10_put 48 = .ok (.aload 4, 2) := by decide +kernel
theorem dX10_put_50 : decode cX10_put 50 = .ok (.iload_n 2, 1) := by decide +kernel
theorem dX10_put_51 : decode cX10_put 51 = .ok (.iload_n 3, 1) := by decide +kernel
theorem dX10_put_52 : decode cX10_put 52 = .ok (.invokevirtual 216, 3) := by decide +kernel
theorem dX10_put_55 : decode cX10_put 55 = .ok (.iconst 1, 1) := by decide +kernel
theorem dX10_put_56 : decode cX10_put 56 = .ok (.ireturn, 1) := by decide +kernel
set_option maxRecDepth 20000 in
theorem ggX10_cell_X10_sheetOf : GoodIn wsX10_cell wsX10_sheetOf := goodIn_r _ [7, 8, 9, 10, 6, 11, 30, 31, 32, 33, 34, 35, 36, 37, 38, 39, 40] (by decide +kernel) (by decide +kernel)
set_option maxRecDepth 20000 in
theorem gX10_cell_X10_sheetOf : GoodIn wsX10_cell (wsV RX10 67 RX10 yX10_sheetOf wsX10_sheetOf) := goodIn_app (goodIn_of _ (by decide +kernel)) ggX10_cell_X10_sheetOf
set_option maxRecDepth 20000 in
theorem ggX10_cell_X10_within : GoodIn wsX10_cell wsX10_within := goodIn_r _ [11] (by decide +kernel) (by decide +kernel)
set_option maxRecDepth 20000 in
theorem gX10_cell_X10_within : GoodIn wsX10_cell (va_wsS RX10 71 yX10_within wsX10_within) := goodIn_app (goodIn_of _ (by decide +kernel)) ggX10_cell_X10_within
set_option maxRecDepth 20000 in
theorem ggX10_cell_X6_faultOfTakingAs : GoodIn wsX10_cell wsX6_faultOfTakingAs := goodIn_r _ [16, 17, 18, 41, 42, 43, 44] (by decide +kernel) (by decide +kernel)
set_option maxRecDepth 20000 in
theorem gX10_cell_X6_faultOfTakingAs : GoodIn wsX10_cell (wsV RX10 219 RX6 yX6_faultOfTakingAs wsX6_faultOfTakingAs) := goodIn_app (goodIn_of _ (by decide +kernel)) ggX10_cell_X6_faultOfTakingAs
set_option maxRecDepth 20000 in
theorem ggX10_cell_X6_hasCell : GoodIn wsX10_cell wsX6_hasCell := goodIn_r _ [22, 23, 10, 6, 11, 41, 42, 43, 44] (by decide +kernel) (by decide +kernel)
set_option maxRecDepth 20000 in
theorem gX10_cell_X6_hasCell : GoodIn wsX10_cell (wsV RX10 212 RX6 yX6_hasCell wsX6_hasCell) := goodIn_app (goodIn_of _ (by decide +kernel)) ggX10_cell_X6_hasCell
set_option maxRecDepth 20000 in
theorem ggX10_cell_X6_at : GoodIn wsX10_cell wsX6_at := goodIn_r _ [27, 28, 29, 20, 21, 15, 22, 23, 10, 6, 11, 41, 42, 43, 44] (by decide +kernel) (by decide +kernel)
set_option maxRecDepth 20000 in
theorem gX10_cell_X6_at : GoodIn wsX10_cell (wsV RX10 194 RX6 yX6_at wsX6_at) := goodIn_app (goodIn_of _ (by decide +kernel)) ggX10_cell_X6_at
theorem dX10_cell_0 : decode cX10_cell 0 = .ok (.aload_n 0, 1) := by decide +kernel
theorem dX10_cell_1 : decode cX10_cell 1 = .ok (.iconst 0, 1) := by decide +kernel
theorem dX10_cell_2 : decode cX10_cell 2 = .ok (.putfield 63, 3) := by decide +kernel
theorem dX10_cell_5 : decode cX10_cell 5 = .ok (.aload_n 0, 1) := by decide +kernel
theorem dX10_cell_6 : decode cX10_cell 6 = .ok (.iload_n 1, 1) := by decide +kernel
theorem dX10_cell_7 : decode cX10_cell 7 = .ok (.invokevirtual 67, 3) := by decide +kernel
theorem dX10_cell_10 : decode cX10_cell 10 = .ok (.astore 4, 2) := by decide +kernel
theorem dX10_cell_12 : decode cX10_cell 12 = .ok (.aload 4, 2) := by decide +kernel
theorem dX10_cell_14 : decode cX10_cell 14 = .ok (.ifnull 12, 3) := by decide +kernel
theorem dX10_cell_17 : decode cX10_cell 17 = .ok (.iload_n 3, 1) := by decide +kernel
theorem dX10_cell_18 : decode cX10_cell 18 = .ok (.iconst 0, 1) := by decide +kernel
theorem dX10_cell_19 : decode cX10_cell 19 = .ok (.iconst 2, 1) := by decide +kernel
theorem dX10_cell_20 : decode cX10_cell 20 = .ok (.invokestatic 71, 3) := by decide +kernel
theorem dX10_cell_23 : decode cX10_cell 23 = .ok (.ifCond .ne 7, 3) := by decide +kernel
theorem dX10_cell_26 : decode cX10_cell 26 = .ok (.ldc2_w 112, 3) := by decide +kernel
theorem dX10_cell_29 : decode cX10_cell 29 = .ok (.lreturn, 1) := by decide +kernel
theorem dX10_cell_30 : decode cX10_cell 30 = .ok (.aload 4, 2) := by decide +kernel
theorem dX10_cell_32 : decode cX10_cell 32 = .ok (.iload_n 3, 1) := by decide +kernel
theorem dX10_cell_33 : decode cX10_cell 33 = .ok (.invokevirtual 219, 3) := by decide +kernel
theorem dX10_cell_36 : decode cX10_cell 36 = .ok (.istore 5, 2) := by decide +kernel
theorem dX10_cell_38 : decode cX10_cell 38 = .ok (.iload 5, 2) := by decide +kernel
theorem dX10_cell_40 : decode cX10_cell 40 = .ok (.ifCond .ne 15, 3) := by decide +kernel
theorem dX10_cell_43 : decode cX10_cell 43 = .ok (.aload 4, 2) := by decide +kernel
theorem dX10_cell_45 : decode cX10_cell 45 = .ok (.iload_n 2, 1) := by decide +kernel
theorem dX10_cell_46 : decode cX10_cell 46 = .ok (.invokevirtual 212, 3) := by decide +kernel
theorem dX10_cell_49 : decode cX10_cell 49 = .ok (.ifCond .ne 6, 3) := by decide +kernel
theorem dX10_cell_52 : decode cX10_cell 52 = .ok (.iconst 3, 1) := by decide +kernel
theorem dX10_cell_53 : decode cX10_cell 53 = .ok (.istore 5, 2) := by decide +kernel
theorem dX10_cell_55 : decode cX10_cell 55 = .ok (.iload 5, 2) := by decide +kernel
theorem dX10_cell_57 : decode cX10_cell 57 = .ok (.ifCond .eq 13, 3) := by decide +kernel
theorem dX10_cell_60 : decode cX10_cell 60 = .ok (.aload_n 0, 1) := by decide +kernel
theorem dX10_cell_61 : decode cX10_cell 61 = .ok (.iload 5, 2) := by decide +kernel
theorem dX10_cell_63 : decode cX10_cell 63 = .ok (.putfield 63, 3) := by decide +kernel
theorem dX10_cell_66 : decode cX10_cell 66 = .ok (.ldc2_w 112, 3) := by decide +kernel
theorem dX10_cell_69 : decode cX10_cell 69 = .ok (.lreturn, 1) := by decide +kernel
theorem dX10_cell_70 : decode cX10_cell 70 = .ok (.aload 4, 2) := by decide +kernel
theorem dX10_cell_72 : decode cX10_cell 72 = .ok (.iload_n 2, 1) := by decide +kernel
theorem dX10_cell_73 : decode cX10_cell 73 = .ok (.invokevirtual 194, 3) := by decide +kernel
theorem dX10_cell_76 : decode cX10_cell 76 = .ok (.i2l, 1) := by decide +kernel
theorem dX10_cell_77 : decode cX10_cell 77 = .ok (.lreturn, 1) := by decide +kernel
set_option maxRecDepth 20000 in
theorem ggX10_copy_X10_sheetOf : GoodIn wsX10_copy wsX10_sheetOf := goodIn_r _ [10, 11, 12, 13, 9, 14, 25, 26, 27, 28, 29, 30, 31, 32, 33, 34, 35] (by decide +kernel) (by decide +kernel)
set_option maxRecDepth 20000 in
theorem gX10_copy_X10_sheetOf : GoodIn wsX10_copy (wsV RX10 67 RX10 yX10_sheetOf wsX10_sheetOf) := goodIn_app (goodIn_of _ (by decide +kernel)) ggX10_copy_X10_sheetOf
set_option maxRecDepth 20000 in
theorem ggX10_copy_X10_faulted : GoodIn wsX10_copy wsX10_faulted := goodIn_r _ [18, 1, 25, 26, 27, 28, 29, 30, 31, 32, 33, 34, 35] (by decide +kernel) (by decide +kernel)
set_option maxRecDepth 20000 in
theorem gX10_copy_X10_faulted : GoodIn wsX10_copy (wsV RX10 79 RX10 yX10_faulted wsX10_faulted) := goodIn_app (goodIn_of _ (by decide +kernel)) ggX10_copy_X10_faulted
set_option maxRecDepth 20000 in
theorem ggX10_copy_X6_spans : GoodIn wsX10_copy wsX6_spans := goodIn_r _ [23, 24, 13, 9, 14, 36, 37, 38, 39] (by decide +kernel) (by decide +kernel)
set_option maxRecDepth 20000 in
theorem gX10_copy_X6_spans : GoodIn wsX10_copy (wsV RX10 225 RX6 yX6_spans wsX6_spans) := goodIn_app (goodIn_of _ (by decide +kernel)) ggX10_copy_X6_spans
theorem dX10_copy_0 : decode cX10_copy 0 = .ok (.aload_n 0, 1) := by decide +kernel
theorem dX10_copy_1 : decode cX10_copy 1 = .ok (.iconst 0, 1) := by decide +kernel
theorem dX10_copy_2 : decode cX10_copy 2 = .ok (.putfield 63, 3) := by decide +kernel
theorem dX10_copy_5 : decode cX10_copy 5 = .ok (.aload_n 0, 1) := by decide +kernel
theorem dX10_copy_6 : decode cX10_copy 6 = .ok (.iload_n 1, 1) := by decide +kernel
theorem dX10_copy_7 : decode cX10_copy 7 = .ok (.invokevirtual 67, 3) := by decide +kernel
theorem dX10_copy_10 : decode cX10_copy 10 = .ok (.astore 6, 2) := by decide +kernel
theorem dX10_copy_12 : decode cX10_copy 12 = .ok (.aload_n 0, 1) := by decide +kernel
theorem dX10_copy_13 : decode cX10_copy 13 = .ok (.iload_n 3, 1) := by decide +kernel
theorem dX10_copy_14 : decode cX10_copy 14 = .ok (.invokevirtual 67, 3) := by decide +kernel
theorem dX10_copy_17 : decode cX10_copy 17 = .ok (.astore 7, 2) := by decide +kernel
theorem dX10_copy_19 : decode cX10_copy 19 = .ok (.aload 6, 2) := by decide +kernel
theorem dX10_copy_21 : decode cX10_copy 21 = .ok (.ifnull 8, 3) := by decide +kernel
theorem dX10_copy_24 : decode cX10_copy 24 = .ok (.aload 7, 2) := by decide +kernel
theorem dX10_copy_26 : decode cX10_copy 26 = .ok (.ifnonnull 5, 3) := by decide +kernel
theorem dX10_copy_29 : decode cX10_copy 29 = .ok (.iconst (-1), 1) := by decide +kernel
theorem dX10_copy_30 : decode cX10_copy 30 = .ok (.ireturn, 1) := by decide +kernel
theorem dX10_copy_31 : decode cX10_copy 31 = .ok (.aload 6, 2) := by decide +kernel
theorem dX10_copy_33 : decode cX10_copy 33 = .ok (.getfield 208, 3) := by decide +kernel
theorem dX10_copy_36 : decode cX10_copy 36 = .ok (.ifCond .eq 11, 3) := by decide +kernel
theorem dX10_copy_39 : decode cX10_copy 39 = .ok (.aload 7, 2) := by decide +kernel
theorem dX10_copy_41 : decode cX10_copy 41 = .ok (.getfield 208, 3) := by decide +kernel
theorem dX10_copy_44 : decode cX10_copy 44 = .ok (.ifCond .ne 9, 3) := by decide +kernel
theorem dX10_copy_47 : decode cX10_copy 47 = .ok (.aload_n 0, 1) := by decide +kernel
theorem dX10_copy_48 : decode cX10_copy 48 = .ok (.iconst 1, 1) := by decide +kernel
theorem dX10_copy_49 : decode cX10_copy 49 = .ok (.invokevirtual 79, 3) := by decide +kernel
theorem dX10_copy_52 : decode cX10_copy 52 = .ok (.ireturn, 1) := by decide +kernel
theorem dX10_copy_53 : decode cX10_copy 53 = .ok (.aload 6, 2) := by decide +kernel
theorem dX10_copy_55 : decode cX10_copy 55 = .ok (.getfield 222, 3) := by decide +kernel
theorem dX10_copy_58 : decode cX10_copy 58 = .ok (.aload 7, 2) := by decide +kernel
theorem dX10_copy_60 : decode cX10_copy 60 = .ok (.getfield 222, 3) := by decide +kernel
theorem dX10_copy_63 : decode cX10_copy 63 = .ok (.if_icmp .eq 9, 3) := by decide +kernel
theorem dX10_copy_66 : decode cX10_copy 66 = .ok (.aload_n 0, 1) := by decide +kernel
theorem dX10_copy_67 : decode cX10_copy 67 = .ok (.iconst 2, 1) := by decide +kernel
theorem dX10_copy_68 : decode cX10_copy 68 = .ok (.invokevirtual 79, 3) := by decide +kernel
theorem dX10_copy_71 : decode cX10_copy 71 = .ok (.ireturn, 1) := by decide +kernel
theorem dX10_copy_72 : decode cX10_copy 72 = .ok (.aload 6, 2) := by decide +kernel
theorem dX10_copy_74 : decode cX10_copy 74 = .ok (.iload_n 2, 1) := by decide +kernel
theorem dX10_copy_75 : decode cX10_copy 75 = .ok (.iload 5, 2) := by decide +kernel
theorem dX10_copy_77 : decode cX10_copy 77 = .ok (.invokevirtual 225, 3) := by decide +kernel
theorem dX10_copy_80 : decode cX10_copy 80 = .ok (.ifCond .eq 15, 3) := by decide +kernel
theorem dX10_copy_83 : decode cX10_copy 83 = .ok (.aload 7, 2) := by decide +kernel
theorem dX10_copy_85 : decode cX10_copy 85 = .ok (.iload 4, 2) := by decide +kernel
theorem dX10_copy_87 : decode cX10_copy 87 = .ok (.iload 5, 2) := by decide +kernel
theorem dX10_copy_89 : decode cX10_copy 89 = .ok (.invokevirtual 225, 3) := by decide +kernel
theorem dX10_copy_92 : decode cX10_copy 92 = .ok (.ifCond .ne 9, 3) := by decide +kernel
theorem dX10_copy_95 : decode cX10_copy 95 = .ok (.aload_n 0, 1) := by decide +kernel
theorem dX10_copy_96 : decode cX10_copy 96 = .ok (.iconst 3, 1) := by decide +kernel
theorem dX10_copy_97 : decode cX10_copy 97 = .ok (.invokevirtual 79, 3) := by decide +kernel
theorem dX10_copy_100 : decode cX10_copy 100 = .ok (.ireturn, 1) := by decide +kernel
theorem dX10_copy_101 : decode cX10_copy 101 = .ok (.aload 6, 2) := by decide +kernel
theorem dX10_copy_103 : decode cX10_copy 103 = .ok (.getfield 229, 3) := by decide +kernel
theorem dX10_copy_106 : decode cX10_copy 106 = .ok (.iload_n 2, 1) := by decide +kernel
theorem dX10_copy_107 : decode cX10_copy 107 = .ok (.aload 7, 2) := by decide +kernel
theorem dX10_copy_109 : decode cX10_copy 109 = .ok (.getfield 229, 3) := by decide +kernel
theorem dX10_copy_112 : decode cX10_copy 112 = .ok (.iload 4, 2) := by decide +kernel
theorem dX10_copy_114 : decode cX10_copy 114 = .ok (.iload 5, 2) := by decide +kernel
theorem dX10_copy_116 : decode cX10_copy 116 = .ok (.invokestatic 232, 3) := by decide +kernel
theorem dX10_copy_119 : decode cX10_copy 119 = .ok (.iload 5, 2) := by decide +kernel
theorem dX10_copy_121 : decode cX10_copy 121 = .ok (.ireturn, 1) := by decide +kernel
set_option maxRecDepth 20000 in
theorem ggX10_tell_X10_millOf : GoodIn wsX10_tell wsX10_millOf := goodIn_r _ [6, 7, 8, 9, 10, 5, 11, 53, 54, 55, 56, 57, 58, 59, 60, 61, 62, 63] (by decide +kernel) (by decide +kernel)
set_option maxRecDepth 20000 in
theorem gX10_tell_X10_millOf : GoodIn wsX10_tell (wsV RX10 97 RX10 yX10_millOf wsX10_millOf) := goodIn_app (goodIn_of _ (by decide +kernel)) ggX10_tell_X10_millOf
set_option maxRecDepth 20000 in
theorem ggX10_tell_X3_telling : GoodIn wsX10_tell wsX3_telling := goodIn_r _ [18, 19, 20, 21, 22, 23, 24, 25, 13, 26, 27, 28, 29, 30, 31, 32, 33, 34, 35, 36, 37, 38, 39, 64, 65, 66, 67, 68, 69, 70] (by decide +kernel) (by decide +kernel)
set_option maxRecDepth 20000 in
theorem gX10_tell_X3_telling_u238X3 : GoodIn wsX10_tell (va_wsO RX10 238 RX3 "BallMinder$Plain" ⟨"BallMinder$Plain", "telling", "(LBallMinder$Trace;)I"⟩ yX3_telling wsX3_telling) := goodIn_app (goodIn_of _ (by decide +kernel)) ggX10_tell_X3_telling
set_option maxRecDepth 20000 in
theorem ggX10_tell_X4_telling : GoodIn wsX10_tell wsX4_telling := goodIn_r _ [29, 30, 31, 32, 33, 28, 34, 35, 36, 20, 21, 22, 23, 24, 37, 38, 39, 65, 66, 67, 68, 69, 70, 64] (by decide +kernel) (by decide +kernel)
set_option maxRecDepth 20000 in
theorem gX10_tell_X4_telling : GoodIn wsX10_tell (wsV RX10 238 RX4 yX4_telling wsX4_telling) := goodIn_app (goodIn_of _ (by decide +kernel)) ggX10_tell_X4_telling
set_option maxRecDepth 20000 in
theorem ggX10_tell_X7_telling : GoodIn wsX10_tell wsX7_telling := goodIn_r _ [45, 46, 20, 21, 22, 23, 24, 47, 48, 49, 16, 17, 18, 19, 25, 13, 26, 27, 28, 29, 30, 31, 32, 33, 34, 35, 36, 37, 38, 39, 50, 51, 52, 64, 65, 66, 67, 68, 69, 70] (by decide +kernel) (by decide +kernel)
set_option maxRecDepth 20000 in
theorem gX10_tell_X7_telling_u238X7 : GoodIn wsX10_tell (va_wsO RX10 238 RX7 "BallMinder$Plain" ⟨"BallMinder$Plain", "telling", "(LBallMinder$Trace;)I"⟩ yX7_telling wsX7_telling) := goodIn_app (goodIn_of _ (by decide +kernel)) ggX10_tell_X7_telling
theorem dX10_tell_0 : decode cX10_tell 0 = .ok (.aload_n 0, 1) := by decide +kernel
theorem dX10_tell_1 : decode cX10_tell 1 = .ok (.iload_n 1, 1) := by decide +kernel
theorem dX10_tell_2 : decode cX10_tell 2 = .ok (.invokevirtual 97, 3) := by decide +kernel
theorem dX10_tell_5 : decode cX10_tell 5 = .ok (.astore_n 2, 1) := by decide +kernel
theorem dX10_tell_6 : decode cX10_tell 6 = .ok (.aload_n 2, 1) := by decide +kernel
theorem dX10_tell_7 : decode cX10_tell 7 = .ok (.ifnonnull 7, 3) := by decide +kernel
theorem dX10_tell_10 : decode cX10_tell 10 = .ok (.iconst (-1), 1) := by decide +kernel
theorem dX10_tell_11 : decode cX10_tell 11 = .ok (.goto 11, 3) := by decide +kernel
theorem dX10_tell_14 : decode cX10_tell 14 = .ok (.aload_n 2, 1) := by decide +kernel
theorem dX10_tell_15 : decode cX10_tell 15 = .ok (.aload_n 0, 1) := by decide +kernel
theorem dX10_tell_16 : decode cX10_tell 16 = .ok (.getfield 58, 3) := by decide +kernel
theorem dX10_tell_19 : decode cX10_tell 19 = .ok (.invokevirtual 238, 3) := by decide +kernel
theorem dX10_tell_22 : decode cX10_tell 22 = .ok (.ireturn, 1) := by decide +kernel
set_option maxRecDepth 20000 in
theorem ggX10_ring_X10_millOf : GoodIn wsX10_ring wsX10_millOf := goodIn_r _ [6, 7, 8, 9, 10, 5, 11, 33, 34, 35, 36, 37, 38, 39, 40, 41, 42, 43] (by decide +kernel) (by decide +kernel)
set_option maxRecDepth 20000 in
theorem gX10_ring_X10_millOf : GoodIn wsX10_ring (wsV RX10 97 RX10 yX10_millOf wsX10_millOf) := goodIn_app (goodIn_of _ (by decide +kernel)) ggX10_ring_X10_millOf
set_option maxRecDepth 20000 in
theorem ggX10_ring_X4_rung : GoodIn wsX10_ring wsX4_rung := goodIn_r _ [17, 18, 19, 20, 21, 22, 23, 24, 44, 45, 46, 47, 48, 49, 50] (by decide +kernel) (by decide +kernel)
set_option maxRecDepth 20000 in
theorem gX10_ring_X4_rung_u242X3 : GoodIn wsX10_ring (va_wsU RX10 242 RX3 "BallMinder$Plain" ⟨"BallMinder$Plain", "rung", "(LBallMinder$Trace;)I"⟩ yX4_rung wsX4_rung) := goodIn_app (goodIn_of _ (by decide +kernel)) ggX10_ring_X4_rung
set_option maxRecDepth 20000 in
theorem gX10_ring_X4_rung : GoodIn wsX10_ring (wsV RX10 242 RX4 yX4_rung wsX4_rung) := goodIn_app (goodIn_of _ (by decide +kernel)) ggX10_ring_X4_rung
set_option maxRecDepth 20000 in
theorem ggX10_ring_X7_rung : GoodIn wsX10_ring wsX7_rung := goodIn_r _ [31, 32, 20, 21, 22, 23, 24, 50] (by decide +kernel) (by decide +kernel)
set_option maxRecDepth 20000 in
theorem gX10_ring_X7_rung_u242X7 : GoodIn wsX10_ring (va_wsO RX10 242 RX7 "BallMinder$Plain" ⟨"BallMinder$Plain", "rung", "(LBallMinder$Trace;)I"⟩ yX7_rung wsX7_rung) := goodIn_app (goodIn_of _ (by decide +kernel)) ggX10_ring_X7_rung
theorem dX10_ring_0 : decode cX10_ring 0 = .ok (.aload_n 0, 1) := by decide +kernel
theorem dX10_ring_1 : decode cX10_ring 1 = .ok (.iload_n 1, 1) := by decide +kernel
theorem dX10_ring_2 : decode cX10_ring 2 = .ok (.invokevirtual 97, 3) := by decide +kernel
theorem dX10_ring_5 : decode cX10_ring 5 = .ok (.astore_n 2, 1) := by decide +kernel
theorem dX10_ring_6 : decode cX10_ring 6 = .ok (.aload_n 2, 1) := by decide +kernel
theorem dX10_ring_7 : decode cX10_ring 7 = .ok (.ifnonnull 7, 3) := by decide +kernel
theorem dX10_ring_10 : decode cX10_ring 10 = .ok (.iconst (-1), 1) := by decide +kernel
theorem dX10_ring_11 : decode cX10_ring 11 = .ok (.goto 11, 3) := by decide +kernel
theorem dX10_ring_14 : decode cX10_ring 14 = .ok (.aload_n 2, 1) := by decide +kernel
theorem dX10_ring_15 : decode cX10_ring 15 = .ok (.aload_n 0, 1) := by decide +kernel
theorem dX10_ring_16 : decode cX10_ring 16 = .ok (.getfield 58, 3) := by decide +kernel
theorem dX10_ring_19 : decode cX10_ring 19 = .ok (.invokevirtual 242, 3) := by decide +kernel
theorem dX10_ring_22 : decode cX10_ring 22 = .ok (.ireturn, 1) := by decide +kernel
set_option maxRecDepth 20000 in
theorem ggX10_as_X10_millOf : GoodIn wsX10_as wsX10_millOf := goodIn_r _ [6, 7, 8, 9, 10, 5, 11, 32, 33, 34, 35, 36, 37, 38, 39, 40, 41, 42] (by decide +kernel) (by decide +kernel)
set_option maxRecDepth 20000 in
theorem gX10_as_X10_millOf : GoodIn wsX10_as (wsV RX10 97 RX10 yX10_millOf wsX10_millOf) := goodIn_app (goodIn_of _ (by decide +kernel)) ggX10_as_X10_millOf
set_option maxRecDepth 20000 in
theorem ggX10_as_X10_within : GoodIn wsX10_as wsX10_within := goodIn_r _ [11] (by decide +kernel) (by decide +kernel)
set_option maxRecDepth 20000 in
theorem gX10_as_X10_within : GoodIn wsX10_as (va_wsS RX10 71 yX10_within wsX10_within) := goodIn_app (goodIn_of _ (by decide +kernel)) ggX10_as_X10_within
set_option maxRecDepth 20000 in
theorem ggX10_as_X3_kind : GoodIn wsX10_as wsX3_kind := goodIn_r _ [18] (by decide +kernel) (by decide +kernel)
set_option maxRecDepth 20000 in
theorem gX10_as_X3_kind_u101X3 : GoodIn wsX10_as (va_wsO RX10 101 RX3 "BallMinder$Plain" ⟨"BallMinder$Plain", "kind", "()I"⟩ yX3_kind wsX3_kind) := goodIn_app (goodIn_of _ (by decide +kernel)) ggX10_as_X3_kind
set_option maxRecDepth 20000 in
theorem ggX10_as_X4_kind : GoodIn wsX10_as wsX4_kind := goodIn_r _ [19] (by decide +kernel) (by decide +kernel)
set_option maxRecDepth 20000 in
theorem gX10_as_X4_kind : GoodIn wsX10_as (wsV RX10 101 RX4 yX4_kind wsX4_kind) := goodIn_app (goodIn_of _ (by decide +kernel)) ggX10_as_X4_kind
set_option maxRecDepth 20000 in
theorem ggX10_as_X7_kind : GoodIn wsX10_as wsX7_kind := goodIn_r _ [27] (by decide +kernel) (by decide +kernel)
set_option maxRecDepth 20000 in
theorem gX10_as_X7_kind_u101X7 : GoodIn wsX10_as (va_wsO RX10 101 RX7 "BallMinder$Plain" ⟨"BallMinder$Plain", "kind", "()I"⟩ yX7_kind wsX7_kind) := goodIn_app (goodIn_of _ (by decide +kernel)) ggX10_as_X7_kind
set_option maxRecDepth 20000 in
theorem ggX10_as_X10_faulted : GoodIn wsX10_as wsX10_faulted := goodIn_r _ [31, 1, 32, 33, 34, 35, 36, 37, 38, 39, 40, 41, 42] (by decide +kernel) (by decide +kernel)
set_option maxRecDepth 20000 in
theorem gX10_as_X10_faulted : GoodIn wsX10_as (wsV RX10 79 RX10 yX10_faulted wsX10_faulted) := goodIn_app (goodIn_of _ (by decide +kernel)) ggX10_as_X10_faulted
theorem dX10_as_0 : decode cX10_as 0 = .ok (.aload_n 0, 1) := by decide +kernel
theorem dX10_as_1 : decode cX10_as 1 = .ok (.iconst 0, 1) := by decide +kernel
theorem dX10_as_2 : decode cX10_as 2 = .ok (.putfield 63, 3) := by decide +kernel
theorem dX10_as_5 : decode cX10_as 5 = .ok (.aload_n 0, 1) := by decide +kernel
theorem dX10_as_6 : decode cX10_as 6 = .ok (.iload_n 1, 1) := by decide +kernel
theorem dX10_as_7 : decode cX10_as 7 = .ok (.invokevirtual 97, 3) := by decide +kernel
theorem dX10_as_10 : decode cX10_as 10 = .ok (.astore_n 3, 1) := by decide +kernel
theorem dX10_as_11 : decode cX10_as 11 = .ok (.aload_n 3, 1) := by decide +kernel
theorem dX10_as_12 : decode cX10_as 12 = .ok (.ifnonnull 5, 3) := by decide +kernel
theorem dX10_as_15 : decode cX10_as 15 = .ok (.iconst (-1), 1) := by decide +kernel
theorem dX10_as_16 : decode cX10_as 16 = .ok (.ireturn, 1) := by decide +kernel
theorem dX10_as_17 : decode cX10_as 17 = .ok (.iload_n 2, 1) := by decide +kernel
theorem dX10_as_18 : decode cX10_as 18 = .ok (.iconst 0, 1) := by decide +kernel
theorem dX10_as_19 : decode cX10_as 19 = .ok (.iconst 2, 1) := by decide +kernel
theorem dX10_as_20 : decode cX10_as 20 = .ok (.invokestatic 71, 3) := by decide +kernel
theorem dX10_as_23 : decode cX10_as 23 = .ok (.ifCond .ne 6, 3) := by decide +kernel
theorem dX10_as_26 : decode cX10_as 26 = .ok (.bipush (-2), 2) := by decide +kernel
theorem dX10_as_28 : decode cX10_as 28 = .ok (.ireturn, 1) := by decide +kernel
theorem dX10_as_29 : decode cX10_as 29 = .ok (.aload_n 3, 1) := by decide +kernel
theorem dX10_as_30 : decode cX10_as 30 = .ok (.invokevirtual 101, 3) := by decide +kernel
theorem dX10_as_33 : decode cX10_as 33 = .ok (.iload_n 2, 1) := by decide +kernel
theorem dX10_as_34 : decode cX10_as 34 = .ok (.if_icmp .lt 7, 3) := by decide +kernel
theorem dX10_as_37 : decode cX10_as 37 = .ok (.iconst 1, 1) := by decide +kernel
theorem dX10_as_38 : decode cX10_as 38 = .ok (.goto 8, 3) := by decide +kernel
theorem dX10_as_41 : decode cX10_as 41 = .ok (.aload_n 0, 1) := by decide +kernel
theorem dX10_as_42 : decode cX10_as 42 = .ok (.iconst 2, 1) := by decide +kernel
theorem dX10_as_43 : decode cX10_as 43 = .ok (.invokevirtual 79, 3) := by decide +kernel
theorem dX10_as_46 : decode cX10_as 46 = .ok (.ireturn, 1) := by decide +kernel
theorem dX10_trace_0 : decode cX10_trace 0 = .ok (.aload_n 0, 1) := by decide +kernel
theorem dX10_trace_1 : decode cX10_trace 1 = .ok (.getfield 58, 3) := by decide +kernel
theorem dX10_trace_4 : decode cX10_trace 4 = .ok (.getfield 245, 3) := by decide +kernel
theorem dX10_trace_7 : decode cX10_trace 7 = .ok (.ireturn, 1) := by decide +kernel
theorem dX10_fault_0 : decode cX10_fault 0 = .ok (.aload_n 0, 1) := by decide +kernel
theorem dX10_fault_1 : decode cX10_fault 1 = .ok (.getfield 63, 3) := by decide +kernel
theorem dX10_fault_4 : decode cX10_fault 4 = .ok (.ireturn, 1) := by decide +kernel
set_option maxRecDepth 20000 in
theorem ggX10_many_X10_within : GoodIn wsX10_many wsX10_within := goodIn_r _ [6] (by decide +kernel) (by decide +kernel)
set_option maxRecDepth 20000 in
theorem gX10_many_X10_within : GoodIn wsX10_many (va_wsS RX10 71 yX10_within wsX10_within) := goodIn_app (goodIn_of _ (by decide +kernel)) ggX10_many_X10_within
theorem dX10_many_0 : decode cX10_many 0 = .ok (.iload_n 1, 1) := by decide +kernel
theorem dX10_many_1 : decode cX10_many 1 = .ok (.iconst 0, 1) := by decide +kernel
theorem dX10_many_2 : decode cX10_many 2 = .ok (.iconst 1, 1) := by decide +kernel
theorem dX10_many_3 : decode cX10_many 3 = .ok (.invokestatic 71, 3) := by decide +kernel
theorem dX10_many_6 : decode cX10_many 6 = .ok (.ifCond .ne 6, 3) := by decide +kernel
theorem dX10_many_9 : decode cX10_many 9 = .ok (.bipush (-2), 2) := by decide +kernel
theorem dX10_many_11 : decode cX10_many 11 = .ok (.ireturn, 1) := by decide +kernel
theorem dX10_many_12 : decode cX10_many 12 = .ok (.iload_n 1, 1) := by decide +kernel
theorem dX10_many_13 : decode cX10_many 13 = .ok (.ifCond .ne 10, 3) := by decide +kernel
theorem dX10_many_16 : decode cX10_many 16 = .ok (.aload_n 0, 1) := by decide +kernel
theorem dX10_many_17 : decode cX10_many 17 = .ok (.getfield 87, 3) := by decide +kernel
theorem dX10_many_20 : decode cX10_many 20 = .ok (.goto 7, 3) := by decide +kernel
theorem dX10_many_23 : decode cX10_many 23 = .ok (.aload_n 0, 1) := by decide +kernel
theorem dX10_many_24 : decode cX10_many 24 = .ok (.getfield 197, 3) := by decide +kernel
theorem dX10_many_27 : decode cX10_many 27 = .ok (.ireturn, 1) := by decide +kernel
theorem dX10_within_0 : decode cX10_within 0 = .ok (.iload_n 0, 1) := by decide +kernel
theorem dX10_within_1 : decode cX10_within 1 = .ok (.iload_n 1, 1) := by decide +kernel
theorem dX10_within_2 : decode cX10_within 2 = .ok (.if_icmp .lt 12, 3) := by decide +kernel
theorem dX10_within_5 : decode cX10_within 5 = .ok (.iload_n 0, 1) := by decide +kernel
theorem dX10_within_6 : decode cX10_within 6 = .ok (.iload_n 2, 1) := by decide +kernel
theorem dX10_within_7 : decode cX10_within 7 = .ok (.if_icmp .gt 7, 3) := by decide +kernel
theorem dX10_within_10 : decode cX10_within 10 = .ok (.iconst 1, 1) := by decide +kernel
theorem dX10_within_11 : decode cX10_within 11 = .ok (.goto 4, 3) := by decide +kernel
theorem dX10_within_14 : decode cX10_within 14 = .ok (.iconst 0, 1) := by decide +kernel
theorem dX10_within_15 : decode cX10_within 15 = .ok (.ireturn, 1) := by decide +kernel
theorem dX10_bounded_0 : decode cX10_bounded 0 = .ok (.iload_n 0, 1) := by decide +kernel
theorem dX10_bounded_1 : decode cX10_bounded 1 = .ok (.iload_n 1, 1) := by decide +kernel
theorem dX10_bounded_2 : decode cX10_bounded 2 = .ok (.if_icmp .ge 5, 3) := by decide +kernel
theorem dX10_bounded_5 : decode cX10_bounded 5 = .ok (.iload_n 1, 1) := by decide +kernel
theorem dX10_bounded_6 : decode cX10_bounded 6 = .ok (.ireturn, 1) := by decide +kernel
theorem dX10_bounded_7 : decode cX10_bounded 7 = .ok (.iload_n 0, 1) := by decide +kernel
theorem dX10_bounded_8 : decode cX10_bounded 8 = .ok (.iload_n 2, 1) := by decide +kernel
theorem dX10_bounded_9 : decode cX10_bounded 9 = .ok (.if_icmp .le 7, 3) := by decide +kernel
theorem dX10_bounded_12 : decode cX10_bounded 12 = .ok (.iload_n 2, 1) := by decide +kernel
theorem dX10_bounded_13 : decode cX10_bounded 13 = .ok (.goto 4, 3) := by decide +kernel
theorem dX10_bounded_16 : decode cX10_bounded 16 = .ok (.iload_n 0, 1) := by decide +kernel
theorem dX10_bounded_17 : decode cX10_bounded 17 = .ok (.ireturn, 1) := by decide +kernel
theorem dX10_quotient_0 : decode cX10_quotient 0 = .ok (.iload_n 1, 1) := by decide +kernel
theorem dX10_quotient_1 : decode cX10_quotient 1 = .ok (.ifCond .ne 7, 3) := by decide +kernel
theorem dX10_quotient_4 : decode cX10_quotient 4 = .ok (.iconst 0, 1) := by decide +kernel
theorem dX10_quotient_5 : decode cX10_quotient 5 = .ok (.goto 6, 3) := by decide +kernel
theorem dX10_quotient_8 : decode cX10_quotient 8 = .ok (.iload_n 0, 1) := by decide +kernel
theorem dX10_quotient_9 : decode cX10_quotient 9 = .ok (.iload_n 1, 1) := by decide +kernel
theorem dX10_quotient_10 : decode cX10_quotient 10 = .ok (.idiv, 1) := by decide +kernel
theorem dX10_quotient_11 : decode cX10_quotient 11 = .ok (.ireturn, 1) := by decide +kernel
set_option maxRecDepth 20000 in
theorem ggX10_inLeastTerms_X10_greatestCommon : GoodIn wsX10_inLeastTerms wsX10_greatestCommon := goodIn_r _ [9] (by decide +kernel) (by decide +kernel)
set_option maxRecDepth 20000 in
theorem gX10_inLeastTerms_X10_greatestCommon : GoodIn wsX10_inLeastTerms (va_wsS RX10 254 yX10_greatestCommon wsX10_greatestCommon) := goodIn_app (goodIn_of _ (by decide +kernel)) ggX10_inLeastTerms_X10_greatestCommon
theorem dX10_inLeastTerms_0 : decode cX10_inLeastTerms 0 = .ok (.lload_n 0, 1) := by decide +kernel
theorem dX10_inLeastTerms_1 : decode cX10_inLeastTerms 1 = .ok (.invokestatic 248, 3) := by decide +kernel
theorem dX10_inLeastTerms_4 : decode cX10_inLeastTerms 4 = .ok (.lload_n 2, 1) := by decide +kernel
theorem dX10_inLeastTerms_5 : decode cX10_inLeastTerms 5 = .ok (.invokestatic 254, 3) := by decide +kernel
theorem dX10_inLeastTerms_8 : decode cX10_inLeastTerms 8 = .ok (.lstore 5, 2) := by decide +kernel
theorem dX10_inLeastTerms_10 : decode cX10_inLeastTerms 10 = .ok (.lload 5, 2) := by decide +kernel
theorem dX10_inLeastTerms_12 : decode cX10_inLeastTerms 12 = .ok (.lconst 0, 1) := by decide +kernel
theorem dX10_inLeastTerms_13 : decode cX10_inLeastTerms 13 = .ok (.lcmp, 1) := by decide +kernel
theorem dX10_inLeastTerms_14 : decode cX10_inLeastTerms 14 = .ok (.ifCond .gt 7, 3) := by decide +kernel
theorem dX10_inLeastTerms_17 : decode cX10_inLeastTerms 17 = .ok (.ldc2_w 112, 3) := by decide +kernel
theorem dX10_inLeastTerms_20 : decode cX10_inLeastTerms 20 = .ok (.lreturn, 1) := by decide +kernel
theorem dX10_inLeastTerms_21 : decode cX10_inLeastTerms 21 = .ok (.iload 4, 2) := by decide +kernel
theorem dX10_inLeastTerms_23 : decode cX10_inLeastTerms 23 = .ok (.ifCond .ne 7, 3) := by decide +kernel
theorem dX10_inLeastTerms_26 : decode cX10_inLeastTerms 26 = .ok (.lload_n 0, 1) := by decide +kernel
theorem dX10_inLeastTerms_27 : decode cX10_inLeastTerms 27 = .ok (.goto 4, 3) := by decide +kernel
theorem dX10_inLeastTerms_30 : decode cX10_inLeastTerms 30 = .ok (.lload_n 2, 1) := by decide +kernel
theorem dX10_inLeastTerms_31 : decode cX10_inLeastTerms 31 = .ok (.lload 5, 2) := by decide +kernel
theorem dX10_inLeastTerms_33 : decode cX10_inLeastTerms 33 = .ok (.ldiv, 1) := by decide +kernel
theorem dX10_inLeastTerms_34 : decode cX10_inLeastTerms 34 = .ok (.lreturn, 1) := by decide +kernel
theorem dX10_greatestCommon_0 : decode cX10_greatestCommon 0 = .ok (.iconst 0, 1) := by decide +kernel
theorem dX10_greatestCommon_1 : decode cX10_greatestCommon 1 = .ok (.istore 4, 2) := by decide +kernel
theorem dX10_greatestCommon_3 : decode cX10_greatestCommon 3 = .ok (.iload 4, 2) := by decide +kernel
theorem dX10_greatestCommon_5 : decode cX10_greatestCommon 5 = .ok (.sipush 128, 3) := by decide +kernel
theorem dX10_greatestCommon_8 : decode cX10_greatestCommon 8 = .ok (.if_icmp .ge 25, 3) := by decide +kernel
theorem dX10_greatestCommon_11 : decode cX10_greatestCommon 11 = .ok (.lload_n 2, 1) := by decide +kernel
theorem dX10_greatestCommon_12 : decode cX10_greatestCommon 12 = .ok (.lconst 0, 1) := by decide +kernel
theorem dX10_greatestCommon_13 : decode cX10_greatestCommon 13 = .ok (.lcmp, 1) := by decide +kernel
theorem dX10_greatestCommon_14 : decode cX10_greatestCommon 14 = .ok (.ifCond .eq 19, 3) := by decide +kernel
theorem dX10_greatestCommon_17 : decode cX10_greatestCommon 17 = .ok (.lload_n 0, 1) := by decide +kernel
theorem dX10_greatestCommon_18 : decode cX10_greatestCommon 18 = .ok (.lload_n 2, 1) := by decide +kernel
theorem dX10_greatestCommon_19 : decode cX10_greatestCommon 19 = .ok (.lrem, 1) := by decide +kernel
theorem dX10_greatestCommon_20 : decode cX10_greatestCommon 20 = .ok (.lstore 5, 2) := by decide +kernel
theorem dX10_greatestCommon_22 : decode cX10_greatestCommon 22 = .ok (.lload_n 2, 1) := by decide +kernel
theorem dX10_greatestCommon_23 : decode cX10_greatestCommon 23 = .ok (.lstore_n 0, 1) := by decide +kernel
theorem dX10_greatestCommon_24 : decode cX10_greatestCommon 24 = .ok (.lload 5, 2) := by decide +kernel
theorem dX10_greatestCommon_26 : decode cX10_greatestCommon 26 = .ok (.lstore_n 2, 1) := by decide +kernel
theorem dX10_greatestCommon_27 : decode cX10_greatestCommon 27 = .ok (.iinc 4 1, 3) := by decide +kernel
theorem dX10_greatestCommon_30 : decode cX10_greatestCommon 30 = .ok (.goto (-27), 3) := by decide +kernel
theorem dX10_greatestCommon_33 : decode cX10_greatestCommon 33 = .ok (.lload_n 0, 1) := by decide +kernel
theorem dX10_greatestCommon_34 : decode cX10_greatestCommon 34 = .ok (.lreturn, 1) := by decide +kernel
set_option maxRecDepth 20000 in
theorem ggX10_madeMill_X7_init : GoodIn wsX10_madeMill wsX7_init := goodIn_r _ [12, 13, 14, 6, 15, 16, 17, 9, 18, 19, 20, 21, 22, 23, 24, 25, 26, 27, 28, 29, 34, 35, 36, 37, 32, 33] (by decide +kernel) (by decide +kernel)
set_option maxRecDepth 20000 in
theorem gX10_madeMill_X7_init : GoodIn wsX10_madeMill (wsX7_init) := ggX10_madeMill_X7_init
set_option maxRecDepth 20000 in
theorem ggX10_madeMill_X3_init : GoodIn wsX10_madeMill wsX3_init := goodIn_r _ [15, 16, 17, 9, 18, 19, 20, 21, 22, 23, 24, 25, 26, 27, 28, 29, 34, 35, 36, 37, 32, 33] (by decide +kernel) (by decide +kernel)
set_option maxRecDepth 20000 in
theorem gX10_madeMill_X3_init : GoodIn wsX10_madeMill (wsX3_init) := ggX10_madeMill_X3_init
set_option maxRecDepth 20000 in
theorem ggX10_madeMill_X4_init : GoodIn wsX10_madeMill wsX4_init := goodIn_r _ [18, 19, 20, 21, 22, 23, 24, 25, 26, 27, 28, 29, 34, 35, 36, 37, 32, 33] (by decide +kernel) (by decide +kernel)
set_option maxRecDepth 20000 in
theorem gX10_madeMill_X4_init : GoodIn wsX10_madeMill (wsX4_init) := ggX10_madeMill_X4_init
theorem dX10_madeMill_0 : decode cX10_madeMill 0 = .ok (.iload_n 0, 1) := by decide +kernel
theorem dX10_madeMill_1 : decode cX10_madeMill 1 = .ok (.iconst 2, 1) := by decide +kernel
theorem dX10_madeMill_2 : decode cX10_madeMill 2 = .ok (.if_icmp .ne 13, 3) := by decide +kernel
theorem dX10_madeMill_5 : decode cX10_madeMill 5 = .ok (.new 258, 3) := by decide +kernel
theorem dX10_madeMill_8 : decode cX10_madeMill 8 = .ok (.dup, 1) := by decide +kernel
theorem dX10_madeMill_9 : decode cX10_madeMill 9 = .ok (.iload_n 1, 1) := by decide +kernel
theorem dX10_madeMill_10 : decode cX10_madeMill 10 = .ok (.aload_n 2, 1) := by decide +kernel
theorem dX10_madeMill_11 : decode cX10_madeMill 11 = .ok (.invokespecial 260, 3) := by decide +kernel
theorem dX10_madeMill_14 : decode cX10_madeMill 14 = .ok (.areturn, 1) := by decide +kernel
theorem dX10_madeMill_15 : decode cX10_madeMill 15 = .ok (.iload_n 0, 1) := by decide +kernel
theorem dX10_madeMill_16 : decode cX10_madeMill 16 = .ok (.iconst 1, 1) := by decide +kernel
theorem dX10_madeMill_17 : decode cX10_madeMill 17 = .ok (.if_icmp .ne 15, 3) := by decide +kernel
theorem dX10_madeMill_20 : decode cX10_madeMill 20 = .ok (.new 263, 3) := by decide +kernel
theorem dX10_madeMill_23 : decode cX10_madeMill 23 = .ok (.dup, 1) := by decide +kernel
theorem dX10_madeMill_24 : decode cX10_madeMill 24 = .ok (.iload_n 1, 1) := by decide +kernel
theorem dX10_madeMill_25 : decode cX10_madeMill 25 = .ok (.aload_n 2, 1) := by decide +kernel
theorem dX10_madeMill_26 : decode cX10_madeMill 26 = .ok (.invokespecial 265, 3) := by decide +kernel
theorem dX10_madeMill_29 : decode cX10_madeMill 29 = .ok (.goto 12, 3) := by decide +kernel
theorem dX10_madeMill_32 : decode cX10_madeMill 32 = .ok (.new 11, 3) := by decide +kernel
theorem dX10_madeMill_35 : decode cX10_madeMill 35 = .ok (.dup, 1) := by decide +kernel
theorem dX10_madeMill_36 : decode cX10_madeMill 36 = .ok (.iload_n 1, 1) := by decide +kernel
theorem dX10_madeMill_37 : decode cX10_madeMill 37 = .ok (.aload_n 2, 1) := by decide +kernel
theorem dX10_madeMill_38 : decode cX10_madeMill 38 = .ok (.invokespecial 266, 3) := by decide +kernel
theorem dX10_madeMill_41 : decode cX10_madeMill 41 = .ok (.areturn, 1) := by decide +kernel
set_option maxRecDepth 20000 in
theorem ggX10_canRun_X10_within : GoodIn wsX10_canRun wsX10_within := goodIn_r _ [4] (by decide +kernel) (by decide +kernel)
set_option maxRecDepth 20000 in
theorem gX10_canRun_X10_within : GoodIn wsX10_canRun (va_wsS RX10 71 yX10_within wsX10_within) := goodIn_app (goodIn_of _ (by decide +kernel)) ggX10_canRun_X10_within
theorem dX10_canRun_0 : decode cX10_canRun 0 = .ok (.iload_n 0, 1) := by decide +kernel
theorem dX10_canRun_1 : decode cX10_canRun 1 = .ok (.iconst 0, 1) := by decide +kernel
theorem dX10_canRun_2 : decode cX10_canRun 2 = .ok (.sipush 999, 3) := by decide +kernel
theorem dX10_canRun_5 : decode cX10_canRun 5 = .ok (.invokestatic 71, 3) := by decide +kernel
theorem dX10_canRun_8 : decode cX10_canRun 8 = .ok (.ifCond .eq 27, 3) := by decide +kernel
theorem dX10_canRun_11 : decode cX10_canRun 11 = .ok (.iload_n 1, 1) := by decide +kernel
theorem dX10_canRun_12 : decode cX10_canRun 12 = .ok (.iconst 0, 1) := by decide +kernel
theorem dX10_canRun_13 : decode cX10_canRun 13 = .ok (.bipush 100, 2) := by decide +kernel
theorem dX10_canRun_15 : decode cX10_canRun 15 = .ok (.invokestatic 71, 3) := by decide +kernel
theorem dX10_canRun_18 : decode cX10_canRun 18 = .ok (.ifCond .eq 17, 3) := by decide +kernel
theorem dX10_canRun_21 : decode cX10_canRun 21 = .ok (.iload_n 2, 1) := by decide +kernel
theorem dX10_canRun_22 : decode cX10_canRun 22 = .ok (.iconst 0, 1) := by decide +kernel
theorem dX10_canRun_23 : decode cX10_canRun 23 = .ok (.bipush 100, 2) := by decide +kernel
theorem dX10_canRun_25 : decode cX10_canRun 25 = .ok (.invokestatic 71, 3) := by decide +kernel
theorem dX10_canRun_28 : decode cX10_canRun 28 = .ok (.ifCond .eq 7, 3) := by decide +kernel
theorem dX10_canRun_31 : decode cX10_canRun 31 = .ok (.iconst 1, 1) := by decide +kernel
theorem dX10_canRun_32 : decode cX10_canRun 32 = .ok (.goto 4, 3) := by decide +kernel
theorem dX10_canRun_35 : decode cX10_canRun 35 = .ok (.iconst 0, 1) := by decide +kernel
theorem dX10_canRun_36 : decode cX10_canRun 36 = .ok (.ireturn, 1) := by decide +kernel
set_option maxRecDepth 20000 in
theorem ggX10_areBeats_X6_at : GoodIn wsX10_areBeats wsX6_at := goodIn_r _ [5, 6, 7, 8, 9, 4, 10, 11, 12, 13, 14, 16, 17, 18, 19] (by decide +kernel) (by decide +kernel)
set_option maxRecDepth 20000 in
theorem gX10_areBeats_X6_at : GoodIn wsX10_areBeats (wsV RX10 194 RX6 yX6_at wsX6_at) := goodIn_app (goodIn_of _ (by decide +kernel)) ggX10_areBeats_X6_at
set_option maxRecDepth 20000 in
theorem ggX10_areBeats_X10_within : GoodIn wsX10_areBeats wsX10_within := goodIn_r _ [14] (by decide +kernel) (by decide +kernel)
set_option maxRecDepth 20000 in
theorem gX10_areBeats_X10_within : GoodIn wsX10_areBeats (va_wsS RX10 71 yX10_within wsX10_within) := goodIn_app (goodIn_of _ (by decide +kernel)) ggX10_areBeats_X10_within
theorem dX10_areBeats_0 : decode cX10_areBeats 0 = .ok (.iconst 0, 1) := by decide +kernel
theorem dX10_areBeats_1 : decode cX10_areBeats 1 = .ok (.istore_n 3, 1) := by decide +kernel
theorem dX10_areBeats_2 : decode cX10_areBeats 2 = .ok (.iload_n 3, 1) := by decide +kernel
theorem dX10_areBeats_3 : decode cX10_areBeats 3 = .ok (.iload_n 2, 1) := by decide +kernel
theorem dX10_areBeats_4 : decode cX10_areBeats 4 = .ok (.if_icmp .ge 28, 3) := by decide +kernel
theorem dX10_areBeats_7 : decode cX10_areBeats 7 = .ok (.aload_n 0, 1) := by decide +kernel
theorem dX10_areBeats_8 : decode cX10_areBeats 8 = .ok (.iload_n 1, 1) := by decide +kernel
theorem dX10_areBeats_9 : decode cX10_areBeats 9 = .ok (.iload_n 3, 1) := by decide +kernel
theorem dX10_areBeats_10 : decode cX10_areBeats 10 = .ok (.iadd, 1) := by decide +kernel
theorem dX10_areBeats_11 : decode cX10_areBeats 11 = .ok (.invokevirtual 194, 3) := by decide +kernel
theorem dX10_areBeats_14 : decode cX10_areBeats 14 = .ok (.iconst 0, 1) := by decide +kernel
theorem dX10_areBeats_15 : decode cX10_areBeats 15 = .ok (.sipush 999, 3) := by decide +kernel
theorem dX10_areBeats_18 : decode cX10_areBeats 18 = .ok (.invokestatic 71, 3) := by decide +kernel
theorem dX10_areBeats_21 : decode cX10_areBeats 21 = .ok (.ifCond .ne 5, 3) := by decide +kernel
theorem dX10_areBeats_24 : decode cX10_areBeats 24 = .ok (.iconst 0, 1) := by decide +kernel
theorem dX10_areBeats_25 : decode cX10_areBeats 25 = .ok (.ireturn, 1) := by decide +kernel
theorem dX10_areBeats_26 : decode cX10_areBeats 26 = .ok (.iinc 3 1, 3) := by decide +kernel
theorem dX10_areBeats_29 : decode cX10_areBeats 29 = .ok (.goto (-27), 3) := by decide +kernel
theorem dX10_areBeats_32 : decode cX10_areBeats 32 = .ok (.iconst 1, 1) := by decide +kernel
theorem dX10_areBeats_33 : decode cX10_areBeats 33 = .ok (.ireturn, 1) := by decide +kernel
set_option maxRecDepth 20000 in
theorem ggX10_millOf_X10_within : GoodIn wsX10_millOf wsX10_within := goodIn_r _ [6] (by decide +kernel) (by decide +kernel)
set_option maxRecDepth 20000 in
theorem gX10_millOf_X10_within : GoodIn wsX10_millOf (va_wsS RX10 71 yX10_within wsX10_within) := goodIn_app (goodIn_of _ (by decide +kernel)) ggX10_millOf_X10_within
theorem dX10_millOf_0 : decode cX10_millOf 0 = .ok (.iload_n 1, 1) := by decide +kernel
theorem dX10_millOf_1 : decode cX10_millOf 1 = .ok (.iconst 0, 1) := by decide +kernel
theorem dX10_millOf_2 : decode cX10_millOf 2 = .ok (.aload_n 0, 1) := by decide +kernel
theorem dX10_millOf_3 : decode cX10_millOf 3 = .ok (.getfield 87, 3) := by decide +kernel
theorem dX10_millOf_6 : decode cX10_millOf 6 = .ok (.iconst 1, 1) := by decide +kernel
theorem dX10_millOf_7 : decode cX10_millOf 7 = .ok (.isub, 1) := by decide +kernel
theorem dX10_millOf_8 : decode cX10_millOf 8 = .ok (.invokestatic 71, 3) := by decide +kernel
theorem dX10_millOf_11 : decode cX10_millOf 11 = .ok (.ifCond .eq 12, 3) := by decide +kernel
theorem dX10_millOf_14 : decode cX10_millOf 14 = .ok (.aload_n 0, 1) := by decide +kernel
theorem dX10_millOf_15 : decode cX10_millOf 15 = .ok (.getfield 13, 3) := by decide +kernel
theorem dX10_millOf_18 : decode cX10_millOf 18 = .ok (.iload_n 1, 1) := by decide +kernel
theorem dX10_millOf_19 : decode cX10_millOf 19 = .ok (.aaload, 1) := by decide +kernel
theorem dX10_millOf_20 : decode cX10_millOf 20 = .ok (.goto 4, 3) := by decide +kernel
theorem dX10_millOf_23 : decode cX10_millOf 23 = .ok (.aconst_null, 1) := by decide +kernel
theorem dX10_millOf_24 : decode cX10_millOf 24 = .ok (.areturn, 1) := by decide +kernel
set_option maxRecDepth 20000 in
theorem ggX10_sheetOf_X10_within : GoodIn wsX10_sheetOf wsX10_within := goodIn_r _ [5] (by decide +kernel) (by decide +kernel)
set_option maxRecDepth 20000 in
theorem gX10_sheetOf_X10_within : GoodIn wsX10_sheetOf (va_wsS RX10 71 yX10_within wsX10_within) := goodIn_app (goodIn_of _ (by decide +kernel)) ggX10_sheetOf_X10_within
theorem dX10_sheetOf_0 : decode cX10_sheetOf 0 = .ok (.iload_n 1, 1) := by decide +kernel
theorem dX10_sheetOf_1 : decode cX10_sheetOf 1 = .ok (.iconst 0, 1) := by decide +kernel
theorem dX10_sheetOf_2 : decode cX10_sheetOf 2 = .ok (.iconst 3, 1) := by decide +kernel
theorem dX10_sheetOf_3 : decode cX10_sheetOf 3 = .ok (.invokestatic 71, 3) := by decide +kernel
theorem dX10_sheetOf_6 : decode cX10_sheetOf 6 = .ok (.ifCond .eq 12, 3) := by decide +kernel
theorem dX10_sheetOf_9 : decode cX10_sheetOf 9 = .ok (.aload_n 0, 1) := by decide +kernel
theorem dX10_sheetOf_10 : decode cX10_sheetOf 10 = .ok (.getfield 19, 3) := by decide +kernel
theorem dX10_sheetOf_13 : decode cX10_sheetOf 13 = .ok (.iload_n 1, 1) := by decide +kernel
theorem dX10_sheetOf_14 : decode cX10_sheetOf 14 = .ok (.aaload, 1) := by decide +kernel
theorem dX10_sheetOf_15 : decode cX10_sheetOf 15 = .ok (.goto 4, 3) := by decide +kernel
theorem dX10_sheetOf_18 : decode cX10_sheetOf 18 = .ok (.aconst_null, 1) := by decide +kernel
theorem dX10_sheetOf_19 : decode cX10_sheetOf 19 = .ok (.areturn, 1) := by decide +kernel
theorem dX10_faulted_0 : decode cX10_faulted 0 = .ok (.aload_n 0, 1) := by decide +kernel
theorem dX10_faulted_1 : decode cX10_faulted 1 = .ok (.iload_n 1, 1) := by decide +kernel
theorem dX10_faulted_2 : decode cX10_faulted 2 = .ok (.putfield 63, 3) := by decide +kernel
theorem dX10_faulted_5 : decode cX10_faulted 5 = .ok (.bipush (-10), 2) := by decide +kernel
theorem dX10_faulted_7 : decode cX10_faulted 7 = .ok (.iload_n 1, 1) := by decide +kernel
theorem dX10_faulted_8 : decode cX10_faulted 8 = .ok (.isub, 1) := by decide +kernel
theorem dX10_faulted_9 : decode cX10_faulted 9 = .ok (.ireturn, 1) := by decide +kernel
set_option maxRecDepth 20000 in
theorem ggX10_marginOf_X8_draw : GoodIn wsX10_marginOf wsX8_draw := goodIn_r _ [7, 8, 9, 31, 32] (by decide +kernel) (by decide +kernel)
set_option maxRecDepth 20000 in
theorem gX10_marginOf_X8_draw : GoodIn wsX10_marginOf (wsV RX10 114 RX8 yX8_draw wsX8_draw) := goodIn_app (goodIn_of _ (by decide +kernel)) ggX10_marginOf_X8_draw
set_option maxRecDepth 20000 in
theorem ggX10_marginOf_X8_clearance : GoodIn wsX10_marginOf wsX8_clearance := goodIn_r _ [13, 9, 8, 31, 32] (by decide +kernel) (by decide +kernel)
set_option maxRecDepth 20000 in
theorem gX10_marginOf_X8_clearance : GoodIn wsX10_marginOf (wsV RX10 267 RX8 yX8_clearance wsX8_clearance) := goodIn_app (goodIn_of _ (by decide +kernel)) ggX10_marginOf_X8_clearance
theorem dX10_marginOf_0 : decode cX10_marginOf 0 = .ok (.aload_n 0, 1) := by decide +kernel
theorem dX10_marginOf_1 : decode cX10_marginOf 1 = .ok (.getfield 37, 3) := by decide +kernel
theorem dX10_marginOf_4 : decode cX10_marginOf 4 = .ok (.aload_n 1, 1) := by decide +kernel
theorem dX10_marginOf_5 : decode cX10_marginOf 5 = .ok (.getfield 105, 3) := by decide +kernel
theorem dX10_marginOf_8 : decode cX10_marginOf 8 = .ok (.invokevirtual 114, 3) := by decide +kernel
theorem dX10_marginOf_11 : decode cX10_marginOf 11 = .ok (.aload_n 0, 1) := by decide +kernel
theorem dX10_marginOf_12 : decode cX10_marginOf 12 = .ok (.getfield 37, 3) := by decide +kernel
theorem dX10_marginOf_15 : decode cX10_marginOf 15 = .ok (.invokevirtual 267, 3) := by decide +kernel
theorem dX10_marginOf_18 : decode cX10_marginOf 18 = .ok (.lreturn, 1) := by decide +kernel
set_option maxRecDepth 20000 in
theorem ggX10_standingOf_X8_draw : GoodIn wsX10_standingOf wsX8_draw := goodIn_r _ [7, 8, 9, 35, 36] (by decide +kernel) (by decide +kernel)
set_option maxRecDepth 20000 in
theorem gX10_standingOf_X8_draw : GoodIn wsX10_standingOf (wsV RX10 114 RX8 yX8_draw wsX8_draw) := goodIn_app (goodIn_of _ (by decide +kernel)) ggX10_standingOf_X8_draw
set_option maxRecDepth 20000 in
theorem ggX10_standingOf_X8_standing : GoodIn wsX10_standingOf wsX8_standing := goodIn_r _ [13, 9, 8, 14, 15, 16, 6, 17, 35, 36] (by decide +kernel) (by decide +kernel)
set_option maxRecDepth 20000 in
theorem gX10_standingOf_X8_standing : GoodIn wsX10_standingOf (wsV RX10 271 RX8 yX8_standing wsX8_standing) := goodIn_app (goodIn_of _ (by decide +kernel)) ggX10_standingOf_X8_standing
theorem dX10_standingOf_0 : decode cX10_standingOf 0 = .ok (.aload_n 0, 1) := by decide +kernel
theorem dX10_standingOf_1 : decode cX10_standingOf 1 = .ok (.getfield 37, 3) := by decide +kernel
theorem dX10_standingOf_4 : decode cX10_standingOf 4 = .ok (.aload_n 1, 1) := by decide +kernel
theorem dX10_standingOf_5 : decode cX10_standingOf 5 = .ok (.getfield 105, 3) := by decide +kernel
theorem dX10_standingOf_8 : decode cX10_standingOf 8 = .ok (.invokevirtual 114, 3) := by decide +kernel
theorem dX10_standingOf_11 : decode cX10_standingOf 11 = .ok (.aload_n 0, 1) := by decide +kernel
theorem dX10_standingOf_12 : decode cX10_standingOf 12 = .ok (.getfield 37, 3) := by decide +kernel
theorem dX10_standingOf_15 : decode cX10_standingOf 15 = .ok (.invokevirtual 271, 3) := by decide +kernel
theorem dX10_standingOf_18 : decode cX10_standingOf 18 = .ok (.ireturn, 1) := by decide +kernel
set_option maxRecDepth 20000 in
theorem ggX10_runsAsWatched_X5_begin : GoodIn wsX10_runsAsWatched wsX5_begin := goodIn_r _ [8, 9, 10, 11, 12, 13, 14, 15, 16, 17, 18, 19, 20, 21, 22, 23, 24, 25, 26, 27, 28, 29, 30, 31, 32, 108, 109, 110, 111, 112, 113, 114, 115, 116, 117, 118, 119, 120, 121, 122, 123, 124, 125, 126, 127, 128, 129] (by decide +kernel) (by decide +kernel)
set_option maxRecDepth 20000 in
theorem gX10_runsAsWatched_X5_begin : GoodIn wsX10_runsAsWatched (wsV RX10 154 RX5 yX5_begin wsX5_begin) := goodIn_app (goodIn_of _ (by decide +kernel)) ggX10_runsAsWatched_X5_begin
set_option maxRecDepth 20000 in
theorem ggX10_runsAsWatched_X5_tick : GoodIn wsX10_runsAsWatched wsX5_tick := goodIn_r _ [36, 9, 10, 11, 17, 19, 18, 37, 38, 39, 28, 29, 30, 23, 31, 25, 32, 40, 41, 42, 7, 43, 44, 45, 46, 47, 26, 27, 48, 49, 50, 51, 52, 53, 54, 55, 56, 57, 58, 59, 60, 61, 62, 63, 64, 65, 66, 67, 68, 69, 13, 14, 15, 70, 71, 72, 73, 74, 75, 76, 77, 78, 79, 80, 81, 82, 83, 84, 85, 86, 87, 88, 89, 90, 91, 92, 93, 94, 95, 108, 109, 110, 111, 112, 113, 114, 115, 116, 117, 118, 119, 120, 121, 122, 123, 124, 125, 126, 127, 128, 129] (by decide +kernel) (by decide +kernel)
set_option maxRecDepth 20000 in
theorem gX10_runsAsWatched_X5_tick : GoodIn wsX10_runsAsWatched (wsV RX10 274 RX5 yX5_tick wsX5_tick) := goodIn_app (goodIn_of _ (by decide +kernel)) ggX10_runsAsWatched_X5_tick
set_option maxRecDepth 20000 in
theorem ggX10_runsAsWatched_X5_beatAt : GoodIn wsX10_runsAsWatched wsX5_beatAt := goodIn_r _ [43, 19, 108, 109, 110, 111, 112, 113, 114, 115, 116, 117, 118, 119, 120] (by decide +kernel) (by decide +kernel)
set_option maxRecDepth 20000 in
theorem gX10_runsAsWatched_X5_beatAt : GoodIn wsX10_runsAsWatched (wsV RX10 165 RX5 yX5_beatAt wsX5_beatAt) := goodIn_app (goodIn_of _ (by decide +kernel)) ggX10_runsAsWatched_X5_beatAt
theorem dX10_runsAsWatched_0 : decode cX10_runsAsWatched 0 = .ok (.aload_n 0, 1) := by decide +kernel
theorem dX10_runsAsWatched_1 : decode cX10_runsAsWatched 1 = .ok (.getfield 44, 3) := by decide +kernel
theorem dX10_runsAsWatched_4 : decode cX10_runsAsWatched 4 = .ok (.aload_n 1, 1) := by decide +kernel
theorem dX10_runsAsWatched_5 : decode cX10_runsAsWatched 5 = .ok (.aconst_null, 1) := by decide +kernel
theorem dX10_runsAsWatched_6 : decode cX10_runsAsWatched 6 = .ok (.aload_n 0, 1) := by decide +kernel
theorem dX10_runsAsWatched_7 : decode cX10_runsAsWatched 7 = .ok (.getfield 23, 3) := by decide +kernel
theorem dX10_runsAsWatched_10 : decode cX10_runsAsWatched 10 = .ok (.iconst 0, 1) := by decide +kernel
theorem dX10_runsAsWatched_11 : decode cX10_runsAsWatched 11 = .ok (.iaload, 1) := by decide +kernel
theorem dX10_runsAsWatched_12 : decode cX10_runsAsWatched 12 = .ok (.bipush 50, 2) := by decide +kernel
theorem dX10_runsAsWatched_14 : decode cX10_runsAsWatched 14 = .ok (.iload_n 2, 1) := by decide +kernel
theorem dX10_runsAsWatched_15 : decode cX10_runsAsWatched 15 = .ok (.invokevirtual 154, 3) := by decide +kernel
theorem dX10_runsAsWatched_18 : decode cX10_runsAsWatched 18 = .ok (.iconst 1, 1) := by decide +kernel
theorem dX10_runsAsWatched_19 : decode cX10_runsAsWatched 19 = .ok (.istore_n 3, 1) := by decide +kernel
theorem dX10_runsAsWatched_20 : decode cX10_runsAsWatched 20 = .ok (.iload_n 3, 1) := by decide +kernel
theorem dX10_runsAsWatched_21 : decode cX10_runsAsWatched 21 = .ok (.aload_n 0, 1) := by decide +kernel
theorem dX10_runsAsWatched_22 : decode cX10_runsAsWatched 22 = .ok (.getfield 197, 3) := by decide +kernel
theorem dX10_runsAsWatched_25 : decode cX10_runsAsWatched 25 = .ok (.if_icmp .ge 38, 3) := by decide +kernel
theorem dX10_runsAsWatched_28 : decode cX10_runsAsWatched 28 = .ok (.aload_n 0, 1) := by decide +kernel
theorem dX10_runsAsWatched_29 : decode cX10_runsAsWatched 29 = .ok (.getfield 44, 3) := by decide +kernel
theorem dX10_runsAsWatched_32 : decode cX10_runsAsWatched 32 = .ok (.iload_n 3, 1) := by decide +kernel
theorem dX10_runsAsWatched_33 : decode cX10_runsAsWatched 33 = .ok (.iconst 1, 1) := by decide +kernel
theorem dX10_runsAsWatched_34 : decode cX10_runsAsWatched 34 = .ok (.isub, 1) := by decide +kernel
theorem dX10_runsAsWatched_35 : decode cX10_runsAsWatched 35 = .ok (.invokevirtual 274, 3) := by decide +kernel
theorem dX10_runsAsWatched_38 : decode cX10_runsAsWatched 38 = .ok (.aload_n 0, 1) := by decide +kernel
theorem dX10_runsAsWatched_39 : decode cX10_runsAsWatched 39 = .ok (.getfield 44, 3) := by decide +kernel
theorem dX10_runsAsWatched_42 : decode cX10_runsAsWatched 42 = .ok (.iload_n 3, 1) := by decide +kernel
theorem dX10_runsAsWatched_43 : decode cX10_runsAsWatched 43 = .ok (.invokevirtual 165, 3) := by decide +kernel
theorem dX10_runsAsWatched_46 : decode cX10_runsAsWatched 46 = .ok (.aload_n 0, 1) := by decide +kernel
theorem dX10_runsAsWatched_47 : decode cX10_runsAsWatched 47 = .ok (.getfield 23, 3) := by decide +kernel
theorem dX10_runsAsWatched_50 : decode cX10_runsAsWatched 50 = .ok (.iload_n 3, 1) := by decide +kernel
theorem dX10_runsAsWatched_51 : decode cX10_runsAsWatched 51 = .ok (.iaload, 1) := by decide +kernel
theorem dX10_runsAsWatched_52 : decode cX10_runsAsWatched 52 = .ok (.if_icmp .eq 5, 3) := by decide +kernel
theorem dX10_runsAsWatched_55 : decode cX10_runsAsWatched 55 = .ok (.iconst 0, 1) := by decide +kernel
theorem dX10_runsAsWatched_56 : decode cX10_runsAsWatched 56 = .ok (.ireturn, 1) := by decide +kernel
theorem dX10_runsAsWatched_57 : decode cX10_runsAsWatched 57 = .ok (.iinc 3 1, 3) := by decide +kernel
theorem dX10_runsAsWatched_60 : decode cX10_runsAsWatched 60 = .ok (.goto (-40), 3) := by decide +kernel
theorem dX10_runsAsWatched_63 : decode cX10_runsAsWatched 63 = .ok (.iconst 1, 1) := by decide +kernel
theorem dX10_runsAsWatched_64 : decode cX10_runsAsWatched 64 = .ok (.ireturn, 1) := by decide +kernel
