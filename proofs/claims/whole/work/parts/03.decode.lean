theorem dX0_init_0 : decode cX0_init 0 = .ok (.aload_n 0, 1) := by decide +kernel
theorem dX0_init_1 : decode cX0_init 1 = .ok (.invokespecial 3, 3) := by decide +kernel
theorem dX0_init_4 : decode cX0_init 4 = .ok (.aload_n 0, 1) := by decide +kernel
theorem dX0_init_5 : decode cX0_init 5 = .ok (.sipush 4096, 3) := by decide +kernel
theorem dX0_init_8 : decode cX0_init 8 = .ok (.newarray .long, 2) := by decide +kernel
theorem dX0_init_10 : decode cX0_init 10 = .ok (.putfield 9, 3) := by decide +kernel
theorem dX0_init_13 : decode cX0_init 13 = .ok (.aload_n 0, 1) := by decide +kernel
theorem dX0_init_14 : decode cX0_init 14 = .ok (.sipush 4096, 3) := by decide +kernel
theorem dX0_init_17 : decode cX0_init 17 = .ok (.newarray .long, 2) := by decide +kernel
theorem dX0_init_19 : decode cX0_init 19 = .ok (.putfield 15, 3) := by decide +kernel
theorem dX0_init_22 : decode cX0_init 22 = .ok (.aload_n 0, 1) := by decide +kernel
theorem dX0_init_23 : decode cX0_init 23 = .ok (.aload_n 1, 1) := by decide +kernel
theorem dX0_init_24 : decode cX0_init 24 = .ok (.putfield 18, 3) := by decide +kernel
theorem dX0_init_27 : decode cX0_init 27 = .ok (.aload_n 0, 1) := by decide +kernel
theorem dX0_init_28 : decode cX0_init 28 = .ok (.aload_n 2, 1) := by decide +kernel
theorem dX0_init_29 : decode cX0_init 29 = .ok (.putfield 22, 3) := by decide +kernel
theorem dX0_init_32 : decode cX0_init 32 = .ok (.return_, 1) := by decide +kernel
set_option maxRecDepth 20000 in
theorem ggX0_right_X7_look : GoodIn wsX0_right wsX7_look := goodIn_r _ [8, 9, 10, 11, 12, 13, 14, 15, 16, 17, 18, 19, 20, 21, 22, 23, 24, 25, 26, 27, 28, 29, 30, 31, 32, 33, 34, 35, 36, 37, 38, 39, 40, 41, 42, 43, 44, 45, 46, 47, 48, 49, 50, 51, 7, 52, 53, 54, 55, 56, 57, 58, 59, 60, 61, 62, 63, 64, 65, 66, 67, 68, 69, 70, 71, 72, 73, 74, 75, 109, 110, 111, 112, 113, 114, 115, 116, 117, 118, 119, 120, 121, 122] (by decide +kernel) (by decide +kernel)
set_option maxRecDepth 20000 in
theorem gX0_right_X7_look : GoodIn wsX0_right (wsV RX0 28 RX7 yX7_look wsX7_look) := goodIn_app (goodIn_of _ (by decide +kernel)) ggX0_right_X7_look
set_option maxRecDepth 20000 in
theorem ggX0_right_J7_fill_d0a16 : GoodIn wsX0_right wsJ7_fill_d0a16 := goodIn_r _ [78] (by decide +kernel) (by decide +kernel)
set_option maxRecDepth 20000 in
theorem gX0_right_J7_fill_d0a16 : GoodIn wsX0_right (va_wsS RX0 32 yJ7_fill_d0a16 wsJ7_fill_d0a16) := goodIn_app (goodIn_of _ (by decide +kernel)) ggX0_right_J7_fill_d0a16
set_option maxRecDepth 20000 in
theorem ggX0_right_X0_spread : GoodIn wsX0_right wsX0_spread := goodIn_r _ [83, 1, 2, 84, 3, 85, 86, 87, 7, 88, 12, 89, 90, 91, 92, 11, 93, 61, 62, 16, 63, 18, 94, 65, 66, 67, 19, 20, 95, 96, 97, 24, 98, 99, 100, 101, 102, 103, 26, 105, 106, 107, 108, 109, 110, 111, 112, 113, 114, 115, 116, 117, 118, 119, 120, 121] (by decide +kernel) (by decide +kernel)
set_option maxRecDepth 20000 in
theorem gX0_right_X0_spread : GoodIn wsX0_right (wsV RX0 38 RX0 yX0_spread wsX0_spread) := goodIn_app (goodIn_of _ (by decide +kernel)) ggX0_right_X0_spread
set_option maxRecDepth 20000 in
theorem ggX0_right_X7_size : GoodIn wsX0_right wsX7_size := goodIn_r _ [88, 12, 109, 110, 111, 112] (by decide +kernel) (by decide +kernel)
set_option maxRecDepth 20000 in
theorem gX0_right_X7_size : GoodIn wsX0_right (wsV RX0 42 RX7 yX7_size wsX7_size) := goodIn_app (goodIn_of _ (by decide +kernel)) ggX0_right_X7_size
set_option maxRecDepth 20000 in
theorem ggX0_right_X7_found : GoodIn wsX0_right wsX7_found := goodIn_r _ [92, 12, 11, 109, 110, 111, 112] (by decide +kernel) (by decide +kernel)
set_option maxRecDepth 20000 in
theorem gX0_right_X7_found : GoodIn wsX0_right (wsV RX0 46 RX7 yX7_found wsX7_found) := goodIn_app (goodIn_of _ (by decide +kernel)) ggX0_right_X7_found
set_option maxRecDepth 20000 in
theorem ggX0_right_X7_isOne : GoodIn wsX0_right wsX7_isOne := goodIn_r _ [55] (by decide +kernel) (by decide +kernel)
set_option maxRecDepth 20000 in
theorem gX0_right_X7_isOne : GoodIn wsX0_right (va_wsS RX0 50 yX7_isOne wsX7_isOne) := goodIn_app (goodIn_of _ (by decide +kernel)) ggX0_right_X7_isOne
theorem dX0_right_0 : decode cX0_right 0 = .ok (.aload_n 0, 1) := by decide +kernel
theorem dX0_right_1 : decode cX0_right 1 = .ok (.getfield 22, 3) := by decide +kernel
theorem dX0_right_4 : decode cX0_right 4 = .ok (.aload_n 1, 1) := by decide +kernel
theorem dX0_right_5 : decode cX0_right 5 = .ok (.iload_n 2, 1) := by decide +kernel
theorem dX0_right_6 : decode cX0_right 6 = .ok (.iconst (-1), 1) := by decide +kernel
theorem dX0_right_7 : decode cX0_right 7 = .ok (.invokevirtual 28, 3) := by decide +kernel
theorem dX0_right_10 : decode cX0_right 10 = .ok (.pop, 1) := by decide +kernel
theorem dX0_right_11 : decode cX0_right 11 = .ok (.aload_n 0, 1) := by decide +kernel
theorem dX0_right_12 : decode cX0_right 12 = .ok (.getfield 9, 3) := by decide +kernel
theorem dX0_right_15 : decode cX0_right 15 = .ok (.lconst 0, 1) := by decide +kernel
theorem dX0_right_16 : decode cX0_right 16 = .ok (.invokestatic 32, 3) := by decide +kernel
theorem dX0_right_19 : decode cX0_right 19 = .ok (.aload_n 0, 1) := by decide +kernel
theorem dX0_right_20 : decode cX0_right 20 = .ok (.getfield 15, 3) := by decide +kernel
theorem dX0_right_23 : decode cX0_right 23 = .ok (.lconst 0, 1) := by decide +kernel
theorem dX0_right_24 : decode cX0_right 24 = .ok (.invokestatic 32, 3) := by decide +kernel
theorem dX0_right_27 : decode cX0_right 27 = .ok (.iload_n 2, 1) := by decide +kernel
theorem dX0_right_28 : decode cX0_right 28 = .ok (.ifCond .le 17, 3) := by decide +kernel
theorem dX0_right_31 : decode cX0_right 31 = .ok (.iload_n 2, 1) := by decide +kernel
theorem dX0_right_32 : decode cX0_right 32 = .ok (.sipush 4096, 3) := by decide +kernel
theorem dX0_right_35 : decode cX0_right 35 = .ok (.if_icmp .ge 10, 3) := by decide +kernel
theorem dX0_right_38 : decode cX0_right 38 = .ok (.aload_n 0, 1) := by decide +kernel
theorem dX0_right_39 : decode cX0_right 39 = .ok (.getfield 9, 3) := by decide +kernel
theorem dX0_right_42 : decode cX0_right 42 = .ok (.iload_n 2, 1) := by decide +kernel
theorem dX0_right_43 : decode cX0_right 43 = .ok (.lconst 1, 1) := by decide +kernel
theorem dX0_right_44 : decode cX0_right 44 = .ok (.lastore, 1) := by decide +kernel
theorem dX0_right_45 : decode cX0_right 45 = .ok (.iconst 0, 1) := by decide +kernel
theorem dX0_right_46 : decode cX0_right 46 = .ok (.istore 4, 2) := by decide +kernel
theorem dX0_right_48 : decode cX0_right 48 = .ok (.iload 4, 2) := by decide +kernel
theorem dX0_right_50 : decode cX0_right 50 = .ok (.iload_n 3, 1) := by decide +kernel
theorem dX0_right_51 : decode cX0_right 51 = .ok (.if_icmp .ge 14, 3) := by decide +kernel
theorem dX0_right_54 : decode cX0_right 54 = .ok (.aload_n 0, 1) := by decide +kernel
theorem dX0_right_55 : decode cX0_right 55 = .ok (.aload_n 1, 1) := by decide +kernel
theorem dX0_right_56 : decode cX0_right 56 = .ok (.invokevirtual 38, 3) := by decide +kernel
theorem dX0_right_59 : decode cX0_right 59 = .ok (.iinc 4 1, 3) := by decide +kernel
theorem dX0_right_62 : decode cX0_right 62 = .ok (.goto (-14), 3) := by decide +kernel
theorem dX0_right_65 : decode cX0_right 65 = .ok (.lconst 0, 1) := by decide +kernel
theorem dX0_right_66 : decode cX0_right 66 = .ok (.lstore 4, 2) := by decide +kernel
theorem dX0_right_68 : decode cX0_right 68 = .ok (.iconst 0, 1) := by decide +kernel
theorem dX0_right_69 : decode cX0_right 69 = .ok (.istore 6, 2) := by decide +kernel
theorem dX0_right_71 : decode cX0_right 71 = .ok (.iload 6, 2) := by decide +kernel
theorem dX0_right_73 : decode cX0_right 73 = .ok (.aload_n 0, 1) := by decide +kernel
theorem dX0_right_74 : decode cX0_right 74 = .ok (.getfield 22, 3) := by decide +kernel
theorem dX0_right_77 : decode cX0_right 77 = .ok (.invokevirtual 42, 3) := by decide +kernel
theorem dX0_right_80 : decode cX0_right 80 = .ok (.if_icmp .ge 48, 3) := by decide +kernel
theorem dX0_right_83 : decode cX0_right 83 = .ok (.aload_n 0, 1) := by decide +kernel
theorem dX0_right_84 : decode cX0_right 84 = .ok (.getfield 22, 3) := by decide +kernel
theorem dX0_right_87 : decode cX0_right 87 = .ok (.iload 6, 2) := by decide +kernel
theorem dX0_right_89 : decode cX0_right 89 = .ok (.invokevirtual 46, 3) := by decide +kernel
theorem dX0_right_92 : decode cX0_right 92 = .ok (.istore 7, 2) := by decide +kernel
theorem dX0_right_94 : decode cX0_right 94 = .ok (.iload 7, 2) := by decide +kernel
theorem dX0_right_96 : decode cX0_right 96 = .ok (.invokestatic 50, 3) := by decide +kernel
theorem dX0_right_99 : decode cX0_right 99 = .ok (.ifCond .eq 23, 3) := by decide +kernel
theorem dX0_right_102 : decode cX0_right 102 = .ok (.iload 7, 2) := by decide +kernel
theorem dX0_right_104 : decode cX0_right 104 = .ok (.sipush 4096, 3) := by decide +kernel
theorem dX0_right_107 : decode cX0_right 107 = .ok (.if_icmp .ge 15, 3) := by decide +kernel
theorem dX0_right_110 : decode cX0_right 110 = .ok (.lload 4, 2) := by decide +kernel
theorem dX0_right_112 : decode cX0_right 112 = .ok (.aload_n 0, 1) := by decide +kernel
theorem dX0_right_113 : decode cX0_right 113 = .ok (.getfield 9, 3) := by decide +kernel
theorem dX0_right_116 : decode cX0_right 116 = .ok (.iload 7, 2) := by decide +kernel
theorem dX0_right_118 : decode cX0_right 118 = .ok (.laload, 1) := by decide +kernel
theorem dX0_right_119 : decode cX0_right 119 = .ok (.ladd, 1) := by decide +kernel
theorem dX0_right_120 : decode cX0_right 120 = .ok (.lstore 4, 2) := by decide +kernel
theorem dX0_right_122 : decode cX0_right 122 = .ok (.iinc 6 1, 3) := by decide +kernel
theorem dX0_right_125 : decode cX0_right 125 = .ok (.goto (-54), 3) := by decide +kernel
theorem dX0_right_128 : decode cX0_right 128 = .ok (.lload 4, 2) := by decide +kernel
theorem dX0_right_130 : decode cX0_right 130 = .ok (.lreturn, 1) := by decide +kernel
set_option maxRecDepth 20000 in
theorem ggX0_spread_X7_size : GoodIn wsX0_spread wsX7_size := goodIn_r _ [9, 10, 43, 44, 45, 46] (by decide +kernel) (by decide +kernel)
set_option maxRecDepth 20000 in
theorem gX0_spread_X7_size : GoodIn wsX0_spread (wsV RX0 42 RX7 yX7_size wsX7_size) := goodIn_app (goodIn_of _ (by decide +kernel)) ggX0_spread_X7_size
set_option maxRecDepth 20000 in
theorem ggX0_spread_X7_found : GoodIn wsX0_spread wsX7_found := goodIn_r _ [14, 10, 15, 43, 44, 45, 46] (by decide +kernel) (by decide +kernel)
set_option maxRecDepth 20000 in
theorem gX0_spread_X7_found : GoodIn wsX0_spread (wsV RX0 46 RX7 yX7_found wsX7_found) := goodIn_app (goodIn_of _ (by decide +kernel)) ggX0_spread_X7_found
set_option maxRecDepth 20000 in
theorem ggX0_spread_X8_letters : GoodIn wsX0_spread wsX8_letters := goodIn_r _ [20, 21, 47, 48, 49] (by decide +kernel) (by decide +kernel)
set_option maxRecDepth 20000 in
theorem gX0_spread_X8_letters : GoodIn wsX0_spread (wsV RX0 54 RX8 yX8_letters wsX8_letters) := goodIn_app (goodIn_of _ (by decide +kernel)) ggX0_spread_X8_letters
set_option maxRecDepth 20000 in
theorem ggX0_spread_X8_after : GoodIn wsX0_spread wsX8_after := goodIn_r _ [25, 26, 27, 47, 48, 49] (by decide +kernel) (by decide +kernel)
set_option maxRecDepth 20000 in
theorem gX0_spread_X8_after : GoodIn wsX0_spread (wsV RX0 59 RX8 yX8_after wsX8_after) := goodIn_app (goodIn_of _ (by decide +kernel)) ggX0_spread_X8_after
set_option maxRecDepth 20000 in
theorem ggX0_spread_X4_shareOf : GoodIn wsX0_spread wsX4_shareOf := goodIn_r _ [32, 33, 34, 35, 36, 31, 37, 38, 50, 51, 52, 53, 54, 55] (by decide +kernel) (by decide +kernel)
set_option maxRecDepth 20000 in
theorem gX0_spread_X4_shareOf : GoodIn wsX0_spread (wsV RX0 63 RX4 yX4_shareOf wsX4_shareOf) := goodIn_app (goodIn_of _ (by decide +kernel)) ggX0_spread_X4_shareOf
theorem dX0_spread_0 : decode cX0_spread 0 = .ok (.iconst 0, 1) := by decide +kernel
theorem dX0_spread_1 : decode cX0_spread 1 = .ok (.istore_n 2, 1) := by decide +kernel
theorem dX0_spread_2 : decode cX0_spread 2 = .ok (.iload_n 2, 1) := by decide +kernel
theorem dX0_spread_3 : decode cX0_spread 3 = .ok (.aload_n 0, 1) := by decide +kernel
theorem dX0_spread_4 : decode cX0_spread 4 = .ok (.getfield 22, 3) := by decide +kernel
theorem dX0_spread_7 : decode cX0_spread 7 = .ok (.invokevirtual 42, 3) := by decide +kernel
theorem dX0_spread_10 : decode cX0_spread 10 = .ok (.if_icmp .ge 113, 3) := by decide +kernel
theorem dX0_spread_13 : decode cX0_spread 13 = .ok (.aload_n 0, 1) := by decide +kernel
theorem dX0_spread_14 : decode cX0_spread 14 = .ok (.getfield 22, 3) := by decide +kernel
theorem dX0_spread_17 : decode cX0_spread 17 = .ok (.iload_n 2, 1) := by decide +kernel
theorem dX0_spread_18 : decode cX0_spread 18 = .ok (.invokevirtual 46, 3) := by decide +kernel
theorem dX0_spread_21 : decode cX0_spread 21 = .ok (.istore_n 3, 1) := by decide +kernel
theorem dX0_spread_22 : decode cX0_spread 22 = .ok (.iload_n 3, 1) := by decide +kernel
theorem dX0_spread_23 : decode cX0_spread 23 = .ok (.ifCond .lt 94, 3) := by decide +kernel
theorem dX0_spread_26 : decode cX0_spread 26 = .ok (.iload_n 3, 1) := by decide +kernel
theorem dX0_spread_27 : decode cX0_spread 27 = .ok (.sipush 4096, 3) := by decide +kernel
theorem dX0_spread_30 : decode cX0_spread 30 = .ok (.if_icmp .ge 87, 3) := by decide +kernel
theorem dX0_spread_33 : decode cX0_spread 33 = .ok (.aload_n 0, 1) := by decide +kernel
theorem dX0_spread_34 : decode cX0_spread 34 = .ok (.getfield 9, 3) := by decide +kernel
theorem dX0_spread_37 : decode cX0_spread 37 = .ok (.iload_n 3, 1) := by decide +kernel
theorem dX0_spread_38 : decode cX0_spread 38 = .ok (.laload, 1) := by decide +kernel
theorem dX0_spread_39 : decode cX0_spread 39 = .ok (.lconst 0, 1) := by decide +kernel
theorem dX0_spread_40 : decode cX0_spread 40 = .ok (.lcmp, 1) := by decide +kernel
theorem dX0_spread_41 : decode cX0_spread 41 = .ok (.ifCond .ne 6, 3) := by decide +kernel
theorem dX0_spread_44 : decode cX0_spread 44 = .ok (.goto 73, 3) := by decide +kernel
theorem dX0_spread_47 : decode cX0_spread 47 = .ok (.iconst 0, 1) := by decide +kernel
theorem dX0_spread_48 : decode cX0_spread 48 = .ok (.istore 4, 2) := by decide +kernel
theorem dX0_spread_50 : decode cX0_spread 50 = .ok (.iload 4, 2) := by decide +kernel
theorem dX0_spread_52 : decode cX0_spread 52 = .ok (.aload_n 0, 1) := by decide +kernel
theorem dX0_spread_53 : decode cX0_spread 53 = .ok (.getfield 18, 3) := by decide +kernel
theorem dX0_spread_56 : decode cX0_spread 56 = .ok (.invokevirtual 54, 3) := by decide +kernel
theorem dX0_spread_59 : decode cX0_spread 59 = .ok (.if_icmp .ge 58, 3) := by decide +kernel
theorem dX0_spread_62 : decode cX0_spread 62 = .ok (.aload_n 0, 1) := by decide +kernel
theorem dX0_spread_63 : decode cX0_spread 63 = .ok (.getfield 18, 3) := by decide +kernel
theorem dX0_spread_66 : decode cX0_spread 66 = .ok (.iload_n 3, 1) := by decide +kernel
theorem dX0_spread_67 : decode cX0_spread 67 = .ok (.iload 4, 2) := by decide +kernel
theorem dX0_spread_69 : decode cX0_spread 69 = .ok (.invokevirtual 59, 3) := by decide +kernel
theorem dX0_spread_72 : decode cX0_spread 72 = .ok (.istore 5, 2) := by decide +kernel
theorem dX0_spread_74 : decode cX0_spread 74 = .ok (.iload 5, 2) := by decide +kernel
theorem dX0_spread_76 : decode cX0_spread 76 = .ok (.ifCond .le 35, 3) := by decide +kernel
theorem dX0_spread_79 : decode cX0_spread 79 = .ok (.iload 5, 2) := by decide +kernel
theorem dX0_spread_81 : decode cX0_spread 81 = .ok (.sipush 4096, 3) := by decide +kernel
theorem dX0_spread_84 : decode cX0_spread 84 = .ok (.if_icmp .ge 27, 3) := by decide +kernel
theorem dX0_spread_87 : decode cX0_spread 87 = .ok (.aload_n 0, 1) := by decide +kernel
theorem dX0_spread_88 : decode cX0_spread 88 = .ok (.getfield 15, 3) := by decide +kernel
theorem dX0_spread_91 : decode cX0_spread 91 = .ok (.iload 5, 2) := by decide +kernel
theorem dX0_spread_93 : decode cX0_spread 93 = .ok (.dup2, 1) := by decide +kernel
theorem dX0_spread_94 : decode cX0_spread 94 = .ok (.laload, 1) := by decide +kernel
theorem dX0_spread_95 : decode cX0_spread 95 = .ok (.aload_n 0, 1) := by decide +kernel
theorem dX0_spread_96 : decode cX0_spread 96 = .ok (.getfield 9, 3) := by decide +kernel
theorem dX0_spread_99 : decode cX0_spread 99 = .ok (.iload_n 3, 1) := by decide +kernel
theorem dX0_spread_100 : decode cX0_spread 100 = .ok (.laload, 1) := by decide +kernel
theorem dX0_spread_101 : decode cX0_spread 101 = .ok (.aload_n 1, 1) := by decide +kernel
theorem dX0_spread_102 : decode cX0_spread 102 = .ok (.iload 4, 2) := by decide +kernel
theorem dX0_spread_104 : decode cX0_spread 104 = .ok (.invokevirtual 63, 3) := by decide +kernel
theorem dX0_spread_107 : decode cX0_spread 107 = .ok (.i2l, 1) := by decide +kernel
theorem dX0_spread_108 : decode cX0_spread 108 = .ok (.lmul, 1) := by decide +kernel
theorem dX0_spread_109 : decode cX0_spread 109 = .ok (.ladd, 1) := by decide +kernel
theorem dX0_spread_110 : decode cX0_spread 110 = .ok (.lastore, 1) := by decide +kernel
theorem dX0_spread_111 : decode cX0_spread 111 = .ok (.iinc 4 1, 3) := by decide +kernel
theorem dX0_spread_114 : decode cX0_spread 114 = .ok (.goto (-64), 3) := by decide +kernel
theorem dX0_spread_117 : decode cX0_spread 117 = .ok (.iinc 2 1, 3) := by decide +kernel
theorem dX0_spread_120 : decode cX0_spread 120 = .ok (.goto (-118), 3) := by decide +kernel
theorem dX0_spread_123 : decode cX0_spread 123 = .ok (.iconst 0, 1) := by decide +kernel
theorem dX0_spread_124 : decode cX0_spread 124 = .ok (.istore_n 2, 1) := by decide +kernel
theorem dX0_spread_125 : decode cX0_spread 125 = .ok (.iload_n 2, 1) := by decide +kernel
theorem dX0_spread_126 : decode cX0_spread 126 = .ok (.aload_n 0, 1) := by decide +kernel
theorem dX0_spread_127 : decode cX0_spread 127 = .ok (.getfield 22, 3) := by decide +kernel
theorem dX0_spread_130 : decode cX0_spread 130 = .ok (.invokevirtual 42, 3) := by decide +kernel
theorem dX0_spread_133 : decode cX0_spread 133 = .ok (.if_icmp .ge 48, 3) := by decide +kernel
theorem dX0_spread_136 : decode cX0_spread 136 = .ok (.aload_n 0, 1) := by decide +kernel
theorem dX0_spread_137 : decode cX0_spread 137 = .ok (.getfield 22, 3) := by decide +kernel
theorem dX0_spread_140 : decode cX0_spread 140 = .ok (.iload_n 2, 1) := by decide +kernel
theorem dX0_spread_141 : decode cX0_spread 141 = .ok (.invokevirtual 46, 3) := by decide +kernel
theorem dX0_spread_144 : decode cX0_spread 144 = .ok (.istore_n 3, 1) := by decide +kernel
theorem dX0_spread_145 : decode cX0_spread 145 = .ok (.iload_n 3, 1) := by decide +kernel
theorem dX0_spread_146 : decode cX0_spread 146 = .ok (.ifCond .lt 29, 3) := by decide +kernel
theorem dX0_spread_149 : decode cX0_spread 149 = .ok (.iload_n 3, 1) := by decide +kernel
theorem dX0_spread_150 : decode cX0_spread 150 = .ok (.sipush 4096, 3) := by decide +kernel
theorem dX0_spread_153 : decode cX0_spread 153 = .ok (.if_icmp .ge 22, 3) := by decide +kernel
theorem dX0_spread_156 : decode cX0_spread 156 = .ok (.aload_n 0, 1) := by decide +kernel
theorem dX0_spread_157 : decode cX0_spread 157 = .ok (.getfield 9, 3) := by decide +kernel
theorem dX0_spread_160 : decode cX0_spread 160 = .ok (.iload_n 3, 1) := by decide +kernel
theorem dX0_spread_161 : decode cX0_spread 161 = .ok (.aload_n 0, 1) := by decide +kernel
theorem dX0_spread_162 : decode cX0_spread 162 = .ok (.getfield 15, 3) := by decide +kernel
theorem dX0_spread_165 : decode cX0_spread 165 = .ok (.iload_n 3, 1) := by decide +kernel
theorem dX0_spread_166 : decode cX0_spread 166 = .ok (.laload, 1) := by decide +kernel
theorem dX0_spread_167 : decode cX0_spread 167 = .ok (.lastore, 1) := by decide +kernel
theorem dX0_spread_168 : decode cX0_spread 168 = .ok (.aload_n 0, 1) := by decide +kernel
theorem dX0_spread_169 : decode cX0_spread 169 = .ok (.getfield 15, 3) := by decide +kernel
theorem dX0_spread_172 : decode cX0_spread 172 = .ok (.iload_n 3, 1) := by decide +kernel
theorem dX0_spread_173 : decode cX0_spread 173 = .ok (.lconst 0, 1) := by decide +kernel
theorem dX0_spread_174 : decode cX0_spread 174 = .ok (.lastore, 1) := by decide +kernel
theorem dX0_spread_175 : decode cX0_spread 175 = .ok (.iinc 2 1, 3) := by decide +kernel
theorem dX0_spread_178 : decode cX0_spread 178 = .ok (.goto (-53), 3) := by decide +kernel
theorem dX0_spread_181 : decode cX0_spread 181 = .ok (.return_, 1) := by decide +kernel
set_option maxRecDepth 20000 in
theorem ggX0_all_X4_letters : GoodIn wsX0_all wsX4_letters := goodIn_r _ [5, 6, 16, 17, 18, 19, 20, 21] (by decide +kernel) (by decide +kernel)
set_option maxRecDepth 20000 in
theorem gX0_all_X4_letters : GoodIn wsX0_all (wsV RX0 68 RX4 yX4_letters wsX4_letters) := goodIn_app (goodIn_of _ (by decide +kernel)) ggX0_all_X4_letters
set_option maxRecDepth 20000 in
theorem ggX0_all_X4_shareOf : GoodIn wsX0_all wsX4_shareOf := goodIn_r _ [10, 11, 12, 13, 14, 4, 15, 6, 16, 17, 18, 19, 20, 21] (by decide +kernel) (by decide +kernel)
set_option maxRecDepth 20000 in
theorem gX0_all_X4_shareOf : GoodIn wsX0_all (wsV RX0 63 RX4 yX4_shareOf wsX4_shareOf) := goodIn_app (goodIn_of _ (by decide +kernel)) ggX0_all_X4_shareOf
theorem dX0_all_0 : decode cX0_all 0 = .ok (.lconst 0, 1) := by decide +kernel
theorem dX0_all_1 : decode cX0_all 1 = .ok (.lstore_n 3, 1) := by decide +kernel
theorem dX0_all_2 : decode cX0_all 2 = .ok (.iconst 0, 1) := by decide +kernel
theorem dX0_all_3 : decode cX0_all 3 = .ok (.istore 5, 2) := by decide +kernel
theorem dX0_all_5 : decode cX0_all 5 = .ok (.iload 5, 2) := by decide +kernel
theorem dX0_all_7 : decode cX0_all 7 = .ok (.aload_n 1, 1) := by decide +kernel
theorem dX0_all_8 : decode cX0_all 8 = .ok (.invokevirtual 68, 3) := by decide +kernel
theorem dX0_all_11 : decode cX0_all 11 = .ok (.if_icmp .ge 19, 3) := by decide +kernel
theorem dX0_all_14 : decode cX0_all 14 = .ok (.lload_n 3, 1) := by decide +kernel
theorem dX0_all_15 : decode cX0_all 15 = .ok (.aload_n 1, 1) := by decide +kernel
theorem dX0_all_16 : decode cX0_all 16 = .ok (.iload 5, 2) := by decide +kernel
theorem dX0_all_18 : decode cX0_all 18 = .ok (.invokevirtual 63, 3) := by decide +kernel
theorem dX0_all_21 : decode cX0_all 21 = .ok (.i2l, 1) := by decide +kernel
theorem dX0_all_22 : decode cX0_all 22 = .ok (.ladd, 1) := by decide +kernel
theorem dX0_all_23 : decode cX0_all 23 = .ok (.lstore_n 3, 1) := by decide +kernel
theorem dX0_all_24 : decode cX0_all 24 = .ok (.iinc 5 1, 3) := by decide +kernel
theorem dX0_all_27 : decode cX0_all 27 = .ok (.goto (-22), 3) := by decide +kernel
theorem dX0_all_30 : decode cX0_all 30 = .ok (.lconst 1, 1) := by decide +kernel
theorem dX0_all_31 : decode cX0_all 31 = .ok (.lstore 5, 2) := by decide +kernel
theorem dX0_all_33 : decode cX0_all 33 = .ok (.iconst 0, 1) := by decide +kernel
theorem dX0_all_34 : decode cX0_all 34 = .ok (.istore 7, 2) := by decide +kernel
theorem dX0_all_36 : decode cX0_all 36 = .ok (.iload 7, 2) := by decide +kernel
theorem dX0_all_38 : decode cX0_all 38 = .ok (.iload_n 2, 1) := by decide +kernel
theorem dX0_all_39 : decode cX0_all 39 = .ok (.if_icmp .ge 15, 3) := by decide +kernel
theorem dX0_all_42 : decode cX0_all 42 = .ok (.lload 5, 2) := by decide +kernel
theorem dX0_all_44 : decode cX0_all 44 = .ok (.lload_n 3, 1) := by decide +kernel
theorem dX0_all_45 : decode cX0_all 45 = .ok (.lmul, 1) := by decide +kernel
theorem dX0_all_46 : decode cX0_all 46 = .ok (.lstore 5, 2) := by decide +kernel
theorem dX0_all_48 : decode cX0_all 48 = .ok (.iinc 7 1, 3) := by decide +kernel
theorem dX0_all_51 : decode cX0_all 51 = .ok (.goto (-15), 3) := by decide +kernel
theorem dX0_all_54 : decode cX0_all 54 = .ok (.lload 5, 2) := by decide +kernel
theorem dX0_all_56 : decode cX0_all 56 = .ok (.lreturn, 1) := by decide +kernel
set_option maxRecDepth 20000 in
theorem ggX1_init_X4_init : GoodIn wsX1_init wsX4_init := goodIn_r _ [13, 14, 2, 3, 4, 15, 16, 17, 18, 19, 20, 21, 22, 23, 24, 28, 29, 30, 31, 32, 33] (by decide +kernel) (by decide +kernel)
set_option maxRecDepth 20000 in
theorem gX1_init_X4_init : GoodIn wsX1_init (wsX4_init) := ggX1_init_X4_init
theorem dX1_init_0 : decode cX1_init 0 = .ok (.aload_n 0, 1) := by decide +kernel
theorem dX1_init_1 : decode cX1_init 1 = .ok (.invokespecial 3, 3) := by decide +kernel
theorem dX1_init_4 : decode cX1_init 4 = .ok (.aload_n 0, 1) := by decide +kernel
theorem dX1_init_5 : decode cX1_init 5 = .ok (.bipush 12, 2) := by decide +kernel
theorem dX1_init_7 : decode cX1_init 7 = .ok (.newarray .int, 2) := by decide +kernel
theorem dX1_init_9 : decode cX1_init 9 = .ok (.putfield 9, 3) := by decide +kernel
theorem dX1_init_12 : decode cX1_init 12 = .ok (.aload_n 0, 1) := by decide +kernel
theorem dX1_init_13 : decode cX1_init 13 = .ok (.bipush 12, 2) := by decide +kernel
theorem dX1_init_15 : decode cX1_init 15 = .ok (.newarray .int, 2) := by decide +kernel
theorem dX1_init_17 : decode cX1_init 17 = .ok (.putfield 15, 3) := by decide +kernel
theorem dX1_init_20 : decode cX1_init 20 = .ok (.aload_n 0, 1) := by decide +kernel
theorem dX1_init_21 : decode cX1_init 21 = .ok (.new 18, 3) := by decide +kernel
theorem dX1_init_24 : decode cX1_init 24 = .ok (.dup, 1) := by decide +kernel
theorem dX1_init_25 : decode cX1_init 25 = .ok (.bipush 12, 2) := by decide +kernel
theorem dX1_init_27 : decode cX1_init 27 = .ok (.iconst 4, 1) := by decide +kernel
theorem dX1_init_28 : decode cX1_init 28 = .ok (.invokespecial 20, 3) := by decide +kernel
theorem dX1_init_31 : decode cX1_init 31 = .ok (.putfield 23, 3) := by decide +kernel
theorem dX1_init_34 : decode cX1_init 34 = .ok (.return_, 1) := by decide +kernel
set_option maxRecDepth 20000 in
theorem ggX1_paint_J7_fill_53178 : GoodIn wsX1_paint wsJ7_fill_53178 := goodIn_r _ [5] (by decide +kernel) (by decide +kernel)
set_option maxRecDepth 20000 in
theorem gX1_paint_J7_fill_53178 : GoodIn wsX1_paint (va_wsS RX1 27 yJ7_fill_53178 wsJ7_fill_53178) := goodIn_app (goodIn_of _ (by decide +kernel)) ggX1_paint_J7_fill_53178
set_option maxRecDepth 20000 in
theorem ggX1_paint_X4_states : GoodIn wsX1_paint wsX4_states := goodIn_r _ [10, 11, 78, 79, 80, 81, 82, 83] (by decide +kernel) (by decide +kernel)
set_option maxRecDepth 20000 in
theorem gX1_paint_X4_states : GoodIn wsX1_paint (wsV RX1 33 RX4 yX4_states wsX4_states) := goodIn_app (goodIn_of _ (by decide +kernel)) ggX1_paint_X4_states
set_option maxRecDepth 20000 in
theorem ggX1_paint_X1_exchange : GoodIn wsX1_paint wsX1_exchange := goodIn_r _ [16, 17, 18, 19, 20, 9, 21, 22, 23, 24, 25, 15, 26, 1, 27, 28, 29, 30, 31, 32, 33, 34, 11, 35, 36, 37, 38, 39, 40, 41, 42, 43, 44, 45, 46, 47, 75, 76, 77, 78, 79, 80, 81, 82, 83] (by decide +kernel) (by decide +kernel)
set_option maxRecDepth 20000 in
theorem gX1_paint_X1_exchange : GoodIn wsX1_paint (wsV RX1 37 RX1 yX1_exchange wsX1_exchange) := goodIn_app (goodIn_of _ (by decide +kernel)) ggX1_paint_X1_exchange
set_option maxRecDepth 20000 in
theorem ggX1_paint_X1_allComeTogether : GoodIn wsX1_paint wsX1_allComeTogether := goodIn_r _ [51, 52, 6, 7, 8, 9, 10, 11, 53, 54, 55, 15, 56, 57, 58, 59, 60, 17, 18, 19, 20, 21, 22, 31, 32, 33, 34, 35, 61, 62, 63, 75, 76, 77, 78, 79, 80, 81, 82, 83] (by decide +kernel) (by decide +kernel)
set_option maxRecDepth 20000 in
theorem gX1_paint_X1_allComeTogether : GoodIn wsX1_paint (wsV RX1 41 RX1 yX1_allComeTogether wsX1_allComeTogether) := goodIn_app (goodIn_of _ (by decide +kernel)) ggX1_paint_X1_allComeTogether
set_option maxRecDepth 20000 in
theorem ggX1_paint_X1_takeOver : GoodIn wsX1_paint wsX1_takeOver := goodIn_r _ [67, 17, 6, 7, 8, 9, 10, 11, 18, 19, 20, 21, 22, 31, 32, 33, 34, 35, 36, 37, 38, 39, 40, 41, 42, 43, 44, 45, 46, 47, 75, 76, 77, 78, 79, 80, 81, 82, 83] (by decide +kernel) (by decide +kernel)
set_option maxRecDepth 20000 in
theorem gX1_paint_X1_takeOver : GoodIn wsX1_paint (wsV RX1 45 RX1 yX1_takeOver wsX1_takeOver) := goodIn_app (goodIn_of _ (by decide +kernel)) ggX1_paint_X1_takeOver
set_option maxRecDepth 20000 in
theorem ggX1_paint_X1_turnOn : GoodIn wsX1_paint wsX1_turnOn := goodIn_r _ [71, 1, 18, 19, 20, 9, 21, 22, 72, 73, 15, 74, 6, 7, 8, 10, 11, 12, 13, 14, 16, 17, 23, 24, 25, 26, 27, 28, 29, 30, 31, 32, 33, 34, 35, 36, 37, 38, 39, 40, 41, 42, 43, 44, 45, 46, 47, 75, 76, 77, 78, 79, 80, 81, 82, 83] (by decide +kernel) (by decide +kernel)
set_option maxRecDepth 20000 in
theorem gX1_paint_X1_turnOn : GoodIn wsX1_paint (wsV RX1 49 RX1 yX1_turnOn wsX1_turnOn) := goodIn_app (goodIn_of _ (by decide +kernel)) ggX1_paint_X1_turnOn
theorem dX1_paint_0 : decode cX1_paint 0 = .ok (.aload_n 0, 1) := by decide +kernel
theorem dX1_paint_1 : decode cX1_paint 1 = .ok (.getfield 9, 3) := by decide +kernel
theorem dX1_paint_4 : decode cX1_paint 4 = .ok (.iconst 0, 1) := by decide +kernel
theorem dX1_paint_5 : decode cX1_paint 5 = .ok (.invokestatic 27, 3) := by decide +kernel
theorem dX1_paint_8 : decode cX1_paint 8 = .ok (.iconst 0, 1) := by decide +kernel
theorem dX1_paint_9 : decode cX1_paint 9 = .ok (.istore_n 2, 1) := by decide +kernel
theorem dX1_paint_10 : decode cX1_paint 10 = .ok (.iload_n 2, 1) := by decide +kernel
theorem dX1_paint_11 : decode cX1_paint 11 = .ok (.aload_n 1, 1) := by decide +kernel
theorem dX1_paint_12 : decode cX1_paint 12 = .ok (.invokevirtual 33, 3) := by decide +kernel
theorem dX1_paint_15 : decode cX1_paint 15 = .ok (.if_icmp .ge 15, 3) := by decide +kernel
theorem dX1_paint_18 : decode cX1_paint 18 = .ok (.aload_n 0, 1) := by decide +kernel
theorem dX1_paint_19 : decode cX1_paint 19 = .ok (.aload_n 1, 1) := by decide +kernel
theorem dX1_paint_20 : decode cX1_paint 20 = .ok (.iload_n 2, 1) := by decide +kernel
theorem dX1_paint_21 : decode cX1_paint 21 = .ok (.invokevirtual 37, 3) := by decide +kernel
theorem dX1_paint_24 : decode cX1_paint 24 = .ok (.iinc 2 1, 3) := by decide +kernel
theorem dX1_paint_27 : decode cX1_paint 27 = .ok (.goto (-17), 3) := by decide +kernel
theorem dX1_paint_30 : decode cX1_paint 30 = .ok (.aload_n 0, 1) := by decide +kernel
theorem dX1_paint_31 : decode cX1_paint 31 = .ok (.aload_n 1, 1) := by decide +kernel
theorem dX1_paint_32 : decode cX1_paint 32 = .ok (.iconst 1, 1) := by decide +kernel
theorem dX1_paint_33 : decode cX1_paint 33 = .ok (.invokevirtual 41, 3) := by decide +kernel
theorem dX1_paint_36 : decode cX1_paint 36 = .ok (.ifCond .ne 5, 3) := by decide +kernel
theorem dX1_paint_39 : decode cX1_paint 39 = .ok (.iconst (-1), 1) := by decide +kernel
theorem dX1_paint_40 : decode cX1_paint 40 = .ok (.ireturn, 1) := by decide +kernel
theorem dX1_paint_41 : decode cX1_paint 41 = .ok (.iconst 0, 1) := by decide +kernel
theorem dX1_paint_42 : decode cX1_paint 42 = .ok (.istore_n 2, 1) := by decide +kernel
theorem dX1_paint_43 : decode cX1_paint 43 = .ok (.iload_n 2, 1) := by decide +kernel
theorem dX1_paint_44 : decode cX1_paint 44 = .ok (.sipush 1500, 3) := by decide +kernel
theorem dX1_paint_47 : decode cX1_paint 47 = .ok (.if_icmp .ge 35, 3) := by decide +kernel
theorem dX1_paint_50 : decode cX1_paint 50 = .ok (.aload_n 0, 1) := by decide +kernel
theorem dX1_paint_51 : decode cX1_paint 51 = .ok (.aload_n 1, 1) := by decide +kernel
theorem dX1_paint_52 : decode cX1_paint 52 = .ok (.iconst 0, 1) := by decide +kernel
theorem dX1_paint_53 : decode cX1_paint 53 = .ok (.invokevirtual 41, 3) := by decide +kernel
theorem dX1_paint_56 : decode cX1_paint 56 = .ok (.ifCond .eq 10, 3) := by decide +kernel
theorem dX1_paint_59 : decode cX1_paint 59 = .ok (.aload_n 0, 1) := by decide +kernel
theorem dX1_paint_60 : decode cX1_paint 60 = .ok (.aload_n 1, 1) := by decide +kernel
theorem dX1_paint_61 : decode cX1_paint 61 = .ok (.invokevirtual 45, 3) := by decide +kernel
theorem dX1_paint_64 : decode cX1_paint 64 = .ok (.iload_n 2, 1) := by decide +kernel
theorem dX1_paint_65 : decode cX1_paint 65 = .ok (.ireturn, 1) := by decide +kernel
theorem dX1_paint_66 : decode cX1_paint 66 = .ok (.aload_n 0, 1) := by decide +kernel
theorem dX1_paint_67 : decode cX1_paint 67 = .ok (.aload_n 1, 1) := by decide +kernel
theorem dX1_paint_68 : decode cX1_paint 68 = .ok (.invokevirtual 49, 3) := by decide +kernel
theorem dX1_paint_71 : decode cX1_paint 71 = .ok (.ifCond .ne 5, 3) := by decide +kernel
theorem dX1_paint_74 : decode cX1_paint 74 = .ok (.iconst (-1), 1) := by decide +kernel
theorem dX1_paint_75 : decode cX1_paint 75 = .ok (.ireturn, 1) := by decide +kernel
theorem dX1_paint_76 : decode cX1_paint 76 = .ok (.iinc 2 1, 3) := by decide +kernel
theorem dX1_paint_79 : decode cX1_paint 79 = .ok (.goto (-36), 3) := by decide +kernel
theorem dX1_paint_82 : decode cX1_paint 82 = .ok (.iconst (-1), 1) := by decide +kernel
theorem dX1_paint_83 : decode cX1_paint 83 = .ok (.ireturn, 1) := by decide +kernel
set_option maxRecDepth 20000 in
theorem ggX1_turnOn_X4_letters : GoodIn wsX1_turnOn wsX4_letters := goodIn_r _ [6, 7, 50, 51, 52, 53, 54, 55] (by decide +kernel) (by decide +kernel)
set_option maxRecDepth 20000 in
theorem gX1_turnOn_X4_letters : GoodIn wsX1_turnOn (wsV RX1 53 RX4 yX4_letters wsX4_letters) := goodIn_app (goodIn_of _ (by decide +kernel)) ggX1_turnOn_X4_letters
set_option maxRecDepth 20000 in
theorem ggX1_turnOn_X1_ordersOf : GoodIn wsX1_turnOn wsX1_ordersOf := goodIn_r _ [11] (by decide +kernel) (by decide +kernel)
set_option maxRecDepth 20000 in
theorem gX1_turnOn_X1_ordersOf : GoodIn wsX1_turnOn (va_wsS RX1 56 yX1_ordersOf wsX1_ordersOf) := goodIn_app (goodIn_of _ (by decide +kernel)) ggX1_turnOn_X1_ordersOf
set_option maxRecDepth 20000 in
theorem ggX1_turnOn_X4_states : GoodIn wsX1_turnOn wsX4_states := goodIn_r _ [15, 16, 50, 51, 52, 53, 54, 55] (by decide +kernel) (by decide +kernel)
set_option maxRecDepth 20000 in
theorem gX1_turnOn_X4_states : GoodIn wsX1_turnOn (wsV RX1 33 RX4 yX4_states wsX4_states) := goodIn_app (goodIn_of _ (by decide +kernel)) ggX1_turnOn_X4_states
set_option maxRecDepth 20000 in
theorem ggX1_turnOn_X1_exchange : GoodIn wsX1_turnOn wsX1_exchange := goodIn_r _ [20, 21, 2, 3, 4, 5, 6, 7, 22, 23, 24, 10, 25, 1, 26, 27, 28, 29, 30, 31, 32, 33, 16, 34, 35, 36, 37, 38, 39, 40, 41, 42, 43, 44, 45, 46, 47, 48, 49, 50, 51, 52, 53, 54, 55] (by decide +kernel) (by decide +kernel)
set_option maxRecDepth 20000 in
theorem gX1_turnOn_X1_exchange : GoodIn wsX1_turnOn (wsV RX1 37 RX1 yX1_exchange wsX1_exchange) := goodIn_app (goodIn_of _ (by decide +kernel)) ggX1_turnOn_X1_exchange
theorem dX1_turnOn_0 : decode cX1_turnOn 0 = .ok (.aload_n 1, 1) := by decide +kernel
theorem dX1_turnOn_1 : decode cX1_turnOn 1 = .ok (.invokevirtual 53, 3) := by decide +kernel
theorem dX1_turnOn_4 : decode cX1_turnOn 4 = .ok (.invokestatic 56, 3) := by decide +kernel
theorem dX1_turnOn_7 : decode cX1_turnOn 7 = .ok (.istore_n 2, 1) := by decide +kernel
theorem dX1_turnOn_8 : decode cX1_turnOn 8 = .ok (.aload_n 1, 1) := by decide +kernel
theorem dX1_turnOn_9 : decode cX1_turnOn 9 = .ok (.invokevirtual 33, 3) := by decide +kernel
theorem dX1_turnOn_12 : decode cX1_turnOn 12 = .ok (.iconst 1, 1) := by decide +kernel
theorem dX1_turnOn_13 : decode cX1_turnOn 13 = .ok (.isub, 1) := by decide +kernel
theorem dX1_turnOn_14 : decode cX1_turnOn 14 = .ok (.istore_n 3, 1) := by decide +kernel
theorem dX1_turnOn_15 : decode cX1_turnOn 15 = .ok (.iload_n 3, 1) := by decide +kernel
theorem dX1_turnOn_16 : decode cX1_turnOn 16 = .ok (.ifCond .lt 67, 3) := by decide +kernel
theorem dX1_turnOn_19 : decode cX1_turnOn 19 = .ok (.iload_n 3, 1) := by decide +kernel
theorem dX1_turnOn_20 : decode cX1_turnOn 20 = .ok (.bipush 12, 2) := by decide +kernel
theorem dX1_turnOn_22 : decode cX1_turnOn 22 = .ok (.if_icmp .ge 61, 3) := by decide +kernel
theorem dX1_turnOn_25 : decode cX1_turnOn 25 = .ok (.aload_n 0, 1) := by decide +kernel
theorem dX1_turnOn_26 : decode cX1_turnOn 26 = .ok (.getfield 9, 3) := by decide +kernel
theorem dX1_turnOn_29 : decode cX1_turnOn 29 = .ok (.iload_n 3, 1) := by decide +kernel
theorem dX1_turnOn_30 : decode cX1_turnOn 30 = .ok (.dup2, 1) := by decide +kernel
theorem dX1_turnOn_31 : decode cX1_turnOn 31 = .ok (.iaload, 1) := by decide +kernel
theorem dX1_turnOn_32 : decode cX1_turnOn 32 = .ok (.iconst 1, 1) := by decide +kernel
theorem dX1_turnOn_33 : decode cX1_turnOn 33 = .ok (.iadd, 1) := by decide +kernel
theorem dX1_turnOn_34 : decode cX1_turnOn 34 = .ok (.iastore, 1) := by decide +kernel
theorem dX1_turnOn_35 : decode cX1_turnOn 35 = .ok (.aload_n 0, 1) := by decide +kernel
theorem dX1_turnOn_36 : decode cX1_turnOn 36 = .ok (.getfield 9, 3) := by decide +kernel
theorem dX1_turnOn_39 : decode cX1_turnOn 39 = .ok (.iload_n 3, 1) := by decide +kernel
theorem dX1_turnOn_40 : decode cX1_turnOn 40 = .ok (.iaload, 1) := by decide +kernel
theorem dX1_turnOn_41 : decode cX1_turnOn 41 = .ok (.iload_n 2, 1) := by decide +kernel
theorem dX1_turnOn_42 : decode cX1_turnOn 42 = .ok (.if_icmp .ge 7, 3) := by decide +kernel
theorem dX1_turnOn_45 : decode cX1_turnOn 45 = .ok (.iconst 1, 1) := by decide +kernel
theorem dX1_turnOn_46 : decode cX1_turnOn 46 = .ok (.goto 4, 3) := by decide +kernel
theorem dX1_turnOn_49 : decode cX1_turnOn 49 = .ok (.iconst 0, 1) := by decide +kernel
theorem dX1_turnOn_50 : decode cX1_turnOn 50 = .ok (.istore 4, 2) := by decide +kernel
theorem dX1_turnOn_52 : decode cX1_turnOn 52 = .ok (.iload 4, 2) := by decide +kernel
theorem dX1_turnOn_54 : decode cX1_turnOn 54 = .ok (.ifCond .ne 10, 3) := by decide +kernel
theorem dX1_turnOn_57 : decode cX1_turnOn 57 = .ok (.aload_n 0, 1) := by decide +kernel
theorem dX1_turnOn_58 : decode cX1_turnOn 58 = .ok (.getfield 9, 3) := by decide +kernel
theorem dX1_turnOn_61 : decode cX1_turnOn 61 = .ok (.iload_n 3, 1) := by decide +kernel
theorem dX1_turnOn_62 : decode cX1_turnOn 62 = .ok (.iconst 0, 1) := by decide +kernel
theorem dX1_turnOn_63 : decode cX1_turnOn 63 = .ok (.iastore, 1) := by decide +kernel
theorem dX1_turnOn_64 : decode cX1_turnOn 64 = .ok (.aload_n 0, 1) := by decide +kernel
theorem dX1_turnOn_65 : decode cX1_turnOn 65 = .ok (.aload_n 1, 1) := by decide +kernel
theorem dX1_turnOn_66 : decode cX1_turnOn 66 = .ok (.iload_n 3, 1) := by decide +kernel
theorem dX1_turnOn_67 : decode cX1_turnOn 67 = .ok (.invokevirtual 37, 3) := by decide +kernel
theorem dX1_turnOn_70 : decode cX1_turnOn 70 = .ok (.iload 4, 2) := by decide +kernel
theorem dX1_turnOn_72 : decode cX1_turnOn 72 = .ok (.ifCond .eq 5, 3) := by decide +kernel
theorem dX1_turnOn_75 : decode cX1_turnOn 75 = .ok (.iconst 1, 1) := by decide +kernel
theorem dX1_turnOn_76 : decode cX1_turnOn 76 = .ok (.ireturn, 1) := by decide +kernel
theorem dX1_turnOn_77 : decode cX1_turnOn 77 = .ok (.iinc 3 (-1), 3) := by decide +kernel
theorem dX1_turnOn_80 : decode cX1_turnOn 80 = .ok (.goto (-65), 3) := by decide +kernel
theorem dX1_turnOn_83 : decode cX1_turnOn 83 = .ok (.iconst 0, 1) := by decide +kernel
theorem dX1_turnOn_84 : decode cX1_turnOn 84 = .ok (.ireturn, 1) := by decide +kernel
theorem dX1_ordersOf_0 : decode cX1_ordersOf 0 = .ok (.iconst 1, 1) := by decide +kernel
theorem dX1_ordersOf_1 : decode cX1_ordersOf 1 = .ok (.istore_n 1, 1) := by decide +kernel
theorem dX1_ordersOf_2 : decode cX1_ordersOf 2 = .ok (.iconst 2, 1) := by decide +kernel
theorem dX1_ordersOf_3 : decode cX1_ordersOf 3 = .ok (.istore_n 2, 1) := by decide +kernel
theorem dX1_ordersOf_4 : decode cX1_ordersOf 4 = .ok (.iload_n 2, 1) := by decide +kernel
theorem dX1_ordersOf_5 : decode cX1_ordersOf 5 = .ok (.iload_n 0, 1) := by decide +kernel
theorem dX1_ordersOf_6 : decode cX1_ordersOf 6 = .ok (.if_icmp .gt 13, 3) := by decide +kernel
theorem dX1_ordersOf_9 : decode cX1_ordersOf 9 = .ok (.iload_n 1, 1) := by decide +kernel
theorem dX1_ordersOf_10 : decode cX1_ordersOf 10 = .ok (.iload_n 2, 1) := by decide +kernel
theorem dX1_ordersOf_11 : decode cX1_ordersOf 11 = .ok (.imul, 1) := by decide +kernel
theorem dX1_ordersOf_12 : decode cX1_ordersOf 12 = .ok (.istore_n 1, 1) := by decide +kernel
theorem dX1_ordersOf_13 : decode cX1_ordersOf 13 = .ok (.iinc 2 1, 3) := by decide +kernel
theorem dX1_ordersOf_16 : decode cX1_ordersOf 16 = .ok (.goto (-12), 3) := by decide +kernel
theorem dX1_ordersOf_19 : decode cX1_ordersOf 19 = .ok (.iload_n 1, 1) := by decide +kernel
theorem dX1_ordersOf_20 : decode cX1_ordersOf 20 = .ok (.ireturn, 1) := by decide +kernel
set_option maxRecDepth 20000 in
theorem ggX1_exchange_X4_letters : GoodIn wsX1_exchange wsX4_letters := goodIn_r _ [6, 7, 39, 40, 41, 42, 43, 44] (by decide +kernel) (by decide +kernel)
set_option maxRecDepth 20000 in
theorem gX1_exchange_X4_letters : GoodIn wsX1_exchange (wsV RX1 53 RX4 yX4_letters wsX4_letters) := goodIn_app (goodIn_of _ (by decide +kernel)) ggX1_exchange_X4_letters
set_option maxRecDepth 20000 in
theorem ggX1_exchange_X1_orderOf : GoodIn wsX1_exchange wsX1_orderOf := goodIn_r _ [12, 13, 36, 37, 38] (by decide +kernel) (by decide +kernel)
set_option maxRecDepth 20000 in
theorem gX1_exchange_X1_orderOf : GoodIn wsX1_exchange (wsV RX1 60 RX1 yX1_orderOf wsX1_orderOf) := goodIn_app (goodIn_of _ (by decide +kernel)) ggX1_exchange_X1_orderOf
set_option maxRecDepth 20000 in
theorem ggX1_exchange_X1_letterOf : GoodIn wsX1_exchange wsX1_letterOf := goodIn_r _ [16, 17] (by decide +kernel) (by decide +kernel)
set_option maxRecDepth 20000 in
theorem gX1_exchange_X1_letterOf : GoodIn wsX1_exchange (va_wsS RX1 63 yX1_letterOf wsX1_letterOf) := goodIn_app (goodIn_of _ (by decide +kernel)) ggX1_exchange_X1_letterOf
set_option maxRecDepth 20000 in
theorem ggX1_exchange_X4_target : GoodIn wsX1_exchange wsX4_target := goodIn_r _ [21, 22, 7, 23, 39, 40, 41, 42, 43, 44] (by decide +kernel) (by decide +kernel)
set_option maxRecDepth 20000 in
theorem gX1_exchange_X4_target : GoodIn wsX1_exchange (wsV RX1 67 RX4 yX4_target wsX4_target) := goodIn_app (goodIn_of _ (by decide +kernel)) ggX1_exchange_X4_target
set_option maxRecDepth 20000 in
theorem ggX1_exchange_X4_lead : GoodIn wsX1_exchange wsX4_lead := goodIn_r _ [27, 23, 28, 29, 30, 5, 31, 22, 32, 33, 34, 35, 7, 39, 40, 41, 42, 43, 44] (by decide +kernel) (by decide +kernel)
set_option maxRecDepth 20000 in
theorem gX1_exchange_X4_lead : GoodIn wsX1_exchange (wsV RX1 71 RX4 yX4_lead wsX4_lead) := goodIn_app (goodIn_of _ (by decide +kernel)) ggX1_exchange_X4_lead
theorem dX1_exchange_0 : decode cX1_exchange 0 = .ok (.iconst 0, 1) := by decide +kernel
theorem dX1_exchange_1 : decode cX1_exchange 1 = .ok (.istore_n 3, 1) := by decide +kernel
theorem dX1_exchange_2 : decode cX1_exchange 2 = .ok (.iload_n 3, 1) := by decide +kernel
theorem dX1_exchange_3 : decode cX1_exchange 3 = .ok (.aload_n 1, 1) := by decide +kernel
theorem dX1_exchange_4 : decode cX1_exchange 4 = .ok (.invokevirtual 53, 3) := by decide +kernel
theorem dX1_exchange_7 : decode cX1_exchange 7 = .ok (.if_icmp .ge 36, 3) := by decide +kernel
theorem dX1_exchange_10 : decode cX1_exchange 10 = .ok (.aload_n 0, 1) := by decide +kernel
theorem dX1_exchange_11 : decode cX1_exchange 11 = .ok (.getfield 23, 3) := by decide +kernel
theorem dX1_exchange_14 : decode cX1_exchange 14 = .ok (.iload_n 2, 1) := by decide +kernel
theorem dX1_exchange_15 : decode cX1_exchange 15 = .ok (.iload_n 3, 1) := by decide +kernel
theorem dX1_exchange_16 : decode cX1_exchange 16 = .ok (.aload_n 1, 1) := by decide +kernel
theorem dX1_exchange_17 : decode cX1_exchange 17 = .ok (.iload_n 2, 1) := by decide +kernel
theorem dX1_exchange_18 : decode cX1_exchange 18 = .ok (.aload_n 0, 1) := by decide +kernel
theorem dX1_exchange_19 : decode cX1_exchange 19 = .ok (.iload_n 2, 1) := by decide +kernel
theorem dX1_exchange_20 : decode cX1_exchange 20 = .ok (.invokevirtual 60, 3) := by decide +kernel
theorem dX1_exchange_23 : decode cX1_exchange 23 = .ok (.iload_n 3, 1) := by decide +kernel
theorem dX1_exchange_24 : decode cX1_exchange 24 = .ok (.aload_n 1, 1) := by decide +kernel
theorem dX1_exchange_25 : decode cX1_exchange 25 = .ok (.invokevirtual 53, 3) := by decide +kernel
theorem dX1_exchange_28 : decode cX1_exchange 28 = .ok (.invokestatic 63, 3) := by decide +kernel
theorem dX1_exchange_31 : decode cX1_exchange 31 = .ok (.invokevirtual 67, 3) := by decide +kernel
theorem dX1_exchange_34 : decode cX1_exchange 34 = .ok (.invokevirtual 71, 3) := by decide +kernel
theorem dX1_exchange_37 : decode cX1_exchange 37 = .ok (.iinc 3 1, 3) := by decide +kernel
theorem dX1_exchange_40 : decode cX1_exchange 40 = .ok (.goto (-38), 3) := by decide +kernel
theorem dX1_exchange_43 : decode cX1_exchange 43 = .ok (.return_, 1) := by decide +kernel
theorem dX1_orderOf_0 : decode cX1_orderOf 0 = .ok (.iload_n 1, 1) := by decide +kernel
theorem dX1_orderOf_1 : decode cX1_orderOf 1 = .ok (.ifCond .lt 18, 3) := by decide +kernel
theorem dX1_orderOf_4 : decode cX1_orderOf 4 = .ok (.iload_n 1, 1) := by decide +kernel
theorem dX1_orderOf_5 : decode cX1_orderOf 5 = .ok (.bipush 12, 2) := by decide +kernel
theorem dX1_orderOf_7 : decode cX1_orderOf 7 = .ok (.if_icmp .ge 12, 3) := by decide +kernel
theorem dX1_orderOf_10 : decode cX1_orderOf 10 = .ok (.aload_n 0, 1) := by decide +kernel
theorem dX1_orderOf_11 : decode cX1_orderOf 11 = .ok (.getfield 9, 3) := by decide +kernel
theorem dX1_orderOf_14 : decode cX1_orderOf 14 = .ok (.iload_n 1, 1) := by decide +kernel
theorem dX1_orderOf_15 : decode cX1_orderOf 15 = .ok (.iaload, 1) := by decide +kernel
theorem dX1_orderOf_16 : decode cX1_orderOf 16 = .ok (.goto 4, 3) := by decide +kernel
theorem dX1_orderOf_19 : decode cX1_orderOf 19 = .ok (.iconst 0, 1) := by decide +kernel
theorem dX1_orderOf_20 : decode cX1_orderOf 20 = .ok (.ireturn, 1) := by decide +kernel
theorem dX1_letterOf_0 : decode cX1_letterOf 0 = .ok (.iconst 4, 1) := by decide +kernel
theorem dX1_letterOf_1 : decode cX1_letterOf 1 = .ok (.iload_n 2, 1) := by decide +kernel
theorem dX1_letterOf_2 : decode cX1_letterOf 2 = .ok (.isub, 1) := by decide +kernel
theorem dX1_letterOf_3 : decode cX1_letterOf 3 = .ok (.istore_n 3, 1) := by decide +kernel
theorem dX1_letterOf_4 : decode cX1_letterOf 4 = .ok (.iload_n 0, 1) := by decide +kernel
theorem dX1_letterOf_5 : decode cX1_letterOf 5 = .ok (.iconst 4, 1) := by decide +kernel
theorem dX1_letterOf_6 : decode cX1_letterOf 6 = .ok (.imul, 1) := by decide +kernel
theorem dX1_letterOf_7 : decode cX1_letterOf 7 = .ok (.iload_n 3, 1) := by decide +kernel
theorem dX1_letterOf_8 : decode cX1_letterOf 8 = .ok (.iadd, 1) := by decide +kernel
theorem dX1_letterOf_9 : decode cX1_letterOf 9 = .ok (.iload_n 1, 1) := by decide +kernel
theorem dX1_letterOf_10 : decode cX1_letterOf 10 = .ok (.iadd, 1) := by decide +kernel
theorem dX1_letterOf_11 : decode cX1_letterOf 11 = .ok (.istore 4, 2) := by decide +kernel
theorem dX1_letterOf_13 : decode cX1_letterOf 13 = .ok (.iload 4, 2) := by decide +kernel
theorem dX1_letterOf_15 : decode cX1_letterOf 15 = .ok (.ifCond .lt 23, 3) := by decide +kernel
theorem dX1_letterOf_18 : decode cX1_letterOf 18 = .ok (.iload 4, 2) := by decide +kernel
theorem dX1_letterOf_20 : decode cX1_letterOf 20 = .ok (.getstatic 75, 3) := by decide +kernel
theorem dX1_letterOf_23 : decode cX1_letterOf 23 = .ok (.arraylength, 1) := by decide +kernel
theorem dX1_letterOf_24 : decode cX1_letterOf 24 = .ok (.if_icmp .ge 14, 3) := by decide +kernel
theorem dX1_letterOf_27 : decode cX1_letterOf 27 = .ok (.getstatic 75, 3) := by decide +kernel
theorem dX1_letterOf_30 : decode cX1_letterOf 30 = .ok (.iload 4, 2) := by decide +kernel
theorem dX1_letterOf_32 : decode cX1_letterOf 32 = .ok (.iaload, 1) := by decide +kernel
theorem dX1_letterOf_33 : decode cX1_letterOf 33 = .ok (.iload_n 3, 1) := by decide +kernel
theorem dX1_letterOf_34 : decode cX1_letterOf 34 = .ok (.isub, 1) := by decide +kernel
theorem dX1_letterOf_35 : decode cX1_letterOf 35 = .ok (.goto 4, 3) := by decide +kernel
theorem dX1_letterOf_38 : decode cX1_letterOf 38 = .ok (.iconst (-1), 1) := by decide +kernel
theorem dX1_letterOf_39 : decode cX1_letterOf 39 = .ok (.ireturn, 1) := by decide +kernel
set_option maxRecDepth 20000 in
theorem ggX1_takeOver_X4_states : GoodIn wsX1_takeOver wsX4_states := goodIn_r _ [6, 7, 33, 34, 35, 36, 37, 38] (by decide +kernel) (by decide +kernel)
set_option maxRecDepth 20000 in
theorem gX1_takeOver_X4_states : GoodIn wsX1_takeOver (wsV RX1 33 RX4 yX4_states wsX4_states) := goodIn_app (goodIn_of _ (by decide +kernel)) ggX1_takeOver_X4_states
set_option maxRecDepth 20000 in
theorem ggX1_takeOver_X4_letters : GoodIn wsX1_takeOver wsX4_letters := goodIn_r _ [11, 12, 33, 34, 35, 36, 37, 38] (by decide +kernel) (by decide +kernel)
set_option maxRecDepth 20000 in
theorem gX1_takeOver_X4_letters : GoodIn wsX1_takeOver (wsV RX1 53 RX4 yX4_letters wsX4_letters) := goodIn_app (goodIn_of _ (by decide +kernel)) ggX1_takeOver_X4_letters
set_option maxRecDepth 20000 in
theorem ggX1_takeOver_X4_target : GoodIn wsX1_takeOver wsX4_target := goodIn_r _ [16, 7, 12, 17, 33, 34, 35, 36, 37, 38] (by decide +kernel) (by decide +kernel)
set_option maxRecDepth 20000 in
theorem gX1_takeOver_X4_target : GoodIn wsX1_takeOver (wsV RX1 67 RX4 yX4_target wsX4_target) := goodIn_app (goodIn_of _ (by decide +kernel)) ggX1_takeOver_X4_target
set_option maxRecDepth 20000 in
theorem ggX1_takeOver_X4_lead : GoodIn wsX1_takeOver wsX4_lead := goodIn_r _ [21, 17, 22, 23, 24, 5, 25, 7, 26, 27, 28, 29, 12, 33, 34, 35, 36, 37, 38] (by decide +kernel) (by decide +kernel)
set_option maxRecDepth 20000 in
theorem gX1_takeOver_X4_lead : GoodIn wsX1_takeOver (wsV RX1 71 RX4 yX4_lead wsX4_lead) := goodIn_app (goodIn_of _ (by decide +kernel)) ggX1_takeOver_X4_lead
theorem dX1_takeOver_0 : decode cX1_takeOver 0 = .ok (.iconst 0, 1) := by decide +kernel
theorem dX1_takeOver_1 : decode cX1_takeOver 1 = .ok (.istore_n 2, 1) := by decide +kernel
theorem dX1_takeOver_2 : decode cX1_takeOver 2 = .ok (.iload_n 2, 1) := by decide +kernel
theorem dX1_takeOver_3 : decode cX1_takeOver 3 = .ok (.aload_n 1, 1) := by decide +kernel
theorem dX1_takeOver_4 : decode cX1_takeOver 4 = .ok (.invokevirtual 33, 3) := by decide +kernel
theorem dX1_takeOver_7 : decode cX1_takeOver 7 = .ok (.if_icmp .ge 40, 3) := by decide +kernel
theorem dX1_takeOver_10 : decode cX1_takeOver 10 = .ok (.iconst 0, 1) := by decide +kernel
theorem dX1_takeOver_11 : decode cX1_takeOver 11 = .ok (.istore_n 3, 1) := by decide +kernel
theorem dX1_takeOver_12 : decode cX1_takeOver 12 = .ok (.iload_n 3, 1) := by decide +kernel
theorem dX1_takeOver_13 : decode cX1_takeOver 13 = .ok (.aload_n 1, 1) := by decide +kernel
theorem dX1_takeOver_14 : decode cX1_takeOver 14 = .ok (.invokevirtual 53, 3) := by decide +kernel
theorem dX1_takeOver_17 : decode cX1_takeOver 17 = .ok (.if_icmp .ge 24, 3) := by decide +kernel
theorem dX1_takeOver_20 : decode cX1_takeOver 20 = .ok (.aload_n 1, 1) := by decide +kernel
theorem dX1_takeOver_21 : decode cX1_takeOver 21 = .ok (.iload_n 2, 1) := by decide +kernel
theorem dX1_takeOver_22 : decode cX1_takeOver 22 = .ok (.iload_n 3, 1) := by decide +kernel
theorem dX1_takeOver_23 : decode cX1_takeOver 23 = .ok (.aload_n 0, 1) := by decide +kernel
theorem dX1_takeOver_24 : decode cX1_takeOver 24 = .ok (.getfield 23, 3) := by decide +kernel
theorem dX1_takeOver_27 : decode cX1_takeOver 27 = .ok (.iload_n 2, 1) := by decide +kernel
theorem dX1_takeOver_28 : decode cX1_takeOver 28 = .ok (.iload_n 3, 1) := by decide +kernel
theorem dX1_takeOver_29 : decode cX1_takeOver 29 = .ok (.invokevirtual 67, 3) := by decide +kernel
theorem dX1_takeOver_32 : decode cX1_takeOver 32 = .ok (.invokevirtual 71, 3) := by decide +kernel
theorem dX1_takeOver_35 : decode cX1_takeOver 35 = .ok (.iinc 3 1, 3) := by decide +kernel
theorem dX1_takeOver_38 : decode cX1_takeOver 38 = .ok (.goto (-26), 3) := by decide +kernel
theorem dX1_takeOver_41 : decode cX1_takeOver 41 = .ok (.iinc 2 1, 3) := by decide +kernel
theorem dX1_takeOver_44 : decode cX1_takeOver 44 = .ok (.goto (-42), 3) := by decide +kernel
theorem dX1_takeOver_47 : decode cX1_takeOver 47 = .ok (.return_, 1) := by decide +kernel
set_option maxRecDepth 20000 in
theorem ggX1_allComeTogether_X4_states : GoodIn wsX1_allComeTogether wsX4_states := goodIn_r _ [6, 7, 34, 35, 36, 37, 38, 39] (by decide +kernel) (by decide +kernel)
set_option maxRecDepth 20000 in
theorem gX1_allComeTogether_X4_states : GoodIn wsX1_allComeTogether (wsV RX1 33 RX4 yX4_states wsX4_states) := goodIn_app (goodIn_of _ (by decide +kernel)) ggX1_allComeTogether_X4_states
set_option maxRecDepth 20000 in
theorem ggX1_allComeTogether_X1_sweepPairs : GoodIn wsX1_allComeTogether wsX1_sweepPairs := goodIn_r _ [12, 1, 2, 3, 4, 5, 6, 7, 13, 14, 15, 11, 16, 17, 18, 19, 20, 21, 22, 23, 24, 25, 26, 27, 28, 29, 30, 31, 32, 33, 34, 35, 36, 37, 38, 39] (by decide +kernel) (by decide +kernel)
set_option maxRecDepth 20000 in
theorem gX1_allComeTogether_X1_sweepPairs : GoodIn wsX1_allComeTogether (wsV RX1 78 RX1 yX1_sweepPairs wsX1_sweepPairs) := goodIn_app (goodIn_of _ (by decide +kernel)) ggX1_allComeTogether_X1_sweepPairs
theorem dX1_allComeTogether_0 : decode cX1_allComeTogether 0 = .ok (.iconst 0, 1) := by decide +kernel
theorem dX1_allComeTogether_1 : decode cX1_allComeTogether 1 = .ok (.istore_n 3, 1) := by decide +kernel
theorem dX1_allComeTogether_2 : decode cX1_allComeTogether 2 = .ok (.iload_n 3, 1) := by decide +kernel
theorem dX1_allComeTogether_3 : decode cX1_allComeTogether 3 = .ok (.bipush 12, 2) := by decide +kernel
theorem dX1_allComeTogether_5 : decode cX1_allComeTogether 5 = .ok (.if_icmp .ge 18, 3) := by decide +kernel
theorem dX1_allComeTogether_8 : decode cX1_allComeTogether 8 = .ok (.aload_n 0, 1) := by decide +kernel
theorem dX1_allComeTogether_9 : decode cX1_allComeTogether 9 = .ok (.getfield 15, 3) := by decide +kernel
theorem dX1_allComeTogether_12 : decode cX1_allComeTogether 12 = .ok (.iload_n 3, 1) := by decide +kernel
theorem dX1_allComeTogether_13 : decode cX1_allComeTogether 13 = .ok (.iconst 1, 1) := by decide +kernel
theorem dX1_allComeTogether_14 : decode cX1_allComeTogether 14 = .ok (.iload_n 3, 1) := by decide +kernel
theorem dX1_allComeTogether_15 : decode cX1_allComeTogether 15 = .ok (.ishl, 1) := by decide +kernel
theorem dX1_allComeTogether_16 : decode cX1_allComeTogether 16 = .ok (.iastore, 1) := by decide +kernel
theorem dX1_allComeTogether_17 : decode cX1_allComeTogether 17 = .ok (.iinc 3 1, 3) := by decide +kernel
theorem dX1_allComeTogether_20 : decode cX1_allComeTogether 20 = .ok (.goto (-18), 3) := by decide +kernel
theorem dX1_allComeTogether_23 : decode cX1_allComeTogether 23 = .ok (.aload_n 1, 1) := by decide +kernel
theorem dX1_allComeTogether_24 : decode cX1_allComeTogether 24 = .ok (.invokevirtual 33, 3) := by decide +kernel
theorem dX1_allComeTogether_27 : decode cX1_allComeTogether 27 = .ok (.aload_n 1, 1) := by decide +kernel
theorem dX1_allComeTogether_28 : decode cX1_allComeTogether 28 = .ok (.invokevirtual 33, 3) := by decide +kernel
theorem dX1_allComeTogether_31 : decode cX1_allComeTogether 31 = .ok (.iconst 1, 1) := by decide +kernel
theorem dX1_allComeTogether_32 : decode cX1_allComeTogether 32 = .ok (.isub, 1) := by decide +kernel
theorem dX1_allComeTogether_33 : decode cX1_allComeTogether 33 = .ok (.imul, 1) := by decide +kernel
theorem dX1_allComeTogether_34 : decode cX1_allComeTogether 34 = .ok (.iconst 2, 1) := by decide +kernel
theorem dX1_allComeTogether_35 : decode cX1_allComeTogether 35 = .ok (.idiv, 1) := by decide +kernel
theorem dX1_allComeTogether_36 : decode cX1_allComeTogether 36 = .ok (.istore_n 3, 1) := by decide +kernel
theorem dX1_allComeTogether_37 : decode cX1_allComeTogether 37 = .ok (.iload_n 3, 1) := by decide +kernel
theorem dX1_allComeTogether_38 : decode cX1_allComeTogether 38 = .ok (.iconst 1, 1) := by decide +kernel
theorem dX1_allComeTogether_39 : decode cX1_allComeTogether 39 = .ok (.iadd, 1) := by decide +kernel
theorem dX1_allComeTogether_40 : decode cX1_allComeTogether 40 = .ok (.istore 4, 2) := by decide +kernel
theorem dX1_allComeTogether_42 : decode cX1_allComeTogether 42 = .ok (.iconst 0, 1) := by decide +kernel
theorem dX1_allComeTogether_43 : decode cX1_allComeTogether 43 = .ok (.istore 5, 2) := by decide +kernel
theorem dX1_allComeTogether_45 : decode cX1_allComeTogether 45 = .ok (.iload 5, 2) := by decide +kernel
theorem dX1_allComeTogether_47 : decode cX1_allComeTogether 47 = .ok (.sipush 144, 3) := by decide +kernel
theorem dX1_allComeTogether_50 : decode cX1_allComeTogether 50 = .ok (.if_icmp .ge 31, 3) := by decide +kernel
theorem dX1_allComeTogether_53 : decode cX1_allComeTogether 53 = .ok (.iload_n 3, 1) := by decide +kernel
theorem dX1_allComeTogether_54 : decode cX1_allComeTogether 54 = .ok (.ifCond .le 27, 3) := by decide +kernel
theorem dX1_allComeTogether_57 : decode cX1_allComeTogether 57 = .ok (.iload_n 3, 1) := by decide +kernel
theorem dX1_allComeTogether_58 : decode cX1_allComeTogether 58 = .ok (.iload 4, 2) := by decide +kernel
theorem dX1_allComeTogether_60 : decode cX1_allComeTogether 60 = .ok (.if_icmp .ge 21, 3) := by decide +kernel
theorem dX1_allComeTogether_63 : decode cX1_allComeTogether 63 = .ok (.iload_n 3, 1) := by decide +kernel
theorem dX1_allComeTogether_64 : decode cX1_allComeTogether 64 = .ok (.istore 4, 2) := by decide +kernel
theorem dX1_allComeTogether_66 : decode cX1_allComeTogether 66 = .ok (.iload_n 3, 1) := by decide +kernel
theorem dX1_allComeTogether_67 : decode cX1_allComeTogether 67 = .ok (.aload_n 0, 1) := by decide +kernel
theorem dX1_allComeTogether_68 : decode cX1_allComeTogether 68 = .ok (.aload_n 1, 1) := by decide +kernel
theorem dX1_allComeTogether_69 : decode cX1_allComeTogether 69 = .ok (.iload_n 2, 1) := by decide +kernel
theorem dX1_allComeTogether_70 : decode cX1_allComeTogether 70 = .ok (.invokevirtual 78, 3) := by decide +kernel
theorem dX1_allComeTogether_73 : decode cX1_allComeTogether 73 = .ok (.isub, 1) := by decide +kernel
theorem dX1_allComeTogether_74 : decode cX1_allComeTogether 74 = .ok (.istore_n 3, 1) := by decide +kernel
theorem dX1_allComeTogether_75 : decode cX1_allComeTogether 75 = .ok (.iinc 5 1, 3) := by decide +kernel
theorem dX1_allComeTogether_78 : decode cX1_allComeTogether 78 = .ok (.goto (-33), 3) := by decide +kernel
theorem dX1_allComeTogether_81 : decode cX1_allComeTogether 81 = .ok (.iload_n 3, 1) := by decide +kernel
theorem dX1_allComeTogether_82 : decode cX1_allComeTogether 82 = .ok (.ifCond .ne 7, 3) := by decide +kernel
theorem dX1_allComeTogether_85 : decode cX1_allComeTogether 85 = .ok (.iconst 1, 1) := by decide +kernel
theorem dX1_allComeTogether_86 : decode cX1_allComeTogether 86 = .ok (.goto 4, 3) := by decide +kernel
theorem dX1_allComeTogether_89 : decode cX1_allComeTogether 89 = .ok (.iconst 0, 1) := by decide +kernel
theorem dX1_allComeTogether_90 : decode cX1_allComeTogether 90 = .ok (.ireturn, 1) := by decide +kernel
set_option maxRecDepth 20000 in
theorem ggX1_sweepPairs_X4_states : GoodIn wsX1_sweepPairs wsX4_states := goodIn_r _ [6, 7, 30, 31, 32, 33, 34, 35] (by decide +kernel) (by decide +kernel)
set_option maxRecDepth 20000 in
theorem gX1_sweepPairs_X4_states : GoodIn wsX1_sweepPairs (wsV RX1 33 RX4 yX4_states wsX4_states) := goodIn_app (goodIn_of _ (by decide +kernel)) ggX1_sweepPairs_X4_states
set_option maxRecDepth 20000 in
theorem ggX1_sweepPairs_X1_comeTogether : GoodIn wsX1_sweepPairs wsX1_comeTogether := goodIn_r _ [12, 13, 1, 14, 15, 16, 5, 17, 18, 19, 20, 21, 22, 7, 23, 24, 25, 11, 26, 27, 28, 29, 30, 31, 32, 33, 34, 35] (by decide +kernel) (by decide +kernel)
set_option maxRecDepth 20000 in
theorem gX1_sweepPairs_X1_comeTogether : GoodIn wsX1_sweepPairs (wsV RX1 82 RX1 yX1_comeTogether wsX1_comeTogether) := goodIn_app (goodIn_of _ (by decide +kernel)) ggX1_sweepPairs_X1_comeTogether
theorem dX1_sweepPairs_0 : decode cX1_sweepPairs 0 = .ok (.iconst 0, 1) := by decide +kernel
theorem dX1_sweepPairs_1 : decode cX1_sweepPairs 1 = .ok (.istore_n 3, 1) := by decide +kernel
theorem dX1_sweepPairs_2 : decode cX1_sweepPairs 2 = .ok (.iconst 0, 1) := by decide +kernel
theorem dX1_sweepPairs_3 : decode cX1_sweepPairs 3 = .ok (.istore 4, 2) := by decide +kernel
theorem dX1_sweepPairs_5 : decode cX1_sweepPairs 5 = .ok (.iload 4, 2) := by decide +kernel
theorem dX1_sweepPairs_7 : decode cX1_sweepPairs 7 = .ok (.aload_n 1, 1) := by decide +kernel
theorem dX1_sweepPairs_8 : decode cX1_sweepPairs 8 = .ok (.invokevirtual 33, 3) := by decide +kernel
theorem dX1_sweepPairs_11 : decode cX1_sweepPairs 11 = .ok (.if_icmp .ge 103, 3) := by decide +kernel
theorem dX1_sweepPairs_14 : decode cX1_sweepPairs 14 = .ok (.iload 4, 2) := by decide +kernel
theorem dX1_sweepPairs_16 : decode cX1_sweepPairs 16 = .ok (.bipush 12, 2) := by decide +kernel
theorem dX1_sweepPairs_18 : decode cX1_sweepPairs 18 = .ok (.if_icmp .ge 96, 3) := by decide +kernel
theorem dX1_sweepPairs_21 : decode cX1_sweepPairs 21 = .ok (.iload 4, 2) := by decide +kernel
theorem dX1_sweepPairs_23 : decode cX1_sweepPairs 23 = .ok (.iconst 1, 1) := by decide +kernel
theorem dX1_sweepPairs_24 : decode cX1_sweepPairs 24 = .ok (.iadd, 1) := by decide +kernel
theorem dX1_sweepPairs_25 : decode cX1_sweepPairs 25 = .ok (.istore 5, 2) := by decide +kernel
theorem dX1_sweepPairs_27 : decode cX1_sweepPairs 27 = .ok (.iload 5, 2) := by decide +kernel
theorem dX1_sweepPairs_29 : decode cX1_sweepPairs 29 = .ok (.aload_n 1, 1) := by decide +kernel
theorem dX1_sweepPairs_30 : decode cX1_sweepPairs 30 = .ok (.invokevirtual 33, 3) := by decide +kernel
theorem dX1_sweepPairs_33 : decode cX1_sweepPairs 33 = .ok (.if_icmp .ge 75, 3) := by decide +kernel
theorem dX1_sweepPairs_36 : decode cX1_sweepPairs 36 = .ok (.iload 5, 2) := by decide +kernel
theorem dX1_sweepPairs_38 : decode cX1_sweepPairs 38 = .ok (.bipush 12, 2) := by decide +kernel
theorem dX1_sweepPairs_40 : decode cX1_sweepPairs 40 = .ok (.if_icmp .ge 68, 3) := by decide +kernel
theorem dX1_sweepPairs_43 : decode cX1_sweepPairs 43 = .ok (.aload_n 0, 1) := by decide +kernel
theorem dX1_sweepPairs_44 : decode cX1_sweepPairs 44 = .ok (.getfield 15, 3) := by decide +kernel
theorem dX1_sweepPairs_47 : decode cX1_sweepPairs 47 = .ok (.iload 4, 2) := by decide +kernel
theorem dX1_sweepPairs_49 : decode cX1_sweepPairs 49 = .ok (.iaload, 1) := by decide +kernel
theorem dX1_sweepPairs_50 : decode cX1_sweepPairs 50 = .ok (.iload 5, 2) := by decide +kernel
theorem dX1_sweepPairs_52 : decode cX1_sweepPairs 52 = .ok (.ishr, 1) := by decide +kernel
theorem dX1_sweepPairs_53 : decode cX1_sweepPairs 53 = .ok (.iconst 1, 1) := by decide +kernel
theorem dX1_sweepPairs_54 : decode cX1_sweepPairs 54 = .ok (.iand, 1) := by decide +kernel
theorem dX1_sweepPairs_55 : decode cX1_sweepPairs 55 = .ok (.ifCond .ne 47, 3) := by decide +kernel
theorem dX1_sweepPairs_58 : decode cX1_sweepPairs 58 = .ok (.aload_n 0, 1) := by decide +kernel
theorem dX1_sweepPairs_59 : decode cX1_sweepPairs 59 = .ok (.aload_n 1, 1) := by decide +kernel
theorem dX1_sweepPairs_60 : decode cX1_sweepPairs 60 = .ok (.iload 4, 2) := by decide +kernel
theorem dX1_sweepPairs_62 : decode cX1_sweepPairs 62 = .ok (.iload 5, 2) := by decide +kernel
theorem dX1_sweepPairs_64 : decode cX1_sweepPairs 64 = .ok (.iload_n 2, 1) := by decide +kernel
theorem dX1_sweepPairs_65 : decode cX1_sweepPairs 65 = .ok (.invokevirtual 82, 3) := by decide +kernel
theorem dX1_sweepPairs_68 : decode cX1_sweepPairs 68 = .ok (.ifCond .eq 34, 3) := by decide +kernel
theorem dX1_sweepPairs_71 : decode cX1_sweepPairs 71 = .ok (.aload_n 0, 1) := by decide +kernel
theorem dX1_sweepPairs_72 : decode cX1_sweepPairs 72 = .ok (.getfield 15, 3) := by decide +kernel
theorem dX1_sweepPairs_75 : decode cX1_sweepPairs 75 = .ok (.iload 4, 2) := by decide +kernel
theorem dX1_sweepPairs_77 : decode cX1_sweepPairs 77 = .ok (.dup2, 1) := by decide +kernel
theorem dX1_sweepPairs_78 : decode cX1_sweepPairs 78 = .ok (.iaload, 1) := by decide +kernel
theorem dX1_sweepPairs_79 : decode cX1_sweepPairs 79 = .ok (.iconst 1, 1) := by decide +kernel
theorem dX1_sweepPairs_80 : decode cX1_sweepPairs 80 = .ok (.iload 5, 2) := by decide +kernel
theorem dX1_sweepPairs_82 : decode cX1_sweepPairs 82 = .ok (.ishl, 1) := by decide +kernel
theorem dX1_sweepPairs_83 : decode cX1_sweepPairs 83 = .ok (.ior, 1) := by decide +kernel
theorem dX1_sweepPairs_84 : decode cX1_sweepPairs 84 = .ok (.iastore, 1) := by decide +kernel
theorem dX1_sweepPairs_85 : decode cX1_sweepPairs 85 = .ok (.aload_n 0, 1) := by decide +kernel
theorem dX1_sweepPairs_86 : decode cX1_sweepPairs 86 = .ok (.getfield 15, 3) := by decide +kernel
theorem dX1_sweepPairs_89 : decode cX1_sweepPairs 89 = .ok (.iload 5, 2) := by decide +kernel
theorem dX1_sweepPairs_91 : decode cX1_sweepPairs 91 = .ok (.dup2, 1) := by decide +kernel
theorem dX1_sweepPairs_92 : decode cX1_sweepPairs 92 = .ok (.iaload, 1) := by decide +kernel
theorem dX1_sweepPairs_93 : decode cX1_sweepPairs 93 = .ok (.iconst 1, 1) := by decide +kernel
theorem dX1_sweepPairs_94 : decode cX1_sweepPairs 94 = .ok (.iload 4, 2) := by decide +kernel
theorem dX1_sweepPairs_96 : decode cX1_sweepPairs 96 = .ok (.ishl, 1) := by decide +kernel
theorem dX1_sweepPairs_97 : decode cX1_sweepPairs 97 = .ok (.ior, 1) := by decide +kernel
theorem dX1_sweepPairs_98 : decode cX1_sweepPairs 98 = .ok (.iastore, 1) := by decide +kernel
theorem dX1_sweepPairs_99 : decode cX1_sweepPairs 99 = .ok (.iinc 3 1, 3) := by decide +kernel
theorem dX1_sweepPairs_102 : decode cX1_sweepPairs 102 = .ok (.iinc 5 1, 3) := by decide +kernel
theorem dX1_sweepPairs_105 : decode cX1_sweepPairs 105 = .ok (.goto (-78), 3) := by decide +kernel
theorem dX1_sweepPairs_108 : decode cX1_sweepPairs 108 = .ok (.iinc 4 1, 3) := by decide +kernel
theorem dX1_sweepPairs_111 : decode cX1_sweepPairs 111 = .ok (.goto (-106), 3) := by decide +kernel
theorem dX1_sweepPairs_114 : decode cX1_sweepPairs 114 = .ok (.iload_n 3, 1) := by decide +kernel
theorem dX1_sweepPairs_115 : decode cX1_sweepPairs 115 = .ok (.ireturn, 1) := by decide +kernel
set_option maxRecDepth 20000 in
theorem ggX1_comeTogether_X4_letters : GoodIn wsX1_comeTogether wsX4_letters := goodIn_r _ [7, 8, 22, 23, 24, 25, 26, 27] (by decide +kernel) (by decide +kernel)
set_option maxRecDepth 20000 in
theorem gX1_comeTogether_X4_letters : GoodIn wsX1_comeTogether (wsV RX1 53 RX4 yX4_letters wsX4_letters) := goodIn_app (goodIn_of _ (by decide +kernel)) ggX1_comeTogether_X4_letters
set_option maxRecDepth 20000 in
theorem ggX1_comeTogether_X4_target : GoodIn wsX1_comeTogether wsX4_target := goodIn_r _ [12, 13, 8, 14, 22, 23, 24, 25, 26, 27] (by decide +kernel) (by decide +kernel)
set_option maxRecDepth 20000 in
theorem gX1_comeTogether_X4_target : GoodIn wsX1_comeTogether (wsV RX1 67 RX4 yX4_target wsX4_target) := goodIn_app (goodIn_of _ (by decide +kernel)) ggX1_comeTogether_X4_target
set_option maxRecDepth 20000 in
theorem ggX1_comeTogether_X1_targets : GoodIn wsX1_comeTogether wsX1_targets := goodIn_r _ [18, 3, 4, 5, 6, 7, 8, 9, 10, 11, 12, 13, 14, 22, 23, 24, 25, 26, 27] (by decide +kernel) (by decide +kernel)
set_option maxRecDepth 20000 in
theorem gX1_comeTogether_X1_targets : GoodIn wsX1_comeTogether (va_wsS RX1 86 yX1_targets wsX1_targets) := goodIn_app (goodIn_of _ (by decide +kernel)) ggX1_comeTogether_X1_targets
theorem dX1_comeTogether_0 : decode cX1_comeTogether 0 = .ok (.iconst 0, 1) := by decide +kernel
theorem dX1_comeTogether_1 : decode cX1_comeTogether 1 = .ok (.istore 5, 2) := by decide +kernel
theorem dX1_comeTogether_3 : decode cX1_comeTogether 3 = .ok (.iload 5, 2) := by decide +kernel
theorem dX1_comeTogether_5 : decode cX1_comeTogether 5 = .ok (.aload_n 1, 1) := by decide +kernel
theorem dX1_comeTogether_6 : decode cX1_comeTogether 6 = .ok (.invokevirtual 53, 3) := by decide +kernel
theorem dX1_comeTogether_9 : decode cX1_comeTogether 9 = .ok (.if_icmp .ge 75, 3) := by decide +kernel
theorem dX1_comeTogether_12 : decode cX1_comeTogether 12 = .ok (.aload_n 0, 1) := by decide +kernel
theorem dX1_comeTogether_13 : decode cX1_comeTogether 13 = .ok (.getfield 23, 3) := by decide +kernel
theorem dX1_comeTogether_16 : decode cX1_comeTogether 16 = .ok (.iload_n 2, 1) := by decide +kernel
theorem dX1_comeTogether_17 : decode cX1_comeTogether 17 = .ok (.iload 5, 2) := by decide +kernel
theorem dX1_comeTogether_19 : decode cX1_comeTogether 19 = .ok (.invokevirtual 67, 3) := by decide +kernel
theorem dX1_comeTogether_22 : decode cX1_comeTogether 22 = .ok (.istore 6, 2) := by decide +kernel
theorem dX1_comeTogether_24 : decode cX1_comeTogether 24 = .ok (.iload 4, 2) := by decide +kernel
theorem dX1_comeTogether_26 : decode cX1_comeTogether 26 = .ok (.ifCond .eq 11, 3) := by decide +kernel
theorem dX1_comeTogether_29 : decode cX1_comeTogether 29 = .ok (.aload_n 1, 1) := by decide +kernel
theorem dX1_comeTogether_30 : decode cX1_comeTogether 30 = .ok (.iload_n 3, 1) := by decide +kernel
theorem dX1_comeTogether_31 : decode cX1_comeTogether 31 = .ok (.invokestatic 86, 3) := by decide +kernel
theorem dX1_comeTogether_34 : decode cX1_comeTogether 34 = .ok (.goto 15, 3) := by decide +kernel
theorem dX1_comeTogether_37 : decode cX1_comeTogether 37 = .ok (.iconst 1, 1) := by decide +kernel
theorem dX1_comeTogether_38 : decode cX1_comeTogether 38 = .ok (.aload_n 0, 1) := by decide +kernel
theorem dX1_comeTogether_39 : decode cX1_comeTogether 39 = .ok (.getfield 23, 3) := by decide +kernel
theorem dX1_comeTogether_42 : decode cX1_comeTogether 42 = .ok (.iload_n 3, 1) := by decide +kernel
theorem dX1_comeTogether_43 : decode cX1_comeTogether 43 = .ok (.iload 5, 2) := by decide +kernel
theorem dX1_comeTogether_45 : decode cX1_comeTogether 45 = .ok (.invokevirtual 67, 3) := by decide +kernel
theorem dX1_comeTogether_48 : decode cX1_comeTogether 48 = .ok (.ishl, 1) := by decide +kernel
theorem dX1_comeTogether_49 : decode cX1_comeTogether 49 = .ok (.istore 7, 2) := by decide +kernel
theorem dX1_comeTogether_51 : decode cX1_comeTogether 51 = .ok (.iload 6, 2) := by decide +kernel
theorem dX1_comeTogether_53 : decode cX1_comeTogether 53 = .ok (.ifCond .lt 25, 3) := by decide +kernel
theorem dX1_comeTogether_56 : decode cX1_comeTogether 56 = .ok (.iload 6, 2) := by decide +kernel
theorem dX1_comeTogether_58 : decode cX1_comeTogether 58 = .ok (.bipush 12, 2) := by decide +kernel
theorem dX1_comeTogether_60 : decode cX1_comeTogether 60 = .ok (.if_icmp .ge 18, 3) := by decide +kernel
theorem dX1_comeTogether_63 : decode cX1_comeTogether 63 = .ok (.aload_n 0, 1) := by decide +kernel
theorem dX1_comeTogether_64 : decode cX1_comeTogether 64 = .ok (.getfield 15, 3) := by decide +kernel
theorem dX1_comeTogether_67 : decode cX1_comeTogether 67 = .ok (.iload 6, 2) := by decide +kernel
theorem dX1_comeTogether_69 : decode cX1_comeTogether 69 = .ok (.iaload, 1) := by decide +kernel
theorem dX1_comeTogether_70 : decode cX1_comeTogether 70 = .ok (.iload 7, 2) := by decide +kernel
theorem dX1_comeTogether_72 : decode cX1_comeTogether 72 = .ok (.iand, 1) := by decide +kernel
theorem dX1_comeTogether_73 : decode cX1_comeTogether 73 = .ok (.ifCond .eq 5, 3) := by decide +kernel
theorem dX1_comeTogether_76 : decode cX1_comeTogether 76 = .ok (.iconst 1, 1) := by decide +kernel
theorem dX1_comeTogether_77 : decode cX1_comeTogether 77 = .ok (.ireturn, 1) := by decide +kernel
theorem dX1_comeTogether_78 : decode cX1_comeTogether 78 = .ok (.iinc 5 1, 3) := by decide +kernel
theorem dX1_comeTogether_81 : decode cX1_comeTogether 81 = .ok (.goto (-78), 3) := by decide +kernel
theorem dX1_comeTogether_84 : decode cX1_comeTogether 84 = .ok (.iconst 0, 1) := by decide +kernel
theorem dX1_comeTogether_85 : decode cX1_comeTogether 85 = .ok (.ireturn, 1) := by decide +kernel
set_option maxRecDepth 20000 in
theorem ggX1_targets_X4_letters : GoodIn wsX1_targets wsX4_letters := goodIn_r _ [5, 6, 13, 14, 15, 16, 17, 18] (by decide +kernel) (by decide +kernel)
set_option maxRecDepth 20000 in
theorem gX1_targets_X4_letters : GoodIn wsX1_targets (wsV RX1 53 RX4 yX4_letters wsX4_letters) := goodIn_app (goodIn_of _ (by decide +kernel)) ggX1_targets_X4_letters
set_option maxRecDepth 20000 in
theorem ggX1_targets_X4_target : GoodIn wsX1_targets wsX4_target := goodIn_r _ [10, 11, 6, 12, 13, 14, 15, 16, 17, 18] (by decide +kernel) (by decide +kernel)
set_option maxRecDepth 20000 in
theorem gX1_targets_X4_target : GoodIn wsX1_targets (wsV RX1 67 RX4 yX4_target wsX4_target) := goodIn_app (goodIn_of _ (by decide +kernel)) ggX1_targets_X4_target
theorem dX1_targets_0 : decode cX1_targets 0 = .ok (.iconst 0, 1) := by decide +kernel
theorem dX1_targets_1 : decode cX1_targets 1 = .ok (.istore_n 2, 1) := by decide +kernel
theorem dX1_targets_2 : decode cX1_targets 2 = .ok (.iconst 0, 1) := by decide +kernel
theorem dX1_targets_3 : decode cX1_targets 3 = .ok (.istore_n 3, 1) := by decide +kernel
theorem dX1_targets_4 : decode cX1_targets 4 = .ok (.iload_n 3, 1) := by decide +kernel
theorem dX1_targets_5 : decode cX1_targets 5 = .ok (.aload_n 0, 1) := by decide +kernel
theorem dX1_targets_6 : decode cX1_targets 6 = .ok (.invokevirtual 53, 3) := by decide +kernel
theorem dX1_targets_9 : decode cX1_targets 9 = .ok (.if_icmp .ge 20, 3) := by decide +kernel
theorem dX1_targets_12 : decode cX1_targets 12 = .ok (.iload_n 2, 1) := by decide +kernel
theorem dX1_targets_13 : decode cX1_targets 13 = .ok (.iconst 1, 1) := by decide +kernel
theorem dX1_targets_14 : decode cX1_targets 14 = .ok (.aload_n 0, 1) := by decide +kernel
theorem dX1_targets_15 : decode cX1_targets 15 = .ok (.iload_n 1, 1) := by decide +kernel
theorem dX1_targets_16 : decode cX1_targets 16 = .ok (.iload_n 3, 1) := by decide +kernel
theorem dX1_targets_17 : decode cX1_targets 17 = .ok (.invokevirtual 67, 3) := by decide +kernel
theorem dX1_targets_20 : decode cX1_targets 20 = .ok (.ishl, 1) := by decide +kernel
theorem dX1_targets_21 : decode cX1_targets 21 = .ok (.ior, 1) := by decide +kernel
theorem dX1_targets_22 : decode cX1_targets 22 = .ok (.istore_n 2, 1) := by decide +kernel
theorem dX1_targets_23 : decode cX1_targets 23 = .ok (.iinc 3 1, 3) := by decide +kernel
theorem dX1_targets_26 : decode cX1_targets 26 = .ok (.goto (-22), 3) := by decide +kernel
theorem dX1_targets_29 : decode cX1_targets 29 = .ok (.iload_n 2, 1) := by decide +kernel
theorem dX1_targets_30 : decode cX1_targets 30 = .ok (.ireturn, 1) := by decide +kernel
set_option maxRecDepth 20000 in
theorem ggX2_init_X10_init : GoodIn wsX2_init wsX10_init := goodIn_r _ [13, 14, 2, 3, 15, 16, 17, 18] (by decide +kernel) (by decide +kernel)
set_option maxRecDepth 20000 in
theorem gX2_init_X10_init_n11 : GoodIn wsX2_init (wsX10_init) := ggX2_init_X10_init
theorem dX2_init_0 : decode cX2_init 0 = .ok (.aload_n 0, 1) := by decide +kernel
theorem dX2_init_1 : decode cX2_init 1 = .ok (.invokespecial 3, 3) := by decide +kernel
theorem dX2_init_4 : decode cX2_init 4 = .ok (.aload_n 0, 1) := by decide +kernel
theorem dX2_init_5 : decode cX2_init 5 = .ok (.new 9, 3) := by decide +kernel
theorem dX2_init_8 : decode cX2_init 8 = .ok (.dup, 1) := by decide +kernel
theorem dX2_init_9 : decode cX2_init 9 = .ok (.invokespecial 11, 3) := by decide +kernel
theorem dX2_init_12 : decode cX2_init 12 = .ok (.putfield 12, 3) := by decide +kernel
theorem dX2_init_15 : decode cX2_init 15 = .ok (.aload_n 0, 1) := by decide +kernel
theorem dX2_init_16 : decode cX2_init 16 = .ok (.new 9, 3) := by decide +kernel
theorem dX2_init_19 : decode cX2_init 19 = .ok (.dup, 1) := by decide +kernel
theorem dX2_init_20 : decode cX2_init 20 = .ok (.invokespecial 11, 3) := by decide +kernel
theorem dX2_init_23 : decode cX2_init 23 = .ok (.putfield 18, 3) := by decide +kernel
theorem dX2_init_26 : decode cX2_init 26 = .ok (.aload_n 0, 1) := by decide +kernel
theorem dX2_init_27 : decode cX2_init 27 = .ok (.new 9, 3) := by decide +kernel
theorem dX2_init_30 : decode cX2_init 30 = .ok (.dup, 1) := by decide +kernel
theorem dX2_init_31 : decode cX2_init 31 = .ok (.invokespecial 11, 3) := by decide +kernel
theorem dX2_init_34 : decode cX2_init 34 = .ok (.putfield 21, 3) := by decide +kernel
theorem dX2_init_37 : decode cX2_init 37 = .ok (.aload_n 0, 1) := by decide +kernel
theorem dX2_init_38 : decode cX2_init 38 = .ok (.aload_n 1, 1) := by decide +kernel
theorem dX2_init_39 : decode cX2_init 39 = .ok (.putfield 24, 3) := by decide +kernel
theorem dX2_init_42 : decode cX2_init 42 = .ok (.aload_n 0, 1) := by decide +kernel
theorem dX2_init_43 : decode cX2_init 43 = .ok (.aload_n 2, 1) := by decide +kernel
theorem dX2_init_44 : decode cX2_init 44 = .ok (.putfield 28, 3) := by decide +kernel
theorem dX2_init_47 : decode cX2_init 47 = .ok (.return_, 1) := by decide +kernel
set_option maxRecDepth 20000 in
theorem ggX2_run_X8_load : GoodIn wsX2_run wsX8_load := goodIn_r _ [10, 11, 12, 13, 14, 15, 16, 17, 18, 19, 20, 21, 9, 22, 23, 24, 25, 26, 27, 28, 29, 30, 31, 32, 144, 145, 146, 147, 148, 149, 150, 151, 152] (by decide +kernel) (by decide +kernel)
set_option maxRecDepth 20000 in
theorem gX2_run_X8_load : GoodIn wsX2_run (wsV RX2 32 RX8 yX8_load wsX8_load) := goodIn_app (goodIn_of _ (by decide +kernel)) ggX2_run_X8_load
set_option maxRecDepth 20000 in
theorem ggX2_run_X5_load : GoodIn wsX2_run wsX5_load := goodIn_r _ [37, 38, 39, 40, 41, 42, 43, 44, 45, 46, 17, 47, 27, 48, 49, 50, 36, 51, 52, 53, 54, 55, 56, 57, 58, 59, 60, 61, 62, 63, 64, 15, 16, 18, 19, 65, 29, 30, 31, 32, 153, 154, 155, 147, 148, 149, 150, 151, 152] (by decide +kernel) (by decide +kernel)
set_option maxRecDepth 20000 in
theorem gX2_run_X5_load : GoodIn wsX2_run (wsV RX2 38 RX5 yX5_load wsX5_load) := goodIn_app (goodIn_of _ (by decide +kernel)) ggX2_run_X5_load
set_option maxRecDepth 20000 in
theorem ggX2_run_X10_clear : GoodIn wsX2_run wsX10_clear := goodIn_r _ [70, 71, 156, 157] (by decide +kernel) (by decide +kernel)
set_option maxRecDepth 20000 in
theorem gX2_run_X10_clear : GoodIn wsX2_run (wsV RX2 41 RX10 yX10_clear wsX10_clear) := goodIn_app (goodIn_of _ (by decide +kernel)) ggX2_run_X10_clear
set_option maxRecDepth 20000 in
theorem ggX2_run_X7_isOne : GoodIn wsX2_run wsX7_isOne := goodIn_r _ [75] (by decide +kernel) (by decide +kernel)
set_option maxRecDepth 20000 in
theorem gX2_run_X7_isOne : GoodIn wsX2_run (va_wsS RX2 44 yX7_isOne wsX7_isOne) := goodIn_app (goodIn_of _ (by decide +kernel)) ggX2_run_X7_isOne
set_option maxRecDepth 20000 in
theorem ggX2_run_X2_choose : GoodIn wsX2_run wsX2_choose := goodIn_r _ [80, 4, 81, 82, 83, 79, 84, 2, 5, 85, 1, 86, 57, 58, 36, 59, 38, 87, 88, 89, 69, 90, 71, 91, 92, 93, 94, 56, 95, 96, 97, 98, 99, 100, 101, 102, 60, 61, 62, 63, 64, 15, 16, 17, 18, 19, 65, 29, 30, 31, 27, 32, 103, 104, 105, 106, 107, 108, 109, 110, 111, 112, 113, 114, 115, 116, 117, 118, 119, 9, 120, 121, 122, 123, 124, 125, 126, 12, 13, 127, 128, 129, 130, 131, 132, 138, 139, 140, 141, 142, 143, 153, 154, 155, 156, 157, 147, 148, 149, 150, 151, 152, 144, 145, 146] (by decide +kernel) (by decide +kernel)
set_option maxRecDepth 20000 in
theorem gX2_run_X2_choose : GoodIn wsX2_run (wsV RX2 50 RX2 yX2_choose wsX2_choose) := goodIn_app (goodIn_of _ (by decide +kernel)) ggX2_run_X2_choose
set_option maxRecDepth 20000 in
theorem ggX2_run_X10_length : GoodIn wsX2_run wsX10_length := goodIn_r _ [90, 71, 156, 157] (by decide +kernel) (by decide +kernel)
set_option maxRecDepth 20000 in
theorem gX2_run_X10_length : GoodIn wsX2_run (wsV RX2 58 RX10 yX10_length wsX10_length) := goodIn_app (goodIn_of _ (by decide +kernel)) ggX2_run_X10_length
set_option maxRecDepth 20000 in
theorem ggX2_run_X10_at : GoodIn wsX2_run wsX10_at := goodIn_r _ [116, 71, 107, 156, 157] (by decide +kernel) (by decide +kernel)
set_option maxRecDepth 20000 in
theorem gX2_run_X10_at : GoodIn wsX2_run (wsV RX2 62 RX10 yX10_at wsX10_at) := goodIn_app (goodIn_of _ (by decide +kernel)) ggX2_run_X10_at
set_option maxRecDepth 20000 in
theorem ggX2_run_X10_append : GoodIn wsX2_run wsX10_append := goodIn_r _ [137, 71, 107, 156, 157] (by decide +kernel) (by decide +kernel)
set_option maxRecDepth 20000 in
theorem gX2_run_X10_append : GoodIn wsX2_run (wsV RX2 66 RX10 yX10_append wsX10_append) := goodIn_app (goodIn_of _ (by decide +kernel)) ggX2_run_X10_append
set_option maxRecDepth 20000 in
theorem ggX2_run_X10_copy : GoodIn wsX2_run wsX10_copy := goodIn_r _ [130, 71, 112, 88, 89, 69, 90, 131, 96, 97, 98, 99, 100, 101, 102, 113, 114, 115, 116, 107, 132, 104, 105, 106, 156, 157] (by decide +kernel) (by decide +kernel)
set_option maxRecDepth 20000 in
theorem gX2_run_X10_copy : GoodIn wsX2_run (wsV RX2 69 RX10 yX10_copy wsX10_copy) := goodIn_app (goodIn_of _ (by decide +kernel)) ggX2_run_X10_copy
theorem dX2_run_0 : decode cX2_run 0 = .ok (.aload_n 0, 1) := by decide +kernel
theorem dX2_run_1 : decode cX2_run 1 = .ok (.getfield 24, 3) := by decide +kernel
theorem dX2_run_4 : decode cX2_run 4 = .ok (.aload_n 1, 1) := by decide +kernel
theorem dX2_run_5 : decode cX2_run 5 = .ok (.invokevirtual 32, 3) := by decide +kernel
theorem dX2_run_8 : decode cX2_run 8 = .ok (.aload_n 0, 1) := by decide +kernel
theorem dX2_run_9 : decode cX2_run 9 = .ok (.getfield 28, 3) := by decide +kernel
theorem dX2_run_12 : decode cX2_run 12 = .ok (.aload_n 1, 1) := by decide +kernel
theorem dX2_run_13 : decode cX2_run 13 = .ok (.invokevirtual 38, 3) := by decide +kernel
theorem dX2_run_16 : decode cX2_run 16 = .ok (.aload_n 0, 1) := by decide +kernel
theorem dX2_run_17 : decode cX2_run 17 = .ok (.getfield 12, 3) := by decide +kernel
theorem dX2_run_20 : decode cX2_run 20 = .ok (.invokevirtual 41, 3) := by decide +kernel
theorem dX2_run_23 : decode cX2_run 23 = .ok (.iload_n 2, 1) := by decide +kernel
theorem dX2_run_24 : decode cX2_run 24 = .ok (.istore 4, 2) := by decide +kernel
theorem dX2_run_26 : decode cX2_run 26 = .ok (.iconst 0, 1) := by decide +kernel
theorem dX2_run_27 : decode cX2_run 27 = .ok (.istore 5, 2) := by decide +kernel
theorem dX2_run_29 : decode cX2_run 29 = .ok (.iload 5, 2) := by decide +kernel
theorem dX2_run_31 : decode cX2_run 31 = .ok (.bipush 12, 2) := by decide +kernel
theorem dX2_run_33 : decode cX2_run 33 = .ok (.if_icmp .ge 98, 3) := by decide +kernel
theorem dX2_run_36 : decode cX2_run 36 = .ok (.iload 4, 2) := by decide +kernel
theorem dX2_run_38 : decode cX2_run 38 = .ok (.invokestatic 44, 3) := by decide +kernel
theorem dX2_run_41 : decode cX2_run 41 = .ok (.ifCond .ne 90, 3) := by decide +kernel
theorem dX2_run_44 : decode cX2_run 44 = .ok (.aload_n 0, 1) := by decide +kernel
theorem dX2_run_45 : decode cX2_run 45 = .ok (.aload_n 1, 1) := by decide +kernel
theorem dX2_run_46 : decode cX2_run 46 = .ok (.iload 4, 2) := by decide +kernel
theorem dX2_run_48 : decode cX2_run 48 = .ok (.invokevirtual 50, 3) := by decide +kernel
theorem dX2_run_51 : decode cX2_run 51 = .ok (.aload_n 0, 1) := by decide +kernel
theorem dX2_run_52 : decode cX2_run 52 = .ok (.getfield 54, 3) := by decide +kernel
theorem dX2_run_55 : decode cX2_run 55 = .ok (.ifCond .eq 24, 3) := by decide +kernel
theorem dX2_run_58 : decode cX2_run 58 = .ok (.aload_n 0, 1) := by decide +kernel
theorem dX2_run_59 : decode cX2_run 59 = .ok (.getfield 12, 3) := by decide +kernel
theorem dX2_run_62 : decode cX2_run 62 = .ok (.invokevirtual 58, 3) := by decide +kernel
theorem dX2_run_65 : decode cX2_run 65 = .ok (.aload_n 0, 1) := by decide +kernel
theorem dX2_run_66 : decode cX2_run 66 = .ok (.getfield 18, 3) := by decide +kernel
theorem dX2_run_69 : decode cX2_run 69 = .ok (.invokevirtual 58, 3) := by decide +kernel
theorem dX2_run_72 : decode cX2_run 72 = .ok (.iadd, 1) := by decide +kernel
theorem dX2_run_73 : decode cX2_run 73 = .ok (.sipush 600, 3) := by decide +kernel
theorem dX2_run_76 : decode cX2_run 76 = .ok (.if_icmp .le 5, 3) := by decide +kernel
theorem dX2_run_79 : decode cX2_run 79 = .ok (.iconst (-1), 1) := by decide +kernel
theorem dX2_run_80 : decode cX2_run 80 = .ok (.ireturn, 1) := by decide +kernel
theorem dX2_run_81 : decode cX2_run 81 = .ok (.iconst 0, 1) := by decide +kernel
theorem dX2_run_82 : decode cX2_run 82 = .ok (.istore 6, 2) := by decide +kernel
theorem dX2_run_84 : decode cX2_run 84 = .ok (.iload 6, 2) := by decide +kernel
theorem dX2_run_86 : decode cX2_run 86 = .ok (.aload_n 0, 1) := by decide +kernel
theorem dX2_run_87 : decode cX2_run 87 = .ok (.getfield 18, 3) := by decide +kernel
theorem dX2_run_90 : decode cX2_run 90 = .ok (.invokevirtual 58, 3) := by decide +kernel
theorem dX2_run_93 : decode cX2_run 93 = .ok (.if_icmp .ge 26, 3) := by decide +kernel
theorem dX2_run_96 : decode cX2_run 96 = .ok (.aload_n 0, 1) := by decide +kernel
theorem dX2_run_97 : decode cX2_run 97 = .ok (.getfield 12, 3) := by decide +kernel
theorem dX2_run_100 : decode cX2_run 100 = .ok (.aload_n 0, 1) := by decide +kernel
theorem dX2_run_101 : decode cX2_run 101 = .ok (.getfield 18, 3) := by decide +kernel
theorem dX2_run_104 : decode cX2_run 104 = .ok (.iload 6, 2) := by decide +kernel
theorem dX2_run_106 : decode cX2_run 106 = .ok (.invokevirtual 62, 3) := by decide +kernel
theorem dX2_run_109 : decode cX2_run 109 = .ok (.invokevirtual 66, 3) := by decide +kernel
theorem dX2_run_112 : decode cX2_run 112 = .ok (.pop, 1) := by decide +kernel
theorem dX2_run_113 : decode cX2_run 113 = .ok (.iinc 6 1, 3) := by decide +kernel
theorem dX2_run_116 : decode cX2_run 116 = .ok (.goto (-32), 3) := by decide +kernel
theorem dX2_run_119 : decode cX2_run 119 = .ok (.aload_n 0, 1) := by decide +kernel
theorem dX2_run_120 : decode cX2_run 120 = .ok (.getfield 54, 3) := by decide +kernel
theorem dX2_run_123 : decode cX2_run 123 = .ok (.istore 4, 2) := by decide +kernel
theorem dX2_run_125 : decode cX2_run 125 = .ok (.iinc 5 1, 3) := by decide +kernel
theorem dX2_run_128 : decode cX2_run 128 = .ok (.goto (-99), 3) := by decide +kernel
theorem dX2_run_131 : decode cX2_run 131 = .ok (.aload_n 3, 1) := by decide +kernel
theorem dX2_run_132 : decode cX2_run 132 = .ok (.aload_n 0, 1) := by decide +kernel
theorem dX2_run_133 : decode cX2_run 133 = .ok (.getfield 12, 3) := by decide +kernel
theorem dX2_run_136 : decode cX2_run 136 = .ok (.invokevirtual 69, 3) := by decide +kernel
theorem dX2_run_139 : decode cX2_run 139 = .ok (.aload_n 3, 1) := by decide +kernel
theorem dX2_run_140 : decode cX2_run 140 = .ok (.invokevirtual 58, 3) := by decide +kernel
theorem dX2_run_143 : decode cX2_run 143 = .ok (.ireturn, 1) := by decide +kernel
set_option maxRecDepth 20000 in
theorem ggX2_choose_X2_tryPair : GoodIn wsX2_choose wsX2_tryPair := goodIn_r _ [6, 7, 1, 8, 9, 10, 11, 12, 13, 14, 15, 16, 17, 18, 19, 20, 21, 22, 23, 24, 25, 26, 27, 28, 29, 30, 31, 32, 33, 34, 35, 36, 37, 38, 39, 40, 41, 42, 43, 44, 45, 46, 47, 48, 49, 50, 51, 52, 53, 54, 55, 56, 57, 58, 59, 60, 61, 62, 63, 64, 65, 66, 67, 68, 69, 70, 71, 72, 73, 74, 75, 76, 77, 78, 79, 80, 81, 82, 83, 84, 85, 86, 87, 88, 89, 90, 91, 92, 93, 94, 95, 96, 97, 98, 99, 100, 101, 102, 103, 104] (by decide +kernel) (by decide +kernel)
set_option maxRecDepth 20000 in
theorem gX2_choose_X2_tryPair : GoodIn wsX2_choose (wsV RX2 73 RX2 yX2_tryPair wsX2_tryPair) := goodIn_app (goodIn_of _ (by decide +kernel)) ggX2_choose_X2_tryPair
theorem dX2_choose_0 : decode cX2_choose 0 = .ok (.aload_n 0, 1) := by decide +kernel
theorem dX2_choose_1 : decode cX2_choose 1 = .ok (.iconst 0, 1) := by decide +kernel
theorem dX2_choose_2 : decode cX2_choose 2 = .ok (.putfield 54, 3) := by decide +kernel
theorem dX2_choose_5 : decode cX2_choose 5 = .ok (.iconst 0, 1) := by decide +kernel
theorem dX2_choose_6 : decode cX2_choose 6 = .ok (.istore_n 3, 1) := by decide +kernel
theorem dX2_choose_7 : decode cX2_choose 7 = .ok (.iload_n 3, 1) := by decide +kernel
theorem dX2_choose_8 : decode cX2_choose 8 = .ok (.bipush 12, 2) := by decide +kernel
theorem dX2_choose_10 : decode cX2_choose 10 = .ok (.if_icmp .ge 49, 3) := by decide +kernel
theorem dX2_choose_13 : decode cX2_choose 13 = .ok (.iload_n 3, 1) := by decide +kernel
theorem dX2_choose_14 : decode cX2_choose 14 = .ok (.iconst 1, 1) := by decide +kernel
theorem dX2_choose_15 : decode cX2_choose 15 = .ok (.iadd, 1) := by decide +kernel
theorem dX2_choose_16 : decode cX2_choose 16 = .ok (.istore 4, 2) := by decide +kernel
theorem dX2_choose_18 : decode cX2_choose 18 = .ok (.iload 4, 2) := by decide +kernel
theorem dX2_choose_20 : decode cX2_choose 20 = .ok (.bipush 12, 2) := by decide +kernel
theorem dX2_choose_22 : decode cX2_choose 22 = .ok (.if_icmp .ge 31, 3) := by decide +kernel
theorem dX2_choose_25 : decode cX2_choose 25 = .ok (.iload_n 2, 1) := by decide +kernel
theorem dX2_choose_26 : decode cX2_choose 26 = .ok (.iload_n 3, 1) := by decide +kernel
theorem dX2_choose_27 : decode cX2_choose 27 = .ok (.ishr, 1) := by decide +kernel
theorem dX2_choose_28 : decode cX2_choose 28 = .ok (.iload_n 2, 1) := by decide +kernel
theorem dX2_choose_29 : decode cX2_choose 29 = .ok (.iload 4, 2) := by decide +kernel
theorem dX2_choose_31 : decode cX2_choose 31 = .ok (.ishr, 1) := by decide +kernel
theorem dX2_choose_32 : decode cX2_choose 32 = .ok (.iand, 1) := by decide +kernel
theorem dX2_choose_33 : decode cX2_choose 33 = .ok (.iconst 1, 1) := by decide +kernel
theorem dX2_choose_34 : decode cX2_choose 34 = .ok (.iand, 1) := by decide +kernel
theorem dX2_choose_35 : decode cX2_choose 35 = .ok (.ifCond .eq 12, 3) := by decide +kernel
theorem dX2_choose_38 : decode cX2_choose 38 = .ok (.aload_n 0, 1) := by decide +kernel
theorem dX2_choose_39 : decode cX2_choose 39 = .ok (.aload_n 1, 1) := by decide +kernel
theorem dX2_choose_40 : decode cX2_choose 40 = .ok (.iload_n 2, 1) := by decide +kernel
theorem dX2_choose_41 : decode cX2_choose 41 = .ok (.iload_n 3, 1) := by decide +kernel
theorem dX2_choose_42 : decode cX2_choose 42 = .ok (.iload 4, 2) := by decide +kernel
theorem dX2_choose_44 : decode cX2_choose 44 = .ok (.invokevirtual 73, 3) := by decide +kernel
theorem dX2_choose_47 : decode cX2_choose 47 = .ok (.iinc 4 1, 3) := by decide +kernel
theorem dX2_choose_50 : decode cX2_choose 50 = .ok (.goto (-32), 3) := by decide +kernel
theorem dX2_choose_53 : decode cX2_choose 53 = .ok (.iinc 3 1, 3) := by decide +kernel
theorem dX2_choose_56 : decode cX2_choose 56 = .ok (.goto (-49), 3) := by decide +kernel
theorem dX2_choose_59 : decode cX2_choose 59 = .ok (.return_, 1) := by decide +kernel
set_option maxRecDepth 20000 in
theorem ggX2_tryPair_X5_lengthOf : GoodIn wsX2_tryPair wsX5_lengthOf := goodIn_r _ [10, 11, 86, 87, 88] (by decide +kernel) (by decide +kernel)
set_option maxRecDepth 20000 in
theorem gX2_tryPair_X5_lengthOf : GoodIn wsX2_tryPair (wsV RX2 77 RX5 yX5_lengthOf wsX5_lengthOf) := goodIn_app (goodIn_of _ (by decide +kernel)) ggX2_tryPair_X5_lengthOf
set_option maxRecDepth 20000 in
theorem ggX2_tryPair_X10_length : GoodIn wsX2_tryPair wsX10_length := goodIn_r _ [16, 17, 89, 90] (by decide +kernel) (by decide +kernel)
set_option maxRecDepth 20000 in
theorem gX2_tryPair_X10_length : GoodIn wsX2_tryPair (wsV RX2 58 RX10 yX10_length wsX10_length) := goodIn_app (goodIn_of _ (by decide +kernel)) ggX2_tryPair_X10_length
set_option maxRecDepth 20000 in
theorem ggX2_tryPair_X5_giveWord : GoodIn wsX2_tryPair wsX5_giveWord := goodIn_r _ [21, 22, 7, 8, 9, 10, 11, 23, 24, 25, 15, 26, 27, 28, 29, 30, 17, 31, 32, 33, 34, 35, 36, 37, 38, 39, 40, 41, 42, 43, 44, 45, 46, 47, 48, 49, 50, 51, 86, 87, 88, 89, 90, 91, 92, 93, 94, 95, 96] (by decide +kernel) (by decide +kernel)
set_option maxRecDepth 20000 in
theorem gX2_tryPair_X5_giveWord : GoodIn wsX2_tryPair (wsV RX2 81 RX5 yX5_giveWord wsX5_giveWord) := goodIn_app (goodIn_of _ (by decide +kernel)) ggX2_tryPair_X5_giveWord
set_option maxRecDepth 20000 in
theorem ggX2_tryPair_X10_isAheadOf : GoodIn wsX2_tryPair wsX10_isAheadOf := goodIn_r _ [55, 17, 56, 13, 14, 15, 16, 57, 58, 59, 60, 51, 89, 90] (by decide +kernel) (by decide +kernel)
set_option maxRecDepth 20000 in
theorem gX2_tryPair_X10_isAheadOf : GoodIn wsX2_tryPair (wsV RX2 85 RX10 yX10_isAheadOf wsX10_isAheadOf) := goodIn_app (goodIn_of _ (by decide +kernel)) ggX2_tryPair_X10_isAheadOf
set_option maxRecDepth 20000 in
theorem ggX2_tryPair_X8_afterWord : GoodIn wsX2_tryPair wsX8_afterWord := goodIn_r _ [65, 66, 13, 14, 15, 16, 17, 67, 58, 59, 60, 51, 68, 69, 70, 64, 71, 72, 73, 89, 90, 97, 98, 99] (by decide +kernel) (by decide +kernel)
set_option maxRecDepth 20000 in
theorem gX2_tryPair_X8_afterWord : GoodIn wsX2_tryPair (wsV RX2 89 RX8 yX8_afterWord wsX8_afterWord) := goodIn_app (goodIn_of _ (by decide +kernel)) ggX2_tryPair_X8_afterWord
set_option maxRecDepth 20000 in
theorem ggX2_tryPair_X10_copy : GoodIn wsX2_tryPair wsX10_copy := goodIn_r _ [77, 17, 56, 13, 14, 15, 16, 78, 24, 25, 26, 27, 28, 29, 30, 57, 58, 59, 60, 51, 79, 48, 49, 50, 89, 90] (by decide +kernel) (by decide +kernel)
set_option maxRecDepth 20000 in
theorem gX2_tryPair_X10_copy : GoodIn wsX2_tryPair (wsV RX2 69 RX10 yX10_copy wsX10_copy) := goodIn_app (goodIn_of _ (by decide +kernel)) ggX2_tryPair_X10_copy
theorem dX2_tryPair_0 : decode cX2_tryPair 0 = .ok (.aload_n 0, 1) := by decide +kernel
theorem dX2_tryPair_1 : decode cX2_tryPair 1 = .ok (.getfield 28, 3) := by decide +kernel
theorem dX2_tryPair_4 : decode cX2_tryPair 4 = .ok (.iload_n 3, 1) := by decide +kernel
theorem dX2_tryPair_5 : decode cX2_tryPair 5 = .ok (.iload 4, 2) := by decide +kernel
theorem dX2_tryPair_7 : decode cX2_tryPair 7 = .ok (.invokevirtual 77, 3) := by decide +kernel
theorem dX2_tryPair_10 : decode cX2_tryPair 10 = .ok (.istore 5, 2) := by decide +kernel
theorem dX2_tryPair_12 : decode cX2_tryPair 12 = .ok (.iload 5, 2) := by decide +kernel
theorem dX2_tryPair_14 : decode cX2_tryPair 14 = .ok (.iconst (-1), 1) := by decide +kernel
theorem dX2_tryPair_15 : decode cX2_tryPair 15 = .ok (.if_icmp .eq 22, 3) := by decide +kernel
theorem dX2_tryPair_18 : decode cX2_tryPair 18 = .ok (.aload_n 0, 1) := by decide +kernel
theorem dX2_tryPair_19 : decode cX2_tryPair 19 = .ok (.getfield 54, 3) := by decide +kernel
theorem dX2_tryPair_22 : decode cX2_tryPair 22 = .ok (.ifCond .eq 16, 3) := by decide +kernel
theorem dX2_tryPair_25 : decode cX2_tryPair 25 = .ok (.iload 5, 2) := by decide +kernel
theorem dX2_tryPair_27 : decode cX2_tryPair 27 = .ok (.aload_n 0, 1) := by decide +kernel
theorem dX2_tryPair_28 : decode cX2_tryPair 28 = .ok (.getfield 18, 3) := by decide +kernel
theorem dX2_tryPair_31 : decode cX2_tryPair 31 = .ok (.invokevirtual 58, 3) := by decide +kernel
theorem dX2_tryPair_34 : decode cX2_tryPair 34 = .ok (.if_icmp .le 4, 3) := by decide +kernel
theorem dX2_tryPair_37 : decode cX2_tryPair 37 = .ok (.return_, 1) := by decide +kernel
theorem dX2_tryPair_38 : decode cX2_tryPair 38 = .ok (.aload_n 0, 1) := by decide +kernel
theorem dX2_tryPair_39 : decode cX2_tryPair 39 = .ok (.getfield 28, 3) := by decide +kernel
theorem dX2_tryPair_42 : decode cX2_tryPair 42 = .ok (.aload_n 1, 1) := by decide +kernel
theorem dX2_tryPair_43 : decode cX2_tryPair 43 = .ok (.iload_n 3, 1) := by decide +kernel
theorem dX2_tryPair_44 : decode cX2_tryPair 44 = .ok (.iload 4, 2) := by decide +kernel
theorem dX2_tryPair_46 : decode cX2_tryPair 46 = .ok (.aload_n 0, 1) := by decide +kernel
theorem dX2_tryPair_47 : decode cX2_tryPair 47 = .ok (.getfield 21, 3) := by decide +kernel
theorem dX2_tryPair_50 : decode cX2_tryPair 50 = .ok (.invokevirtual 81, 3) := by decide +kernel
theorem dX2_tryPair_53 : decode cX2_tryPair 53 = .ok (.aload_n 0, 1) := by decide +kernel
theorem dX2_tryPair_54 : decode cX2_tryPair 54 = .ok (.getfield 54, 3) := by decide +kernel
theorem dX2_tryPair_57 : decode cX2_tryPair 57 = .ok (.ifCond .eq 18, 3) := by decide +kernel
theorem dX2_tryPair_60 : decode cX2_tryPair 60 = .ok (.aload_n 0, 1) := by decide +kernel
theorem dX2_tryPair_61 : decode cX2_tryPair 61 = .ok (.getfield 21, 3) := by decide +kernel
theorem dX2_tryPair_64 : decode cX2_tryPair 64 = .ok (.aload_n 0, 1) := by decide +kernel
theorem dX2_tryPair_65 : decode cX2_tryPair 65 = .ok (.getfield 18, 3) := by decide +kernel
theorem dX2_tryPair_68 : decode cX2_tryPair 68 = .ok (.invokevirtual 85, 3) := by decide +kernel
theorem dX2_tryPair_71 : decode cX2_tryPair 71 = .ok (.ifCond .ne 4, 3) := by decide +kernel
theorem dX2_tryPair_74 : decode cX2_tryPair 74 = .ok (.return_, 1) := by decide +kernel
theorem dX2_tryPair_75 : decode cX2_tryPair 75 = .ok (.aload_n 0, 1) := by decide +kernel
theorem dX2_tryPair_76 : decode cX2_tryPair 76 = .ok (.getfield 24, 3) := by decide +kernel
theorem dX2_tryPair_79 : decode cX2_tryPair 79 = .ok (.iload_n 2, 1) := by decide +kernel
theorem dX2_tryPair_80 : decode cX2_tryPair 80 = .ok (.aload_n 0, 1) := by decide +kernel
theorem dX2_tryPair_81 : decode cX2_tryPair 81 = .ok (.getfield 21, 3) := by decide +kernel
theorem dX2_tryPair_84 : decode cX2_tryPair 84 = .ok (.invokevirtual 89, 3) := by decide +kernel
theorem dX2_tryPair_87 : decode cX2_tryPair 87 = .ok (.istore 6, 2) := by decide +kernel
theorem dX2_tryPair_89 : decode cX2_tryPair 89 = .ok (.iload 6, 2) := by decide +kernel
theorem dX2_tryPair_91 : decode cX2_tryPair 91 = .ok (.ifCond .eq 20, 3) := by decide +kernel
theorem dX2_tryPair_94 : decode cX2_tryPair 94 = .ok (.aload_n 0, 1) := by decide +kernel
theorem dX2_tryPair_95 : decode cX2_tryPair 95 = .ok (.getfield 18, 3) := by decide +kernel
theorem dX2_tryPair_98 : decode cX2_tryPair 98 = .ok (.aload_n 0, 1) := by decide +kernel
theorem dX2_tryPair_99 : decode cX2_tryPair 99 = .ok (.getfield 21, 3) := by decide +kernel
theorem dX2_tryPair_102 : decode cX2_tryPair 102 = .ok (.invokevirtual 69, 3) := by decide +kernel
theorem dX2_tryPair_105 : decode cX2_tryPair 105 = .ok (.aload_n 0, 1) := by decide +kernel
theorem dX2_tryPair_106 : decode cX2_tryPair 106 = .ok (.iload 6, 2) := by decide +kernel
theorem dX2_tryPair_108 : decode cX2_tryPair 108 = .ok (.putfield 54, 3) := by decide +kernel
theorem dX2_tryPair_111 : decode cX2_tryPair 111 = .ok (.return_, 1) := by decide +kernel
set_option maxRecDepth 20000 in
theorem ggX3_of_X3_hasSink : GoodIn wsX3_of wsX3_hasSink := goodIn_r _ [4, 5, 6, 7, 8, 9, 10, 11, 12, 3, 13, 14, 15, 16, 17, 18, 19, 20, 21, 22, 23, 24, 25, 26, 46, 47, 48, 49, 50, 51] (by decide +kernel) (by decide +kernel)
set_option maxRecDepth 20000 in
theorem gX3_of_X3_hasSink : GoodIn wsX3_of (va_wsS RX3 9 yX3_hasSink wsX3_hasSink) := goodIn_app (goodIn_of _ (by decide +kernel)) ggX3_of_X3_hasSink
set_option maxRecDepth 20000 in
theorem ggX3_of_X4_letters : GoodIn wsX3_of wsX4_letters := goodIn_r _ [17, 18, 46, 47, 48, 49, 50, 51] (by decide +kernel) (by decide +kernel)
set_option maxRecDepth 20000 in
theorem gX3_of_X4_letters : GoodIn wsX3_of (wsV RX3 15 RX4 yX4_letters wsX4_letters) := goodIn_app (goodIn_of _ (by decide +kernel)) ggX3_of_X4_letters
set_option maxRecDepth 20000 in
theorem ggX3_of_X3_isRound : GoodIn wsX3_of wsX3_isRound := goodIn_r _ [29, 5, 6, 7, 8, 9, 10, 19, 20, 21, 22, 18, 23, 30, 31, 3, 32, 33, 34, 35, 36, 37, 38, 39, 46, 47, 48, 49, 50, 51] (by decide +kernel) (by decide +kernel)
set_option maxRecDepth 20000 in
theorem gX3_of_X3_isRound : GoodIn wsX3_of (va_wsS RX3 21 yX3_isRound wsX3_isRound) := goodIn_app (goodIn_of _ (by decide +kernel)) ggX3_of_X3_isRound
set_option maxRecDepth 20000 in
theorem ggX3_of_X3_hasLoop : GoodIn wsX3_of wsX3_hasLoop := goodIn_r _ [42, 5, 6, 7, 8, 9, 10, 19, 20, 21, 22, 18, 23, 46, 47, 48, 49, 50, 51] (by decide +kernel) (by decide +kernel)
set_option maxRecDepth 20000 in
theorem gX3_of_X3_hasLoop : GoodIn wsX3_of (va_wsS RX3 25 yX3_hasLoop wsX3_hasLoop) := goodIn_app (goodIn_of _ (by decide +kernel)) ggX3_of_X3_hasLoop
set_option maxRecDepth 20000 in
theorem ggX3_of_X3_isInOrder : GoodIn wsX3_of wsX3_isInOrder := goodIn_r _ [45, 5, 6, 7, 8, 9, 10, 19, 20, 21, 22, 18, 23, 46, 47, 48, 49, 50, 51] (by decide +kernel) (by decide +kernel)
set_option maxRecDepth 20000 in
theorem gX3_of_X3_isInOrder : GoodIn wsX3_of (va_wsS RX3 28 yX3_isInOrder wsX3_isInOrder) := goodIn_app (goodIn_of _ (by decide +kernel)) ggX3_of_X3_isInOrder
set_option maxRecDepth 20000 in
theorem ggX3_of_X3_isSwap : GoodIn wsX3_of wsX3_isSwap := goodIn_r _ [32, 5, 6, 7, 8, 9, 10, 19, 20, 21, 22, 18, 23, 33, 34, 35, 36, 37, 38, 39, 46, 47, 48, 49, 50, 51] (by decide +kernel) (by decide +kernel)
set_option maxRecDepth 20000 in
theorem gX3_of_X3_isSwap : GoodIn wsX3_of (va_wsS RX3 31 yX3_isSwap wsX3_isSwap) := goodIn_app (goodIn_of _ (by decide +kernel)) ggX3_of_X3_isSwap
theorem dX3_of_0 : decode cX3_of 0 = .ok (.aload_n 0, 1) := by decide +kernel
theorem dX3_of_1 : decode cX3_of 1 = .ok (.invokestatic 9, 3) := by decide +kernel
theorem dX3_of_4 : decode cX3_of 4 = .ok (.ifCond .eq 7, 3) := by decide +kernel
theorem dX3_of_7 : decode cX3_of 7 = .ok (.iconst 2, 1) := by decide +kernel
theorem dX3_of_8 : decode cX3_of 8 = .ok (.goto 4, 3) := by decide +kernel
theorem dX3_of_11 : decode cX3_of 11 = .ok (.iconst 0, 1) := by decide +kernel
theorem dX3_of_12 : decode cX3_of 12 = .ok (.istore_n 1, 1) := by decide +kernel
theorem dX3_of_13 : decode cX3_of 13 = .ok (.iconst 1, 1) := by decide +kernel
theorem dX3_of_14 : decode cX3_of 14 = .ok (.istore_n 2, 1) := by decide +kernel
theorem dX3_of_15 : decode cX3_of 15 = .ok (.iconst 1, 1) := by decide +kernel
theorem dX3_of_16 : decode cX3_of 16 = .ok (.istore_n 3, 1) := by decide +kernel
theorem dX3_of_17 : decode cX3_of 17 = .ok (.iconst 0, 1) := by decide +kernel
theorem dX3_of_18 : decode cX3_of 18 = .ok (.istore 4, 2) := by decide +kernel
theorem dX3_of_20 : decode cX3_of 20 = .ok (.iload 4, 2) := by decide +kernel
theorem dX3_of_22 : decode cX3_of 22 = .ok (.aload_n 0, 1) := by decide +kernel
theorem dX3_of_23 : decode cX3_of 23 = .ok (.invokevirtual 15, 3) := by decide +kernel
theorem dX3_of_26 : decode cX3_of 26 = .ok (.if_icmp .ge 62, 3) := by decide +kernel
theorem dX3_of_29 : decode cX3_of 29 = .ok (.iload_n 1, 1) := by decide +kernel
theorem dX3_of_30 : decode cX3_of 30 = .ok (.aload_n 0, 1) := by decide +kernel
theorem dX3_of_31 : decode cX3_of 31 = .ok (.iload 4, 2) := by decide +kernel
theorem dX3_of_33 : decode cX3_of 33 = .ok (.invokestatic 21, 3) := by decide +kernel
theorem dX3_of_36 : decode cX3_of 36 = .ok (.ifCond .eq 7, 3) := by decide +kernel
theorem dX3_of_39 : decode cX3_of 39 = .ok (.iconst 1, 1) := by decide +kernel
theorem dX3_of_40 : decode cX3_of 40 = .ok (.goto 4, 3) := by decide +kernel
theorem dX3_of_43 : decode cX3_of 43 = .ok (.iconst 0, 1) := by decide +kernel
theorem dX3_of_44 : decode cX3_of 44 = .ok (.ior, 1) := by decide +kernel
theorem dX3_of_45 : decode cX3_of 45 = .ok (.istore_n 1, 1) := by decide +kernel
theorem dX3_of_46 : decode cX3_of 46 = .ok (.iload_n 1, 1) := by decide +kernel
theorem dX3_of_47 : decode cX3_of 47 = .ok (.aload_n 0, 1) := by decide +kernel
theorem dX3_of_48 : decode cX3_of 48 = .ok (.iload 4, 2) := by decide +kernel
theorem dX3_of_50 : decode cX3_of 50 = .ok (.invokestatic 25, 3) := by decide +kernel
theorem dX3_of_53 : decode cX3_of 53 = .ok (.ifCond .eq 8, 3) := by decide +kernel
theorem dX3_of_56 : decode cX3_of 56 = .ok (.bipush 16, 2) := by decide +kernel
theorem dX3_of_58 : decode cX3_of 58 = .ok (.goto 4, 3) := by decide +kernel
theorem dX3_of_61 : decode cX3_of 61 = .ok (.iconst 0, 1) := by decide +kernel
theorem dX3_of_62 : decode cX3_of 62 = .ok (.ior, 1) := by decide +kernel
theorem dX3_of_63 : decode cX3_of 63 = .ok (.istore_n 1, 1) := by decide +kernel
theorem dX3_of_64 : decode cX3_of 64 = .ok (.iload_n 2, 1) := by decide +kernel
theorem dX3_of_65 : decode cX3_of 65 = .ok (.aload_n 0, 1) := by decide +kernel
theorem dX3_of_66 : decode cX3_of 66 = .ok (.iload 4, 2) := by decide +kernel
theorem dX3_of_68 : decode cX3_of 68 = .ok (.invokestatic 28, 3) := by decide +kernel
theorem dX3_of_71 : decode cX3_of 71 = .ok (.iand, 1) := by decide +kernel
theorem dX3_of_72 : decode cX3_of 72 = .ok (.istore_n 2, 1) := by decide +kernel
theorem dX3_of_73 : decode cX3_of 73 = .ok (.iload_n 3, 1) := by decide +kernel
theorem dX3_of_74 : decode cX3_of 74 = .ok (.aload_n 0, 1) := by decide +kernel
theorem dX3_of_75 : decode cX3_of 75 = .ok (.iload 4, 2) := by decide +kernel
theorem dX3_of_77 : decode cX3_of 77 = .ok (.invokestatic 31, 3) := by decide +kernel
theorem dX3_of_80 : decode cX3_of 80 = .ok (.iand, 1) := by decide +kernel
theorem dX3_of_81 : decode cX3_of 81 = .ok (.istore_n 3, 1) := by decide +kernel
theorem dX3_of_82 : decode cX3_of 82 = .ok (.iinc 4 1, 3) := by decide +kernel
theorem dX3_of_85 : decode cX3_of 85 = .ok (.goto (-65), 3) := by decide +kernel
theorem dX3_of_88 : decode cX3_of 88 = .ok (.iload_n 1, 1) := by decide +kernel
theorem dX3_of_89 : decode cX3_of 89 = .ok (.iload_n 2, 1) := by decide +kernel
theorem dX3_of_90 : decode cX3_of 90 = .ok (.ifCond .eq 7, 3) := by decide +kernel
theorem dX3_of_93 : decode cX3_of 93 = .ok (.iconst 4, 1) := by decide +kernel
theorem dX3_of_94 : decode cX3_of 94 = .ok (.goto 4, 3) := by decide +kernel
theorem dX3_of_97 : decode cX3_of 97 = .ok (.iconst 0, 1) := by decide +kernel
theorem dX3_of_98 : decode cX3_of 98 = .ok (.ior, 1) := by decide +kernel
theorem dX3_of_99 : decode cX3_of 99 = .ok (.iload_n 3, 1) := by decide +kernel
theorem dX3_of_100 : decode cX3_of 100 = .ok (.ifCond .eq 8, 3) := by decide +kernel
theorem dX3_of_103 : decode cX3_of 103 = .ok (.bipush 8, 2) := by decide +kernel
theorem dX3_of_105 : decode cX3_of 105 = .ok (.goto 4, 3) := by decide +kernel
theorem dX3_of_108 : decode cX3_of 108 = .ok (.iconst 0, 1) := by decide +kernel
theorem dX3_of_109 : decode cX3_of 109 = .ok (.ior, 1) := by decide +kernel
theorem dX3_of_110 : decode cX3_of 110 = .ok (.ireturn, 1) := by decide +kernel
set_option maxRecDepth 20000 in
theorem ggX3_isRound_X4_states : GoodIn wsX3_isRound wsX4_states := goodIn_r _ [5, 6, 24, 25, 26, 27, 28, 29] (by decide +kernel) (by decide +kernel)
set_option maxRecDepth 20000 in
theorem gX3_isRound_X4_states : GoodIn wsX3_isRound (wsV RX3 34 RX4 yX4_states wsX4_states) := goodIn_app (goodIn_of _ (by decide +kernel)) ggX3_isRound_X4_states
set_option maxRecDepth 20000 in
theorem ggX3_isRound_X4_target : GoodIn wsX3_isRound wsX4_target := goodIn_r _ [10, 6, 11, 12, 24, 25, 26, 27, 28, 29] (by decide +kernel) (by decide +kernel)
set_option maxRecDepth 20000 in
theorem gX3_isRound_X4_target : GoodIn wsX3_isRound (wsV RX3 37 RX4 yX4_target wsX4_target) := goodIn_app (goodIn_of _ (by decide +kernel)) ggX3_isRound_X4_target
set_option maxRecDepth 20000 in
theorem ggX3_isRound_X3_isSwap : GoodIn wsX3_isRound wsX3_isSwap := goodIn_r _ [16, 1, 2, 3, 4, 5, 6, 7, 8, 9, 10, 11, 12, 17, 18, 19, 20, 21, 22, 23, 24, 25, 26, 27, 28, 29] (by decide +kernel) (by decide +kernel)
set_option maxRecDepth 20000 in
theorem gX3_isRound_X3_isSwap : GoodIn wsX3_isRound (va_wsS RX3 31 yX3_isSwap wsX3_isSwap) := goodIn_app (goodIn_of _ (by decide +kernel)) ggX3_isRound_X3_isSwap
theorem dX3_isRound_0 : decode cX3_isRound 0 = .ok (.iconst 0, 1) := by decide +kernel
theorem dX3_isRound_1 : decode cX3_isRound 1 = .ok (.istore_n 2, 1) := by decide +kernel
theorem dX3_isRound_2 : decode cX3_isRound 2 = .ok (.iconst 1, 1) := by decide +kernel
theorem dX3_isRound_3 : decode cX3_isRound 3 = .ok (.istore_n 3, 1) := by decide +kernel
theorem dX3_isRound_4 : decode cX3_isRound 4 = .ok (.iload_n 3, 1) := by decide +kernel
theorem dX3_isRound_5 : decode cX3_isRound 5 = .ok (.aload_n 0, 1) := by decide +kernel
theorem dX3_isRound_6 : decode cX3_isRound 6 = .ok (.invokevirtual 34, 3) := by decide +kernel
theorem dX3_isRound_9 : decode cX3_isRound 9 = .ok (.if_icmp .ge 22, 3) := by decide +kernel
theorem dX3_isRound_12 : decode cX3_isRound 12 = .ok (.aload_n 0, 1) := by decide +kernel
theorem dX3_isRound_13 : decode cX3_isRound 13 = .ok (.iload_n 2, 1) := by decide +kernel
theorem dX3_isRound_14 : decode cX3_isRound 14 = .ok (.iload_n 1, 1) := by decide +kernel
theorem dX3_isRound_15 : decode cX3_isRound 15 = .ok (.invokevirtual 37, 3) := by decide +kernel
theorem dX3_isRound_18 : decode cX3_isRound 18 = .ok (.istore_n 2, 1) := by decide +kernel
theorem dX3_isRound_19 : decode cX3_isRound 19 = .ok (.iload_n 2, 1) := by decide +kernel
theorem dX3_isRound_20 : decode cX3_isRound 20 = .ok (.ifCond .ne 5, 3) := by decide +kernel
theorem dX3_isRound_23 : decode cX3_isRound 23 = .ok (.iconst 0, 1) := by decide +kernel
theorem dX3_isRound_24 : decode cX3_isRound 24 = .ok (.ireturn, 1) := by decide +kernel
theorem dX3_isRound_25 : decode cX3_isRound 25 = .ok (.iinc 3 1, 3) := by decide +kernel
theorem dX3_isRound_28 : decode cX3_isRound 28 = .ok (.goto (-24), 3) := by decide +kernel
theorem dX3_isRound_31 : decode cX3_isRound 31 = .ok (.aload_n 0, 1) := by decide +kernel
theorem dX3_isRound_32 : decode cX3_isRound 32 = .ok (.iload_n 1, 1) := by decide +kernel
theorem dX3_isRound_33 : decode cX3_isRound 33 = .ok (.invokestatic 31, 3) := by decide +kernel
theorem dX3_isRound_36 : decode cX3_isRound 36 = .ok (.ifCond .eq 16, 3) := by decide +kernel
theorem dX3_isRound_39 : decode cX3_isRound 39 = .ok (.aload_n 0, 1) := by decide +kernel
theorem dX3_isRound_40 : decode cX3_isRound 40 = .ok (.iload_n 2, 1) := by decide +kernel
theorem dX3_isRound_41 : decode cX3_isRound 41 = .ok (.iload_n 1, 1) := by decide +kernel
theorem dX3_isRound_42 : decode cX3_isRound 42 = .ok (.invokevirtual 37, 3) := by decide +kernel
theorem dX3_isRound_45 : decode cX3_isRound 45 = .ok (.ifCond .ne 7, 3) := by decide +kernel
theorem dX3_isRound_48 : decode cX3_isRound 48 = .ok (.iconst 1, 1) := by decide +kernel
theorem dX3_isRound_49 : decode cX3_isRound 49 = .ok (.goto 4, 3) := by decide +kernel
theorem dX3_isRound_52 : decode cX3_isRound 52 = .ok (.iconst 0, 1) := by decide +kernel
theorem dX3_isRound_53 : decode cX3_isRound 53 = .ok (.ireturn, 1) := by decide +kernel
set_option maxRecDepth 20000 in
theorem ggX3_hasLoop_X4_states : GoodIn wsX3_hasLoop wsX4_states := goodIn_r _ [5, 6, 13, 14, 15, 16, 17, 18] (by decide +kernel) (by decide +kernel)
set_option maxRecDepth 20000 in
theorem gX3_hasLoop_X4_states : GoodIn wsX3_hasLoop (wsV RX3 34 RX4 yX4_states wsX4_states) := goodIn_app (goodIn_of _ (by decide +kernel)) ggX3_hasLoop_X4_states
set_option maxRecDepth 20000 in
theorem ggX3_hasLoop_X4_target : GoodIn wsX3_hasLoop wsX4_target := goodIn_r _ [10, 6, 11, 12, 13, 14, 15, 16, 17, 18] (by decide +kernel) (by decide +kernel)
set_option maxRecDepth 20000 in
theorem gX3_hasLoop_X4_target : GoodIn wsX3_hasLoop (wsV RX3 37 RX4 yX4_target wsX4_target) := goodIn_app (goodIn_of _ (by decide +kernel)) ggX3_hasLoop_X4_target
theorem dX3_hasLoop_0 : decode cX3_hasLoop 0 = .ok (.iconst 0, 1) := by decide +kernel
theorem dX3_hasLoop_1 : decode cX3_hasLoop 1 = .ok (.istore_n 2, 1) := by decide +kernel
theorem dX3_hasLoop_2 : decode cX3_hasLoop 2 = .ok (.iload_n 2, 1) := by decide +kernel
theorem dX3_hasLoop_3 : decode cX3_hasLoop 3 = .ok (.aload_n 0, 1) := by decide +kernel
theorem dX3_hasLoop_4 : decode cX3_hasLoop 4 = .ok (.invokevirtual 34, 3) := by decide +kernel
theorem dX3_hasLoop_7 : decode cX3_hasLoop 7 = .ok (.if_icmp .ge 21, 3) := by decide +kernel
theorem dX3_hasLoop_10 : decode cX3_hasLoop 10 = .ok (.aload_n 0, 1) := by decide +kernel
theorem dX3_hasLoop_11 : decode cX3_hasLoop 11 = .ok (.iload_n 2, 1) := by decide +kernel
theorem dX3_hasLoop_12 : decode cX3_hasLoop 12 = .ok (.iload_n 1, 1) := by decide +kernel
theorem dX3_hasLoop_13 : decode cX3_hasLoop 13 = .ok (.invokevirtual 37, 3) := by decide +kernel
theorem dX3_hasLoop_16 : decode cX3_hasLoop 16 = .ok (.iload_n 2, 1) := by decide +kernel
theorem dX3_hasLoop_17 : decode cX3_hasLoop 17 = .ok (.if_icmp .ne 5, 3) := by decide +kernel
theorem dX3_hasLoop_20 : decode cX3_hasLoop 20 = .ok (.iconst 1, 1) := by decide +kernel
theorem dX3_hasLoop_21 : decode cX3_hasLoop 21 = .ok (.ireturn, 1) := by decide +kernel
theorem dX3_hasLoop_22 : decode cX3_hasLoop 22 = .ok (.iinc 2 1, 3) := by decide +kernel
theorem dX3_hasLoop_25 : decode cX3_hasLoop 25 = .ok (.goto (-23), 3) := by decide +kernel
theorem dX3_hasLoop_28 : decode cX3_hasLoop 28 = .ok (.iconst 0, 1) := by decide +kernel
theorem dX3_hasLoop_29 : decode cX3_hasLoop 29 = .ok (.ireturn, 1) := by decide +kernel
set_option maxRecDepth 20000 in
theorem ggX3_isInOrder_X4_states : GoodIn wsX3_isInOrder wsX4_states := goodIn_r _ [5, 6, 13, 14, 15, 16, 17, 18] (by decide +kernel) (by decide +kernel)
set_option maxRecDepth 20000 in
theorem gX3_isInOrder_X4_states : GoodIn wsX3_isInOrder (wsV RX3 34 RX4 yX4_states wsX4_states) := goodIn_app (goodIn_of _ (by decide +kernel)) ggX3_isInOrder_X4_states
set_option maxRecDepth 20000 in
theorem ggX3_isInOrder_X4_target : GoodIn wsX3_isInOrder wsX4_target := goodIn_r _ [10, 6, 11, 12, 13, 14, 15, 16, 17, 18] (by decide +kernel) (by decide +kernel)
set_option maxRecDepth 20000 in
theorem gX3_isInOrder_X4_target : GoodIn wsX3_isInOrder (wsV RX3 37 RX4 yX4_target wsX4_target) := goodIn_app (goodIn_of _ (by decide +kernel)) ggX3_isInOrder_X4_target
theorem dX3_isInOrder_0 : decode cX3_isInOrder 0 = .ok (.iconst 1, 1) := by decide +kernel
theorem dX3_isInOrder_1 : decode cX3_isInOrder 1 = .ok (.istore_n 2, 1) := by decide +kernel
theorem dX3_isInOrder_2 : decode cX3_isInOrder 2 = .ok (.iload_n 2, 1) := by decide +kernel
theorem dX3_isInOrder_3 : decode cX3_isInOrder 3 = .ok (.aload_n 0, 1) := by decide +kernel
theorem dX3_isInOrder_4 : decode cX3_isInOrder 4 = .ok (.invokevirtual 34, 3) := by decide +kernel
theorem dX3_isInOrder_7 : decode cX3_isInOrder 7 = .ok (.if_icmp .ge 28, 3) := by decide +kernel
theorem dX3_isInOrder_10 : decode cX3_isInOrder 10 = .ok (.aload_n 0, 1) := by decide +kernel
theorem dX3_isInOrder_11 : decode cX3_isInOrder 11 = .ok (.iload_n 2, 1) := by decide +kernel
theorem dX3_isInOrder_12 : decode cX3_isInOrder 12 = .ok (.iconst 1, 1) := by decide +kernel
theorem dX3_isInOrder_13 : decode cX3_isInOrder 13 = .ok (.isub, 1) := by decide +kernel
theorem dX3_isInOrder_14 : decode cX3_isInOrder 14 = .ok (.iload_n 1, 1) := by decide +kernel
theorem dX3_isInOrder_15 : decode cX3_isInOrder 15 = .ok (.invokevirtual 37, 3) := by decide +kernel
theorem dX3_isInOrder_18 : decode cX3_isInOrder 18 = .ok (.aload_n 0, 1) := by decide +kernel
theorem dX3_isInOrder_19 : decode cX3_isInOrder 19 = .ok (.iload_n 2, 1) := by decide +kernel
theorem dX3_isInOrder_20 : decode cX3_isInOrder 20 = .ok (.iload_n 1, 1) := by decide +kernel
theorem dX3_isInOrder_21 : decode cX3_isInOrder 21 = .ok (.invokevirtual 37, 3) := by decide +kernel
theorem dX3_isInOrder_24 : decode cX3_isInOrder 24 = .ok (.if_icmp .le 5, 3) := by decide +kernel
theorem dX3_isInOrder_27 : decode cX3_isInOrder 27 = .ok (.iconst 0, 1) := by decide +kernel
theorem dX3_isInOrder_28 : decode cX3_isInOrder 28 = .ok (.ireturn, 1) := by decide +kernel
theorem dX3_isInOrder_29 : decode cX3_isInOrder 29 = .ok (.iinc 2 1, 3) := by decide +kernel
theorem dX3_isInOrder_32 : decode cX3_isInOrder 32 = .ok (.goto (-30), 3) := by decide +kernel
theorem dX3_isInOrder_35 : decode cX3_isInOrder 35 = .ok (.iconst 1, 1) := by decide +kernel
theorem dX3_isInOrder_36 : decode cX3_isInOrder 36 = .ok (.ireturn, 1) := by decide +kernel
set_option maxRecDepth 20000 in
theorem ggX3_isSwap_X4_states : GoodIn wsX3_isSwap wsX4_states := goodIn_r _ [5, 6, 20, 21, 22, 23, 24, 25] (by decide +kernel) (by decide +kernel)
set_option maxRecDepth 20000 in
theorem gX3_isSwap_X4_states : GoodIn wsX3_isSwap (wsV RX3 34 RX4 yX4_states wsX4_states) := goodIn_app (goodIn_of _ (by decide +kernel)) ggX3_isSwap_X4_states
set_option maxRecDepth 20000 in
theorem ggX3_isSwap_X4_target : GoodIn wsX3_isSwap wsX4_target := goodIn_r _ [10, 6, 11, 12, 20, 21, 22, 23, 24, 25] (by decide +kernel) (by decide +kernel)
set_option maxRecDepth 20000 in
theorem gX3_isSwap_X4_target : GoodIn wsX3_isSwap (wsV RX3 37 RX4 yX4_target wsX4_target) := goodIn_app (goodIn_of _ (by decide +kernel)) ggX3_isSwap_X4_target
set_option maxRecDepth 20000 in
theorem ggX3_isSwap_J6_bitCount_0f7a4 : GoodIn wsX3_isSwap wsJ6_bitCount_0f7a4 := goodIn_r _ [16, 17, 18, 19] (by decide +kernel) (by decide +kernel)
set_option maxRecDepth 20000 in
theorem gX3_isSwap_J6_bitCount_0f7a4 : GoodIn wsX3_isSwap (va_wsS RX3 41 yJ6_bitCount_0f7a4 wsJ6_bitCount_0f7a4) := goodIn_app (goodIn_of _ (by decide +kernel)) ggX3_isSwap_J6_bitCount_0f7a4
theorem dX3_isSwap_0 : decode cX3_isSwap 0 = .ok (.iconst 0, 1) := by decide +kernel
theorem dX3_isSwap_1 : decode cX3_isSwap 1 = .ok (.istore_n 2, 1) := by decide +kernel
theorem dX3_isSwap_2 : decode cX3_isSwap 2 = .ok (.iconst 0, 1) := by decide +kernel
theorem dX3_isSwap_3 : decode cX3_isSwap 3 = .ok (.istore_n 3, 1) := by decide +kernel
theorem dX3_isSwap_4 : decode cX3_isSwap 4 = .ok (.iload_n 3, 1) := by decide +kernel
theorem dX3_isSwap_5 : decode cX3_isSwap 5 = .ok (.aload_n 0, 1) := by decide +kernel
theorem dX3_isSwap_6 : decode cX3_isSwap 6 = .ok (.invokevirtual 34, 3) := by decide +kernel
theorem dX3_isSwap_9 : decode cX3_isSwap 9 = .ok (.if_icmp .ge 20, 3) := by decide +kernel
theorem dX3_isSwap_12 : decode cX3_isSwap 12 = .ok (.iload_n 2, 1) := by decide +kernel
theorem dX3_isSwap_13 : decode cX3_isSwap 13 = .ok (.iconst 1, 1) := by decide +kernel
theorem dX3_isSwap_14 : decode cX3_isSwap 14 = .ok (.aload_n 0, 1) := by decide +kernel
theorem dX3_isSwap_15 : decode cX3_isSwap 15 = .ok (.iload_n 3, 1) := by decide +kernel
theorem dX3_isSwap_16 : decode cX3_isSwap 16 = .ok (.iload_n 1, 1) := by decide +kernel
theorem dX3_isSwap_17 : decode cX3_isSwap 17 = .ok (.invokevirtual 37, 3) := by decide +kernel
theorem dX3_isSwap_20 : decode cX3_isSwap 20 = .ok (.ishl, 1) := by decide +kernel
theorem dX3_isSwap_21 : decode cX3_isSwap 21 = .ok (.ior, 1) := by decide +kernel
theorem dX3_isSwap_22 : decode cX3_isSwap 22 = .ok (.istore_n 2, 1) := by decide +kernel
theorem dX3_isSwap_23 : decode cX3_isSwap 23 = .ok (.iinc 3 1, 3) := by decide +kernel
theorem dX3_isSwap_26 : decode cX3_isSwap 26 = .ok (.goto (-22), 3) := by decide +kernel
theorem dX3_isSwap_29 : decode cX3_isSwap 29 = .ok (.iload_n 2, 1) := by decide +kernel
theorem dX3_isSwap_30 : decode cX3_isSwap 30 = .ok (.invokestatic 41, 3) := by decide +kernel
theorem dX3_isSwap_33 : decode cX3_isSwap 33 = .ok (.aload_n 0, 1) := by decide +kernel
theorem dX3_isSwap_34 : decode cX3_isSwap 34 = .ok (.invokevirtual 34, 3) := by decide +kernel
theorem dX3_isSwap_37 : decode cX3_isSwap 37 = .ok (.if_icmp .ne 7, 3) := by decide +kernel
theorem dX3_isSwap_40 : decode cX3_isSwap 40 = .ok (.iconst 1, 1) := by decide +kernel
theorem dX3_isSwap_41 : decode cX3_isSwap 41 = .ok (.goto 4, 3) := by decide +kernel
theorem dX3_isSwap_44 : decode cX3_isSwap 44 = .ok (.iconst 0, 1) := by decide +kernel
theorem dX3_isSwap_45 : decode cX3_isSwap 45 = .ok (.ireturn, 1) := by decide +kernel
set_option maxRecDepth 20000 in
theorem ggX3_hasSink_X4_states : GoodIn wsX3_hasSink wsX4_states := goodIn_r _ [5, 6, 24, 25, 26, 27, 28, 29] (by decide +kernel) (by decide +kernel)
set_option maxRecDepth 20000 in
theorem gX3_hasSink_X4_states : GoodIn wsX3_hasSink (wsV RX3 34 RX4 yX4_states wsX4_states) := goodIn_app (goodIn_of _ (by decide +kernel)) ggX3_hasSink_X4_states
set_option maxRecDepth 20000 in
theorem ggX3_hasSink_X3_staysByAll : GoodIn wsX3_hasSink wsX3_staysByAll := goodIn_r _ [10, 11, 12, 13, 4, 14, 15, 16, 17, 18, 19, 6, 20, 24, 25, 26, 27, 28, 29] (by decide +kernel) (by decide +kernel)
set_option maxRecDepth 20000 in
theorem gX3_hasSink_X3_staysByAll : GoodIn wsX3_hasSink (va_wsS RX3 47 yX3_staysByAll wsX3_staysByAll) := goodIn_app (goodIn_of _ (by decide +kernel)) ggX3_hasSink_X3_staysByAll
set_option maxRecDepth 20000 in
theorem ggX3_hasSink_X3_isReachedByAll : GoodIn wsX3_hasSink wsX3_isReachedByAll := goodIn_r _ [23, 1, 2, 3, 4, 5, 6, 11, 12, 13, 14, 15, 16, 17, 18, 19, 20, 24, 25, 26, 27, 28, 29] (by decide +kernel) (by decide +kernel)
set_option maxRecDepth 20000 in
theorem gX3_hasSink_X3_isReachedByAll : GoodIn wsX3_hasSink (va_wsS RX3 50 yX3_isReachedByAll wsX3_isReachedByAll) := goodIn_app (goodIn_of _ (by decide +kernel)) ggX3_hasSink_X3_isReachedByAll
theorem dX3_hasSink_0 : decode cX3_hasSink 0 = .ok (.iconst 0, 1) := by decide +kernel
theorem dX3_hasSink_1 : decode cX3_hasSink 1 = .ok (.istore_n 1, 1) := by decide +kernel
theorem dX3_hasSink_2 : decode cX3_hasSink 2 = .ok (.iload_n 1, 1) := by decide +kernel
theorem dX3_hasSink_3 : decode cX3_hasSink 3 = .ok (.aload_n 0, 1) := by decide +kernel
theorem dX3_hasSink_4 : decode cX3_hasSink 4 = .ok (.invokevirtual 34, 3) := by decide +kernel
theorem dX3_hasSink_7 : decode cX3_hasSink 7 = .ok (.if_icmp .ge 27, 3) := by decide +kernel
theorem dX3_hasSink_10 : decode cX3_hasSink 10 = .ok (.aload_n 0, 1) := by decide +kernel
theorem dX3_hasSink_11 : decode cX3_hasSink 11 = .ok (.iload_n 1, 1) := by decide +kernel
theorem dX3_hasSink_12 : decode cX3_hasSink 12 = .ok (.invokestatic 47, 3) := by decide +kernel
theorem dX3_hasSink_15 : decode cX3_hasSink 15 = .ok (.ifCond .eq 13, 3) := by decide +kernel
theorem dX3_hasSink_18 : decode cX3_hasSink 18 = .ok (.aload_n 0, 1) := by decide +kernel
theorem dX3_hasSink_19 : decode cX3_hasSink 19 = .ok (.iload_n 1, 1) := by decide +kernel
theorem dX3_hasSink_20 : decode cX3_hasSink 20 = .ok (.invokestatic 50, 3) := by decide +kernel
theorem dX3_hasSink_23 : decode cX3_hasSink 23 = .ok (.ifCond .eq 5, 3) := by decide +kernel
theorem dX3_hasSink_26 : decode cX3_hasSink 26 = .ok (.iconst 1, 1) := by decide +kernel
theorem dX3_hasSink_27 : decode cX3_hasSink 27 = .ok (.ireturn, 1) := by decide +kernel
theorem dX3_hasSink_28 : decode cX3_hasSink 28 = .ok (.iinc 1 1, 3) := by decide +kernel
theorem dX3_hasSink_31 : decode cX3_hasSink 31 = .ok (.goto (-29), 3) := by decide +kernel
theorem dX3_hasSink_34 : decode cX3_hasSink 34 = .ok (.iconst 0, 1) := by decide +kernel
theorem dX3_hasSink_35 : decode cX3_hasSink 35 = .ok (.ireturn, 1) := by decide +kernel
set_option maxRecDepth 20000 in
theorem ggX3_staysByAll_X4_letters : GoodIn wsX3_staysByAll wsX4_letters := goodIn_r _ [5, 6, 13, 14, 15, 16, 17, 18] (by decide +kernel) (by decide +kernel)
set_option maxRecDepth 20000 in
theorem gX3_staysByAll_X4_letters : GoodIn wsX3_staysByAll (wsV RX3 15 RX4 yX4_letters wsX4_letters) := goodIn_app (goodIn_of _ (by decide +kernel)) ggX3_staysByAll_X4_letters
set_option maxRecDepth 20000 in
theorem ggX3_staysByAll_X4_target : GoodIn wsX3_staysByAll wsX4_target := goodIn_r _ [10, 11, 6, 12, 13, 14, 15, 16, 17, 18] (by decide +kernel) (by decide +kernel)
set_option maxRecDepth 20000 in
theorem gX3_staysByAll_X4_target : GoodIn wsX3_staysByAll (wsV RX3 37 RX4 yX4_target wsX4_target) := goodIn_app (goodIn_of _ (by decide +kernel)) ggX3_staysByAll_X4_target
theorem dX3_staysByAll_0 : decode cX3_staysByAll 0 = .ok (.iconst 0, 1) := by decide +kernel
theorem dX3_staysByAll_1 : decode cX3_staysByAll 1 = .ok (.istore_n 2, 1) := by decide +kernel
theorem dX3_staysByAll_2 : decode cX3_staysByAll 2 = .ok (.iload_n 2, 1) := by decide +kernel
theorem dX3_staysByAll_3 : decode cX3_staysByAll 3 = .ok (.aload_n 0, 1) := by decide +kernel
theorem dX3_staysByAll_4 : decode cX3_staysByAll 4 = .ok (.invokevirtual 15, 3) := by decide +kernel
theorem dX3_staysByAll_7 : decode cX3_staysByAll 7 = .ok (.if_icmp .ge 21, 3) := by decide +kernel
theorem dX3_staysByAll_10 : decode cX3_staysByAll 10 = .ok (.aload_n 0, 1) := by decide +kernel
theorem dX3_staysByAll_11 : decode cX3_staysByAll 11 = .ok (.iload_n 1, 1) := by decide +kernel
theorem dX3_staysByAll_12 : decode cX3_staysByAll 12 = .ok (.iload_n 2, 1) := by decide +kernel
theorem dX3_staysByAll_13 : decode cX3_staysByAll 13 = .ok (.invokevirtual 37, 3) := by decide +kernel
theorem dX3_staysByAll_16 : decode cX3_staysByAll 16 = .ok (.iload_n 1, 1) := by decide +kernel
theorem dX3_staysByAll_17 : decode cX3_staysByAll 17 = .ok (.if_icmp .eq 5, 3) := by decide +kernel
theorem dX3_staysByAll_20 : decode cX3_staysByAll 20 = .ok (.iconst 0, 1) := by decide +kernel
theorem dX3_staysByAll_21 : decode cX3_staysByAll 21 = .ok (.ireturn, 1) := by decide +kernel
theorem dX3_staysByAll_22 : decode cX3_staysByAll 22 = .ok (.iinc 2 1, 3) := by decide +kernel
theorem dX3_staysByAll_25 : decode cX3_staysByAll 25 = .ok (.goto (-23), 3) := by decide +kernel
theorem dX3_staysByAll_28 : decode cX3_staysByAll 28 = .ok (.iconst 1, 1) := by decide +kernel
theorem dX3_staysByAll_29 : decode cX3_staysByAll 29 = .ok (.ireturn, 1) := by decide +kernel
set_option maxRecDepth 20000 in
theorem ggX3_isReachedByAll_X4_states : GoodIn wsX3_isReachedByAll wsX4_states := goodIn_r _ [5, 6, 17, 18, 19, 20, 21, 22] (by decide +kernel) (by decide +kernel)
set_option maxRecDepth 20000 in
theorem gX3_isReachedByAll_X4_states : GoodIn wsX3_isReachedByAll (wsV RX3 34 RX4 yX4_states wsX4_states) := goodIn_app (goodIn_of _ (by decide +kernel)) ggX3_isReachedByAll_X4_states
set_option maxRecDepth 20000 in
theorem ggX3_isReachedByAll_X4_letters : GoodIn wsX3_isReachedByAll wsX4_letters := goodIn_r _ [10, 11, 17, 18, 19, 20, 21, 22] (by decide +kernel) (by decide +kernel)
set_option maxRecDepth 20000 in
theorem gX3_isReachedByAll_X4_letters : GoodIn wsX3_isReachedByAll (wsV RX3 15 RX4 yX4_letters wsX4_letters) := goodIn_app (goodIn_of _ (by decide +kernel)) ggX3_isReachedByAll_X4_letters
set_option maxRecDepth 20000 in
theorem ggX3_isReachedByAll_X4_target : GoodIn wsX3_isReachedByAll wsX4_target := goodIn_r _ [15, 6, 11, 16, 17, 18, 19, 20, 21, 22] (by decide +kernel) (by decide +kernel)
set_option maxRecDepth 20000 in
theorem gX3_isReachedByAll_X4_target : GoodIn wsX3_isReachedByAll (wsV RX3 37 RX4 yX4_target wsX4_target) := goodIn_app (goodIn_of _ (by decide +kernel)) ggX3_isReachedByAll_X4_target
theorem dX3_isReachedByAll_0 : decode cX3_isReachedByAll 0 = .ok (.iconst 1, 1) := by decide +kernel
theorem dX3_isReachedByAll_1 : decode cX3_isReachedByAll 1 = .ok (.iload_n 1, 1) := by decide +kernel
theorem dX3_isReachedByAll_2 : decode cX3_isReachedByAll 2 = .ok (.ishl, 1) := by decide +kernel
theorem dX3_isReachedByAll_3 : decode cX3_isReachedByAll 3 = .ok (.istore_n 2, 1) := by decide +kernel
theorem dX3_isReachedByAll_4 : decode cX3_isReachedByAll 4 = .ok (.iconst 0, 1) := by decide +kernel
theorem dX3_isReachedByAll_5 : decode cX3_isReachedByAll 5 = .ok (.istore_n 3, 1) := by decide +kernel
theorem dX3_isReachedByAll_6 : decode cX3_isReachedByAll 6 = .ok (.iload_n 3, 1) := by decide +kernel
theorem dX3_isReachedByAll_7 : decode cX3_isReachedByAll 7 = .ok (.bipush 12, 2) := by decide +kernel
theorem dX3_isReachedByAll_9 : decode cX3_isReachedByAll 9 = .ok (.if_icmp .ge 67, 3) := by decide +kernel
theorem dX3_isReachedByAll_12 : decode cX3_isReachedByAll 12 = .ok (.iconst 0, 1) := by decide +kernel
theorem dX3_isReachedByAll_13 : decode cX3_isReachedByAll 13 = .ok (.istore 4, 2) := by decide +kernel
theorem dX3_isReachedByAll_15 : decode cX3_isReachedByAll 15 = .ok (.iload 4, 2) := by decide +kernel
theorem dX3_isReachedByAll_17 : decode cX3_isReachedByAll 17 = .ok (.aload_n 0, 1) := by decide +kernel
theorem dX3_isReachedByAll_18 : decode cX3_isReachedByAll 18 = .ok (.invokevirtual 34, 3) := by decide +kernel
theorem dX3_isReachedByAll_21 : decode cX3_isReachedByAll 21 = .ok (.if_icmp .ge 49, 3) := by decide +kernel
theorem dX3_isReachedByAll_24 : decode cX3_isReachedByAll 24 = .ok (.iconst 0, 1) := by decide +kernel
theorem dX3_isReachedByAll_25 : decode cX3_isReachedByAll 25 = .ok (.istore 5, 2) := by decide +kernel
theorem dX3_isReachedByAll_27 : decode cX3_isReachedByAll 27 = .ok (.iload 5, 2) := by decide +kernel
theorem dX3_isReachedByAll_29 : decode cX3_isReachedByAll 29 = .ok (.aload_n 0, 1) := by decide +kernel
theorem dX3_isReachedByAll_30 : decode cX3_isReachedByAll 30 = .ok (.invokevirtual 15, 3) := by decide +kernel
theorem dX3_isReachedByAll_33 : decode cX3_isReachedByAll 33 = .ok (.if_icmp .ge 31, 3) := by decide +kernel
theorem dX3_isReachedByAll_36 : decode cX3_isReachedByAll 36 = .ok (.iload_n 2, 1) := by decide +kernel
theorem dX3_isReachedByAll_37 : decode cX3_isReachedByAll 37 = .ok (.aload_n 0, 1) := by decide +kernel
theorem dX3_isReachedByAll_38 : decode cX3_isReachedByAll 38 = .ok (.iload 4, 2) := by decide +kernel
theorem dX3_isReachedByAll_40 : decode cX3_isReachedByAll 40 = .ok (.iload 5, 2) := by decide +kernel
theorem dX3_isReachedByAll_42 : decode cX3_isReachedByAll 42 = .ok (.invokevirtual 37, 3) := by decide +kernel
theorem dX3_isReachedByAll_45 : decode cX3_isReachedByAll 45 = .ok (.ishr, 1) := by decide +kernel
theorem dX3_isReachedByAll_46 : decode cX3_isReachedByAll 46 = .ok (.iconst 1, 1) := by decide +kernel
theorem dX3_isReachedByAll_47 : decode cX3_isReachedByAll 47 = .ok (.iand, 1) := by decide +kernel
theorem dX3_isReachedByAll_48 : decode cX3_isReachedByAll 48 = .ok (.ifCond .eq 10, 3) := by decide +kernel
theorem dX3_isReachedByAll_51 : decode cX3_isReachedByAll 51 = .ok (.iload_n 2, 1) := by decide +kernel
theorem dX3_isReachedByAll_52 : decode cX3_isReachedByAll 52 = .ok (.iconst 1, 1) := by decide +kernel
theorem dX3_isReachedByAll_53 : decode cX3_isReachedByAll 53 = .ok (.iload 4, 2) := by decide +kernel
theorem dX3_isReachedByAll_55 : decode cX3_isReachedByAll 55 = .ok (.ishl, 1) := by decide +kernel
theorem dX3_isReachedByAll_56 : decode cX3_isReachedByAll 56 = .ok (.ior, 1) := by decide +kernel
theorem dX3_isReachedByAll_57 : decode cX3_isReachedByAll 57 = .ok (.istore_n 2, 1) := by decide +kernel
theorem dX3_isReachedByAll_58 : decode cX3_isReachedByAll 58 = .ok (.iinc 5 1, 3) := by decide +kernel
theorem dX3_isReachedByAll_61 : decode cX3_isReachedByAll 61 = .ok (.goto (-34), 3) := by decide +kernel
theorem dX3_isReachedByAll_64 : decode cX3_isReachedByAll 64 = .ok (.iinc 4 1, 3) := by decide +kernel
theorem dX3_isReachedByAll_67 : decode cX3_isReachedByAll 67 = .ok (.goto (-52), 3) := by decide +kernel
theorem dX3_isReachedByAll_70 : decode cX3_isReachedByAll 70 = .ok (.iinc 3 1, 3) := by decide +kernel
theorem dX3_isReachedByAll_73 : decode cX3_isReachedByAll 73 = .ok (.goto (-67), 3) := by decide +kernel
theorem dX3_isReachedByAll_76 : decode cX3_isReachedByAll 76 = .ok (.iload_n 2, 1) := by decide +kernel
theorem dX3_isReachedByAll_77 : decode cX3_isReachedByAll 77 = .ok (.iconst 1, 1) := by decide +kernel
theorem dX3_isReachedByAll_78 : decode cX3_isReachedByAll 78 = .ok (.aload_n 0, 1) := by decide +kernel
theorem dX3_isReachedByAll_79 : decode cX3_isReachedByAll 79 = .ok (.invokevirtual 34, 3) := by decide +kernel
theorem dX3_isReachedByAll_82 : decode cX3_isReachedByAll 82 = .ok (.ishl, 1) := by decide +kernel
theorem dX3_isReachedByAll_83 : decode cX3_isReachedByAll 83 = .ok (.iconst 1, 1) := by decide +kernel
theorem dX3_isReachedByAll_84 : decode cX3_isReachedByAll 84 = .ok (.isub, 1) := by decide +kernel
theorem dX3_isReachedByAll_85 : decode cX3_isReachedByAll 85 = .ok (.if_icmp .ne 7, 3) := by decide +kernel
theorem dX3_isReachedByAll_88 : decode cX3_isReachedByAll 88 = .ok (.iconst 1, 1) := by decide +kernel
theorem dX3_isReachedByAll_89 : decode cX3_isReachedByAll 89 = .ok (.goto 4, 3) := by decide +kernel
theorem dX3_isReachedByAll_92 : decode cX3_isReachedByAll 92 = .ok (.iconst 0, 1) := by decide +kernel
theorem dX3_isReachedByAll_93 : decode cX3_isReachedByAll 93 = .ok (.ireturn, 1) := by decide +kernel
set_option maxRecDepth 20000 in
theorem ggX4_init_J7_fill_53178 : GoodIn wsX4_init wsJ7_fill_53178 := goodIn_r _ [14] (by decide +kernel) (by decide +kernel)
set_option maxRecDepth 20000 in
theorem gX4_init_J7_fill_53178 : GoodIn wsX4_init (va_wsS RX4 31 yJ7_fill_53178 wsJ7_fill_53178) := goodIn_app (goodIn_of _ (by decide +kernel)) ggX4_init_J7_fill_53178
theorem dX4_init_0 : decode cX4_init 0 = .ok (.aload_n 0, 1) := by decide +kernel
theorem dX4_init_1 : decode cX4_init 1 = .ok (.invokespecial 3, 3) := by decide +kernel
theorem dX4_init_4 : decode cX4_init 4 = .ok (.aload_n 0, 1) := by decide +kernel
theorem dX4_init_5 : decode cX4_init 5 = .ok (.bipush 48, 2) := by decide +kernel
theorem dX4_init_7 : decode cX4_init 7 = .ok (.newarray .int, 2) := by decide +kernel
theorem dX4_init_9 : decode cX4_init 9 = .ok (.putfield 9, 3) := by decide +kernel
theorem dX4_init_12 : decode cX4_init 12 = .ok (.aload_n 0, 1) := by decide +kernel
theorem dX4_init_13 : decode cX4_init 13 = .ok (.bipush 12, 2) := by decide +kernel
theorem dX4_init_15 : decode cX4_init 15 = .ok (.newarray .int, 2) := by decide +kernel
theorem dX4_init_17 : decode cX4_init 17 = .ok (.putfield 15, 3) := by decide +kernel
theorem dX4_init_20 : decode cX4_init 20 = .ok (.aload_n 0, 1) := by decide +kernel
theorem dX4_init_21 : decode cX4_init 21 = .ok (.iconst 4, 1) := by decide +kernel
theorem dX4_init_22 : decode cX4_init 22 = .ok (.newarray .int, 2) := by decide +kernel
theorem dX4_init_24 : decode cX4_init 24 = .ok (.putfield 18, 3) := by decide +kernel
theorem dX4_init_27 : decode cX4_init 27 = .ok (.aload_n 0, 1) := by decide +kernel
theorem dX4_init_28 : decode cX4_init 28 = .ok (.iconst 4, 1) := by decide +kernel
theorem dX4_init_29 : decode cX4_init 29 = .ok (.newarray .int, 2) := by decide +kernel
theorem dX4_init_31 : decode cX4_init 31 = .ok (.putfield 21, 3) := by decide +kernel
theorem dX4_init_34 : decode cX4_init 34 = .ok (.aload_n 0, 1) := by decide +kernel
theorem dX4_init_35 : decode cX4_init 35 = .ok (.iload_n 1, 1) := by decide +kernel
theorem dX4_init_36 : decode cX4_init 36 = .ok (.putfield 24, 3) := by decide +kernel
theorem dX4_init_39 : decode cX4_init 39 = .ok (.aload_n 0, 1) := by decide +kernel
theorem dX4_init_40 : decode cX4_init 40 = .ok (.iload_n 2, 1) := by decide +kernel
theorem dX4_init_41 : decode cX4_init 41 = .ok (.putfield 28, 3) := by decide +kernel
theorem dX4_init_44 : decode cX4_init 44 = .ok (.aload_n 0, 1) := by decide +kernel
theorem dX4_init_45 : decode cX4_init 45 = .ok (.getfield 9, 3) := by decide +kernel
theorem dX4_init_48 : decode cX4_init 48 = .ok (.iconst (-1), 1) := by decide +kernel
theorem dX4_init_49 : decode cX4_init 49 = .ok (.invokestatic 31, 3) := by decide +kernel
theorem dX4_init_52 : decode cX4_init 52 = .ok (.aload_n 0, 1) := by decide +kernel
theorem dX4_init_53 : decode cX4_init 53 = .ok (.getfield 18, 3) := by decide +kernel
theorem dX4_init_56 : decode cX4_init 56 = .ok (.iconst 1, 1) := by decide +kernel
theorem dX4_init_57 : decode cX4_init 57 = .ok (.invokestatic 31, 3) := by decide +kernel
theorem dX4_init_60 : decode cX4_init 60 = .ok (.aload_n 0, 1) := by decide +kernel
theorem dX4_init_61 : decode cX4_init 61 = .ok (.getfield 21, 3) := by decide +kernel
theorem dX4_init_64 : decode cX4_init 64 = .ok (.iconst 1, 1) := by decide +kernel
theorem dX4_init_65 : decode cX4_init 65 = .ok (.invokestatic 31, 3) := by decide +kernel
theorem dX4_init_68 : decode cX4_init 68 = .ok (.return_, 1) := by decide +kernel
theorem dX4_states_0 : decode cX4_states 0 = .ok (.aload_n 0, 1) := by decide +kernel
theorem dX4_states_1 : decode cX4_states 1 = .ok (.getfield 24, 3) := by decide +kernel
theorem dX4_states_4 : decode cX4_states 4 = .ok (.ireturn, 1) := by decide +kernel
theorem dX4_letters_0 : decode cX4_letters 0 = .ok (.aload_n 0, 1) := by decide +kernel
theorem dX4_letters_1 : decode cX4_letters 1 = .ok (.getfield 28, 3) := by decide +kernel
theorem dX4_letters_4 : decode cX4_letters 4 = .ok (.ireturn, 1) := by decide +kernel
theorem dX4_hasState_0 : decode cX4_hasState 0 = .ok (.iload_n 1, 1) := by decide +kernel
theorem dX4_hasState_1 : decode cX4_hasState 1 = .ok (.ifCond .lt 21, 3) := by decide +kernel
theorem dX4_hasState_4 : decode cX4_hasState 4 = .ok (.iload_n 1, 1) := by decide +kernel
theorem dX4_hasState_5 : decode cX4_hasState 5 = .ok (.aload_n 0, 1) := by decide +kernel
theorem dX4_hasState_6 : decode cX4_hasState 6 = .ok (.getfield 24, 3) := by decide +kernel
theorem dX4_hasState_9 : decode cX4_hasState 9 = .ok (.if_icmp .ge 13, 3) := by decide +kernel
theorem dX4_hasState_12 : decode cX4_hasState 12 = .ok (.iload_n 1, 1) := by decide +kernel
theorem dX4_hasState_13 : decode cX4_hasState 13 = .ok (.bipush 12, 2) := by decide +kernel
theorem dX4_hasState_15 : decode cX4_hasState 15 = .ok (.if_icmp .ge 7, 3) := by decide +kernel
theorem dX4_hasState_18 : decode cX4_hasState 18 = .ok (.iconst 1, 1) := by decide +kernel
theorem dX4_hasState_19 : decode cX4_hasState 19 = .ok (.goto 4, 3) := by decide +kernel
theorem dX4_hasState_22 : decode cX4_hasState 22 = .ok (.iconst 0, 1) := by decide +kernel
theorem dX4_hasState_23 : decode cX4_hasState 23 = .ok (.ireturn, 1) := by decide +kernel
theorem dX4_hasLetter_0 : decode cX4_hasLetter 0 = .ok (.iload_n 1, 1) := by decide +kernel
theorem dX4_hasLetter_1 : decode cX4_hasLetter 1 = .ok (.ifCond .lt 20, 3) := by decide +kernel
theorem dX4_hasLetter_4 : decode cX4_hasLetter 4 = .ok (.iload_n 1, 1) := by decide +kernel
theorem dX4_hasLetter_5 : decode cX4_hasLetter 5 = .ok (.aload_n 0, 1) := by decide +kernel
theorem dX4_hasLetter_6 : decode cX4_hasLetter 6 = .ok (.getfield 28, 3) := by decide +kernel
theorem dX4_hasLetter_9 : decode cX4_hasLetter 9 = .ok (.if_icmp .ge 12, 3) := by decide +kernel
theorem dX4_hasLetter_12 : decode cX4_hasLetter 12 = .ok (.iload_n 1, 1) := by decide +kernel
theorem dX4_hasLetter_13 : decode cX4_hasLetter 13 = .ok (.iconst 4, 1) := by decide +kernel
theorem dX4_hasLetter_14 : decode cX4_hasLetter 14 = .ok (.if_icmp .ge 7, 3) := by decide +kernel
theorem dX4_hasLetter_17 : decode cX4_hasLetter 17 = .ok (.iconst 1, 1) := by decide +kernel
theorem dX4_hasLetter_18 : decode cX4_hasLetter 18 = .ok (.goto 4, 3) := by decide +kernel
theorem dX4_hasLetter_21 : decode cX4_hasLetter 21 = .ok (.iconst 0, 1) := by decide +kernel
theorem dX4_hasLetter_22 : decode cX4_hasLetter 22 = .ok (.ireturn, 1) := by decide +kernel
theorem dX4_hasSet_0 : decode cX4_hasSet 0 = .ok (.iload_n 1, 1) := by decide +kernel
theorem dX4_hasSet_1 : decode cX4_hasSet 1 = .ok (.ifCond .le 23, 3) := by decide +kernel
theorem dX4_hasSet_4 : decode cX4_hasSet 4 = .ok (.iload_n 1, 1) := by decide +kernel
theorem dX4_hasSet_5 : decode cX4_hasSet 5 = .ok (.sipush 4096, 3) := by decide +kernel
theorem dX4_hasSet_8 : decode cX4_hasSet 8 = .ok (.if_icmp .ge 16, 3) := by decide +kernel
theorem dX4_hasSet_11 : decode cX4_hasSet 11 = .ok (.iload_n 1, 1) := by decide +kernel
theorem dX4_hasSet_12 : decode cX4_hasSet 12 = .ok (.aload_n 0, 1) := by decide +kernel
theorem dX4_hasSet_13 : decode cX4_hasSet 13 = .ok (.getfield 24, 3) := by decide +kernel
theorem dX4_hasSet_16 : decode cX4_hasSet 16 = .ok (.ishr, 1) := by decide +kernel
theorem dX4_hasSet_17 : decode cX4_hasSet 17 = .ok (.ifCond .ne 7, 3) := by decide +kernel
theorem dX4_hasSet_20 : decode cX4_hasSet 20 = .ok (.iconst 1, 1) := by decide +kernel
theorem dX4_hasSet_21 : decode cX4_hasSet 21 = .ok (.goto 4, 3) := by decide +kernel
theorem dX4_hasSet_24 : decode cX4_hasSet 24 = .ok (.iconst 0, 1) := by decide +kernel
theorem dX4_hasSet_25 : decode cX4_hasSet 25 = .ok (.ireturn, 1) := by decide +kernel
theorem dX4_target_0 : decode cX4_target 0 = .ok (.iload_n 1, 1) := by decide +kernel
theorem dX4_target_1 : decode cX4_target 1 = .ok (.ifCond .lt 38, 3) := by decide +kernel
theorem dX4_target_4 : decode cX4_target 4 = .ok (.iload_n 1, 1) := by decide +kernel
theorem dX4_target_5 : decode cX4_target 5 = .ok (.aload_n 0, 1) := by decide +kernel
theorem dX4_target_6 : decode cX4_target 6 = .ok (.getfield 24, 3) := by decide +kernel
theorem dX4_target_9 : decode cX4_target 9 = .ok (.if_icmp .ge 30, 3) := by decide +kernel
theorem dX4_target_12 : decode cX4_target 12 = .ok (.iload_n 1, 1) := by decide +kernel
theorem dX4_target_13 : decode cX4_target 13 = .ok (.bipush 12, 2) := by decide +kernel
theorem dX4_target_15 : decode cX4_target 15 = .ok (.if_icmp .ge 24, 3) := by decide +kernel
theorem dX4_target_18 : decode cX4_target 18 = .ok (.iload_n 2, 1) := by decide +kernel
theorem dX4_target_19 : decode cX4_target 19 = .ok (.ifCond .lt 20, 3) := by decide +kernel
theorem dX4_target_22 : decode cX4_target 22 = .ok (.iload_n 2, 1) := by decide +kernel
theorem dX4_target_23 : decode cX4_target 23 = .ok (.aload_n 0, 1) := by decide +kernel
theorem dX4_target_24 : decode cX4_target 24 = .ok (.getfield 28, 3) := by decide +kernel
theorem dX4_target_27 : decode cX4_target 27 = .ok (.if_icmp .ge 12, 3) := by decide +kernel
theorem dX4_target_30 : decode cX4_target 30 = .ok (.iload_n 2, 1) := by decide +kernel
theorem dX4_target_31 : decode cX4_target 31 = .ok (.iconst 4, 1) := by decide +kernel
theorem dX4_target_32 : decode cX4_target 32 = .ok (.if_icmp .ge 7, 3) := by decide +kernel
theorem dX4_target_35 : decode cX4_target 35 = .ok (.iconst 1, 1) := by decide +kernel
theorem dX4_target_36 : decode cX4_target 36 = .ok (.goto 4, 3) := by decide +kernel
theorem dX4_target_39 : decode cX4_target 39 = .ok (.iconst 0, 1) := by decide +kernel
theorem dX4_target_40 : decode cX4_target 40 = .ok (.istore_n 3, 1) := by decide +kernel
theorem dX4_target_41 : decode cX4_target 41 = .ok (.iload_n 3, 1) := by decide +kernel
theorem dX4_target_42 : decode cX4_target 42 = .ok (.ifCond .eq 16, 3) := by decide +kernel
theorem dX4_target_45 : decode cX4_target 45 = .ok (.aload_n 0, 1) := by decide +kernel
theorem dX4_target_46 : decode cX4_target 46 = .ok (.getfield 9, 3) := by decide +kernel
theorem dX4_target_49 : decode cX4_target 49 = .ok (.iload_n 1, 1) := by decide +kernel
theorem dX4_target_50 : decode cX4_target 50 = .ok (.iconst 4, 1) := by decide +kernel
theorem dX4_target_51 : decode cX4_target 51 = .ok (.imul, 1) := by decide +kernel
theorem dX4_target_52 : decode cX4_target 52 = .ok (.iload_n 2, 1) := by decide +kernel
theorem dX4_target_53 : decode cX4_target 53 = .ok (.iadd, 1) := by decide +kernel
theorem dX4_target_54 : decode cX4_target 54 = .ok (.iaload, 1) := by decide +kernel
theorem dX4_target_55 : decode cX4_target 55 = .ok (.goto 4, 3) := by decide +kernel
theorem dX4_target_58 : decode cX4_target 58 = .ok (.iconst (-1), 1) := by decide +kernel
theorem dX4_target_59 : decode cX4_target 59 = .ok (.ireturn, 1) := by decide +kernel
set_option maxRecDepth 20000 in
theorem ggX4_lead_X4_hasState : GoodIn wsX4_lead wsX4_hasState := goodIn_r _ [6, 7, 13, 14, 15, 16, 17, 18] (by decide +kernel) (by decide +kernel)
set_option maxRecDepth 20000 in
theorem gX4_lead_X4_hasState : GoodIn wsX4_lead (wsV RX4 37 RX4 yX4_hasState wsX4_hasState) := goodIn_app (goodIn_of _ (by decide +kernel)) ggX4_lead_X4_hasState
set_option maxRecDepth 20000 in
theorem ggX4_lead_X4_hasLetter : GoodIn wsX4_lead wsX4_hasLetter := goodIn_r _ [11, 12, 13, 14, 15, 16, 17, 18] (by decide +kernel) (by decide +kernel)
set_option maxRecDepth 20000 in
theorem gX4_lead_X4_hasLetter : GoodIn wsX4_lead (wsV RX4 41 RX4 yX4_hasLetter wsX4_hasLetter) := goodIn_app (goodIn_of _ (by decide +kernel)) ggX4_lead_X4_hasLetter
theorem dX4_lead_0 : decode cX4_lead 0 = .ok (.aload_n 0, 1) := by decide +kernel
theorem dX4_lead_1 : decode cX4_lead 1 = .ok (.iload_n 1, 1) := by decide +kernel
theorem dX4_lead_2 : decode cX4_lead 2 = .ok (.invokevirtual 37, 3) := by decide +kernel
theorem dX4_lead_5 : decode cX4_lead 5 = .ok (.ifCond .eq 34, 3) := by decide +kernel
theorem dX4_lead_8 : decode cX4_lead 8 = .ok (.aload_n 0, 1) := by decide +kernel
theorem dX4_lead_9 : decode cX4_lead 9 = .ok (.iload_n 2, 1) := by decide +kernel
theorem dX4_lead_10 : decode cX4_lead 10 = .ok (.invokevirtual 41, 3) := by decide +kernel
theorem dX4_lead_13 : decode cX4_lead 13 = .ok (.ifCond .eq 26, 3) := by decide +kernel
theorem dX4_lead_16 : decode cX4_lead 16 = .ok (.aload_n 0, 1) := by decide +kernel
theorem dX4_lead_17 : decode cX4_lead 17 = .ok (.getfield 9, 3) := by decide +kernel
theorem dX4_lead_20 : decode cX4_lead 20 = .ok (.iload_n 1, 1) := by decide +kernel
theorem dX4_lead_21 : decode cX4_lead 21 = .ok (.iconst 4, 1) := by decide +kernel
theorem dX4_lead_22 : decode cX4_lead 22 = .ok (.imul, 1) := by decide +kernel
theorem dX4_lead_23 : decode cX4_lead 23 = .ok (.iload_n 2, 1) := by decide +kernel
theorem dX4_lead_24 : decode cX4_lead 24 = .ok (.iadd, 1) := by decide +kernel
theorem dX4_lead_25 : decode cX4_lead 25 = .ok (.aload_n 0, 1) := by decide +kernel
theorem dX4_lead_26 : decode cX4_lead 26 = .ok (.iload_n 3, 1) := by decide +kernel
theorem dX4_lead_27 : decode cX4_lead 27 = .ok (.invokevirtual 37, 3) := by decide +kernel
theorem dX4_lead_30 : decode cX4_lead 30 = .ok (.ifCond .eq 7, 3) := by decide +kernel
theorem dX4_lead_33 : decode cX4_lead 33 = .ok (.iload_n 3, 1) := by decide +kernel
theorem dX4_lead_34 : decode cX4_lead 34 = .ok (.goto 4, 3) := by decide +kernel
theorem dX4_lead_37 : decode cX4_lead 37 = .ok (.iconst (-1), 1) := by decide +kernel
theorem dX4_lead_38 : decode cX4_lead 38 = .ok (.iastore, 1) := by decide +kernel
theorem dX4_lead_39 : decode cX4_lead 39 = .ok (.return_, 1) := by decide +kernel
set_option maxRecDepth 20000 in
theorem ggX4_lightOf_X4_hasState : GoodIn wsX4_lightOf wsX4_hasState := goodIn_r _ [6, 7, 8, 9, 10, 11, 12, 13] (by decide +kernel) (by decide +kernel)
set_option maxRecDepth 20000 in
theorem gX4_lightOf_X4_hasState : GoodIn wsX4_lightOf (wsV RX4 37 RX4 yX4_hasState wsX4_hasState) := goodIn_app (goodIn_of _ (by decide +kernel)) ggX4_lightOf_X4_hasState
theorem dX4_lightOf_0 : decode cX4_lightOf 0 = .ok (.aload_n 0, 1) := by decide +kernel
theorem dX4_lightOf_1 : decode cX4_lightOf 1 = .ok (.iload_n 1, 1) := by decide +kernel
theorem dX4_lightOf_2 : decode cX4_lightOf 2 = .ok (.invokevirtual 37, 3) := by decide +kernel
theorem dX4_lightOf_5 : decode cX4_lightOf 5 = .ok (.ifCond .eq 12, 3) := by decide +kernel
theorem dX4_lightOf_8 : decode cX4_lightOf 8 = .ok (.aload_n 0, 1) := by decide +kernel
theorem dX4_lightOf_9 : decode cX4_lightOf 9 = .ok (.getfield 15, 3) := by decide +kernel
theorem dX4_lightOf_12 : decode cX4_lightOf 12 = .ok (.iload_n 1, 1) := by decide +kernel
theorem dX4_lightOf_13 : decode cX4_lightOf 13 = .ok (.iaload, 1) := by decide +kernel
theorem dX4_lightOf_14 : decode cX4_lightOf 14 = .ok (.goto 4, 3) := by decide +kernel
theorem dX4_lightOf_17 : decode cX4_lightOf 17 = .ok (.iconst 0, 1) := by decide +kernel
theorem dX4_lightOf_18 : decode cX4_lightOf 18 = .ok (.ireturn, 1) := by decide +kernel
set_option maxRecDepth 20000 in
theorem ggX4_priceOf_X4_hasLetter : GoodIn wsX4_priceOf wsX4_hasLetter := goodIn_r _ [6, 7, 8, 9, 10, 11, 12, 13] (by decide +kernel) (by decide +kernel)
set_option maxRecDepth 20000 in
theorem gX4_priceOf_X4_hasLetter : GoodIn wsX4_priceOf (wsV RX4 41 RX4 yX4_hasLetter wsX4_hasLetter) := goodIn_app (goodIn_of _ (by decide +kernel)) ggX4_priceOf_X4_hasLetter
theorem dX4_priceOf_0 : decode cX4_priceOf 0 = .ok (.aload_n 0, 1) := by decide +kernel
theorem dX4_priceOf_1 : decode cX4_priceOf 1 = .ok (.iload_n 1, 1) := by decide +kernel
theorem dX4_priceOf_2 : decode cX4_priceOf 2 = .ok (.invokevirtual 41, 3) := by decide +kernel
theorem dX4_priceOf_5 : decode cX4_priceOf 5 = .ok (.ifCond .eq 12, 3) := by decide +kernel
theorem dX4_priceOf_8 : decode cX4_priceOf 8 = .ok (.aload_n 0, 1) := by decide +kernel
theorem dX4_priceOf_9 : decode cX4_priceOf 9 = .ok (.getfield 18, 3) := by decide +kernel
theorem dX4_priceOf_12 : decode cX4_priceOf 12 = .ok (.iload_n 1, 1) := by decide +kernel
theorem dX4_priceOf_13 : decode cX4_priceOf 13 = .ok (.iaload, 1) := by decide +kernel
theorem dX4_priceOf_14 : decode cX4_priceOf 14 = .ok (.goto 4, 3) := by decide +kernel
theorem dX4_priceOf_17 : decode cX4_priceOf 17 = .ok (.iconst 1, 1) := by decide +kernel
theorem dX4_priceOf_18 : decode cX4_priceOf 18 = .ok (.ireturn, 1) := by decide +kernel
set_option maxRecDepth 20000 in
theorem ggX4_shareOf_X4_hasLetter : GoodIn wsX4_shareOf wsX4_hasLetter := goodIn_r _ [6, 7, 8, 9, 10, 11, 12, 13] (by decide +kernel) (by decide +kernel)
set_option maxRecDepth 20000 in
theorem gX4_shareOf_X4_hasLetter : GoodIn wsX4_shareOf (wsV RX4 41 RX4 yX4_hasLetter wsX4_hasLetter) := goodIn_app (goodIn_of _ (by decide +kernel)) ggX4_shareOf_X4_hasLetter
theorem dX4_shareOf_0 : decode cX4_shareOf 0 = .ok (.aload_n 0, 1) := by decide +kernel
theorem dX4_shareOf_1 : decode cX4_shareOf 1 = .ok (.iload_n 1, 1) := by decide +kernel
theorem dX4_shareOf_2 : decode cX4_shareOf 2 = .ok (.invokevirtual 41, 3) := by decide +kernel
theorem dX4_shareOf_5 : decode cX4_shareOf 5 = .ok (.ifCond .eq 12, 3) := by decide +kernel
theorem dX4_shareOf_8 : decode cX4_shareOf 8 = .ok (.aload_n 0, 1) := by decide +kernel
theorem dX4_shareOf_9 : decode cX4_shareOf 9 = .ok (.getfield 21, 3) := by decide +kernel
theorem dX4_shareOf_12 : decode cX4_shareOf 12 = .ok (.iload_n 1, 1) := by decide +kernel
theorem dX4_shareOf_13 : decode cX4_shareOf 13 = .ok (.iaload, 1) := by decide +kernel
theorem dX4_shareOf_14 : decode cX4_shareOf 14 = .ok (.goto 4, 3) := by decide +kernel
theorem dX4_shareOf_17 : decode cX4_shareOf 17 = .ok (.iconst 0, 1) := by decide +kernel
theorem dX4_shareOf_18 : decode cX4_shareOf 18 = .ok (.ireturn, 1) := by decide +kernel
set_option maxRecDepth 20000 in
theorem ggX4_putLight_X4_lightOf : GoodIn wsX4_putLight wsX4_lightOf := goodIn_r _ [6, 1, 7, 8, 9, 5, 10, 11, 12, 13, 14, 15, 16, 17] (by decide +kernel) (by decide +kernel)
set_option maxRecDepth 20000 in
theorem gX4_putLight_X4_lightOf : GoodIn wsX4_putLight (wsV RX4 44 RX4 yX4_lightOf wsX4_lightOf) := goodIn_app (goodIn_of _ (by decide +kernel)) ggX4_putLight_X4_lightOf
set_option maxRecDepth 20000 in
theorem ggX4_putLight_X4_hasState : GoodIn wsX4_putLight wsX4_hasState := goodIn_r _ [10, 11, 12, 13, 14, 15, 16, 17] (by decide +kernel) (by decide +kernel)
set_option maxRecDepth 20000 in
theorem gX4_putLight_X4_hasState : GoodIn wsX4_putLight (wsV RX4 37 RX4 yX4_hasState wsX4_hasState) := goodIn_app (goodIn_of _ (by decide +kernel)) ggX4_putLight_X4_hasState
theorem dX4_putLight_0 : decode cX4_putLight 0 = .ok (.aload_n 0, 1) := by decide +kernel
theorem dX4_putLight_1 : decode cX4_putLight 1 = .ok (.iload_n 1, 1) := by decide +kernel
theorem dX4_putLight_2 : decode cX4_putLight 2 = .ok (.invokevirtual 44, 3) := by decide +kernel
theorem dX4_putLight_5 : decode cX4_putLight 5 = .ok (.istore_n 3, 1) := by decide +kernel
theorem dX4_putLight_6 : decode cX4_putLight 6 = .ok (.aload_n 0, 1) := by decide +kernel
theorem dX4_putLight_7 : decode cX4_putLight 7 = .ok (.iload_n 1, 1) := by decide +kernel
theorem dX4_putLight_8 : decode cX4_putLight 8 = .ok (.invokevirtual 37, 3) := by decide +kernel
theorem dX4_putLight_11 : decode cX4_putLight 11 = .ok (.ifCond .eq 10, 3) := by decide +kernel
theorem dX4_putLight_14 : decode cX4_putLight 14 = .ok (.aload_n 0, 1) := by decide +kernel
theorem dX4_putLight_15 : decode cX4_putLight 15 = .ok (.getfield 15, 3) := by decide +kernel
theorem dX4_putLight_18 : decode cX4_putLight 18 = .ok (.iload_n 1, 1) := by decide +kernel
theorem dX4_putLight_19 : decode cX4_putLight 19 = .ok (.iload_n 2, 1) := by decide +kernel
theorem dX4_putLight_20 : decode cX4_putLight 20 = .ok (.iastore, 1) := by decide +kernel
theorem dX4_putLight_21 : decode cX4_putLight 21 = .ok (.iload_n 3, 1) := by decide +kernel
theorem dX4_putLight_22 : decode cX4_putLight 22 = .ok (.ireturn, 1) := by decide +kernel
set_option maxRecDepth 20000 in
theorem ggX4_putPrice_X4_priceOf : GoodIn wsX4_putPrice wsX4_priceOf := goodIn_r _ [6, 1, 7, 8, 9, 5, 10, 11, 12, 13, 14, 15, 16, 17] (by decide +kernel) (by decide +kernel)
set_option maxRecDepth 20000 in
theorem gX4_putPrice_X4_priceOf : GoodIn wsX4_putPrice (wsV RX4 48 RX4 yX4_priceOf wsX4_priceOf) := goodIn_app (goodIn_of _ (by decide +kernel)) ggX4_putPrice_X4_priceOf
set_option maxRecDepth 20000 in
theorem ggX4_putPrice_X4_hasLetter : GoodIn wsX4_putPrice wsX4_hasLetter := goodIn_r _ [10, 11, 12, 13, 14, 15, 16, 17] (by decide +kernel) (by decide +kernel)
set_option maxRecDepth 20000 in
theorem gX4_putPrice_X4_hasLetter : GoodIn wsX4_putPrice (wsV RX4 41 RX4 yX4_hasLetter wsX4_hasLetter) := goodIn_app (goodIn_of _ (by decide +kernel)) ggX4_putPrice_X4_hasLetter
theorem dX4_putPrice_0 : decode cX4_putPrice 0 = .ok (.aload_n 0, 1) := by decide +kernel
theorem dX4_putPrice_1 : decode cX4_putPrice 1 = .ok (.iload_n 1, 1) := by decide +kernel
theorem dX4_putPrice_2 : decode cX4_putPrice 2 = .ok (.invokevirtual 48, 3) := by decide +kernel
theorem dX4_putPrice_5 : decode cX4_putPrice 5 = .ok (.istore_n 3, 1) := by decide +kernel
theorem dX4_putPrice_6 : decode cX4_putPrice 6 = .ok (.aload_n 0, 1) := by decide +kernel
theorem dX4_putPrice_7 : decode cX4_putPrice 7 = .ok (.iload_n 1, 1) := by decide +kernel
theorem dX4_putPrice_8 : decode cX4_putPrice 8 = .ok (.invokevirtual 41, 3) := by decide +kernel
theorem dX4_putPrice_11 : decode cX4_putPrice 11 = .ok (.ifCond .eq 10, 3) := by decide +kernel
theorem dX4_putPrice_14 : decode cX4_putPrice 14 = .ok (.aload_n 0, 1) := by decide +kernel
theorem dX4_putPrice_15 : decode cX4_putPrice 15 = .ok (.getfield 18, 3) := by decide +kernel
theorem dX4_putPrice_18 : decode cX4_putPrice 18 = .ok (.iload_n 1, 1) := by decide +kernel
theorem dX4_putPrice_19 : decode cX4_putPrice 19 = .ok (.iload_n 2, 1) := by decide +kernel
theorem dX4_putPrice_20 : decode cX4_putPrice 20 = .ok (.iastore, 1) := by decide +kernel
theorem dX4_putPrice_21 : decode cX4_putPrice 21 = .ok (.iload_n 3, 1) := by decide +kernel
theorem dX4_putPrice_22 : decode cX4_putPrice 22 = .ok (.ireturn, 1) := by decide +kernel
set_option maxRecDepth 20000 in
theorem ggX4_putShare_X4_shareOf : GoodIn wsX4_putShare wsX4_shareOf := goodIn_r _ [6, 1, 7, 8, 9, 5, 10, 11, 12, 13, 14, 15, 16, 17] (by decide +kernel) (by decide +kernel)
set_option maxRecDepth 20000 in
theorem gX4_putShare_X4_shareOf : GoodIn wsX4_putShare (wsV RX4 51 RX4 yX4_shareOf wsX4_shareOf) := goodIn_app (goodIn_of _ (by decide +kernel)) ggX4_putShare_X4_shareOf
set_option maxRecDepth 20000 in
theorem ggX4_putShare_X4_hasLetter : GoodIn wsX4_putShare wsX4_hasLetter := goodIn_r _ [10, 11, 12, 13, 14, 15, 16, 17] (by decide +kernel) (by decide +kernel)
set_option maxRecDepth 20000 in
theorem gX4_putShare_X4_hasLetter : GoodIn wsX4_putShare (wsV RX4 41 RX4 yX4_hasLetter wsX4_hasLetter) := goodIn_app (goodIn_of _ (by decide +kernel)) ggX4_putShare_X4_hasLetter
theorem dX4_putShare_0 : decode cX4_putShare 0 = .ok (.aload_n 0, 1) := by decide +kernel
theorem dX4_putShare_1 : decode cX4_putShare 1 = .ok (.iload_n 1, 1) := by decide +kernel
theorem dX4_putShare_2 : decode cX4_putShare 2 = .ok (.invokevirtual 51, 3) := by decide +kernel
theorem dX4_putShare_5 : decode cX4_putShare 5 = .ok (.istore_n 3, 1) := by decide +kernel
theorem dX4_putShare_6 : decode cX4_putShare 6 = .ok (.aload_n 0, 1) := by decide +kernel
theorem dX4_putShare_7 : decode cX4_putShare 7 = .ok (.iload_n 1, 1) := by decide +kernel
theorem dX4_putShare_8 : decode cX4_putShare 8 = .ok (.invokevirtual 41, 3) := by decide +kernel
theorem dX4_putShare_11 : decode cX4_putShare 11 = .ok (.ifCond .eq 10, 3) := by decide +kernel
theorem dX4_putShare_14 : decode cX4_putShare 14 = .ok (.aload_n 0, 1) := by decide +kernel
theorem dX4_putShare_15 : decode cX4_putShare 15 = .ok (.getfield 21, 3) := by decide +kernel
theorem dX4_putShare_18 : decode cX4_putShare 18 = .ok (.iload_n 1, 1) := by decide +kernel
theorem dX4_putShare_19 : decode cX4_putShare 19 = .ok (.iload_n 2, 1) := by decide +kernel
theorem dX4_putShare_20 : decode cX4_putShare 20 = .ok (.iastore, 1) := by decide +kernel
theorem dX4_putShare_21 : decode cX4_putShare 21 = .ok (.iload_n 3, 1) := by decide +kernel
theorem dX4_putShare_22 : decode cX4_putShare 22 = .ok (.ireturn, 1) := by decide +kernel
set_option maxRecDepth 20000 in
theorem ggX4_isWhole_X4_target : GoodIn wsX4_isWhole wsX4_target := goodIn_r _ [7, 1, 2, 8, 9, 10, 11, 12, 13, 14] (by decide +kernel) (by decide +kernel)
set_option maxRecDepth 20000 in
theorem gX4_isWhole_X4_target : GoodIn wsX4_isWhole (wsV RX4 54 RX4 yX4_target wsX4_target) := goodIn_app (goodIn_of _ (by decide +kernel)) ggX4_isWhole_X4_target
theorem dX4_isWhole_0 : decode cX4_isWhole 0 = .ok (.iconst 0, 1) := by decide +kernel
theorem dX4_isWhole_1 : decode cX4_isWhole 1 = .ok (.istore_n 1, 1) := by decide +kernel
theorem dX4_isWhole_2 : decode cX4_isWhole 2 = .ok (.iload_n 1, 1) := by decide +kernel
theorem dX4_isWhole_3 : decode cX4_isWhole 3 = .ok (.aload_n 0, 1) := by decide +kernel
theorem dX4_isWhole_4 : decode cX4_isWhole 4 = .ok (.getfield 24, 3) := by decide +kernel
theorem dX4_isWhole_7 : decode cX4_isWhole 7 = .ok (.if_icmp .ge 37, 3) := by decide +kernel
theorem dX4_isWhole_10 : decode cX4_isWhole 10 = .ok (.iconst 0, 1) := by decide +kernel
theorem dX4_isWhole_11 : decode cX4_isWhole 11 = .ok (.istore_n 2, 1) := by decide +kernel
theorem dX4_isWhole_12 : decode cX4_isWhole 12 = .ok (.iload_n 2, 1) := by decide +kernel
theorem dX4_isWhole_13 : decode cX4_isWhole 13 = .ok (.aload_n 0, 1) := by decide +kernel
theorem dX4_isWhole_14 : decode cX4_isWhole 14 = .ok (.getfield 28, 3) := by decide +kernel
theorem dX4_isWhole_17 : decode cX4_isWhole 17 = .ok (.if_icmp .ge 21, 3) := by decide +kernel
theorem dX4_isWhole_20 : decode cX4_isWhole 20 = .ok (.aload_n 0, 1) := by decide +kernel
theorem dX4_isWhole_21 : decode cX4_isWhole 21 = .ok (.iload_n 1, 1) := by decide +kernel
theorem dX4_isWhole_22 : decode cX4_isWhole 22 = .ok (.iload_n 2, 1) := by decide +kernel
theorem dX4_isWhole_23 : decode cX4_isWhole 23 = .ok (.invokevirtual 54, 3) := by decide +kernel
theorem dX4_isWhole_26 : decode cX4_isWhole 26 = .ok (.iconst (-1), 1) := by decide +kernel
theorem dX4_isWhole_27 : decode cX4_isWhole 27 = .ok (.if_icmp .ne 5, 3) := by decide +kernel
theorem dX4_isWhole_30 : decode cX4_isWhole 30 = .ok (.iconst 0, 1) := by decide +kernel
theorem dX4_isWhole_31 : decode cX4_isWhole 31 = .ok (.ireturn, 1) := by decide +kernel
theorem dX4_isWhole_32 : decode cX4_isWhole 32 = .ok (.iinc 2 1, 3) := by decide +kernel
theorem dX4_isWhole_35 : decode cX4_isWhole 35 = .ok (.goto (-23), 3) := by decide +kernel
theorem dX4_isWhole_38 : decode cX4_isWhole 38 = .ok (.iinc 1 1, 3) := by decide +kernel
theorem dX4_isWhole_41 : decode cX4_isWhole 41 = .ok (.goto (-39), 3) := by decide +kernel
theorem dX4_isWhole_44 : decode cX4_isWhole 44 = .ok (.iconst 1, 1) := by decide +kernel
theorem dX4_isWhole_45 : decode cX4_isWhole 45 = .ok (.ireturn, 1) := by decide +kernel
theorem dX5_init_0 : decode cX5_init 0 = .ok (.aload_n 0, 1) := by decide +kernel
theorem dX5_init_1 : decode cX5_init 1 = .ok (.invokespecial 3, 3) := by decide +kernel
theorem dX5_init_4 : decode cX5_init 4 = .ok (.aload_n 0, 1) := by decide +kernel
theorem dX5_init_5 : decode cX5_init 5 = .ok (.sipush 144, 3) := by decide +kernel
theorem dX5_init_8 : decode cX5_init 8 = .ok (.newarray .int, 2) := by decide +kernel
theorem dX5_init_10 : decode cX5_init 10 = .ok (.putfield 9, 3) := by decide +kernel
theorem dX5_init_13 : decode cX5_init 13 = .ok (.aload_n 0, 1) := by decide +kernel
theorem dX5_init_14 : decode cX5_init 14 = .ok (.sipush 144, 3) := by decide +kernel
theorem dX5_init_17 : decode cX5_init 17 = .ok (.newarray .int, 2) := by decide +kernel
theorem dX5_init_19 : decode cX5_init 19 = .ok (.putfield 15, 3) := by decide +kernel
theorem dX5_init_22 : decode cX5_init 22 = .ok (.return_, 1) := by decide +kernel
set_option maxRecDepth 20000 in
theorem ggX5_load_J7_fill_53178 : GoodIn wsX5_load wsJ7_fill_53178 := goodIn_r _ [6] (by decide +kernel) (by decide +kernel)
set_option maxRecDepth 20000 in
theorem gX5_load_J7_fill_53178 : GoodIn wsX5_load (va_wsS RX5 18 yJ7_fill_53178 wsJ7_fill_53178) := goodIn_app (goodIn_of _ (by decide +kernel)) ggX5_load_J7_fill_53178
set_option maxRecDepth 20000 in
theorem ggX5_load_X4_states : GoodIn wsX5_load wsX4_states := goodIn_r _ [11, 12, 43, 44, 45, 46, 47, 48] (by decide +kernel) (by decide +kernel)
set_option maxRecDepth 20000 in
theorem gX5_load_X4_states : GoodIn wsX5_load (wsV RX5 24 RX4 yX4_states wsX4_states) := goodIn_app (goodIn_of _ (by decide +kernel)) ggX5_load_X4_states
set_option maxRecDepth 20000 in
theorem ggX5_load_X5_setLength : GoodIn wsX5_load wsX5_setLength := goodIn_r _ [17, 1, 40, 41, 42] (by decide +kernel) (by decide +kernel)
set_option maxRecDepth 20000 in
theorem gX5_load_X5_setLength : GoodIn wsX5_load (wsV RX5 30 RX5 yX5_setLength wsX5_setLength) := goodIn_app (goodIn_of _ (by decide +kernel)) ggX5_load_X5_setLength
set_option maxRecDepth 20000 in
theorem ggX5_load_X5_findOf : GoodIn wsX5_load wsX5_findOf := goodIn_r _ [21, 2, 7, 8, 9, 10, 11, 12, 22, 23, 24, 16, 25, 1, 26, 27, 28, 29, 30, 31, 32, 33, 34, 35, 36, 37, 38, 39, 13, 14, 15, 17, 40, 41, 42, 43, 44, 45, 46, 47, 48] (by decide +kernel) (by decide +kernel)
set_option maxRecDepth 20000 in
theorem gX5_load_X5_findOf : GoodIn wsX5_load (wsV RX5 38 RX5 yX5_findOf wsX5_findOf) := goodIn_app (goodIn_of _ (by decide +kernel)) ggX5_load_X5_findOf
theorem dX5_load_0 : decode cX5_load 0 = .ok (.aload_n 0, 1) := by decide +kernel
theorem dX5_load_1 : decode cX5_load 1 = .ok (.getfield 9, 3) := by decide +kernel
theorem dX5_load_4 : decode cX5_load 4 = .ok (.iconst (-1), 1) := by decide +kernel
theorem dX5_load_5 : decode cX5_load 5 = .ok (.invokestatic 18, 3) := by decide +kernel
theorem dX5_load_8 : decode cX5_load 8 = .ok (.iconst 0, 1) := by decide +kernel
theorem dX5_load_9 : decode cX5_load 9 = .ok (.istore_n 2, 1) := by decide +kernel
theorem dX5_load_10 : decode cX5_load 10 = .ok (.iload_n 2, 1) := by decide +kernel
theorem dX5_load_11 : decode cX5_load 11 = .ok (.aload_n 1, 1) := by decide +kernel
theorem dX5_load_12 : decode cX5_load 12 = .ok (.invokevirtual 24, 3) := by decide +kernel
theorem dX5_load_15 : decode cX5_load 15 = .ok (.if_icmp .ge 16, 3) := by decide +kernel
theorem dX5_load_18 : decode cX5_load 18 = .ok (.aload_n 0, 1) := by decide +kernel
theorem dX5_load_19 : decode cX5_load 19 = .ok (.iload_n 2, 1) := by decide +kernel
theorem dX5_load_20 : decode cX5_load 20 = .ok (.iload_n 2, 1) := by decide +kernel
theorem dX5_load_21 : decode cX5_load 21 = .ok (.iconst 0, 1) := by decide +kernel
theorem dX5_load_22 : decode cX5_load 22 = .ok (.invokevirtual 30, 3) := by decide +kernel
theorem dX5_load_25 : decode cX5_load 25 = .ok (.iinc 2 1, 3) := by decide +kernel
theorem dX5_load_28 : decode cX5_load 28 = .ok (.goto (-18), 3) := by decide +kernel
theorem dX5_load_31 : decode cX5_load 31 = .ok (.aload_n 0, 1) := by decide +kernel
theorem dX5_load_32 : decode cX5_load 32 = .ok (.aload_n 1, 1) := by decide +kernel
theorem dX5_load_33 : decode cX5_load 33 = .ok (.invokevirtual 24, 3) := by decide +kernel
theorem dX5_load_36 : decode cX5_load 36 = .ok (.aload_n 1, 1) := by decide +kernel
theorem dX5_load_37 : decode cX5_load 37 = .ok (.invokevirtual 24, 3) := by decide +kernel
theorem dX5_load_40 : decode cX5_load 40 = .ok (.iconst 1, 1) := by decide +kernel
theorem dX5_load_41 : decode cX5_load 41 = .ok (.isub, 1) := by decide +kernel
theorem dX5_load_42 : decode cX5_load 42 = .ok (.imul, 1) := by decide +kernel
theorem dX5_load_43 : decode cX5_load 43 = .ok (.iconst 2, 1) := by decide +kernel
theorem dX5_load_44 : decode cX5_load 44 = .ok (.idiv, 1) := by decide +kernel
theorem dX5_load_45 : decode cX5_load 45 = .ok (.putfield 34, 3) := by decide +kernel
theorem dX5_load_48 : decode cX5_load 48 = .ok (.iconst 1, 1) := by decide +kernel
theorem dX5_load_49 : decode cX5_load 49 = .ok (.istore_n 2, 1) := by decide +kernel
theorem dX5_load_50 : decode cX5_load 50 = .ok (.iconst 1, 1) := by decide +kernel
theorem dX5_load_51 : decode cX5_load 51 = .ok (.istore_n 3, 1) := by decide +kernel
theorem dX5_load_52 : decode cX5_load 52 = .ok (.iload_n 3, 1) := by decide +kernel
theorem dX5_load_53 : decode cX5_load 53 = .ok (.sipush 144, 3) := by decide +kernel
theorem dX5_load_56 : decode cX5_load 56 = .ok (.if_icmp .gt 20, 3) := by decide +kernel
theorem dX5_load_59 : decode cX5_load 59 = .ok (.iload_n 2, 1) := by decide +kernel
theorem dX5_load_60 : decode cX5_load 60 = .ok (.ifCond .eq 16, 3) := by decide +kernel
theorem dX5_load_63 : decode cX5_load 63 = .ok (.aload_n 0, 1) := by decide +kernel
theorem dX5_load_64 : decode cX5_load 64 = .ok (.aload_n 1, 1) := by decide +kernel
theorem dX5_load_65 : decode cX5_load 65 = .ok (.iload_n 3, 1) := by decide +kernel
theorem dX5_load_66 : decode cX5_load 66 = .ok (.invokevirtual 38, 3) := by decide +kernel
theorem dX5_load_69 : decode cX5_load 69 = .ok (.istore_n 2, 1) := by decide +kernel
theorem dX5_load_70 : decode cX5_load 70 = .ok (.iinc 3 1, 3) := by decide +kernel
theorem dX5_load_73 : decode cX5_load 73 = .ok (.goto (-21), 3) := by decide +kernel
theorem dX5_load_76 : decode cX5_load 76 = .ok (.return_, 1) := by decide +kernel
set_option maxRecDepth 20000 in
theorem ggX5_findOf_X4_states : GoodIn wsX5_findOf wsX4_states := goodIn_r _ [6, 7, 35, 36, 37, 38, 39, 40] (by decide +kernel) (by decide +kernel)
set_option maxRecDepth 20000 in
theorem gX5_findOf_X4_states : GoodIn wsX5_findOf (wsV RX5 24 RX4 yX4_states wsX4_states) := goodIn_app (goodIn_of _ (by decide +kernel)) ggX5_findOf_X4_states
set_option maxRecDepth 20000 in
theorem ggX5_findOf_X5_lengthOf : GoodIn wsX5_findOf wsX5_lengthOf := goodIn_r _ [12, 13, 32, 33, 34] (by decide +kernel) (by decide +kernel)
set_option maxRecDepth 20000 in
theorem gX5_findOf_X5_lengthOf : GoodIn wsX5_findOf (wsV RX5 42 RX5 yX5_lengthOf wsX5_lengthOf) := goodIn_app (goodIn_of _ (by decide +kernel)) ggX5_findOf_X5_lengthOf
set_option maxRecDepth 20000 in
theorem ggX5_findOf_X5_firstLetter : GoodIn wsX5_findOf wsX5_firstLetter := goodIn_r _ [17, 18, 19, 20, 5, 21, 22, 23, 24, 25, 26, 7, 27, 8, 9, 10, 11, 12, 13, 35, 36, 37, 38, 39, 40, 32, 33, 34] (by decide +kernel) (by decide +kernel)
set_option maxRecDepth 20000 in
theorem gX5_findOf_X5_firstLetter : GoodIn wsX5_findOf (wsV RX5 46 RX5 yX5_firstLetter wsX5_firstLetter) := goodIn_app (goodIn_of _ (by decide +kernel)) ggX5_findOf_X5_firstLetter
set_option maxRecDepth 20000 in
theorem ggX5_findOf_X5_setLength : GoodIn wsX5_findOf wsX5_setLength := goodIn_r _ [31, 13, 32, 33, 34] (by decide +kernel) (by decide +kernel)
set_option maxRecDepth 20000 in
theorem gX5_findOf_X5_setLength : GoodIn wsX5_findOf (wsV RX5 30 RX5 yX5_setLength wsX5_setLength) := goodIn_app (goodIn_of _ (by decide +kernel)) ggX5_findOf_X5_setLength
theorem dX5_findOf_0 : decode cX5_findOf 0 = .ok (.iconst 0, 1) := by decide +kernel
theorem dX5_findOf_1 : decode cX5_findOf 1 = .ok (.istore_n 3, 1) := by decide +kernel
theorem dX5_findOf_2 : decode cX5_findOf 2 = .ok (.iconst 0, 1) := by decide +kernel
theorem dX5_findOf_3 : decode cX5_findOf 3 = .ok (.istore 4, 2) := by decide +kernel
theorem dX5_findOf_5 : decode cX5_findOf 5 = .ok (.iload 4, 2) := by decide +kernel
theorem dX5_findOf_7 : decode cX5_findOf 7 = .ok (.aload_n 1, 1) := by decide +kernel
theorem dX5_findOf_8 : decode cX5_findOf 8 = .ok (.invokevirtual 24, 3) := by decide +kernel
theorem dX5_findOf_11 : decode cX5_findOf 11 = .ok (.if_icmp .ge 86, 3) := by decide +kernel
theorem dX5_findOf_14 : decode cX5_findOf 14 = .ok (.iload 4, 2) := by decide +kernel
theorem dX5_findOf_16 : decode cX5_findOf 16 = .ok (.iconst 1, 1) := by decide +kernel
theorem dX5_findOf_17 : decode cX5_findOf 17 = .ok (.iadd, 1) := by decide +kernel
theorem dX5_findOf_18 : decode cX5_findOf 18 = .ok (.istore 5, 2) := by decide +kernel
theorem dX5_findOf_20 : decode cX5_findOf 20 = .ok (.iload 5, 2) := by decide +kernel
theorem dX5_findOf_22 : decode cX5_findOf 22 = .ok (.aload_n 1, 1) := by decide +kernel
theorem dX5_findOf_23 : decode cX5_findOf 23 = .ok (.invokevirtual 24, 3) := by decide +kernel
theorem dX5_findOf_26 : decode cX5_findOf 26 = .ok (.if_icmp .ge 65, 3) := by decide +kernel
theorem dX5_findOf_29 : decode cX5_findOf 29 = .ok (.aload_n 0, 1) := by decide +kernel
theorem dX5_findOf_30 : decode cX5_findOf 30 = .ok (.iload 4, 2) := by decide +kernel
theorem dX5_findOf_32 : decode cX5_findOf 32 = .ok (.iload 5, 2) := by decide +kernel
theorem dX5_findOf_34 : decode cX5_findOf 34 = .ok (.invokevirtual 42, 3) := by decide +kernel
theorem dX5_findOf_37 : decode cX5_findOf 37 = .ok (.iconst (-1), 1) := by decide +kernel
theorem dX5_findOf_38 : decode cX5_findOf 38 = .ok (.if_icmp .ne 47, 3) := by decide +kernel
theorem dX5_findOf_41 : decode cX5_findOf 41 = .ok (.aload_n 0, 1) := by decide +kernel
theorem dX5_findOf_42 : decode cX5_findOf 42 = .ok (.aload_n 1, 1) := by decide +kernel
theorem dX5_findOf_43 : decode cX5_findOf 43 = .ok (.iload 4, 2) := by decide +kernel
theorem dX5_findOf_45 : decode cX5_findOf 45 = .ok (.iload 5, 2) := by decide +kernel
theorem dX5_findOf_47 : decode cX5_findOf 47 = .ok (.iload_n 2, 1) := by decide +kernel
theorem dX5_findOf_48 : decode cX5_findOf 48 = .ok (.invokevirtual 46, 3) := by decide +kernel
theorem dX5_findOf_51 : decode cX5_findOf 51 = .ok (.iconst (-1), 1) := by decide +kernel
theorem dX5_findOf_52 : decode cX5_findOf 52 = .ok (.if_icmp .eq 33, 3) := by decide +kernel
theorem dX5_findOf_55 : decode cX5_findOf 55 = .ok (.aload_n 0, 1) := by decide +kernel
theorem dX5_findOf_56 : decode cX5_findOf 56 = .ok (.iload 4, 2) := by decide +kernel
theorem dX5_findOf_58 : decode cX5_findOf 58 = .ok (.iload 5, 2) := by decide +kernel
theorem dX5_findOf_60 : decode cX5_findOf 60 = .ok (.iload_n 2, 1) := by decide +kernel
theorem dX5_findOf_61 : decode cX5_findOf 61 = .ok (.invokevirtual 30, 3) := by decide +kernel
theorem dX5_findOf_64 : decode cX5_findOf 64 = .ok (.aload_n 0, 1) := by decide +kernel
theorem dX5_findOf_65 : decode cX5_findOf 65 = .ok (.iload 5, 2) := by decide +kernel
theorem dX5_findOf_67 : decode cX5_findOf 67 = .ok (.iload 4, 2) := by decide +kernel
theorem dX5_findOf_69 : decode cX5_findOf 69 = .ok (.iload_n 2, 1) := by decide +kernel
theorem dX5_findOf_70 : decode cX5_findOf 70 = .ok (.invokevirtual 30, 3) := by decide +kernel
theorem dX5_findOf_73 : decode cX5_findOf 73 = .ok (.aload_n 0, 1) := by decide +kernel
theorem dX5_findOf_74 : decode cX5_findOf 74 = .ok (.dup, 1) := by decide +kernel
theorem dX5_findOf_75 : decode cX5_findOf 75 = .ok (.getfield 34, 3) := by decide +kernel
theorem dX5_findOf_78 : decode cX5_findOf 78 = .ok (.iconst 1, 1) := by decide +kernel
theorem dX5_findOf_79 : decode cX5_findOf 79 = .ok (.isub, 1) := by decide +kernel
theorem dX5_findOf_80 : decode cX5_findOf 80 = .ok (.putfield 34, 3) := by decide +kernel
theorem dX5_findOf_83 : decode cX5_findOf 83 = .ok (.iconst 1, 1) := by decide +kernel
theorem dX5_findOf_84 : decode cX5_findOf 84 = .ok (.istore_n 3, 1) := by decide +kernel
theorem dX5_findOf_85 : decode cX5_findOf 85 = .ok (.iinc 5 1, 3) := by decide +kernel
theorem dX5_findOf_88 : decode cX5_findOf 88 = .ok (.goto (-68), 3) := by decide +kernel
theorem dX5_findOf_91 : decode cX5_findOf 91 = .ok (.iinc 4 1, 3) := by decide +kernel
theorem dX5_findOf_94 : decode cX5_findOf 94 = .ok (.goto (-89), 3) := by decide +kernel
theorem dX5_findOf_97 : decode cX5_findOf 97 = .ok (.iload_n 3, 1) := by decide +kernel
theorem dX5_findOf_98 : decode cX5_findOf 98 = .ok (.ireturn, 1) := by decide +kernel
set_option maxRecDepth 20000 in
theorem ggX5_firstLetter_X4_letters : GoodIn wsX5_firstLetter wsX4_letters := goodIn_r _ [5, 6, 19, 20, 21, 22, 23, 24] (by decide +kernel) (by decide +kernel)
set_option maxRecDepth 20000 in
theorem gX5_firstLetter_X4_letters : GoodIn wsX5_firstLetter (wsV RX5 50 RX4 yX4_letters wsX4_letters) := goodIn_app (goodIn_of _ (by decide +kernel)) ggX5_firstLetter_X4_letters
set_option maxRecDepth 20000 in
theorem ggX5_firstLetter_X4_target : GoodIn wsX5_firstLetter wsX4_target := goodIn_r _ [10, 11, 6, 12, 19, 20, 21, 22, 23, 24] (by decide +kernel) (by decide +kernel)
set_option maxRecDepth 20000 in
theorem gX5_firstLetter_X4_target : GoodIn wsX5_firstLetter (wsV RX5 53 RX4 yX4_target wsX4_target) := goodIn_app (goodIn_of _ (by decide +kernel)) ggX5_firstLetter_X4_target
set_option maxRecDepth 20000 in
theorem ggX5_firstLetter_X5_lengthOf : GoodIn wsX5_firstLetter wsX5_lengthOf := goodIn_r _ [17, 18, 25, 26, 27] (by decide +kernel) (by decide +kernel)
set_option maxRecDepth 20000 in
theorem gX5_firstLetter_X5_lengthOf : GoodIn wsX5_firstLetter (wsV RX5 42 RX5 yX5_lengthOf wsX5_lengthOf) := goodIn_app (goodIn_of _ (by decide +kernel)) ggX5_firstLetter_X5_lengthOf
theorem dX5_firstLetter_0 : decode cX5_firstLetter 0 = .ok (.iconst 0, 1) := by decide +kernel
theorem dX5_firstLetter_1 : decode cX5_firstLetter 1 = .ok (.istore 5, 2) := by decide +kernel
theorem dX5_firstLetter_3 : decode cX5_firstLetter 3 = .ok (.iload 5, 2) := by decide +kernel
theorem dX5_firstLetter_5 : decode cX5_firstLetter 5 = .ok (.aload_n 1, 1) := by decide +kernel
theorem dX5_firstLetter_6 : decode cX5_firstLetter 6 = .ok (.invokevirtual 50, 3) := by decide +kernel
theorem dX5_firstLetter_9 : decode cX5_firstLetter 9 = .ok (.if_icmp .ge 37, 3) := by decide +kernel
theorem dX5_firstLetter_12 : decode cX5_firstLetter 12 = .ok (.aload_n 0, 1) := by decide +kernel
theorem dX5_firstLetter_13 : decode cX5_firstLetter 13 = .ok (.aload_n 1, 1) := by decide +kernel
theorem dX5_firstLetter_14 : decode cX5_firstLetter 14 = .ok (.iload_n 2, 1) := by decide +kernel
theorem dX5_firstLetter_15 : decode cX5_firstLetter 15 = .ok (.iload 5, 2) := by decide +kernel
theorem dX5_firstLetter_17 : decode cX5_firstLetter 17 = .ok (.invokevirtual 53, 3) := by decide +kernel
theorem dX5_firstLetter_20 : decode cX5_firstLetter 20 = .ok (.aload_n 1, 1) := by decide +kernel
theorem dX5_firstLetter_21 : decode cX5_firstLetter 21 = .ok (.iload_n 3, 1) := by decide +kernel
theorem dX5_firstLetter_22 : decode cX5_firstLetter 22 = .ok (.iload 5, 2) := by decide +kernel
theorem dX5_firstLetter_24 : decode cX5_firstLetter 24 = .ok (.invokevirtual 53, 3) := by decide +kernel
theorem dX5_firstLetter_27 : decode cX5_firstLetter 27 = .ok (.invokevirtual 42, 3) := by decide +kernel
theorem dX5_firstLetter_30 : decode cX5_firstLetter 30 = .ok (.iload 4, 2) := by decide +kernel
theorem dX5_firstLetter_32 : decode cX5_firstLetter 32 = .ok (.iconst 1, 1) := by decide +kernel
theorem dX5_firstLetter_33 : decode cX5_firstLetter 33 = .ok (.isub, 1) := by decide +kernel
theorem dX5_firstLetter_34 : decode cX5_firstLetter 34 = .ok (.if_icmp .ne 6, 3) := by decide +kernel
theorem dX5_firstLetter_37 : decode cX5_firstLetter 37 = .ok (.iload 5, 2) := by decide +kernel
theorem dX5_firstLetter_39 : decode cX5_firstLetter 39 = .ok (.ireturn, 1) := by decide +kernel
theorem dX5_firstLetter_40 : decode cX5_firstLetter 40 = .ok (.iinc 5 1, 3) := by decide +kernel
theorem dX5_firstLetter_43 : decode cX5_firstLetter 43 = .ok (.goto (-40), 3) := by decide +kernel
theorem dX5_firstLetter_46 : decode cX5_firstLetter 46 = .ok (.iconst (-1), 1) := by decide +kernel
theorem dX5_firstLetter_47 : decode cX5_firstLetter 47 = .ok (.ireturn, 1) := by decide +kernel
theorem dX5_setLength_0 : decode cX5_setLength 0 = .ok (.iload_n 1, 1) := by decide +kernel
theorem dX5_setLength_1 : decode cX5_setLength 1 = .ok (.ifCond .lt 31, 3) := by decide +kernel
theorem dX5_setLength_4 : decode cX5_setLength 4 = .ok (.iload_n 1, 1) := by decide +kernel
theorem dX5_setLength_5 : decode cX5_setLength 5 = .ok (.bipush 12, 2) := by decide +kernel
theorem dX5_setLength_7 : decode cX5_setLength 7 = .ok (.if_icmp .ge 25, 3) := by decide +kernel
theorem dX5_setLength_10 : decode cX5_setLength 10 = .ok (.iload_n 2, 1) := by decide +kernel
theorem dX5_setLength_11 : decode cX5_setLength 11 = .ok (.ifCond .lt 21, 3) := by decide +kernel
theorem dX5_setLength_14 : decode cX5_setLength 14 = .ok (.iload_n 2, 1) := by decide +kernel
theorem dX5_setLength_15 : decode cX5_setLength 15 = .ok (.bipush 12, 2) := by decide +kernel
theorem dX5_setLength_17 : decode cX5_setLength 17 = .ok (.if_icmp .ge 15, 3) := by decide +kernel
theorem dX5_setLength_20 : decode cX5_setLength 20 = .ok (.aload_n 0, 1) := by decide +kernel
theorem dX5_setLength_21 : decode cX5_setLength 21 = .ok (.getfield 9, 3) := by decide +kernel
theorem dX5_setLength_24 : decode cX5_setLength 24 = .ok (.iload_n 1, 1) := by decide +kernel
theorem dX5_setLength_25 : decode cX5_setLength 25 = .ok (.bipush 12, 2) := by decide +kernel
theorem dX5_setLength_27 : decode cX5_setLength 27 = .ok (.imul, 1) := by decide +kernel
theorem dX5_setLength_28 : decode cX5_setLength 28 = .ok (.iload_n 2, 1) := by decide +kernel
theorem dX5_setLength_29 : decode cX5_setLength 29 = .ok (.iadd, 1) := by decide +kernel
theorem dX5_setLength_30 : decode cX5_setLength 30 = .ok (.iload_n 3, 1) := by decide +kernel
theorem dX5_setLength_31 : decode cX5_setLength 31 = .ok (.iastore, 1) := by decide +kernel
theorem dX5_setLength_32 : decode cX5_setLength 32 = .ok (.return_, 1) := by decide +kernel
theorem dX5_lengthOf_0 : decode cX5_lengthOf 0 = .ok (.iload_n 1, 1) := by decide +kernel
theorem dX5_lengthOf_1 : decode cX5_lengthOf 1 = .ok (.ifCond .lt 33, 3) := by decide +kernel
theorem dX5_lengthOf_4 : decode cX5_lengthOf 4 = .ok (.iload_n 1, 1) := by decide +kernel
theorem dX5_lengthOf_5 : decode cX5_lengthOf 5 = .ok (.bipush 12, 2) := by decide +kernel
theorem dX5_lengthOf_7 : decode cX5_lengthOf 7 = .ok (.if_icmp .ge 27, 3) := by decide +kernel
theorem dX5_lengthOf_10 : decode cX5_lengthOf 10 = .ok (.iload_n 2, 1) := by decide +kernel
theorem dX5_lengthOf_11 : decode cX5_lengthOf 11 = .ok (.ifCond .lt 23, 3) := by decide +kernel
theorem dX5_lengthOf_14 : decode cX5_lengthOf 14 = .ok (.iload_n 2, 1) := by decide +kernel
theorem dX5_lengthOf_15 : decode cX5_lengthOf 15 = .ok (.bipush 12, 2) := by decide +kernel
theorem dX5_lengthOf_17 : decode cX5_lengthOf 17 = .ok (.if_icmp .ge 17, 3) := by decide +kernel
theorem dX5_lengthOf_20 : decode cX5_lengthOf 20 = .ok (.aload_n 0, 1) := by decide +kernel
theorem dX5_lengthOf_21 : decode cX5_lengthOf 21 = .ok (.getfield 9, 3) := by decide +kernel
theorem dX5_lengthOf_24 : decode cX5_lengthOf 24 = .ok (.iload_n 1, 1) := by decide +kernel
theorem dX5_lengthOf_25 : decode cX5_lengthOf 25 = .ok (.bipush 12, 2) := by decide +kernel
theorem dX5_lengthOf_27 : decode cX5_lengthOf 27 = .ok (.imul, 1) := by decide +kernel
theorem dX5_lengthOf_28 : decode cX5_lengthOf 28 = .ok (.iload_n 2, 1) := by decide +kernel
theorem dX5_lengthOf_29 : decode cX5_lengthOf 29 = .ok (.iadd, 1) := by decide +kernel
theorem dX5_lengthOf_30 : decode cX5_lengthOf 30 = .ok (.iaload, 1) := by decide +kernel
theorem dX5_lengthOf_31 : decode cX5_lengthOf 31 = .ok (.goto 4, 3) := by decide +kernel
theorem dX5_lengthOf_34 : decode cX5_lengthOf 34 = .ok (.iconst (-1), 1) := by decide +kernel
theorem dX5_lengthOf_35 : decode cX5_lengthOf 35 = .ok (.ireturn, 1) := by decide +kernel
theorem dX5_without_0 : decode cX5_without 0 = .ok (.aload_n 0, 1) := by decide +kernel
theorem dX5_without_1 : decode cX5_without 1 = .ok (.getfield 34, 3) := by decide +kernel
theorem dX5_without_4 : decode cX5_without 4 = .ok (.ireturn, 1) := by decide +kernel
set_option maxRecDepth 20000 in
theorem ggX5_giveWord_X5_lengthOf : GoodIn wsX5_giveWord wsX5_lengthOf := goodIn_r _ [5, 6, 38, 39, 40] (by decide +kernel) (by decide +kernel)
set_option maxRecDepth 20000 in
theorem gX5_giveWord_X5_lengthOf : GoodIn wsX5_giveWord (wsV RX5 42 RX5 yX5_lengthOf wsX5_lengthOf) := goodIn_app (goodIn_of _ (by decide +kernel)) ggX5_giveWord_X5_lengthOf
set_option maxRecDepth 20000 in
theorem ggX5_giveWord_X10_resize : GoodIn wsX5_giveWord wsX10_resize := goodIn_r _ [11, 12, 13, 14, 15, 16, 41, 42] (by decide +kernel) (by decide +kernel)
set_option maxRecDepth 20000 in
theorem gX5_giveWord_X10_resize : GoodIn wsX5_giveWord (wsV RX5 56 RX10 yX10_resize wsX10_resize) := goodIn_app (goodIn_of _ (by decide +kernel)) ggX5_giveWord_X10_resize
set_option maxRecDepth 20000 in
theorem ggX5_giveWord_X5_firstLetter : GoodIn wsX5_giveWord wsX5_firstLetter := goodIn_r _ [20, 21, 22, 23, 24, 25, 26, 27, 28, 29, 30, 31, 32, 1, 2, 3, 4, 5, 6, 43, 44, 45, 46, 47, 48, 38, 39, 40] (by decide +kernel) (by decide +kernel)
set_option maxRecDepth 20000 in
theorem gX5_giveWord_X5_firstLetter : GoodIn wsX5_giveWord (wsV RX5 46 RX5 yX5_firstLetter wsX5_firstLetter) := goodIn_app (goodIn_of _ (by decide +kernel)) ggX5_giveWord_X5_firstLetter
set_option maxRecDepth 20000 in
theorem ggX5_giveWord_X10_put : GoodIn wsX5_giveWord wsX10_put := goodIn_r _ [36, 16, 37, 41, 42] (by decide +kernel) (by decide +kernel)
set_option maxRecDepth 20000 in
theorem gX5_giveWord_X10_put : GoodIn wsX5_giveWord (wsV RX5 62 RX10 yX10_put wsX10_put) := goodIn_app (goodIn_of _ (by decide +kernel)) ggX5_giveWord_X10_put
set_option maxRecDepth 20000 in
theorem ggX5_giveWord_X4_target : GoodIn wsX5_giveWord wsX4_target := goodIn_r _ [30, 31, 26, 32, 43, 44, 45, 46, 47, 48] (by decide +kernel) (by decide +kernel)
set_option maxRecDepth 20000 in
theorem gX5_giveWord_X4_target : GoodIn wsX5_giveWord (wsV RX5 53 RX4 yX4_target wsX4_target) := goodIn_app (goodIn_of _ (by decide +kernel)) ggX5_giveWord_X4_target
theorem dX5_giveWord_0 : decode cX5_giveWord 0 = .ok (.aload_n 0, 1) := by decide +kernel
theorem dX5_giveWord_1 : decode cX5_giveWord 1 = .ok (.iload_n 2, 1) := by decide +kernel
theorem dX5_giveWord_2 : decode cX5_giveWord 2 = .ok (.iload_n 3, 1) := by decide +kernel
theorem dX5_giveWord_3 : decode cX5_giveWord 3 = .ok (.invokevirtual 42, 3) := by decide +kernel
theorem dX5_giveWord_6 : decode cX5_giveWord 6 = .ok (.istore 5, 2) := by decide +kernel
theorem dX5_giveWord_8 : decode cX5_giveWord 8 = .ok (.iload_n 2, 1) := by decide +kernel
theorem dX5_giveWord_9 : decode cX5_giveWord 9 = .ok (.istore 6, 2) := by decide +kernel
theorem dX5_giveWord_11 : decode cX5_giveWord 11 = .ok (.iload_n 3, 1) := by decide +kernel
theorem dX5_giveWord_12 : decode cX5_giveWord 12 = .ok (.istore 7, 2) := by decide +kernel
theorem dX5_giveWord_14 : decode cX5_giveWord 14 = .ok (.aload 4, 2) := by decide +kernel
theorem dX5_giveWord_16 : decode cX5_giveWord 16 = .ok (.iload 5, 2) := by decide +kernel
theorem dX5_giveWord_18 : decode cX5_giveWord 18 = .ok (.invokevirtual 56, 3) := by decide +kernel
theorem dX5_giveWord_21 : decode cX5_giveWord 21 = .ok (.iconst 0, 1) := by decide +kernel
theorem dX5_giveWord_22 : decode cX5_giveWord 22 = .ok (.istore 8, 2) := by decide +kernel
theorem dX5_giveWord_24 : decode cX5_giveWord 24 = .ok (.iload 8, 2) := by decide +kernel
theorem dX5_giveWord_26 : decode cX5_giveWord 26 = .ok (.iload 5, 2) := by decide +kernel
theorem dX5_giveWord_28 : decode cX5_giveWord 28 = .ok (.if_icmp .ge 54, 3) := by decide +kernel
theorem dX5_giveWord_31 : decode cX5_giveWord 31 = .ok (.aload_n 0, 1) := by decide +kernel
theorem dX5_giveWord_32 : decode cX5_giveWord 32 = .ok (.aload_n 1, 1) := by decide +kernel
theorem dX5_giveWord_33 : decode cX5_giveWord 33 = .ok (.iload 6, 2) := by decide +kernel
theorem dX5_giveWord_35 : decode cX5_giveWord 35 = .ok (.iload 7, 2) := by decide +kernel
theorem dX5_giveWord_37 : decode cX5_giveWord 37 = .ok (.iload 5, 2) := by decide +kernel
theorem dX5_giveWord_39 : decode cX5_giveWord 39 = .ok (.iload 8, 2) := by decide +kernel
theorem dX5_giveWord_41 : decode cX5_giveWord 41 = .ok (.isub, 1) := by decide +kernel
theorem dX5_giveWord_42 : decode cX5_giveWord 42 = .ok (.invokevirtual 46, 3) := by decide +kernel
theorem dX5_giveWord_45 : decode cX5_giveWord 45 = .ok (.istore 9, 2) := by decide +kernel
theorem dX5_giveWord_47 : decode cX5_giveWord 47 = .ok (.aload 4, 2) := by decide +kernel
theorem dX5_giveWord_49 : decode cX5_giveWord 49 = .ok (.iload 8, 2) := by decide +kernel
theorem dX5_giveWord_51 : decode cX5_giveWord 51 = .ok (.iload 9, 2) := by decide +kernel
theorem dX5_giveWord_53 : decode cX5_giveWord 53 = .ok (.invokevirtual 62, 3) := by decide +kernel
theorem dX5_giveWord_56 : decode cX5_giveWord 56 = .ok (.aload_n 1, 1) := by decide +kernel
theorem dX5_giveWord_57 : decode cX5_giveWord 57 = .ok (.iload 6, 2) := by decide +kernel
theorem dX5_giveWord_59 : decode cX5_giveWord 59 = .ok (.iload 9, 2) := by decide +kernel
theorem dX5_giveWord_61 : decode cX5_giveWord 61 = .ok (.invokevirtual 53, 3) := by decide +kernel
theorem dX5_giveWord_64 : decode cX5_giveWord 64 = .ok (.istore 6, 2) := by decide +kernel
theorem dX5_giveWord_66 : decode cX5_giveWord 66 = .ok (.aload_n 1, 1) := by decide +kernel
theorem dX5_giveWord_67 : decode cX5_giveWord 67 = .ok (.iload 7, 2) := by decide +kernel
theorem dX5_giveWord_69 : decode cX5_giveWord 69 = .ok (.iload 9, 2) := by decide +kernel
theorem dX5_giveWord_71 : decode cX5_giveWord 71 = .ok (.invokevirtual 53, 3) := by decide +kernel
theorem dX5_giveWord_74 : decode cX5_giveWord 74 = .ok (.istore 7, 2) := by decide +kernel
theorem dX5_giveWord_76 : decode cX5_giveWord 76 = .ok (.iinc 8 1, 3) := by decide +kernel
theorem dX5_giveWord_79 : decode cX5_giveWord 79 = .ok (.goto (-55), 3) := by decide +kernel
theorem dX5_giveWord_82 : decode cX5_giveWord 82 = .ok (.return_, 1) := by decide +kernel
set_option maxRecDepth 20000 in
theorem ggX5_lengthApart_J7_fill_53178 : GoodIn wsX5_lengthApart wsJ7_fill_53178 := goodIn_r _ [6] (by decide +kernel) (by decide +kernel)
set_option maxRecDepth 20000 in
theorem gX5_lengthApart_J7_fill_53178 : GoodIn wsX5_lengthApart (va_wsS RX5 18 yJ7_fill_53178 wsJ7_fill_53178) := goodIn_app (goodIn_of _ (by decide +kernel)) ggX5_lengthApart_J7_fill_53178
set_option maxRecDepth 20000 in
theorem ggX5_lengthApart_X5_setLength : GoodIn wsX5_lengthApart wsX5_setLength := goodIn_r _ [11, 1, 41, 42, 43] (by decide +kernel) (by decide +kernel)
set_option maxRecDepth 20000 in
theorem gX5_lengthApart_X5_setLength : GoodIn wsX5_lengthApart (wsV RX5 30 RX5 yX5_setLength wsX5_setLength) := goodIn_app (goodIn_of _ (by decide +kernel)) ggX5_lengthApart_X5_setLength
set_option maxRecDepth 20000 in
theorem ggX5_lengthApart_X4_lightOf : GoodIn wsX5_lengthApart wsX4_lightOf := goodIn_r _ [16, 17, 18, 19, 20, 15, 21, 22, 44, 45, 46, 47, 48, 49] (by decide +kernel) (by decide +kernel)
set_option maxRecDepth 20000 in
theorem gX5_lengthApart_X4_lightOf : GoodIn wsX5_lengthApart (wsV RX5 66 RX4 yX4_lightOf wsX4_lightOf) := goodIn_app (goodIn_of _ (by decide +kernel)) ggX5_lengthApart_X4_lightOf
set_option maxRecDepth 20000 in
theorem ggX5_lengthApart_X5_lengthOf : GoodIn wsX5_lengthApart wsX5_lengthOf := goodIn_r _ [26, 1, 41, 42, 43] (by decide +kernel) (by decide +kernel)
set_option maxRecDepth 20000 in
theorem gX5_lengthApart_X5_lengthOf : GoodIn wsX5_lengthApart (wsV RX5 42 RX5 yX5_lengthOf wsX5_lengthOf) := goodIn_app (goodIn_of _ (by decide +kernel)) ggX5_lengthApart_X5_lengthOf
set_option maxRecDepth 20000 in
theorem ggX5_lengthApart_X5_queueNext : GoodIn wsX5_lengthApart wsX5_queueNext := goodIn_r _ [30, 2, 31, 32, 33, 15, 34, 35, 36, 37, 38, 39, 22, 40, 23, 24, 25, 10, 26, 1, 7, 8, 9, 11, 41, 42, 43, 44, 45, 46, 47, 48, 49] (by decide +kernel) (by decide +kernel)
set_option maxRecDepth 20000 in
theorem gX5_lengthApart_X5_queueNext : GoodIn wsX5_lengthApart (wsV RX5 70 RX5 yX5_queueNext wsX5_queueNext) := goodIn_app (goodIn_of _ (by decide +kernel)) ggX5_lengthApart_X5_queueNext
theorem dX5_lengthApart_0 : decode cX5_lengthApart 0 = .ok (.aload_n 0, 1) := by decide +kernel
theorem dX5_lengthApart_1 : decode cX5_lengthApart 1 = .ok (.getfield 9, 3) := by decide +kernel
theorem dX5_lengthApart_4 : decode cX5_lengthApart 4 = .ok (.iconst (-1), 1) := by decide +kernel
theorem dX5_lengthApart_5 : decode cX5_lengthApart 5 = .ok (.invokestatic 18, 3) := by decide +kernel
theorem dX5_lengthApart_8 : decode cX5_lengthApart 8 = .ok (.aload_n 0, 1) := by decide +kernel
theorem dX5_lengthApart_9 : decode cX5_lengthApart 9 = .ok (.iload_n 2, 1) := by decide +kernel
theorem dX5_lengthApart_10 : decode cX5_lengthApart 10 = .ok (.iload_n 3, 1) := by decide +kernel
theorem dX5_lengthApart_11 : decode cX5_lengthApart 11 = .ok (.iconst 0, 1) := by decide +kernel
theorem dX5_lengthApart_12 : decode cX5_lengthApart 12 = .ok (.invokevirtual 30, 3) := by decide +kernel
theorem dX5_lengthApart_15 : decode cX5_lengthApart 15 = .ok (.aload_n 0, 1) := by decide +kernel
theorem dX5_lengthApart_16 : decode cX5_lengthApart 16 = .ok (.getfield 15, 3) := by decide +kernel
theorem dX5_lengthApart_19 : decode cX5_lengthApart 19 = .ok (.iconst 0, 1) := by decide +kernel
theorem dX5_lengthApart_20 : decode cX5_lengthApart 20 = .ok (.iload_n 2, 1) := by decide +kernel
theorem dX5_lengthApart_21 : decode cX5_lengthApart 21 = .ok (.bipush 12, 2) := by decide +kernel
theorem dX5_lengthApart_23 : decode cX5_lengthApart 23 = .ok (.imul, 1) := by decide +kernel
theorem dX5_lengthApart_24 : decode cX5_lengthApart 24 = .ok (.iload_n 3, 1) := by decide +kernel
theorem dX5_lengthApart_25 : decode cX5_lengthApart 25 = .ok (.iadd, 1) := by decide +kernel
theorem dX5_lengthApart_26 : decode cX5_lengthApart 26 = .ok (.iastore, 1) := by decide +kernel
theorem dX5_lengthApart_27 : decode cX5_lengthApart 27 = .ok (.iconst 1, 1) := by decide +kernel
theorem dX5_lengthApart_28 : decode cX5_lengthApart 28 = .ok (.istore 4, 2) := by decide +kernel
theorem dX5_lengthApart_30 : decode cX5_lengthApart 30 = .ok (.iconst 0, 1) := by decide +kernel
theorem dX5_lengthApart_31 : decode cX5_lengthApart 31 = .ok (.istore 5, 2) := by decide +kernel
theorem dX5_lengthApart_33 : decode cX5_lengthApart 33 = .ok (.iload 5, 2) := by decide +kernel
theorem dX5_lengthApart_35 : decode cX5_lengthApart 35 = .ok (.iload 4, 2) := by decide +kernel
theorem dX5_lengthApart_37 : decode cX5_lengthApart 37 = .ok (.if_icmp .ge 78, 3) := by decide +kernel
theorem dX5_lengthApart_40 : decode cX5_lengthApart 40 = .ok (.iload 5, 2) := by decide +kernel
theorem dX5_lengthApart_42 : decode cX5_lengthApart 42 = .ok (.sipush 144, 3) := by decide +kernel
theorem dX5_lengthApart_45 : decode cX5_lengthApart 45 = .ok (.if_icmp .ge 70, 3) := by decide +kernel
theorem dX5_lengthApart_48 : decode cX5_lengthApart 48 = .ok (.aload_n 0, 1) := by decide +kernel
theorem dX5_lengthApart_49 : decode cX5_lengthApart 49 = .ok (.getfield 15, 3) := by decide +kernel
theorem dX5_lengthApart_52 : decode cX5_lengthApart 52 = .ok (.iload 5, 2) := by decide +kernel
theorem dX5_lengthApart_54 : decode cX5_lengthApart 54 = .ok (.iaload, 1) := by decide +kernel
theorem dX5_lengthApart_55 : decode cX5_lengthApart 55 = .ok (.bipush 12, 2) := by decide +kernel
theorem dX5_lengthApart_57 : decode cX5_lengthApart 57 = .ok (.idiv, 1) := by decide +kernel
theorem dX5_lengthApart_58 : decode cX5_lengthApart 58 = .ok (.istore 6, 2) := by decide +kernel
theorem dX5_lengthApart_60 : decode cX5_lengthApart 60 = .ok (.aload_n 0, 1) := by decide +kernel
theorem dX5_lengthApart_61 : decode cX5_lengthApart 61 = .ok (.getfield 15, 3) := by decide +kernel
theorem dX5_lengthApart_64 : decode cX5_lengthApart 64 = .ok (.iload 5, 2) := by decide +kernel
theorem dX5_lengthApart_66 : decode cX5_lengthApart 66 = .ok (.iaload, 1) := by decide +kernel
theorem dX5_lengthApart_67 : decode cX5_lengthApart 67 = .ok (.bipush 12, 2) := by decide +kernel
theorem dX5_lengthApart_69 : decode cX5_lengthApart 69 = .ok (.irem, 1) := by decide +kernel
theorem dX5_lengthApart_70 : decode cX5_lengthApart 70 = .ok (.istore 7, 2) := by decide +kernel
theorem dX5_lengthApart_72 : decode cX5_lengthApart 72 = .ok (.aload_n 1, 1) := by decide +kernel
theorem dX5_lengthApart_73 : decode cX5_lengthApart 73 = .ok (.iload 6, 2) := by decide +kernel
theorem dX5_lengthApart_75 : decode cX5_lengthApart 75 = .ok (.invokevirtual 66, 3) := by decide +kernel
theorem dX5_lengthApart_78 : decode cX5_lengthApart 78 = .ok (.aload_n 1, 1) := by decide +kernel
theorem dX5_lengthApart_79 : decode cX5_lengthApart 79 = .ok (.iload 7, 2) := by decide +kernel
theorem dX5_lengthApart_81 : decode cX5_lengthApart 81 = .ok (.invokevirtual 66, 3) := by decide +kernel
theorem dX5_lengthApart_84 : decode cX5_lengthApart 84 = .ok (.if_icmp .eq 12, 3) := by decide +kernel
theorem dX5_lengthApart_87 : decode cX5_lengthApart 87 = .ok (.aload_n 0, 1) := by decide +kernel
theorem dX5_lengthApart_88 : decode cX5_lengthApart 88 = .ok (.iload 6, 2) := by decide +kernel
theorem dX5_lengthApart_90 : decode cX5_lengthApart 90 = .ok (.iload 7, 2) := by decide +kernel
theorem dX5_lengthApart_92 : decode cX5_lengthApart 92 = .ok (.invokevirtual 42, 3) := by decide +kernel
theorem dX5_lengthApart_95 : decode cX5_lengthApart 95 = .ok (.ireturn, 1) := by decide +kernel
theorem dX5_lengthApart_96 : decode cX5_lengthApart 96 = .ok (.aload_n 0, 1) := by decide +kernel
theorem dX5_lengthApart_97 : decode cX5_lengthApart 97 = .ok (.aload_n 1, 1) := by decide +kernel
theorem dX5_lengthApart_98 : decode cX5_lengthApart 98 = .ok (.iload 6, 2) := by decide +kernel
theorem dX5_lengthApart_100 : decode cX5_lengthApart 100 = .ok (.iload 7, 2) := by decide +kernel
theorem dX5_lengthApart_102 : decode cX5_lengthApart 102 = .ok (.iload 4, 2) := by decide +kernel
theorem dX5_lengthApart_104 : decode cX5_lengthApart 104 = .ok (.invokevirtual 70, 3) := by decide +kernel
theorem dX5_lengthApart_107 : decode cX5_lengthApart 107 = .ok (.istore 4, 2) := by decide +kernel
theorem dX5_lengthApart_109 : decode cX5_lengthApart 109 = .ok (.iinc 5 1, 3) := by decide +kernel
theorem dX5_lengthApart_112 : decode cX5_lengthApart 112 = .ok (.goto (-79), 3) := by decide +kernel
theorem dX5_lengthApart_115 : decode cX5_lengthApart 115 = .ok (.iconst (-1), 1) := by decide +kernel
theorem dX5_lengthApart_116 : decode cX5_lengthApart 116 = .ok (.ireturn, 1) := by decide +kernel
set_option maxRecDepth 20000 in
theorem ggX5_queueNext_X4_letters : GoodIn wsX5_queueNext wsX4_letters := goodIn_r _ [6, 7, 27, 28, 29, 30, 31, 32] (by decide +kernel) (by decide +kernel)
set_option maxRecDepth 20000 in
theorem gX5_queueNext_X4_letters : GoodIn wsX5_queueNext (wsV RX5 50 RX4 yX4_letters wsX4_letters) := goodIn_app (goodIn_of _ (by decide +kernel)) ggX5_queueNext_X4_letters
set_option maxRecDepth 20000 in
theorem ggX5_queueNext_X4_target : GoodIn wsX5_queueNext wsX4_target := goodIn_r _ [11, 12, 7, 13, 27, 28, 29, 30, 31, 32] (by decide +kernel) (by decide +kernel)
set_option maxRecDepth 20000 in
theorem gX5_queueNext_X4_target : GoodIn wsX5_queueNext (wsV RX5 53 RX4 yX4_target wsX4_target) := goodIn_app (goodIn_of _ (by decide +kernel)) ggX5_queueNext_X4_target
set_option maxRecDepth 20000 in
theorem ggX5_queueNext_X5_lengthOf : GoodIn wsX5_queueNext wsX5_lengthOf := goodIn_r _ [18, 19, 24, 25, 26] (by decide +kernel) (by decide +kernel)
set_option maxRecDepth 20000 in
theorem gX5_queueNext_X5_lengthOf : GoodIn wsX5_queueNext (wsV RX5 42 RX5 yX5_lengthOf wsX5_lengthOf) := goodIn_app (goodIn_of _ (by decide +kernel)) ggX5_queueNext_X5_lengthOf
set_option maxRecDepth 20000 in
theorem ggX5_queueNext_X5_setLength : GoodIn wsX5_queueNext wsX5_setLength := goodIn_r _ [23, 19, 24, 25, 26] (by decide +kernel) (by decide +kernel)
set_option maxRecDepth 20000 in
theorem gX5_queueNext_X5_setLength : GoodIn wsX5_queueNext (wsV RX5 30 RX5 yX5_setLength wsX5_setLength) := goodIn_app (goodIn_of _ (by decide +kernel)) ggX5_queueNext_X5_setLength
theorem dX5_queueNext_0 : decode cX5_queueNext 0 = .ok (.iload 4, 2) := by decide +kernel
theorem dX5_queueNext_2 : decode cX5_queueNext 2 = .ok (.istore 5, 2) := by decide +kernel
theorem dX5_queueNext_4 : decode cX5_queueNext 4 = .ok (.iconst 0, 1) := by decide +kernel
theorem dX5_queueNext_5 : decode cX5_queueNext 5 = .ok (.istore 6, 2) := by decide +kernel
theorem dX5_queueNext_7 : decode cX5_queueNext 7 = .ok (.iload 6, 2) := by decide +kernel
theorem dX5_queueNext_9 : decode cX5_queueNext 9 = .ok (.aload_n 1, 1) := by decide +kernel
theorem dX5_queueNext_10 : decode cX5_queueNext 10 = .ok (.invokevirtual 50, 3) := by decide +kernel
theorem dX5_queueNext_13 : decode cX5_queueNext 13 = .ok (.if_icmp .ge 101, 3) := by decide +kernel
theorem dX5_queueNext_16 : decode cX5_queueNext 16 = .ok (.aload_n 1, 1) := by decide +kernel
theorem dX5_queueNext_17 : decode cX5_queueNext 17 = .ok (.iload_n 2, 1) := by decide +kernel
theorem dX5_queueNext_18 : decode cX5_queueNext 18 = .ok (.iload 6, 2) := by decide +kernel
theorem dX5_queueNext_20 : decode cX5_queueNext 20 = .ok (.invokevirtual 53, 3) := by decide +kernel
theorem dX5_queueNext_23 : decode cX5_queueNext 23 = .ok (.istore 7, 2) := by decide +kernel
theorem dX5_queueNext_25 : decode cX5_queueNext 25 = .ok (.aload_n 1, 1) := by decide +kernel
theorem dX5_queueNext_26 : decode cX5_queueNext 26 = .ok (.iload_n 3, 1) := by decide +kernel
theorem dX5_queueNext_27 : decode cX5_queueNext 27 = .ok (.iload 6, 2) := by decide +kernel
theorem dX5_queueNext_29 : decode cX5_queueNext 29 = .ok (.invokevirtual 53, 3) := by decide +kernel
theorem dX5_queueNext_32 : decode cX5_queueNext 32 = .ok (.istore 8, 2) := by decide +kernel
theorem dX5_queueNext_34 : decode cX5_queueNext 34 = .ok (.iload 7, 2) := by decide +kernel
theorem dX5_queueNext_36 : decode cX5_queueNext 36 = .ok (.iconst (-1), 1) := by decide +kernel
theorem dX5_queueNext_37 : decode cX5_queueNext 37 = .ok (.if_icmp .eq 71, 3) := by decide +kernel
theorem dX5_queueNext_40 : decode cX5_queueNext 40 = .ok (.iload 8, 2) := by decide +kernel
theorem dX5_queueNext_42 : decode cX5_queueNext 42 = .ok (.iconst (-1), 1) := by decide +kernel
theorem dX5_queueNext_43 : decode cX5_queueNext 43 = .ok (.if_icmp .eq 65, 3) := by decide +kernel
theorem dX5_queueNext_46 : decode cX5_queueNext 46 = .ok (.aload_n 0, 1) := by decide +kernel
theorem dX5_queueNext_47 : decode cX5_queueNext 47 = .ok (.iload 7, 2) := by decide +kernel
theorem dX5_queueNext_49 : decode cX5_queueNext 49 = .ok (.iload 8, 2) := by decide +kernel
theorem dX5_queueNext_51 : decode cX5_queueNext 51 = .ok (.invokevirtual 42, 3) := by decide +kernel
theorem dX5_queueNext_54 : decode cX5_queueNext 54 = .ok (.iconst (-1), 1) := by decide +kernel
theorem dX5_queueNext_55 : decode cX5_queueNext 55 = .ok (.if_icmp .ne 53, 3) := by decide +kernel
theorem dX5_queueNext_58 : decode cX5_queueNext 58 = .ok (.iload 5, 2) := by decide +kernel
theorem dX5_queueNext_60 : decode cX5_queueNext 60 = .ok (.ifCond .lt 48, 3) := by decide +kernel
theorem dX5_queueNext_63 : decode cX5_queueNext 63 = .ok (.iload 5, 2) := by decide +kernel
theorem dX5_queueNext_65 : decode cX5_queueNext 65 = .ok (.sipush 144, 3) := by decide +kernel
theorem dX5_queueNext_68 : decode cX5_queueNext 68 = .ok (.if_icmp .lt 6, 3) := by decide +kernel
theorem dX5_queueNext_71 : decode cX5_queueNext 71 = .ok (.goto 37, 3) := by decide +kernel
theorem dX5_queueNext_74 : decode cX5_queueNext 74 = .ok (.aload_n 0, 1) := by decide +kernel
theorem dX5_queueNext_75 : decode cX5_queueNext 75 = .ok (.iload 7, 2) := by decide +kernel
theorem dX5_queueNext_77 : decode cX5_queueNext 77 = .ok (.iload 8, 2) := by decide +kernel
theorem dX5_queueNext_79 : decode cX5_queueNext 79 = .ok (.aload_n 0, 1) := by decide +kernel
theorem dX5_queueNext_80 : decode cX5_queueNext 80 = .ok (.iload_n 2, 1) := by decide +kernel
theorem dX5_queueNext_81 : decode cX5_queueNext 81 = .ok (.iload_n 3, 1) := by decide +kernel
theorem dX5_queueNext_82 : decode cX5_queueNext 82 = .ok (.invokevirtual 42, 3) := by decide +kernel
theorem dX5_queueNext_85 : decode cX5_queueNext 85 = .ok (.iconst 1, 1) := by decide +kernel
theorem dX5_queueNext_86 : decode cX5_queueNext 86 = .ok (.iadd, 1) := by decide +kernel
theorem dX5_queueNext_87 : decode cX5_queueNext 87 = .ok (.invokevirtual 30, 3) := by decide +kernel
theorem dX5_queueNext_90 : decode cX5_queueNext 90 = .ok (.aload_n 0, 1) := by decide +kernel
theorem dX5_queueNext_91 : decode cX5_queueNext 91 = .ok (.getfield 15, 3) := by decide +kernel
theorem dX5_queueNext_94 : decode cX5_queueNext 94 = .ok (.iload 5, 2) := by decide +kernel
theorem dX5_queueNext_96 : decode cX5_queueNext 96 = .ok (.iload 7, 2) := by decide +kernel
theorem dX5_queueNext_98 : decode cX5_queueNext 98 = .ok (.bipush 12, 2) := by decide +kernel
theorem dX5_queueNext_100 : decode cX5_queueNext 100 = .ok (.imul, 1) := by decide +kernel
theorem dX5_queueNext_101 : decode cX5_queueNext 101 = .ok (.iload 8, 2) := by decide +kernel
theorem dX5_queueNext_103 : decode cX5_queueNext 103 = .ok (.iadd, 1) := by decide +kernel
theorem dX5_queueNext_104 : decode cX5_queueNext 104 = .ok (.iastore, 1) := by decide +kernel
theorem dX5_queueNext_105 : decode cX5_queueNext 105 = .ok (.iinc 5 1, 3) := by decide +kernel
theorem dX5_queueNext_108 : decode cX5_queueNext 108 = .ok (.iinc 6 1, 3) := by decide +kernel
theorem dX5_queueNext_111 : decode cX5_queueNext 111 = .ok (.goto (-104), 3) := by decide +kernel
theorem dX5_queueNext_114 : decode cX5_queueNext 114 = .ok (.iload 5, 2) := by decide +kernel
theorem dX5_queueNext_116 : decode cX5_queueNext 116 = .ok (.ireturn, 1) := by decide +kernel
theorem dX6_init_0 : decode cX6_init 0 = .ok (.aload_n 0, 1) := by decide +kernel
theorem dX6_init_1 : decode cX6_init 1 = .ok (.invokespecial 3, 3) := by decide +kernel
theorem dX6_init_4 : decode cX6_init 4 = .ok (.aload_n 0, 1) := by decide +kernel
theorem dX6_init_5 : decode cX6_init 5 = .ok (.sipush 4096, 3) := by decide +kernel
theorem dX6_init_8 : decode cX6_init 8 = .ok (.newarray .int, 2) := by decide +kernel
theorem dX6_init_10 : decode cX6_init 10 = .ok (.putfield 9, 3) := by decide +kernel
theorem dX6_init_13 : decode cX6_init 13 = .ok (.aload_n 0, 1) := by decide +kernel
theorem dX6_init_14 : decode cX6_init 14 = .ok (.sipush 16385, 3) := by decide +kernel
theorem dX6_init_17 : decode cX6_init 17 = .ok (.newarray .int, 2) := by decide +kernel
theorem dX6_init_19 : decode cX6_init 19 = .ok (.putfield 15, 3) := by decide +kernel
theorem dX6_init_22 : decode cX6_init 22 = .ok (.aload_n 0, 1) := by decide +kernel
theorem dX6_init_23 : decode cX6_init 23 = .ok (.aload_n 1, 1) := by decide +kernel
theorem dX6_init_24 : decode cX6_init 24 = .ok (.putfield 18, 3) := by decide +kernel
theorem dX6_init_27 : decode cX6_init 27 = .ok (.aload_n 0, 1) := by decide +kernel
theorem dX6_init_28 : decode cX6_init 28 = .ok (.aload_n 2, 1) := by decide +kernel
theorem dX6_init_29 : decode cX6_init 29 = .ok (.putfield 22, 3) := by decide +kernel
theorem dX6_init_32 : decode cX6_init 32 = .ok (.return_, 1) := by decide +kernel
set_option maxRecDepth 20000 in
theorem ggX6_look_X8_load : GoodIn wsX6_look wsX8_load := goodIn_r _ [9, 10, 11, 12, 13, 14, 15, 16, 17, 18, 19, 20, 8, 21, 22, 23, 24, 25, 26, 27, 28, 29, 30, 31, 99, 100, 101, 102, 103, 104, 105, 106, 107] (by decide +kernel) (by decide +kernel)
set_option maxRecDepth 20000 in
theorem gX6_look_X8_load : GoodIn wsX6_look (wsV RX6 26 RX8 yX8_load wsX8_load) := goodIn_app (goodIn_of _ (by decide +kernel)) ggX6_look_X8_load
set_option maxRecDepth 20000 in
theorem ggX6_look_X9_begin : GoodIn wsX6_look wsX9_begin := goodIn_r _ [36, 37, 38, 39, 40, 41, 108] (by decide +kernel) (by decide +kernel)
set_option maxRecDepth 20000 in
theorem gX6_look_X9_begin : GoodIn wsX6_look (wsV RX6 32 RX9 yX9_begin wsX9_begin) := goodIn_app (goodIn_of _ (by decide +kernel)) ggX6_look_X9_begin
set_option maxRecDepth 20000 in
theorem ggX6_look_J7_fill_53178 : GoodIn wsX6_look wsJ7_fill_53178 := goodIn_r _ [41] (by decide +kernel) (by decide +kernel)
set_option maxRecDepth 20000 in
theorem gX6_look_J7_fill_53178 : GoodIn wsX6_look (va_wsS RX6 38 yJ7_fill_53178 wsJ7_fill_53178) := goodIn_app (goodIn_of _ (by decide +kernel)) ggX6_look_J7_fill_53178
set_option maxRecDepth 20000 in
theorem ggX6_look_X6_reach : GoodIn wsX6_look wsX6_reach := goodIn_r _ [47, 3, 48, 49, 50, 46, 51, 4, 52, 94, 95, 96, 97, 98] (by decide +kernel) (by decide +kernel)
set_option maxRecDepth 20000 in
theorem gX6_look_X6_reach : GoodIn wsX6_look (wsV RX6 48 RX6 yX6_reach wsX6_reach) := goodIn_app (goodIn_of _ (by decide +kernel)) ggX6_look_X6_reach
set_option maxRecDepth 20000 in
theorem ggX6_look_X6_takeKey : GoodIn wsX6_look wsX6_takeKey := goodIn_r _ [56, 4, 52, 57, 58, 59, 46, 60, 94, 95, 96, 97, 98] (by decide +kernel) (by decide +kernel)
set_option maxRecDepth 20000 in
theorem gX6_look_X6_takeKey : GoodIn wsX6_look (wsV RX6 52 RX6 yX6_takeKey wsX6_takeKey) := goodIn_app (goodIn_of _ (by decide +kernel)) ggX6_look_X6_takeKey
set_option maxRecDepth 20000 in
theorem ggX6_look_X6_sumOf : GoodIn wsX6_look wsX6_sumOf := goodIn_r _ [64, 3, 94, 95, 96, 97, 98] (by decide +kernel) (by decide +kernel)
set_option maxRecDepth 20000 in
theorem gX6_look_X6_sumOf : GoodIn wsX6_look (wsV RX6 56 RX6 yX6_sumOf wsX6_sumOf) := goodIn_app (goodIn_of _ (by decide +kernel)) ggX6_look_X6_sumOf
set_option maxRecDepth 20000 in
theorem ggX6_look_X7_isOne : GoodIn wsX6_look wsX7_isOne := goodIn_r _ [68] (by decide +kernel) (by decide +kernel)
set_option maxRecDepth 20000 in
theorem gX6_look_X7_isOne : GoodIn wsX6_look (va_wsS RX6 60 yX7_isOne wsX7_isOne) := goodIn_app (goodIn_of _ (by decide +kernel)) ggX6_look_X7_isOne
set_option maxRecDepth 20000 in
theorem ggX6_look_X6_goOn : GoodIn wsX6_look wsX6_goOn := goodIn_r _ [72, 1, 2, 73, 74, 75, 8, 76, 10, 77, 78, 79, 80, 11, 12, 61, 62, 63, 46, 64, 3, 81, 82, 83, 16, 84, 85, 86, 87, 88, 89, 18, 90, 91, 92, 35, 93, 37, 43, 44, 45, 47, 48, 49, 50, 51, 4, 52, 94, 95, 96, 97, 98, 99, 100, 101, 102, 103, 104, 105, 106, 107, 108] (by decide +kernel) (by decide +kernel)
set_option maxRecDepth 20000 in
theorem gX6_look_X6_goOn : GoodIn wsX6_look (wsV RX6 66 RX6 yX6_goOn wsX6_goOn) := goodIn_app (goodIn_of _ (by decide +kernel)) ggX6_look_X6_goOn
theorem dX6_look_0 : decode cX6_look 0 = .ok (.aload_n 0, 1) := by decide +kernel
theorem dX6_look_1 : decode cX6_look 1 = .ok (.getfield 18, 3) := by decide +kernel
theorem dX6_look_4 : decode cX6_look 4 = .ok (.aload_n 1, 1) := by decide +kernel
theorem dX6_look_5 : decode cX6_look 5 = .ok (.invokevirtual 26, 3) := by decide +kernel
theorem dX6_look_8 : decode cX6_look 8 = .ok (.aload_n 0, 1) := by decide +kernel
theorem dX6_look_9 : decode cX6_look 9 = .ok (.getfield 22, 3) := by decide +kernel
theorem dX6_look_12 : decode cX6_look 12 = .ok (.iload_n 2, 1) := by decide +kernel
theorem dX6_look_13 : decode cX6_look 13 = .ok (.invokevirtual 32, 3) := by decide +kernel
theorem dX6_look_16 : decode cX6_look 16 = .ok (.aload_n 0, 1) := by decide +kernel
theorem dX6_look_17 : decode cX6_look 17 = .ok (.getfield 9, 3) := by decide +kernel
theorem dX6_look_20 : decode cX6_look 20 = .ok (.iconst (-1), 1) := by decide +kernel
theorem dX6_look_21 : decode cX6_look 21 = .ok (.invokestatic 38, 3) := by decide +kernel
theorem dX6_look_24 : decode cX6_look 24 = .ok (.aload_n 0, 1) := by decide +kernel
theorem dX6_look_25 : decode cX6_look 25 = .ok (.iconst 0, 1) := by decide +kernel
theorem dX6_look_26 : decode cX6_look 26 = .ok (.putfield 44, 3) := by decide +kernel
theorem dX6_look_29 : decode cX6_look 29 = .ok (.aload_n 0, 1) := by decide +kernel
theorem dX6_look_30 : decode cX6_look 30 = .ok (.iload_n 2, 1) := by decide +kernel
theorem dX6_look_31 : decode cX6_look 31 = .ok (.iconst 0, 1) := by decide +kernel
theorem dX6_look_32 : decode cX6_look 32 = .ok (.invokevirtual 48, 3) := by decide +kernel
theorem dX6_look_35 : decode cX6_look 35 = .ok (.iconst 0, 1) := by decide +kernel
theorem dX6_look_36 : decode cX6_look 36 = .ok (.istore_n 3, 1) := by decide +kernel
theorem dX6_look_37 : decode cX6_look 37 = .ok (.iload_n 3, 1) := by decide +kernel
theorem dX6_look_38 : decode cX6_look 38 = .ok (.sipush 16385, 3) := by decide +kernel
theorem dX6_look_41 : decode cX6_look 41 = .ok (.if_icmp .ge 65, 3) := by decide +kernel
theorem dX6_look_44 : decode cX6_look 44 = .ok (.aload_n 0, 1) := by decide +kernel
theorem dX6_look_45 : decode cX6_look 45 = .ok (.getfield 44, 3) := by decide +kernel
theorem dX6_look_48 : decode cX6_look 48 = .ok (.ifCond .le 58, 3) := by decide +kernel
theorem dX6_look_51 : decode cX6_look 51 = .ok (.aload_n 0, 1) := by decide +kernel
theorem dX6_look_52 : decode cX6_look 52 = .ok (.invokevirtual 52, 3) := by decide +kernel
theorem dX6_look_55 : decode cX6_look 55 = .ok (.istore 4, 2) := by decide +kernel
theorem dX6_look_57 : decode cX6_look 57 = .ok (.iload 4, 2) := by decide +kernel
theorem dX6_look_59 : decode cX6_look 59 = .ok (.sipush 4095, 3) := by decide +kernel
theorem dX6_look_62 : decode cX6_look 62 = .ok (.iand, 1) := by decide +kernel
theorem dX6_look_63 : decode cX6_look 63 = .ok (.istore 5, 2) := by decide +kernel
theorem dX6_look_65 : decode cX6_look 65 = .ok (.iload 4, 2) := by decide +kernel
theorem dX6_look_67 : decode cX6_look 67 = .ok (.bipush 12, 2) := by decide +kernel
theorem dX6_look_69 : decode cX6_look 69 = .ok (.ishr, 1) := by decide +kernel
theorem dX6_look_70 : decode cX6_look 70 = .ok (.aload_n 0, 1) := by decide +kernel
theorem dX6_look_71 : decode cX6_look 71 = .ok (.iload 5, 2) := by decide +kernel
theorem dX6_look_73 : decode cX6_look 73 = .ok (.invokevirtual 56, 3) := by decide +kernel
theorem dX6_look_76 : decode cX6_look 76 = .ok (.if_icmp .eq 6, 3) := by decide +kernel
theorem dX6_look_79 : decode cX6_look 79 = .ok (.goto 21, 3) := by decide +kernel
theorem dX6_look_82 : decode cX6_look 82 = .ok (.iload 5, 2) := by decide +kernel
theorem dX6_look_84 : decode cX6_look 84 = .ok (.invokestatic 60, 3) := by decide +kernel
theorem dX6_look_87 : decode cX6_look 87 = .ok (.ifCond .eq 6, 3) := by decide +kernel
theorem dX6_look_90 : decode cX6_look 90 = .ok (.iload 5, 2) := by decide +kernel
theorem dX6_look_92 : decode cX6_look 92 = .ok (.ireturn, 1) := by decide +kernel
theorem dX6_look_93 : decode cX6_look 93 = .ok (.aload_n 0, 1) := by decide +kernel
theorem dX6_look_94 : decode cX6_look 94 = .ok (.aload_n 1, 1) := by decide +kernel
theorem dX6_look_95 : decode cX6_look 95 = .ok (.iload 5, 2) := by decide +kernel
theorem dX6_look_97 : decode cX6_look 97 = .ok (.invokevirtual 66, 3) := by decide +kernel
theorem dX6_look_100 : decode cX6_look 100 = .ok (.iinc 3 1, 3) := by decide +kernel
theorem dX6_look_103 : decode cX6_look 103 = .ok (.goto (-66), 3) := by decide +kernel
theorem dX6_look_106 : decode cX6_look 106 = .ok (.iconst 0, 1) := by decide +kernel
theorem dX6_look_107 : decode cX6_look 107 = .ok (.ireturn, 1) := by decide +kernel
set_option maxRecDepth 20000 in
theorem ggX6_goOn_X8_letters : GoodIn wsX6_goOn wsX8_letters := goodIn_r _ [7, 8, 53, 54, 55] (by decide +kernel) (by decide +kernel)
set_option maxRecDepth 20000 in
theorem gX6_goOn_X8_letters : GoodIn wsX6_goOn (wsV RX6 70 RX8 yX8_letters wsX8_letters) := goodIn_app (goodIn_of _ (by decide +kernel)) ggX6_goOn_X8_letters
set_option maxRecDepth 20000 in
theorem ggX6_goOn_X8_after : GoodIn wsX6_goOn wsX8_after := goodIn_r _ [12, 13, 14, 53, 54, 55] (by decide +kernel) (by decide +kernel)
set_option maxRecDepth 20000 in
theorem gX6_goOn_X8_after : GoodIn wsX6_goOn (wsV RX6 73 RX8 yX8_after wsX8_after) := goodIn_app (goodIn_of _ (by decide +kernel)) ggX6_goOn_X8_after
set_option maxRecDepth 20000 in
theorem ggX6_goOn_X6_sumOf : GoodIn wsX6_goOn wsX6_sumOf := goodIn_r _ [19, 20, 48, 49, 50, 51, 52] (by decide +kernel) (by decide +kernel)
set_option maxRecDepth 20000 in
theorem gX6_goOn_X6_sumOf : GoodIn wsX6_goOn (wsV RX6 56 RX6 yX6_sumOf wsX6_sumOf) := goodIn_app (goodIn_of _ (by decide +kernel)) ggX6_goOn_X6_sumOf
set_option maxRecDepth 20000 in
theorem ggX6_goOn_X4_priceOf : GoodIn wsX6_goOn wsX4_priceOf := goodIn_r _ [25, 26, 27, 28, 29, 24, 30, 31, 56, 57, 58, 59, 60, 61] (by decide +kernel) (by decide +kernel)
set_option maxRecDepth 20000 in
theorem gX6_goOn_X4_priceOf : GoodIn wsX6_goOn (wsV RX6 77 RX4 yX4_priceOf wsX4_priceOf) := goodIn_app (goodIn_of _ (by decide +kernel)) ggX6_goOn_X4_priceOf
set_option maxRecDepth 20000 in
theorem ggX6_goOn_X9_mark : GoodIn wsX6_goOn wsX9_mark := goodIn_r _ [36, 37, 62] (by decide +kernel) (by decide +kernel)
set_option maxRecDepth 20000 in
theorem gX6_goOn_X9_mark : GoodIn wsX6_goOn (wsV RX6 82 RX9 yX9_mark wsX9_mark) := goodIn_app (goodIn_of _ (by decide +kernel)) ggX6_goOn_X9_mark
set_option maxRecDepth 20000 in
theorem ggX6_goOn_X6_reach : GoodIn wsX6_goOn wsX6_reach := goodIn_r _ [41, 20, 42, 43, 44, 18, 45, 46, 47, 48, 49, 50, 51, 52] (by decide +kernel) (by decide +kernel)
set_option maxRecDepth 20000 in
theorem gX6_goOn_X6_reach : GoodIn wsX6_goOn (wsV RX6 48 RX6 yX6_reach wsX6_reach) := goodIn_app (goodIn_of _ (by decide +kernel)) ggX6_goOn_X6_reach
theorem dX6_goOn_0 : decode cX6_goOn 0 = .ok (.iconst 0, 1) := by decide +kernel
theorem dX6_goOn_1 : decode cX6_goOn 1 = .ok (.istore_n 3, 1) := by decide +kernel
theorem dX6_goOn_2 : decode cX6_goOn 2 = .ok (.iload_n 3, 1) := by decide +kernel
theorem dX6_goOn_3 : decode cX6_goOn 3 = .ok (.aload_n 0, 1) := by decide +kernel
theorem dX6_goOn_4 : decode cX6_goOn 4 = .ok (.getfield 18, 3) := by decide +kernel
theorem dX6_goOn_7 : decode cX6_goOn 7 = .ok (.invokevirtual 70, 3) := by decide +kernel
theorem dX6_goOn_10 : decode cX6_goOn 10 = .ok (.if_icmp .ge 78, 3) := by decide +kernel
theorem dX6_goOn_13 : decode cX6_goOn 13 = .ok (.aload_n 0, 1) := by decide +kernel
theorem dX6_goOn_14 : decode cX6_goOn 14 = .ok (.getfield 18, 3) := by decide +kernel
theorem dX6_goOn_17 : decode cX6_goOn 17 = .ok (.iload_n 2, 1) := by decide +kernel
theorem dX6_goOn_18 : decode cX6_goOn 18 = .ok (.iload_n 3, 1) := by decide +kernel
theorem dX6_goOn_19 : decode cX6_goOn 19 = .ok (.invokevirtual 73, 3) := by decide +kernel
theorem dX6_goOn_22 : decode cX6_goOn 22 = .ok (.istore 4, 2) := by decide +kernel
theorem dX6_goOn_24 : decode cX6_goOn 24 = .ok (.aload_n 0, 1) := by decide +kernel
theorem dX6_goOn_25 : decode cX6_goOn 25 = .ok (.iload_n 2, 1) := by decide +kernel
theorem dX6_goOn_26 : decode cX6_goOn 26 = .ok (.invokevirtual 56, 3) := by decide +kernel
theorem dX6_goOn_29 : decode cX6_goOn 29 = .ok (.aload_n 1, 1) := by decide +kernel
theorem dX6_goOn_30 : decode cX6_goOn 30 = .ok (.iload_n 3, 1) := by decide +kernel
theorem dX6_goOn_31 : decode cX6_goOn 31 = .ok (.invokevirtual 77, 3) := by decide +kernel
theorem dX6_goOn_34 : decode cX6_goOn 34 = .ok (.iadd, 1) := by decide +kernel
theorem dX6_goOn_35 : decode cX6_goOn 35 = .ok (.istore 5, 2) := by decide +kernel
theorem dX6_goOn_37 : decode cX6_goOn 37 = .ok (.iload 4, 2) := by decide +kernel
theorem dX6_goOn_39 : decode cX6_goOn 39 = .ok (.ifCond .eq 43, 3) := by decide +kernel
theorem dX6_goOn_42 : decode cX6_goOn 42 = .ok (.aload_n 0, 1) := by decide +kernel
theorem dX6_goOn_43 : decode cX6_goOn 43 = .ok (.iload 4, 2) := by decide +kernel
theorem dX6_goOn_45 : decode cX6_goOn 45 = .ok (.invokevirtual 56, 3) := by decide +kernel
theorem dX6_goOn_48 : decode cX6_goOn 48 = .ok (.iconst (-1), 1) := by decide +kernel
theorem dX6_goOn_49 : decode cX6_goOn 49 = .ok (.if_icmp .eq 14, 3) := by decide +kernel
theorem dX6_goOn_52 : decode cX6_goOn 52 = .ok (.aload_n 0, 1) := by decide +kernel
theorem dX6_goOn_53 : decode cX6_goOn 53 = .ok (.iload 4, 2) := by decide +kernel
theorem dX6_goOn_55 : decode cX6_goOn 55 = .ok (.invokevirtual 56, 3) := by decide +kernel
theorem dX6_goOn_58 : decode cX6_goOn 58 = .ok (.iload 5, 2) := by decide +kernel
theorem dX6_goOn_60 : decode cX6_goOn 60 = .ok (.if_icmp .le 22, 3) := by decide +kernel
theorem dX6_goOn_63 : decode cX6_goOn 63 = .ok (.aload_n 0, 1) := by decide +kernel
theorem dX6_goOn_64 : decode cX6_goOn 64 = .ok (.getfield 22, 3) := by decide +kernel
theorem dX6_goOn_67 : decode cX6_goOn 67 = .ok (.iload 4, 2) := by decide +kernel
theorem dX6_goOn_69 : decode cX6_goOn 69 = .ok (.iload_n 2, 1) := by decide +kernel
theorem dX6_goOn_70 : decode cX6_goOn 70 = .ok (.iload_n 3, 1) := by decide +kernel
theorem dX6_goOn_71 : decode cX6_goOn 71 = .ok (.invokevirtual 82, 3) := by decide +kernel
theorem dX6_goOn_74 : decode cX6_goOn 74 = .ok (.aload_n 0, 1) := by decide +kernel
theorem dX6_goOn_75 : decode cX6_goOn 75 = .ok (.iload 4, 2) := by decide +kernel
theorem dX6_goOn_77 : decode cX6_goOn 77 = .ok (.iload 5, 2) := by decide +kernel
theorem dX6_goOn_79 : decode cX6_goOn 79 = .ok (.invokevirtual 48, 3) := by decide +kernel
theorem dX6_goOn_82 : decode cX6_goOn 82 = .ok (.iinc 3 1, 3) := by decide +kernel
theorem dX6_goOn_85 : decode cX6_goOn 85 = .ok (.goto (-83), 3) := by decide +kernel
theorem dX6_goOn_88 : decode cX6_goOn 88 = .ok (.return_, 1) := by decide +kernel
set_option maxRecDepth 20000 in
theorem ggX6_reach_X6_addKey : GoodIn wsX6_reach wsX6_addKey := goodIn_r _ [6, 7, 8, 9, 10, 11, 12, 13] (by decide +kernel) (by decide +kernel)
set_option maxRecDepth 20000 in
theorem gX6_reach_X6_addKey : GoodIn wsX6_reach (wsV RX6 86 RX6 yX6_addKey wsX6_addKey) := goodIn_app (goodIn_of _ (by decide +kernel)) ggX6_reach_X6_addKey
theorem dX6_reach_0 : decode cX6_reach 0 = .ok (.iload_n 1, 1) := by decide +kernel
theorem dX6_reach_1 : decode cX6_reach 1 = .ok (.ifCond .le 28, 3) := by decide +kernel
theorem dX6_reach_4 : decode cX6_reach 4 = .ok (.iload_n 1, 1) := by decide +kernel
theorem dX6_reach_5 : decode cX6_reach 5 = .ok (.sipush 4096, 3) := by decide +kernel
theorem dX6_reach_8 : decode cX6_reach 8 = .ok (.if_icmp .ge 21, 3) := by decide +kernel
theorem dX6_reach_11 : decode cX6_reach 11 = .ok (.aload_n 0, 1) := by decide +kernel
theorem dX6_reach_12 : decode cX6_reach 12 = .ok (.getfield 9, 3) := by decide +kernel
theorem dX6_reach_15 : decode cX6_reach 15 = .ok (.iload_n 1, 1) := by decide +kernel
theorem dX6_reach_16 : decode cX6_reach 16 = .ok (.iload_n 2, 1) := by decide +kernel
theorem dX6_reach_17 : decode cX6_reach 17 = .ok (.iastore, 1) := by decide +kernel
theorem dX6_reach_18 : decode cX6_reach 18 = .ok (.aload_n 0, 1) := by decide +kernel
theorem dX6_reach_19 : decode cX6_reach 19 = .ok (.iload_n 2, 1) := by decide +kernel
theorem dX6_reach_20 : decode cX6_reach 20 = .ok (.sipush 4096, 3) := by decide +kernel
theorem dX6_reach_23 : decode cX6_reach 23 = .ok (.imul, 1) := by decide +kernel
theorem dX6_reach_24 : decode cX6_reach 24 = .ok (.iload_n 1, 1) := by decide +kernel
theorem dX6_reach_25 : decode cX6_reach 25 = .ok (.iadd, 1) := by decide +kernel
theorem dX6_reach_26 : decode cX6_reach 26 = .ok (.invokevirtual 86, 3) := by decide +kernel
theorem dX6_reach_29 : decode cX6_reach 29 = .ok (.return_, 1) := by decide +kernel
theorem dX6_sumOf_0 : decode cX6_sumOf 0 = .ok (.iload_n 1, 1) := by decide +kernel
theorem dX6_sumOf_1 : decode cX6_sumOf 1 = .ok (.ifCond .le 19, 3) := by decide +kernel
theorem dX6_sumOf_4 : decode cX6_sumOf 4 = .ok (.iload_n 1, 1) := by decide +kernel
theorem dX6_sumOf_5 : decode cX6_sumOf 5 = .ok (.sipush 4096, 3) := by decide +kernel
theorem dX6_sumOf_8 : decode cX6_sumOf 8 = .ok (.if_icmp .ge 12, 3) := by decide +kernel
theorem dX6_sumOf_11 : decode cX6_sumOf 11 = .ok (.aload_n 0, 1) := by decide +kernel
theorem dX6_sumOf_12 : decode cX6_sumOf 12 = .ok (.getfield 9, 3) := by decide +kernel
theorem dX6_sumOf_15 : decode cX6_sumOf 15 = .ok (.iload_n 1, 1) := by decide +kernel
theorem dX6_sumOf_16 : decode cX6_sumOf 16 = .ok (.iaload, 1) := by decide +kernel
theorem dX6_sumOf_17 : decode cX6_sumOf 17 = .ok (.goto 4, 3) := by decide +kernel
theorem dX6_sumOf_20 : decode cX6_sumOf 20 = .ok (.iconst (-1), 1) := by decide +kernel
theorem dX6_sumOf_21 : decode cX6_sumOf 21 = .ok (.ireturn, 1) := by decide +kernel
theorem dX6_addKey_0 : decode cX6_addKey 0 = .ok (.aload_n 0, 1) := by decide +kernel
theorem dX6_addKey_1 : decode cX6_addKey 1 = .ok (.getfield 44, 3) := by decide +kernel
theorem dX6_addKey_4 : decode cX6_addKey 4 = .ok (.ifCond .lt 13, 3) := by decide +kernel
theorem dX6_addKey_7 : decode cX6_addKey 7 = .ok (.aload_n 0, 1) := by decide +kernel
theorem dX6_addKey_8 : decode cX6_addKey 8 = .ok (.getfield 44, 3) := by decide +kernel
theorem dX6_addKey_11 : decode cX6_addKey 11 = .ok (.sipush 16385, 3) := by decide +kernel
theorem dX6_addKey_14 : decode cX6_addKey 14 = .ok (.if_icmp .lt 4, 3) := by decide +kernel
theorem dX6_addKey_17 : decode cX6_addKey 17 = .ok (.return_, 1) := by decide +kernel
theorem dX6_addKey_18 : decode cX6_addKey 18 = .ok (.aload_n 0, 1) := by decide +kernel
theorem dX6_addKey_19 : decode cX6_addKey 19 = .ok (.getfield 44, 3) := by decide +kernel
theorem dX6_addKey_22 : decode cX6_addKey 22 = .ok (.istore_n 2, 1) := by decide +kernel
theorem dX6_addKey_23 : decode cX6_addKey 23 = .ok (.aload_n 0, 1) := by decide +kernel
theorem dX6_addKey_24 : decode cX6_addKey 24 = .ok (.dup, 1) := by decide +kernel
theorem dX6_addKey_25 : decode cX6_addKey 25 = .ok (.getfield 44, 3) := by decide +kernel
theorem dX6_addKey_28 : decode cX6_addKey 28 = .ok (.iconst 1, 1) := by decide +kernel
theorem dX6_addKey_29 : decode cX6_addKey 29 = .ok (.iadd, 1) := by decide +kernel
theorem dX6_addKey_30 : decode cX6_addKey 30 = .ok (.putfield 44, 3) := by decide +kernel
theorem dX6_addKey_33 : decode cX6_addKey 33 = .ok (.iconst 0, 1) := by decide +kernel
theorem dX6_addKey_34 : decode cX6_addKey 34 = .ok (.istore_n 3, 1) := by decide +kernel
theorem dX6_addKey_35 : decode cX6_addKey 35 = .ok (.iload_n 3, 1) := by decide +kernel
theorem dX6_addKey_36 : decode cX6_addKey 36 = .ok (.sipush 16385, 3) := by decide +kernel
theorem dX6_addKey_39 : decode cX6_addKey 39 = .ok (.if_icmp .ge 50, 3) := by decide +kernel
theorem dX6_addKey_42 : decode cX6_addKey 42 = .ok (.iload_n 2, 1) := by decide +kernel
theorem dX6_addKey_43 : decode cX6_addKey 43 = .ok (.ifCond .le 46, 3) := by decide +kernel
theorem dX6_addKey_46 : decode cX6_addKey 46 = .ok (.iload_n 2, 1) := by decide +kernel
theorem dX6_addKey_47 : decode cX6_addKey 47 = .ok (.iconst 1, 1) := by decide +kernel
theorem dX6_addKey_48 : decode cX6_addKey 48 = .ok (.isub, 1) := by decide +kernel
theorem dX6_addKey_49 : decode cX6_addKey 49 = .ok (.iconst 2, 1) := by decide +kernel
theorem dX6_addKey_50 : decode cX6_addKey 50 = .ok (.idiv, 1) := by decide +kernel
theorem dX6_addKey_51 : decode cX6_addKey 51 = .ok (.istore 4, 2) := by decide +kernel
theorem dX6_addKey_53 : decode cX6_addKey 53 = .ok (.aload_n 0, 1) := by decide +kernel
theorem dX6_addKey_54 : decode cX6_addKey 54 = .ok (.getfield 15, 3) := by decide +kernel
theorem dX6_addKey_57 : decode cX6_addKey 57 = .ok (.iload 4, 2) := by decide +kernel
theorem dX6_addKey_59 : decode cX6_addKey 59 = .ok (.iaload, 1) := by decide +kernel
theorem dX6_addKey_60 : decode cX6_addKey 60 = .ok (.iload_n 1, 1) := by decide +kernel
theorem dX6_addKey_61 : decode cX6_addKey 61 = .ok (.if_icmp .gt 6, 3) := by decide +kernel
theorem dX6_addKey_64 : decode cX6_addKey 64 = .ok (.goto 25, 3) := by decide +kernel
theorem dX6_addKey_67 : decode cX6_addKey 67 = .ok (.aload_n 0, 1) := by decide +kernel
theorem dX6_addKey_68 : decode cX6_addKey 68 = .ok (.getfield 15, 3) := by decide +kernel
theorem dX6_addKey_71 : decode cX6_addKey 71 = .ok (.iload_n 2, 1) := by decide +kernel
theorem dX6_addKey_72 : decode cX6_addKey 72 = .ok (.aload_n 0, 1) := by decide +kernel
theorem dX6_addKey_73 : decode cX6_addKey 73 = .ok (.getfield 15, 3) := by decide +kernel
theorem dX6_addKey_76 : decode cX6_addKey 76 = .ok (.iload 4, 2) := by decide +kernel
theorem dX6_addKey_78 : decode cX6_addKey 78 = .ok (.iaload, 1) := by decide +kernel
theorem dX6_addKey_79 : decode cX6_addKey 79 = .ok (.iastore, 1) := by decide +kernel
theorem dX6_addKey_80 : decode cX6_addKey 80 = .ok (.iload 4, 2) := by decide +kernel
theorem dX6_addKey_82 : decode cX6_addKey 82 = .ok (.istore_n 2, 1) := by decide +kernel
theorem dX6_addKey_83 : decode cX6_addKey 83 = .ok (.iinc 3 1, 3) := by decide +kernel
theorem dX6_addKey_86 : decode cX6_addKey 86 = .ok (.goto (-51), 3) := by decide +kernel
theorem dX6_addKey_89 : decode cX6_addKey 89 = .ok (.aload_n 0, 1) := by decide +kernel
theorem dX6_addKey_90 : decode cX6_addKey 90 = .ok (.getfield 15, 3) := by decide +kernel
theorem dX6_addKey_93 : decode cX6_addKey 93 = .ok (.iload_n 2, 1) := by decide +kernel
theorem dX6_addKey_94 : decode cX6_addKey 94 = .ok (.iload_n 1, 1) := by decide +kernel
theorem dX6_addKey_95 : decode cX6_addKey 95 = .ok (.iastore, 1) := by decide +kernel
theorem dX6_addKey_96 : decode cX6_addKey 96 = .ok (.return_, 1) := by decide +kernel
set_option maxRecDepth 20000 in
theorem ggX6_takeKey_X6_sink : GoodIn wsX6_takeKey wsX6_sink := goodIn_r _ [7, 1, 2, 8, 9, 10, 11, 12] (by decide +kernel) (by decide +kernel)
set_option maxRecDepth 20000 in
theorem gX6_takeKey_X6_sink : GoodIn wsX6_takeKey (wsV RX6 89 RX6 yX6_sink wsX6_sink) := goodIn_app (goodIn_of _ (by decide +kernel)) ggX6_takeKey_X6_sink
theorem dX6_takeKey_0 : decode cX6_takeKey 0 = .ok (.aload_n 0, 1) := by decide +kernel
theorem dX6_takeKey_1 : decode cX6_takeKey 1 = .ok (.getfield 44, 3) := by decide +kernel
theorem dX6_takeKey_4 : decode cX6_takeKey 4 = .ok (.ifCond .le 13, 3) := by decide +kernel
theorem dX6_takeKey_7 : decode cX6_takeKey 7 = .ok (.aload_n 0, 1) := by decide +kernel
theorem dX6_takeKey_8 : decode cX6_takeKey 8 = .ok (.getfield 44, 3) := by decide +kernel
theorem dX6_takeKey_11 : decode cX6_takeKey 11 = .ok (.sipush 16385, 3) := by decide +kernel
theorem dX6_takeKey_14 : decode cX6_takeKey 14 = .ok (.if_icmp .le 5, 3) := by decide +kernel
theorem dX6_takeKey_17 : decode cX6_takeKey 17 = .ok (.iconst 0, 1) := by decide +kernel
theorem dX6_takeKey_18 : decode cX6_takeKey 18 = .ok (.ireturn, 1) := by decide +kernel
theorem dX6_takeKey_19 : decode cX6_takeKey 19 = .ok (.aload_n 0, 1) := by decide +kernel
theorem dX6_takeKey_20 : decode cX6_takeKey 20 = .ok (.getfield 15, 3) := by decide +kernel
theorem dX6_takeKey_23 : decode cX6_takeKey 23 = .ok (.iconst 0, 1) := by decide +kernel
theorem dX6_takeKey_24 : decode cX6_takeKey 24 = .ok (.iaload, 1) := by decide +kernel
theorem dX6_takeKey_25 : decode cX6_takeKey 25 = .ok (.istore_n 1, 1) := by decide +kernel
theorem dX6_takeKey_26 : decode cX6_takeKey 26 = .ok (.aload_n 0, 1) := by decide +kernel
theorem dX6_takeKey_27 : decode cX6_takeKey 27 = .ok (.dup, 1) := by decide +kernel
theorem dX6_takeKey_28 : decode cX6_takeKey 28 = .ok (.getfield 44, 3) := by decide +kernel
theorem dX6_takeKey_31 : decode cX6_takeKey 31 = .ok (.iconst 1, 1) := by decide +kernel
theorem dX6_takeKey_32 : decode cX6_takeKey 32 = .ok (.isub, 1) := by decide +kernel
theorem dX6_takeKey_33 : decode cX6_takeKey 33 = .ok (.putfield 44, 3) := by decide +kernel
theorem dX6_takeKey_36 : decode cX6_takeKey 36 = .ok (.aload_n 0, 1) := by decide +kernel
theorem dX6_takeKey_37 : decode cX6_takeKey 37 = .ok (.aload_n 0, 1) := by decide +kernel
theorem dX6_takeKey_38 : decode cX6_takeKey 38 = .ok (.getfield 15, 3) := by decide +kernel
theorem dX6_takeKey_41 : decode cX6_takeKey 41 = .ok (.aload_n 0, 1) := by decide +kernel
theorem dX6_takeKey_42 : decode cX6_takeKey 42 = .ok (.getfield 44, 3) := by decide +kernel
theorem dX6_takeKey_45 : decode cX6_takeKey 45 = .ok (.iaload, 1) := by decide +kernel
theorem dX6_takeKey_46 : decode cX6_takeKey 46 = .ok (.invokevirtual 89, 3) := by decide +kernel
theorem dX6_takeKey_49 : decode cX6_takeKey 49 = .ok (.iload_n 1, 1) := by decide +kernel
theorem dX6_takeKey_50 : decode cX6_takeKey 50 = .ok (.ireturn, 1) := by decide +kernel
theorem dX6_sink_0 : decode cX6_sink 0 = .ok (.iconst 0, 1) := by decide +kernel
theorem dX6_sink_1 : decode cX6_sink 1 = .ok (.istore_n 2, 1) := by decide +kernel
theorem dX6_sink_2 : decode cX6_sink 2 = .ok (.iconst 1, 1) := by decide +kernel
theorem dX6_sink_3 : decode cX6_sink 3 = .ok (.istore_n 3, 1) := by decide +kernel
theorem dX6_sink_4 : decode cX6_sink 4 = .ok (.iload_n 3, 1) := by decide +kernel
theorem dX6_sink_5 : decode cX6_sink 5 = .ok (.aload_n 0, 1) := by decide +kernel
theorem dX6_sink_6 : decode cX6_sink 6 = .ok (.getfield 44, 3) := by decide +kernel
theorem dX6_sink_9 : decode cX6_sink 9 = .ok (.if_icmp .ge 85, 3) := by decide +kernel
theorem dX6_sink_12 : decode cX6_sink 12 = .ok (.iload_n 3, 1) := by decide +kernel
theorem dX6_sink_13 : decode cX6_sink 13 = .ok (.sipush 16385, 3) := by decide +kernel
theorem dX6_sink_16 : decode cX6_sink 16 = .ok (.if_icmp .ge 78, 3) := by decide +kernel
theorem dX6_sink_19 : decode cX6_sink 19 = .ok (.iload_n 3, 1) := by decide +kernel
theorem dX6_sink_20 : decode cX6_sink 20 = .ok (.iconst 1, 1) := by decide +kernel
theorem dX6_sink_21 : decode cX6_sink 21 = .ok (.iadd, 1) := by decide +kernel
theorem dX6_sink_22 : decode cX6_sink 22 = .ok (.aload_n 0, 1) := by decide +kernel
theorem dX6_sink_23 : decode cX6_sink 23 = .ok (.getfield 44, 3) := by decide +kernel
theorem dX6_sink_26 : decode cX6_sink 26 = .ok (.if_icmp .ge 32, 3) := by decide +kernel
theorem dX6_sink_29 : decode cX6_sink 29 = .ok (.iload_n 3, 1) := by decide +kernel
theorem dX6_sink_30 : decode cX6_sink 30 = .ok (.iconst 1, 1) := by decide +kernel
theorem dX6_sink_31 : decode cX6_sink 31 = .ok (.iadd, 1) := by decide +kernel
theorem dX6_sink_32 : decode cX6_sink 32 = .ok (.sipush 16385, 3) := by decide +kernel
theorem dX6_sink_35 : decode cX6_sink 35 = .ok (.if_icmp .ge 23, 3) := by decide +kernel
theorem dX6_sink_38 : decode cX6_sink 38 = .ok (.aload_n 0, 1) := by decide +kernel
theorem dX6_sink_39 : decode cX6_sink 39 = .ok (.getfield 15, 3) := by decide +kernel
theorem dX6_sink_42 : decode cX6_sink 42 = .ok (.iload_n 3, 1) := by decide +kernel
theorem dX6_sink_43 : decode cX6_sink 43 = .ok (.iconst 1, 1) := by decide +kernel
theorem dX6_sink_44 : decode cX6_sink 44 = .ok (.iadd, 1) := by decide +kernel
theorem dX6_sink_45 : decode cX6_sink 45 = .ok (.iaload, 1) := by decide +kernel
theorem dX6_sink_46 : decode cX6_sink 46 = .ok (.aload_n 0, 1) := by decide +kernel
theorem dX6_sink_47 : decode cX6_sink 47 = .ok (.getfield 15, 3) := by decide +kernel
theorem dX6_sink_50 : decode cX6_sink 50 = .ok (.iload_n 3, 1) := by decide +kernel
theorem dX6_sink_51 : decode cX6_sink 51 = .ok (.iaload, 1) := by decide +kernel
theorem dX6_sink_52 : decode cX6_sink 52 = .ok (.if_icmp .ge 6, 3) := by decide +kernel
theorem dX6_sink_55 : decode cX6_sink 55 = .ok (.iinc 3 1, 3) := by decide +kernel
theorem dX6_sink_58 : decode cX6_sink 58 = .ok (.aload_n 0, 1) := by decide +kernel
theorem dX6_sink_59 : decode cX6_sink 59 = .ok (.getfield 15, 3) := by decide +kernel
theorem dX6_sink_62 : decode cX6_sink 62 = .ok (.iload_n 3, 1) := by decide +kernel
theorem dX6_sink_63 : decode cX6_sink 63 = .ok (.iaload, 1) := by decide +kernel
theorem dX6_sink_64 : decode cX6_sink 64 = .ok (.iload_n 1, 1) := by decide +kernel
theorem dX6_sink_65 : decode cX6_sink 65 = .ok (.if_icmp .lt 6, 3) := by decide +kernel
theorem dX6_sink_68 : decode cX6_sink 68 = .ok (.goto 26, 3) := by decide +kernel
theorem dX6_sink_71 : decode cX6_sink 71 = .ok (.aload_n 0, 1) := by decide +kernel
theorem dX6_sink_72 : decode cX6_sink 72 = .ok (.getfield 15, 3) := by decide +kernel
theorem dX6_sink_75 : decode cX6_sink 75 = .ok (.iload_n 2, 1) := by decide +kernel
theorem dX6_sink_76 : decode cX6_sink 76 = .ok (.aload_n 0, 1) := by decide +kernel
theorem dX6_sink_77 : decode cX6_sink 77 = .ok (.getfield 15, 3) := by decide +kernel
theorem dX6_sink_80 : decode cX6_sink 80 = .ok (.iload_n 3, 1) := by decide +kernel
theorem dX6_sink_81 : decode cX6_sink 81 = .ok (.iaload, 1) := by decide +kernel
theorem dX6_sink_82 : decode cX6_sink 82 = .ok (.iastore, 1) := by decide +kernel
theorem dX6_sink_83 : decode cX6_sink 83 = .ok (.iload_n 3, 1) := by decide +kernel
theorem dX6_sink_84 : decode cX6_sink 84 = .ok (.istore_n 2, 1) := by decide +kernel
theorem dX6_sink_85 : decode cX6_sink 85 = .ok (.iconst 2, 1) := by decide +kernel
theorem dX6_sink_86 : decode cX6_sink 86 = .ok (.iload_n 2, 1) := by decide +kernel
theorem dX6_sink_87 : decode cX6_sink 87 = .ok (.imul, 1) := by decide +kernel
theorem dX6_sink_88 : decode cX6_sink 88 = .ok (.iconst 1, 1) := by decide +kernel
theorem dX6_sink_89 : decode cX6_sink 89 = .ok (.iadd, 1) := by decide +kernel
theorem dX6_sink_90 : decode cX6_sink 90 = .ok (.istore_n 3, 1) := by decide +kernel
theorem dX6_sink_91 : decode cX6_sink 91 = .ok (.goto (-87), 3) := by decide +kernel
theorem dX6_sink_94 : decode cX6_sink 94 = .ok (.aload_n 0, 1) := by decide +kernel
theorem dX6_sink_95 : decode cX6_sink 95 = .ok (.getfield 15, 3) := by decide +kernel
theorem dX6_sink_98 : decode cX6_sink 98 = .ok (.iload_n 2, 1) := by decide +kernel
theorem dX6_sink_99 : decode cX6_sink 99 = .ok (.iload_n 1, 1) := by decide +kernel
theorem dX6_sink_100 : decode cX6_sink 100 = .ok (.iastore, 1) := by decide +kernel
theorem dX6_sink_101 : decode cX6_sink 101 = .ok (.return_, 1) := by decide +kernel
theorem dX7_init_0 : decode cX7_init 0 = .ok (.aload_n 0, 1) := by decide +kernel
theorem dX7_init_1 : decode cX7_init 1 = .ok (.invokespecial 3, 3) := by decide +kernel
theorem dX7_init_4 : decode cX7_init 4 = .ok (.aload_n 0, 1) := by decide +kernel
theorem dX7_init_5 : decode cX7_init 5 = .ok (.sipush 4096, 3) := by decide +kernel
theorem dX7_init_8 : decode cX7_init 8 = .ok (.newarray .int, 2) := by decide +kernel
theorem dX7_init_10 : decode cX7_init 10 = .ok (.putfield 9, 3) := by decide +kernel
theorem dX7_init_13 : decode cX7_init 13 = .ok (.aload_n 0, 1) := by decide +kernel
theorem dX7_init_14 : decode cX7_init 14 = .ok (.aload_n 1, 1) := by decide +kernel
theorem dX7_init_15 : decode cX7_init 15 = .ok (.putfield 15, 3) := by decide +kernel
theorem dX7_init_18 : decode cX7_init 18 = .ok (.aload_n 0, 1) := by decide +kernel
theorem dX7_init_19 : decode cX7_init 19 = .ok (.aload_n 2, 1) := by decide +kernel
theorem dX7_init_20 : decode cX7_init 20 = .ok (.putfield 19, 3) := by decide +kernel
theorem dX7_init_23 : decode cX7_init 23 = .ok (.return_, 1) := by decide +kernel
set_option maxRecDepth 20000 in
theorem ggX7_look_X8_load : GoodIn wsX7_look wsX8_load := goodIn_r _ [9, 10, 11, 12, 13, 14, 15, 16, 17, 18, 19, 20, 8, 21, 22, 23, 24, 25, 26, 27, 28, 29, 30, 31, 73, 74, 75, 76, 77, 78, 79, 80, 81] (by decide +kernel) (by decide +kernel)
set_option maxRecDepth 20000 in
theorem gX7_look_X8_load : GoodIn wsX7_look (wsV RX7 23 RX8 yX8_load wsX8_load) := goodIn_app (goodIn_of _ (by decide +kernel)) ggX7_look_X8_load
set_option maxRecDepth 20000 in
theorem ggX7_look_X9_begin : GoodIn wsX7_look wsX9_begin := goodIn_r _ [36, 37, 38, 39, 40, 41, 82] (by decide +kernel) (by decide +kernel)
set_option maxRecDepth 20000 in
theorem gX7_look_X9_begin : GoodIn wsX7_look (wsV RX7 29 RX9 yX9_begin wsX9_begin) := goodIn_app (goodIn_of _ (by decide +kernel)) ggX7_look_X9_begin
set_option maxRecDepth 20000 in
theorem ggX7_look_X7_isWanted : GoodIn wsX7_look wsX7_isWanted := goodIn_r _ [45, 46, 47, 44, 48] (by decide +kernel) (by decide +kernel)
set_option maxRecDepth 20000 in
theorem gX7_look_X7_isWanted : GoodIn wsX7_look (va_wsS RX7 39 yX7_isWanted wsX7_isWanted) := goodIn_app (goodIn_of _ (by decide +kernel)) ggX7_look_X7_isWanted
set_option maxRecDepth 20000 in
theorem ggX7_look_X7_lookFrom : GoodIn wsX7_look wsX7_lookFrom := goodIn_r _ [52, 1, 2, 4, 3, 53, 54, 55, 8, 56, 10, 57, 58, 59, 60, 11, 12, 61, 62, 63, 35, 64, 37, 65, 66, 67, 68, 42, 43, 44, 45, 46, 47, 48, 69, 70, 71, 72, 73, 74, 75, 82] (by decide +kernel) (by decide +kernel)
set_option maxRecDepth 20000 in
theorem gX7_look_X7_lookFrom : GoodIn wsX7_look (wsV RX7 43 RX7 yX7_lookFrom wsX7_lookFrom) := goodIn_app (goodIn_of _ (by decide +kernel)) ggX7_look_X7_lookFrom
theorem dX7_look_0 : decode cX7_look 0 = .ok (.aload_n 0, 1) := by decide +kernel
theorem dX7_look_1 : decode cX7_look 1 = .ok (.getfield 15, 3) := by decide +kernel
theorem dX7_look_4 : decode cX7_look 4 = .ok (.aload_n 1, 1) := by decide +kernel
theorem dX7_look_5 : decode cX7_look 5 = .ok (.invokevirtual 23, 3) := by decide +kernel
theorem dX7_look_8 : decode cX7_look 8 = .ok (.aload_n 0, 1) := by decide +kernel
theorem dX7_look_9 : decode cX7_look 9 = .ok (.getfield 19, 3) := by decide +kernel
theorem dX7_look_12 : decode cX7_look 12 = .ok (.iload_n 2, 1) := by decide +kernel
theorem dX7_look_13 : decode cX7_look 13 = .ok (.invokevirtual 29, 3) := by decide +kernel
theorem dX7_look_16 : decode cX7_look 16 = .ok (.aload_n 0, 1) := by decide +kernel
theorem dX7_look_17 : decode cX7_look 17 = .ok (.getfield 9, 3) := by decide +kernel
theorem dX7_look_20 : decode cX7_look 20 = .ok (.iconst 0, 1) := by decide +kernel
theorem dX7_look_21 : decode cX7_look 21 = .ok (.iload_n 2, 1) := by decide +kernel
theorem dX7_look_22 : decode cX7_look 22 = .ok (.iastore, 1) := by decide +kernel
theorem dX7_look_23 : decode cX7_look 23 = .ok (.aload_n 0, 1) := by decide +kernel
theorem dX7_look_24 : decode cX7_look 24 = .ok (.iconst 1, 1) := by decide +kernel
theorem dX7_look_25 : decode cX7_look 25 = .ok (.putfield 35, 3) := by decide +kernel
theorem dX7_look_28 : decode cX7_look 28 = .ok (.iload_n 2, 1) := by decide +kernel
theorem dX7_look_29 : decode cX7_look 29 = .ok (.iload_n 3, 1) := by decide +kernel
theorem dX7_look_30 : decode cX7_look 30 = .ok (.invokestatic 39, 3) := by decide +kernel
theorem dX7_look_33 : decode cX7_look 33 = .ok (.ifCond .eq 5, 3) := by decide +kernel
theorem dX7_look_36 : decode cX7_look 36 = .ok (.iload_n 2, 1) := by decide +kernel
theorem dX7_look_37 : decode cX7_look 37 = .ok (.ireturn, 1) := by decide +kernel
theorem dX7_look_38 : decode cX7_look 38 = .ok (.iconst 0, 1) := by decide +kernel
theorem dX7_look_39 : decode cX7_look 39 = .ok (.istore 4, 2) := by decide +kernel
theorem dX7_look_41 : decode cX7_look 41 = .ok (.iload 4, 2) := by decide +kernel
theorem dX7_look_43 : decode cX7_look 43 = .ok (.aload_n 0, 1) := by decide +kernel
theorem dX7_look_44 : decode cX7_look 44 = .ok (.getfield 35, 3) := by decide +kernel
theorem dX7_look_47 : decode cX7_look 47 = .ok (.if_icmp .ge 39, 3) := by decide +kernel
theorem dX7_look_50 : decode cX7_look 50 = .ok (.iload 4, 2) := by decide +kernel
theorem dX7_look_52 : decode cX7_look 52 = .ok (.sipush 4096, 3) := by decide +kernel
theorem dX7_look_55 : decode cX7_look 55 = .ok (.if_icmp .ge 31, 3) := by decide +kernel
theorem dX7_look_58 : decode cX7_look 58 = .ok (.aload_n 0, 1) := by decide +kernel
theorem dX7_look_59 : decode cX7_look 59 = .ok (.aload_n 0, 1) := by decide +kernel
theorem dX7_look_60 : decode cX7_look 60 = .ok (.getfield 9, 3) := by decide +kernel
theorem dX7_look_63 : decode cX7_look 63 = .ok (.iload 4, 2) := by decide +kernel
theorem dX7_look_65 : decode cX7_look 65 = .ok (.iaload, 1) := by decide +kernel
theorem dX7_look_66 : decode cX7_look 66 = .ok (.iload_n 3, 1) := by decide +kernel
theorem dX7_look_67 : decode cX7_look 67 = .ok (.invokevirtual 43, 3) := by decide +kernel
theorem dX7_look_70 : decode cX7_look 70 = .ok (.istore 5, 2) := by decide +kernel
theorem dX7_look_72 : decode cX7_look 72 = .ok (.iload 5, 2) := by decide +kernel
theorem dX7_look_74 : decode cX7_look 74 = .ok (.ifCond .eq 6, 3) := by decide +kernel
theorem dX7_look_77 : decode cX7_look 77 = .ok (.iload 5, 2) := by decide +kernel
theorem dX7_look_79 : decode cX7_look 79 = .ok (.ireturn, 1) := by decide +kernel
theorem dX7_look_80 : decode cX7_look 80 = .ok (.iinc 4 1, 3) := by decide +kernel
theorem dX7_look_83 : decode cX7_look 83 = .ok (.goto (-42), 3) := by decide +kernel
theorem dX7_look_86 : decode cX7_look 86 = .ok (.iconst 0, 1) := by decide +kernel
theorem dX7_look_87 : decode cX7_look 87 = .ok (.ireturn, 1) := by decide +kernel
set_option maxRecDepth 20000 in
theorem ggX7_lookFrom_X8_letters : GoodIn wsX7_lookFrom wsX8_letters := goodIn_r _ [9, 10, 38, 39, 40] (by decide +kernel) (by decide +kernel)
set_option maxRecDepth 20000 in
theorem gX7_lookFrom_X8_letters : GoodIn wsX7_lookFrom (wsV RX7 47 RX8 yX8_letters wsX8_letters) := goodIn_app (goodIn_of _ (by decide +kernel)) ggX7_lookFrom_X8_letters
set_option maxRecDepth 20000 in
theorem ggX7_lookFrom_X8_after : GoodIn wsX7_lookFrom wsX8_after := goodIn_r _ [14, 15, 16, 38, 39, 40] (by decide +kernel) (by decide +kernel)
set_option maxRecDepth 20000 in
theorem gX7_lookFrom_X8_after : GoodIn wsX7_lookFrom (wsV RX7 51 RX8 yX8_after wsX8_after) := goodIn_app (goodIn_of _ (by decide +kernel)) ggX7_lookFrom_X8_after
set_option maxRecDepth 20000 in
theorem ggX7_lookFrom_X9_knows : GoodIn wsX7_lookFrom wsX9_knows := goodIn_r _ [21, 22, 41] (by decide +kernel) (by decide +kernel)
set_option maxRecDepth 20000 in
theorem gX7_lookFrom_X9_knows : GoodIn wsX7_lookFrom (wsV RX7 54 RX9 yX9_knows wsX9_knows) := goodIn_app (goodIn_of _ (by decide +kernel)) ggX7_lookFrom_X9_knows
set_option maxRecDepth 20000 in
theorem ggX7_lookFrom_X9_mark : GoodIn wsX7_lookFrom wsX9_mark := goodIn_r _ [26, 22, 41] (by decide +kernel) (by decide +kernel)
set_option maxRecDepth 20000 in
theorem gX7_lookFrom_X9_mark : GoodIn wsX7_lookFrom (wsV RX7 58 RX9 yX9_mark wsX9_mark) := goodIn_app (goodIn_of _ (by decide +kernel)) ggX7_lookFrom_X9_mark
set_option maxRecDepth 20000 in
theorem ggX7_lookFrom_X7_isWanted : GoodIn wsX7_lookFrom wsX7_isWanted := goodIn_r _ [30, 31, 32, 29, 33] (by decide +kernel) (by decide +kernel)
set_option maxRecDepth 20000 in
theorem gX7_lookFrom_X7_isWanted : GoodIn wsX7_lookFrom (va_wsS RX7 39 yX7_isWanted wsX7_isWanted) := goodIn_app (goodIn_of _ (by decide +kernel)) ggX7_lookFrom_X7_isWanted
theorem dX7_lookFrom_0 : decode cX7_lookFrom 0 = .ok (.iconst 0, 1) := by decide +kernel
theorem dX7_lookFrom_1 : decode cX7_lookFrom 1 = .ok (.istore_n 3, 1) := by decide +kernel
theorem dX7_lookFrom_2 : decode cX7_lookFrom 2 = .ok (.iload_n 3, 1) := by decide +kernel
theorem dX7_lookFrom_3 : decode cX7_lookFrom 3 = .ok (.aload_n 0, 1) := by decide +kernel
theorem dX7_lookFrom_4 : decode cX7_lookFrom 4 = .ok (.getfield 15, 3) := by decide +kernel
theorem dX7_lookFrom_7 : decode cX7_lookFrom 7 = .ok (.invokevirtual 47, 3) := by decide +kernel
theorem dX7_lookFrom_10 : decode cX7_lookFrom 10 = .ok (.if_icmp .ge 94, 3) := by decide +kernel
theorem dX7_lookFrom_13 : decode cX7_lookFrom 13 = .ok (.aload_n 0, 1) := by decide +kernel
theorem dX7_lookFrom_14 : decode cX7_lookFrom 14 = .ok (.getfield 15, 3) := by decide +kernel
theorem dX7_lookFrom_17 : decode cX7_lookFrom 17 = .ok (.iload_n 1, 1) := by decide +kernel
theorem dX7_lookFrom_18 : decode cX7_lookFrom 18 = .ok (.iload_n 3, 1) := by decide +kernel
theorem dX7_lookFrom_19 : decode cX7_lookFrom 19 = .ok (.invokevirtual 51, 3) := by decide +kernel
theorem dX7_lookFrom_22 : decode cX7_lookFrom 22 = .ok (.istore 4, 2) := by decide +kernel
theorem dX7_lookFrom_24 : decode cX7_lookFrom 24 = .ok (.iload 4, 2) := by decide +kernel
theorem dX7_lookFrom_26 : decode cX7_lookFrom 26 = .ok (.ifCond .eq 72, 3) := by decide +kernel
theorem dX7_lookFrom_29 : decode cX7_lookFrom 29 = .ok (.aload_n 0, 1) := by decide +kernel
theorem dX7_lookFrom_30 : decode cX7_lookFrom 30 = .ok (.getfield 19, 3) := by decide +kernel
theorem dX7_lookFrom_33 : decode cX7_lookFrom 33 = .ok (.iload 4, 2) := by decide +kernel
theorem dX7_lookFrom_35 : decode cX7_lookFrom 35 = .ok (.invokevirtual 54, 3) := by decide +kernel
theorem dX7_lookFrom_38 : decode cX7_lookFrom 38 = .ok (.ifCond .ne 60, 3) := by decide +kernel
theorem dX7_lookFrom_41 : decode cX7_lookFrom 41 = .ok (.aload_n 0, 1) := by decide +kernel
theorem dX7_lookFrom_42 : decode cX7_lookFrom 42 = .ok (.getfield 35, 3) := by decide +kernel
theorem dX7_lookFrom_45 : decode cX7_lookFrom 45 = .ok (.sipush 4096, 3) := by decide +kernel
theorem dX7_lookFrom_48 : decode cX7_lookFrom 48 = .ok (.if_icmp .lt 6, 3) := by decide +kernel
theorem dX7_lookFrom_51 : decode cX7_lookFrom 51 = .ok (.goto 47, 3) := by decide +kernel
theorem dX7_lookFrom_54 : decode cX7_lookFrom 54 = .ok (.aload_n 0, 1) := by decide +kernel
theorem dX7_lookFrom_55 : decode cX7_lookFrom 55 = .ok (.getfield 19, 3) := by decide +kernel
theorem dX7_lookFrom_58 : decode cX7_lookFrom 58 = .ok (.iload 4, 2) := by decide +kernel
theorem dX7_lookFrom_60 : decode cX7_lookFrom 60 = .ok (.iload_n 1, 1) := by decide +kernel
theorem dX7_lookFrom_61 : decode cX7_lookFrom 61 = .ok (.iload_n 3, 1) := by decide +kernel
theorem dX7_lookFrom_62 : decode cX7_lookFrom 62 = .ok (.invokevirtual 58, 3) := by decide +kernel
theorem dX7_lookFrom_65 : decode cX7_lookFrom 65 = .ok (.aload_n 0, 1) := by decide +kernel
theorem dX7_lookFrom_66 : decode cX7_lookFrom 66 = .ok (.getfield 9, 3) := by decide +kernel
theorem dX7_lookFrom_69 : decode cX7_lookFrom 69 = .ok (.aload_n 0, 1) := by decide +kernel
theorem dX7_lookFrom_70 : decode cX7_lookFrom 70 = .ok (.getfield 35, 3) := by decide +kernel
theorem dX7_lookFrom_73 : decode cX7_lookFrom 73 = .ok (.iload 4, 2) := by decide +kernel
theorem dX7_lookFrom_75 : decode cX7_lookFrom 75 = .ok (.iastore, 1) := by decide +kernel
theorem dX7_lookFrom_76 : decode cX7_lookFrom 76 = .ok (.aload_n 0, 1) := by decide +kernel
theorem dX7_lookFrom_77 : decode cX7_lookFrom 77 = .ok (.dup, 1) := by decide +kernel
theorem dX7_lookFrom_78 : decode cX7_lookFrom 78 = .ok (.getfield 35, 3) := by decide +kernel
theorem dX7_lookFrom_81 : decode cX7_lookFrom 81 = .ok (.iconst 1, 1) := by decide +kernel
theorem dX7_lookFrom_82 : decode cX7_lookFrom 82 = .ok (.iadd, 1) := by decide +kernel
theorem dX7_lookFrom_83 : decode cX7_lookFrom 83 = .ok (.putfield 35, 3) := by decide +kernel
theorem dX7_lookFrom_86 : decode cX7_lookFrom 86 = .ok (.iload 4, 2) := by decide +kernel
theorem dX7_lookFrom_88 : decode cX7_lookFrom 88 = .ok (.iload_n 2, 1) := by decide +kernel
theorem dX7_lookFrom_89 : decode cX7_lookFrom 89 = .ok (.invokestatic 39, 3) := by decide +kernel
theorem dX7_lookFrom_92 : decode cX7_lookFrom 92 = .ok (.ifCond .eq 6, 3) := by decide +kernel
theorem dX7_lookFrom_95 : decode cX7_lookFrom 95 = .ok (.iload 4, 2) := by decide +kernel
theorem dX7_lookFrom_97 : decode cX7_lookFrom 97 = .ok (.ireturn, 1) := by decide +kernel
theorem dX7_lookFrom_98 : decode cX7_lookFrom 98 = .ok (.iinc 3 1, 3) := by decide +kernel
theorem dX7_lookFrom_101 : decode cX7_lookFrom 101 = .ok (.goto (-99), 3) := by decide +kernel
theorem dX7_lookFrom_104 : decode cX7_lookFrom 104 = .ok (.iconst 0, 1) := by decide +kernel
theorem dX7_lookFrom_105 : decode cX7_lookFrom 105 = .ok (.ireturn, 1) := by decide +kernel
set_option maxRecDepth 20000 in
theorem ggX7_isWanted_X7_isOne : GoodIn wsX7_isWanted wsX7_isOne := goodIn_r _ [4] (by decide +kernel) (by decide +kernel)
set_option maxRecDepth 20000 in
theorem gX7_isWanted_X7_isOne : GoodIn wsX7_isWanted (va_wsS RX7 62 yX7_isOne wsX7_isOne) := goodIn_app (goodIn_of _ (by decide +kernel)) ggX7_isWanted_X7_isOne
theorem dX7_isWanted_0 : decode cX7_isWanted 0 = .ok (.iload_n 1, 1) := by decide +kernel
theorem dX7_isWanted_1 : decode cX7_isWanted 1 = .ok (.ifCond .ne 10, 3) := by decide +kernel
theorem dX7_isWanted_4 : decode cX7_isWanted 4 = .ok (.iload_n 0, 1) := by decide +kernel
theorem dX7_isWanted_5 : decode cX7_isWanted 5 = .ok (.invokestatic 62, 3) := by decide +kernel
theorem dX7_isWanted_8 : decode cX7_isWanted 8 = .ok (.goto 13, 3) := by decide +kernel
theorem dX7_isWanted_11 : decode cX7_isWanted 11 = .ok (.iload_n 0, 1) := by decide +kernel
theorem dX7_isWanted_12 : decode cX7_isWanted 12 = .ok (.iload_n 1, 1) := by decide +kernel
theorem dX7_isWanted_13 : decode cX7_isWanted 13 = .ok (.if_icmp .ne 7, 3) := by decide +kernel
theorem dX7_isWanted_16 : decode cX7_isWanted 16 = .ok (.iconst 1, 1) := by decide +kernel
theorem dX7_isWanted_17 : decode cX7_isWanted 17 = .ok (.goto 4, 3) := by decide +kernel
theorem dX7_isWanted_20 : decode cX7_isWanted 20 = .ok (.iconst 0, 1) := by decide +kernel
theorem dX7_isWanted_21 : decode cX7_isWanted 21 = .ok (.ireturn, 1) := by decide +kernel
theorem dX7_isOne_0 : decode cX7_isOne 0 = .ok (.iload_n 0, 1) := by decide +kernel
theorem dX7_isOne_1 : decode cX7_isOne 1 = .ok (.ifCond .le 15, 3) := by decide +kernel
theorem dX7_isOne_4 : decode cX7_isOne 4 = .ok (.iload_n 0, 1) := by decide +kernel
theorem dX7_isOne_5 : decode cX7_isOne 5 = .ok (.iload_n 0, 1) := by decide +kernel
theorem dX7_isOne_6 : decode cX7_isOne 6 = .ok (.iconst 1, 1) := by decide +kernel
theorem dX7_isOne_7 : decode cX7_isOne 7 = .ok (.isub, 1) := by decide +kernel
theorem dX7_isOne_8 : decode cX7_isOne 8 = .ok (.iand, 1) := by decide +kernel
theorem dX7_isOne_9 : decode cX7_isOne 9 = .ok (.ifCond .ne 7, 3) := by decide +kernel
theorem dX7_isOne_12 : decode cX7_isOne 12 = .ok (.iconst 1, 1) := by decide +kernel
theorem dX7_isOne_13 : decode cX7_isOne 13 = .ok (.goto 4, 3) := by decide +kernel
theorem dX7_isOne_16 : decode cX7_isOne 16 = .ok (.iconst 0, 1) := by decide +kernel
theorem dX7_isOne_17 : decode cX7_isOne 17 = .ok (.ireturn, 1) := by decide +kernel
theorem dX7_size_0 : decode cX7_size 0 = .ok (.aload_n 0, 1) := by decide +kernel
theorem dX7_size_1 : decode cX7_size 1 = .ok (.getfield 35, 3) := by decide +kernel
theorem dX7_size_4 : decode cX7_size 4 = .ok (.ireturn, 1) := by decide +kernel
theorem dX7_found_0 : decode cX7_found 0 = .ok (.iload_n 1, 1) := by decide +kernel
theorem dX7_found_1 : decode cX7_found 1 = .ok (.ifCond .lt 27, 3) := by decide +kernel
theorem dX7_found_4 : decode cX7_found 4 = .ok (.iload_n 1, 1) := by decide +kernel
theorem dX7_found_5 : decode cX7_found 5 = .ok (.aload_n 0, 1) := by decide +kernel
theorem dX7_found_6 : decode cX7_found 6 = .ok (.getfield 35, 3) := by decide +kernel
theorem dX7_found_9 : decode cX7_found 9 = .ok (.if_icmp .ge 19, 3) := by decide +kernel
theorem dX7_found_12 : decode cX7_found 12 = .ok (.iload_n 1, 1) := by decide +kernel
theorem dX7_found_13 : decode cX7_found 13 = .ok (.sipush 4096, 3) := by decide +kernel
theorem dX7_found_16 : decode cX7_found 16 = .ok (.if_icmp .ge 12, 3) := by decide +kernel
theorem dX7_found_19 : decode cX7_found 19 = .ok (.aload_n 0, 1) := by decide +kernel
theorem dX7_found_20 : decode cX7_found 20 = .ok (.getfield 9, 3) := by decide +kernel
theorem dX7_found_23 : decode cX7_found 23 = .ok (.iload_n 1, 1) := by decide +kernel
theorem dX7_found_24 : decode cX7_found 24 = .ok (.iaload, 1) := by decide +kernel
theorem dX7_found_25 : decode cX7_found 25 = .ok (.goto 4, 3) := by decide +kernel
theorem dX7_found_28 : decode cX7_found 28 = .ok (.iconst 0, 1) := by decide +kernel
theorem dX7_found_29 : decode cX7_found 29 = .ok (.ireturn, 1) := by decide +kernel
set_option maxRecDepth 20000 in
theorem ggX7_fewest_X7_found : GoodIn wsX7_fewest wsX7_found := goodIn_r _ [6, 1, 7, 15, 16, 17, 18] (by decide +kernel) (by decide +kernel)
set_option maxRecDepth 20000 in
theorem gX7_fewest_X7_found : GoodIn wsX7_fewest (wsV RX7 65 RX7 yX7_found wsX7_found) := goodIn_app (goodIn_of _ (by decide +kernel)) ggX7_fewest_X7_found
set_option maxRecDepth 20000 in
theorem ggX7_fewest_J6_bitCount_0f7a4 : GoodIn wsX7_fewest wsJ6_bitCount_0f7a4 := goodIn_r _ [11, 12, 13, 14] (by decide +kernel) (by decide +kernel)
set_option maxRecDepth 20000 in
theorem gX7_fewest_J6_bitCount_0f7a4 : GoodIn wsX7_fewest (va_wsS RX7 69 yJ6_bitCount_0f7a4 wsJ6_bitCount_0f7a4) := goodIn_app (goodIn_of _ (by decide +kernel)) ggX7_fewest_J6_bitCount_0f7a4
theorem dX7_fewest_0 : decode cX7_fewest 0 = .ok (.aload_n 0, 1) := by decide +kernel
theorem dX7_fewest_1 : decode cX7_fewest 1 = .ok (.iconst 0, 1) := by decide +kernel
theorem dX7_fewest_2 : decode cX7_fewest 2 = .ok (.invokevirtual 65, 3) := by decide +kernel
theorem dX7_fewest_5 : decode cX7_fewest 5 = .ok (.istore_n 1, 1) := by decide +kernel
theorem dX7_fewest_6 : decode cX7_fewest 6 = .ok (.iconst 1, 1) := by decide +kernel
theorem dX7_fewest_7 : decode cX7_fewest 7 = .ok (.istore_n 2, 1) := by decide +kernel
theorem dX7_fewest_8 : decode cX7_fewest 8 = .ok (.iload_n 2, 1) := by decide +kernel
theorem dX7_fewest_9 : decode cX7_fewest 9 = .ok (.aload_n 0, 1) := by decide +kernel
theorem dX7_fewest_10 : decode cX7_fewest 10 = .ok (.getfield 35, 3) := by decide +kernel
theorem dX7_fewest_13 : decode cX7_fewest 13 = .ok (.if_icmp .ge 30, 3) := by decide +kernel
theorem dX7_fewest_16 : decode cX7_fewest 16 = .ok (.aload_n 0, 1) := by decide +kernel
theorem dX7_fewest_17 : decode cX7_fewest 17 = .ok (.iload_n 2, 1) := by decide +kernel
theorem dX7_fewest_18 : decode cX7_fewest 18 = .ok (.invokevirtual 65, 3) := by decide +kernel
theorem dX7_fewest_21 : decode cX7_fewest 21 = .ok (.invokestatic 69, 3) := by decide +kernel
theorem dX7_fewest_24 : decode cX7_fewest 24 = .ok (.iload_n 1, 1) := by decide +kernel
theorem dX7_fewest_25 : decode cX7_fewest 25 = .ok (.invokestatic 69, 3) := by decide +kernel
theorem dX7_fewest_28 : decode cX7_fewest 28 = .ok (.if_icmp .ge 9, 3) := by decide +kernel
theorem dX7_fewest_31 : decode cX7_fewest 31 = .ok (.aload_n 0, 1) := by decide +kernel
theorem dX7_fewest_32 : decode cX7_fewest 32 = .ok (.iload_n 2, 1) := by decide +kernel
theorem dX7_fewest_33 : decode cX7_fewest 33 = .ok (.invokevirtual 65, 3) := by decide +kernel
theorem dX7_fewest_36 : decode cX7_fewest 36 = .ok (.istore_n 1, 1) := by decide +kernel
theorem dX7_fewest_37 : decode cX7_fewest 37 = .ok (.iinc 2 1, 3) := by decide +kernel
theorem dX7_fewest_40 : decode cX7_fewest 40 = .ok (.goto (-32), 3) := by decide +kernel
theorem dX7_fewest_43 : decode cX7_fewest 43 = .ok (.iload_n 1, 1) := by decide +kernel
theorem dX7_fewest_44 : decode cX7_fewest 44 = .ok (.ireturn, 1) := by decide +kernel
theorem dX8_init_0 : decode cX8_init 0 = .ok (.aload_n 0, 1) := by decide +kernel
theorem dX8_init_1 : decode cX8_init 1 = .ok (.invokespecial 5, 3) := by decide +kernel
theorem dX8_init_4 : decode cX8_init 4 = .ok (.aload_n 0, 1) := by decide +kernel
theorem dX8_init_5 : decode cX8_init 5 = .ok (.sipush 256, 3) := by decide +kernel
theorem dX8_init_8 : decode cX8_init 8 = .ok (.newarray .int, 2) := by decide +kernel
theorem dX8_init_10 : decode cX8_init 10 = .ok (.putfield 11, 3) := by decide +kernel
theorem dX8_init_13 : decode cX8_init 13 = .ok (.aload_n 0, 1) := by decide +kernel
theorem dX8_init_14 : decode cX8_init 14 = .ok (.sipush 256, 3) := by decide +kernel
theorem dX8_init_17 : decode cX8_init 17 = .ok (.newarray .int, 2) := by decide +kernel
theorem dX8_init_19 : decode cX8_init 19 = .ok (.putfield 15, 3) := by decide +kernel
theorem dX8_init_22 : decode cX8_init 22 = .ok (.return_, 1) := by decide +kernel
set_option maxRecDepth 20000 in
theorem ggX8_load_X4_letters : GoodIn wsX8_load wsX4_letters := goodIn_r _ [8, 9, 27, 28, 29, 30, 31, 32] (by decide +kernel) (by decide +kernel)
set_option maxRecDepth 20000 in
theorem gX8_load_X4_letters : GoodIn wsX8_load (wsV RX8 18 RX4 yX4_letters wsX4_letters) := goodIn_app (goodIn_of _ (by decide +kernel)) ggX8_load_X4_letters
set_option maxRecDepth 20000 in
theorem ggX8_load_X8_fill : GoodIn wsX8_load wsX8_fill := goodIn_r _ [13, 14, 15, 16, 7, 17, 18, 19, 20, 21, 22, 9, 23, 27, 28, 29, 30, 31, 32] (by decide +kernel) (by decide +kernel)
set_option maxRecDepth 20000 in
theorem gX8_load_X8_fill : GoodIn wsX8_load (va_wsS RX8 27 yX8_fill wsX8_fill) := goodIn_app (goodIn_of _ (by decide +kernel)) ggX8_load_X8_fill
theorem dX8_load_0 : decode cX8_load 0 = .ok (.aload_n 0, 1) := by decide +kernel
theorem dX8_load_1 : decode cX8_load 1 = .ok (.aload_n 1, 1) := by decide +kernel
theorem dX8_load_2 : decode cX8_load 2 = .ok (.invokevirtual 18, 3) := by decide +kernel
theorem dX8_load_5 : decode cX8_load 5 = .ok (.putfield 24, 3) := by decide +kernel
theorem dX8_load_8 : decode cX8_load 8 = .ok (.iconst 0, 1) := by decide +kernel
theorem dX8_load_9 : decode cX8_load 9 = .ok (.istore_n 2, 1) := by decide +kernel
theorem dX8_load_10 : decode cX8_load 10 = .ok (.iload_n 2, 1) := by decide +kernel
theorem dX8_load_11 : decode cX8_load 11 = .ok (.aload_n 0, 1) := by decide +kernel
theorem dX8_load_12 : decode cX8_load 12 = .ok (.getfield 24, 3) := by decide +kernel
theorem dX8_load_15 : decode cX8_load 15 = .ok (.if_icmp .ge 30, 3) := by decide +kernel
theorem dX8_load_18 : decode cX8_load 18 = .ok (.aload_n 0, 1) := by decide +kernel
theorem dX8_load_19 : decode cX8_load 19 = .ok (.getfield 11, 3) := by decide +kernel
theorem dX8_load_22 : decode cX8_load 22 = .ok (.aload_n 1, 1) := by decide +kernel
theorem dX8_load_23 : decode cX8_load 23 = .ok (.iload_n 2, 1) := by decide +kernel
theorem dX8_load_24 : decode cX8_load 24 = .ok (.iconst 0, 1) := by decide +kernel
theorem dX8_load_25 : decode cX8_load 25 = .ok (.invokestatic 27, 3) := by decide +kernel
theorem dX8_load_28 : decode cX8_load 28 = .ok (.aload_n 0, 1) := by decide +kernel
theorem dX8_load_29 : decode cX8_load 29 = .ok (.getfield 15, 3) := by decide +kernel
theorem dX8_load_32 : decode cX8_load 32 = .ok (.aload_n 1, 1) := by decide +kernel
theorem dX8_load_33 : decode cX8_load 33 = .ok (.iload_n 2, 1) := by decide +kernel
theorem dX8_load_34 : decode cX8_load 34 = .ok (.bipush 6, 2) := by decide +kernel
theorem dX8_load_36 : decode cX8_load 36 = .ok (.invokestatic 27, 3) := by decide +kernel
theorem dX8_load_39 : decode cX8_load 39 = .ok (.iinc 2 1, 3) := by decide +kernel
theorem dX8_load_42 : decode cX8_load 42 = .ok (.goto (-32), 3) := by decide +kernel
theorem dX8_load_45 : decode cX8_load 45 = .ok (.return_, 1) := by decide +kernel
set_option maxRecDepth 20000 in
theorem ggX8_fill_X4_hasState : GoodIn wsX8_fill wsX4_hasState := goodIn_r _ [5, 6, 13, 14, 15, 16, 17, 18] (by decide +kernel) (by decide +kernel)
set_option maxRecDepth 20000 in
theorem gX8_fill_X4_hasState : GoodIn wsX8_fill (wsV RX8 31 RX4 yX4_hasState wsX4_hasState) := goodIn_app (goodIn_of _ (by decide +kernel)) ggX8_fill_X4_hasState
set_option maxRecDepth 20000 in
theorem ggX8_fill_X4_target : GoodIn wsX8_fill wsX4_target := goodIn_r _ [10, 6, 11, 12, 13, 14, 15, 16, 17, 18] (by decide +kernel) (by decide +kernel)
set_option maxRecDepth 20000 in
theorem gX8_fill_X4_target : GoodIn wsX8_fill (wsV RX8 35 RX4 yX4_target wsX4_target) := goodIn_app (goodIn_of _ (by decide +kernel)) ggX8_fill_X4_target
theorem dX8_fill_0 : decode cX8_fill 0 = .ok (.iload_n 2, 1) := by decide +kernel
theorem dX8_fill_1 : decode cX8_fill 1 = .ok (.bipush 64, 2) := by decide +kernel
theorem dX8_fill_3 : decode cX8_fill 3 = .ok (.imul, 1) := by decide +kernel
theorem dX8_fill_4 : decode cX8_fill 4 = .ok (.istore 4, 2) := by decide +kernel
theorem dX8_fill_6 : decode cX8_fill 6 = .ok (.iconst 0, 1) := by decide +kernel
theorem dX8_fill_7 : decode cX8_fill 7 = .ok (.istore 5, 2) := by decide +kernel
theorem dX8_fill_9 : decode cX8_fill 9 = .ok (.iload 5, 2) := by decide +kernel
theorem dX8_fill_11 : decode cX8_fill 11 = .ok (.bipush 6, 2) := by decide +kernel
theorem dX8_fill_13 : decode cX8_fill 13 = .ok (.if_icmp .ge 107, 3) := by decide +kernel
theorem dX8_fill_16 : decode cX8_fill 16 = .ok (.aload_n 1, 1) := by decide +kernel
theorem dX8_fill_17 : decode cX8_fill 17 = .ok (.iload_n 3, 1) := by decide +kernel
theorem dX8_fill_18 : decode cX8_fill 18 = .ok (.iload 5, 2) := by decide +kernel
theorem dX8_fill_20 : decode cX8_fill 20 = .ok (.iadd, 1) := by decide +kernel
theorem dX8_fill_21 : decode cX8_fill 21 = .ok (.invokevirtual 31, 3) := by decide +kernel
theorem dX8_fill_24 : decode cX8_fill 24 = .ok (.ifCond .eq 96, 3) := by decide +kernel
theorem dX8_fill_27 : decode cX8_fill 27 = .ok (.aload_n 1, 1) := by decide +kernel
theorem dX8_fill_28 : decode cX8_fill 28 = .ok (.iload_n 3, 1) := by decide +kernel
theorem dX8_fill_29 : decode cX8_fill 29 = .ok (.iload 5, 2) := by decide +kernel
theorem dX8_fill_31 : decode cX8_fill 31 = .ok (.iadd, 1) := by decide +kernel
theorem dX8_fill_32 : decode cX8_fill 32 = .ok (.iload_n 2, 1) := by decide +kernel
theorem dX8_fill_33 : decode cX8_fill 33 = .ok (.invokevirtual 35, 3) := by decide +kernel
theorem dX8_fill_36 : decode cX8_fill 36 = .ok (.istore 6, 2) := by decide +kernel
theorem dX8_fill_38 : decode cX8_fill 38 = .ok (.iload 6, 2) := by decide +kernel
theorem dX8_fill_40 : decode cX8_fill 40 = .ok (.iconst (-1), 1) := by decide +kernel
theorem dX8_fill_41 : decode cX8_fill 41 = .ok (.if_icmp .ne 9, 3) := by decide +kernel
theorem dX8_fill_44 : decode cX8_fill 44 = .ok (.sipush 4096, 3) := by decide +kernel
theorem dX8_fill_47 : decode cX8_fill 47 = .ok (.goto 7, 3) := by decide +kernel
theorem dX8_fill_50 : decode cX8_fill 50 = .ok (.iconst 1, 1) := by decide +kernel
theorem dX8_fill_51 : decode cX8_fill 51 = .ok (.iload 6, 2) := by decide +kernel
theorem dX8_fill_53 : decode cX8_fill 53 = .ok (.ishl, 1) := by decide +kernel
theorem dX8_fill_54 : decode cX8_fill 54 = .ok (.istore 7, 2) := by decide +kernel
theorem dX8_fill_56 : decode cX8_fill 56 = .ok (.iconst 1, 1) := by decide +kernel
theorem dX8_fill_57 : decode cX8_fill 57 = .ok (.iload 5, 2) := by decide +kernel
theorem dX8_fill_59 : decode cX8_fill 59 = .ok (.ishl, 1) := by decide +kernel
theorem dX8_fill_60 : decode cX8_fill 60 = .ok (.istore 8, 2) := by decide +kernel
theorem dX8_fill_62 : decode cX8_fill 62 = .ok (.iconst 0, 1) := by decide +kernel
theorem dX8_fill_63 : decode cX8_fill 63 = .ok (.istore 9, 2) := by decide +kernel
theorem dX8_fill_65 : decode cX8_fill 65 = .ok (.iload 9, 2) := by decide +kernel
theorem dX8_fill_67 : decode cX8_fill 67 = .ok (.iload 8, 2) := by decide +kernel
theorem dX8_fill_69 : decode cX8_fill 69 = .ok (.if_icmp .ge 45, 3) := by decide +kernel
theorem dX8_fill_72 : decode cX8_fill 72 = .ok (.iload 4, 2) := by decide +kernel
theorem dX8_fill_74 : decode cX8_fill 74 = .ok (.iload 9, 2) := by decide +kernel
theorem dX8_fill_76 : decode cX8_fill 76 = .ok (.iadd, 1) := by decide +kernel
theorem dX8_fill_77 : decode cX8_fill 77 = .ok (.istore 10, 2) := by decide +kernel
theorem dX8_fill_79 : decode cX8_fill 79 = .ok (.iload 10, 2) := by decide +kernel
theorem dX8_fill_81 : decode cX8_fill 81 = .ok (.ifCond .lt 27, 3) := by decide +kernel
theorem dX8_fill_84 : decode cX8_fill 84 = .ok (.iload 10, 2) := by decide +kernel
theorem dX8_fill_86 : decode cX8_fill 86 = .ok (.iload 8, 2) := by decide +kernel
theorem dX8_fill_88 : decode cX8_fill 88 = .ok (.iadd, 1) := by decide +kernel
theorem dX8_fill_89 : decode cX8_fill 89 = .ok (.aload_n 0, 1) := by decide +kernel
theorem dX8_fill_90 : decode cX8_fill 90 = .ok (.arraylength, 1) := by decide +kernel
theorem dX8_fill_91 : decode cX8_fill 91 = .ok (.if_icmp .ge 17, 3) := by decide +kernel
theorem dX8_fill_94 : decode cX8_fill 94 = .ok (.aload_n 0, 1) := by decide +kernel
theorem dX8_fill_95 : decode cX8_fill 95 = .ok (.iload 10, 2) := by decide +kernel
theorem dX8_fill_97 : decode cX8_fill 97 = .ok (.iload 8, 2) := by decide +kernel
theorem dX8_fill_99 : decode cX8_fill 99 = .ok (.iadd, 1) := by decide +kernel
theorem dX8_fill_100 : decode cX8_fill 100 = .ok (.aload_n 0, 1) := by decide +kernel
theorem dX8_fill_101 : decode cX8_fill 101 = .ok (.iload 10, 2) := by decide +kernel
theorem dX8_fill_103 : decode cX8_fill 103 = .ok (.iaload, 1) := by decide +kernel
theorem dX8_fill_104 : decode cX8_fill 104 = .ok (.iload 7, 2) := by decide +kernel
theorem dX8_fill_106 : decode cX8_fill 106 = .ok (.ior, 1) := by decide +kernel
theorem dX8_fill_107 : decode cX8_fill 107 = .ok (.iastore, 1) := by decide +kernel
theorem dX8_fill_108 : decode cX8_fill 108 = .ok (.iinc 9 1, 3) := by decide +kernel
theorem dX8_fill_111 : decode cX8_fill 111 = .ok (.goto (-46), 3) := by decide +kernel
theorem dX8_fill_114 : decode cX8_fill 114 = .ok (.iinc 5 1, 3) := by decide +kernel
theorem dX8_fill_117 : decode cX8_fill 117 = .ok (.goto (-108), 3) := by decide +kernel
theorem dX8_fill_120 : decode cX8_fill 120 = .ok (.return_, 1) := by decide +kernel
theorem dX8_letters_0 : decode cX8_letters 0 = .ok (.aload_n 0, 1) := by decide +kernel
theorem dX8_letters_1 : decode cX8_letters 1 = .ok (.getfield 24, 3) := by decide +kernel
theorem dX8_letters_4 : decode cX8_letters 4 = .ok (.ireturn, 1) := by decide +kernel
theorem dX8_after_0 : decode cX8_after 0 = .ok (.iload_n 1, 1) := by decide +kernel
theorem dX8_after_1 : decode cX8_after 1 = .ok (.ifCond .le 19, 3) := by decide +kernel
theorem dX8_after_4 : decode cX8_after 4 = .ok (.iload_n 1, 1) := by decide +kernel
theorem dX8_after_5 : decode cX8_after 5 = .ok (.sipush 4096, 3) := by decide +kernel
theorem dX8_after_8 : decode cX8_after 8 = .ok (.if_icmp .ge 12, 3) := by decide +kernel
theorem dX8_after_11 : decode cX8_after 11 = .ok (.iload_n 2, 1) := by decide +kernel
theorem dX8_after_12 : decode cX8_after 12 = .ok (.ifCond .lt 8, 3) := by decide +kernel
theorem dX8_after_15 : decode cX8_after 15 = .ok (.iload_n 2, 1) := by decide +kernel
theorem dX8_after_16 : decode cX8_after 16 = .ok (.iconst 4, 1) := by decide +kernel
theorem dX8_after_17 : decode cX8_after 17 = .ok (.if_icmp .lt 5, 3) := by decide +kernel
theorem dX8_after_20 : decode cX8_after 20 = .ok (.iconst 0, 1) := by decide +kernel
theorem dX8_after_21 : decode cX8_after 21 = .ok (.ireturn, 1) := by decide +kernel
theorem dX8_after_22 : decode cX8_after 22 = .ok (.iload_n 2, 1) := by decide +kernel
theorem dX8_after_23 : decode cX8_after 23 = .ok (.bipush 64, 2) := by decide +kernel
theorem dX8_after_25 : decode cX8_after 25 = .ok (.imul, 1) := by decide +kernel
theorem dX8_after_26 : decode cX8_after 26 = .ok (.istore_n 3, 1) := by decide +kernel
theorem dX8_after_27 : decode cX8_after 27 = .ok (.aload_n 0, 1) := by decide +kernel
theorem dX8_after_28 : decode cX8_after 28 = .ok (.getfield 11, 3) := by decide +kernel
theorem dX8_after_31 : decode cX8_after 31 = .ok (.iload_n 3, 1) := by decide +kernel
theorem dX8_after_32 : decode cX8_after 32 = .ok (.iload_n 1, 1) := by decide +kernel
theorem dX8_after_33 : decode cX8_after 33 = .ok (.bipush 63, 2) := by decide +kernel
theorem dX8_after_35 : decode cX8_after 35 = .ok (.iand, 1) := by decide +kernel
theorem dX8_after_36 : decode cX8_after 36 = .ok (.iadd, 1) := by decide +kernel
theorem dX8_after_37 : decode cX8_after 37 = .ok (.iaload, 1) := by decide +kernel
theorem dX8_after_38 : decode cX8_after 38 = .ok (.aload_n 0, 1) := by decide +kernel
theorem dX8_after_39 : decode cX8_after 39 = .ok (.getfield 15, 3) := by decide +kernel
theorem dX8_after_42 : decode cX8_after 42 = .ok (.iload_n 3, 1) := by decide +kernel
theorem dX8_after_43 : decode cX8_after 43 = .ok (.iload_n 1, 1) := by decide +kernel
theorem dX8_after_44 : decode cX8_after 44 = .ok (.bipush 6, 2) := by decide +kernel
theorem dX8_after_46 : decode cX8_after 46 = .ok (.ishr, 1) := by decide +kernel
theorem dX8_after_47 : decode cX8_after 47 = .ok (.iadd, 1) := by decide +kernel
theorem dX8_after_48 : decode cX8_after 48 = .ok (.iaload, 1) := by decide +kernel
theorem dX8_after_49 : decode cX8_after 49 = .ok (.ior, 1) := by decide +kernel
theorem dX8_after_50 : decode cX8_after 50 = .ok (.istore 4, 2) := by decide +kernel
theorem dX8_after_52 : decode cX8_after 52 = .ok (.iload 4, 2) := by decide +kernel
theorem dX8_after_54 : decode cX8_after 54 = .ok (.sipush 4096, 3) := by decide +kernel
theorem dX8_after_57 : decode cX8_after 57 = .ok (.if_icmp .lt 7, 3) := by decide +kernel
theorem dX8_after_60 : decode cX8_after 60 = .ok (.iconst 0, 1) := by decide +kernel
theorem dX8_after_61 : decode cX8_after 61 = .ok (.goto 5, 3) := by decide +kernel
theorem dX8_after_64 : decode cX8_after 64 = .ok (.iload 4, 2) := by decide +kernel
theorem dX8_after_66 : decode cX8_after 66 = .ok (.ireturn, 1) := by decide +kernel
set_option maxRecDepth 20000 in
theorem ggX8_afterWord_X10_length : GoodIn wsX8_afterWord wsX10_length := goodIn_r _ [5, 6, 19, 20] (by decide +kernel) (by decide +kernel)
set_option maxRecDepth 20000 in
theorem gX8_afterWord_X10_length : GoodIn wsX8_afterWord (wsV RX8 39 RX10 yX10_length wsX10_length) := goodIn_app (goodIn_of _ (by decide +kernel)) ggX8_afterWord_X10_length
set_option maxRecDepth 20000 in
theorem ggX8_afterWord_X10_at : GoodIn wsX8_afterWord wsX10_at := goodIn_r _ [10, 6, 11, 19, 20] (by decide +kernel) (by decide +kernel)
set_option maxRecDepth 20000 in
theorem gX8_afterWord_X10_at : GoodIn wsX8_afterWord (wsV RX8 44 RX10 yX10_at wsX10_at) := goodIn_app (goodIn_of _ (by decide +kernel)) ggX8_afterWord_X10_at
set_option maxRecDepth 20000 in
theorem ggX8_afterWord_X8_after : GoodIn wsX8_afterWord wsX8_after := goodIn_r _ [16, 17, 18, 21, 22, 23] (by decide +kernel) (by decide +kernel)
set_option maxRecDepth 20000 in
theorem gX8_afterWord_X8_after : GoodIn wsX8_afterWord (wsV RX8 48 RX8 yX8_after wsX8_after) := goodIn_app (goodIn_of _ (by decide +kernel)) ggX8_afterWord_X8_after
theorem dX8_afterWord_0 : decode cX8_afterWord 0 = .ok (.iload_n 1, 1) := by decide +kernel
theorem dX8_afterWord_1 : decode cX8_afterWord 1 = .ok (.istore_n 3, 1) := by decide +kernel
theorem dX8_afterWord_2 : decode cX8_afterWord 2 = .ok (.iconst 0, 1) := by decide +kernel
theorem dX8_afterWord_3 : decode cX8_afterWord 3 = .ok (.istore 4, 2) := by decide +kernel
theorem dX8_afterWord_5 : decode cX8_afterWord 5 = .ok (.iload 4, 2) := by decide +kernel
theorem dX8_afterWord_7 : decode cX8_afterWord 7 = .ok (.aload_n 2, 1) := by decide +kernel
theorem dX8_afterWord_8 : decode cX8_afterWord 8 = .ok (.invokevirtual 39, 3) := by decide +kernel
theorem dX8_afterWord_11 : decode cX8_afterWord 11 = .ok (.if_icmp .ge 25, 3) := by decide +kernel
theorem dX8_afterWord_14 : decode cX8_afterWord 14 = .ok (.iload_n 3, 1) := by decide +kernel
theorem dX8_afterWord_15 : decode cX8_afterWord 15 = .ok (.ifCond .eq 21, 3) := by decide +kernel
theorem dX8_afterWord_18 : decode cX8_afterWord 18 = .ok (.aload_n 0, 1) := by decide +kernel
theorem dX8_afterWord_19 : decode cX8_afterWord 19 = .ok (.iload_n 3, 1) := by decide +kernel
theorem dX8_afterWord_20 : decode cX8_afterWord 20 = .ok (.aload_n 2, 1) := by decide +kernel
theorem dX8_afterWord_21 : decode cX8_afterWord 21 = .ok (.iload 4, 2) := by decide +kernel
theorem dX8_afterWord_23 : decode cX8_afterWord 23 = .ok (.invokevirtual 44, 3) := by decide +kernel
theorem dX8_afterWord_26 : decode cX8_afterWord 26 = .ok (.invokevirtual 48, 3) := by decide +kernel
theorem dX8_afterWord_29 : decode cX8_afterWord 29 = .ok (.istore_n 3, 1) := by decide +kernel
theorem dX8_afterWord_30 : decode cX8_afterWord 30 = .ok (.iinc 4 1, 3) := by decide +kernel
theorem dX8_afterWord_33 : decode cX8_afterWord 33 = .ok (.goto (-28), 3) := by decide +kernel
theorem dX8_afterWord_36 : decode cX8_afterWord 36 = .ok (.iload_n 3, 1) := by decide +kernel
theorem dX8_afterWord_37 : decode cX8_afterWord 37 = .ok (.ireturn, 1) := by decide +kernel
theorem dX9_init_0 : decode cX9_init 0 = .ok (.aload_n 0, 1) := by decide +kernel
theorem dX9_init_1 : decode cX9_init 1 = .ok (.invokespecial 3, 3) := by decide +kernel
theorem dX9_init_4 : decode cX9_init 4 = .ok (.aload_n 0, 1) := by decide +kernel
theorem dX9_init_5 : decode cX9_init 5 = .ok (.sipush 4096, 3) := by decide +kernel
theorem dX9_init_8 : decode cX9_init 8 = .ok (.newarray .int, 2) := by decide +kernel
theorem dX9_init_10 : decode cX9_init 10 = .ok (.putfield 9, 3) := by decide +kernel
theorem dX9_init_13 : decode cX9_init 13 = .ok (.return_, 1) := by decide +kernel
set_option maxRecDepth 20000 in
theorem ggX9_begin_J7_fill_53178 : GoodIn wsX9_begin wsJ7_fill_53178 := goodIn_r _ [5] (by decide +kernel) (by decide +kernel)
set_option maxRecDepth 20000 in
theorem gX9_begin_J7_fill_53178 : GoodIn wsX9_begin (va_wsS RX9 15 yJ7_fill_53178 wsJ7_fill_53178) := goodIn_app (goodIn_of _ (by decide +kernel)) ggX9_begin_J7_fill_53178
theorem dX9_begin_0 : decode cX9_begin 0 = .ok (.aload_n 0, 1) := by decide +kernel
theorem dX9_begin_1 : decode cX9_begin 1 = .ok (.getfield 9, 3) := by decide +kernel
theorem dX9_begin_4 : decode cX9_begin 4 = .ok (.iconst 0, 1) := by decide +kernel
theorem dX9_begin_5 : decode cX9_begin 5 = .ok (.invokestatic 15, 3) := by decide +kernel
theorem dX9_begin_8 : decode cX9_begin 8 = .ok (.iload_n 1, 1) := by decide +kernel
theorem dX9_begin_9 : decode cX9_begin 9 = .ok (.ifCond .le 17, 3) := by decide +kernel
theorem dX9_begin_12 : decode cX9_begin 12 = .ok (.iload_n 1, 1) := by decide +kernel
theorem dX9_begin_13 : decode cX9_begin 13 = .ok (.sipush 4096, 3) := by decide +kernel
theorem dX9_begin_16 : decode cX9_begin 16 = .ok (.if_icmp .ge 10, 3) := by decide +kernel
theorem dX9_begin_19 : decode cX9_begin 19 = .ok (.aload_n 0, 1) := by decide +kernel
theorem dX9_begin_20 : decode cX9_begin 20 = .ok (.getfield 9, 3) := by decide +kernel
theorem dX9_begin_23 : decode cX9_begin 23 = .ok (.iload_n 1, 1) := by decide +kernel
theorem dX9_begin_24 : decode cX9_begin 24 = .ok (.iconst 1, 1) := by decide +kernel
theorem dX9_begin_25 : decode cX9_begin 25 = .ok (.iastore, 1) := by decide +kernel
theorem dX9_begin_26 : decode cX9_begin 26 = .ok (.return_, 1) := by decide +kernel
theorem dX9_knows_0 : decode cX9_knows 0 = .ok (.iload_n 1, 1) := by decide +kernel
theorem dX9_knows_1 : decode cX9_knows 1 = .ok (.ifCond .le 23, 3) := by decide +kernel
theorem dX9_knows_4 : decode cX9_knows 4 = .ok (.iload_n 1, 1) := by decide +kernel
theorem dX9_knows_5 : decode cX9_knows 5 = .ok (.sipush 4096, 3) := by decide +kernel
theorem dX9_knows_8 : decode cX9_knows 8 = .ok (.if_icmp .ge 16, 3) := by decide +kernel
theorem dX9_knows_11 : decode cX9_knows 11 = .ok (.aload_n 0, 1) := by decide +kernel
theorem dX9_knows_12 : decode cX9_knows 12 = .ok (.getfield 9, 3) := by decide +kernel
theorem dX9_knows_15 : decode cX9_knows 15 = .ok (.iload_n 1, 1) := by decide +kernel
theorem dX9_knows_16 : decode cX9_knows 16 = .ok (.iaload, 1) := by decide +kernel
theorem dX9_knows_17 : decode cX9_knows 17 = .ok (.ifCond .eq 7, 3) := by decide +kernel
theorem dX9_knows_20 : decode cX9_knows 20 = .ok (.iconst 1, 1) := by decide +kernel
theorem dX9_knows_21 : decode cX9_knows 21 = .ok (.goto 4, 3) := by decide +kernel
theorem dX9_knows_24 : decode cX9_knows 24 = .ok (.iconst 0, 1) := by decide +kernel
theorem dX9_knows_25 : decode cX9_knows 25 = .ok (.ireturn, 1) := by decide +kernel
theorem dX9_mark_0 : decode cX9_mark 0 = .ok (.iload_n 1, 1) := by decide +kernel
theorem dX9_mark_1 : decode cX9_mark 1 = .ok (.ifCond .le 21, 3) := by decide +kernel
theorem dX9_mark_4 : decode cX9_mark 4 = .ok (.iload_n 1, 1) := by decide +kernel
theorem dX9_mark_5 : decode cX9_mark 5 = .ok (.sipush 4096, 3) := by decide +kernel
theorem dX9_mark_8 : decode cX9_mark 8 = .ok (.if_icmp .ge 14, 3) := by decide +kernel
theorem dX9_mark_11 : decode cX9_mark 11 = .ok (.aload_n 0, 1) := by decide +kernel
theorem dX9_mark_12 : decode cX9_mark 12 = .ok (.getfield 9, 3) := by decide +kernel
theorem dX9_mark_15 : decode cX9_mark 15 = .ok (.iload_n 1, 1) := by decide +kernel
theorem dX9_mark_16 : decode cX9_mark 16 = .ok (.iload_n 2, 1) := by decide +kernel
theorem dX9_mark_17 : decode cX9_mark 17 = .ok (.iconst 4, 1) := by decide +kernel
theorem dX9_mark_18 : decode cX9_mark 18 = .ok (.imul, 1) := by decide +kernel
theorem dX9_mark_19 : decode cX9_mark 19 = .ok (.iload_n 3, 1) := by decide +kernel
theorem dX9_mark_20 : decode cX9_mark 20 = .ok (.iadd, 1) := by decide +kernel
theorem dX9_mark_21 : decode cX9_mark 21 = .ok (.iastore, 1) := by decide +kernel
theorem dX9_mark_22 : decode cX9_mark 22 = .ok (.return_, 1) := by decide +kernel
set_option maxRecDepth 20000 in
theorem ggX9_before_X9_knows : GoodIn wsX9_before wsX9_knows := goodIn_r _ [6, 1, 7] (by decide +kernel) (by decide +kernel)
set_option maxRecDepth 20000 in
theorem gX9_before_X9_knows : GoodIn wsX9_before (wsV RX9 21 RX9 yX9_knows wsX9_knows) := goodIn_app (goodIn_of _ (by decide +kernel)) ggX9_before_X9_knows
theorem dX9_before_0 : decode cX9_before 0 = .ok (.aload_n 0, 1) := by decide +kernel
theorem dX9_before_1 : decode cX9_before 1 = .ok (.iload_n 1, 1) := by decide +kernel
theorem dX9_before_2 : decode cX9_before 2 = .ok (.invokevirtual 21, 3) := by decide +kernel
theorem dX9_before_5 : decode cX9_before 5 = .ok (.ifCond .eq 14, 3) := by decide +kernel
theorem dX9_before_8 : decode cX9_before 8 = .ok (.aload_n 0, 1) := by decide +kernel
theorem dX9_before_9 : decode cX9_before 9 = .ok (.getfield 9, 3) := by decide +kernel
theorem dX9_before_12 : decode cX9_before 12 = .ok (.iload_n 1, 1) := by decide +kernel
theorem dX9_before_13 : decode cX9_before 13 = .ok (.iaload, 1) := by decide +kernel
theorem dX9_before_14 : decode cX9_before 14 = .ok (.iconst 4, 1) := by decide +kernel
theorem dX9_before_15 : decode cX9_before 15 = .ok (.idiv, 1) := by decide +kernel
theorem dX9_before_16 : decode cX9_before 16 = .ok (.goto 4, 3) := by decide +kernel
theorem dX9_before_19 : decode cX9_before 19 = .ok (.iconst 0, 1) := by decide +kernel
theorem dX9_before_20 : decode cX9_before 20 = .ok (.ireturn, 1) := by decide +kernel
set_option maxRecDepth 20000 in
theorem ggX9_lengthTo_X9_before : GoodIn wsX9_lengthTo wsX9_before := goodIn_r _ [5, 6, 7, 8, 9, 4, 10, 11] (by decide +kernel) (by decide +kernel)
set_option maxRecDepth 20000 in
theorem gX9_lengthTo_X9_before : GoodIn wsX9_lengthTo (wsV RX9 25 RX9 yX9_before wsX9_before) := goodIn_app (goodIn_of _ (by decide +kernel)) ggX9_lengthTo_X9_before
theorem dX9_lengthTo_0 : decode cX9_lengthTo 0 = .ok (.iconst 0, 1) := by decide +kernel
theorem dX9_lengthTo_1 : decode cX9_lengthTo 1 = .ok (.istore_n 2, 1) := by decide +kernel
theorem dX9_lengthTo_2 : decode cX9_lengthTo 2 = .ok (.aload_n 0, 1) := by decide +kernel
theorem dX9_lengthTo_3 : decode cX9_lengthTo 3 = .ok (.iload_n 1, 1) := by decide +kernel
theorem dX9_lengthTo_4 : decode cX9_lengthTo 4 = .ok (.invokevirtual 25, 3) := by decide +kernel
theorem dX9_lengthTo_7 : decode cX9_lengthTo 7 = .ok (.istore_n 3, 1) := by decide +kernel
theorem dX9_lengthTo_8 : decode cX9_lengthTo 8 = .ok (.iconst 0, 1) := by decide +kernel
theorem dX9_lengthTo_9 : decode cX9_lengthTo 9 = .ok (.istore 4, 2) := by decide +kernel
theorem dX9_lengthTo_11 : decode cX9_lengthTo 11 = .ok (.iload 4, 2) := by decide +kernel
theorem dX9_lengthTo_13 : decode cX9_lengthTo 13 = .ok (.sipush 4096, 3) := by decide +kernel
theorem dX9_lengthTo_16 : decode cX9_lengthTo 16 = .ok (.if_icmp .ge 22, 3) := by decide +kernel
theorem dX9_lengthTo_19 : decode cX9_lengthTo 19 = .ok (.iload_n 3, 1) := by decide +kernel
theorem dX9_lengthTo_20 : decode cX9_lengthTo 20 = .ok (.ifCond .eq 18, 3) := by decide +kernel
theorem dX9_lengthTo_23 : decode cX9_lengthTo 23 = .ok (.iinc 2 1, 3) := by decide +kernel
theorem dX9_lengthTo_26 : decode cX9_lengthTo 26 = .ok (.aload_n 0, 1) := by decide +kernel
theorem dX9_lengthTo_27 : decode cX9_lengthTo 27 = .ok (.iload_n 3, 1) := by decide +kernel
theorem dX9_lengthTo_28 : decode cX9_lengthTo 28 = .ok (.invokevirtual 25, 3) := by decide +kernel
theorem dX9_lengthTo_31 : decode cX9_lengthTo 31 = .ok (.istore_n 3, 1) := by decide +kernel
theorem dX9_lengthTo_32 : decode cX9_lengthTo 32 = .ok (.iinc 4 1, 3) := by decide +kernel
theorem dX9_lengthTo_35 : decode cX9_lengthTo 35 = .ok (.goto (-24), 3) := by decide +kernel
theorem dX9_lengthTo_38 : decode cX9_lengthTo 38 = .ok (.iload_n 2, 1) := by decide +kernel
theorem dX9_lengthTo_39 : decode cX9_lengthTo 39 = .ok (.ireturn, 1) := by decide +kernel
set_option maxRecDepth 20000 in
theorem ggX9_giveWord_X10_resize : GoodIn wsX9_giveWord wsX10_resize := goodIn_r _ [6, 7, 8, 9, 10, 11, 27, 28] (by decide +kernel) (by decide +kernel)
set_option maxRecDepth 20000 in
theorem gX9_giveWord_X10_resize : GoodIn wsX9_giveWord (wsV RX9 29 RX10 yX10_resize wsX10_resize) := goodIn_app (goodIn_of _ (by decide +kernel)) ggX9_giveWord_X10_resize
set_option maxRecDepth 20000 in
theorem ggX9_giveWord_X9_knows : GoodIn wsX9_giveWord wsX9_knows := goodIn_r _ [16, 1, 26] (by decide +kernel) (by decide +kernel)
set_option maxRecDepth 20000 in
theorem gX9_giveWord_X9_knows : GoodIn wsX9_giveWord (wsV RX9 21 RX9 yX9_knows wsX9_knows) := goodIn_app (goodIn_of _ (by decide +kernel)) ggX9_giveWord_X9_knows
set_option maxRecDepth 20000 in
theorem ggX9_giveWord_X10_put : GoodIn wsX9_giveWord wsX10_put := goodIn_r _ [20, 11, 21, 27, 28] (by decide +kernel) (by decide +kernel)
set_option maxRecDepth 20000 in
theorem gX9_giveWord_X10_put : GoodIn wsX9_giveWord (wsV RX9 35 RX10 yX10_put wsX10_put) := goodIn_app (goodIn_of _ (by decide +kernel)) ggX9_giveWord_X10_put
set_option maxRecDepth 20000 in
theorem ggX9_giveWord_X9_before : GoodIn wsX9_giveWord wsX9_before := goodIn_r _ [25, 1, 12, 13, 14, 15, 16, 26] (by decide +kernel) (by decide +kernel)
set_option maxRecDepth 20000 in
theorem gX9_giveWord_X9_before : GoodIn wsX9_giveWord (wsV RX9 25 RX9 yX9_before wsX9_before) := goodIn_app (goodIn_of _ (by decide +kernel)) ggX9_giveWord_X9_before
theorem dX9_giveWord_0 : decode cX9_giveWord 0 = .ok (.aload_n 3, 1) := by decide +kernel
theorem dX9_giveWord_1 : decode cX9_giveWord 1 = .ok (.iload_n 2, 1) := by decide +kernel
theorem dX9_giveWord_2 : decode cX9_giveWord 2 = .ok (.invokevirtual 29, 3) := by decide +kernel
theorem dX9_giveWord_5 : decode cX9_giveWord 5 = .ok (.iload_n 1, 1) := by decide +kernel
theorem dX9_giveWord_6 : decode cX9_giveWord 6 = .ok (.istore 4, 2) := by decide +kernel
theorem dX9_giveWord_8 : decode cX9_giveWord 8 = .ok (.iload_n 2, 1) := by decide +kernel
theorem dX9_giveWord_9 : decode cX9_giveWord 9 = .ok (.iconst 1, 1) := by decide +kernel
theorem dX9_giveWord_10 : decode cX9_giveWord 10 = .ok (.isub, 1) := by decide +kernel
theorem dX9_giveWord_11 : decode cX9_giveWord 11 = .ok (.istore 5, 2) := by decide +kernel
theorem dX9_giveWord_13 : decode cX9_giveWord 13 = .ok (.iload 5, 2) := by decide +kernel
theorem dX9_giveWord_15 : decode cX9_giveWord 15 = .ok (.ifCond .lt 41, 3) := by decide +kernel
theorem dX9_giveWord_18 : decode cX9_giveWord 18 = .ok (.aload_n 0, 1) := by decide +kernel
theorem dX9_giveWord_19 : decode cX9_giveWord 19 = .ok (.iload 4, 2) := by decide +kernel
theorem dX9_giveWord_21 : decode cX9_giveWord 21 = .ok (.invokevirtual 21, 3) := by decide +kernel
theorem dX9_giveWord_24 : decode cX9_giveWord 24 = .ok (.ifCond .eq 32, 3) := by decide +kernel
theorem dX9_giveWord_27 : decode cX9_giveWord 27 = .ok (.aload_n 3, 1) := by decide +kernel
theorem dX9_giveWord_28 : decode cX9_giveWord 28 = .ok (.iload 5, 2) := by decide +kernel
theorem dX9_giveWord_30 : decode cX9_giveWord 30 = .ok (.aload_n 0, 1) := by decide +kernel
theorem dX9_giveWord_31 : decode cX9_giveWord 31 = .ok (.getfield 9, 3) := by decide +kernel
theorem dX9_giveWord_34 : decode cX9_giveWord 34 = .ok (.iload 4, 2) := by decide +kernel
theorem dX9_giveWord_36 : decode cX9_giveWord 36 = .ok (.iaload, 1) := by decide +kernel
theorem dX9_giveWord_37 : decode cX9_giveWord 37 = .ok (.iconst 4, 1) := by decide +kernel
theorem dX9_giveWord_38 : decode cX9_giveWord 38 = .ok (.irem, 1) := by decide +kernel
theorem dX9_giveWord_39 : decode cX9_giveWord 39 = .ok (.invokevirtual 35, 3) := by decide +kernel
theorem dX9_giveWord_42 : decode cX9_giveWord 42 = .ok (.aload_n 0, 1) := by decide +kernel
theorem dX9_giveWord_43 : decode cX9_giveWord 43 = .ok (.iload 4, 2) := by decide +kernel
theorem dX9_giveWord_45 : decode cX9_giveWord 45 = .ok (.invokevirtual 25, 3) := by decide +kernel
theorem dX9_giveWord_48 : decode cX9_giveWord 48 = .ok (.istore 4, 2) := by decide +kernel
theorem dX9_giveWord_50 : decode cX9_giveWord 50 = .ok (.iinc 5 (-1), 3) := by decide +kernel
theorem dX9_giveWord_53 : decode cX9_giveWord 53 = .ok (.goto (-40), 3) := by decide +kernel
theorem dX9_giveWord_56 : decode cX9_giveWord 56 = .ok (.return_, 1) := by decide +kernel
theorem dX10_init_0 : decode cX10_init 0 = .ok (.aload_n 0, 1) := by decide +kernel
theorem dX10_init_1 : decode cX10_init 1 = .ok (.invokespecial 3, 3) := by decide +kernel
theorem dX10_init_4 : decode cX10_init 4 = .ok (.aload_n 0, 1) := by decide +kernel
theorem dX10_init_5 : decode cX10_init 5 = .ok (.sipush 600, 3) := by decide +kernel
theorem dX10_init_8 : decode cX10_init 8 = .ok (.newarray .int, 2) := by decide +kernel
theorem dX10_init_10 : decode cX10_init 10 = .ok (.putfield 9, 3) := by decide +kernel
theorem dX10_init_13 : decode cX10_init 13 = .ok (.return_, 1) := by decide +kernel
theorem dX10_length_0 : decode cX10_length 0 = .ok (.aload_n 0, 1) := by decide +kernel
theorem dX10_length_1 : decode cX10_length 1 = .ok (.getfield 15, 3) := by decide +kernel
theorem dX10_length_4 : decode cX10_length 4 = .ok (.ireturn, 1) := by decide +kernel
theorem dX10_clear_0 : decode cX10_clear 0 = .ok (.aload_n 0, 1) := by decide +kernel
theorem dX10_clear_1 : decode cX10_clear 1 = .ok (.iconst 0, 1) := by decide +kernel
theorem dX10_clear_2 : decode cX10_clear 2 = .ok (.putfield 15, 3) := by decide +kernel
theorem dX10_clear_5 : decode cX10_clear 5 = .ok (.return_, 1) := by decide +kernel
theorem dX10_append_0 : decode cX10_append 0 = .ok (.aload_n 0, 1) := by decide +kernel
theorem dX10_append_1 : decode cX10_append 1 = .ok (.getfield 15, 3) := by decide +kernel
theorem dX10_append_4 : decode cX10_append 4 = .ok (.ifCond .lt 13, 3) := by decide +kernel
theorem dX10_append_7 : decode cX10_append 7 = .ok (.aload_n 0, 1) := by decide +kernel
theorem dX10_append_8 : decode cX10_append 8 = .ok (.getfield 15, 3) := by decide +kernel
theorem dX10_append_11 : decode cX10_append 11 = .ok (.sipush 600, 3) := by decide +kernel
theorem dX10_append_14 : decode cX10_append 14 = .ok (.if_icmp .lt 5, 3) := by decide +kernel
theorem dX10_append_17 : decode cX10_append 17 = .ok (.iconst 0, 1) := by decide +kernel
theorem dX10_append_18 : decode cX10_append 18 = .ok (.ireturn, 1) := by decide +kernel
theorem dX10_append_19 : decode cX10_append 19 = .ok (.aload_n 0, 1) := by decide +kernel
theorem dX10_append_20 : decode cX10_append 20 = .ok (.getfield 9, 3) := by decide +kernel
theorem dX10_append_23 : decode cX10_append 23 = .ok (.aload_n 0, 1) := by decide +kernel
theorem dX10_append_24 : decode cX10_append 24 = .ok (.getfield 15, 3) := by decide +kernel
theorem dX10_append_27 : decode cX10_append 27 = .ok (.iload_n 1, 1) := by decide +kernel
theorem dX10_append_28 : decode cX10_append 28 = .ok (.iastore, 1) := by decide +kernel
theorem dX10_append_29 : decode cX10_append 29 = .ok (.aload_n 0, 1) := by decide +kernel
theorem dX10_append_30 : decode cX10_append 30 = .ok (.dup, 1) := by decide +kernel
theorem dX10_append_31 : decode cX10_append 31 = .ok (.getfield 15, 3) := by decide +kernel
theorem dX10_append_34 : decode cX10_append 34 = .ok (.iconst 1, 1) := by decide +kernel
theorem dX10_append_35 : decode cX10_append 35 = .ok (.iadd, 1) := by decide +kernel
theorem dX10_append_36 : decode cX10_append 36 = .ok (.putfield 15, 3) := by decide +kernel
theorem dX10_append_39 : decode cX10_append 39 = .ok (.iconst 1, 1) := by decide +kernel
theorem dX10_append_40 : decode cX10_append 40 = .ok (.ireturn, 1) := by decide +kernel
theorem dX10_resize_0 : decode cX10_resize 0 = .ok (.aload_n 0, 1) := by decide +kernel
theorem dX10_resize_1 : decode cX10_resize 1 = .ok (.iload_n 1, 1) := by decide +kernel
theorem dX10_resize_2 : decode cX10_resize 2 = .ok (.ifCond .ge 7, 3) := by decide +kernel
theorem dX10_resize_5 : decode cX10_resize 5 = .ok (.iconst 0, 1) := by decide +kernel
theorem dX10_resize_6 : decode cX10_resize 6 = .ok (.goto 10, 3) := by decide +kernel
theorem dX10_resize_9 : decode cX10_resize 9 = .ok (.iload_n 1, 1) := by decide +kernel
theorem dX10_resize_10 : decode cX10_resize 10 = .ok (.sipush 600, 3) := by decide +kernel
theorem dX10_resize_13 : decode cX10_resize 13 = .ok (.invokestatic 19, 3) := by decide +kernel
theorem dX10_resize_16 : decode cX10_resize 16 = .ok (.putfield 15, 3) := by decide +kernel
theorem dX10_resize_19 : decode cX10_resize 19 = .ok (.return_, 1) := by decide +kernel
theorem dX10_put_0 : decode cX10_put 0 = .ok (.iload_n 1, 1) := by decide +kernel
theorem dX10_put_1 : decode cX10_put 1 = .ok (.ifCond .lt 25, 3) := by decide +kernel
theorem dX10_put_4 : decode cX10_put 4 = .ok (.iload_n 1, 1) := by decide +kernel
theorem dX10_put_5 : decode cX10_put 5 = .ok (.aload_n 0, 1) := by decide +kernel
theorem dX10_put_6 : decode cX10_put 6 = .ok (.getfield 15, 3) := by decide +kernel
theorem dX10_put_9 : decode cX10_put 9 = .ok (.if_icmp .ge 17, 3) := by decide +kernel
theorem dX10_put_12 : decode cX10_put 12 = .ok (.iload_n 1, 1) := by decide +kernel
theorem dX10_put_13 : decode cX10_put 13 = .ok (.sipush 600, 3) := by decide +kernel
theorem dX10_put_16 : decode cX10_put 16 = .ok (.if_icmp .ge 10, 3) := by decide +kernel
theorem dX10_put_19 : decode cX10_put 19 = .ok (.aload_n 0, 1) := by decide +kernel
theorem dX10_put_20 : decode cX10_put 20 = .ok (.getfield 9, 3) := by decide +kernel
theorem dX10_put_23 : decode cX10_put 23 = .ok (.iload_n 1, 1) := by decide +kernel
theorem dX10_put_24 : decode cX10_put 24 = .ok (.iload_n 2, 1) := by decide +kernel
theorem dX10_put_25 : decode cX10_put 25 = .ok (.iastore, 1) := by decide +kernel
theorem dX10_put_26 : decode cX10_put 26 = .ok (.return_, 1) := by decide +kernel
theorem dX10_at_0 : decode cX10_at 0 = .ok (.iload_n 1, 1) := by decide +kernel
theorem dX10_at_1 : decode cX10_at 1 = .ok (.ifCond .lt 27, 3) := by decide +kernel
theorem dX10_at_4 : decode cX10_at 4 = .ok (.iload_n 1, 1) := by decide +kernel
theorem dX10_at_5 : decode cX10_at 5 = .ok (.aload_n 0, 1) := by decide +kernel
theorem dX10_at_6 : decode cX10_at 6 = .ok (.getfield 15, 3) := by decide +kernel
theorem dX10_at_9 : decode cX10_at 9 = .ok (.if_icmp .ge 19, 3) := by decide +kernel
theorem dX10_at_12 : decode cX10_at 12 = .ok (.iload_n 1, 1) := by decide +kernel
theorem dX10_at_13 : decode cX10_at 13 = .ok (.sipush 600, 3) := by decide +kernel
theorem dX10_at_16 : decode cX10_at 16 = .ok (.if_icmp .ge 12, 3) := by decide +kernel
theorem dX10_at_19 : decode cX10_at 19 = .ok (.aload_n 0, 1) := by decide +kernel
theorem dX10_at_20 : decode cX10_at 20 = .ok (.getfield 9, 3) := by decide +kernel
theorem dX10_at_23 : decode cX10_at 23 = .ok (.iload_n 1, 1) := by decide +kernel
theorem dX10_at_24 : decode cX10_at 24 = .ok (.iaload, 1) := by decide +kernel
theorem dX10_at_25 : decode cX10_at 25 = .ok (.goto 4, 3) := by decide +kernel
theorem dX10_at_28 : decode cX10_at 28 = .ok (.iconst (-1), 1) := by decide +kernel
theorem dX10_at_29 : decode cX10_at 29 = .ok (.ireturn, 1) := by decide +kernel
set_option maxRecDepth 20000 in
theorem ggX10_isOf_X4_hasLetter : GoodIn wsX10_isOf wsX4_hasLetter := goodIn_r _ [7, 8, 11, 12, 13, 14, 15, 16] (by decide +kernel) (by decide +kernel)
set_option maxRecDepth 20000 in
theorem gX10_isOf_X4_hasLetter : GoodIn wsX10_isOf (wsV RX10 25 RX4 yX4_hasLetter wsX4_hasLetter) := goodIn_app (goodIn_of _ (by decide +kernel)) ggX10_isOf_X4_hasLetter
theorem dX10_isOf_0 : decode cX10_isOf 0 = .ok (.iconst 0, 1) := by decide +kernel
theorem dX10_isOf_1 : decode cX10_isOf 1 = .ok (.istore_n 2, 1) := by decide +kernel
theorem dX10_isOf_2 : decode cX10_isOf 2 = .ok (.iload_n 2, 1) := by decide +kernel
theorem dX10_isOf_3 : decode cX10_isOf 3 = .ok (.aload_n 0, 1) := by decide +kernel
theorem dX10_isOf_4 : decode cX10_isOf 4 = .ok (.getfield 15, 3) := by decide +kernel
theorem dX10_isOf_7 : decode cX10_isOf 7 = .ok (.if_icmp .ge 31, 3) := by decide +kernel
theorem dX10_isOf_10 : decode cX10_isOf 10 = .ok (.iload_n 2, 1) := by decide +kernel
theorem dX10_isOf_11 : decode cX10_isOf 11 = .ok (.sipush 600, 3) := by decide +kernel
theorem dX10_isOf_14 : decode cX10_isOf 14 = .ok (.if_icmp .ge 24, 3) := by decide +kernel
theorem dX10_isOf_17 : decode cX10_isOf 17 = .ok (.aload_n 1, 1) := by decide +kernel
theorem dX10_isOf_18 : decode cX10_isOf 18 = .ok (.aload_n 0, 1) := by decide +kernel
theorem dX10_isOf_19 : decode cX10_isOf 19 = .ok (.getfield 9, 3) := by decide +kernel
theorem dX10_isOf_22 : decode cX10_isOf 22 = .ok (.iload_n 2, 1) := by decide +kernel
theorem dX10_isOf_23 : decode cX10_isOf 23 = .ok (.iaload, 1) := by decide +kernel
theorem dX10_isOf_24 : decode cX10_isOf 24 = .ok (.invokevirtual 25, 3) := by decide +kernel
theorem dX10_isOf_27 : decode cX10_isOf 27 = .ok (.ifCond .ne 5, 3) := by decide +kernel
theorem dX10_isOf_30 : decode cX10_isOf 30 = .ok (.iconst 0, 1) := by decide +kernel
theorem dX10_isOf_31 : decode cX10_isOf 31 = .ok (.ireturn, 1) := by decide +kernel
theorem dX10_isOf_32 : decode cX10_isOf 32 = .ok (.iinc 2 1, 3) := by decide +kernel
theorem dX10_isOf_35 : decode cX10_isOf 35 = .ok (.goto (-33), 3) := by decide +kernel
theorem dX10_isOf_38 : decode cX10_isOf 38 = .ok (.iconst 1, 1) := by decide +kernel
theorem dX10_isOf_39 : decode cX10_isOf 39 = .ok (.ireturn, 1) := by decide +kernel
set_option maxRecDepth 20000 in
theorem ggX10_copy_X10_length : GoodIn wsX10_copy wsX10_length := goodIn_r _ [6, 1, 24, 25] (by decide +kernel) (by decide +kernel)
set_option maxRecDepth 20000 in
theorem gX10_copy_X10_length : GoodIn wsX10_copy (wsV RX10 31 RX10 yX10_length wsX10_length) := goodIn_app (goodIn_of _ (by decide +kernel)) ggX10_copy_X10_length
set_option maxRecDepth 20000 in
theorem ggX10_copy_X10_resize : GoodIn wsX10_copy wsX10_resize := goodIn_r _ [10, 11, 12, 13, 14, 1, 24, 25] (by decide +kernel) (by decide +kernel)
set_option maxRecDepth 20000 in
theorem gX10_copy_X10_resize : GoodIn wsX10_copy (wsV RX10 34 RX10 yX10_resize wsX10_resize) := goodIn_app (goodIn_of _ (by decide +kernel)) ggX10_copy_X10_resize
set_option maxRecDepth 20000 in
theorem ggX10_copy_X10_at : GoodIn wsX10_copy wsX10_at := goodIn_r _ [18, 1, 19, 24, 25] (by decide +kernel) (by decide +kernel)
set_option maxRecDepth 20000 in
theorem gX10_copy_X10_at : GoodIn wsX10_copy (wsV RX10 38 RX10 yX10_at wsX10_at) := goodIn_app (goodIn_of _ (by decide +kernel)) ggX10_copy_X10_at
set_option maxRecDepth 20000 in
theorem ggX10_copy_X10_put : GoodIn wsX10_copy wsX10_put := goodIn_r _ [23, 1, 19, 24, 25] (by decide +kernel) (by decide +kernel)
set_option maxRecDepth 20000 in
theorem gX10_copy_X10_put : GoodIn wsX10_copy (wsV RX10 42 RX10 yX10_put wsX10_put) := goodIn_app (goodIn_of _ (by decide +kernel)) ggX10_copy_X10_put
theorem dX10_copy_0 : decode cX10_copy 0 = .ok (.aload_n 0, 1) := by decide +kernel
theorem dX10_copy_1 : decode cX10_copy 1 = .ok (.aload_n 1, 1) := by decide +kernel
theorem dX10_copy_2 : decode cX10_copy 2 = .ok (.invokevirtual 31, 3) := by decide +kernel
theorem dX10_copy_5 : decode cX10_copy 5 = .ok (.invokevirtual 34, 3) := by decide +kernel
theorem dX10_copy_8 : decode cX10_copy 8 = .ok (.iconst 0, 1) := by decide +kernel
theorem dX10_copy_9 : decode cX10_copy 9 = .ok (.istore_n 2, 1) := by decide +kernel
theorem dX10_copy_10 : decode cX10_copy 10 = .ok (.iload_n 2, 1) := by decide +kernel
theorem dX10_copy_11 : decode cX10_copy 11 = .ok (.aload_n 0, 1) := by decide +kernel
theorem dX10_copy_12 : decode cX10_copy 12 = .ok (.getfield 15, 3) := by decide +kernel
theorem dX10_copy_15 : decode cX10_copy 15 = .ok (.if_icmp .ge 19, 3) := by decide +kernel
theorem dX10_copy_18 : decode cX10_copy 18 = .ok (.aload_n 0, 1) := by decide +kernel
theorem dX10_copy_19 : decode cX10_copy 19 = .ok (.iload_n 2, 1) := by decide +kernel
theorem dX10_copy_20 : decode cX10_copy 20 = .ok (.aload_n 1, 1) := by decide +kernel
theorem dX10_copy_21 : decode cX10_copy 21 = .ok (.iload_n 2, 1) := by decide +kernel
theorem dX10_copy_22 : decode cX10_copy 22 = .ok (.invokevirtual 38, 3) := by decide +kernel
theorem dX10_copy_25 : decode cX10_copy 25 = .ok (.invokevirtual 42, 3) := by decide +kernel
theorem dX10_copy_28 : decode cX10_copy 28 = .ok (.iinc 2 1, 3) := by decide +kernel
theorem dX10_copy_31 : decode cX10_copy 31 = .ok (.goto (-21), 3) := by decide +kernel
theorem dX10_copy_34 : decode cX10_copy 34 = .ok (.return_, 1) := by decide +kernel
set_option maxRecDepth 20000 in
theorem ggX10_isAheadOf_X10_length : GoodIn wsX10_isAheadOf wsX10_length := goodIn_r _ [6, 1, 12, 13] (by decide +kernel) (by decide +kernel)
set_option maxRecDepth 20000 in
theorem gX10_isAheadOf_X10_length : GoodIn wsX10_isAheadOf (wsV RX10 31 RX10 yX10_length wsX10_length) := goodIn_app (goodIn_of _ (by decide +kernel)) ggX10_isAheadOf_X10_length
set_option maxRecDepth 20000 in
theorem ggX10_isAheadOf_X10_at : GoodIn wsX10_isAheadOf wsX10_at := goodIn_r _ [10, 1, 11, 12, 13] (by decide +kernel) (by decide +kernel)
set_option maxRecDepth 20000 in
theorem gX10_isAheadOf_X10_at : GoodIn wsX10_isAheadOf (wsV RX10 38 RX10 yX10_at wsX10_at) := goodIn_app (goodIn_of _ (by decide +kernel)) ggX10_isAheadOf_X10_at
theorem dX10_isAheadOf_0 : decode cX10_isAheadOf 0 = .ok (.aload_n 0, 1) := by decide +kernel
theorem dX10_isAheadOf_1 : decode cX10_isAheadOf 1 = .ok (.getfield 15, 3) := by decide +kernel
theorem dX10_isAheadOf_4 : decode cX10_isAheadOf 4 = .ok (.aload_n 1, 1) := by decide +kernel
theorem dX10_isAheadOf_5 : decode cX10_isAheadOf 5 = .ok (.invokevirtual 31, 3) := by decide +kernel
theorem dX10_isAheadOf_8 : decode cX10_isAheadOf 8 = .ok (.if_icmp .eq 20, 3) := by decide +kernel
theorem dX10_isAheadOf_11 : decode cX10_isAheadOf 11 = .ok (.aload_n 0, 1) := by decide +kernel
theorem dX10_isAheadOf_12 : decode cX10_isAheadOf 12 = .ok (.getfield 15, 3) := by decide +kernel
theorem dX10_isAheadOf_15 : decode cX10_isAheadOf 15 = .ok (.aload_n 1, 1) := by decide +kernel
theorem dX10_isAheadOf_16 : decode cX10_isAheadOf 16 = .ok (.invokevirtual 31, 3) := by decide +kernel
theorem dX10_isAheadOf_19 : decode cX10_isAheadOf 19 = .ok (.if_icmp .ge 7, 3) := by decide +kernel
theorem dX10_isAheadOf_22 : decode cX10_isAheadOf 22 = .ok (.iconst 1, 1) := by decide +kernel
theorem dX10_isAheadOf_23 : decode cX10_isAheadOf 23 = .ok (.goto 4, 3) := by decide +kernel
theorem dX10_isAheadOf_26 : decode cX10_isAheadOf 26 = .ok (.iconst 0, 1) := by decide +kernel
theorem dX10_isAheadOf_27 : decode cX10_isAheadOf 27 = .ok (.ireturn, 1) := by decide +kernel
theorem dX10_isAheadOf_28 : decode cX10_isAheadOf 28 = .ok (.iconst 0, 1) := by decide +kernel
theorem dX10_isAheadOf_29 : decode cX10_isAheadOf 29 = .ok (.istore_n 2, 1) := by decide +kernel
theorem dX10_isAheadOf_30 : decode cX10_isAheadOf 30 = .ok (.iload_n 2, 1) := by decide +kernel
theorem dX10_isAheadOf_31 : decode cX10_isAheadOf 31 = .ok (.aload_n 0, 1) := by decide +kernel
theorem dX10_isAheadOf_32 : decode cX10_isAheadOf 32 = .ok (.getfield 15, 3) := by decide +kernel
theorem dX10_isAheadOf_35 : decode cX10_isAheadOf 35 = .ok (.if_icmp .ge 41, 3) := by decide +kernel
theorem dX10_isAheadOf_38 : decode cX10_isAheadOf 38 = .ok (.aload_n 0, 1) := by decide +kernel
theorem dX10_isAheadOf_39 : decode cX10_isAheadOf 39 = .ok (.iload_n 2, 1) := by decide +kernel
theorem dX10_isAheadOf_40 : decode cX10_isAheadOf 40 = .ok (.invokevirtual 38, 3) := by decide +kernel
theorem dX10_isAheadOf_43 : decode cX10_isAheadOf 43 = .ok (.aload_n 1, 1) := by decide +kernel
theorem dX10_isAheadOf_44 : decode cX10_isAheadOf 44 = .ok (.iload_n 2, 1) := by decide +kernel
theorem dX10_isAheadOf_45 : decode cX10_isAheadOf 45 = .ok (.invokevirtual 38, 3) := by decide +kernel
theorem dX10_isAheadOf_48 : decode cX10_isAheadOf 48 = .ok (.if_icmp .eq 22, 3) := by decide +kernel
theorem dX10_isAheadOf_51 : decode cX10_isAheadOf 51 = .ok (.aload_n 0, 1) := by decide +kernel
theorem dX10_isAheadOf_52 : decode cX10_isAheadOf 52 = .ok (.iload_n 2, 1) := by decide +kernel
theorem dX10_isAheadOf_53 : decode cX10_isAheadOf 53 = .ok (.invokevirtual 38, 3) := by decide +kernel
theorem dX10_isAheadOf_56 : decode cX10_isAheadOf 56 = .ok (.aload_n 1, 1) := by decide +kernel
theorem dX10_isAheadOf_57 : decode cX10_isAheadOf 57 = .ok (.iload_n 2, 1) := by decide +kernel
theorem dX10_isAheadOf_58 : decode cX10_isAheadOf 58 = .ok (.invokevirtual 38, 3) := by decide +kernel
theorem dX10_isAheadOf_61 : decode cX10_isAheadOf 61 = .ok (.if_icmp .ge 7, 3) := by decide +kernel
theorem dX10_isAheadOf_64 : decode cX10_isAheadOf 64 = .ok (.iconst 1, 1) := by decide +kernel
theorem dX10_isAheadOf_65 : decode cX10_isAheadOf 65 = .ok (.goto 4, 3) := by decide +kernel
theorem dX10_isAheadOf_68 : decode cX10_isAheadOf 68 = .ok (.iconst 0, 1) := by decide +kernel
theorem dX10_isAheadOf_69 : decode cX10_isAheadOf 69 = .ok (.ireturn, 1) := by decide +kernel
theorem dX10_isAheadOf_70 : decode cX10_isAheadOf 70 = .ok (.iinc 2 1, 3) := by decide +kernel
theorem dX10_isAheadOf_73 : decode cX10_isAheadOf 73 = .ok (.goto (-43), 3) := by decide +kernel
theorem dX10_isAheadOf_76 : decode cX10_isAheadOf 76 = .ok (.iconst 0, 1) := by decide +kernel
theorem dX10_isAheadOf_77 : decode cX10_isAheadOf 77 = .ok (.ireturn, 1) := by decide +kernel
set_option maxRecDepth 20000 in
theorem ggX11_init_X10_init : GoodIn wsX11_init wsX10_init := goodIn_r _ [43, 44, 2, 3, 45, 46, 129, 130] (by decide +kernel) (by decide +kernel)
set_option maxRecDepth 20000 in
theorem gX11_init_X10_init_n17 : GoodIn wsX11_init (wsX10_init) := ggX11_init_X10_init
set_option maxRecDepth 20000 in
theorem ggX11_init_X8_init : GoodIn wsX11_init wsX8_init := goodIn_r _ [48, 49, 2, 3, 45, 50, 51, 131, 132, 133] (by decide +kernel) (by decide +kernel)
set_option maxRecDepth 20000 in
theorem gX11_init_X8_init_n24 : GoodIn wsX11_init (wsX8_init) := ggX11_init_X8_init
set_option maxRecDepth 20000 in
theorem ggX11_init_X9_init : GoodIn wsX11_init wsX9_init := goodIn_r _ [53, 54, 2, 3, 45, 55, 134] (by decide +kernel) (by decide +kernel)
set_option maxRecDepth 20000 in
theorem gX11_init_X9_init_n31 : GoodIn wsX11_init (wsX9_init) := ggX11_init_X9_init
set_option maxRecDepth 20000 in
theorem ggX11_init_X7_init : GoodIn wsX11_init wsX7_init := goodIn_r _ [58, 59, 2, 3, 45, 60, 61, 62, 135, 136, 137, 138] (by decide +kernel) (by decide +kernel)
set_option maxRecDepth 20000 in
theorem gX11_init_X7_init : GoodIn wsX11_init (wsX7_init) := ggX11_init_X7_init
set_option maxRecDepth 20000 in
theorem ggX11_init_X6_init : GoodIn wsX11_init wsX6_init := goodIn_r _ [65, 66, 2, 3, 45, 67, 68, 69, 70, 139, 140, 141, 142, 143] (by decide +kernel) (by decide +kernel)
set_option maxRecDepth 20000 in
theorem gX11_init_X6_init : GoodIn wsX11_init (wsX6_init) := ggX11_init_X6_init
set_option maxRecDepth 20000 in
theorem ggX11_init_X0_init : GoodIn wsX11_init wsX0_init := goodIn_r _ [73, 74, 2, 3, 75, 76, 77, 78, 79, 144, 145, 146, 147] (by decide +kernel) (by decide +kernel)
set_option maxRecDepth 20000 in
theorem gX11_init_X0_init : GoodIn wsX11_init (wsX0_init) := ggX11_init_X0_init
set_option maxRecDepth 20000 in
theorem ggX11_init_X5_init : GoodIn wsX11_init wsX5_init := goodIn_r _ [81, 82, 2, 3, 45, 83, 84, 148, 149, 150] (by decide +kernel) (by decide +kernel)
set_option maxRecDepth 20000 in
theorem gX11_init_X5_init_n63 : GoodIn wsX11_init (wsX5_init) := ggX11_init_X5_init
set_option maxRecDepth 20000 in
theorem ggX11_init_X2_init : GoodIn wsX11_init wsX2_init := goodIn_r _ [87, 88, 2, 3, 89, 7, 8, 90, 91, 92, 93, 94, 42, 43, 44, 45, 46, 129, 130, 151, 152, 153, 154, 155, 156] (by decide +kernel) (by decide +kernel)
set_option maxRecDepth 20000 in
theorem gX11_init_X2_init : GoodIn wsX11_init (wsX2_init) := ggX11_init_X2_init
set_option maxRecDepth 20000 in
theorem ggX11_init_X1_init : GoodIn wsX11_init wsX1_init := goodIn_r _ [96, 97, 2, 3, 45, 98, 99, 100, 101, 102, 103, 104, 105, 106, 107, 108, 109, 110, 111, 112, 113, 114, 115, 116, 117, 157, 158, 159, 160, 161, 162, 163, 164, 165] (by decide +kernel) (by decide +kernel)
set_option maxRecDepth 20000 in
theorem gX11_init_X1_init_n79 : GoodIn wsX11_init (wsX1_init) := ggX11_init_X1_init
theorem dX11_init_0 : decode cX11_init 0 = .ok (.aload_n 0, 1) := by decide +kernel
theorem dX11_init_1 : decode cX11_init 1 = .ok (.invokespecial 3, 3) := by decide +kernel
theorem dX11_init_4 : decode cX11_init 4 = .ok (.aload_n 0, 1) := by decide +kernel
theorem dX11_init_5 : decode cX11_init 5 = .ok (.bipush 6, 2) := by decide +kernel
theorem dX11_init_7 : decode cX11_init 7 = .ok (.anewarray 9, 3) := by decide +kernel
theorem dX11_init_10 : decode cX11_init 10 = .ok (.putfield 11, 3) := by decide +kernel
theorem dX11_init_13 : decode cX11_init 13 = .ok (.aload_n 0, 1) := by decide +kernel
theorem dX11_init_14 : decode cX11_init 14 = .ok (.new 15, 3) := by decide +kernel
theorem dX11_init_17 : decode cX11_init 17 = .ok (.dup, 1) := by decide +kernel
theorem dX11_init_18 : decode cX11_init 18 = .ok (.invokespecial 17, 3) := by decide +kernel
theorem dX11_init_21 : decode cX11_init 21 = .ok (.putfield 18, 3) := by decide +kernel
theorem dX11_init_24 : decode cX11_init 24 = .ok (.aload_n 0, 1) := by decide +kernel
theorem dX11_init_25 : decode cX11_init 25 = .ok (.new 22, 3) := by decide +kernel
theorem dX11_init_28 : decode cX11_init 28 = .ok (.dup, 1) := by decide +kernel
theorem dX11_init_29 : decode cX11_init 29 = .ok (.invokespecial 24, 3) := by decide +kernel
theorem dX11_init_32 : decode cX11_init 32 = .ok (.putfield 25, 3) := by decide +kernel
theorem dX11_init_35 : decode cX11_init 35 = .ok (.aload_n 0, 1) := by decide +kernel
theorem dX11_init_36 : decode cX11_init 36 = .ok (.new 29, 3) := by decide +kernel
theorem dX11_init_39 : decode cX11_init 39 = .ok (.dup, 1) := by decide +kernel
theorem dX11_init_40 : decode cX11_init 40 = .ok (.invokespecial 31, 3) := by decide +kernel
theorem dX11_init_43 : decode cX11_init 43 = .ok (.putfield 32, 3) := by decide +kernel
theorem dX11_init_46 : decode cX11_init 46 = .ok (.aload_n 0, 1) := by decide +kernel
theorem dX11_init_47 : decode cX11_init 47 = .ok (.new 36, 3) := by decide +kernel
theorem dX11_init_50 : decode cX11_init 50 = .ok (.dup, 1) := by decide +kernel
theorem dX11_init_51 : decode cX11_init 51 = .ok (.aload_n 0, 1) := by decide +kernel
theorem dX11_init_52 : decode cX11_init 52 = .ok (.getfield 25, 3) := by decide +kernel
theorem dX11_init_55 : decode cX11_init 55 = .ok (.aload_n 0, 1) := by decide +kernel
theorem dX11_init_56 : decode cX11_init 56 = .ok (.getfield 32, 3) := by decide +kernel
theorem dX11_init_59 : decode cX11_init 59 = .ok (.invokespecial 38, 3) := by decide +kernel
theorem dX11_init_62 : decode cX11_init 62 = .ok (.putfield 41, 3) := by decide +kernel
theorem dX11_init_65 : decode cX11_init 65 = .ok (.aload_n 0, 1) := by decide +kernel
theorem dX11_init_66 : decode cX11_init 66 = .ok (.new 45, 3) := by decide +kernel
theorem dX11_init_69 : decode cX11_init 69 = .ok (.dup, 1) := by decide +kernel
theorem dX11_init_70 : decode cX11_init 70 = .ok (.aload_n 0, 1) := by decide +kernel
theorem dX11_init_71 : decode cX11_init 71 = .ok (.getfield 25, 3) := by decide +kernel
theorem dX11_init_74 : decode cX11_init 74 = .ok (.aload_n 0, 1) := by decide +kernel
theorem dX11_init_75 : decode cX11_init 75 = .ok (.getfield 32, 3) := by decide +kernel
theorem dX11_init_78 : decode cX11_init 78 = .ok (.invokespecial 47, 3) := by decide +kernel
theorem dX11_init_81 : decode cX11_init 81 = .ok (.putfield 48, 3) := by decide +kernel
theorem dX11_init_84 : decode cX11_init 84 = .ok (.aload_n 0, 1) := by decide +kernel
theorem dX11_init_85 : decode cX11_init 85 = .ok (.new 52, 3) := by decide +kernel
theorem dX11_init_88 : decode cX11_init 88 = .ok (.dup, 1) := by decide +kernel
theorem dX11_init_89 : decode cX11_init 89 = .ok (.aload_n 0, 1) := by decide +kernel
theorem dX11_init_90 : decode cX11_init 90 = .ok (.getfield 25, 3) := by decide +kernel
theorem dX11_init_93 : decode cX11_init 93 = .ok (.aload_n 0, 1) := by decide +kernel
theorem dX11_init_94 : decode cX11_init 94 = .ok (.getfield 41, 3) := by decide +kernel
theorem dX11_init_97 : decode cX11_init 97 = .ok (.invokespecial 54, 3) := by decide +kernel
theorem dX11_init_100 : decode cX11_init 100 = .ok (.putfield 57, 3) := by decide +kernel
theorem dX11_init_103 : decode cX11_init 103 = .ok (.aload_n 0, 1) := by decide +kernel
theorem dX11_init_104 : decode cX11_init 104 = .ok (.new 61, 3) := by decide +kernel
theorem dX11_init_107 : decode cX11_init 107 = .ok (.dup, 1) := by decide +kernel
theorem dX11_init_108 : decode cX11_init 108 = .ok (.invokespecial 63, 3) := by decide +kernel
theorem dX11_init_111 : decode cX11_init 111 = .ok (.putfield 64, 3) := by decide +kernel
theorem dX11_init_114 : decode cX11_init 114 = .ok (.aload_n 0, 1) := by decide +kernel
theorem dX11_init_115 : decode cX11_init 115 = .ok (.new 68, 3) := by decide +kernel
theorem dX11_init_118 : decode cX11_init 118 = .ok (.dup, 1) := by decide +kernel
theorem dX11_init_119 : decode cX11_init 119 = .ok (.aload_n 0, 1) := by decide +kernel
theorem dX11_init_120 : decode cX11_init 120 = .ok (.getfield 25, 3) := by decide +kernel
theorem dX11_init_123 : decode cX11_init 123 = .ok (.aload_n 0, 1) := by decide +kernel
theorem dX11_init_124 : decode cX11_init 124 = .ok (.getfield 64, 3) := by decide +kernel
theorem dX11_init_127 : decode cX11_init 127 = .ok (.invokespecial 70, 3) := by decide +kernel
theorem dX11_init_130 : decode cX11_init 130 = .ok (.putfield 73, 3) := by decide +kernel
theorem dX11_init_133 : decode cX11_init 133 = .ok (.aload_n 0, 1) := by decide +kernel
theorem dX11_init_134 : decode cX11_init 134 = .ok (.new 77, 3) := by decide +kernel
theorem dX11_init_137 : decode cX11_init 137 = .ok (.dup, 1) := by decide +kernel
theorem dX11_init_138 : decode cX11_init 138 = .ok (.invokespecial 79, 3) := by decide +kernel
theorem dX11_init_141 : decode cX11_init 141 = .ok (.putfield 80, 3) := by decide +kernel
theorem dX11_init_144 : decode cX11_init 144 = .ok (.return_, 1) := by decide +kernel
set_option maxRecDepth 20000 in
theorem ggX11_machine_X4_init : GoodIn wsX11_machine wsX4_init := goodIn_r _ [7, 8, 9, 10, 11, 12, 13, 14, 15, 16, 17, 18, 19, 20, 21, 39, 40, 41, 42, 43, 44] (by decide +kernel) (by decide +kernel)
set_option maxRecDepth 20000 in
theorem gX11_machine_X4_init : GoodIn wsX11_machine (wsX4_init) := ggX11_machine_X4_init
set_option maxRecDepth 20000 in
theorem ggX11_machine_X11_add : GoodIn wsX11_machine wsX11_add := goodIn_r _ [26, 1, 27, 28, 29, 30, 31, 32, 33, 34, 35, 36, 37, 38] (by decide +kernel) (by decide +kernel)
set_option maxRecDepth 20000 in
theorem gX11_machine_X11_add : GoodIn wsX11_machine (wsV RX11 91 RX11 yX11_add wsX11_add) := goodIn_app (goodIn_of _ (by decide +kernel)) ggX11_machine_X11_add
theorem dX11_machine_0 : decode cX11_machine 0 = .ok (.iload_n 1, 1) := by decide +kernel
theorem dX11_machine_1 : decode cX11_machine 1 = .ok (.iconst 1, 1) := by decide +kernel
theorem dX11_machine_2 : decode cX11_machine 2 = .ok (.if_icmp .lt 19, 3) := by decide +kernel
theorem dX11_machine_5 : decode cX11_machine 5 = .ok (.iload_n 1, 1) := by decide +kernel
theorem dX11_machine_6 : decode cX11_machine 6 = .ok (.bipush 12, 2) := by decide +kernel
theorem dX11_machine_8 : decode cX11_machine 8 = .ok (.if_icmp .gt 13, 3) := by decide +kernel
theorem dX11_machine_11 : decode cX11_machine 11 = .ok (.iload_n 2, 1) := by decide +kernel
theorem dX11_machine_12 : decode cX11_machine 12 = .ok (.iconst 1, 1) := by decide +kernel
theorem dX11_machine_13 : decode cX11_machine 13 = .ok (.if_icmp .lt 8, 3) := by decide +kernel
theorem dX11_machine_16 : decode cX11_machine 16 = .ok (.iload_n 2, 1) := by decide +kernel
theorem dX11_machine_17 : decode cX11_machine 17 = .ok (.iconst 4, 1) := by decide +kernel
theorem dX11_machine_18 : decode cX11_machine 18 = .ok (.if_icmp .le 6, 3) := by decide +kernel
theorem dX11_machine_21 : decode cX11_machine 21 = .ok (.bipush (-2), 2) := by decide +kernel
theorem dX11_machine_23 : decode cX11_machine 23 = .ok (.ireturn, 1) := by decide +kernel
theorem dX11_machine_24 : decode cX11_machine 24 = .ok (.aload_n 0, 1) := by decide +kernel
theorem dX11_machine_25 : decode cX11_machine 25 = .ok (.getfield 84, 3) := by decide +kernel
theorem dX11_machine_28 : decode cX11_machine 28 = .ok (.bipush 6, 2) := by decide +kernel
theorem dX11_machine_30 : decode cX11_machine 30 = .ok (.if_icmp .lt 8, 3) := by decide +kernel
theorem dX11_machine_33 : decode cX11_machine 33 = .ok (.bipush (-4), 2) := by decide +kernel
theorem dX11_machine_35 : decode cX11_machine 35 = .ok (.goto 16, 3) := by decide +kernel
theorem dX11_machine_38 : decode cX11_machine 38 = .ok (.aload_n 0, 1) := by decide +kernel
theorem dX11_machine_39 : decode cX11_machine 39 = .ok (.new 9, 3) := by decide +kernel
theorem dX11_machine_42 : decode cX11_machine 42 = .ok (.dup, 1) := by decide +kernel
theorem dX11_machine_43 : decode cX11_machine 43 = .ok (.iload_n 1, 1) := by decide +kernel
theorem dX11_machine_44 : decode cX11_machine 44 = .ok (.iload_n 2, 1) := by decide +kernel
theorem dX11_machine_45 : decode cX11_machine 45 = .ok (.invokespecial 88, 3) := by decide +kernel
theorem dX11_machine_48 : decode cX11_machine 48 = .ok (.invokevirtual 91, 3) := by decide +kernel
theorem dX11_machine_51 : decode cX11_machine 51 = .ok (.ireturn, 1) := by decide +kernel
set_option maxRecDepth 20000 in
theorem ggX11_ring_X4_init : GoodIn wsX11_ring wsX4_init := goodIn_r _ [7, 8, 9, 10, 11, 12, 13, 14, 15, 16, 17, 18, 19, 20, 21, 51, 52, 53, 54, 55, 56] (by decide +kernel) (by decide +kernel)
set_option maxRecDepth 20000 in
theorem gX11_ring_X4_init : GoodIn wsX11_ring (wsX4_init) := ggX11_ring_X4_init
set_option maxRecDepth 20000 in
theorem ggX11_ring_X4_lead : GoodIn wsX11_ring wsX4_lead := goodIn_r _ [25, 12, 26, 27, 28, 4, 29, 16, 30, 31, 32, 33, 17, 51, 52, 53, 54, 55, 56] (by decide +kernel) (by decide +kernel)
set_option maxRecDepth 20000 in
theorem gX11_ring_X4_lead : GoodIn wsX11_ring (wsV RX11 95 RX4 yX4_lead wsX4_lead) := goodIn_app (goodIn_of _ (by decide +kernel)) ggX11_ring_X4_lead
set_option maxRecDepth 20000 in
theorem ggX11_ring_X11_add : GoodIn wsX11_ring wsX11_add := goodIn_r _ [38, 1, 39, 40, 41, 42, 43, 44, 45, 46, 47, 48, 49, 50] (by decide +kernel) (by decide +kernel)
set_option maxRecDepth 20000 in
theorem gX11_ring_X11_add : GoodIn wsX11_ring (wsV RX11 91 RX11 yX11_add wsX11_add) := goodIn_app (goodIn_of _ (by decide +kernel)) ggX11_ring_X11_add
theorem dX11_ring_0 : decode cX11_ring 0 = .ok (.iload_n 1, 1) := by decide +kernel
theorem dX11_ring_1 : decode cX11_ring 1 = .ok (.iconst 2, 1) := by decide +kernel
theorem dX11_ring_2 : decode cX11_ring 2 = .ok (.if_icmp .lt 9, 3) := by decide +kernel
theorem dX11_ring_5 : decode cX11_ring 5 = .ok (.iload_n 1, 1) := by decide +kernel
theorem dX11_ring_6 : decode cX11_ring 6 = .ok (.bipush 12, 2) := by decide +kernel
theorem dX11_ring_8 : decode cX11_ring 8 = .ok (.if_icmp .le 6, 3) := by decide +kernel
theorem dX11_ring_11 : decode cX11_ring 11 = .ok (.bipush (-2), 2) := by decide +kernel
theorem dX11_ring_13 : decode cX11_ring 13 = .ok (.ireturn, 1) := by decide +kernel
theorem dX11_ring_14 : decode cX11_ring 14 = .ok (.aload_n 0, 1) := by decide +kernel
theorem dX11_ring_15 : decode cX11_ring 15 = .ok (.getfield 84, 3) := by decide +kernel
theorem dX11_ring_18 : decode cX11_ring 18 = .ok (.bipush 6, 2) := by decide +kernel
theorem dX11_ring_20 : decode cX11_ring 20 = .ok (.if_icmp .lt 6, 3) := by decide +kernel
theorem dX11_ring_23 : decode cX11_ring 23 = .ok (.bipush (-4), 2) := by decide +kernel
theorem dX11_ring_25 : decode cX11_ring 25 = .ok (.ireturn, 1) := by decide +kernel
theorem dX11_ring_26 : decode cX11_ring 26 = .ok (.new 9, 3) := by decide +kernel
theorem dX11_ring_29 : decode cX11_ring 29 = .ok (.dup, 1) := by decide +kernel
theorem dX11_ring_30 : decode cX11_ring 30 = .ok (.iload_n 1, 1) := by decide +kernel
theorem dX11_ring_31 : decode cX11_ring 31 = .ok (.iconst 2, 1) := by decide +kernel
theorem dX11_ring_32 : decode cX11_ring 32 = .ok (.invokespecial 88, 3) := by decide +kernel
theorem dX11_ring_35 : decode cX11_ring 35 = .ok (.astore_n 2, 1) := by decide +kernel
theorem dX11_ring_36 : decode cX11_ring 36 = .ok (.iconst 0, 1) := by decide +kernel
theorem dX11_ring_37 : decode cX11_ring 37 = .ok (.istore_n 3, 1) := by decide +kernel
theorem dX11_ring_38 : decode cX11_ring 38 = .ok (.iload_n 3, 1) := by decide +kernel
theorem dX11_ring_39 : decode cX11_ring 39 = .ok (.iload_n 1, 1) := by decide +kernel
theorem dX11_ring_40 : decode cX11_ring 40 = .ok (.if_icmp .ge 57, 3) := by decide +kernel
theorem dX11_ring_43 : decode cX11_ring 43 = .ok (.iload_n 3, 1) := by decide +kernel
theorem dX11_ring_44 : decode cX11_ring 44 = .ok (.iload_n 1, 1) := by decide +kernel
theorem dX11_ring_45 : decode cX11_ring 45 = .ok (.iconst 1, 1) := by decide +kernel
theorem dX11_ring_46 : decode cX11_ring 46 = .ok (.isub, 1) := by decide +kernel
theorem dX11_ring_47 : decode cX11_ring 47 = .ok (.if_icmp .ne 7, 3) := by decide +kernel
theorem dX11_ring_50 : decode cX11_ring 50 = .ok (.iconst 1, 1) := by decide +kernel
theorem dX11_ring_51 : decode cX11_ring 51 = .ok (.goto 4, 3) := by decide +kernel
theorem dX11_ring_54 : decode cX11_ring 54 = .ok (.iconst 0, 1) := by decide +kernel
theorem dX11_ring_55 : decode cX11_ring 55 = .ok (.istore 4, 2) := by decide +kernel
theorem dX11_ring_57 : decode cX11_ring 57 = .ok (.aload_n 2, 1) := by decide +kernel
theorem dX11_ring_58 : decode cX11_ring 58 = .ok (.iload_n 3, 1) := by decide +kernel
theorem dX11_ring_59 : decode cX11_ring 59 = .ok (.iconst 0, 1) := by decide +kernel
theorem dX11_ring_60 : decode cX11_ring 60 = .ok (.iload 4, 2) := by decide +kernel
theorem dX11_ring_62 : decode cX11_ring 62 = .ok (.ifCond .eq 7, 3) := by decide +kernel
theorem dX11_ring_65 : decode cX11_ring 65 = .ok (.iconst 0, 1) := by decide +kernel
theorem dX11_ring_66 : decode cX11_ring 66 = .ok (.goto 6, 3) := by decide +kernel
theorem dX11_ring_69 : decode cX11_ring 69 = .ok (.iload_n 3, 1) := by decide +kernel
theorem dX11_ring_70 : decode cX11_ring 70 = .ok (.iconst 1, 1) := by decide +kernel
theorem dX11_ring_71 : decode cX11_ring 71 = .ok (.iadd, 1) := by decide +kernel
theorem dX11_ring_72 : decode cX11_ring 72 = .ok (.invokevirtual 95, 3) := by decide +kernel
theorem dX11_ring_75 : decode cX11_ring 75 = .ok (.aload_n 2, 1) := by decide +kernel
theorem dX11_ring_76 : decode cX11_ring 76 = .ok (.iload_n 3, 1) := by decide +kernel
theorem dX11_ring_77 : decode cX11_ring 77 = .ok (.iconst 1, 1) := by decide +kernel
theorem dX11_ring_78 : decode cX11_ring 78 = .ok (.iload 4, 2) := by decide +kernel
theorem dX11_ring_80 : decode cX11_ring 80 = .ok (.ifCond .eq 7, 3) := by decide +kernel
theorem dX11_ring_83 : decode cX11_ring 83 = .ok (.iconst 0, 1) := by decide +kernel
theorem dX11_ring_84 : decode cX11_ring 84 = .ok (.goto 4, 3) := by decide +kernel
theorem dX11_ring_87 : decode cX11_ring 87 = .ok (.iload_n 3, 1) := by decide +kernel
theorem dX11_ring_88 : decode cX11_ring 88 = .ok (.invokevirtual 95, 3) := by decide +kernel
theorem dX11_ring_91 : decode cX11_ring 91 = .ok (.iinc 3 1, 3) := by decide +kernel
theorem dX11_ring_94 : decode cX11_ring 94 = .ok (.goto (-56), 3) := by decide +kernel
theorem dX11_ring_97 : decode cX11_ring 97 = .ok (.aload_n 0, 1) := by decide +kernel
theorem dX11_ring_98 : decode cX11_ring 98 = .ok (.aload_n 2, 1) := by decide +kernel
theorem dX11_ring_99 : decode cX11_ring 99 = .ok (.invokevirtual 91, 3) := by decide +kernel
theorem dX11_ring_102 : decode cX11_ring 102 = .ok (.ireturn, 1) := by decide +kernel
set_option maxRecDepth 20000 in
theorem ggX11_move_X11_machineAt : GoodIn wsX11_move wsX11_machineAt := goodIn_r _ [5, 6, 7, 30, 31, 32, 33, 34, 35, 36, 37, 38, 39, 40] (by decide +kernel) (by decide +kernel)
set_option maxRecDepth 20000 in
theorem gX11_move_X11_machineAt : GoodIn wsX11_move (wsV RX11 99 RX11 yX11_machineAt wsX11_machineAt) := goodIn_app (goodIn_of _ (by decide +kernel)) ggX11_move_X11_machineAt
set_option maxRecDepth 20000 in
theorem ggX11_move_X4_hasState : GoodIn wsX11_move wsX4_hasState := goodIn_r _ [12, 13, 41, 42, 43, 44, 45, 46] (by decide +kernel) (by decide +kernel)
set_option maxRecDepth 20000 in
theorem gX11_move_X4_hasState : GoodIn wsX11_move (wsV RX11 103 RX4 yX4_hasState wsX4_hasState) := goodIn_app (goodIn_of _ (by decide +kernel)) ggX11_move_X4_hasState
set_option maxRecDepth 20000 in
theorem ggX11_move_X4_hasLetter : GoodIn wsX11_move wsX4_hasLetter := goodIn_r _ [17, 18, 41, 42, 43, 44, 45, 46] (by decide +kernel) (by decide +kernel)
set_option maxRecDepth 20000 in
theorem gX11_move_X4_hasLetter : GoodIn wsX11_move (wsV RX11 107 RX4 yX4_hasLetter wsX4_hasLetter) := goodIn_app (goodIn_of _ (by decide +kernel)) ggX11_move_X4_hasLetter
set_option maxRecDepth 20000 in
theorem ggX11_move_X4_target : GoodIn wsX11_move wsX4_target := goodIn_r _ [22, 13, 18, 23, 41, 42, 43, 44, 45, 46] (by decide +kernel) (by decide +kernel)
set_option maxRecDepth 20000 in
theorem gX11_move_X4_target : GoodIn wsX11_move (wsV RX11 110 RX4 yX4_target wsX4_target) := goodIn_app (goodIn_of _ (by decide +kernel)) ggX11_move_X4_target
set_option maxRecDepth 20000 in
theorem ggX11_move_X4_lead : GoodIn wsX11_move wsX4_lead := goodIn_r _ [27, 23, 28, 9, 10, 11, 12, 13, 29, 15, 16, 17, 18, 41, 42, 43, 44, 45, 46] (by decide +kernel) (by decide +kernel)
set_option maxRecDepth 20000 in
theorem gX11_move_X4_lead : GoodIn wsX11_move (wsV RX11 95 RX4 yX4_lead wsX4_lead) := goodIn_app (goodIn_of _ (by decide +kernel)) ggX11_move_X4_lead
theorem dX11_move_0 : decode cX11_move 0 = .ok (.aload_n 0, 1) := by decide +kernel
theorem dX11_move_1 : decode cX11_move 1 = .ok (.iload_n 1, 1) := by decide +kernel
theorem dX11_move_2 : decode cX11_move 2 = .ok (.invokevirtual 99, 3) := by decide +kernel
theorem dX11_move_5 : decode cX11_move 5 = .ok (.astore 5, 2) := by decide +kernel
theorem dX11_move_7 : decode cX11_move 7 = .ok (.aload 5, 2) := by decide +kernel
theorem dX11_move_9 : decode cX11_move 9 = .ok (.ifnull 37, 3) := by decide +kernel
theorem dX11_move_12 : decode cX11_move 12 = .ok (.aload 5, 2) := by decide +kernel
theorem dX11_move_14 : decode cX11_move 14 = .ok (.iload_n 2, 1) := by decide +kernel
theorem dX11_move_15 : decode cX11_move 15 = .ok (.invokevirtual 103, 3) := by decide +kernel
theorem dX11_move_18 : decode cX11_move 18 = .ok (.ifCond .eq 28, 3) := by decide +kernel
theorem dX11_move_21 : decode cX11_move 21 = .ok (.aload 5, 2) := by decide +kernel
theorem dX11_move_23 : decode cX11_move 23 = .ok (.iload_n 3, 1) := by decide +kernel
theorem dX11_move_24 : decode cX11_move 24 = .ok (.invokevirtual 107, 3) := by decide +kernel
theorem dX11_move_27 : decode cX11_move 27 = .ok (.ifCond .eq 19, 3) := by decide +kernel
theorem dX11_move_30 : decode cX11_move 30 = .ok (.iload 4, 2) := by decide +kernel
theorem dX11_move_32 : decode cX11_move 32 = .ok (.iconst (-1), 1) := by decide +kernel
theorem dX11_move_33 : decode cX11_move 33 = .ok (.if_icmp .eq 16, 3) := by decide +kernel
theorem dX11_move_36 : decode cX11_move 36 = .ok (.aload 5, 2) := by decide +kernel
theorem dX11_move_38 : decode cX11_move 38 = .ok (.iload 4, 2) := by decide +kernel
theorem dX11_move_40 : decode cX11_move 40 = .ok (.invokevirtual 103, 3) := by decide +kernel
theorem dX11_move_43 : decode cX11_move 43 = .ok (.ifCond .ne 6, 3) := by decide +kernel
theorem dX11_move_46 : decode cX11_move 46 = .ok (.bipush (-2), 2) := by decide +kernel
theorem dX11_move_48 : decode cX11_move 48 = .ok (.ireturn, 1) := by decide +kernel
theorem dX11_move_49 : decode cX11_move 49 = .ok (.aload 5, 2) := by decide +kernel
theorem dX11_move_51 : decode cX11_move 51 = .ok (.iload_n 2, 1) := by decide +kernel
theorem dX11_move_52 : decode cX11_move 52 = .ok (.iload_n 3, 1) := by decide +kernel
theorem dX11_move_53 : decode cX11_move 53 = .ok (.invokevirtual 110, 3) := by decide +kernel
theorem dX11_move_56 : decode cX11_move 56 = .ok (.istore 6, 2) := by decide +kernel
theorem dX11_move_58 : decode cX11_move 58 = .ok (.aload 5, 2) := by decide +kernel
theorem dX11_move_60 : decode cX11_move 60 = .ok (.iload_n 2, 1) := by decide +kernel
theorem dX11_move_61 : decode cX11_move 61 = .ok (.iload_n 3, 1) := by decide +kernel
theorem dX11_move_62 : decode cX11_move 62 = .ok (.iload 4, 2) := by decide +kernel
theorem dX11_move_64 : decode cX11_move 64 = .ok (.invokevirtual 95, 3) := by decide +kernel
theorem dX11_move_67 : decode cX11_move 67 = .ok (.iload 6, 2) := by decide +kernel
theorem dX11_move_69 : decode cX11_move 69 = .ok (.ireturn, 1) := by decide +kernel
set_option maxRecDepth 20000 in
theorem ggX11_light_X11_machineAt : GoodIn wsX11_light wsX11_machineAt := goodIn_r _ [5, 6, 7, 24, 25, 26, 27, 28, 29, 30, 31, 32, 33, 34] (by decide +kernel) (by decide +kernel)
set_option maxRecDepth 20000 in
theorem gX11_light_X11_machineAt : GoodIn wsX11_light (wsV RX11 99 RX11 yX11_machineAt wsX11_machineAt) := goodIn_app (goodIn_of _ (by decide +kernel)) ggX11_light_X11_machineAt
set_option maxRecDepth 20000 in
theorem ggX11_light_X4_hasState : GoodIn wsX11_light wsX4_hasState := goodIn_r _ [12, 13, 35, 36, 37, 38, 39, 40] (by decide +kernel) (by decide +kernel)
set_option maxRecDepth 20000 in
theorem gX11_light_X4_hasState : GoodIn wsX11_light (wsV RX11 103 RX4 yX4_hasState wsX4_hasState) := goodIn_app (goodIn_of _ (by decide +kernel)) ggX11_light_X4_hasState
set_option maxRecDepth 20000 in
theorem ggX11_light_X4_putLight : GoodIn wsX11_light wsX4_putLight := goodIn_r _ [17, 18, 19, 20, 21, 11, 22, 23, 9, 10, 12, 13, 35, 36, 37, 38, 39, 40] (by decide +kernel) (by decide +kernel)
set_option maxRecDepth 20000 in
theorem gX11_light_X4_putLight : GoodIn wsX11_light (wsV RX11 114 RX4 yX4_putLight wsX4_putLight) := goodIn_app (goodIn_of _ (by decide +kernel)) ggX11_light_X4_putLight
theorem dX11_light_0 : decode cX11_light 0 = .ok (.aload_n 0, 1) := by decide +kernel
theorem dX11_light_1 : decode cX11_light 1 = .ok (.iload_n 1, 1) := by decide +kernel
theorem dX11_light_2 : decode cX11_light 2 = .ok (.invokevirtual 99, 3) := by decide +kernel
theorem dX11_light_5 : decode cX11_light 5 = .ok (.astore 4, 2) := by decide +kernel
theorem dX11_light_7 : decode cX11_light 7 = .ok (.aload 4, 2) := by decide +kernel
theorem dX11_light_9 : decode cX11_light 9 = .ok (.ifnull 21, 3) := by decide +kernel
theorem dX11_light_12 : decode cX11_light 12 = .ok (.aload 4, 2) := by decide +kernel
theorem dX11_light_14 : decode cX11_light 14 = .ok (.iload_n 2, 1) := by decide +kernel
theorem dX11_light_15 : decode cX11_light 15 = .ok (.invokevirtual 103, 3) := by decide +kernel
theorem dX11_light_18 : decode cX11_light 18 = .ok (.ifCond .eq 12, 3) := by decide +kernel
theorem dX11_light_21 : decode cX11_light 21 = .ok (.iload_n 3, 1) := by decide +kernel
theorem dX11_light_22 : decode cX11_light 22 = .ok (.ifCond .lt 8, 3) := by decide +kernel
theorem dX11_light_25 : decode cX11_light 25 = .ok (.iload_n 3, 1) := by decide +kernel
theorem dX11_light_26 : decode cX11_light 26 = .ok (.iconst 3, 1) := by decide +kernel
theorem dX11_light_27 : decode cX11_light 27 = .ok (.if_icmp .le 6, 3) := by decide +kernel
theorem dX11_light_30 : decode cX11_light 30 = .ok (.bipush (-2), 2) := by decide +kernel
theorem dX11_light_32 : decode cX11_light 32 = .ok (.ireturn, 1) := by decide +kernel
theorem dX11_light_33 : decode cX11_light 33 = .ok (.aload 4, 2) := by decide +kernel
theorem dX11_light_35 : decode cX11_light 35 = .ok (.iload_n 2, 1) := by decide +kernel
theorem dX11_light_36 : decode cX11_light 36 = .ok (.iload_n 3, 1) := by decide +kernel
theorem dX11_light_37 : decode cX11_light 37 = .ok (.invokevirtual 114, 3) := by decide +kernel
theorem dX11_light_40 : decode cX11_light 40 = .ok (.ireturn, 1) := by decide +kernel
set_option maxRecDepth 20000 in
theorem ggX11_price_X11_machineAt : GoodIn wsX11_price wsX11_machineAt := goodIn_r _ [5, 6, 7, 24, 25, 26, 27, 28, 29, 30, 31, 32, 33, 34] (by decide +kernel) (by decide +kernel)
set_option maxRecDepth 20000 in
theorem gX11_price_X11_machineAt : GoodIn wsX11_price (wsV RX11 99 RX11 yX11_machineAt wsX11_machineAt) := goodIn_app (goodIn_of _ (by decide +kernel)) ggX11_price_X11_machineAt
set_option maxRecDepth 20000 in
theorem ggX11_price_X4_hasLetter : GoodIn wsX11_price wsX4_hasLetter := goodIn_r _ [12, 13, 35, 36, 37, 38, 39, 40] (by decide +kernel) (by decide +kernel)
set_option maxRecDepth 20000 in
theorem gX11_price_X4_hasLetter : GoodIn wsX11_price (wsV RX11 107 RX4 yX4_hasLetter wsX4_hasLetter) := goodIn_app (goodIn_of _ (by decide +kernel)) ggX11_price_X4_hasLetter
set_option maxRecDepth 20000 in
theorem ggX11_price_X4_putPrice : GoodIn wsX11_price wsX4_putPrice := goodIn_r _ [17, 18, 19, 20, 21, 11, 22, 23, 9, 10, 12, 13, 35, 36, 37, 38, 39, 40] (by decide +kernel) (by decide +kernel)
set_option maxRecDepth 20000 in
theorem gX11_price_X4_putPrice : GoodIn wsX11_price (wsV RX11 117 RX4 yX4_putPrice wsX4_putPrice) := goodIn_app (goodIn_of _ (by decide +kernel)) ggX11_price_X4_putPrice
theorem dX11_price_0 : decode cX11_price 0 = .ok (.aload_n 0, 1) := by decide +kernel
theorem dX11_price_1 : decode cX11_price 1 = .ok (.iload_n 1, 1) := by decide +kernel
theorem dX11_price_2 : decode cX11_price 2 = .ok (.invokevirtual 99, 3) := by decide +kernel
theorem dX11_price_5 : decode cX11_price 5 = .ok (.astore 4, 2) := by decide +kernel
theorem dX11_price_7 : decode cX11_price 7 = .ok (.aload 4, 2) := by decide +kernel
theorem dX11_price_9 : decode cX11_price 9 = .ok (.ifnull 23, 3) := by decide +kernel
theorem dX11_price_12 : decode cX11_price 12 = .ok (.aload 4, 2) := by decide +kernel
theorem dX11_price_14 : decode cX11_price 14 = .ok (.iload_n 2, 1) := by decide +kernel
theorem dX11_price_15 : decode cX11_price 15 = .ok (.invokevirtual 107, 3) := by decide +kernel
theorem dX11_price_18 : decode cX11_price 18 = .ok (.ifCond .eq 14, 3) := by decide +kernel
theorem dX11_price_21 : decode cX11_price 21 = .ok (.iload_n 3, 1) := by decide +kernel
theorem dX11_price_22 : decode cX11_price 22 = .ok (.iconst 1, 1) := by decide +kernel
theorem dX11_price_23 : decode cX11_price 23 = .ok (.if_icmp .lt 9, 3) := by decide +kernel
theorem dX11_price_26 : decode cX11_price 26 = .ok (.iload_n 3, 1) := by decide +kernel
theorem dX11_price_27 : decode cX11_price 27 = .ok (.bipush 20, 2) := by decide +kernel
theorem dX11_price_29 : decode cX11_price 29 = .ok (.if_icmp .le 6, 3) := by decide +kernel
theorem dX11_price_32 : decode cX11_price 32 = .ok (.bipush (-2), 2) := by decide +kernel
theorem dX11_price_34 : decode cX11_price 34 = .ok (.ireturn, 1) := by decide +kernel
theorem dX11_price_35 : decode cX11_price 35 = .ok (.aload 4, 2) := by decide +kernel
theorem dX11_price_37 : decode cX11_price 37 = .ok (.iload_n 2, 1) := by decide +kernel
theorem dX11_price_38 : decode cX11_price 38 = .ok (.iload_n 3, 1) := by decide +kernel
theorem dX11_price_39 : decode cX11_price 39 = .ok (.invokevirtual 117, 3) := by decide +kernel
theorem dX11_price_42 : decode cX11_price 42 = .ok (.ireturn, 1) := by decide +kernel
set_option maxRecDepth 20000 in
theorem ggX11_share_X11_machineAt : GoodIn wsX11_share wsX11_machineAt := goodIn_r _ [5, 6, 7, 24, 25, 26, 27, 28, 29, 30, 31, 32, 33, 34] (by decide +kernel) (by decide +kernel)
set_option maxRecDepth 20000 in
theorem gX11_share_X11_machineAt : GoodIn wsX11_share (wsV RX11 99 RX11 yX11_machineAt wsX11_machineAt) := goodIn_app (goodIn_of _ (by decide +kernel)) ggX11_share_X11_machineAt
set_option maxRecDepth 20000 in
theorem ggX11_share_X4_hasLetter : GoodIn wsX11_share wsX4_hasLetter := goodIn_r _ [12, 13, 35, 36, 37, 38, 39, 40] (by decide +kernel) (by decide +kernel)
set_option maxRecDepth 20000 in
theorem gX11_share_X4_hasLetter : GoodIn wsX11_share (wsV RX11 107 RX4 yX4_hasLetter wsX4_hasLetter) := goodIn_app (goodIn_of _ (by decide +kernel)) ggX11_share_X4_hasLetter
set_option maxRecDepth 20000 in
theorem ggX11_share_X4_putShare : GoodIn wsX11_share wsX4_putShare := goodIn_r _ [17, 18, 19, 20, 21, 11, 22, 23, 9, 10, 12, 13, 35, 36, 37, 38, 39, 40] (by decide +kernel) (by decide +kernel)
set_option maxRecDepth 20000 in
theorem gX11_share_X4_putShare : GoodIn wsX11_share (wsV RX11 120 RX4 yX4_putShare wsX4_putShare) := goodIn_app (goodIn_of _ (by decide +kernel)) ggX11_share_X4_putShare
theorem dX11_share_0 : decode cX11_share 0 = .ok (.aload_n 0, 1) := by decide +kernel
theorem dX11_share_1 : decode cX11_share 1 = .ok (.iload_n 1, 1) := by decide +kernel
theorem dX11_share_2 : decode cX11_share 2 = .ok (.invokevirtual 99, 3) := by decide +kernel
theorem dX11_share_5 : decode cX11_share 5 = .ok (.astore 4, 2) := by decide +kernel
theorem dX11_share_7 : decode cX11_share 7 = .ok (.aload 4, 2) := by decide +kernel
theorem dX11_share_9 : decode cX11_share 9 = .ok (.ifnull 21, 3) := by decide +kernel
theorem dX11_share_12 : decode cX11_share 12 = .ok (.aload 4, 2) := by decide +kernel
theorem dX11_share_14 : decode cX11_share 14 = .ok (.iload_n 2, 1) := by decide +kernel
theorem dX11_share_15 : decode cX11_share 15 = .ok (.invokevirtual 107, 3) := by decide +kernel
theorem dX11_share_18 : decode cX11_share 18 = .ok (.ifCond .eq 12, 3) := by decide +kernel
theorem dX11_share_21 : decode cX11_share 21 = .ok (.iload_n 3, 1) := by decide +kernel
theorem dX11_share_22 : decode cX11_share 22 = .ok (.ifCond .lt 8, 3) := by decide +kernel
theorem dX11_share_25 : decode cX11_share 25 = .ok (.iload_n 3, 1) := by decide +kernel
theorem dX11_share_26 : decode cX11_share 26 = .ok (.iconst 5, 1) := by decide +kernel
theorem dX11_share_27 : decode cX11_share 27 = .ok (.if_icmp .le 6, 3) := by decide +kernel
theorem dX11_share_30 : decode cX11_share 30 = .ok (.bipush (-2), 2) := by decide +kernel
theorem dX11_share_32 : decode cX11_share 32 = .ok (.ireturn, 1) := by decide +kernel
theorem dX11_share_33 : decode cX11_share 33 = .ok (.aload 4, 2) := by decide +kernel
theorem dX11_share_35 : decode cX11_share 35 = .ok (.iload_n 2, 1) := by decide +kernel
theorem dX11_share_36 : decode cX11_share 36 = .ok (.iload_n 3, 1) := by decide +kernel
theorem dX11_share_37 : decode cX11_share 37 = .ok (.invokevirtual 120, 3) := by decide +kernel
theorem dX11_share_40 : decode cX11_share 40 = .ok (.ireturn, 1) := by decide +kernel
set_option maxRecDepth 20000 in
theorem ggX11_about_X11_machineAt : GoodIn wsX11_about wsX11_machineAt := goodIn_r _ [5, 6, 7, 31, 32, 33, 34, 35, 36, 37, 38, 39, 40, 41] (by decide +kernel) (by decide +kernel)
set_option maxRecDepth 20000 in
theorem gX11_about_X11_machineAt : GoodIn wsX11_about (wsV RX11 99 RX11 yX11_machineAt wsX11_machineAt) := goodIn_app (goodIn_of _ (by decide +kernel)) ggX11_about_X11_machineAt
set_option maxRecDepth 20000 in
theorem ggX11_about_X11_fact : GoodIn wsX11_about wsX11_fact := goodIn_r _ [10, 11, 12, 13, 14, 15, 16, 17, 18, 19, 20, 21, 22, 23, 24, 25, 26, 27, 28, 29, 30, 42, 43, 44, 45, 46, 47] (by decide +kernel) (by decide +kernel)
set_option maxRecDepth 20000 in
theorem gX11_about_X11_fact : GoodIn wsX11_about (va_wsS RX11 123 yX11_fact wsX11_fact) := goodIn_app (goodIn_of _ (by decide +kernel)) ggX11_about_X11_fact
theorem dX11_about_0 : decode cX11_about 0 = .ok (.aload_n 0, 1) := by decide +kernel
theorem dX11_about_1 : decode cX11_about 1 = .ok (.iload_n 1, 1) := by decide +kernel
theorem dX11_about_2 : decode cX11_about 2 = .ok (.invokevirtual 99, 3) := by decide +kernel
theorem dX11_about_5 : decode cX11_about 5 = .ok (.astore_n 3, 1) := by decide +kernel
theorem dX11_about_6 : decode cX11_about 6 = .ok (.aload_n 3, 1) := by decide +kernel
theorem dX11_about_7 : decode cX11_about 7 = .ok (.ifnull 12, 3) := by decide +kernel
theorem dX11_about_10 : decode cX11_about 10 = .ok (.iload_n 2, 1) := by decide +kernel
theorem dX11_about_11 : decode cX11_about 11 = .ok (.ifCond .lt 8, 3) := by decide +kernel
theorem dX11_about_14 : decode cX11_about 14 = .ok (.iload_n 2, 1) := by decide +kernel
theorem dX11_about_15 : decode cX11_about 15 = .ok (.iconst 2, 1) := by decide +kernel
theorem dX11_about_16 : decode cX11_about 16 = .ok (.if_icmp .le 6, 3) := by decide +kernel
theorem dX11_about_19 : decode cX11_about 19 = .ok (.bipush (-2), 2) := by decide +kernel
theorem dX11_about_21 : decode cX11_about 21 = .ok (.ireturn, 1) := by decide +kernel
theorem dX11_about_22 : decode cX11_about 22 = .ok (.aload_n 3, 1) := by decide +kernel
theorem dX11_about_23 : decode cX11_about 23 = .ok (.iload_n 2, 1) := by decide +kernel
theorem dX11_about_24 : decode cX11_about 24 = .ok (.invokestatic 123, 3) := by decide +kernel
theorem dX11_about_27 : decode cX11_about 27 = .ok (.ireturn, 1) := by decide +kernel
set_option maxRecDepth 20000 in
theorem ggX11_moveOf_X11_machineAt : GoodIn wsX11_moveOf wsX11_machineAt := goodIn_r _ [5, 6, 7, 24, 25, 26, 27, 28, 29, 30, 31, 32, 33, 34] (by decide +kernel) (by decide +kernel)
set_option maxRecDepth 20000 in
theorem gX11_moveOf_X11_machineAt : GoodIn wsX11_moveOf (wsV RX11 99 RX11 yX11_machineAt wsX11_machineAt) := goodIn_app (goodIn_of _ (by decide +kernel)) ggX11_moveOf_X11_machineAt
set_option maxRecDepth 20000 in
theorem ggX11_moveOf_X4_hasState : GoodIn wsX11_moveOf wsX4_hasState := goodIn_r _ [12, 13, 35, 36, 37, 38, 39, 40] (by decide +kernel) (by decide +kernel)
set_option maxRecDepth 20000 in
theorem gX11_moveOf_X4_hasState : GoodIn wsX11_moveOf (wsV RX11 103 RX4 yX4_hasState wsX4_hasState) := goodIn_app (goodIn_of _ (by decide +kernel)) ggX11_moveOf_X4_hasState
set_option maxRecDepth 20000 in
theorem ggX11_moveOf_X4_hasLetter : GoodIn wsX11_moveOf wsX4_hasLetter := goodIn_r _ [17, 18, 35, 36, 37, 38, 39, 40] (by decide +kernel) (by decide +kernel)
set_option maxRecDepth 20000 in
theorem gX11_moveOf_X4_hasLetter : GoodIn wsX11_moveOf (wsV RX11 107 RX4 yX4_hasLetter wsX4_hasLetter) := goodIn_app (goodIn_of _ (by decide +kernel)) ggX11_moveOf_X4_hasLetter
set_option maxRecDepth 20000 in
theorem ggX11_moveOf_X4_target : GoodIn wsX11_moveOf wsX4_target := goodIn_r _ [22, 13, 18, 23, 35, 36, 37, 38, 39, 40] (by decide +kernel) (by decide +kernel)
set_option maxRecDepth 20000 in
theorem gX11_moveOf_X4_target : GoodIn wsX11_moveOf (wsV RX11 110 RX4 yX4_target wsX4_target) := goodIn_app (goodIn_of _ (by decide +kernel)) ggX11_moveOf_X4_target
theorem dX11_moveOf_0 : decode cX11_moveOf 0 = .ok (.aload_n 0, 1) := by decide +kernel
theorem dX11_moveOf_1 : decode cX11_moveOf 1 = .ok (.iload_n 1, 1) := by decide +kernel
theorem dX11_moveOf_2 : decode cX11_moveOf 2 = .ok (.invokevirtual 99, 3) := by decide +kernel
theorem dX11_moveOf_5 : decode cX11_moveOf 5 = .ok (.astore 4, 2) := by decide +kernel
theorem dX11_moveOf_7 : decode cX11_moveOf 7 = .ok (.aload 4, 2) := by decide +kernel
theorem dX11_moveOf_9 : decode cX11_moveOf 9 = .ok (.ifnull 21, 3) := by decide +kernel
theorem dX11_moveOf_12 : decode cX11_moveOf 12 = .ok (.aload 4, 2) := by decide +kernel
theorem dX11_moveOf_14 : decode cX11_moveOf 14 = .ok (.iload_n 2, 1) := by decide +kernel
theorem dX11_moveOf_15 : decode cX11_moveOf 15 = .ok (.invokevirtual 103, 3) := by decide +kernel
theorem dX11_moveOf_18 : decode cX11_moveOf 18 = .ok (.ifCond .eq 12, 3) := by decide +kernel
theorem dX11_moveOf_21 : decode cX11_moveOf 21 = .ok (.aload 4, 2) := by decide +kernel
theorem dX11_moveOf_23 : decode cX11_moveOf 23 = .ok (.iload_n 3, 1) := by decide +kernel
theorem dX11_moveOf_24 : decode cX11_moveOf 24 = .ok (.invokevirtual 107, 3) := by decide +kernel
theorem dX11_moveOf_27 : decode cX11_moveOf 27 = .ok (.ifCond .ne 6, 3) := by decide +kernel
theorem dX11_moveOf_30 : decode cX11_moveOf 30 = .ok (.bipush (-2), 2) := by decide +kernel
theorem dX11_moveOf_32 : decode cX11_moveOf 32 = .ok (.ireturn, 1) := by decide +kernel
theorem dX11_moveOf_33 : decode cX11_moveOf 33 = .ok (.aload 4, 2) := by decide +kernel
theorem dX11_moveOf_35 : decode cX11_moveOf 35 = .ok (.iload_n 2, 1) := by decide +kernel
theorem dX11_moveOf_36 : decode cX11_moveOf 36 = .ok (.iload_n 3, 1) := by decide +kernel
theorem dX11_moveOf_37 : decode cX11_moveOf 37 = .ok (.invokevirtual 110, 3) := by decide +kernel
theorem dX11_moveOf_40 : decode cX11_moveOf 40 = .ok (.ireturn, 1) := by decide +kernel
set_option maxRecDepth 20000 in
theorem ggX11_empty_X10_length : GoodIn wsX11_empty wsX10_length := goodIn_r _ [6, 7, 23, 24] (by decide +kernel) (by decide +kernel)
set_option maxRecDepth 20000 in
theorem gX11_empty_X10_length : GoodIn wsX11_empty (wsV RX11 127 RX10 yX10_length wsX10_length) := goodIn_app (goodIn_of _ (by decide +kernel)) ggX11_empty_X10_length
set_option maxRecDepth 20000 in
theorem ggX11_empty_X10_clear : GoodIn wsX11_empty wsX10_clear := goodIn_r _ [11, 7, 23, 24] (by decide +kernel) (by decide +kernel)
set_option maxRecDepth 20000 in
theorem gX11_empty_X10_clear : GoodIn wsX11_empty (wsV RX11 131 RX10 yX10_clear wsX10_clear) := goodIn_app (goodIn_of _ (by decide +kernel)) ggX11_empty_X10_clear
theorem dX11_empty_0 : decode cX11_empty 0 = .ok (.aload_n 0, 1) := by decide +kernel
theorem dX11_empty_1 : decode cX11_empty 1 = .ok (.getfield 18, 3) := by decide +kernel
theorem dX11_empty_4 : decode cX11_empty 4 = .ok (.invokevirtual 127, 3) := by decide +kernel
theorem dX11_empty_7 : decode cX11_empty 7 = .ok (.istore_n 1, 1) := by decide +kernel
theorem dX11_empty_8 : decode cX11_empty 8 = .ok (.aload_n 0, 1) := by decide +kernel
theorem dX11_empty_9 : decode cX11_empty 9 = .ok (.getfield 18, 3) := by decide +kernel
theorem dX11_empty_12 : decode cX11_empty 12 = .ok (.invokevirtual 131, 3) := by decide +kernel
theorem dX11_empty_15 : decode cX11_empty 15 = .ok (.iload_n 1, 1) := by decide +kernel
theorem dX11_empty_16 : decode cX11_empty 16 = .ok (.ireturn, 1) := by decide +kernel
set_option maxRecDepth 20000 in
theorem ggX11_letter_X10_append : GoodIn wsX11_letter wsX10_append := goodIn_r _ [6, 7, 8, 24, 25] (by decide +kernel) (by decide +kernel)
set_option maxRecDepth 20000 in
theorem gX11_letter_X10_append : GoodIn wsX11_letter (wsV RX11 134 RX10 yX10_append wsX10_append) := goodIn_app (goodIn_of _ (by decide +kernel)) ggX11_letter_X10_append
set_option maxRecDepth 20000 in
theorem ggX11_letter_X10_length : GoodIn wsX11_letter wsX10_length := goodIn_r _ [12, 7, 24, 25] (by decide +kernel) (by decide +kernel)
set_option maxRecDepth 20000 in
theorem gX11_letter_X10_length : GoodIn wsX11_letter (wsV RX11 127 RX10 yX10_length wsX10_length) := goodIn_app (goodIn_of _ (by decide +kernel)) ggX11_letter_X10_length
theorem dX11_letter_0 : decode cX11_letter 0 = .ok (.iload_n 1, 1) := by decide +kernel
theorem dX11_letter_1 : decode cX11_letter 1 = .ok (.ifCond .lt 8, 3) := by decide +kernel
theorem dX11_letter_4 : decode cX11_letter 4 = .ok (.iload_n 1, 1) := by decide +kernel
theorem dX11_letter_5 : decode cX11_letter 5 = .ok (.iconst 4, 1) := by decide +kernel
theorem dX11_letter_6 : decode cX11_letter 6 = .ok (.if_icmp .lt 6, 3) := by decide +kernel
theorem dX11_letter_9 : decode cX11_letter 9 = .ok (.bipush (-2), 2) := by decide +kernel
theorem dX11_letter_11 : decode cX11_letter 11 = .ok (.ireturn, 1) := by decide +kernel
theorem dX11_letter_12 : decode cX11_letter 12 = .ok (.aload_n 0, 1) := by decide +kernel
theorem dX11_letter_13 : decode cX11_letter 13 = .ok (.getfield 18, 3) := by decide +kernel
theorem dX11_letter_16 : decode cX11_letter 16 = .ok (.iload_n 1, 1) := by decide +kernel
theorem dX11_letter_17 : decode cX11_letter 17 = .ok (.invokevirtual 134, 3) := by decide +kernel
theorem dX11_letter_20 : decode cX11_letter 20 = .ok (.ifCond .eq 13, 3) := by decide +kernel
theorem dX11_letter_23 : decode cX11_letter 23 = .ok (.aload_n 0, 1) := by decide +kernel
theorem dX11_letter_24 : decode cX11_letter 24 = .ok (.getfield 18, 3) := by decide +kernel
theorem dX11_letter_27 : decode cX11_letter 27 = .ok (.invokevirtual 127, 3) := by decide +kernel
theorem dX11_letter_30 : decode cX11_letter 30 = .ok (.goto 5, 3) := by decide +kernel
theorem dX11_letter_33 : decode cX11_letter 33 = .ok (.bipush (-4), 2) := by decide +kernel
theorem dX11_letter_35 : decode cX11_letter 35 = .ok (.ireturn, 1) := by decide +kernel
set_option maxRecDepth 20000 in
theorem ggX11_letterAt_X10_at : GoodIn wsX11_letterAt wsX10_at := goodIn_r _ [6, 7, 8, 20, 21] (by decide +kernel) (by decide +kernel)
set_option maxRecDepth 20000 in
theorem gX11_letterAt_X10_at : GoodIn wsX11_letterAt (wsV RX11 137 RX10 yX10_at wsX10_at) := goodIn_app (goodIn_of _ (by decide +kernel)) ggX11_letterAt_X10_at
theorem dX11_letterAt_0 : decode cX11_letterAt 0 = .ok (.aload_n 0, 1) := by decide +kernel
theorem dX11_letterAt_1 : decode cX11_letterAt 1 = .ok (.getfield 18, 3) := by decide +kernel
theorem dX11_letterAt_4 : decode cX11_letterAt 4 = .ok (.iload_n 1, 1) := by decide +kernel
theorem dX11_letterAt_5 : decode cX11_letterAt 5 = .ok (.invokevirtual 137, 3) := by decide +kernel
theorem dX11_letterAt_8 : decode cX11_letterAt 8 = .ok (.ireturn, 1) := by decide +kernel
set_option maxRecDepth 20000 in
theorem ggX11_goes_X11_machineAt : GoodIn wsX11_goes wsX11_machineAt := goodIn_r _ [7, 8, 9, 68, 69, 70, 71, 72, 73, 74, 75, 76, 77, 78] (by decide +kernel) (by decide +kernel)
set_option maxRecDepth 20000 in
theorem gX11_goes_X11_machineAt : GoodIn wsX11_goes (wsV RX11 99 RX11 yX11_machineAt wsX11_machineAt) := goodIn_app (goodIn_of _ (by decide +kernel)) ggX11_goes_X11_machineAt
set_option maxRecDepth 20000 in
theorem ggX11_goes_X4_hasSet : GoodIn wsX11_goes wsX4_hasSet := goodIn_r _ [14, 15, 79, 80, 81, 82, 83, 84] (by decide +kernel) (by decide +kernel)
set_option maxRecDepth 20000 in
theorem gX11_goes_X4_hasSet : GoodIn wsX11_goes (wsV RX11 141 RX4 yX4_hasSet wsX4_hasSet) := goodIn_app (goodIn_of _ (by decide +kernel)) ggX11_goes_X4_hasSet
set_option maxRecDepth 20000 in
theorem ggX11_goes_X10_isOf : GoodIn wsX11_goes wsX10_isOf := goodIn_r _ [20, 21, 22, 23, 24, 25, 13, 26, 27, 85, 86, 79, 80, 81, 82, 83, 84] (by decide +kernel) (by decide +kernel)
set_option maxRecDepth 20000 in
theorem gX11_goes_X10_isOf : GoodIn wsX11_goes (wsV RX11 144 RX10 yX10_isOf wsX10_isOf) := goodIn_app (goodIn_of _ (by decide +kernel)) ggX11_goes_X10_isOf
set_option maxRecDepth 20000 in
theorem ggX11_goes_X8_load : GoodIn wsX11_goes wsX8_load := goodIn_r _ [32, 33, 34, 35, 36, 37, 38, 13, 39, 27, 40, 41, 31, 42, 43, 44, 45, 46, 15, 47, 48, 49, 50, 51, 87, 88, 89, 79, 80, 81, 82, 83, 84] (by decide +kernel) (by decide +kernel)
set_option maxRecDepth 20000 in
theorem gX11_goes_X8_load : GoodIn wsX11_goes (wsV RX11 148 RX8 yX8_load wsX8_load) := goodIn_app (goodIn_of _ (by decide +kernel)) ggX11_goes_X8_load
set_option maxRecDepth 20000 in
theorem ggX11_goes_X8_afterWord : GoodIn wsX11_goes wsX8_afterWord := goodIn_r _ [55, 56, 57, 58, 19, 59, 21, 60, 61, 62, 63, 22, 64, 65, 66, 31, 67, 34, 35, 85, 86, 87, 88, 89] (by decide +kernel) (by decide +kernel)
set_option maxRecDepth 20000 in
theorem gX11_goes_X8_afterWord : GoodIn wsX11_goes (wsV RX11 152 RX8 yX8_afterWord wsX8_afterWord) := goodIn_app (goodIn_of _ (by decide +kernel)) ggX11_goes_X8_afterWord
theorem dX11_goes_0 : decode cX11_goes 0 = .ok (.aload_n 0, 1) := by decide +kernel
theorem dX11_goes_1 : decode cX11_goes 1 = .ok (.iload_n 1, 1) := by decide +kernel
theorem dX11_goes_2 : decode cX11_goes 2 = .ok (.invokevirtual 99, 3) := by decide +kernel
theorem dX11_goes_5 : decode cX11_goes 5 = .ok (.astore_n 3, 1) := by decide +kernel
theorem dX11_goes_6 : decode cX11_goes 6 = .ok (.aload_n 3, 1) := by decide +kernel
theorem dX11_goes_7 : decode cX11_goes 7 = .ok (.ifnull 22, 3) := by decide +kernel
theorem dX11_goes_10 : decode cX11_goes 10 = .ok (.aload_n 3, 1) := by decide +kernel
theorem dX11_goes_11 : decode cX11_goes 11 = .ok (.iload_n 2, 1) := by decide +kernel
theorem dX11_goes_12 : decode cX11_goes 12 = .ok (.invokevirtual 141, 3) := by decide +kernel
theorem dX11_goes_15 : decode cX11_goes 15 = .ok (.ifCond .eq 14, 3) := by decide +kernel
theorem dX11_goes_18 : decode cX11_goes 18 = .ok (.aload_n 0, 1) := by decide +kernel
theorem dX11_goes_19 : decode cX11_goes 19 = .ok (.getfield 18, 3) := by decide +kernel
theorem dX11_goes_22 : decode cX11_goes 22 = .ok (.aload_n 3, 1) := by decide +kernel
theorem dX11_goes_23 : decode cX11_goes 23 = .ok (.invokevirtual 144, 3) := by decide +kernel
theorem dX11_goes_26 : decode cX11_goes 26 = .ok (.ifCond .ne 6, 3) := by decide +kernel
theorem dX11_goes_29 : decode cX11_goes 29 = .ok (.bipush (-2), 2) := by decide +kernel
theorem dX11_goes_31 : decode cX11_goes 31 = .ok (.ireturn, 1) := by decide +kernel
theorem dX11_goes_32 : decode cX11_goes 32 = .ok (.aload_n 0, 1) := by decide +kernel
theorem dX11_goes_33 : decode cX11_goes 33 = .ok (.getfield 25, 3) := by decide +kernel
theorem dX11_goes_36 : decode cX11_goes 36 = .ok (.aload_n 3, 1) := by decide +kernel
theorem dX11_goes_37 : decode cX11_goes 37 = .ok (.invokevirtual 148, 3) := by decide +kernel
theorem dX11_goes_40 : decode cX11_goes 40 = .ok (.aload_n 0, 1) := by decide +kernel
theorem dX11_goes_41 : decode cX11_goes 41 = .ok (.getfield 25, 3) := by decide +kernel
theorem dX11_goes_44 : decode cX11_goes 44 = .ok (.iload_n 2, 1) := by decide +kernel
theorem dX11_goes_45 : decode cX11_goes 45 = .ok (.aload_n 0, 1) := by decide +kernel
theorem dX11_goes_46 : decode cX11_goes 46 = .ok (.getfield 18, 3) := by decide +kernel
theorem dX11_goes_49 : decode cX11_goes 49 = .ok (.invokevirtual 152, 3) := by decide +kernel
theorem dX11_goes_52 : decode cX11_goes 52 = .ok (.istore 4, 2) := by decide +kernel
theorem dX11_goes_54 : decode cX11_goes 54 = .ok (.iload 4, 2) := by decide +kernel
theorem dX11_goes_56 : decode cX11_goes 56 = .ok (.ifCond .ne 7, 3) := by decide +kernel
theorem dX11_goes_59 : decode cX11_goes 59 = .ok (.iconst (-1), 1) := by decide +kernel
theorem dX11_goes_60 : decode cX11_goes 60 = .ok (.goto 5, 3) := by decide +kernel
theorem dX11_goes_63 : decode cX11_goes 63 = .ok (.iload 4, 2) := by decide +kernel
theorem dX11_goes_65 : decode cX11_goes 65 = .ok (.ireturn, 1) := by decide +kernel
set_option maxRecDepth 20000 in
theorem ggX11_shortest_X11_machineAt : GoodIn wsX11_shortest wsX11_machineAt := goodIn_r _ [6, 7, 8, 119, 120, 121, 122, 123, 124, 125, 126, 127, 128, 129] (by decide +kernel) (by decide +kernel)
set_option maxRecDepth 20000 in
theorem gX11_shortest_X11_machineAt : GoodIn wsX11_shortest (wsV RX11 99 RX11 yX11_machineAt wsX11_machineAt) := goodIn_app (goodIn_of _ (by decide +kernel)) ggX11_shortest_X11_machineAt
set_option maxRecDepth 20000 in
theorem ggX11_shortest_X4_hasSet : GoodIn wsX11_shortest wsX4_hasSet := goodIn_r _ [13, 14, 130, 131, 132, 133, 134, 135] (by decide +kernel) (by decide +kernel)
set_option maxRecDepth 20000 in
theorem gX11_shortest_X4_hasSet : GoodIn wsX11_shortest (wsV RX11 141 RX4 yX4_hasSet wsX4_hasSet) := goodIn_app (goodIn_of _ (by decide +kernel)) ggX11_shortest_X4_hasSet
set_option maxRecDepth 20000 in
theorem ggX11_shortest_X7_look : GoodIn wsX11_shortest wsX7_look := goodIn_r _ [19, 20, 21, 22, 23, 24, 25, 26, 27, 28, 29, 30, 31, 32, 33, 34, 12, 35, 36, 37, 38, 39, 40, 41, 42, 43, 14, 44, 45, 46, 47, 48, 49, 50, 51, 52, 53, 54, 55, 56, 57, 58, 59, 60, 18, 61, 62, 63, 64, 65, 66, 67, 68, 69, 70, 71, 72, 73, 74, 75, 76, 77, 78, 79, 80, 81, 82, 83, 84, 136, 137, 138, 139, 140, 141, 142, 130, 131, 132, 133, 134, 135, 143] (by decide +kernel) (by decide +kernel)
set_option maxRecDepth 20000 in
theorem gX11_shortest_X7_look : GoodIn wsX11_shortest (wsV RX11 156 RX7 yX7_look wsX7_look) := goodIn_app (goodIn_of _ (by decide +kernel)) ggX11_shortest_X7_look
set_option maxRecDepth 20000 in
theorem ggX11_shortest_X11_tellWordTo : GoodIn wsX11_shortest wsX11_tellWordTo := goodIn_r _ [88, 89, 90, 91, 92, 93, 52, 94, 95, 96, 97, 98, 54, 99, 78, 79, 80, 100, 101, 102, 103, 104, 105, 106, 107, 108, 109, 110, 111, 112, 113, 114, 115, 116, 117, 118, 119, 120, 121, 122, 123, 124, 125, 126, 127, 128, 129, 143, 144, 145] (by decide +kernel) (by decide +kernel)
set_option maxRecDepth 20000 in
theorem gX11_shortest_X11_tellWordTo : GoodIn wsX11_shortest (wsV RX11 160 RX11 yX11_tellWordTo wsX11_tellWordTo) := goodIn_app (goodIn_of _ (by decide +kernel)) ggX11_shortest_X11_tellWordTo
theorem dX11_shortest_0 : decode cX11_shortest 0 = .ok (.aload_n 0, 1) := by decide +kernel
theorem dX11_shortest_1 : decode cX11_shortest 1 = .ok (.iload_n 1, 1) := by decide +kernel
theorem dX11_shortest_2 : decode cX11_shortest 2 = .ok (.invokevirtual 99, 3) := by decide +kernel
theorem dX11_shortest_5 : decode cX11_shortest 5 = .ok (.astore_n 3, 1) := by decide +kernel
theorem dX11_shortest_6 : decode cX11_shortest 6 = .ok (.aload_n 3, 1) := by decide +kernel
theorem dX11_shortest_7 : decode cX11_shortest 7 = .ok (.ifnull 11, 3) := by decide +kernel
theorem dX11_shortest_10 : decode cX11_shortest 10 = .ok (.aload_n 3, 1) := by decide +kernel
theorem dX11_shortest_11 : decode cX11_shortest 11 = .ok (.iload_n 2, 1) := by decide +kernel
theorem dX11_shortest_12 : decode cX11_shortest 12 = .ok (.invokevirtual 141, 3) := by decide +kernel
theorem dX11_shortest_15 : decode cX11_shortest 15 = .ok (.ifCond .ne 6, 3) := by decide +kernel
theorem dX11_shortest_18 : decode cX11_shortest 18 = .ok (.bipush (-2), 2) := by decide +kernel
theorem dX11_shortest_20 : decode cX11_shortest 20 = .ok (.ireturn, 1) := by decide +kernel
theorem dX11_shortest_21 : decode cX11_shortest 21 = .ok (.aload_n 0, 1) := by decide +kernel
theorem dX11_shortest_22 : decode cX11_shortest 22 = .ok (.aload_n 0, 1) := by decide +kernel
theorem dX11_shortest_23 : decode cX11_shortest 23 = .ok (.getfield 41, 3) := by decide +kernel
theorem dX11_shortest_26 : decode cX11_shortest 26 = .ok (.aload_n 3, 1) := by decide +kernel
theorem dX11_shortest_27 : decode cX11_shortest 27 = .ok (.iload_n 2, 1) := by decide +kernel
theorem dX11_shortest_28 : decode cX11_shortest 28 = .ok (.iconst 0, 1) := by decide +kernel
theorem dX11_shortest_29 : decode cX11_shortest 29 = .ok (.invokevirtual 156, 3) := by decide +kernel
theorem dX11_shortest_32 : decode cX11_shortest 32 = .ok (.invokevirtual 160, 3) := by decide +kernel
theorem dX11_shortest_35 : decode cX11_shortest 35 = .ok (.ireturn, 1) := by decide +kernel
set_option maxRecDepth 20000 in
theorem ggX11_shortestTo_X11_machineAt : GoodIn wsX11_shortestTo wsX11_machineAt := goodIn_r _ [6, 7, 8, 120, 121, 122, 123, 124, 125, 126, 127, 128, 129, 130] (by decide +kernel) (by decide +kernel)
set_option maxRecDepth 20000 in
theorem gX11_shortestTo_X11_machineAt : GoodIn wsX11_shortestTo (wsV RX11 99 RX11 yX11_machineAt wsX11_machineAt) := goodIn_app (goodIn_of _ (by decide +kernel)) ggX11_shortestTo_X11_machineAt
set_option maxRecDepth 20000 in
theorem ggX11_shortestTo_X4_hasSet : GoodIn wsX11_shortestTo wsX4_hasSet := goodIn_r _ [13, 14, 131, 132, 133, 134, 135, 136] (by decide +kernel) (by decide +kernel)
set_option maxRecDepth 20000 in
theorem gX11_shortestTo_X4_hasSet : GoodIn wsX11_shortestTo (wsV RX11 141 RX4 yX4_hasSet wsX4_hasSet) := goodIn_app (goodIn_of _ (by decide +kernel)) ggX11_shortestTo_X4_hasSet
set_option maxRecDepth 20000 in
theorem ggX11_shortestTo_X4_hasState : GoodIn wsX11_shortestTo wsX4_hasState := goodIn_r _ [18, 14, 131, 132, 133, 134, 135, 136] (by decide +kernel) (by decide +kernel)
set_option maxRecDepth 20000 in
theorem gX11_shortestTo_X4_hasState : GoodIn wsX11_shortestTo (wsV RX11 103 RX4 yX4_hasState wsX4_hasState) := goodIn_app (goodIn_of _ (by decide +kernel)) ggX11_shortestTo_X4_hasState
set_option maxRecDepth 20000 in
theorem ggX11_shortestTo_X7_look : GoodIn wsX11_shortestTo wsX7_look := goodIn_r _ [23, 24, 25, 26, 27, 28, 29, 30, 31, 32, 33, 34, 35, 36, 37, 38, 12, 39, 40, 41, 42, 43, 44, 16, 17, 18, 14, 45, 46, 47, 48, 49, 50, 51, 52, 53, 54, 55, 56, 57, 58, 59, 60, 61, 22, 62, 63, 64, 65, 66, 67, 68, 69, 70, 71, 72, 73, 74, 75, 76, 77, 78, 79, 80, 81, 82, 83, 84, 85, 137, 138, 139, 140, 141, 142, 143, 131, 132, 133, 134, 135, 136, 144] (by decide +kernel) (by decide +kernel)
set_option maxRecDepth 20000 in
theorem gX11_shortestTo_X7_look : GoodIn wsX11_shortestTo (wsV RX11 156 RX7 yX7_look wsX7_look) := goodIn_app (goodIn_of _ (by decide +kernel)) ggX11_shortestTo_X7_look
set_option maxRecDepth 20000 in
theorem ggX11_shortestTo_X11_tellWordTo : GoodIn wsX11_shortestTo wsX11_tellWordTo := goodIn_r _ [89, 90, 91, 92, 93, 94, 53, 95, 96, 97, 98, 99, 55, 100, 79, 80, 81, 101, 102, 103, 104, 105, 106, 107, 108, 109, 110, 111, 112, 113, 114, 115, 116, 117, 118, 119, 120, 121, 122, 123, 124, 125, 126, 127, 128, 129, 130, 144, 145, 146] (by decide +kernel) (by decide +kernel)
set_option maxRecDepth 20000 in
theorem gX11_shortestTo_X11_tellWordTo : GoodIn wsX11_shortestTo (wsV RX11 160 RX11 yX11_tellWordTo wsX11_tellWordTo) := goodIn_app (goodIn_of _ (by decide +kernel)) ggX11_shortestTo_X11_tellWordTo
theorem dX11_shortestTo_0 : decode cX11_shortestTo 0 = .ok (.aload_n 0, 1) := by decide +kernel
theorem dX11_shortestTo_1 : decode cX11_shortestTo 1 = .ok (.iload_n 1, 1) := by decide +kernel
theorem dX11_shortestTo_2 : decode cX11_shortestTo 2 = .ok (.invokevirtual 99, 3) := by decide +kernel
theorem dX11_shortestTo_5 : decode cX11_shortestTo 5 = .ok (.astore 4, 2) := by decide +kernel
theorem dX11_shortestTo_7 : decode cX11_shortestTo 7 = .ok (.aload 4, 2) := by decide +kernel
theorem dX11_shortestTo_9 : decode cX11_shortestTo 9 = .ok (.ifnull 21, 3) := by decide +kernel
theorem dX11_shortestTo_12 : decode cX11_shortestTo 12 = .ok (.aload 4, 2) := by decide +kernel
theorem dX11_shortestTo_14 : decode cX11_shortestTo 14 = .ok (.iload_n 2, 1) := by decide +kernel
theorem dX11_shortestTo_15 : decode cX11_shortestTo 15 = .ok (.invokevirtual 141, 3) := by decide +kernel
theorem dX11_shortestTo_18 : decode cX11_shortestTo 18 = .ok (.ifCond .eq 12, 3) := by decide +kernel
theorem dX11_shortestTo_21 : decode cX11_shortestTo 21 = .ok (.aload 4, 2) := by decide +kernel
theorem dX11_shortestTo_23 : decode cX11_shortestTo 23 = .ok (.iload_n 3, 1) := by decide +kernel
theorem dX11_shortestTo_24 : decode cX11_shortestTo 24 = .ok (.invokevirtual 103, 3) := by decide +kernel
theorem dX11_shortestTo_27 : decode cX11_shortestTo 27 = .ok (.ifCond .ne 6, 3) := by decide +kernel
theorem dX11_shortestTo_30 : decode cX11_shortestTo 30 = .ok (.bipush (-2), 2) := by decide +kernel
theorem dX11_shortestTo_32 : decode cX11_shortestTo 32 = .ok (.ireturn, 1) := by decide +kernel
theorem dX11_shortestTo_33 : decode cX11_shortestTo 33 = .ok (.aload_n 0, 1) := by decide +kernel
theorem dX11_shortestTo_34 : decode cX11_shortestTo 34 = .ok (.aload_n 0, 1) := by decide +kernel
theorem dX11_shortestTo_35 : decode cX11_shortestTo 35 = .ok (.getfield 41, 3) := by decide +kernel
theorem dX11_shortestTo_38 : decode cX11_shortestTo 38 = .ok (.aload 4, 2) := by decide +kernel
theorem dX11_shortestTo_40 : decode cX11_shortestTo 40 = .ok (.iload_n 2, 1) := by decide +kernel
theorem dX11_shortestTo_41 : decode cX11_shortestTo 41 = .ok (.iconst 1, 1) := by decide +kernel
theorem dX11_shortestTo_42 : decode cX11_shortestTo 42 = .ok (.iload_n 3, 1) := by decide +kernel
theorem dX11_shortestTo_43 : decode cX11_shortestTo 43 = .ok (.ishl, 1) := by decide +kernel
theorem dX11_shortestTo_44 : decode cX11_shortestTo 44 = .ok (.invokevirtual 156, 3) := by decide +kernel
theorem dX11_shortestTo_47 : decode cX11_shortestTo 47 = .ok (.invokevirtual 160, 3) := by decide +kernel
theorem dX11_shortestTo_50 : decode cX11_shortestTo 50 = .ok (.ireturn, 1) := by decide +kernel
set_option maxRecDepth 20000 in
theorem ggX11_rank_X11_machineAt : GoodIn wsX11_rank wsX11_machineAt := goodIn_r _ [6, 7, 8, 135, 136, 137, 138, 139, 140, 141, 142, 143, 144, 145] (by decide +kernel) (by decide +kernel)
set_option maxRecDepth 20000 in
theorem gX11_rank_X11_machineAt : GoodIn wsX11_rank (wsV RX11 99 RX11 yX11_machineAt wsX11_machineAt) := goodIn_app (goodIn_of _ (by decide +kernel)) ggX11_rank_X11_machineAt
set_option maxRecDepth 20000 in
theorem ggX11_rank_X4_hasSet : GoodIn wsX11_rank wsX4_hasSet := goodIn_r _ [13, 14, 146, 147, 148, 149, 150, 151] (by decide +kernel) (by decide +kernel)
set_option maxRecDepth 20000 in
theorem gX11_rank_X4_hasSet : GoodIn wsX11_rank (wsV RX11 141 RX4 yX4_hasSet wsX4_hasSet) := goodIn_app (goodIn_of _ (by decide +kernel)) ggX11_rank_X4_hasSet
set_option maxRecDepth 20000 in
theorem ggX11_rank_X7_look : GoodIn wsX11_rank wsX7_look := goodIn_r _ [19, 20, 21, 22, 23, 24, 25, 26, 27, 28, 29, 30, 31, 32, 33, 34, 12, 35, 36, 37, 38, 39, 40, 41, 42, 43, 14, 44, 45, 46, 47, 48, 49, 50, 51, 52, 53, 54, 55, 56, 57, 58, 59, 60, 18, 61, 62, 63, 64, 65, 66, 67, 68, 69, 70, 71, 72, 73, 74, 75, 76, 77, 78, 79, 80, 81, 82, 83, 84, 152, 153, 154, 155, 156, 157, 158, 146, 147, 148, 149, 150, 151, 159] (by decide +kernel) (by decide +kernel)
set_option maxRecDepth 20000 in
theorem gX11_rank_X7_look : GoodIn wsX11_rank (wsV RX11 156 RX7 yX7_look wsX7_look) := goodIn_app (goodIn_of _ (by decide +kernel)) ggX11_rank_X7_look
set_option maxRecDepth 20000 in
theorem ggX11_rank_X7_fewest : GoodIn wsX11_rank wsX7_fewest := goodIn_r _ [88, 23, 89, 90, 91, 18, 92, 22, 93, 94, 95, 96, 97, 98, 99, 152, 153, 154, 155] (by decide +kernel) (by decide +kernel)
set_option maxRecDepth 20000 in
theorem gX11_rank_X7_fewest : GoodIn wsX11_rank (wsV RX11 163 RX7 yX7_fewest wsX7_fewest) := goodIn_app (goodIn_of _ (by decide +kernel)) ggX11_rank_X7_fewest
set_option maxRecDepth 20000 in
theorem ggX11_rank_X11_tellWordTo : GoodIn wsX11_rank wsX11_tellWordTo := goodIn_r _ [103, 104, 105, 106, 107, 108, 52, 109, 110, 111, 112, 113, 54, 114, 78, 79, 80, 115, 116, 117, 118, 119, 120, 121, 122, 123, 124, 125, 126, 127, 128, 129, 130, 131, 132, 133, 135, 136, 137, 138, 139, 140, 141, 142, 143, 144, 145, 159, 160, 161] (by decide +kernel) (by decide +kernel)
set_option maxRecDepth 20000 in
theorem gX11_rank_X11_tellWordTo : GoodIn wsX11_rank (wsV RX11 160 RX11 yX11_tellWordTo wsX11_tellWordTo) := goodIn_app (goodIn_of _ (by decide +kernel)) ggX11_rank_X11_tellWordTo
set_option maxRecDepth 20000 in
theorem ggX11_rank_J6_bitCount_0f7a4 : GoodIn wsX11_rank wsJ6_bitCount_0f7a4 := goodIn_r _ [96, 97, 98, 99] (by decide +kernel) (by decide +kernel)
set_option maxRecDepth 20000 in
theorem gX11_rank_J6_bitCount_0f7a4 : GoodIn wsX11_rank (va_wsS RX11 166 yJ6_bitCount_0f7a4 wsJ6_bitCount_0f7a4) := goodIn_app (goodIn_of _ (by decide +kernel)) ggX11_rank_J6_bitCount_0f7a4
theorem dX11_rank_0 : decode cX11_rank 0 = .ok (.aload_n 0, 1) := by decide +kernel
theorem dX11_rank_1 : decode cX11_rank 1 = .ok (.iload_n 1, 1) := by decide +kernel
theorem dX11_rank_2 : decode cX11_rank 2 = .ok (.invokevirtual 99, 3) := by decide +kernel
theorem dX11_rank_5 : decode cX11_rank 5 = .ok (.astore_n 3, 1) := by decide +kernel
theorem dX11_rank_6 : decode cX11_rank 6 = .ok (.aload_n 3, 1) := by decide +kernel
theorem dX11_rank_7 : decode cX11_rank 7 = .ok (.ifnull 11, 3) := by decide +kernel
theorem dX11_rank_10 : decode cX11_rank 10 = .ok (.aload_n 3, 1) := by decide +kernel
theorem dX11_rank_11 : decode cX11_rank 11 = .ok (.iload_n 2, 1) := by decide +kernel
theorem dX11_rank_12 : decode cX11_rank 12 = .ok (.invokevirtual 141, 3) := by decide +kernel
theorem dX11_rank_15 : decode cX11_rank 15 = .ok (.ifCond .ne 6, 3) := by decide +kernel
theorem dX11_rank_18 : decode cX11_rank 18 = .ok (.bipush (-2), 2) := by decide +kernel
theorem dX11_rank_20 : decode cX11_rank 20 = .ok (.ireturn, 1) := by decide +kernel
theorem dX11_rank_21 : decode cX11_rank 21 = .ok (.aload_n 0, 1) := by decide +kernel
theorem dX11_rank_22 : decode cX11_rank 22 = .ok (.getfield 41, 3) := by decide +kernel
theorem dX11_rank_25 : decode cX11_rank 25 = .ok (.aload_n 3, 1) := by decide +kernel
theorem dX11_rank_26 : decode cX11_rank 26 = .ok (.iload_n 2, 1) := by decide +kernel
theorem dX11_rank_27 : decode cX11_rank 27 = .ok (.iconst 0, 1) := by decide +kernel
theorem dX11_rank_28 : decode cX11_rank 28 = .ok (.invokevirtual 156, 3) := by decide +kernel
theorem dX11_rank_31 : decode cX11_rank 31 = .ok (.istore 4, 2) := by decide +kernel
theorem dX11_rank_33 : decode cX11_rank 33 = .ok (.iload 4, 2) := by decide +kernel
theorem dX11_rank_35 : decode cX11_rank 35 = .ok (.ifCond .ne 12, 3) := by decide +kernel
theorem dX11_rank_38 : decode cX11_rank 38 = .ok (.aload_n 0, 1) := by decide +kernel
theorem dX11_rank_39 : decode cX11_rank 39 = .ok (.getfield 41, 3) := by decide +kernel
theorem dX11_rank_42 : decode cX11_rank 42 = .ok (.invokevirtual 163, 3) := by decide +kernel
theorem dX11_rank_45 : decode cX11_rank 45 = .ok (.istore 4, 2) := by decide +kernel
theorem dX11_rank_47 : decode cX11_rank 47 = .ok (.aload_n 0, 1) := by decide +kernel
theorem dX11_rank_48 : decode cX11_rank 48 = .ok (.iload 4, 2) := by decide +kernel
theorem dX11_rank_50 : decode cX11_rank 50 = .ok (.invokevirtual 160, 3) := by decide +kernel
theorem dX11_rank_53 : decode cX11_rank 53 = .ok (.pop, 1) := by decide +kernel
theorem dX11_rank_54 : decode cX11_rank 54 = .ok (.iload 4, 2) := by decide +kernel
theorem dX11_rank_56 : decode cX11_rank 56 = .ok (.invokestatic 166, 3) := by decide +kernel
theorem dX11_rank_59 : decode cX11_rank 59 = .ok (.ireturn, 1) := by decide +kernel
set_option maxRecDepth 20000 in
theorem ggX11_merge_X11_machineAt : GoodIn wsX11_merge wsX11_machineAt := goodIn_r _ [6, 7, 8, 57, 58, 59, 60, 61, 62, 63, 64, 65, 66, 67] (by decide +kernel) (by decide +kernel)
set_option maxRecDepth 20000 in
theorem gX11_merge_X11_machineAt : GoodIn wsX11_merge (wsV RX11 99 RX11 yX11_machineAt wsX11_machineAt) := goodIn_app (goodIn_of _ (by decide +kernel)) ggX11_merge_X11_machineAt
set_option maxRecDepth 20000 in
theorem ggX11_merge_X4_hasState : GoodIn wsX11_merge wsX4_hasState := goodIn_r _ [13, 14, 68, 69, 70, 71, 72, 73] (by decide +kernel) (by decide +kernel)
set_option maxRecDepth 20000 in
theorem gX11_merge_X4_hasState : GoodIn wsX11_merge (wsV RX11 103 RX4 yX4_hasState wsX4_hasState) := goodIn_app (goodIn_of _ (by decide +kernel)) ggX11_merge_X4_hasState
set_option maxRecDepth 20000 in
theorem ggX11_merge_X5_load : GoodIn wsX11_merge wsX5_load := goodIn_r _ [19, 20, 21, 22, 23, 24, 25, 26, 27, 28, 12, 29, 14, 30, 31, 32, 18, 33, 34, 35, 36, 37, 38, 39, 40, 41, 42, 43, 44, 45, 46, 47, 48, 49, 50, 51, 52, 53, 54, 55, 74, 75, 76, 68, 69, 70, 71, 72, 73] (by decide +kernel) (by decide +kernel)
set_option maxRecDepth 20000 in
theorem gX11_merge_X5_load : GoodIn wsX11_merge (wsV RX11 171 RX5 yX5_load wsX5_load) := goodIn_app (goodIn_of _ (by decide +kernel)) ggX11_merge_X5_load
set_option maxRecDepth 20000 in
theorem ggX11_merge_X5_lengthOf : GoodIn wsX11_merge wsX5_lengthOf := goodIn_r _ [41, 20, 74, 75, 76] (by decide +kernel) (by decide +kernel)
set_option maxRecDepth 20000 in
theorem gX11_merge_X5_lengthOf : GoodIn wsX11_merge (wsV RX11 172 RX5 yX5_lengthOf wsX5_lengthOf) := goodIn_app (goodIn_of _ (by decide +kernel)) ggX11_merge_X5_lengthOf
theorem dX11_merge_0 : decode cX11_merge 0 = .ok (.aload_n 0, 1) := by decide +kernel
theorem dX11_merge_1 : decode cX11_merge 1 = .ok (.iload_n 1, 1) := by decide +kernel
theorem dX11_merge_2 : decode cX11_merge 2 = .ok (.invokevirtual 99, 3) := by decide +kernel
theorem dX11_merge_5 : decode cX11_merge 5 = .ok (.astore 4, 2) := by decide +kernel
theorem dX11_merge_7 : decode cX11_merge 7 = .ok (.aload 4, 2) := by decide +kernel
theorem dX11_merge_9 : decode cX11_merge 9 = .ok (.ifnull 26, 3) := by decide +kernel
theorem dX11_merge_12 : decode cX11_merge 12 = .ok (.aload 4, 2) := by decide +kernel
theorem dX11_merge_14 : decode cX11_merge 14 = .ok (.iload_n 2, 1) := by decide +kernel
theorem dX11_merge_15 : decode cX11_merge 15 = .ok (.invokevirtual 103, 3) := by decide +kernel
theorem dX11_merge_18 : decode cX11_merge 18 = .ok (.ifCond .eq 17, 3) := by decide +kernel
theorem dX11_merge_21 : decode cX11_merge 21 = .ok (.aload 4, 2) := by decide +kernel
theorem dX11_merge_23 : decode cX11_merge 23 = .ok (.iload_n 3, 1) := by decide +kernel
theorem dX11_merge_24 : decode cX11_merge 24 = .ok (.invokevirtual 103, 3) := by decide +kernel
theorem dX11_merge_27 : decode cX11_merge 27 = .ok (.ifCond .eq 8, 3) := by decide +kernel
theorem dX11_merge_30 : decode cX11_merge 30 = .ok (.iload_n 2, 1) := by decide +kernel
theorem dX11_merge_31 : decode cX11_merge 31 = .ok (.iload_n 3, 1) := by decide +kernel
theorem dX11_merge_32 : decode cX11_merge 32 = .ok (.if_icmp .ne 6, 3) := by decide +kernel
theorem dX11_merge_35 : decode cX11_merge 35 = .ok (.bipush (-2), 2) := by decide +kernel
theorem dX11_merge_37 : decode cX11_merge 37 = .ok (.ireturn, 1) := by decide +kernel
theorem dX11_merge_38 : decode cX11_merge 38 = .ok (.aload_n 0, 1) := by decide +kernel
theorem dX11_merge_39 : decode cX11_merge 39 = .ok (.getfield 64, 3) := by decide +kernel
theorem dX11_merge_42 : decode cX11_merge 42 = .ok (.aload 4, 2) := by decide +kernel
theorem dX11_merge_44 : decode cX11_merge 44 = .ok (.invokevirtual 171, 3) := by decide +kernel
theorem dX11_merge_47 : decode cX11_merge 47 = .ok (.aload_n 0, 1) := by decide +kernel
theorem dX11_merge_48 : decode cX11_merge 48 = .ok (.getfield 64, 3) := by decide +kernel
theorem dX11_merge_51 : decode cX11_merge 51 = .ok (.iload_n 2, 1) := by decide +kernel
theorem dX11_merge_52 : decode cX11_merge 52 = .ok (.iload_n 3, 1) := by decide +kernel
theorem dX11_merge_53 : decode cX11_merge 53 = .ok (.invokevirtual 172, 3) := by decide +kernel
theorem dX11_merge_56 : decode cX11_merge 56 = .ok (.ireturn, 1) := by decide +kernel
set_option maxRecDepth 20000 in
theorem ggX11_unmerged_X11_machineAt : GoodIn wsX11_unmerged wsX11_machineAt := goodIn_r _ [6, 7, 8, 56, 57, 58, 59, 60, 61, 62, 63, 64, 65, 66] (by decide +kernel) (by decide +kernel)
set_option maxRecDepth 20000 in
theorem gX11_unmerged_X11_machineAt : GoodIn wsX11_unmerged (wsV RX11 99 RX11 yX11_machineAt wsX11_machineAt) := goodIn_app (goodIn_of _ (by decide +kernel)) ggX11_unmerged_X11_machineAt
set_option maxRecDepth 20000 in
theorem ggX11_unmerged_X5_load : GoodIn wsX11_unmerged wsX5_load := goodIn_r _ [13, 14, 15, 16, 17, 18, 19, 20, 21, 22, 23, 24, 25, 26, 27, 28, 12, 29, 30, 31, 32, 33, 34, 35, 36, 37, 38, 39, 40, 41, 42, 43, 44, 45, 46, 47, 48, 49, 50, 51, 67, 68, 69, 70, 71, 72, 73, 74, 75] (by decide +kernel) (by decide +kernel)
set_option maxRecDepth 20000 in
theorem gX11_unmerged_X5_load : GoodIn wsX11_unmerged (wsV RX11 171 RX5 yX5_load wsX5_load) := goodIn_app (goodIn_of _ (by decide +kernel)) ggX11_unmerged_X5_load
set_option maxRecDepth 20000 in
theorem ggX11_unmerged_X5_without : GoodIn wsX11_unmerged wsX5_without := goodIn_r _ [55, 15, 67, 68, 69] (by decide +kernel) (by decide +kernel)
set_option maxRecDepth 20000 in
theorem gX11_unmerged_X5_without : GoodIn wsX11_unmerged (wsV RX11 175 RX5 yX5_without wsX5_without) := goodIn_app (goodIn_of _ (by decide +kernel)) ggX11_unmerged_X5_without
theorem dX11_unmerged_0 : decode cX11_unmerged 0 = .ok (.aload_n 0, 1) := by decide +kernel
theorem dX11_unmerged_1 : decode cX11_unmerged 1 = .ok (.iload_n 1, 1) := by decide +kernel
theorem dX11_unmerged_2 : decode cX11_unmerged 2 = .ok (.invokevirtual 99, 3) := by decide +kernel
theorem dX11_unmerged_5 : decode cX11_unmerged 5 = .ok (.astore_n 2, 1) := by decide +kernel
theorem dX11_unmerged_6 : decode cX11_unmerged 6 = .ok (.aload_n 2, 1) := by decide +kernel
theorem dX11_unmerged_7 : decode cX11_unmerged 7 = .ok (.ifnonnull 6, 3) := by decide +kernel
theorem dX11_unmerged_10 : decode cX11_unmerged 10 = .ok (.bipush (-2), 2) := by decide +kernel
theorem dX11_unmerged_12 : decode cX11_unmerged 12 = .ok (.ireturn, 1) := by decide +kernel
theorem dX11_unmerged_13 : decode cX11_unmerged 13 = .ok (.aload_n 0, 1) := by decide +kernel
theorem dX11_unmerged_14 : decode cX11_unmerged 14 = .ok (.getfield 64, 3) := by decide +kernel
theorem dX11_unmerged_17 : decode cX11_unmerged 17 = .ok (.aload_n 2, 1) := by decide +kernel
theorem dX11_unmerged_18 : decode cX11_unmerged 18 = .ok (.invokevirtual 171, 3) := by decide +kernel
theorem dX11_unmerged_21 : decode cX11_unmerged 21 = .ok (.aload_n 0, 1) := by decide +kernel
theorem dX11_unmerged_22 : decode cX11_unmerged 22 = .ok (.getfield 64, 3) := by decide +kernel
theorem dX11_unmerged_25 : decode cX11_unmerged 25 = .ok (.invokevirtual 175, 3) := by decide +kernel
theorem dX11_unmerged_28 : decode cX11_unmerged 28 = .ok (.ireturn, 1) := by decide +kernel
set_option maxRecDepth 20000 in
theorem ggX11_greedy_X11_machineAt : GoodIn wsX11_greedy wsX11_machineAt := goodIn_r _ [7, 8, 9, 155, 156, 157, 158, 159, 160, 161, 162, 163, 164, 165] (by decide +kernel) (by decide +kernel)
set_option maxRecDepth 20000 in
theorem gX11_greedy_X11_machineAt : GoodIn wsX11_greedy (wsV RX11 99 RX11 yX11_machineAt wsX11_machineAt) := goodIn_app (goodIn_of _ (by decide +kernel)) ggX11_greedy_X11_machineAt
set_option maxRecDepth 20000 in
theorem ggX11_greedy_X4_hasSet : GoodIn wsX11_greedy wsX4_hasSet := goodIn_r _ [14, 15, 166, 167, 168, 169, 170, 171] (by decide +kernel) (by decide +kernel)
set_option maxRecDepth 20000 in
theorem gX11_greedy_X4_hasSet : GoodIn wsX11_greedy (wsV RX11 141 RX4 yX4_hasSet wsX4_hasSet) := goodIn_app (goodIn_of _ (by decide +kernel)) ggX11_greedy_X4_hasSet
set_option maxRecDepth 20000 in
theorem ggX11_greedy_X2_run : GoodIn wsX11_greedy wsX2_run := goodIn_r _ [20, 21, 22, 23, 24, 25, 26, 27, 28, 29, 30, 31, 32, 33, 34, 35, 36, 13, 37, 38, 39, 40, 41, 42, 43, 44, 45, 15, 46, 47, 48, 49, 50, 51, 52, 53, 54, 55, 56, 57, 58, 59, 60, 61, 62, 63, 64, 65, 66, 67, 68, 69, 70, 71, 72, 73, 74, 75, 76, 77, 78, 79, 80, 81, 82, 83, 84, 85, 86, 87, 88, 89, 90, 91, 92, 93, 94, 95, 96, 19, 97, 98, 99, 100, 101, 102, 103, 104, 105, 106, 107, 108, 109, 110, 111, 112, 113, 114, 115, 116, 117, 118, 119, 120, 121, 122, 123, 124, 125, 126, 127, 128, 129, 130, 131, 132, 133, 134, 135, 136, 137, 138, 139, 140, 141, 142, 143, 144, 145, 146, 147, 148, 149, 150, 151, 152, 153, 154, 172, 173, 174, 175, 176, 177, 178, 179, 180, 166, 167, 168, 169, 170, 171, 181, 182, 183, 184, 185] (by decide +kernel) (by decide +kernel)
set_option maxRecDepth 20000 in
theorem gX11_greedy_X2_run : GoodIn wsX11_greedy (wsV RX11 178 RX2 yX2_run wsX2_run) := goodIn_app (goodIn_of _ (by decide +kernel)) ggX11_greedy_X2_run
theorem dX11_greedy_0 : decode cX11_greedy 0 = .ok (.aload_n 0, 1) := by decide +kernel
theorem dX11_greedy_1 : decode cX11_greedy 1 = .ok (.iload_n 1, 1) := by decide +kernel
theorem dX11_greedy_2 : decode cX11_greedy 2 = .ok (.invokevirtual 99, 3) := by decide +kernel
theorem dX11_greedy_5 : decode cX11_greedy 5 = .ok (.astore_n 3, 1) := by decide +kernel
theorem dX11_greedy_6 : decode cX11_greedy 6 = .ok (.aload_n 3, 1) := by decide +kernel
theorem dX11_greedy_7 : decode cX11_greedy 7 = .ok (.ifnull 11, 3) := by decide +kernel
theorem dX11_greedy_10 : decode cX11_greedy 10 = .ok (.aload_n 3, 1) := by decide +kernel
theorem dX11_greedy_11 : decode cX11_greedy 11 = .ok (.iload_n 2, 1) := by decide +kernel
theorem dX11_greedy_12 : decode cX11_greedy 12 = .ok (.invokevirtual 141, 3) := by decide +kernel
theorem dX11_greedy_15 : decode cX11_greedy 15 = .ok (.ifCond .ne 6, 3) := by decide +kernel
theorem dX11_greedy_18 : decode cX11_greedy 18 = .ok (.bipush (-2), 2) := by decide +kernel
theorem dX11_greedy_20 : decode cX11_greedy 20 = .ok (.ireturn, 1) := by decide +kernel
theorem dX11_greedy_21 : decode cX11_greedy 21 = .ok (.aload_n 0, 1) := by decide +kernel
theorem dX11_greedy_22 : decode cX11_greedy 22 = .ok (.getfield 73, 3) := by decide +kernel
theorem dX11_greedy_25 : decode cX11_greedy 25 = .ok (.aload_n 3, 1) := by decide +kernel
theorem dX11_greedy_26 : decode cX11_greedy 26 = .ok (.iload_n 2, 1) := by decide +kernel
theorem dX11_greedy_27 : decode cX11_greedy 27 = .ok (.aload_n 0, 1) := by decide +kernel
theorem dX11_greedy_28 : decode cX11_greedy 28 = .ok (.getfield 18, 3) := by decide +kernel
theorem dX11_greedy_31 : decode cX11_greedy 31 = .ok (.invokevirtual 178, 3) := by decide +kernel
theorem dX11_greedy_34 : decode cX11_greedy 34 = .ok (.ireturn, 1) := by decide +kernel
set_option maxRecDepth 20000 in
theorem ggX11_cheapest_X11_machineAt : GoodIn wsX11_cheapest wsX11_machineAt := goodIn_r _ [6, 7, 8, 148, 149, 150, 151, 152, 153, 154, 155, 156, 157, 158] (by decide +kernel) (by decide +kernel)
set_option maxRecDepth 20000 in
theorem gX11_cheapest_X11_machineAt : GoodIn wsX11_cheapest (wsV RX11 99 RX11 yX11_machineAt wsX11_machineAt) := goodIn_app (goodIn_of _ (by decide +kernel)) ggX11_cheapest_X11_machineAt
set_option maxRecDepth 20000 in
theorem ggX11_cheapest_X4_hasSet : GoodIn wsX11_cheapest wsX4_hasSet := goodIn_r _ [13, 14, 159, 160, 161, 162, 163, 164] (by decide +kernel) (by decide +kernel)
set_option maxRecDepth 20000 in
theorem gX11_cheapest_X4_hasSet : GoodIn wsX11_cheapest (wsV RX11 141 RX4 yX4_hasSet wsX4_hasSet) := goodIn_app (goodIn_of _ (by decide +kernel)) ggX11_cheapest_X4_hasSet
set_option maxRecDepth 20000 in
theorem ggX11_cheapest_X6_look : GoodIn wsX11_cheapest wsX6_look := goodIn_r _ [19, 20, 21, 22, 23, 24, 25, 26, 27, 28, 29, 30, 31, 32, 33, 34, 12, 35, 36, 37, 38, 39, 40, 41, 42, 43, 14, 44, 45, 46, 47, 48, 49, 50, 51, 52, 53, 54, 55, 56, 57, 58, 59, 60, 61, 62, 18, 63, 64, 65, 66, 67, 68, 69, 70, 71, 72, 73, 74, 75, 76, 77, 78, 79, 80, 81, 82, 83, 84, 85, 86, 87, 88, 89, 90, 91, 92, 93, 94, 95, 96, 97, 98, 99, 100, 101, 102, 103, 104, 105, 106, 107, 108, 109, 165, 166, 167, 168, 169, 170, 171, 172, 159, 160, 161, 162, 163, 164, 173] (by decide +kernel) (by decide +kernel)
set_option maxRecDepth 20000 in
theorem gX11_cheapest_X6_look : GoodIn wsX11_cheapest (wsV RX11 182 RX6 yX6_look wsX6_look) := goodIn_app (goodIn_of _ (by decide +kernel)) ggX11_cheapest_X6_look
set_option maxRecDepth 20000 in
theorem ggX11_cheapest_X11_tellWordTo : GoodIn wsX11_cheapest wsX11_tellWordTo := goodIn_r _ [113, 114, 115, 116, 117, 118, 52, 119, 120, 121, 122, 123, 54, 124, 125, 126, 127, 128, 129, 130, 131, 132, 133, 134, 135, 136, 137, 138, 139, 140, 141, 142, 143, 144, 145, 146, 148, 149, 150, 151, 152, 153, 154, 155, 156, 157, 158, 173, 174, 175] (by decide +kernel) (by decide +kernel)
set_option maxRecDepth 20000 in
theorem gX11_cheapest_X11_tellWordTo : GoodIn wsX11_cheapest (wsV RX11 160 RX11 yX11_tellWordTo wsX11_tellWordTo) := goodIn_app (goodIn_of _ (by decide +kernel)) ggX11_cheapest_X11_tellWordTo
set_option maxRecDepth 20000 in
theorem ggX11_cheapest_X6_sumOf : GoodIn wsX11_cheapest wsX6_sumOf := goodIn_r _ [80, 22, 165, 166, 167, 168, 169] (by decide +kernel) (by decide +kernel)
set_option maxRecDepth 20000 in
theorem gX11_cheapest_X6_sumOf : GoodIn wsX11_cheapest (wsV RX11 184 RX6 yX6_sumOf wsX6_sumOf) := goodIn_app (goodIn_of _ (by decide +kernel)) ggX11_cheapest_X6_sumOf
theorem dX11_cheapest_0 : decode cX11_cheapest 0 = .ok (.aload_n 0, 1) := by decide +kernel
theorem dX11_cheapest_1 : decode cX11_cheapest 1 = .ok (.iload_n 1, 1) := by decide +kernel
theorem dX11_cheapest_2 : decode cX11_cheapest 2 = .ok (.invokevirtual 99, 3) := by decide +kernel
theorem dX11_cheapest_5 : decode cX11_cheapest 5 = .ok (.astore_n 3, 1) := by decide +kernel
theorem dX11_cheapest_6 : decode cX11_cheapest 6 = .ok (.aload_n 3, 1) := by decide +kernel
theorem dX11_cheapest_7 : decode cX11_cheapest 7 = .ok (.ifnull 11, 3) := by decide +kernel
theorem dX11_cheapest_10 : decode cX11_cheapest 10 = .ok (.aload_n 3, 1) := by decide +kernel
theorem dX11_cheapest_11 : decode cX11_cheapest 11 = .ok (.iload_n 2, 1) := by decide +kernel
theorem dX11_cheapest_12 : decode cX11_cheapest 12 = .ok (.invokevirtual 141, 3) := by decide +kernel
theorem dX11_cheapest_15 : decode cX11_cheapest 15 = .ok (.ifCond .ne 6, 3) := by decide +kernel
theorem dX11_cheapest_18 : decode cX11_cheapest 18 = .ok (.bipush (-2), 2) := by decide +kernel
theorem dX11_cheapest_20 : decode cX11_cheapest 20 = .ok (.ireturn, 1) := by decide +kernel
theorem dX11_cheapest_21 : decode cX11_cheapest 21 = .ok (.aload_n 0, 1) := by decide +kernel
theorem dX11_cheapest_22 : decode cX11_cheapest 22 = .ok (.getfield 48, 3) := by decide +kernel
theorem dX11_cheapest_25 : decode cX11_cheapest 25 = .ok (.aload_n 3, 1) := by decide +kernel
theorem dX11_cheapest_26 : decode cX11_cheapest 26 = .ok (.iload_n 2, 1) := by decide +kernel
theorem dX11_cheapest_27 : decode cX11_cheapest 27 = .ok (.invokevirtual 182, 3) := by decide +kernel
theorem dX11_cheapest_30 : decode cX11_cheapest 30 = .ok (.istore 4, 2) := by decide +kernel
theorem dX11_cheapest_32 : decode cX11_cheapest 32 = .ok (.iload 4, 2) := by decide +kernel
theorem dX11_cheapest_34 : decode cX11_cheapest 34 = .ok (.ifCond .ne 5, 3) := by decide +kernel
theorem dX11_cheapest_37 : decode cX11_cheapest 37 = .ok (.iconst (-1), 1) := by decide +kernel
theorem dX11_cheapest_38 : decode cX11_cheapest 38 = .ok (.ireturn, 1) := by decide +kernel
theorem dX11_cheapest_39 : decode cX11_cheapest 39 = .ok (.aload_n 0, 1) := by decide +kernel
theorem dX11_cheapest_40 : decode cX11_cheapest 40 = .ok (.iload 4, 2) := by decide +kernel
theorem dX11_cheapest_42 : decode cX11_cheapest 42 = .ok (.invokevirtual 160, 3) := by decide +kernel
theorem dX11_cheapest_45 : decode cX11_cheapest 45 = .ok (.pop, 1) := by decide +kernel
theorem dX11_cheapest_46 : decode cX11_cheapest 46 = .ok (.aload_n 0, 1) := by decide +kernel
theorem dX11_cheapest_47 : decode cX11_cheapest 47 = .ok (.getfield 48, 3) := by decide +kernel
theorem dX11_cheapest_50 : decode cX11_cheapest 50 = .ok (.iload 4, 2) := by decide +kernel
theorem dX11_cheapest_52 : decode cX11_cheapest 52 = .ok (.invokevirtual 184, 3) := by decide +kernel
theorem dX11_cheapest_55 : decode cX11_cheapest 55 = .ok (.ireturn, 1) := by decide +kernel
set_option maxRecDepth 20000 in
theorem ggX11_chance_X11_machineAt : GoodIn wsX11_chance wsX11_machineAt := goodIn_r _ [7, 8, 9, 122, 123, 124, 125, 126, 127, 128, 129, 130, 131, 132] (by decide +kernel) (by decide +kernel)
set_option maxRecDepth 20000 in
theorem gX11_chance_X11_machineAt : GoodIn wsX11_chance (wsV RX11 99 RX11 yX11_machineAt wsX11_machineAt) := goodIn_app (goodIn_of _ (by decide +kernel)) ggX11_chance_X11_machineAt
set_option maxRecDepth 20000 in
theorem ggX11_chance_X4_hasSet : GoodIn wsX11_chance wsX4_hasSet := goodIn_r _ [14, 15, 133, 134, 135, 136, 137, 138] (by decide +kernel) (by decide +kernel)
set_option maxRecDepth 20000 in
theorem gX11_chance_X4_hasSet : GoodIn wsX11_chance (wsV RX11 141 RX4 yX4_hasSet wsX4_hasSet) := goodIn_app (goodIn_of _ (by decide +kernel)) ggX11_chance_X4_hasSet
set_option maxRecDepth 20000 in
theorem ggX11_chance_X0_right : GoodIn wsX11_chance wsX0_right := goodIn_r _ [20, 21, 22, 23, 24, 25, 26, 27, 28, 29, 30, 31, 32, 33, 34, 35, 36, 37, 38, 39, 40, 41, 42, 43, 13, 44, 45, 46, 47, 48, 49, 50, 51, 52, 15, 53, 54, 55, 56, 57, 58, 59, 60, 61, 62, 63, 64, 65, 66, 67, 68, 69, 70, 71, 72, 73, 74, 75, 76, 77, 78, 79, 80, 81, 82, 83, 84, 85, 86, 87, 88, 89, 90, 91, 92, 93, 94, 95, 96, 97, 98, 99, 19, 100, 101, 102, 103, 104, 105, 106, 107, 108, 109, 110, 111, 112, 113, 114, 115, 116, 117, 118, 119, 120, 121, 139, 140, 141, 142, 143, 144, 145, 146, 147, 148, 149, 133, 134, 135, 136, 137, 138, 150] (by decide +kernel) (by decide +kernel)
set_option maxRecDepth 20000 in
theorem gX11_chance_X0_right : GoodIn wsX11_chance (wsV RX11 189 RX0 yX0_right wsX0_right) := goodIn_app (goodIn_of _ (by decide +kernel)) ggX11_chance_X0_right
theorem dX11_chance_0 : decode cX11_chance 0 = .ok (.aload_n 0, 1) := by decide +kernel
theorem dX11_chance_1 : decode cX11_chance 1 = .ok (.iload_n 1, 1) := by decide +kernel
theorem dX11_chance_2 : decode cX11_chance 2 = .ok (.invokevirtual 99, 3) := by decide +kernel
theorem dX11_chance_5 : decode cX11_chance 5 = .ok (.astore 4, 2) := by decide +kernel
theorem dX11_chance_7 : decode cX11_chance 7 = .ok (.aload 4, 2) := by decide +kernel
theorem dX11_chance_9 : decode cX11_chance 9 = .ok (.ifnull 22, 3) := by decide +kernel
theorem dX11_chance_12 : decode cX11_chance 12 = .ok (.aload 4, 2) := by decide +kernel
theorem dX11_chance_14 : decode cX11_chance 14 = .ok (.iload_n 2, 1) := by decide +kernel
theorem dX11_chance_15 : decode cX11_chance 15 = .ok (.invokevirtual 141, 3) := by decide +kernel
theorem dX11_chance_18 : decode cX11_chance 18 = .ok (.ifCond .eq 13, 3) := by decide +kernel
theorem dX11_chance_21 : decode cX11_chance 21 = .ok (.iload_n 3, 1) := by decide +kernel
theorem dX11_chance_22 : decode cX11_chance 22 = .ok (.ifCond .lt 9, 3) := by decide +kernel
theorem dX11_chance_25 : decode cX11_chance 25 = .ok (.iload_n 3, 1) := by decide +kernel
theorem dX11_chance_26 : decode cX11_chance 26 = .ok (.bipush 12, 2) := by decide +kernel
theorem dX11_chance_28 : decode cX11_chance 28 = .ok (.if_icmp .le 7, 3) := by decide +kernel
theorem dX11_chance_31 : decode cX11_chance 31 = .ok (.ldc2_w 187, 3) := by decide +kernel
theorem dX11_chance_34 : decode cX11_chance 34 = .ok (.lreturn, 1) := by decide +kernel
theorem dX11_chance_35 : decode cX11_chance 35 = .ok (.aload_n 0, 1) := by decide +kernel
theorem dX11_chance_36 : decode cX11_chance 36 = .ok (.getfield 57, 3) := by decide +kernel
theorem dX11_chance_39 : decode cX11_chance 39 = .ok (.aload 4, 2) := by decide +kernel
theorem dX11_chance_41 : decode cX11_chance 41 = .ok (.iload_n 2, 1) := by decide +kernel
theorem dX11_chance_42 : decode cX11_chance 42 = .ok (.iload_n 3, 1) := by decide +kernel
theorem dX11_chance_43 : decode cX11_chance 43 = .ok (.invokevirtual 189, 3) := by decide +kernel
theorem dX11_chance_46 : decode cX11_chance 46 = .ok (.lreturn, 1) := by decide +kernel
set_option maxRecDepth 20000 in
theorem ggX11_chances_X11_machineAt : GoodIn wsX11_chances wsX11_machineAt := goodIn_r _ [7, 8, 9, 30, 31, 32, 33, 34, 35, 36, 37, 38, 39, 40] (by decide +kernel) (by decide +kernel)
set_option maxRecDepth 20000 in
theorem gX11_chances_X11_machineAt : GoodIn wsX11_chances (wsV RX11 99 RX11 yX11_machineAt wsX11_machineAt) := goodIn_app (goodIn_of _ (by decide +kernel)) ggX11_chances_X11_machineAt
set_option maxRecDepth 20000 in
theorem ggX11_chances_X0_all : GoodIn wsX11_chances wsX0_all := goodIn_r _ [14, 15, 16, 17, 18, 19, 20, 21, 22, 23, 24, 25, 26, 27, 28, 29, 41, 42, 43, 44, 45, 46] (by decide +kernel) (by decide +kernel)
set_option maxRecDepth 20000 in
theorem gX11_chances_X0_all : GoodIn wsX11_chances (wsV RX11 193 RX0 yX0_all wsX0_all) := goodIn_app (goodIn_of _ (by decide +kernel)) ggX11_chances_X0_all
theorem dX11_chances_0 : decode cX11_chances 0 = .ok (.aload_n 0, 1) := by decide +kernel
theorem dX11_chances_1 : decode cX11_chances 1 = .ok (.iload_n 1, 1) := by decide +kernel
theorem dX11_chances_2 : decode cX11_chances 2 = .ok (.invokevirtual 99, 3) := by decide +kernel
theorem dX11_chances_5 : decode cX11_chances 5 = .ok (.astore_n 3, 1) := by decide +kernel
theorem dX11_chances_6 : decode cX11_chances 6 = .ok (.aload_n 3, 1) := by decide +kernel
theorem dX11_chances_7 : decode cX11_chances 7 = .ok (.ifnull 13, 3) := by decide +kernel
theorem dX11_chances_10 : decode cX11_chances 10 = .ok (.iload_n 2, 1) := by decide +kernel
theorem dX11_chances_11 : decode cX11_chances 11 = .ok (.ifCond .lt 9, 3) := by decide +kernel
theorem dX11_chances_14 : decode cX11_chances 14 = .ok (.iload_n 2, 1) := by decide +kernel
theorem dX11_chances_15 : decode cX11_chances 15 = .ok (.bipush 12, 2) := by decide +kernel
theorem dX11_chances_17 : decode cX11_chances 17 = .ok (.if_icmp .le 7, 3) := by decide +kernel
theorem dX11_chances_20 : decode cX11_chances 20 = .ok (.ldc2_w 187, 3) := by decide +kernel
theorem dX11_chances_23 : decode cX11_chances 23 = .ok (.lreturn, 1) := by decide +kernel
theorem dX11_chances_24 : decode cX11_chances 24 = .ok (.aload_n 0, 1) := by decide +kernel
theorem dX11_chances_25 : decode cX11_chances 25 = .ok (.getfield 57, 3) := by decide +kernel
theorem dX11_chances_28 : decode cX11_chances 28 = .ok (.aload_n 3, 1) := by decide +kernel
theorem dX11_chances_29 : decode cX11_chances 29 = .ok (.iload_n 2, 1) := by decide +kernel
theorem dX11_chances_30 : decode cX11_chances 30 = .ok (.invokevirtual 193, 3) := by decide +kernel
theorem dX11_chances_33 : decode cX11_chances 33 = .ok (.lreturn, 1) := by decide +kernel
set_option maxRecDepth 20000 in
theorem ggX11_kinds_X11_machineAt : GoodIn wsX11_kinds wsX11_machineAt := goodIn_r _ [5, 6, 7, 61, 62, 63, 64, 65, 66, 67, 68, 69, 70, 71] (by decide +kernel) (by decide +kernel)
set_option maxRecDepth 20000 in
theorem gX11_kinds_X11_machineAt : GoodIn wsX11_kinds (wsV RX11 99 RX11 yX11_machineAt wsX11_machineAt) := goodIn_app (goodIn_of _ (by decide +kernel)) ggX11_kinds_X11_machineAt
set_option maxRecDepth 20000 in
theorem ggX11_kinds_X4_isWhole : GoodIn wsX11_kinds wsX4_isWhole := goodIn_r _ [12, 13, 14, 15, 16, 17, 11, 18, 19, 72, 73, 74, 75, 76, 77] (by decide +kernel) (by decide +kernel)
set_option maxRecDepth 20000 in
theorem gX11_kinds_X4_isWhole : GoodIn wsX11_kinds (wsV RX11 197 RX4 yX4_isWhole wsX4_isWhole) := goodIn_app (goodIn_of _ (by decide +kernel)) ggX11_kinds_X4_isWhole
set_option maxRecDepth 20000 in
theorem ggX11_kinds_X3_of : GoodIn wsX11_kinds wsX3_of := goodIn_r _ [23, 24, 25, 22, 26, 27, 28, 29, 11, 30, 13, 31, 32, 33, 34, 35, 36, 37, 14, 38, 16, 17, 18, 19, 39, 40, 41, 42, 43, 44, 45, 46, 47, 48, 49, 50, 51, 52, 53, 54, 55, 56, 57, 58, 59, 60, 72, 73, 74, 75, 76, 77] (by decide +kernel) (by decide +kernel)
set_option maxRecDepth 20000 in
theorem gX11_kinds_X3_of : GoodIn wsX11_kinds (va_wsS RX11 201 yX3_of wsX3_of) := goodIn_app (goodIn_of _ (by decide +kernel)) ggX11_kinds_X3_of
theorem dX11_kinds_0 : decode cX11_kinds 0 = .ok (.aload_n 0, 1) := by decide +kernel
theorem dX11_kinds_1 : decode cX11_kinds 1 = .ok (.iload_n 1, 1) := by decide +kernel
theorem dX11_kinds_2 : decode cX11_kinds 2 = .ok (.invokevirtual 99, 3) := by decide +kernel
theorem dX11_kinds_5 : decode cX11_kinds 5 = .ok (.astore_n 2, 1) := by decide +kernel
theorem dX11_kinds_6 : decode cX11_kinds 6 = .ok (.aload_n 2, 1) := by decide +kernel
theorem dX11_kinds_7 : decode cX11_kinds 7 = .ok (.ifnonnull 6, 3) := by decide +kernel
theorem dX11_kinds_10 : decode cX11_kinds 10 = .ok (.bipush (-2), 2) := by decide +kernel
theorem dX11_kinds_12 : decode cX11_kinds 12 = .ok (.ireturn, 1) := by decide +kernel
theorem dX11_kinds_13 : decode cX11_kinds 13 = .ok (.aload_n 2, 1) := by decide +kernel
theorem dX11_kinds_14 : decode cX11_kinds 14 = .ok (.invokevirtual 197, 3) := by decide +kernel
theorem dX11_kinds_17 : decode cX11_kinds 17 = .ok (.ifCond .eq 10, 3) := by decide +kernel
theorem dX11_kinds_20 : decode cX11_kinds 20 = .ok (.aload_n 2, 1) := by decide +kernel
theorem dX11_kinds_21 : decode cX11_kinds 21 = .ok (.invokestatic 201, 3) := by decide +kernel
theorem dX11_kinds_24 : decode cX11_kinds 24 = .ok (.goto 5, 3) := by decide +kernel
theorem dX11_kinds_27 : decode cX11_kinds 27 = .ok (.bipush (-3), 2) := by decide +kernel
theorem dX11_kinds_29 : decode cX11_kinds 29 = .ok (.ireturn, 1) := by decide +kernel
set_option maxRecDepth 20000 in
theorem ggX11_colour_X11_machineAt : GoodIn wsX11_colour wsX11_machineAt := goodIn_r _ [6, 7, 8, 92, 93, 94, 95, 96, 97, 98, 99, 100, 101, 102] (by decide +kernel) (by decide +kernel)
set_option maxRecDepth 20000 in
theorem gX11_colour_X11_machineAt : GoodIn wsX11_colour (wsV RX11 99 RX11 yX11_machineAt wsX11_machineAt) := goodIn_app (goodIn_of _ (by decide +kernel)) ggX11_colour_X11_machineAt
set_option maxRecDepth 20000 in
theorem ggX11_colour_X4_isWhole : GoodIn wsX11_colour wsX4_isWhole := goodIn_r _ [13, 14, 15, 16, 17, 18, 12, 19, 20, 103, 104, 105, 106, 107, 108] (by decide +kernel) (by decide +kernel)
set_option maxRecDepth 20000 in
theorem gX11_colour_X4_isWhole : GoodIn wsX11_colour (wsV RX11 197 RX4 yX4_isWhole wsX4_isWhole) := goodIn_app (goodIn_of _ (by decide +kernel)) ggX11_colour_X4_isWhole
set_option maxRecDepth 20000 in
theorem ggX11_colour_X1_paint : GoodIn wsX11_colour wsX1_paint := goodIn_r _ [25, 26, 27, 28, 29, 30, 31, 32, 33, 12, 34, 14, 35, 36, 37, 24, 38, 39, 40, 41, 42, 43, 15, 44, 45, 46, 47, 48, 49, 50, 51, 52, 17, 18, 19, 20, 53, 54, 55, 56, 57, 58, 59, 60, 61, 62, 63, 64, 65, 66, 67, 68, 69, 70, 71, 72, 73, 74, 75, 76, 77, 78, 79, 80, 81, 82, 83, 84, 85, 86, 87, 88, 89, 90, 91, 109, 110, 111, 103, 104, 105, 106, 107, 108] (by decide +kernel) (by decide +kernel)
set_option maxRecDepth 20000 in
theorem gX11_colour_X1_paint : GoodIn wsX11_colour (wsV RX11 206 RX1 yX1_paint wsX1_paint) := goodIn_app (goodIn_of _ (by decide +kernel)) ggX11_colour_X1_paint
theorem dX11_colour_0 : decode cX11_colour 0 = .ok (.aload_n 0, 1) := by decide +kernel
theorem dX11_colour_1 : decode cX11_colour 1 = .ok (.iload_n 1, 1) := by decide +kernel
theorem dX11_colour_2 : decode cX11_colour 2 = .ok (.invokevirtual 99, 3) := by decide +kernel
theorem dX11_colour_5 : decode cX11_colour 5 = .ok (.astore_n 2, 1) := by decide +kernel
theorem dX11_colour_6 : decode cX11_colour 6 = .ok (.aload_n 2, 1) := by decide +kernel
theorem dX11_colour_7 : decode cX11_colour 7 = .ok (.ifnonnull 6, 3) := by decide +kernel
theorem dX11_colour_10 : decode cX11_colour 10 = .ok (.bipush (-2), 2) := by decide +kernel
theorem dX11_colour_12 : decode cX11_colour 12 = .ok (.ireturn, 1) := by decide +kernel
theorem dX11_colour_13 : decode cX11_colour 13 = .ok (.aload_n 2, 1) := by decide +kernel
theorem dX11_colour_14 : decode cX11_colour 14 = .ok (.invokevirtual 197, 3) := by decide +kernel
theorem dX11_colour_17 : decode cX11_colour 17 = .ok (.ifCond .eq 14, 3) := by decide +kernel
theorem dX11_colour_20 : decode cX11_colour 20 = .ok (.aload_n 0, 1) := by decide +kernel
theorem dX11_colour_21 : decode cX11_colour 21 = .ok (.getfield 80, 3) := by decide +kernel
theorem dX11_colour_24 : decode cX11_colour 24 = .ok (.aload_n 2, 1) := by decide +kernel
theorem dX11_colour_25 : decode cX11_colour 25 = .ok (.invokevirtual 206, 3) := by decide +kernel
theorem dX11_colour_28 : decode cX11_colour 28 = .ok (.goto 5, 3) := by decide +kernel
theorem dX11_colour_31 : decode cX11_colour 31 = .ok (.bipush (-3), 2) := by decide +kernel
theorem dX11_colour_33 : decode cX11_colour 33 = .ok (.ireturn, 1) := by decide +kernel
set_option maxRecDepth 20000 in
theorem ggX11_apart_X11_machineAt : GoodIn wsX11_apart wsX11_machineAt := goodIn_r _ [6, 7, 8, 54, 55, 56, 57, 58, 59, 60, 61, 62, 63, 64] (by decide +kernel) (by decide +kernel)
set_option maxRecDepth 20000 in
theorem gX11_apart_X11_machineAt : GoodIn wsX11_apart (wsV RX11 99 RX11 yX11_machineAt wsX11_machineAt) := goodIn_app (goodIn_of _ (by decide +kernel)) ggX11_apart_X11_machineAt
set_option maxRecDepth 20000 in
theorem ggX11_apart_X4_hasState : GoodIn wsX11_apart wsX4_hasState := goodIn_r _ [13, 14, 65, 66, 67, 68, 69, 70] (by decide +kernel) (by decide +kernel)
set_option maxRecDepth 20000 in
theorem gX11_apart_X4_hasState : GoodIn wsX11_apart (wsV RX11 103 RX4 yX4_hasState wsX4_hasState) := goodIn_app (goodIn_of _ (by decide +kernel)) ggX11_apart_X4_hasState
set_option maxRecDepth 20000 in
theorem ggX11_apart_X5_lengthApart : GoodIn wsX11_apart wsX5_lengthApart := goodIn_r _ [19, 20, 21, 22, 23, 24, 25, 26, 27, 28, 18, 29, 30, 31, 32, 12, 33, 34, 35, 10, 11, 13, 14, 36, 37, 38, 39, 40, 41, 42, 43, 44, 45, 46, 47, 48, 49, 50, 51, 52, 53, 71, 72, 73, 65, 66, 67, 68, 69, 70] (by decide +kernel) (by decide +kernel)
set_option maxRecDepth 20000 in
theorem gX11_apart_X5_lengthApart : GoodIn wsX11_apart (wsV RX11 209 RX5 yX5_lengthApart wsX5_lengthApart) := goodIn_app (goodIn_of _ (by decide +kernel)) ggX11_apart_X5_lengthApart
theorem dX11_apart_0 : decode cX11_apart 0 = .ok (.aload_n 0, 1) := by decide +kernel
theorem dX11_apart_1 : decode cX11_apart 1 = .ok (.iload_n 1, 1) := by decide +kernel
theorem dX11_apart_2 : decode cX11_apart 2 = .ok (.invokevirtual 99, 3) := by decide +kernel
theorem dX11_apart_5 : decode cX11_apart 5 = .ok (.astore 4, 2) := by decide +kernel
theorem dX11_apart_7 : decode cX11_apart 7 = .ok (.aload 4, 2) := by decide +kernel
theorem dX11_apart_9 : decode cX11_apart 9 = .ok (.ifnull 21, 3) := by decide +kernel
theorem dX11_apart_12 : decode cX11_apart 12 = .ok (.aload 4, 2) := by decide +kernel
theorem dX11_apart_14 : decode cX11_apart 14 = .ok (.iload_n 2, 1) := by decide +kernel
theorem dX11_apart_15 : decode cX11_apart 15 = .ok (.invokevirtual 103, 3) := by decide +kernel
theorem dX11_apart_18 : decode cX11_apart 18 = .ok (.ifCond .eq 12, 3) := by decide +kernel
theorem dX11_apart_21 : decode cX11_apart 21 = .ok (.aload 4, 2) := by decide +kernel
theorem dX11_apart_23 : decode cX11_apart 23 = .ok (.iload_n 3, 1) := by decide +kernel
theorem dX11_apart_24 : decode cX11_apart 24 = .ok (.invokevirtual 103, 3) := by decide +kernel
theorem dX11_apart_27 : decode cX11_apart 27 = .ok (.ifCond .ne 6, 3) := by decide +kernel
theorem dX11_apart_30 : decode cX11_apart 30 = .ok (.bipush (-2), 2) := by decide +kernel
theorem dX11_apart_32 : decode cX11_apart 32 = .ok (.ireturn, 1) := by decide +kernel
theorem dX11_apart_33 : decode cX11_apart 33 = .ok (.aload_n 0, 1) := by decide +kernel
theorem dX11_apart_34 : decode cX11_apart 34 = .ok (.getfield 64, 3) := by decide +kernel
theorem dX11_apart_37 : decode cX11_apart 37 = .ok (.aload 4, 2) := by decide +kernel
theorem dX11_apart_39 : decode cX11_apart 39 = .ok (.iload_n 2, 1) := by decide +kernel
theorem dX11_apart_40 : decode cX11_apart 40 = .ok (.iload_n 3, 1) := by decide +kernel
theorem dX11_apart_41 : decode cX11_apart 41 = .ok (.invokevirtual 209, 3) := by decide +kernel
theorem dX11_apart_44 : decode cX11_apart 44 = .ok (.ireturn, 1) := by decide +kernel
set_option maxRecDepth 20000 in
theorem ggX11_count_X10_length : GoodIn wsX11_count wsX10_length := goodIn_r _ [7, 8, 20, 21] (by decide +kernel) (by decide +kernel)
set_option maxRecDepth 20000 in
theorem gX11_count_X10_length : GoodIn wsX11_count (wsV RX11 127 RX10 yX10_length wsX10_length) := goodIn_app (goodIn_of _ (by decide +kernel)) ggX11_count_X10_length
theorem dX11_count_0 : decode cX11_count 0 = .ok (.iload_n 1, 1) := by decide +kernel
theorem dX11_count_1 : decode cX11_count 1 = .ok (.ifCond .lt 8, 3) := by decide +kernel
theorem dX11_count_4 : decode cX11_count 4 = .ok (.iload_n 1, 1) := by decide +kernel
theorem dX11_count_5 : decode cX11_count 5 = .ok (.iconst 1, 1) := by decide +kernel
theorem dX11_count_6 : decode cX11_count 6 = .ok (.if_icmp .le 6, 3) := by decide +kernel
theorem dX11_count_9 : decode cX11_count 9 = .ok (.bipush (-2), 2) := by decide +kernel
theorem dX11_count_11 : decode cX11_count 11 = .ok (.ireturn, 1) := by decide +kernel
theorem dX11_count_12 : decode cX11_count 12 = .ok (.iload_n 1, 1) := by decide +kernel
theorem dX11_count_13 : decode cX11_count 13 = .ok (.ifCond .ne 10, 3) := by decide +kernel
theorem dX11_count_16 : decode cX11_count 16 = .ok (.aload_n 0, 1) := by decide +kernel
theorem dX11_count_17 : decode cX11_count 17 = .ok (.getfield 84, 3) := by decide +kernel
theorem dX11_count_20 : decode cX11_count 20 = .ok (.goto 10, 3) := by decide +kernel
theorem dX11_count_23 : decode cX11_count 23 = .ok (.aload_n 0, 1) := by decide +kernel
theorem dX11_count_24 : decode cX11_count 24 = .ok (.getfield 18, 3) := by decide +kernel
theorem dX11_count_27 : decode cX11_count 27 = .ok (.invokevirtual 127, 3) := by decide +kernel
theorem dX11_count_30 : decode cX11_count 30 = .ok (.ireturn, 1) := by decide +kernel
set_option maxRecDepth 20000 in
theorem ggX11_digest_X11_digestOf : GoodIn wsX11_digest wsX11_digestOf := goodIn_r _ [9, 4, 10, 11, 8, 12, 13, 14, 15, 16, 17, 18, 19, 20, 21, 22, 23, 24, 25, 26, 27, 28, 29, 30, 31, 32, 33, 34, 35, 36, 37, 38, 39, 40, 41, 42, 43, 44, 45, 46, 47, 48, 49, 50, 51, 52, 53, 54, 55, 56, 79, 80, 81, 82, 83, 84] (by decide +kernel) (by decide +kernel)
set_option maxRecDepth 20000 in
theorem gX11_digest_X11_digestOf : GoodIn wsX11_digest (va_wsS RX11 214 yX11_digestOf wsX11_digestOf) := goodIn_app (goodIn_of _ (by decide +kernel)) ggX11_digest_X11_digestOf
set_option maxRecDepth 20000 in
theorem ggX11_digest_X10_length : GoodIn wsX11_digest wsX10_length := goodIn_r _ [61, 62, 85, 86] (by decide +kernel) (by decide +kernel)
set_option maxRecDepth 20000 in
theorem gX11_digest_X10_length : GoodIn wsX11_digest (wsV RX11 127 RX10 yX10_length wsX10_length) := goodIn_app (goodIn_of _ (by decide +kernel)) ggX11_digest_X10_length
set_option maxRecDepth 20000 in
theorem ggX11_digest_X10_at : GoodIn wsX11_digest wsX10_at := goodIn_r _ [66, 62, 67, 85, 86] (by decide +kernel) (by decide +kernel)
set_option maxRecDepth 20000 in
theorem gX11_digest_X10_at : GoodIn wsX11_digest (wsV RX11 137 RX10 yX10_at wsX10_at) := goodIn_app (goodIn_of _ (by decide +kernel)) ggX11_digest_X10_at
theorem dX11_digest_0 : decode cX11_digest 0 = .ok (.ldc2_w 212, 3) := by decide +kernel
theorem dX11_digest_3 : decode cX11_digest 3 = .ok (.lstore_n 1, 1) := by decide +kernel
theorem dX11_digest_4 : decode cX11_digest 4 = .ok (.iconst 0, 1) := by decide +kernel
theorem dX11_digest_5 : decode cX11_digest 5 = .ok (.istore_n 3, 1) := by decide +kernel
theorem dX11_digest_6 : decode cX11_digest 6 = .ok (.iload_n 3, 1) := by decide +kernel
theorem dX11_digest_7 : decode cX11_digest 7 = .ok (.aload_n 0, 1) := by decide +kernel
theorem dX11_digest_8 : decode cX11_digest 8 = .ok (.getfield 84, 3) := by decide +kernel
theorem dX11_digest_11 : decode cX11_digest 11 = .ok (.if_icmp .ge 35, 3) := by decide +kernel
theorem dX11_digest_14 : decode cX11_digest 14 = .ok (.iload_n 3, 1) := by decide +kernel
theorem dX11_digest_15 : decode cX11_digest 15 = .ok (.bipush 6, 2) := by decide +kernel
theorem dX11_digest_17 : decode cX11_digest 17 = .ok (.if_icmp .ge 29, 3) := by decide +kernel
theorem dX11_digest_20 : decode cX11_digest 20 = .ok (.aload_n 0, 1) := by decide +kernel
theorem dX11_digest_21 : decode cX11_digest 21 = .ok (.getfield 11, 3) := by decide +kernel
theorem dX11_digest_24 : decode cX11_digest 24 = .ok (.iload_n 3, 1) := by decide +kernel
theorem dX11_digest_25 : decode cX11_digest 25 = .ok (.aaload, 1) := by decide +kernel
theorem dX11_digest_26 : decode cX11_digest 26 = .ok (.ifnull 14, 3) := by decide +kernel
theorem dX11_digest_29 : decode cX11_digest 29 = .ok (.aload_n 0, 1) := by decide +kernel
theorem dX11_digest_30 : decode cX11_digest 30 = .ok (.getfield 11, 3) := by decide +kernel
theorem dX11_digest_33 : decode cX11_digest 33 = .ok (.iload_n 3, 1) := by decide +kernel
theorem dX11_digest_34 : decode cX11_digest 34 = .ok (.aaload, 1) := by decide +kernel
theorem dX11_digest_35 : decode cX11_digest 35 = .ok (.lload_n 1, 1) := by decide +kernel
theorem dX11_digest_36 : decode cX11_digest 36 = .ok (.invokestatic 214, 3) := by decide +kernel
theorem dX11_digest_39 : decode cX11_digest 39 = .ok (.lstore_n 1, 1) := by decide +kernel
theorem dX11_digest_40 : decode cX11_digest 40 = .ok (.iinc 3 1, 3) := by decide +kernel
theorem dX11_digest_43 : decode cX11_digest 43 = .ok (.goto (-37), 3) := by decide +kernel
theorem dX11_digest_46 : decode cX11_digest 46 = .ok (.ldc2_w 218, 3) := by decide +kernel
theorem dX11_digest_49 : decode cX11_digest 49 = .ok (.lload_n 1, 1) := by decide +kernel
theorem dX11_digest_50 : decode cX11_digest 50 = .ok (.lmul, 1) := by decide +kernel
theorem dX11_digest_51 : decode cX11_digest 51 = .ok (.aload_n 0, 1) := by decide +kernel
theorem dX11_digest_52 : decode cX11_digest 52 = .ok (.getfield 18, 3) := by decide +kernel
theorem dX11_digest_55 : decode cX11_digest 55 = .ok (.invokevirtual 127, 3) := by decide +kernel
theorem dX11_digest_58 : decode cX11_digest 58 = .ok (.i2l, 1) := by decide +kernel
theorem dX11_digest_59 : decode cX11_digest 59 = .ok (.ladd, 1) := by decide +kernel
theorem dX11_digest_60 : decode cX11_digest 60 = .ok (.lstore_n 1, 1) := by decide +kernel
theorem dX11_digest_61 : decode cX11_digest 61 = .ok (.iconst 0, 1) := by decide +kernel
theorem dX11_digest_62 : decode cX11_digest 62 = .ok (.istore_n 3, 1) := by decide +kernel
theorem dX11_digest_63 : decode cX11_digest 63 = .ok (.iload_n 3, 1) := by decide +kernel
theorem dX11_digest_64 : decode cX11_digest 64 = .ok (.aload_n 0, 1) := by decide +kernel
theorem dX11_digest_65 : decode cX11_digest 65 = .ok (.getfield 18, 3) := by decide +kernel
theorem dX11_digest_68 : decode cX11_digest 68 = .ok (.invokevirtual 127, 3) := by decide +kernel
theorem dX11_digest_71 : decode cX11_digest 71 = .ok (.if_icmp .ge 25, 3) := by decide +kernel
theorem dX11_digest_74 : decode cX11_digest 74 = .ok (.ldc2_w 218, 3) := by decide +kernel
theorem dX11_digest_77 : decode cX11_digest 77 = .ok (.lload_n 1, 1) := by decide +kernel
theorem dX11_digest_78 : decode cX11_digest 78 = .ok (.lmul, 1) := by decide +kernel
theorem dX11_digest_79 : decode cX11_digest 79 = .ok (.aload_n 0, 1) := by decide +kernel
theorem dX11_digest_80 : decode cX11_digest 80 = .ok (.getfield 18, 3) := by decide +kernel
theorem dX11_digest_83 : decode cX11_digest 83 = .ok (.iload_n 3, 1) := by decide +kernel
theorem dX11_digest_84 : decode cX11_digest 84 = .ok (.invokevirtual 137, 3) := by decide +kernel
theorem dX11_digest_87 : decode cX11_digest 87 = .ok (.i2l, 1) := by decide +kernel
theorem dX11_digest_88 : decode cX11_digest 88 = .ok (.ladd, 1) := by decide +kernel
theorem dX11_digest_89 : decode cX11_digest 89 = .ok (.lstore_n 1, 1) := by decide +kernel
theorem dX11_digest_90 : decode cX11_digest 90 = .ok (.iinc 3 1, 3) := by decide +kernel
theorem dX11_digest_93 : decode cX11_digest 93 = .ok (.goto (-30), 3) := by decide +kernel
theorem dX11_digest_96 : decode cX11_digest 96 = .ok (.lload_n 1, 1) := by decide +kernel
theorem dX11_digest_97 : decode cX11_digest 97 = .ok (.lreturn, 1) := by decide +kernel
set_option maxRecDepth 20000 in
theorem ggX11_digestOf_X11_fact : GoodIn wsX11_digestOf wsX11_fact := goodIn_r _ [5, 6, 7, 8, 9, 10, 11, 12, 13, 14, 15, 16, 17, 18, 19, 20, 21, 22, 23, 24, 25, 50, 51, 52, 53, 54, 55] (by decide +kernel) (by decide +kernel)
set_option maxRecDepth 20000 in
theorem gX11_digestOf_X11_fact : GoodIn wsX11_digestOf (va_wsS RX11 123 yX11_fact wsX11_fact) := goodIn_app (goodIn_of _ (by decide +kernel)) ggX11_digestOf_X11_fact
set_option maxRecDepth 20000 in
theorem ggX11_digestOf_X4_states : GoodIn wsX11_digestOf wsX4_states := goodIn_r _ [10, 11, 50, 51, 52, 53, 54, 55] (by decide +kernel) (by decide +kernel)
set_option maxRecDepth 20000 in
theorem gX11_digestOf_X4_states : GoodIn wsX11_digestOf (wsV RX11 220 RX4 yX4_states wsX4_states) := goodIn_app (goodIn_of _ (by decide +kernel)) ggX11_digestOf_X4_states
set_option maxRecDepth 20000 in
theorem ggX11_digestOf_X4_letters : GoodIn wsX11_digestOf wsX4_letters := goodIn_r _ [15, 16, 50, 51, 52, 53, 54, 55] (by decide +kernel) (by decide +kernel)
set_option maxRecDepth 20000 in
theorem gX11_digestOf_X4_letters : GoodIn wsX11_digestOf (wsV RX11 223 RX4 yX4_letters wsX4_letters) := goodIn_app (goodIn_of _ (by decide +kernel)) ggX11_digestOf_X4_letters
set_option maxRecDepth 20000 in
theorem ggX11_digestOf_X4_target : GoodIn wsX11_digestOf wsX4_target := goodIn_r _ [24, 11, 16, 25, 50, 51, 52, 53, 54, 55] (by decide +kernel) (by decide +kernel)
set_option maxRecDepth 20000 in
theorem gX11_digestOf_X4_target : GoodIn wsX11_digestOf (wsV RX11 110 RX4 yX4_target wsX4_target) := goodIn_app (goodIn_of _ (by decide +kernel)) ggX11_digestOf_X4_target
set_option maxRecDepth 20000 in
theorem ggX11_digestOf_X4_lightOf : GoodIn wsX11_digestOf wsX4_lightOf := goodIn_r _ [30, 31, 32, 33, 34, 9, 35, 11, 50, 51, 52, 53, 54, 55] (by decide +kernel) (by decide +kernel)
set_option maxRecDepth 20000 in
theorem gX11_digestOf_X4_lightOf : GoodIn wsX11_digestOf (wsV RX11 226 RX4 yX4_lightOf wsX4_lightOf) := goodIn_app (goodIn_of _ (by decide +kernel)) ggX11_digestOf_X4_lightOf
set_option maxRecDepth 20000 in
theorem ggX11_digestOf_X4_priceOf : GoodIn wsX11_digestOf wsX4_priceOf := goodIn_r _ [39, 40, 41, 42, 43, 9, 44, 16, 50, 51, 52, 53, 54, 55] (by decide +kernel) (by decide +kernel)
set_option maxRecDepth 20000 in
theorem gX11_digestOf_X4_priceOf : GoodIn wsX11_digestOf (wsV RX11 229 RX4 yX4_priceOf wsX4_priceOf) := goodIn_app (goodIn_of _ (by decide +kernel)) ggX11_digestOf_X4_priceOf
set_option maxRecDepth 20000 in
theorem ggX11_digestOf_X4_shareOf : GoodIn wsX11_digestOf wsX4_shareOf := goodIn_r _ [48, 49, 41, 42, 43, 9, 44, 16, 50, 51, 52, 53, 54, 55] (by decide +kernel) (by decide +kernel)
set_option maxRecDepth 20000 in
theorem gX11_digestOf_X4_shareOf : GoodIn wsX11_digestOf (wsV RX11 232 RX4 yX4_shareOf wsX4_shareOf) := goodIn_app (goodIn_of _ (by decide +kernel)) ggX11_digestOf_X4_shareOf
theorem dX11_digestOf_0 : decode cX11_digestOf 0 = .ok (.lload_n 1, 1) := by decide +kernel
theorem dX11_digestOf_1 : decode cX11_digestOf 1 = .ok (.lstore_n 3, 1) := by decide +kernel
theorem dX11_digestOf_2 : decode cX11_digestOf 2 = .ok (.iconst 0, 1) := by decide +kernel
theorem dX11_digestOf_3 : decode cX11_digestOf 3 = .ok (.istore 5, 2) := by decide +kernel
theorem dX11_digestOf_5 : decode cX11_digestOf 5 = .ok (.iload 5, 2) := by decide +kernel
theorem dX11_digestOf_7 : decode cX11_digestOf 7 = .ok (.iconst 2, 1) := by decide +kernel
theorem dX11_digestOf_8 : decode cX11_digestOf 8 = .ok (.if_icmp .gt 23, 3) := by decide +kernel
theorem dX11_digestOf_11 : decode cX11_digestOf 11 = .ok (.ldc2_w 218, 3) := by decide +kernel
theorem dX11_digestOf_14 : decode cX11_digestOf 14 = .ok (.lload_n 3, 1) := by decide +kernel
theorem dX11_digestOf_15 : decode cX11_digestOf 15 = .ok (.lmul, 1) := by decide +kernel
theorem dX11_digestOf_16 : decode cX11_digestOf 16 = .ok (.aload_n 0, 1) := by decide +kernel
theorem dX11_digestOf_17 : decode cX11_digestOf 17 = .ok (.iload 5, 2) := by decide +kernel
theorem dX11_digestOf_19 : decode cX11_digestOf 19 = .ok (.invokestatic 123, 3) := by decide +kernel
theorem dX11_digestOf_22 : decode cX11_digestOf 22 = .ok (.i2l, 1) := by decide +kernel
theorem dX11_digestOf_23 : decode cX11_digestOf 23 = .ok (.ladd, 1) := by decide +kernel
theorem dX11_digestOf_24 : decode cX11_digestOf 24 = .ok (.lstore_n 3, 1) := by decide +kernel
theorem dX11_digestOf_25 : decode cX11_digestOf 25 = .ok (.iinc 5 1, 3) := by decide +kernel
theorem dX11_digestOf_28 : decode cX11_digestOf 28 = .ok (.goto (-23), 3) := by decide +kernel
theorem dX11_digestOf_31 : decode cX11_digestOf 31 = .ok (.iconst 0, 1) := by decide +kernel
theorem dX11_digestOf_32 : decode cX11_digestOf 32 = .ok (.istore 5, 2) := by decide +kernel
theorem dX11_digestOf_34 : decode cX11_digestOf 34 = .ok (.iload 5, 2) := by decide +kernel
theorem dX11_digestOf_36 : decode cX11_digestOf 36 = .ok (.aload_n 0, 1) := by decide +kernel
theorem dX11_digestOf_37 : decode cX11_digestOf 37 = .ok (.invokevirtual 220, 3) := by decide +kernel
theorem dX11_digestOf_40 : decode cX11_digestOf 40 = .ok (.if_icmp .ge 57, 3) := by decide +kernel
theorem dX11_digestOf_43 : decode cX11_digestOf 43 = .ok (.iconst 0, 1) := by decide +kernel
theorem dX11_digestOf_44 : decode cX11_digestOf 44 = .ok (.istore 6, 2) := by decide +kernel
theorem dX11_digestOf_46 : decode cX11_digestOf 46 = .ok (.iload 6, 2) := by decide +kernel
theorem dX11_digestOf_48 : decode cX11_digestOf 48 = .ok (.aload_n 0, 1) := by decide +kernel
theorem dX11_digestOf_49 : decode cX11_digestOf 49 = .ok (.invokevirtual 223, 3) := by decide +kernel
theorem dX11_digestOf_52 : decode cX11_digestOf 52 = .ok (.if_icmp .ge 25, 3) := by decide +kernel
theorem dX11_digestOf_55 : decode cX11_digestOf 55 = .ok (.ldc2_w 218, 3) := by decide +kernel
theorem dX11_digestOf_58 : decode cX11_digestOf 58 = .ok (.lload_n 3, 1) := by decide +kernel
theorem dX11_digestOf_59 : decode cX11_digestOf 59 = .ok (.lmul, 1) := by decide +kernel
theorem dX11_digestOf_60 : decode cX11_digestOf 60 = .ok (.aload_n 0, 1) := by decide +kernel
theorem dX11_digestOf_61 : decode cX11_digestOf 61 = .ok (.iload 5, 2) := by decide +kernel
theorem dX11_digestOf_63 : decode cX11_digestOf 63 = .ok (.iload 6, 2) := by decide +kernel
theorem dX11_digestOf_65 : decode cX11_digestOf 65 = .ok (.invokevirtual 110, 3) := by decide +kernel
theorem dX11_digestOf_68 : decode cX11_digestOf 68 = .ok (.i2l, 1) := by decide +kernel
theorem dX11_digestOf_69 : decode cX11_digestOf 69 = .ok (.ladd, 1) := by decide +kernel
theorem dX11_digestOf_70 : decode cX11_digestOf 70 = .ok (.lstore_n 3, 1) := by decide +kernel
theorem dX11_digestOf_71 : decode cX11_digestOf 71 = .ok (.iinc 6 1, 3) := by decide +kernel
theorem dX11_digestOf_74 : decode cX11_digestOf 74 = .ok (.goto (-28), 3) := by decide +kernel
theorem dX11_digestOf_77 : decode cX11_digestOf 77 = .ok (.ldc2_w 218, 3) := by decide +kernel
theorem dX11_digestOf_80 : decode cX11_digestOf 80 = .ok (.lload_n 3, 1) := by decide +kernel
theorem dX11_digestOf_81 : decode cX11_digestOf 81 = .ok (.lmul, 1) := by decide +kernel
theorem dX11_digestOf_82 : decode cX11_digestOf 82 = .ok (.aload_n 0, 1) := by decide +kernel
theorem dX11_digestOf_83 : decode cX11_digestOf 83 = .ok (.iload 5, 2) := by decide +kernel
theorem dX11_digestOf_85 : decode cX11_digestOf 85 = .ok (.invokevirtual 226, 3) := by decide +kernel
theorem dX11_digestOf_88 : decode cX11_digestOf 88 = .ok (.i2l, 1) := by decide +kernel
theorem dX11_digestOf_89 : decode cX11_digestOf 89 = .ok (.ladd, 1) := by decide +kernel
theorem dX11_digestOf_90 : decode cX11_digestOf 90 = .ok (.lstore_n 3, 1) := by decide +kernel
theorem dX11_digestOf_91 : decode cX11_digestOf 91 = .ok (.iinc 5 1, 3) := by decide +kernel
theorem dX11_digestOf_94 : decode cX11_digestOf 94 = .ok (.goto (-60), 3) := by decide +kernel
theorem dX11_digestOf_97 : decode cX11_digestOf 97 = .ok (.iconst 0, 1) := by decide +kernel
theorem dX11_digestOf_98 : decode cX11_digestOf 98 = .ok (.istore 5, 2) := by decide +kernel
theorem dX11_digestOf_100 : decode cX11_digestOf 100 = .ok (.iload 5, 2) := by decide +kernel
theorem dX11_digestOf_102 : decode cX11_digestOf 102 = .ok (.aload_n 0, 1) := by decide +kernel
theorem dX11_digestOf_103 : decode cX11_digestOf 103 = .ok (.invokevirtual 223, 3) := by decide +kernel
theorem dX11_digestOf_106 : decode cX11_digestOf 106 = .ok (.if_icmp .ge 37, 3) := by decide +kernel
theorem dX11_digestOf_109 : decode cX11_digestOf 109 = .ok (.ldc2_w 218, 3) := by decide +kernel
theorem dX11_digestOf_112 : decode cX11_digestOf 112 = .ok (.lload_n 3, 1) := by decide +kernel
theorem dX11_digestOf_113 : decode cX11_digestOf 113 = .ok (.lmul, 1) := by decide +kernel
theorem dX11_digestOf_114 : decode cX11_digestOf 114 = .ok (.aload_n 0, 1) := by decide +kernel
theorem dX11_digestOf_115 : decode cX11_digestOf 115 = .ok (.iload 5, 2) := by decide +kernel
theorem dX11_digestOf_117 : decode cX11_digestOf 117 = .ok (.invokevirtual 229, 3) := by decide +kernel
theorem dX11_digestOf_120 : decode cX11_digestOf 120 = .ok (.i2l, 1) := by decide +kernel
theorem dX11_digestOf_121 : decode cX11_digestOf 121 = .ok (.ladd, 1) := by decide +kernel
theorem dX11_digestOf_122 : decode cX11_digestOf 122 = .ok (.lstore_n 3, 1) := by decide +kernel
theorem dX11_digestOf_123 : decode cX11_digestOf 123 = .ok (.ldc2_w 218, 3) := by decide +kernel
theorem dX11_digestOf_126 : decode cX11_digestOf 126 = .ok (.lload_n 3, 1) := by decide +kernel
theorem dX11_digestOf_127 : decode cX11_digestOf 127 = .ok (.lmul, 1) := by decide +kernel
theorem dX11_digestOf_128 : decode cX11_digestOf 128 = .ok (.aload_n 0, 1) := by decide +kernel
theorem dX11_digestOf_129 : decode cX11_digestOf 129 = .ok (.iload 5, 2) := by decide +kernel
theorem dX11_digestOf_131 : decode cX11_digestOf 131 = .ok (.invokevirtual 232, 3) := by decide +kernel
theorem dX11_digestOf_134 : decode cX11_digestOf 134 = .ok (.i2l, 1) := by decide +kernel
theorem dX11_digestOf_135 : decode cX11_digestOf 135 = .ok (.ladd, 1) := by decide +kernel
theorem dX11_digestOf_136 : decode cX11_digestOf 136 = .ok (.lstore_n 3, 1) := by decide +kernel
theorem dX11_digestOf_137 : decode cX11_digestOf 137 = .ok (.iinc 5 1, 3) := by decide +kernel
theorem dX11_digestOf_140 : decode cX11_digestOf 140 = .ok (.goto (-40), 3) := by decide +kernel
theorem dX11_digestOf_143 : decode cX11_digestOf 143 = .ok (.lload_n 3, 1) := by decide +kernel
theorem dX11_digestOf_144 : decode cX11_digestOf 144 = .ok (.lreturn, 1) := by decide +kernel
set_option maxRecDepth 20000 in
theorem ggX11_fact_X4_states : GoodIn wsX11_fact wsX4_states := goodIn_r _ [5, 6, 21, 22, 23, 24, 25, 26] (by decide +kernel) (by decide +kernel)
set_option maxRecDepth 20000 in
theorem gX11_fact_X4_states : GoodIn wsX11_fact (wsV RX11 220 RX4 yX4_states wsX4_states) := goodIn_app (goodIn_of _ (by decide +kernel)) ggX11_fact_X4_states
set_option maxRecDepth 20000 in
theorem ggX11_fact_X4_letters : GoodIn wsX11_fact wsX4_letters := goodIn_r _ [10, 11, 21, 22, 23, 24, 25, 26] (by decide +kernel) (by decide +kernel)
set_option maxRecDepth 20000 in
theorem gX11_fact_X4_letters : GoodIn wsX11_fact (wsV RX11 223 RX4 yX4_letters wsX4_letters) := goodIn_app (goodIn_of _ (by decide +kernel)) ggX11_fact_X4_letters
set_option maxRecDepth 20000 in
theorem ggX11_fact_X4_isWhole : GoodIn wsX11_fact wsX4_isWhole := goodIn_r _ [15, 6, 11, 16, 17, 18, 4, 19, 20, 21, 22, 23, 24, 25, 26] (by decide +kernel) (by decide +kernel)
set_option maxRecDepth 20000 in
theorem gX11_fact_X4_isWhole : GoodIn wsX11_fact (wsV RX11 197 RX4 yX4_isWhole wsX4_isWhole) := goodIn_app (goodIn_of _ (by decide +kernel)) ggX11_fact_X4_isWhole
theorem dX11_fact_0 : decode cX11_fact 0 = .ok (.iload_n 1, 1) := by decide +kernel
theorem dX11_fact_1 : decode cX11_fact 1 = .ok (.ifCond .ne 8, 3) := by decide +kernel
theorem dX11_fact_4 : decode cX11_fact 4 = .ok (.aload_n 0, 1) := by decide +kernel
theorem dX11_fact_5 : decode cX11_fact 5 = .ok (.invokevirtual 220, 3) := by decide +kernel
theorem dX11_fact_8 : decode cX11_fact 8 = .ok (.ireturn, 1) := by decide +kernel
theorem dX11_fact_9 : decode cX11_fact 9 = .ok (.iload_n 1, 1) := by decide +kernel
theorem dX11_fact_10 : decode cX11_fact 10 = .ok (.iconst 1, 1) := by decide +kernel
theorem dX11_fact_11 : decode cX11_fact 11 = .ok (.if_icmp .ne 10, 3) := by decide +kernel
theorem dX11_fact_14 : decode cX11_fact 14 = .ok (.aload_n 0, 1) := by decide +kernel
theorem dX11_fact_15 : decode cX11_fact 15 = .ok (.invokevirtual 223, 3) := by decide +kernel
theorem dX11_fact_18 : decode cX11_fact 18 = .ok (.goto 15, 3) := by decide +kernel
theorem dX11_fact_21 : decode cX11_fact 21 = .ok (.aload_n 0, 1) := by decide +kernel
theorem dX11_fact_22 : decode cX11_fact 22 = .ok (.invokevirtual 197, 3) := by decide +kernel
theorem dX11_fact_25 : decode cX11_fact 25 = .ok (.ifCond .eq 7, 3) := by decide +kernel
theorem dX11_fact_28 : decode cX11_fact 28 = .ok (.iconst 1, 1) := by decide +kernel
theorem dX11_fact_29 : decode cX11_fact 29 = .ok (.goto 4, 3) := by decide +kernel
theorem dX11_fact_32 : decode cX11_fact 32 = .ok (.iconst 0, 1) := by decide +kernel
theorem dX11_fact_33 : decode cX11_fact 33 = .ok (.ireturn, 1) := by decide +kernel
theorem dX11_add_0 : decode cX11_add 0 = .ok (.aload_n 0, 1) := by decide +kernel
theorem dX11_add_1 : decode cX11_add 1 = .ok (.getfield 84, 3) := by decide +kernel
theorem dX11_add_4 : decode cX11_add 4 = .ok (.bipush 6, 2) := by decide +kernel
theorem dX11_add_6 : decode cX11_add 6 = .ok (.if_icmp .lt 6, 3) := by decide +kernel
theorem dX11_add_9 : decode cX11_add 9 = .ok (.bipush (-4), 2) := by decide +kernel
theorem dX11_add_11 : decode cX11_add 11 = .ok (.ireturn, 1) := by decide +kernel
theorem dX11_add_12 : decode cX11_add 12 = .ok (.aload_n 0, 1) := by decide +kernel
theorem dX11_add_13 : decode cX11_add 13 = .ok (.getfield 11, 3) := by decide +kernel
theorem dX11_add_16 : decode cX11_add 16 = .ok (.aload_n 0, 1) := by decide +kernel
theorem dX11_add_17 : decode cX11_add 17 = .ok (.getfield 84, 3) := by decide +kernel
theorem dX11_add_20 : decode cX11_add 20 = .ok (.aload_n 1, 1) := by decide +kernel
theorem dX11_add_21 : decode cX11_add 21 = .ok (.aastore, 1) := by decide +kernel
theorem dX11_add_22 : decode cX11_add 22 = .ok (.aload_n 0, 1) := by decide +kernel
theorem dX11_add_23 : decode cX11_add 23 = .ok (.dup, 1) := by decide +kernel
theorem dX11_add_24 : decode cX11_add 24 = .ok (.getfield 84, 3) := by decide +kernel
theorem dX11_add_27 : decode cX11_add 27 = .ok (.iconst 1, 1) := by decide +kernel
theorem dX11_add_28 : decode cX11_add 28 = .ok (.iadd, 1) := by decide +kernel
theorem dX11_add_29 : decode cX11_add 29 = .ok (.putfield 84, 3) := by decide +kernel
theorem dX11_add_32 : decode cX11_add 32 = .ok (.aload_n 0, 1) := by decide +kernel
theorem dX11_add_33 : decode cX11_add 33 = .ok (.getfield 84, 3) := by decide +kernel
theorem dX11_add_36 : decode cX11_add 36 = .ok (.iconst 1, 1) := by decide +kernel
theorem dX11_add_37 : decode cX11_add 37 = .ok (.isub, 1) := by decide +kernel
theorem dX11_add_38 : decode cX11_add 38 = .ok (.ireturn, 1) := by decide +kernel
theorem dX11_machineAt_0 : decode cX11_machineAt 0 = .ok (.iload_n 1, 1) := by decide +kernel
theorem dX11_machineAt_1 : decode cX11_machineAt 1 = .ok (.ifCond .lt 26, 3) := by decide +kernel
theorem dX11_machineAt_4 : decode cX11_machineAt 4 = .ok (.iload_n 1, 1) := by decide +kernel
theorem dX11_machineAt_5 : decode cX11_machineAt 5 = .ok (.aload_n 0, 1) := by decide +kernel
theorem dX11_machineAt_6 : decode cX11_machineAt 6 = .ok (.getfield 84, 3) := by decide +kernel
theorem dX11_machineAt_9 : decode cX11_machineAt 9 = .ok (.if_icmp .ge 18, 3) := by decide +kernel
theorem dX11_machineAt_12 : decode cX11_machineAt 12 = .ok (.iload_n 1, 1) := by decide +kernel
theorem dX11_machineAt_13 : decode cX11_machineAt 13 = .ok (.bipush 6, 2) := by decide +kernel
theorem dX11_machineAt_15 : decode cX11_machineAt 15 = .ok (.if_icmp .ge 12, 3) := by decide +kernel
theorem dX11_machineAt_18 : decode cX11_machineAt 18 = .ok (.aload_n 0, 1) := by decide +kernel
theorem dX11_machineAt_19 : decode cX11_machineAt 19 = .ok (.getfield 11, 3) := by decide +kernel
theorem dX11_machineAt_22 : decode cX11_machineAt 22 = .ok (.iload_n 1, 1) := by decide +kernel
theorem dX11_machineAt_23 : decode cX11_machineAt 23 = .ok (.aaload, 1) := by decide +kernel
theorem dX11_machineAt_24 : decode cX11_machineAt 24 = .ok (.goto 4, 3) := by decide +kernel
theorem dX11_machineAt_27 : decode cX11_machineAt 27 = .ok (.aconst_null, 1) := by decide +kernel
theorem dX11_machineAt_28 : decode cX11_machineAt 28 = .ok (.areturn, 1) := by decide +kernel
set_option maxRecDepth 20000 in
theorem ggX11_tellWordTo_X9_lengthTo : GoodIn wsX11_tellWordTo wsX9_lengthTo := goodIn_r _ [7, 8, 9, 10, 6, 11, 12, 13, 14, 15, 16, 47] (by decide +kernel) (by decide +kernel)
set_option maxRecDepth 20000 in
theorem gX11_tellWordTo_X9_lengthTo : GoodIn wsX11_tellWordTo (wsV RX11 235 RX9 yX9_lengthTo wsX9_lengthTo) := goodIn_app (goodIn_of _ (by decide +kernel)) ggX11_tellWordTo_X9_lengthTo
set_option maxRecDepth 20000 in
theorem ggX11_tellWordTo_X9_giveWord : GoodIn wsX11_tellWordTo wsX9_giveWord := goodIn_r _ [20, 12, 21, 22, 23, 24, 25, 26, 27, 28, 29, 30, 13, 14, 15, 6, 16, 31, 32, 33, 34, 35, 8, 9, 10, 11, 47, 48, 49] (by decide +kernel) (by decide +kernel)
set_option maxRecDepth 20000 in
theorem gX11_tellWordTo_X9_giveWord : GoodIn wsX11_tellWordTo (wsV RX11 238 RX9 yX9_giveWord wsX9_giveWord) := goodIn_app (goodIn_of _ (by decide +kernel)) ggX11_tellWordTo_X9_giveWord
theorem dX11_tellWordTo_0 : decode cX11_tellWordTo 0 = .ok (.iload_n 1, 1) := by decide +kernel
theorem dX11_tellWordTo_1 : decode cX11_tellWordTo 1 = .ok (.ifCond .ne 5, 3) := by decide +kernel
theorem dX11_tellWordTo_4 : decode cX11_tellWordTo 4 = .ok (.iconst (-1), 1) := by decide +kernel
theorem dX11_tellWordTo_5 : decode cX11_tellWordTo 5 = .ok (.ireturn, 1) := by decide +kernel
theorem dX11_tellWordTo_6 : decode cX11_tellWordTo 6 = .ok (.aload_n 0, 1) := by decide +kernel
theorem dX11_tellWordTo_7 : decode cX11_tellWordTo 7 = .ok (.getfield 32, 3) := by decide +kernel
theorem dX11_tellWordTo_10 : decode cX11_tellWordTo 10 = .ok (.iload_n 1, 1) := by decide +kernel
theorem dX11_tellWordTo_11 : decode cX11_tellWordTo 11 = .ok (.invokevirtual 235, 3) := by decide +kernel
theorem dX11_tellWordTo_14 : decode cX11_tellWordTo 14 = .ok (.istore_n 2, 1) := by decide +kernel
theorem dX11_tellWordTo_15 : decode cX11_tellWordTo 15 = .ok (.iload_n 2, 1) := by decide +kernel
theorem dX11_tellWordTo_16 : decode cX11_tellWordTo 16 = .ok (.sipush 600, 3) := by decide +kernel
theorem dX11_tellWordTo_19 : decode cX11_tellWordTo 19 = .ok (.if_icmp .gt 16, 3) := by decide +kernel
theorem dX11_tellWordTo_22 : decode cX11_tellWordTo 22 = .ok (.aload_n 0, 1) := by decide +kernel
theorem dX11_tellWordTo_23 : decode cX11_tellWordTo 23 = .ok (.getfield 32, 3) := by decide +kernel
theorem dX11_tellWordTo_26 : decode cX11_tellWordTo 26 = .ok (.iload_n 1, 1) := by decide +kernel
theorem dX11_tellWordTo_27 : decode cX11_tellWordTo 27 = .ok (.iload_n 2, 1) := by decide +kernel
theorem dX11_tellWordTo_28 : decode cX11_tellWordTo 28 = .ok (.aload_n 0, 1) := by decide +kernel
theorem dX11_tellWordTo_29 : decode cX11_tellWordTo 29 = .ok (.getfield 18, 3) := by decide +kernel
theorem dX11_tellWordTo_32 : decode cX11_tellWordTo 32 = .ok (.invokevirtual 238, 3) := by decide +kernel
theorem dX11_tellWordTo_35 : decode cX11_tellWordTo 35 = .ok (.iload_n 2, 1) := by decide +kernel
theorem dX11_tellWordTo_36 : decode cX11_tellWordTo 36 = .ok (.ireturn, 1) := by decide +kernel
theorem dX12_init_0 : decode cX12_init 0 = .ok (.aload_n 0, 1) := by decide +kernel
theorem dX12_init_1 : decode cX12_init 1 = .ok (.invokespecial 1, 3) := by decide +kernel
theorem dX12_init_4 : decode cX12_init 4 = .ok (.aload_n 0, 1) := by decide +kernel
theorem dX12_init_5 : decode cX12_init 5 = .ok (.bipush 6, 2) := by decide +kernel
theorem dX12_init_7 : decode cX12_init 7 = .ok (.newarray .int, 2) := by decide +kernel
theorem dX12_init_9 : decode cX12_init 9 = .ok (.putfield 7, 3) := by decide +kernel
theorem dX12_init_12 : decode cX12_init 12 = .ok (.aload_n 0, 1) := by decide +kernel
theorem dX12_init_13 : decode cX12_init 13 = .ok (.bipush 6, 2) := by decide +kernel
theorem dX12_init_15 : decode cX12_init 15 = .ok (.newarray .int, 2) := by decide +kernel
theorem dX12_init_17 : decode cX12_init 17 = .ok (.putfield 13, 3) := by decide +kernel
theorem dX12_init_20 : decode cX12_init 20 = .ok (.aload_n 0, 1) := by decide +kernel
theorem dX12_init_21 : decode cX12_init 21 = .ok (.sipush 288, 3) := by decide +kernel
theorem dX12_init_24 : decode cX12_init 24 = .ok (.newarray .int, 2) := by decide +kernel
theorem dX12_init_26 : decode cX12_init 26 = .ok (.putfield 16, 3) := by decide +kernel
theorem dX12_init_29 : decode cX12_init 29 = .ok (.aload_n 0, 1) := by decide +kernel
theorem dX12_init_30 : decode cX12_init 30 = .ok (.bipush 72, 2) := by decide +kernel
theorem dX12_init_32 : decode cX12_init 32 = .ok (.newarray .int, 2) := by decide +kernel
theorem dX12_init_34 : decode cX12_init 34 = .ok (.putfield 19, 3) := by decide +kernel
theorem dX12_init_37 : decode cX12_init 37 = .ok (.aload_n 0, 1) := by decide +kernel
theorem dX12_init_38 : decode cX12_init 38 = .ok (.bipush 24, 2) := by decide +kernel
theorem dX12_init_40 : decode cX12_init 40 = .ok (.newarray .int, 2) := by decide +kernel
theorem dX12_init_42 : decode cX12_init 42 = .ok (.putfield 22, 3) := by decide +kernel
theorem dX12_init_45 : decode cX12_init 45 = .ok (.aload_n 0, 1) := by decide +kernel
theorem dX12_init_46 : decode cX12_init 46 = .ok (.bipush 24, 2) := by decide +kernel
theorem dX12_init_48 : decode cX12_init 48 = .ok (.newarray .int, 2) := by decide +kernel
theorem dX12_init_50 : decode cX12_init 50 = .ok (.putfield 25, 3) := by decide +kernel
theorem dX12_init_53 : decode cX12_init 53 = .ok (.aload_n 0, 1) := by decide +kernel
theorem dX12_init_54 : decode cX12_init 54 = .ok (.sipush 600, 3) := by decide +kernel
theorem dX12_init_57 : decode cX12_init 57 = .ok (.newarray .int, 2) := by decide +kernel
theorem dX12_init_59 : decode cX12_init 59 = .ok (.putfield 28, 3) := by decide +kernel
theorem dX12_init_62 : decode cX12_init 62 = .ok (.aload_n 0, 1) := by decide +kernel
theorem dX12_init_63 : decode cX12_init 63 = .ok (.sipush 4096, 3) := by decide +kernel
theorem dX12_init_66 : decode cX12_init 66 = .ok (.newarray .int, 2) := by decide +kernel
theorem dX12_init_68 : decode cX12_init 68 = .ok (.putfield 31, 3) := by decide +kernel
theorem dX12_init_71 : decode cX12_init 71 = .ok (.aload_n 0, 1) := by decide +kernel
theorem dX12_init_72 : decode cX12_init 72 = .ok (.sipush 4096, 3) := by decide +kernel
theorem dX12_init_75 : decode cX12_init 75 = .ok (.newarray .int, 2) := by decide +kernel
theorem dX12_init_77 : decode cX12_init 77 = .ok (.putfield 34, 3) := by decide +kernel
theorem dX12_init_80 : decode cX12_init 80 = .ok (.aload_n 0, 1) := by decide +kernel
theorem dX12_init_81 : decode cX12_init 81 = .ok (.sipush 4096, 3) := by decide +kernel
theorem dX12_init_84 : decode cX12_init 84 = .ok (.newarray .int, 2) := by decide +kernel
theorem dX12_init_86 : decode cX12_init 86 = .ok (.putfield 37, 3) := by decide +kernel
theorem dX12_init_89 : decode cX12_init 89 = .ok (.aload_n 0, 1) := by decide +kernel
theorem dX12_init_90 : decode cX12_init 90 = .ok (.sipush 4096, 3) := by decide +kernel
theorem dX12_init_93 : decode cX12_init 93 = .ok (.newarray .boolean, 2) := by decide +kernel
theorem dX12_init_95 : decode cX12_init 95 = .ok (.putfield 40, 3) := by decide +kernel
theorem dX12_init_98 : decode cX12_init 98 = .ok (.aload_n 0, 1) := by decide +kernel
theorem dX12_init_99 : decode cX12_init 99 = .ok (.sipush 144, 3) := by decide +kernel
theorem dX12_init_102 : decode cX12_init 102 = .ok (.newarray .boolean, 2) := by decide +kernel
theorem dX12_init_104 : decode cX12_init 104 = .ok (.putfield 44, 3) := by decide +kernel
theorem dX12_init_107 : decode cX12_init 107 = .ok (.aload_n 0, 1) := by decide +kernel
theorem dX12_init_108 : decode cX12_init 108 = .ok (.sipush 600, 3) := by decide +kernel
theorem dX12_init_111 : decode cX12_init 111 = .ok (.newarray .int, 2) := by decide +kernel
theorem dX12_init_113 : decode cX12_init 113 = .ok (.putfield 47, 3) := by decide +kernel
theorem dX12_init_116 : decode cX12_init 116 = .ok (.aload_n 0, 1) := by decide +kernel
theorem dX12_init_117 : decode cX12_init 117 = .ok (.bipush 100, 2) := by decide +kernel
theorem dX12_init_119 : decode cX12_init 119 = .ok (.newarray .int, 2) := by decide +kernel
theorem dX12_init_121 : decode cX12_init 121 = .ok (.putfield 50, 3) := by decide +kernel
theorem dX12_init_124 : decode cX12_init 124 = .ok (.aload_n 0, 1) := by decide +kernel
theorem dX12_init_125 : decode cX12_init 125 = .ok (.bipush 100, 2) := by decide +kernel
theorem dX12_init_127 : decode cX12_init 127 = .ok (.newarray .int, 2) := by decide +kernel
theorem dX12_init_129 : decode cX12_init 129 = .ok (.putfield 53, 3) := by decide +kernel
theorem dX12_init_132 : decode cX12_init 132 = .ok (.aload_n 0, 1) := by decide +kernel
theorem dX12_init_133 : decode cX12_init 133 = .ok (.sipush 4096, 3) := by decide +kernel
theorem dX12_init_136 : decode cX12_init 136 = .ok (.newarray .int, 2) := by decide +kernel
theorem dX12_init_138 : decode cX12_init 138 = .ok (.putfield 56, 3) := by decide +kernel
theorem dX12_init_141 : decode cX12_init 141 = .ok (.aload_n 0, 1) := by decide +kernel
theorem dX12_init_142 : decode cX12_init 142 = .ok (.sipush 4096, 3) := by decide +kernel
theorem dX12_init_145 : decode cX12_init 145 = .ok (.newarray .boolean, 2) := by decide +kernel
theorem dX12_init_147 : decode cX12_init 147 = .ok (.putfield 59, 3) := by decide +kernel
theorem dX12_init_150 : decode cX12_init 150 = .ok (.aload_n 0, 1) := by decide +kernel
theorem dX12_init_151 : decode cX12_init 151 = .ok (.sipush 17000, 3) := by decide +kernel
theorem dX12_init_154 : decode cX12_init 154 = .ok (.newarray .int, 2) := by decide +kernel
theorem dX12_init_156 : decode cX12_init 156 = .ok (.putfield 62, 3) := by decide +kernel
theorem dX12_init_159 : decode cX12_init 159 = .ok (.aload_n 0, 1) := by decide +kernel
theorem dX12_init_160 : decode cX12_init 160 = .ok (.sipush 17000, 3) := by decide +kernel
theorem dX12_init_163 : decode cX12_init 163 = .ok (.newarray .int, 2) := by decide +kernel
theorem dX12_init_165 : decode cX12_init 165 = .ok (.putfield 65, 3) := by decide +kernel
theorem dX12_init_168 : decode cX12_init 168 = .ok (.aload_n 0, 1) := by decide +kernel
theorem dX12_init_169 : decode cX12_init 169 = .ok (.sipush 4096, 3) := by decide +kernel
theorem dX12_init_172 : decode cX12_init 172 = .ok (.newarray .long, 2) := by decide +kernel
theorem dX12_init_174 : decode cX12_init 174 = .ok (.putfield 68, 3) := by decide +kernel
theorem dX12_init_177 : decode cX12_init 177 = .ok (.aload_n 0, 1) := by decide +kernel
theorem dX12_init_178 : decode cX12_init 178 = .ok (.sipush 4096, 3) := by decide +kernel
theorem dX12_init_181 : decode cX12_init 181 = .ok (.newarray .long, 2) := by decide +kernel
theorem dX12_init_183 : decode cX12_init 183 = .ok (.putfield 72, 3) := by decide +kernel
theorem dX12_init_186 : decode cX12_init 186 = .ok (.aload_n 0, 1) := by decide +kernel
theorem dX12_init_187 : decode cX12_init 187 = .ok (.bipush 12, 2) := by decide +kernel
theorem dX12_init_189 : decode cX12_init 189 = .ok (.newarray .int, 2) := by decide +kernel
theorem dX12_init_191 : decode cX12_init 191 = .ok (.putfield 75, 3) := by decide +kernel
theorem dX12_init_194 : decode cX12_init 194 = .ok (.aload_n 0, 1) := by decide +kernel
theorem dX12_init_195 : decode cX12_init 195 = .ok (.bipush 48, 2) := by decide +kernel
theorem dX12_init_197 : decode cX12_init 197 = .ok (.newarray .int, 2) := by decide +kernel
theorem dX12_init_199 : decode cX12_init 199 = .ok (.putfield 78, 3) := by decide +kernel
theorem dX12_init_202 : decode cX12_init 202 = .ok (.aload_n 0, 1) := by decide +kernel
theorem dX12_init_203 : decode cX12_init 203 = .ok (.iconst 4, 1) := by decide +kernel
theorem dX12_init_204 : decode cX12_init 204 = .ok (.newarray .int, 2) := by decide +kernel
theorem dX12_init_206 : decode cX12_init 206 = .ok (.putfield 81, 3) := by decide +kernel
theorem dX12_init_209 : decode cX12_init 209 = .ok (.aload_n 0, 1) := by decide +kernel
theorem dX12_init_210 : decode cX12_init 210 = .ok (.sipush 144, 3) := by decide +kernel
theorem dX12_init_213 : decode cX12_init 213 = .ok (.newarray .int, 2) := by decide +kernel
theorem dX12_init_215 : decode cX12_init 215 = .ok (.putfield 84, 3) := by decide +kernel
theorem dX12_init_218 : decode cX12_init 218 = .ok (.aload_n 0, 1) := by decide +kernel
theorem dX12_init_219 : decode cX12_init 219 = .ok (.sipush 144, 3) := by decide +kernel
theorem dX12_init_222 : decode cX12_init 222 = .ok (.newarray .int, 2) := by decide +kernel
theorem dX12_init_224 : decode cX12_init 224 = .ok (.putfield 87, 3) := by decide +kernel
theorem dX12_init_227 : decode cX12_init 227 = .ok (.return_, 1) := by decide +kernel
theorem dX12_in_0 : decode cX12_in 0 = .ok (.iload_n 0, 1) := by decide +kernel
theorem dX12_in_1 : decode cX12_in 1 = .ok (.iload_n 1, 1) := by decide +kernel
theorem dX12_in_2 : decode cX12_in 2 = .ok (.if_icmp .lt 12, 3) := by decide +kernel
theorem dX12_in_5 : decode cX12_in 5 = .ok (.iload_n 0, 1) := by decide +kernel
theorem dX12_in_6 : decode cX12_in 6 = .ok (.iload_n 2, 1) := by decide +kernel
theorem dX12_in_7 : decode cX12_in 7 = .ok (.if_icmp .gt 7, 3) := by decide +kernel
theorem dX12_in_10 : decode cX12_in 10 = .ok (.iconst 1, 1) := by decide +kernel
theorem dX12_in_11 : decode cX12_in 11 = .ok (.goto 4, 3) := by decide +kernel
theorem dX12_in_14 : decode cX12_in 14 = .ok (.iconst 0, 1) := by decide +kernel
theorem dX12_in_15 : decode cX12_in 15 = .ok (.ireturn, 1) := by decide +kernel
theorem dX12_begins_0 : decode cX12_begins 0 = .ok (.aload_n 0, 1) := by decide +kernel
theorem dX12_begins_1 : decode cX12_begins 1 = .ok (.getfield 90, 3) := by decide +kernel
theorem dX12_begins_4 : decode cX12_begins 4 = .ok (.bipush 6, 2) := by decide +kernel
theorem dX12_begins_6 : decode cX12_begins 6 = .ok (.if_icmp .ne 6, 3) := by decide +kernel
theorem dX12_begins_9 : decode cX12_begins 9 = .ok (.bipush (-4), 2) := by decide +kernel
theorem dX12_begins_11 : decode cX12_begins 11 = .ok (.ireturn, 1) := by decide +kernel
theorem dX12_begins_12 : decode cX12_begins 12 = .ok (.aload_n 0, 1) := by decide +kernel
theorem dX12_begins_13 : decode cX12_begins 13 = .ok (.getfield 90, 3) := by decide +kernel
theorem dX12_begins_16 : decode cX12_begins 16 = .ok (.istore_n 3, 1) := by decide +kernel
theorem dX12_begins_17 : decode cX12_begins 17 = .ok (.aload_n 0, 1) := by decide +kernel
theorem dX12_begins_18 : decode cX12_begins 18 = .ok (.getfield 7, 3) := by decide +kernel
theorem dX12_begins_21 : decode cX12_begins 21 = .ok (.iload_n 3, 1) := by decide +kernel
theorem dX12_begins_22 : decode cX12_begins 22 = .ok (.iload_n 1, 1) := by decide +kernel
theorem dX12_begins_23 : decode cX12_begins 23 = .ok (.iastore, 1) := by decide +kernel
theorem dX12_begins_24 : decode cX12_begins 24 = .ok (.aload_n 0, 1) := by decide +kernel
theorem dX12_begins_25 : decode cX12_begins 25 = .ok (.getfield 13, 3) := by decide +kernel
theorem dX12_begins_28 : decode cX12_begins 28 = .ok (.iload_n 3, 1) := by decide +kernel
theorem dX12_begins_29 : decode cX12_begins 29 = .ok (.iload_n 2, 1) := by decide +kernel
theorem dX12_begins_30 : decode cX12_begins 30 = .ok (.iastore, 1) := by decide +kernel
theorem dX12_begins_31 : decode cX12_begins 31 = .ok (.iconst 0, 1) := by decide +kernel
theorem dX12_begins_32 : decode cX12_begins 32 = .ok (.istore 4, 2) := by decide +kernel
theorem dX12_begins_34 : decode cX12_begins 34 = .ok (.iload 4, 2) := by decide +kernel
theorem dX12_begins_36 : decode cX12_begins 36 = .ok (.bipush 48, 2) := by decide +kernel
theorem dX12_begins_38 : decode cX12_begins 38 = .ok (.if_icmp .ge 22, 3) := by decide +kernel
theorem dX12_begins_41 : decode cX12_begins 41 = .ok (.aload_n 0, 1) := by decide +kernel
theorem dX12_begins_42 : decode cX12_begins 42 = .ok (.getfield 16, 3) := by decide +kernel
theorem dX12_begins_45 : decode cX12_begins 45 = .ok (.bipush 48, 2) := by decide +kernel
theorem dX12_begins_47 : decode cX12_begins 47 = .ok (.iload_n 3, 1) := by decide +kernel
theorem dX12_begins_48 : decode cX12_begins 48 = .ok (.imul, 1) := by decide +kernel
theorem dX12_begins_49 : decode cX12_begins 49 = .ok (.iload 4, 2) := by decide +kernel
theorem dX12_begins_51 : decode cX12_begins 51 = .ok (.iadd, 1) := by decide +kernel
theorem dX12_begins_52 : decode cX12_begins 52 = .ok (.iconst (-1), 1) := by decide +kernel
theorem dX12_begins_53 : decode cX12_begins 53 = .ok (.iastore, 1) := by decide +kernel
theorem dX12_begins_54 : decode cX12_begins 54 = .ok (.iinc 4 1, 3) := by decide +kernel
theorem dX12_begins_57 : decode cX12_begins 57 = .ok (.goto (-23), 3) := by decide +kernel
theorem dX12_begins_60 : decode cX12_begins 60 = .ok (.iconst 0, 1) := by decide +kernel
theorem dX12_begins_61 : decode cX12_begins 61 = .ok (.istore 4, 2) := by decide +kernel
theorem dX12_begins_63 : decode cX12_begins 63 = .ok (.iload 4, 2) := by decide +kernel
theorem dX12_begins_65 : decode cX12_begins 65 = .ok (.bipush 12, 2) := by decide +kernel
theorem dX12_begins_67 : decode cX12_begins 67 = .ok (.if_icmp .ge 22, 3) := by decide +kernel
theorem dX12_begins_70 : decode cX12_begins 70 = .ok (.aload_n 0, 1) := by decide +kernel
theorem dX12_begins_71 : decode cX12_begins 71 = .ok (.getfield 19, 3) := by decide +kernel
theorem dX12_begins_74 : decode cX12_begins 74 = .ok (.bipush 12, 2) := by decide +kernel
theorem dX12_begins_76 : decode cX12_begins 76 = .ok (.iload_n 3, 1) := by decide +kernel
theorem dX12_begins_77 : decode cX12_begins 77 = .ok (.imul, 1) := by decide +kernel
theorem dX12_begins_78 : decode cX12_begins 78 = .ok (.iload 4, 2) := by decide +kernel
theorem dX12_begins_80 : decode cX12_begins 80 = .ok (.iadd, 1) := by decide +kernel
theorem dX12_begins_81 : decode cX12_begins 81 = .ok (.iconst 0, 1) := by decide +kernel
theorem dX12_begins_82 : decode cX12_begins 82 = .ok (.iastore, 1) := by decide +kernel
theorem dX12_begins_83 : decode cX12_begins 83 = .ok (.iinc 4 1, 3) := by decide +kernel
theorem dX12_begins_86 : decode cX12_begins 86 = .ok (.goto (-23), 3) := by decide +kernel
theorem dX12_begins_89 : decode cX12_begins 89 = .ok (.iconst 0, 1) := by decide +kernel
theorem dX12_begins_90 : decode cX12_begins 90 = .ok (.istore 4, 2) := by decide +kernel
theorem dX12_begins_92 : decode cX12_begins 92 = .ok (.iload 4, 2) := by decide +kernel
theorem dX12_begins_94 : decode cX12_begins 94 = .ok (.iconst 4, 1) := by decide +kernel
theorem dX12_begins_95 : decode cX12_begins 95 = .ok (.if_icmp .ge 33, 3) := by decide +kernel
theorem dX12_begins_98 : decode cX12_begins 98 = .ok (.aload_n 0, 1) := by decide +kernel
theorem dX12_begins_99 : decode cX12_begins 99 = .ok (.getfield 22, 3) := by decide +kernel
theorem dX12_begins_102 : decode cX12_begins 102 = .ok (.iconst 4, 1) := by decide +kernel
theorem dX12_begins_103 : decode cX12_begins 103 = .ok (.iload_n 3, 1) := by decide +kernel
theorem dX12_begins_104 : decode cX12_begins 104 = .ok (.imul, 1) := by decide +kernel
theorem dX12_begins_105 : decode cX12_begins 105 = .ok (.iload 4, 2) := by decide +kernel
theorem dX12_begins_107 : decode cX12_begins 107 = .ok (.iadd, 1) := by decide +kernel
theorem dX12_begins_108 : decode cX12_begins 108 = .ok (.iconst 1, 1) := by decide +kernel
theorem dX12_begins_109 : decode cX12_begins 109 = .ok (.iastore, 1) := by decide +kernel
theorem dX12_begins_110 : decode cX12_begins 110 = .ok (.aload_n 0, 1) := by decide +kernel
theorem dX12_begins_111 : decode cX12_begins 111 = .ok (.getfield 25, 3) := by decide +kernel
theorem dX12_begins_114 : decode cX12_begins 114 = .ok (.iconst 4, 1) := by decide +kernel
theorem dX12_begins_115 : decode cX12_begins 115 = .ok (.iload_n 3, 1) := by decide +kernel
theorem dX12_begins_116 : decode cX12_begins 116 = .ok (.imul, 1) := by decide +kernel
theorem dX12_begins_117 : decode cX12_begins 117 = .ok (.iload 4, 2) := by decide +kernel
theorem dX12_begins_119 : decode cX12_begins 119 = .ok (.iadd, 1) := by decide +kernel
theorem dX12_begins_120 : decode cX12_begins 120 = .ok (.iconst 1, 1) := by decide +kernel
theorem dX12_begins_121 : decode cX12_begins 121 = .ok (.iastore, 1) := by decide +kernel
theorem dX12_begins_122 : decode cX12_begins 122 = .ok (.iinc 4 1, 3) := by decide +kernel
theorem dX12_begins_125 : decode cX12_begins 125 = .ok (.goto (-33), 3) := by decide +kernel
theorem dX12_begins_128 : decode cX12_begins 128 = .ok (.aload_n 0, 1) := by decide +kernel
theorem dX12_begins_129 : decode cX12_begins 129 = .ok (.dup, 1) := by decide +kernel
theorem dX12_begins_130 : decode cX12_begins 130 = .ok (.getfield 90, 3) := by decide +kernel
theorem dX12_begins_133 : decode cX12_begins 133 = .ok (.iconst 1, 1) := by decide +kernel
theorem dX12_begins_134 : decode cX12_begins 134 = .ok (.iadd, 1) := by decide +kernel
theorem dX12_begins_135 : decode cX12_begins 135 = .ok (.putfield 90, 3) := by decide +kernel
theorem dX12_begins_138 : decode cX12_begins 138 = .ok (.iload_n 3, 1) := by decide +kernel
theorem dX12_begins_139 : decode cX12_begins 139 = .ok (.ireturn, 1) := by decide +kernel
set_option maxRecDepth 20000 in
theorem ggX12_machine_X12_in : GoodIn wsX12_machine wsX12_in := goodIn_r _ [4] (by decide +kernel) (by decide +kernel)
set_option maxRecDepth 20000 in
theorem gX12_machine_X12_in : GoodIn wsX12_machine (va_wsS RX12 94 yX12_in wsX12_in) := goodIn_app (goodIn_of _ (by decide +kernel)) ggX12_machine_X12_in
set_option maxRecDepth 20000 in
theorem ggX12_machine_X12_begins : GoodIn wsX12_machine wsX12_begins := goodIn_r _ [8, 9, 10, 11, 12, 13, 14, 15, 16, 17, 18, 19, 20, 21, 22, 23, 24, 25, 26, 27, 28, 29, 30, 31, 32, 33, 34, 35, 36, 37, 38, 39, 40, 41, 42, 43, 44, 45] (by decide +kernel) (by decide +kernel)
set_option maxRecDepth 20000 in
theorem gX12_machine_X12_begins : GoodIn wsX12_machine (wsV RX12 98 RX12 yX12_begins wsX12_begins) := goodIn_app (goodIn_of _ (by decide +kernel)) ggX12_machine_X12_begins
theorem dX12_machine_0 : decode cX12_machine 0 = .ok (.iload_n 1, 1) := by decide +kernel
theorem dX12_machine_1 : decode cX12_machine 1 = .ok (.iconst 1, 1) := by decide +kernel
theorem dX12_machine_2 : decode cX12_machine 2 = .ok (.bipush 12, 2) := by decide +kernel
theorem dX12_machine_4 : decode cX12_machine 4 = .ok (.invokestatic 94, 3) := by decide +kernel
theorem dX12_machine_7 : decode cX12_machine 7 = .ok (.ifCond .eq 12, 3) := by decide +kernel
theorem dX12_machine_10 : decode cX12_machine 10 = .ok (.iload_n 2, 1) := by decide +kernel
theorem dX12_machine_11 : decode cX12_machine 11 = .ok (.iconst 1, 1) := by decide +kernel
theorem dX12_machine_12 : decode cX12_machine 12 = .ok (.iconst 4, 1) := by decide +kernel
theorem dX12_machine_13 : decode cX12_machine 13 = .ok (.invokestatic 94, 3) := by decide +kernel
theorem dX12_machine_16 : decode cX12_machine 16 = .ok (.ifCond .ne 8, 3) := by decide +kernel
theorem dX12_machine_19 : decode cX12_machine 19 = .ok (.bipush (-2), 2) := by decide +kernel
theorem dX12_machine_21 : decode cX12_machine 21 = .ok (.goto 9, 3) := by decide +kernel
theorem dX12_machine_24 : decode cX12_machine 24 = .ok (.aload_n 0, 1) := by decide +kernel
theorem dX12_machine_25 : decode cX12_machine 25 = .ok (.iload_n 1, 1) := by decide +kernel
theorem dX12_machine_26 : decode cX12_machine 26 = .ok (.iload_n 2, 1) := by decide +kernel
theorem dX12_machine_27 : decode cX12_machine 27 = .ok (.invokevirtual 98, 3) := by decide +kernel
theorem dX12_machine_30 : decode cX12_machine 30 = .ok (.ireturn, 1) := by decide +kernel
theorem dX12_at_0 : decode cX12_at 0 = .ok (.bipush 48, 2) := by decide +kernel
theorem dX12_at_2 : decode cX12_at 2 = .ok (.iload_n 0, 1) := by decide +kernel
theorem dX12_at_3 : decode cX12_at 3 = .ok (.imul, 1) := by decide +kernel
theorem dX12_at_4 : decode cX12_at 4 = .ok (.iconst 4, 1) := by decide +kernel
theorem dX12_at_5 : decode cX12_at 5 = .ok (.iload_n 1, 1) := by decide +kernel
theorem dX12_at_6 : decode cX12_at 6 = .ok (.imul, 1) := by decide +kernel
theorem dX12_at_7 : decode cX12_at 7 = .ok (.iadd, 1) := by decide +kernel
theorem dX12_at_8 : decode cX12_at 8 = .ok (.iload_n 2, 1) := by decide +kernel
theorem dX12_at_9 : decode cX12_at 9 = .ok (.iadd, 1) := by decide +kernel
theorem dX12_at_10 : decode cX12_at 10 = .ok (.ireturn, 1) := by decide +kernel
set_option maxRecDepth 20000 in
theorem ggX12_ring_X12_in : GoodIn wsX12_ring wsX12_in := goodIn_r _ [5] (by decide +kernel) (by decide +kernel)
set_option maxRecDepth 20000 in
theorem gX12_ring_X12_in : GoodIn wsX12_ring (va_wsS RX12 94 yX12_in wsX12_in) := goodIn_app (goodIn_of _ (by decide +kernel)) ggX12_ring_X12_in
set_option maxRecDepth 20000 in
theorem ggX12_ring_X12_begins : GoodIn wsX12_ring wsX12_begins := goodIn_r _ [9, 10, 11, 12, 1, 13, 14, 15, 19, 20, 21, 22, 23, 24, 25, 26, 27, 28, 29, 30, 31, 32, 33, 34, 35, 36, 37, 38, 39, 40, 41, 42, 43, 44, 45, 46, 47, 48] (by decide +kernel) (by decide +kernel)
set_option maxRecDepth 20000 in
theorem gX12_ring_X12_begins : GoodIn wsX12_ring (wsV RX12 98 RX12 yX12_begins wsX12_begins) := goodIn_app (goodIn_of _ (by decide +kernel)) ggX12_ring_X12_begins
set_option maxRecDepth 20000 in
theorem ggX12_ring_X12_at : GoodIn wsX12_ring wsX12_at := goodIn_r _ [18] (by decide +kernel) (by decide +kernel)
set_option maxRecDepth 20000 in
theorem gX12_ring_X12_at : GoodIn wsX12_ring (va_wsS RX12 102 yX12_at wsX12_at) := goodIn_app (goodIn_of _ (by decide +kernel)) ggX12_ring_X12_at
theorem dX12_ring_0 : decode cX12_ring 0 = .ok (.iload_n 1, 1) := by decide +kernel
theorem dX12_ring_1 : decode cX12_ring 1 = .ok (.iconst 2, 1) := by decide +kernel
theorem dX12_ring_2 : decode cX12_ring 2 = .ok (.bipush 12, 2) := by decide +kernel
theorem dX12_ring_4 : decode cX12_ring 4 = .ok (.invokestatic 94, 3) := by decide +kernel
theorem dX12_ring_7 : decode cX12_ring 7 = .ok (.ifCond .ne 6, 3) := by decide +kernel
theorem dX12_ring_10 : decode cX12_ring 10 = .ok (.bipush (-2), 2) := by decide +kernel
theorem dX12_ring_12 : decode cX12_ring 12 = .ok (.ireturn, 1) := by decide +kernel
theorem dX12_ring_13 : decode cX12_ring 13 = .ok (.aload_n 0, 1) := by decide +kernel
theorem dX12_ring_14 : decode cX12_ring 14 = .ok (.iload_n 1, 1) := by decide +kernel
theorem dX12_ring_15 : decode cX12_ring 15 = .ok (.iconst 2, 1) := by decide +kernel
theorem dX12_ring_16 : decode cX12_ring 16 = .ok (.invokevirtual 98, 3) := by decide +kernel
theorem dX12_ring_19 : decode cX12_ring 19 = .ok (.istore_n 2, 1) := by decide +kernel
theorem dX12_ring_20 : decode cX12_ring 20 = .ok (.iconst 0, 1) := by decide +kernel
theorem dX12_ring_21 : decode cX12_ring 21 = .ok (.istore_n 3, 1) := by decide +kernel
theorem dX12_ring_22 : decode cX12_ring 22 = .ok (.iload_n 3, 1) := by decide +kernel
theorem dX12_ring_23 : decode cX12_ring 23 = .ok (.iload_n 1, 1) := by decide +kernel
theorem dX12_ring_24 : decode cX12_ring 24 = .ok (.if_icmp .ge 52, 3) := by decide +kernel
theorem dX12_ring_27 : decode cX12_ring 27 = .ok (.iload_n 2, 1) := by decide +kernel
theorem dX12_ring_28 : decode cX12_ring 28 = .ok (.ifCond .lt 48, 3) := by decide +kernel
theorem dX12_ring_31 : decode cX12_ring 31 = .ok (.aload_n 0, 1) := by decide +kernel
theorem dX12_ring_32 : decode cX12_ring 32 = .ok (.getfield 16, 3) := by decide +kernel
theorem dX12_ring_35 : decode cX12_ring 35 = .ok (.iload_n 2, 1) := by decide +kernel
theorem dX12_ring_36 : decode cX12_ring 36 = .ok (.iload_n 3, 1) := by decide +kernel
theorem dX12_ring_37 : decode cX12_ring 37 = .ok (.iconst 0, 1) := by decide +kernel
theorem dX12_ring_38 : decode cX12_ring 38 = .ok (.invokestatic 102, 3) := by decide +kernel
theorem dX12_ring_41 : decode cX12_ring 41 = .ok (.iload_n 3, 1) := by decide +kernel
theorem dX12_ring_42 : decode cX12_ring 42 = .ok (.iconst 1, 1) := by decide +kernel
theorem dX12_ring_43 : decode cX12_ring 43 = .ok (.iadd, 1) := by decide +kernel
theorem dX12_ring_44 : decode cX12_ring 44 = .ok (.iload_n 1, 1) := by decide +kernel
theorem dX12_ring_45 : decode cX12_ring 45 = .ok (.irem, 1) := by decide +kernel
theorem dX12_ring_46 : decode cX12_ring 46 = .ok (.iastore, 1) := by decide +kernel
theorem dX12_ring_47 : decode cX12_ring 47 = .ok (.aload_n 0, 1) := by decide +kernel
theorem dX12_ring_48 : decode cX12_ring 48 = .ok (.getfield 16, 3) := by decide +kernel
theorem dX12_ring_51 : decode cX12_ring 51 = .ok (.iload_n 2, 1) := by decide +kernel
theorem dX12_ring_52 : decode cX12_ring 52 = .ok (.iload_n 3, 1) := by decide +kernel
theorem dX12_ring_53 : decode cX12_ring 53 = .ok (.iconst 1, 1) := by decide +kernel
theorem dX12_ring_54 : decode cX12_ring 54 = .ok (.invokestatic 102, 3) := by decide +kernel
theorem dX12_ring_57 : decode cX12_ring 57 = .ok (.iload_n 3, 1) := by decide +kernel
theorem dX12_ring_58 : decode cX12_ring 58 = .ok (.iload_n 1, 1) := by decide +kernel
theorem dX12_ring_59 : decode cX12_ring 59 = .ok (.iconst 1, 1) := by decide +kernel
theorem dX12_ring_60 : decode cX12_ring 60 = .ok (.isub, 1) := by decide +kernel
theorem dX12_ring_61 : decode cX12_ring 61 = .ok (.if_icmp .ne 7, 3) := by decide +kernel
theorem dX12_ring_64 : decode cX12_ring 64 = .ok (.iconst 0, 1) := by decide +kernel
theorem dX12_ring_65 : decode cX12_ring 65 = .ok (.goto 4, 3) := by decide +kernel
theorem dX12_ring_68 : decode cX12_ring 68 = .ok (.iload_n 3, 1) := by decide +kernel
theorem dX12_ring_69 : decode cX12_ring 69 = .ok (.iastore, 1) := by decide +kernel
theorem dX12_ring_70 : decode cX12_ring 70 = .ok (.iinc 3 1, 3) := by decide +kernel
theorem dX12_ring_73 : decode cX12_ring 73 = .ok (.goto (-51), 3) := by decide +kernel
theorem dX12_ring_76 : decode cX12_ring 76 = .ok (.iload_n 2, 1) := by decide +kernel
theorem dX12_ring_77 : decode cX12_ring 77 = .ok (.ireturn, 1) := by decide +kernel
set_option maxRecDepth 20000 in
theorem ggX12_isMachine_X12_in : GoodIn wsX12_isMachine wsX12_in := goodIn_r _ [5] (by decide +kernel) (by decide +kernel)
set_option maxRecDepth 20000 in
theorem gX12_isMachine_X12_in : GoodIn wsX12_isMachine (va_wsS RX12 94 yX12_in wsX12_in) := goodIn_app (goodIn_of _ (by decide +kernel)) ggX12_isMachine_X12_in
theorem dX12_isMachine_0 : decode cX12_isMachine 0 = .ok (.iload_n 1, 1) := by decide +kernel
theorem dX12_isMachine_1 : decode cX12_isMachine 1 = .ok (.iconst 0, 1) := by decide +kernel
theorem dX12_isMachine_2 : decode cX12_isMachine 2 = .ok (.aload_n 0, 1) := by decide +kernel
theorem dX12_isMachine_3 : decode cX12_isMachine 3 = .ok (.getfield 90, 3) := by decide +kernel
theorem dX12_isMachine_6 : decode cX12_isMachine 6 = .ok (.iconst 1, 1) := by decide +kernel
theorem dX12_isMachine_7 : decode cX12_isMachine 7 = .ok (.isub, 1) := by decide +kernel
theorem dX12_isMachine_8 : decode cX12_isMachine 8 = .ok (.invokestatic 94, 3) := by decide +kernel
theorem dX12_isMachine_11 : decode cX12_isMachine 11 = .ok (.ireturn, 1) := by decide +kernel
set_option maxRecDepth 20000 in
theorem ggX12_isState_X12_isMachine : GoodIn wsX12_isState wsX12_isMachine := goodIn_r _ [6, 7, 8, 9, 5, 10, 11, 12, 13, 14, 15, 16, 17, 18, 19, 20, 21, 22, 23, 24, 25, 26, 27, 28, 29, 30, 31, 32, 33, 34, 35, 36, 37, 38, 39, 40] (by decide +kernel) (by decide +kernel)
set_option maxRecDepth 20000 in
theorem gX12_isState_X12_isMachine : GoodIn wsX12_isState (wsV RX12 106 RX12 yX12_isMachine wsX12_isMachine) := goodIn_app (goodIn_of _ (by decide +kernel)) ggX12_isState_X12_isMachine
set_option maxRecDepth 20000 in
theorem ggX12_isState_X12_in : GoodIn wsX12_isState wsX12_in := goodIn_r _ [10] (by decide +kernel) (by decide +kernel)
set_option maxRecDepth 20000 in
theorem gX12_isState_X12_in : GoodIn wsX12_isState (va_wsS RX12 94 yX12_in wsX12_in) := goodIn_app (goodIn_of _ (by decide +kernel)) ggX12_isState_X12_in
theorem dX12_isState_0 : decode cX12_isState 0 = .ok (.aload_n 0, 1) := by decide +kernel
theorem dX12_isState_1 : decode cX12_isState 1 = .ok (.iload_n 1, 1) := by decide +kernel
theorem dX12_isState_2 : decode cX12_isState 2 = .ok (.invokevirtual 106, 3) := by decide +kernel
theorem dX12_isState_5 : decode cX12_isState 5 = .ok (.ifCond .eq 23, 3) := by decide +kernel
theorem dX12_isState_8 : decode cX12_isState 8 = .ok (.iload_n 2, 1) := by decide +kernel
theorem dX12_isState_9 : decode cX12_isState 9 = .ok (.iconst 0, 1) := by decide +kernel
theorem dX12_isState_10 : decode cX12_isState 10 = .ok (.aload_n 0, 1) := by decide +kernel
theorem dX12_isState_11 : decode cX12_isState 11 = .ok (.getfield 7, 3) := by decide +kernel
theorem dX12_isState_14 : decode cX12_isState 14 = .ok (.iload_n 1, 1) := by decide +kernel
theorem dX12_isState_15 : decode cX12_isState 15 = .ok (.iaload, 1) := by decide +kernel
theorem dX12_isState_16 : decode cX12_isState 16 = .ok (.iconst 1, 1) := by decide +kernel
theorem dX12_isState_17 : decode cX12_isState 17 = .ok (.isub, 1) := by decide +kernel
theorem dX12_isState_18 : decode cX12_isState 18 = .ok (.invokestatic 94, 3) := by decide +kernel
theorem dX12_isState_21 : decode cX12_isState 21 = .ok (.ifCond .eq 7, 3) := by decide +kernel
theorem dX12_isState_24 : decode cX12_isState 24 = .ok (.iconst 1, 1) := by decide +kernel
theorem dX12_isState_25 : decode cX12_isState 25 = .ok (.goto 4, 3) := by decide +kernel
theorem dX12_isState_28 : decode cX12_isState 28 = .ok (.iconst 0, 1) := by decide +kernel
theorem dX12_isState_29 : decode cX12_isState 29 = .ok (.ireturn, 1) := by decide +kernel
set_option maxRecDepth 20000 in
theorem ggX12_isLetter_X12_isMachine : GoodIn wsX12_isLetter wsX12_isMachine := goodIn_r _ [6, 7, 8, 9, 5, 10, 11, 12, 13, 14, 15, 16, 17, 18, 19, 20, 21, 22, 23, 24, 25, 26, 27, 28, 29, 30, 31, 32, 33, 34, 35, 36, 37, 38, 39, 40] (by decide +kernel) (by decide +kernel)
set_option maxRecDepth 20000 in
theorem gX12_isLetter_X12_isMachine : GoodIn wsX12_isLetter (wsV RX12 106 RX12 yX12_isMachine wsX12_isMachine) := goodIn_app (goodIn_of _ (by decide +kernel)) ggX12_isLetter_X12_isMachine
set_option maxRecDepth 20000 in
theorem ggX12_isLetter_X12_in : GoodIn wsX12_isLetter wsX12_in := goodIn_r _ [10] (by decide +kernel) (by decide +kernel)
set_option maxRecDepth 20000 in
theorem gX12_isLetter_X12_in : GoodIn wsX12_isLetter (va_wsS RX12 94 yX12_in wsX12_in) := goodIn_app (goodIn_of _ (by decide +kernel)) ggX12_isLetter_X12_in
theorem dX12_isLetter_0 : decode cX12_isLetter 0 = .ok (.aload_n 0, 1) := by decide +kernel
theorem dX12_isLetter_1 : decode cX12_isLetter 1 = .ok (.iload_n 1, 1) := by decide +kernel
theorem dX12_isLetter_2 : decode cX12_isLetter 2 = .ok (.invokevirtual 106, 3) := by decide +kernel
theorem dX12_isLetter_5 : decode cX12_isLetter 5 = .ok (.ifCond .eq 23, 3) := by decide +kernel
theorem dX12_isLetter_8 : decode cX12_isLetter 8 = .ok (.iload_n 2, 1) := by decide +kernel
theorem dX12_isLetter_9 : decode cX12_isLetter 9 = .ok (.iconst 0, 1) := by decide +kernel
theorem dX12_isLetter_10 : decode cX12_isLetter 10 = .ok (.aload_n 0, 1) := by decide +kernel
theorem dX12_isLetter_11 : decode cX12_isLetter 11 = .ok (.getfield 13, 3) := by decide +kernel
theorem dX12_isLetter_14 : decode cX12_isLetter 14 = .ok (.iload_n 1, 1) := by decide +kernel
theorem dX12_isLetter_15 : decode cX12_isLetter 15 = .ok (.iaload, 1) := by decide +kernel
theorem dX12_isLetter_16 : decode cX12_isLetter 16 = .ok (.iconst 1, 1) := by decide +kernel
theorem dX12_isLetter_17 : decode cX12_isLetter 17 = .ok (.isub, 1) := by decide +kernel
theorem dX12_isLetter_18 : decode cX12_isLetter 18 = .ok (.invokestatic 94, 3) := by decide +kernel
theorem dX12_isLetter_21 : decode cX12_isLetter 21 = .ok (.ifCond .eq 7, 3) := by decide +kernel
theorem dX12_isLetter_24 : decode cX12_isLetter 24 = .ok (.iconst 1, 1) := by decide +kernel
theorem dX12_isLetter_25 : decode cX12_isLetter 25 = .ok (.goto 4, 3) := by decide +kernel
theorem dX12_isLetter_28 : decode cX12_isLetter 28 = .ok (.iconst 0, 1) := by decide +kernel
theorem dX12_isLetter_29 : decode cX12_isLetter 29 = .ok (.ireturn, 1) := by decide +kernel
set_option maxRecDepth 20000 in
theorem ggX12_isSet_X12_isMachine : GoodIn wsX12_isSet wsX12_isMachine := goodIn_r _ [6, 7, 8, 9, 5, 10, 11, 12, 13, 14, 15, 16, 17, 18, 19, 20, 21, 22, 23, 24, 25, 26, 27, 28, 29, 30, 31, 32, 33, 34, 35, 36, 37, 38, 39, 40] (by decide +kernel) (by decide +kernel)
set_option maxRecDepth 20000 in
theorem gX12_isSet_X12_isMachine : GoodIn wsX12_isSet (wsV RX12 106 RX12 yX12_isMachine wsX12_isMachine) := goodIn_app (goodIn_of _ (by decide +kernel)) ggX12_isSet_X12_isMachine
set_option maxRecDepth 20000 in
theorem ggX12_isSet_X12_in : GoodIn wsX12_isSet wsX12_in := goodIn_r _ [10] (by decide +kernel) (by decide +kernel)
set_option maxRecDepth 20000 in
theorem gX12_isSet_X12_in : GoodIn wsX12_isSet (va_wsS RX12 94 yX12_in wsX12_in) := goodIn_app (goodIn_of _ (by decide +kernel)) ggX12_isSet_X12_in
theorem dX12_isSet_0 : decode cX12_isSet 0 = .ok (.aload_n 0, 1) := by decide +kernel
theorem dX12_isSet_1 : decode cX12_isSet 1 = .ok (.iload_n 1, 1) := by decide +kernel
theorem dX12_isSet_2 : decode cX12_isSet 2 = .ok (.invokevirtual 106, 3) := by decide +kernel
theorem dX12_isSet_5 : decode cX12_isSet 5 = .ok (.ifCond .eq 25, 3) := by decide +kernel
theorem dX12_isSet_8 : decode cX12_isSet 8 = .ok (.iload_n 2, 1) := by decide +kernel
theorem dX12_isSet_9 : decode cX12_isSet 9 = .ok (.iconst 1, 1) := by decide +kernel
theorem dX12_isSet_10 : decode cX12_isSet 10 = .ok (.iconst 1, 1) := by decide +kernel
theorem dX12_isSet_11 : decode cX12_isSet 11 = .ok (.aload_n 0, 1) := by decide +kernel
theorem dX12_isSet_12 : decode cX12_isSet 12 = .ok (.getfield 7, 3) := by decide +kernel
theorem dX12_isSet_15 : decode cX12_isSet 15 = .ok (.iload_n 1, 1) := by decide +kernel
theorem dX12_isSet_16 : decode cX12_isSet 16 = .ok (.iaload, 1) := by decide +kernel
theorem dX12_isSet_17 : decode cX12_isSet 17 = .ok (.ishl, 1) := by decide +kernel
theorem dX12_isSet_18 : decode cX12_isSet 18 = .ok (.iconst 1, 1) := by decide +kernel
theorem dX12_isSet_19 : decode cX12_isSet 19 = .ok (.isub, 1) := by decide +kernel
theorem dX12_isSet_20 : decode cX12_isSet 20 = .ok (.invokestatic 94, 3) := by decide +kernel
theorem dX12_isSet_23 : decode cX12_isSet 23 = .ok (.ifCond .eq 7, 3) := by decide +kernel
theorem dX12_isSet_26 : decode cX12_isSet 26 = .ok (.iconst 1, 1) := by decide +kernel
theorem dX12_isSet_27 : decode cX12_isSet 27 = .ok (.goto 4, 3) := by decide +kernel
theorem dX12_isSet_30 : decode cX12_isSet 30 = .ok (.iconst 0, 1) := by decide +kernel
theorem dX12_isSet_31 : decode cX12_isSet 31 = .ok (.ireturn, 1) := by decide +kernel
set_option maxRecDepth 20000 in
theorem ggX12_move_X12_isState : GoodIn wsX12_move wsX12_isState := goodIn_r _ [6, 7, 8, 9, 10, 5, 11, 12, 13, 14, 15, 24, 25, 26, 27, 28, 29, 30, 31, 32, 33, 34, 35, 36, 37, 38, 39, 40, 41, 42, 43, 44, 45, 46, 47, 48, 49, 50, 51, 52, 53] (by decide +kernel) (by decide +kernel)
set_option maxRecDepth 20000 in
theorem gX12_move_X12_isState : GoodIn wsX12_move (wsV RX12 110 RX12 yX12_isState wsX12_isState) := goodIn_app (goodIn_of _ (by decide +kernel)) ggX12_move_X12_isState
set_option maxRecDepth 20000 in
theorem ggX12_move_X12_isLetter : GoodIn wsX12_move wsX12_isLetter := goodIn_r _ [19, 20, 8, 9, 10, 5, 11, 12, 13, 14, 15, 24, 25, 26, 27, 28, 29, 30, 31, 32, 33, 34, 35, 36, 37, 38, 39, 40, 41, 42, 43, 44, 45, 46, 47, 48, 49, 50, 51, 52, 53] (by decide +kernel) (by decide +kernel)
set_option maxRecDepth 20000 in
theorem gX12_move_X12_isLetter : GoodIn wsX12_move (wsV RX12 114 RX12 yX12_isLetter wsX12_isLetter) := goodIn_app (goodIn_of _ (by decide +kernel)) ggX12_move_X12_isLetter
set_option maxRecDepth 20000 in
theorem ggX12_move_X12_at : GoodIn wsX12_move wsX12_at := goodIn_r _ [23] (by decide +kernel) (by decide +kernel)
set_option maxRecDepth 20000 in
theorem gX12_move_X12_at : GoodIn wsX12_move (va_wsS RX12 102 yX12_at wsX12_at) := goodIn_app (goodIn_of _ (by decide +kernel)) ggX12_move_X12_at
theorem dX12_move_0 : decode cX12_move 0 = .ok (.aload_n 0, 1) := by decide +kernel
theorem dX12_move_1 : decode cX12_move 1 = .ok (.iload_n 1, 1) := by decide +kernel
theorem dX12_move_2 : decode cX12_move 2 = .ok (.iload_n 2, 1) := by decide +kernel
theorem dX12_move_3 : decode cX12_move 3 = .ok (.invokevirtual 110, 3) := by decide +kernel
theorem dX12_move_6 : decode cX12_move 6 = .ok (.ifCond .eq 28, 3) := by decide +kernel
theorem dX12_move_9 : decode cX12_move 9 = .ok (.aload_n 0, 1) := by decide +kernel
theorem dX12_move_10 : decode cX12_move 10 = .ok (.iload_n 1, 1) := by decide +kernel
theorem dX12_move_11 : decode cX12_move 11 = .ok (.iload_n 3, 1) := by decide +kernel
theorem dX12_move_12 : decode cX12_move 12 = .ok (.invokevirtual 114, 3) := by decide +kernel
theorem dX12_move_15 : decode cX12_move 15 = .ok (.ifCond .eq 19, 3) := by decide +kernel
theorem dX12_move_18 : decode cX12_move 18 = .ok (.iload 4, 2) := by decide +kernel
theorem dX12_move_20 : decode cX12_move 20 = .ok (.iconst (-1), 1) := by decide +kernel
theorem dX12_move_21 : decode cX12_move 21 = .ok (.if_icmp .eq 16, 3) := by decide +kernel
theorem dX12_move_24 : decode cX12_move 24 = .ok (.aload_n 0, 1) := by decide +kernel
theorem dX12_move_25 : decode cX12_move 25 = .ok (.iload_n 1, 1) := by decide +kernel
theorem dX12_move_26 : decode cX12_move 26 = .ok (.iload 4, 2) := by decide +kernel
theorem dX12_move_28 : decode cX12_move 28 = .ok (.invokevirtual 110, 3) := by decide +kernel
theorem dX12_move_31 : decode cX12_move 31 = .ok (.ifCond .ne 6, 3) := by decide +kernel
theorem dX12_move_34 : decode cX12_move 34 = .ok (.bipush (-2), 2) := by decide +kernel
theorem dX12_move_36 : decode cX12_move 36 = .ok (.ireturn, 1) := by decide +kernel
theorem dX12_move_37 : decode cX12_move 37 = .ok (.aload_n 0, 1) := by decide +kernel
theorem dX12_move_38 : decode cX12_move 38 = .ok (.getfield 16, 3) := by decide +kernel
theorem dX12_move_41 : decode cX12_move 41 = .ok (.iload_n 1, 1) := by decide +kernel
theorem dX12_move_42 : decode cX12_move 42 = .ok (.iload_n 2, 1) := by decide +kernel
theorem dX12_move_43 : decode cX12_move 43 = .ok (.iload_n 3, 1) := by decide +kernel
theorem dX12_move_44 : decode cX12_move 44 = .ok (.invokestatic 102, 3) := by decide +kernel
theorem dX12_move_47 : decode cX12_move 47 = .ok (.iaload, 1) := by decide +kernel
theorem dX12_move_48 : decode cX12_move 48 = .ok (.istore 5, 2) := by decide +kernel
theorem dX12_move_50 : decode cX12_move 50 = .ok (.aload_n 0, 1) := by decide +kernel
theorem dX12_move_51 : decode cX12_move 51 = .ok (.getfield 16, 3) := by decide +kernel
theorem dX12_move_54 : decode cX12_move 54 = .ok (.iload_n 1, 1) := by decide +kernel
theorem dX12_move_55 : decode cX12_move 55 = .ok (.iload_n 2, 1) := by decide +kernel
theorem dX12_move_56 : decode cX12_move 56 = .ok (.iload_n 3, 1) := by decide +kernel
theorem dX12_move_57 : decode cX12_move 57 = .ok (.invokestatic 102, 3) := by decide +kernel
theorem dX12_move_60 : decode cX12_move 60 = .ok (.iload 4, 2) := by decide +kernel
theorem dX12_move_62 : decode cX12_move 62 = .ok (.iastore, 1) := by decide +kernel
theorem dX12_move_63 : decode cX12_move 63 = .ok (.iload 5, 2) := by decide +kernel
theorem dX12_move_65 : decode cX12_move 65 = .ok (.ireturn, 1) := by decide +kernel
set_option maxRecDepth 20000 in
theorem ggX12_light_X12_isState : GoodIn wsX12_light wsX12_isState := goodIn_r _ [6, 7, 8, 9, 10, 5, 11, 12, 13, 14, 15, 16, 17, 18, 19, 20, 21, 22, 23, 24, 25, 26, 27, 28, 29, 30, 31, 32, 33, 34, 35, 36, 37, 38, 39, 40, 41, 42, 43, 44, 45] (by decide +kernel) (by decide +kernel)
set_option maxRecDepth 20000 in
theorem gX12_light_X12_isState : GoodIn wsX12_light (wsV RX12 110 RX12 yX12_isState wsX12_isState) := goodIn_app (goodIn_of _ (by decide +kernel)) ggX12_light_X12_isState
set_option maxRecDepth 20000 in
theorem ggX12_light_X12_in : GoodIn wsX12_light wsX12_in := goodIn_r _ [15] (by decide +kernel) (by decide +kernel)
set_option maxRecDepth 20000 in
theorem gX12_light_X12_in : GoodIn wsX12_light (va_wsS RX12 94 yX12_in wsX12_in) := goodIn_app (goodIn_of _ (by decide +kernel)) ggX12_light_X12_in
theorem dX12_light_0 : decode cX12_light 0 = .ok (.aload_n 0, 1) := by decide +kernel
theorem dX12_light_1 : decode cX12_light 1 = .ok (.iload_n 1, 1) := by decide +kernel
theorem dX12_light_2 : decode cX12_light 2 = .ok (.iload_n 2, 1) := by decide +kernel
theorem dX12_light_3 : decode cX12_light 3 = .ok (.invokevirtual 110, 3) := by decide +kernel
theorem dX12_light_6 : decode cX12_light 6 = .ok (.ifCond .eq 12, 3) := by decide +kernel
theorem dX12_light_9 : decode cX12_light 9 = .ok (.iload_n 3, 1) := by decide +kernel
theorem dX12_light_10 : decode cX12_light 10 = .ok (.iconst 0, 1) := by decide +kernel
theorem dX12_light_11 : decode cX12_light 11 = .ok (.iconst 3, 1) := by decide +kernel
theorem dX12_light_12 : decode cX12_light 12 = .ok (.invokestatic 94, 3) := by decide +kernel
theorem dX12_light_15 : decode cX12_light 15 = .ok (.ifCond .ne 6, 3) := by decide +kernel
theorem dX12_light_18 : decode cX12_light 18 = .ok (.bipush (-2), 2) := by decide +kernel
theorem dX12_light_20 : decode cX12_light 20 = .ok (.ireturn, 1) := by decide +kernel
theorem dX12_light_21 : decode cX12_light 21 = .ok (.aload_n 0, 1) := by decide +kernel
theorem dX12_light_22 : decode cX12_light 22 = .ok (.getfield 19, 3) := by decide +kernel
theorem dX12_light_25 : decode cX12_light 25 = .ok (.bipush 12, 2) := by decide +kernel
theorem dX12_light_27 : decode cX12_light 27 = .ok (.iload_n 1, 1) := by decide +kernel
theorem dX12_light_28 : decode cX12_light 28 = .ok (.imul, 1) := by decide +kernel
theorem dX12_light_29 : decode cX12_light 29 = .ok (.iload_n 2, 1) := by decide +kernel
theorem dX12_light_30 : decode cX12_light 30 = .ok (.iadd, 1) := by decide +kernel
theorem dX12_light_31 : decode cX12_light 31 = .ok (.iaload, 1) := by decide +kernel
theorem dX12_light_32 : decode cX12_light 32 = .ok (.istore 4, 2) := by decide +kernel
theorem dX12_light_34 : decode cX12_light 34 = .ok (.aload_n 0, 1) := by decide +kernel
theorem dX12_light_35 : decode cX12_light 35 = .ok (.getfield 19, 3) := by decide +kernel
theorem dX12_light_38 : decode cX12_light 38 = .ok (.bipush 12, 2) := by decide +kernel
theorem dX12_light_40 : decode cX12_light 40 = .ok (.iload_n 1, 1) := by decide +kernel
theorem dX12_light_41 : decode cX12_light 41 = .ok (.imul, 1) := by decide +kernel
theorem dX12_light_42 : decode cX12_light 42 = .ok (.iload_n 2, 1) := by decide +kernel
theorem dX12_light_43 : decode cX12_light 43 = .ok (.iadd, 1) := by decide +kernel
theorem dX12_light_44 : decode cX12_light 44 = .ok (.iload_n 3, 1) := by decide +kernel
theorem dX12_light_45 : decode cX12_light 45 = .ok (.iastore, 1) := by decide +kernel
theorem dX12_light_46 : decode cX12_light 46 = .ok (.iload 4, 2) := by decide +kernel
theorem dX12_light_48 : decode cX12_light 48 = .ok (.ireturn, 1) := by decide +kernel
set_option maxRecDepth 20000 in
theorem ggX12_price_X12_isLetter : GoodIn wsX12_price wsX12_isLetter := goodIn_r _ [6, 7, 8, 9, 10, 5, 11, 12, 13, 14, 15, 16, 17, 18, 19, 20, 21, 22, 23, 24, 25, 26, 27, 28, 29, 30, 31, 32, 33, 34, 35, 36, 37, 38, 39, 40, 41, 42, 43, 44, 45] (by decide +kernel) (by decide +kernel)
set_option maxRecDepth 20000 in
theorem gX12_price_X12_isLetter : GoodIn wsX12_price (wsV RX12 114 RX12 yX12_isLetter wsX12_isLetter) := goodIn_app (goodIn_of _ (by decide +kernel)) ggX12_price_X12_isLetter
set_option maxRecDepth 20000 in
theorem ggX12_price_X12_in : GoodIn wsX12_price wsX12_in := goodIn_r _ [15] (by decide +kernel) (by decide +kernel)
set_option maxRecDepth 20000 in
theorem gX12_price_X12_in : GoodIn wsX12_price (va_wsS RX12 94 yX12_in wsX12_in) := goodIn_app (goodIn_of _ (by decide +kernel)) ggX12_price_X12_in
theorem dX12_price_0 : decode cX12_price 0 = .ok (.aload_n 0, 1) := by decide +kernel
theorem dX12_price_1 : decode cX12_price 1 = .ok (.iload_n 1, 1) := by decide +kernel
theorem dX12_price_2 : decode cX12_price 2 = .ok (.iload_n 2, 1) := by decide +kernel
theorem dX12_price_3 : decode cX12_price 3 = .ok (.invokevirtual 114, 3) := by decide +kernel
theorem dX12_price_6 : decode cX12_price 6 = .ok (.ifCond .eq 13, 3) := by decide +kernel
theorem dX12_price_9 : decode cX12_price 9 = .ok (.iload_n 3, 1) := by decide +kernel
theorem dX12_price_10 : decode cX12_price 10 = .ok (.iconst 1, 1) := by decide +kernel
theorem dX12_price_11 : decode cX12_price 11 = .ok (.bipush 20, 2) := by decide +kernel
theorem dX12_price_13 : decode cX12_price 13 = .ok (.invokestatic 94, 3) := by decide +kernel
theorem dX12_price_16 : decode cX12_price 16 = .ok (.ifCond .ne 6, 3) := by decide +kernel
theorem dX12_price_19 : decode cX12_price 19 = .ok (.bipush (-2), 2) := by decide +kernel
theorem dX12_price_21 : decode cX12_price 21 = .ok (.ireturn, 1) := by decide +kernel
theorem dX12_price_22 : decode cX12_price 22 = .ok (.aload_n 0, 1) := by decide +kernel
theorem dX12_price_23 : decode cX12_price 23 = .ok (.getfield 22, 3) := by decide +kernel
theorem dX12_price_26 : decode cX12_price 26 = .ok (.iconst 4, 1) := by decide +kernel
theorem dX12_price_27 : decode cX12_price 27 = .ok (.iload_n 1, 1) := by decide +kernel
theorem dX12_price_28 : decode cX12_price 28 = .ok (.imul, 1) := by decide +kernel
theorem dX12_price_29 : decode cX12_price 29 = .ok (.iload_n 2, 1) := by decide +kernel
theorem dX12_price_30 : decode cX12_price 30 = .ok (.iadd, 1) := by decide +kernel
theorem dX12_price_31 : decode cX12_price 31 = .ok (.iaload, 1) := by decide +kernel
theorem dX12_price_32 : decode cX12_price 32 = .ok (.istore 4, 2) := by decide +kernel
theorem dX12_price_34 : decode cX12_price 34 = .ok (.aload_n 0, 1) := by decide +kernel
theorem dX12_price_35 : decode cX12_price 35 = .ok (.getfield 22, 3) := by decide +kernel
theorem dX12_price_38 : decode cX12_price 38 = .ok (.iconst 4, 1) := by decide +kernel
theorem dX12_price_39 : decode cX12_price 39 = .ok (.iload_n 1, 1) := by decide +kernel
theorem dX12_price_40 : decode cX12_price 40 = .ok (.imul, 1) := by decide +kernel
theorem dX12_price_41 : decode cX12_price 41 = .ok (.iload_n 2, 1) := by decide +kernel
theorem dX12_price_42 : decode cX12_price 42 = .ok (.iadd, 1) := by decide +kernel
theorem dX12_price_43 : decode cX12_price 43 = .ok (.iload_n 3, 1) := by decide +kernel
theorem dX12_price_44 : decode cX12_price 44 = .ok (.iastore, 1) := by decide +kernel
theorem dX12_price_45 : decode cX12_price 45 = .ok (.iload 4, 2) := by decide +kernel
theorem dX12_price_47 : decode cX12_price 47 = .ok (.ireturn, 1) := by decide +kernel
set_option maxRecDepth 20000 in
theorem ggX12_share_X12_isLetter : GoodIn wsX12_share wsX12_isLetter := goodIn_r _ [6, 7, 8, 9, 10, 5, 11, 12, 13, 14, 15, 16, 17, 18, 19, 20, 21, 22, 23, 24, 25, 26, 27, 28, 29, 30, 31, 32, 33, 34, 35, 36, 37, 38, 39, 40, 41, 42, 43, 44, 45] (by decide +kernel) (by decide +kernel)
set_option maxRecDepth 20000 in
theorem gX12_share_X12_isLetter : GoodIn wsX12_share (wsV RX12 114 RX12 yX12_isLetter wsX12_isLetter) := goodIn_app (goodIn_of _ (by decide +kernel)) ggX12_share_X12_isLetter
set_option maxRecDepth 20000 in
theorem ggX12_share_X12_in : GoodIn wsX12_share wsX12_in := goodIn_r _ [15] (by decide +kernel) (by decide +kernel)
set_option maxRecDepth 20000 in
theorem gX12_share_X12_in : GoodIn wsX12_share (va_wsS RX12 94 yX12_in wsX12_in) := goodIn_app (goodIn_of _ (by decide +kernel)) ggX12_share_X12_in
theorem dX12_share_0 : decode cX12_share 0 = .ok (.aload_n 0, 1) := by decide +kernel
theorem dX12_share_1 : decode cX12_share 1 = .ok (.iload_n 1, 1) := by decide +kernel
theorem dX12_share_2 : decode cX12_share 2 = .ok (.iload_n 2, 1) := by decide +kernel
theorem dX12_share_3 : decode cX12_share 3 = .ok (.invokevirtual 114, 3) := by decide +kernel
theorem dX12_share_6 : decode cX12_share 6 = .ok (.ifCond .eq 12, 3) := by decide +kernel
theorem dX12_share_9 : decode cX12_share 9 = .ok (.iload_n 3, 1) := by decide +kernel
theorem dX12_share_10 : decode cX12_share 10 = .ok (.iconst 0, 1) := by decide +kernel
theorem dX12_share_11 : decode cX12_share 11 = .ok (.iconst 5, 1) := by decide +kernel
theorem dX12_share_12 : decode cX12_share 12 = .ok (.invokestatic 94, 3) := by decide +kernel
theorem dX12_share_15 : decode cX12_share 15 = .ok (.ifCond .ne 6, 3) := by decide +kernel
theorem dX12_share_18 : decode cX12_share 18 = .ok (.bipush (-2), 2) := by decide +kernel
theorem dX12_share_20 : decode cX12_share 20 = .ok (.ireturn, 1) := by decide +kernel
theorem dX12_share_21 : decode cX12_share 21 = .ok (.aload_n 0, 1) := by decide +kernel
theorem dX12_share_22 : decode cX12_share 22 = .ok (.getfield 25, 3) := by decide +kernel
theorem dX12_share_25 : decode cX12_share 25 = .ok (.iconst 4, 1) := by decide +kernel
theorem dX12_share_26 : decode cX12_share 26 = .ok (.iload_n 1, 1) := by decide +kernel
theorem dX12_share_27 : decode cX12_share 27 = .ok (.imul, 1) := by decide +kernel
theorem dX12_share_28 : decode cX12_share 28 = .ok (.iload_n 2, 1) := by decide +kernel
theorem dX12_share_29 : decode cX12_share 29 = .ok (.iadd, 1) := by decide +kernel
theorem dX12_share_30 : decode cX12_share 30 = .ok (.iaload, 1) := by decide +kernel
theorem dX12_share_31 : decode cX12_share 31 = .ok (.istore 4, 2) := by decide +kernel
theorem dX12_share_33 : decode cX12_share 33 = .ok (.aload_n 0, 1) := by decide +kernel
theorem dX12_share_34 : decode cX12_share 34 = .ok (.getfield 25, 3) := by decide +kernel
theorem dX12_share_37 : decode cX12_share 37 = .ok (.iconst 4, 1) := by decide +kernel
theorem dX12_share_38 : decode cX12_share 38 = .ok (.iload_n 1, 1) := by decide +kernel
theorem dX12_share_39 : decode cX12_share 39 = .ok (.imul, 1) := by decide +kernel
theorem dX12_share_40 : decode cX12_share 40 = .ok (.iload_n 2, 1) := by decide +kernel
theorem dX12_share_41 : decode cX12_share 41 = .ok (.iadd, 1) := by decide +kernel
theorem dX12_share_42 : decode cX12_share 42 = .ok (.iload_n 3, 1) := by decide +kernel
theorem dX12_share_43 : decode cX12_share 43 = .ok (.iastore, 1) := by decide +kernel
theorem dX12_share_44 : decode cX12_share 44 = .ok (.iload 4, 2) := by decide +kernel
theorem dX12_share_46 : decode cX12_share 46 = .ok (.ireturn, 1) := by decide +kernel
set_option maxRecDepth 20000 in
theorem ggX12_isWhole_X12_at : GoodIn wsX12_isWhole wsX12_at := goodIn_r _ [7] (by decide +kernel) (by decide +kernel)
set_option maxRecDepth 20000 in
theorem gX12_isWhole_X12_at : GoodIn wsX12_isWhole (va_wsS RX12 102 yX12_at wsX12_at) := goodIn_app (goodIn_of _ (by decide +kernel)) ggX12_isWhole_X12_at
theorem dX12_isWhole_0 : decode cX12_isWhole 0 = .ok (.iconst 1, 1) := by decide +kernel
theorem dX12_isWhole_1 : decode cX12_isWhole 1 = .ok (.istore_n 2, 1) := by decide +kernel
theorem dX12_isWhole_2 : decode cX12_isWhole 2 = .ok (.iconst 0, 1) := by decide +kernel
theorem dX12_isWhole_3 : decode cX12_isWhole 3 = .ok (.istore_n 3, 1) := by decide +kernel
theorem dX12_isWhole_4 : decode cX12_isWhole 4 = .ok (.iload_n 3, 1) := by decide +kernel
theorem dX12_isWhole_5 : decode cX12_isWhole 5 = .ok (.aload_n 0, 1) := by decide +kernel
theorem dX12_isWhole_6 : decode cX12_isWhole 6 = .ok (.getfield 7, 3) := by decide +kernel
theorem dX12_isWhole_9 : decode cX12_isWhole 9 = .ok (.iload_n 1, 1) := by decide +kernel
theorem dX12_isWhole_10 : decode cX12_isWhole 10 = .ok (.iaload, 1) := by decide +kernel
theorem dX12_isWhole_11 : decode cX12_isWhole 11 = .ok (.if_icmp .ge 55, 3) := by decide +kernel
theorem dX12_isWhole_14 : decode cX12_isWhole 14 = .ok (.iconst 0, 1) := by decide +kernel
theorem dX12_isWhole_15 : decode cX12_isWhole 15 = .ok (.istore 4, 2) := by decide +kernel
theorem dX12_isWhole_17 : decode cX12_isWhole 17 = .ok (.iload 4, 2) := by decide +kernel
theorem dX12_isWhole_19 : decode cX12_isWhole 19 = .ok (.aload_n 0, 1) := by decide +kernel
theorem dX12_isWhole_20 : decode cX12_isWhole 20 = .ok (.getfield 13, 3) := by decide +kernel
theorem dX12_isWhole_23 : decode cX12_isWhole 23 = .ok (.iload_n 1, 1) := by decide +kernel
theorem dX12_isWhole_24 : decode cX12_isWhole 24 = .ok (.iaload, 1) := by decide +kernel
theorem dX12_isWhole_25 : decode cX12_isWhole 25 = .ok (.if_icmp .ge 35, 3) := by decide +kernel
theorem dX12_isWhole_28 : decode cX12_isWhole 28 = .ok (.iload_n 2, 1) := by decide +kernel
theorem dX12_isWhole_29 : decode cX12_isWhole 29 = .ok (.ifCond .eq 23, 3) := by decide +kernel
theorem dX12_isWhole_32 : decode cX12_isWhole 32 = .ok (.aload_n 0, 1) := by decide +kernel
theorem dX12_isWhole_33 : decode cX12_isWhole 33 = .ok (.getfield 16, 3) := by decide +kernel
theorem dX12_isWhole_36 : decode cX12_isWhole 36 = .ok (.iload_n 1, 1) := by decide +kernel
theorem dX12_isWhole_37 : decode cX12_isWhole 37 = .ok (.iload_n 3, 1) := by decide +kernel
theorem dX12_isWhole_38 : decode cX12_isWhole 38 = .ok (.iload 4, 2) := by decide +kernel
theorem dX12_isWhole_40 : decode cX12_isWhole 40 = .ok (.invokestatic 102, 3) := by decide +kernel
theorem dX12_isWhole_43 : decode cX12_isWhole 43 = .ok (.iaload, 1) := by decide +kernel
theorem dX12_isWhole_44 : decode cX12_isWhole 44 = .ok (.iconst (-1), 1) := by decide +kernel
theorem dX12_isWhole_45 : decode cX12_isWhole 45 = .ok (.if_icmp .eq 7, 3) := by decide +kernel
theorem dX12_isWhole_48 : decode cX12_isWhole 48 = .ok (.iconst 1, 1) := by decide +kernel
theorem dX12_isWhole_49 : decode cX12_isWhole 49 = .ok (.goto 4, 3) := by decide +kernel
theorem dX12_isWhole_52 : decode cX12_isWhole 52 = .ok (.iconst 0, 1) := by decide +kernel
theorem dX12_isWhole_53 : decode cX12_isWhole 53 = .ok (.istore_n 2, 1) := by decide +kernel
theorem dX12_isWhole_54 : decode cX12_isWhole 54 = .ok (.iinc 4 1, 3) := by decide +kernel
theorem dX12_isWhole_57 : decode cX12_isWhole 57 = .ok (.goto (-40), 3) := by decide +kernel
theorem dX12_isWhole_60 : decode cX12_isWhole 60 = .ok (.iinc 3 1, 3) := by decide +kernel
theorem dX12_isWhole_63 : decode cX12_isWhole 63 = .ok (.goto (-59), 3) := by decide +kernel
theorem dX12_isWhole_66 : decode cX12_isWhole 66 = .ok (.iload_n 2, 1) := by decide +kernel
theorem dX12_isWhole_67 : decode cX12_isWhole 67 = .ok (.ireturn, 1) := by decide +kernel
set_option maxRecDepth 20000 in
theorem ggX12_aboutOf_X12_isWhole : GoodIn wsX12_aboutOf wsX12_isWhole := goodIn_r _ [7, 1, 2, 8, 9, 10, 6, 11, 12, 13, 14, 15, 16, 17, 18, 19, 20, 21, 22, 23, 24, 25, 26, 27, 28, 29, 30, 31, 32, 33, 34, 35, 36, 37, 38, 39, 40, 41] (by decide +kernel) (by decide +kernel)
set_option maxRecDepth 20000 in
theorem gX12_aboutOf_X12_isWhole : GoodIn wsX12_aboutOf (wsV RX12 117 RX12 yX12_isWhole wsX12_isWhole) := goodIn_app (goodIn_of _ (by decide +kernel)) ggX12_aboutOf_X12_isWhole
theorem dX12_aboutOf_0 : decode cX12_aboutOf 0 = .ok (.iload_n 2, 1) := by decide +kernel
theorem dX12_aboutOf_1 : decode cX12_aboutOf 1 = .ok (.ifCond .ne 12, 3) := by decide +kernel
theorem dX12_aboutOf_4 : decode cX12_aboutOf 4 = .ok (.aload_n 0, 1) := by decide +kernel
theorem dX12_aboutOf_5 : decode cX12_aboutOf 5 = .ok (.getfield 7, 3) := by decide +kernel
theorem dX12_aboutOf_8 : decode cX12_aboutOf 8 = .ok (.iload_n 1, 1) := by decide +kernel
theorem dX12_aboutOf_9 : decode cX12_aboutOf 9 = .ok (.iaload, 1) := by decide +kernel
theorem dX12_aboutOf_10 : decode cX12_aboutOf 10 = .ok (.goto 30, 3) := by decide +kernel
theorem dX12_aboutOf_13 : decode cX12_aboutOf 13 = .ok (.iload_n 2, 1) := by decide +kernel
theorem dX12_aboutOf_14 : decode cX12_aboutOf 14 = .ok (.iconst 1, 1) := by decide +kernel
theorem dX12_aboutOf_15 : decode cX12_aboutOf 15 = .ok (.if_icmp .ne 12, 3) := by decide +kernel
theorem dX12_aboutOf_18 : decode cX12_aboutOf 18 = .ok (.aload_n 0, 1) := by decide +kernel
theorem dX12_aboutOf_19 : decode cX12_aboutOf 19 = .ok (.getfield 13, 3) := by decide +kernel
theorem dX12_aboutOf_22 : decode cX12_aboutOf 22 = .ok (.iload_n 1, 1) := by decide +kernel
theorem dX12_aboutOf_23 : decode cX12_aboutOf 23 = .ok (.iaload, 1) := by decide +kernel
theorem dX12_aboutOf_24 : decode cX12_aboutOf 24 = .ok (.goto 16, 3) := by decide +kernel
theorem dX12_aboutOf_27 : decode cX12_aboutOf 27 = .ok (.aload_n 0, 1) := by decide +kernel
theorem dX12_aboutOf_28 : decode cX12_aboutOf 28 = .ok (.iload_n 1, 1) := by decide +kernel
theorem dX12_aboutOf_29 : decode cX12_aboutOf 29 = .ok (.invokevirtual 117, 3) := by decide +kernel
theorem dX12_aboutOf_32 : decode cX12_aboutOf 32 = .ok (.ifCond .eq 7, 3) := by decide +kernel
theorem dX12_aboutOf_35 : decode cX12_aboutOf 35 = .ok (.iconst 1, 1) := by decide +kernel
theorem dX12_aboutOf_36 : decode cX12_aboutOf 36 = .ok (.goto 4, 3) := by decide +kernel
theorem dX12_aboutOf_39 : decode cX12_aboutOf 39 = .ok (.iconst 0, 1) := by decide +kernel
theorem dX12_aboutOf_40 : decode cX12_aboutOf 40 = .ok (.ireturn, 1) := by decide +kernel
set_option maxRecDepth 20000 in
theorem ggX12_about_X12_isMachine : GoodIn wsX12_about wsX12_isMachine := goodIn_r _ [5, 6, 7, 8, 4, 9, 24, 25, 26, 27, 28, 29, 30, 31, 32, 33, 34, 35, 36, 37, 38, 39, 40, 41, 42, 43, 44, 45, 46, 47, 48, 49, 50, 51, 52, 53] (by decide +kernel) (by decide +kernel)
set_option maxRecDepth 20000 in
theorem gX12_about_X12_isMachine : GoodIn wsX12_about (wsV RX12 106 RX12 yX12_isMachine wsX12_isMachine) := goodIn_app (goodIn_of _ (by decide +kernel)) ggX12_about_X12_isMachine
set_option maxRecDepth 20000 in
theorem ggX12_about_X12_in : GoodIn wsX12_about wsX12_in := goodIn_r _ [9] (by decide +kernel) (by decide +kernel)
set_option maxRecDepth 20000 in
theorem gX12_about_X12_in : GoodIn wsX12_about (va_wsS RX12 94 yX12_in wsX12_in) := goodIn_app (goodIn_of _ (by decide +kernel)) ggX12_about_X12_in
set_option maxRecDepth 20000 in
theorem ggX12_about_X12_aboutOf : GoodIn wsX12_about wsX12_aboutOf := goodIn_r _ [13, 14, 15, 16, 17, 18, 4, 19, 20, 21, 22, 23, 24, 25, 26, 27, 28, 29, 30, 31, 32, 33, 34, 35, 36, 37, 38, 39, 40, 41, 42, 43, 44, 45, 46, 47, 48, 49, 50, 51, 52, 53] (by decide +kernel) (by decide +kernel)
set_option maxRecDepth 20000 in
theorem gX12_about_X12_aboutOf : GoodIn wsX12_about (wsV RX12 120 RX12 yX12_aboutOf wsX12_aboutOf) := goodIn_app (goodIn_of _ (by decide +kernel)) ggX12_about_X12_aboutOf
theorem dX12_about_0 : decode cX12_about 0 = .ok (.aload_n 0, 1) := by decide +kernel
theorem dX12_about_1 : decode cX12_about 1 = .ok (.iload_n 1, 1) := by decide +kernel
theorem dX12_about_2 : decode cX12_about 2 = .ok (.invokevirtual 106, 3) := by decide +kernel
theorem dX12_about_5 : decode cX12_about 5 = .ok (.ifCond .eq 21, 3) := by decide +kernel
theorem dX12_about_8 : decode cX12_about 8 = .ok (.iload_n 2, 1) := by decide +kernel
theorem dX12_about_9 : decode cX12_about 9 = .ok (.iconst 0, 1) := by decide +kernel
theorem dX12_about_10 : decode cX12_about 10 = .ok (.iconst 2, 1) := by decide +kernel
theorem dX12_about_11 : decode cX12_about 11 = .ok (.invokestatic 94, 3) := by decide +kernel
theorem dX12_about_14 : decode cX12_about 14 = .ok (.ifCond .eq 12, 3) := by decide +kernel
theorem dX12_about_17 : decode cX12_about 17 = .ok (.aload_n 0, 1) := by decide +kernel
theorem dX12_about_18 : decode cX12_about 18 = .ok (.iload_n 1, 1) := by decide +kernel
theorem dX12_about_19 : decode cX12_about 19 = .ok (.iload_n 2, 1) := by decide +kernel
theorem dX12_about_20 : decode cX12_about 20 = .ok (.invokevirtual 120, 3) := by decide +kernel
theorem dX12_about_23 : decode cX12_about 23 = .ok (.goto 5, 3) := by decide +kernel
theorem dX12_about_26 : decode cX12_about 26 = .ok (.bipush (-2), 2) := by decide +kernel
theorem dX12_about_28 : decode cX12_about 28 = .ok (.ireturn, 1) := by decide +kernel
set_option maxRecDepth 20000 in
theorem ggX12_moveOf_X12_isState : GoodIn wsX12_moveOf wsX12_isState := goodIn_r _ [6, 7, 8, 9, 10, 5, 11, 12, 13, 14, 15, 24, 25, 26, 27, 28, 29, 30, 31, 32, 33, 34, 35, 36, 37, 38, 39, 40, 41, 42, 43, 44, 45, 46, 47, 48, 49, 50, 51, 52, 53] (by decide +kernel) (by decide +kernel)
set_option maxRecDepth 20000 in
theorem gX12_moveOf_X12_isState : GoodIn wsX12_moveOf (wsV RX12 110 RX12 yX12_isState wsX12_isState) := goodIn_app (goodIn_of _ (by decide +kernel)) ggX12_moveOf_X12_isState
set_option maxRecDepth 20000 in
theorem ggX12_moveOf_X12_isLetter : GoodIn wsX12_moveOf wsX12_isLetter := goodIn_r _ [19, 20, 8, 9, 10, 5, 11, 12, 13, 14, 15, 24, 25, 26, 27, 28, 29, 30, 31, 32, 33, 34, 35, 36, 37, 38, 39, 40, 41, 42, 43, 44, 45, 46, 47, 48, 49, 50, 51, 52, 53] (by decide +kernel) (by decide +kernel)
set_option maxRecDepth 20000 in
theorem gX12_moveOf_X12_isLetter : GoodIn wsX12_moveOf (wsV RX12 114 RX12 yX12_isLetter wsX12_isLetter) := goodIn_app (goodIn_of _ (by decide +kernel)) ggX12_moveOf_X12_isLetter
set_option maxRecDepth 20000 in
theorem ggX12_moveOf_X12_at : GoodIn wsX12_moveOf wsX12_at := goodIn_r _ [23] (by decide +kernel) (by decide +kernel)
set_option maxRecDepth 20000 in
theorem gX12_moveOf_X12_at : GoodIn wsX12_moveOf (va_wsS RX12 102 yX12_at wsX12_at) := goodIn_app (goodIn_of _ (by decide +kernel)) ggX12_moveOf_X12_at
theorem dX12_moveOf_0 : decode cX12_moveOf 0 = .ok (.aload_n 0, 1) := by decide +kernel
theorem dX12_moveOf_1 : decode cX12_moveOf 1 = .ok (.iload_n 1, 1) := by decide +kernel
theorem dX12_moveOf_2 : decode cX12_moveOf 2 = .ok (.iload_n 2, 1) := by decide +kernel
theorem dX12_moveOf_3 : decode cX12_moveOf 3 = .ok (.invokevirtual 110, 3) := by decide +kernel
theorem dX12_moveOf_6 : decode cX12_moveOf 6 = .ok (.ifCond .eq 26, 3) := by decide +kernel
theorem dX12_moveOf_9 : decode cX12_moveOf 9 = .ok (.aload_n 0, 1) := by decide +kernel
theorem dX12_moveOf_10 : decode cX12_moveOf 10 = .ok (.iload_n 1, 1) := by decide +kernel
theorem dX12_moveOf_11 : decode cX12_moveOf 11 = .ok (.iload_n 3, 1) := by decide +kernel
theorem dX12_moveOf_12 : decode cX12_moveOf 12 = .ok (.invokevirtual 114, 3) := by decide +kernel
theorem dX12_moveOf_15 : decode cX12_moveOf 15 = .ok (.ifCond .eq 17, 3) := by decide +kernel
theorem dX12_moveOf_18 : decode cX12_moveOf 18 = .ok (.aload_n 0, 1) := by decide +kernel
theorem dX12_moveOf_19 : decode cX12_moveOf 19 = .ok (.getfield 16, 3) := by decide +kernel
theorem dX12_moveOf_22 : decode cX12_moveOf 22 = .ok (.iload_n 1, 1) := by decide +kernel
theorem dX12_moveOf_23 : decode cX12_moveOf 23 = .ok (.iload_n 2, 1) := by decide +kernel
theorem dX12_moveOf_24 : decode cX12_moveOf 24 = .ok (.iload_n 3, 1) := by decide +kernel
theorem dX12_moveOf_25 : decode cX12_moveOf 25 = .ok (.invokestatic 102, 3) := by decide +kernel
theorem dX12_moveOf_28 : decode cX12_moveOf 28 = .ok (.iaload, 1) := by decide +kernel
theorem dX12_moveOf_29 : decode cX12_moveOf 29 = .ok (.goto 5, 3) := by decide +kernel
theorem dX12_moveOf_32 : decode cX12_moveOf 32 = .ok (.bipush (-2), 2) := by decide +kernel
theorem dX12_moveOf_34 : decode cX12_moveOf 34 = .ok (.ireturn, 1) := by decide +kernel
theorem dX12_empty_0 : decode cX12_empty 0 = .ok (.aload_n 0, 1) := by decide +kernel
theorem dX12_empty_1 : decode cX12_empty 1 = .ok (.getfield 123, 3) := by decide +kernel
theorem dX12_empty_4 : decode cX12_empty 4 = .ok (.istore_n 1, 1) := by decide +kernel
theorem dX12_empty_5 : decode cX12_empty 5 = .ok (.aload_n 0, 1) := by decide +kernel
theorem dX12_empty_6 : decode cX12_empty 6 = .ok (.iconst 0, 1) := by decide +kernel
theorem dX12_empty_7 : decode cX12_empty 7 = .ok (.putfield 123, 3) := by decide +kernel
theorem dX12_empty_10 : decode cX12_empty 10 = .ok (.iload_n 1, 1) := by decide +kernel
theorem dX12_empty_11 : decode cX12_empty 11 = .ok (.ireturn, 1) := by decide +kernel
set_option maxRecDepth 20000 in
theorem ggX12_letter_X12_in : GoodIn wsX12_letter wsX12_in := goodIn_r _ [6] (by decide +kernel) (by decide +kernel)
set_option maxRecDepth 20000 in
theorem gX12_letter_X12_in : GoodIn wsX12_letter (va_wsS RX12 94 yX12_in wsX12_in) := goodIn_app (goodIn_of _ (by decide +kernel)) ggX12_letter_X12_in
theorem dX12_letter_0 : decode cX12_letter 0 = .ok (.iload_n 1, 1) := by decide +kernel
theorem dX12_letter_1 : decode cX12_letter 1 = .ok (.iconst 0, 1) := by decide +kernel
theorem dX12_letter_2 : decode cX12_letter 2 = .ok (.iconst 3, 1) := by decide +kernel
theorem dX12_letter_3 : decode cX12_letter 3 = .ok (.invokestatic 94, 3) := by decide +kernel
theorem dX12_letter_6 : decode cX12_letter 6 = .ok (.ifCond .ne 6, 3) := by decide +kernel
theorem dX12_letter_9 : decode cX12_letter 9 = .ok (.bipush (-2), 2) := by decide +kernel
theorem dX12_letter_11 : decode cX12_letter 11 = .ok (.ireturn, 1) := by decide +kernel
theorem dX12_letter_12 : decode cX12_letter 12 = .ok (.aload_n 0, 1) := by decide +kernel
theorem dX12_letter_13 : decode cX12_letter 13 = .ok (.getfield 123, 3) := by decide +kernel
theorem dX12_letter_16 : decode cX12_letter 16 = .ok (.sipush 600, 3) := by decide +kernel
theorem dX12_letter_19 : decode cX12_letter 19 = .ok (.if_icmp .ne 6, 3) := by decide +kernel
theorem dX12_letter_22 : decode cX12_letter 22 = .ok (.bipush (-4), 2) := by decide +kernel
theorem dX12_letter_24 : decode cX12_letter 24 = .ok (.ireturn, 1) := by decide +kernel
theorem dX12_letter_25 : decode cX12_letter 25 = .ok (.aload_n 0, 1) := by decide +kernel
theorem dX12_letter_26 : decode cX12_letter 26 = .ok (.getfield 28, 3) := by decide +kernel
theorem dX12_letter_29 : decode cX12_letter 29 = .ok (.aload_n 0, 1) := by decide +kernel
theorem dX12_letter_30 : decode cX12_letter 30 = .ok (.getfield 123, 3) := by decide +kernel
theorem dX12_letter_33 : decode cX12_letter 33 = .ok (.iload_n 1, 1) := by decide +kernel
theorem dX12_letter_34 : decode cX12_letter 34 = .ok (.iastore, 1) := by decide +kernel
theorem dX12_letter_35 : decode cX12_letter 35 = .ok (.aload_n 0, 1) := by decide +kernel
theorem dX12_letter_36 : decode cX12_letter 36 = .ok (.dup, 1) := by decide +kernel
theorem dX12_letter_37 : decode cX12_letter 37 = .ok (.getfield 123, 3) := by decide +kernel
theorem dX12_letter_40 : decode cX12_letter 40 = .ok (.iconst 1, 1) := by decide +kernel
theorem dX12_letter_41 : decode cX12_letter 41 = .ok (.iadd, 1) := by decide +kernel
theorem dX12_letter_42 : decode cX12_letter 42 = .ok (.putfield 123, 3) := by decide +kernel
theorem dX12_letter_45 : decode cX12_letter 45 = .ok (.aload_n 0, 1) := by decide +kernel
theorem dX12_letter_46 : decode cX12_letter 46 = .ok (.getfield 123, 3) := by decide +kernel
theorem dX12_letter_49 : decode cX12_letter 49 = .ok (.ireturn, 1) := by decide +kernel
set_option maxRecDepth 20000 in
theorem ggX12_letterAt_X12_in : GoodIn wsX12_letterAt wsX12_in := goodIn_r _ [6] (by decide +kernel) (by decide +kernel)
set_option maxRecDepth 20000 in
theorem gX12_letterAt_X12_in : GoodIn wsX12_letterAt (va_wsS RX12 94 yX12_in wsX12_in) := goodIn_app (goodIn_of _ (by decide +kernel)) ggX12_letterAt_X12_in
theorem dX12_letterAt_0 : decode cX12_letterAt 0 = .ok (.iload_n 1, 1) := by decide +kernel
theorem dX12_letterAt_1 : decode cX12_letterAt 1 = .ok (.iconst 0, 1) := by decide +kernel
theorem dX12_letterAt_2 : decode cX12_letterAt 2 = .ok (.aload_n 0, 1) := by decide +kernel
theorem dX12_letterAt_3 : decode cX12_letterAt 3 = .ok (.getfield 123, 3) := by decide +kernel
theorem dX12_letterAt_6 : decode cX12_letterAt 6 = .ok (.iconst 1, 1) := by decide +kernel
theorem dX12_letterAt_7 : decode cX12_letterAt 7 = .ok (.isub, 1) := by decide +kernel
theorem dX12_letterAt_8 : decode cX12_letterAt 8 = .ok (.invokestatic 94, 3) := by decide +kernel
theorem dX12_letterAt_11 : decode cX12_letterAt 11 = .ok (.ifCond .eq 12, 3) := by decide +kernel
theorem dX12_letterAt_14 : decode cX12_letterAt 14 = .ok (.aload_n 0, 1) := by decide +kernel
theorem dX12_letterAt_15 : decode cX12_letterAt 15 = .ok (.getfield 28, 3) := by decide +kernel
theorem dX12_letterAt_18 : decode cX12_letterAt 18 = .ok (.iload_n 1, 1) := by decide +kernel
theorem dX12_letterAt_19 : decode cX12_letterAt 19 = .ok (.iaload, 1) := by decide +kernel
theorem dX12_letterAt_20 : decode cX12_letterAt 20 = .ok (.goto 4, 3) := by decide +kernel
theorem dX12_letterAt_23 : decode cX12_letterAt 23 = .ok (.iconst (-1), 1) := by decide +kernel
theorem dX12_letterAt_24 : decode cX12_letterAt 24 = .ok (.ireturn, 1) := by decide +kernel
set_option maxRecDepth 20000 in
theorem ggX12_next_X12_at : GoodIn wsX12_next wsX12_at := goodIn_r _ [6] (by decide +kernel) (by decide +kernel)
set_option maxRecDepth 20000 in
theorem gX12_next_X12_at : GoodIn wsX12_next (va_wsS RX12 102 yX12_at wsX12_at) := goodIn_app (goodIn_of _ (by decide +kernel)) ggX12_next_X12_at
theorem dX12_next_0 : decode cX12_next 0 = .ok (.iconst 0, 1) := by decide +kernel
theorem dX12_next_1 : decode cX12_next 1 = .ok (.istore 4, 2) := by decide +kernel
theorem dX12_next_3 : decode cX12_next 3 = .ok (.iconst 0, 1) := by decide +kernel
theorem dX12_next_4 : decode cX12_next 4 = .ok (.istore 5, 2) := by decide +kernel
theorem dX12_next_6 : decode cX12_next 6 = .ok (.iload 5, 2) := by decide +kernel
theorem dX12_next_8 : decode cX12_next 8 = .ok (.aload_n 0, 1) := by decide +kernel
theorem dX12_next_9 : decode cX12_next 9 = .ok (.getfield 7, 3) := by decide +kernel
theorem dX12_next_12 : decode cX12_next 12 = .ok (.iload_n 1, 1) := by decide +kernel
theorem dX12_next_13 : decode cX12_next 13 = .ok (.iaload, 1) := by decide +kernel
theorem dX12_next_14 : decode cX12_next 14 = .ok (.if_icmp .ge 50, 3) := by decide +kernel
theorem dX12_next_17 : decode cX12_next 17 = .ok (.iload_n 2, 1) := by decide +kernel
theorem dX12_next_18 : decode cX12_next 18 = .ok (.iload 5, 2) := by decide +kernel
theorem dX12_next_20 : decode cX12_next 20 = .ok (.ishr, 1) := by decide +kernel
theorem dX12_next_21 : decode cX12_next 21 = .ok (.iconst 1, 1) := by decide +kernel
theorem dX12_next_22 : decode cX12_next 22 = .ok (.iand, 1) := by decide +kernel
theorem dX12_next_23 : decode cX12_next 23 = .ok (.iconst 1, 1) := by decide +kernel
theorem dX12_next_24 : decode cX12_next 24 = .ok (.if_icmp .ne 34, 3) := by decide +kernel
theorem dX12_next_27 : decode cX12_next 27 = .ok (.aload_n 0, 1) := by decide +kernel
theorem dX12_next_28 : decode cX12_next 28 = .ok (.getfield 16, 3) := by decide +kernel
theorem dX12_next_31 : decode cX12_next 31 = .ok (.iload_n 1, 1) := by decide +kernel
theorem dX12_next_32 : decode cX12_next 32 = .ok (.iload 5, 2) := by decide +kernel
theorem dX12_next_34 : decode cX12_next 34 = .ok (.iload_n 3, 1) := by decide +kernel
theorem dX12_next_35 : decode cX12_next 35 = .ok (.invokestatic 102, 3) := by decide +kernel
theorem dX12_next_38 : decode cX12_next 38 = .ok (.iaload, 1) := by decide +kernel
theorem dX12_next_39 : decode cX12_next 39 = .ok (.istore 6, 2) := by decide +kernel
theorem dX12_next_41 : decode cX12_next 41 = .ok (.iload 6, 2) := by decide +kernel
theorem dX12_next_43 : decode cX12_next 43 = .ok (.iconst (-1), 1) := by decide +kernel
theorem dX12_next_44 : decode cX12_next 44 = .ok (.if_icmp .ne 5, 3) := by decide +kernel
theorem dX12_next_47 : decode cX12_next 47 = .ok (.iconst 0, 1) := by decide +kernel
theorem dX12_next_48 : decode cX12_next 48 = .ok (.ireturn, 1) := by decide +kernel
theorem dX12_next_49 : decode cX12_next 49 = .ok (.iload 4, 2) := by decide +kernel
theorem dX12_next_51 : decode cX12_next 51 = .ok (.iconst 1, 1) := by decide +kernel
theorem dX12_next_52 : decode cX12_next 52 = .ok (.iload 6, 2) := by decide +kernel
theorem dX12_next_54 : decode cX12_next 54 = .ok (.ishl, 1) := by decide +kernel
theorem dX12_next_55 : decode cX12_next 55 = .ok (.ior, 1) := by decide +kernel
theorem dX12_next_56 : decode cX12_next 56 = .ok (.istore 4, 2) := by decide +kernel
theorem dX12_next_58 : decode cX12_next 58 = .ok (.iinc 5 1, 3) := by decide +kernel
theorem dX12_next_61 : decode cX12_next 61 = .ok (.goto (-55), 3) := by decide +kernel
theorem dX12_next_64 : decode cX12_next 64 = .ok (.iload 4, 2) := by decide +kernel
theorem dX12_next_66 : decode cX12_next 66 = .ok (.ireturn, 1) := by decide +kernel
set_option maxRecDepth 20000 in
theorem ggX12_goes_X12_isSet : GoodIn wsX12_goes wsX12_isSet := goodIn_r _ [8, 9, 10, 11, 12, 7, 13, 14, 15, 16, 17, 26, 27, 28, 29, 30, 31, 32, 33, 34, 35, 36, 37, 38, 39, 40, 41, 42, 43, 44, 45, 46, 47, 48, 49, 50, 51, 52, 53, 54, 55] (by decide +kernel) (by decide +kernel)
set_option maxRecDepth 20000 in
theorem gX12_goes_X12_isSet : GoodIn wsX12_goes (wsV RX12 126 RX12 yX12_isSet wsX12_isSet) := goodIn_app (goodIn_of _ (by decide +kernel)) ggX12_goes_X12_isSet
set_option maxRecDepth 20000 in
theorem ggX12_goes_X12_next : GoodIn wsX12_goes wsX12_next := goodIn_r _ [21, 9, 22, 23, 24, 7, 25, 26, 27, 28, 29, 30, 31, 32, 33, 34, 35, 36, 37, 38, 39, 40, 41, 42, 43, 44, 45, 46, 47, 48, 49, 50, 51, 52, 53, 54, 55] (by decide +kernel) (by decide +kernel)
set_option maxRecDepth 20000 in
theorem gX12_goes_X12_next : GoodIn wsX12_goes (wsV RX12 129 RX12 yX12_next wsX12_next) := goodIn_app (goodIn_of _ (by decide +kernel)) ggX12_goes_X12_next
theorem dX12_goes_0 : decode cX12_goes 0 = .ok (.aload_n 0, 1) := by decide +kernel
theorem dX12_goes_1 : decode cX12_goes 1 = .ok (.iload_n 1, 1) := by decide +kernel
theorem dX12_goes_2 : decode cX12_goes 2 = .ok (.iload_n 2, 1) := by decide +kernel
theorem dX12_goes_3 : decode cX12_goes 3 = .ok (.invokevirtual 126, 3) := by decide +kernel
theorem dX12_goes_6 : decode cX12_goes 6 = .ok (.ifCond .ne 6, 3) := by decide +kernel
theorem dX12_goes_9 : decode cX12_goes 9 = .ok (.bipush (-2), 2) := by decide +kernel
theorem dX12_goes_11 : decode cX12_goes 11 = .ok (.ireturn, 1) := by decide +kernel
theorem dX12_goes_12 : decode cX12_goes 12 = .ok (.iconst 0, 1) := by decide +kernel
theorem dX12_goes_13 : decode cX12_goes 13 = .ok (.istore_n 3, 1) := by decide +kernel
theorem dX12_goes_14 : decode cX12_goes 14 = .ok (.iload_n 3, 1) := by decide +kernel
theorem dX12_goes_15 : decode cX12_goes 15 = .ok (.aload_n 0, 1) := by decide +kernel
theorem dX12_goes_16 : decode cX12_goes 16 = .ok (.getfield 123, 3) := by decide +kernel
theorem dX12_goes_19 : decode cX12_goes 19 = .ok (.if_icmp .ge 27, 3) := by decide +kernel
theorem dX12_goes_22 : decode cX12_goes 22 = .ok (.aload_n 0, 1) := by decide +kernel
theorem dX12_goes_23 : decode cX12_goes 23 = .ok (.getfield 28, 3) := by decide +kernel
theorem dX12_goes_26 : decode cX12_goes 26 = .ok (.iload_n 3, 1) := by decide +kernel
theorem dX12_goes_27 : decode cX12_goes 27 = .ok (.iaload, 1) := by decide +kernel
theorem dX12_goes_28 : decode cX12_goes 28 = .ok (.aload_n 0, 1) := by decide +kernel
theorem dX12_goes_29 : decode cX12_goes 29 = .ok (.getfield 13, 3) := by decide +kernel
theorem dX12_goes_32 : decode cX12_goes 32 = .ok (.iload_n 1, 1) := by decide +kernel
theorem dX12_goes_33 : decode cX12_goes 33 = .ok (.iaload, 1) := by decide +kernel
theorem dX12_goes_34 : decode cX12_goes 34 = .ok (.if_icmp .lt 6, 3) := by decide +kernel
theorem dX12_goes_37 : decode cX12_goes 37 = .ok (.bipush (-2), 2) := by decide +kernel
theorem dX12_goes_39 : decode cX12_goes 39 = .ok (.ireturn, 1) := by decide +kernel
theorem dX12_goes_40 : decode cX12_goes 40 = .ok (.iinc 3 1, 3) := by decide +kernel
theorem dX12_goes_43 : decode cX12_goes 43 = .ok (.goto (-29), 3) := by decide +kernel
theorem dX12_goes_46 : decode cX12_goes 46 = .ok (.iload_n 2, 1) := by decide +kernel
theorem dX12_goes_47 : decode cX12_goes 47 = .ok (.istore_n 3, 1) := by decide +kernel
theorem dX12_goes_48 : decode cX12_goes 48 = .ok (.iconst 0, 1) := by decide +kernel
theorem dX12_goes_49 : decode cX12_goes 49 = .ok (.istore 4, 2) := by decide +kernel
theorem dX12_goes_51 : decode cX12_goes 51 = .ok (.iload 4, 2) := by decide +kernel
theorem dX12_goes_53 : decode cX12_goes 53 = .ok (.aload_n 0, 1) := by decide +kernel
theorem dX12_goes_54 : decode cX12_goes 54 = .ok (.getfield 123, 3) := by decide +kernel
theorem dX12_goes_57 : decode cX12_goes 57 = .ok (.if_icmp .ge 27, 3) := by decide +kernel
theorem dX12_goes_60 : decode cX12_goes 60 = .ok (.iload_n 3, 1) := by decide +kernel
theorem dX12_goes_61 : decode cX12_goes 61 = .ok (.ifCond .le 23, 3) := by decide +kernel
theorem dX12_goes_64 : decode cX12_goes 64 = .ok (.aload_n 0, 1) := by decide +kernel
theorem dX12_goes_65 : decode cX12_goes 65 = .ok (.iload_n 1, 1) := by decide +kernel
theorem dX12_goes_66 : decode cX12_goes 66 = .ok (.iload_n 3, 1) := by decide +kernel
theorem dX12_goes_67 : decode cX12_goes 67 = .ok (.aload_n 0, 1) := by decide +kernel
theorem dX12_goes_68 : decode cX12_goes 68 = .ok (.getfield 28, 3) := by decide +kernel
theorem dX12_goes_71 : decode cX12_goes 71 = .ok (.iload 4, 2) := by decide +kernel
theorem dX12_goes_73 : decode cX12_goes 73 = .ok (.iaload, 1) := by decide +kernel
theorem dX12_goes_74 : decode cX12_goes 74 = .ok (.invokevirtual 129, 3) := by decide +kernel
theorem dX12_goes_77 : decode cX12_goes 77 = .ok (.istore_n 3, 1) := by decide +kernel
theorem dX12_goes_78 : decode cX12_goes 78 = .ok (.iinc 4 1, 3) := by decide +kernel
theorem dX12_goes_81 : decode cX12_goes 81 = .ok (.goto (-30), 3) := by decide +kernel
theorem dX12_goes_84 : decode cX12_goes 84 = .ok (.iload_n 3, 1) := by decide +kernel
theorem dX12_goes_85 : decode cX12_goes 85 = .ok (.ifCond .ne 7, 3) := by decide +kernel
theorem dX12_goes_88 : decode cX12_goes 88 = .ok (.iconst (-1), 1) := by decide +kernel
theorem dX12_goes_89 : decode cX12_goes 89 = .ok (.goto 4, 3) := by decide +kernel
theorem dX12_goes_92 : decode cX12_goes 92 = .ok (.iload_n 3, 1) := by decide +kernel
theorem dX12_goes_93 : decode cX12_goes 93 = .ok (.ireturn, 1) := by decide +kernel
theorem dX12_many_0 : decode cX12_many 0 = .ok (.iconst 0, 1) := by decide +kernel
theorem dX12_many_1 : decode cX12_many 1 = .ok (.istore_n 1, 1) := by decide +kernel
theorem dX12_many_2 : decode cX12_many 2 = .ok (.iload_n 0, 1) := by decide +kernel
theorem dX12_many_3 : decode cX12_many 3 = .ok (.istore_n 2, 1) := by decide +kernel
theorem dX12_many_4 : decode cX12_many 4 = .ok (.iload_n 2, 1) := by decide +kernel
theorem dX12_many_5 : decode cX12_many 5 = .ok (.ifCond .le 16, 3) := by decide +kernel
theorem dX12_many_8 : decode cX12_many 8 = .ok (.iload_n 1, 1) := by decide +kernel
theorem dX12_many_9 : decode cX12_many 9 = .ok (.iload_n 2, 1) := by decide +kernel
theorem dX12_many_10 : decode cX12_many 10 = .ok (.iconst 1, 1) := by decide +kernel
theorem dX12_many_11 : decode cX12_many 11 = .ok (.iand, 1) := by decide +kernel
theorem dX12_many_12 : decode cX12_many 12 = .ok (.iadd, 1) := by decide +kernel
theorem dX12_many_13 : decode cX12_many 13 = .ok (.istore_n 1, 1) := by decide +kernel
theorem dX12_many_14 : decode cX12_many 14 = .ok (.iload_n 2, 1) := by decide +kernel
theorem dX12_many_15 : decode cX12_many 15 = .ok (.iconst 1, 1) := by decide +kernel
theorem dX12_many_16 : decode cX12_many 16 = .ok (.ishr, 1) := by decide +kernel
theorem dX12_many_17 : decode cX12_many 17 = .ok (.istore_n 2, 1) := by decide +kernel
theorem dX12_many_18 : decode cX12_many 18 = .ok (.goto (-14), 3) := by decide +kernel
theorem dX12_many_21 : decode cX12_many 21 = .ok (.iload_n 1, 1) := by decide +kernel
theorem dX12_many_22 : decode cX12_many 22 = .ok (.ireturn, 1) := by decide +kernel
set_option maxRecDepth 20000 in
theorem ggX12_isWanted_X12_many : GoodIn wsX12_isWanted wsX12_many := goodIn_r _ [4] (by decide +kernel) (by decide +kernel)
set_option maxRecDepth 20000 in
theorem gX12_isWanted_X12_many : GoodIn wsX12_isWanted (va_wsS RX12 132 yX12_many wsX12_many) := goodIn_app (goodIn_of _ (by decide +kernel)) ggX12_isWanted_X12_many
theorem dX12_isWanted_0 : decode cX12_isWanted 0 = .ok (.iload_n 2, 1) := by decide +kernel
theorem dX12_isWanted_1 : decode cX12_isWanted 1 = .ok (.ifCond .ne 19, 3) := by decide +kernel
theorem dX12_isWanted_4 : decode cX12_isWanted 4 = .ok (.iload_n 1, 1) := by decide +kernel
theorem dX12_isWanted_5 : decode cX12_isWanted 5 = .ok (.invokestatic 132, 3) := by decide +kernel
theorem dX12_isWanted_8 : decode cX12_isWanted 8 = .ok (.iconst 1, 1) := by decide +kernel
theorem dX12_isWanted_9 : decode cX12_isWanted 9 = .ok (.if_icmp .ne 7, 3) := by decide +kernel
theorem dX12_isWanted_12 : decode cX12_isWanted 12 = .ok (.iconst 1, 1) := by decide +kernel
theorem dX12_isWanted_13 : decode cX12_isWanted 13 = .ok (.goto 17, 3) := by decide +kernel
theorem dX12_isWanted_16 : decode cX12_isWanted 16 = .ok (.iconst 0, 1) := by decide +kernel
theorem dX12_isWanted_17 : decode cX12_isWanted 17 = .ok (.goto 13, 3) := by decide +kernel
theorem dX12_isWanted_20 : decode cX12_isWanted 20 = .ok (.iload_n 1, 1) := by decide +kernel
theorem dX12_isWanted_21 : decode cX12_isWanted 21 = .ok (.iload_n 2, 1) := by decide +kernel
theorem dX12_isWanted_22 : decode cX12_isWanted 22 = .ok (.if_icmp .ne 7, 3) := by decide +kernel
theorem dX12_isWanted_25 : decode cX12_isWanted 25 = .ok (.iconst 1, 1) := by decide +kernel
theorem dX12_isWanted_26 : decode cX12_isWanted 26 = .ok (.goto 4, 3) := by decide +kernel
theorem dX12_isWanted_29 : decode cX12_isWanted 29 = .ok (.iconst 0, 1) := by decide +kernel
theorem dX12_isWanted_30 : decode cX12_isWanted 30 = .ok (.ireturn, 1) := by decide +kernel
set_option maxRecDepth 20000 in
theorem ggX12_looks_X12_isWanted : GoodIn wsX12_looks wsX12_isWanted := goodIn_r _ [11, 12, 13, 10, 14] (by decide +kernel) (by decide +kernel)
set_option maxRecDepth 20000 in
theorem gX12_looks_X12_isWanted : GoodIn wsX12_looks (wsV RX12 139 RX12 yX12_isWanted wsX12_isWanted) := goodIn_app (goodIn_of _ (by decide +kernel)) ggX12_looks_X12_isWanted
set_option maxRecDepth 20000 in
theorem ggX12_looks_X12_next : GoodIn wsX12_looks wsX12_next := goodIn_r _ [18, 19, 20, 21, 22, 10, 23, 24, 25, 26, 27, 28, 29, 30, 31, 32, 33, 34, 35, 36, 37, 38, 39, 40, 41, 42, 43, 44, 45, 46, 47, 48, 49, 50, 51, 52, 53] (by decide +kernel) (by decide +kernel)
set_option maxRecDepth 20000 in
theorem gX12_looks_X12_next : GoodIn wsX12_looks (wsV RX12 129 RX12 yX12_next wsX12_next) := goodIn_app (goodIn_of _ (by decide +kernel)) ggX12_looks_X12_next
theorem dX12_looks_0 : decode cX12_looks 0 = .ok (.iconst 0, 1) := by decide +kernel
theorem dX12_looks_1 : decode cX12_looks 1 = .ok (.istore 4, 2) := by decide +kernel
theorem dX12_looks_3 : decode cX12_looks 3 = .ok (.iload 4, 2) := by decide +kernel
theorem dX12_looks_5 : decode cX12_looks 5 = .ok (.sipush 4096, 3) := by decide +kernel
theorem dX12_looks_8 : decode cX12_looks 8 = .ok (.if_icmp .ge 17, 3) := by decide +kernel
theorem dX12_looks_11 : decode cX12_looks 11 = .ok (.aload_n 0, 1) := by decide +kernel
theorem dX12_looks_12 : decode cX12_looks 12 = .ok (.getfield 40, 3) := by decide +kernel
theorem dX12_looks_15 : decode cX12_looks 15 = .ok (.iload 4, 2) := by decide +kernel
theorem dX12_looks_17 : decode cX12_looks 17 = .ok (.iconst 0, 1) := by decide +kernel
theorem dX12_looks_18 : decode cX12_looks 18 = .ok (.bastore, 1) := by decide +kernel
theorem dX12_looks_19 : decode cX12_looks 19 = .ok (.iinc 4 1, 3) := by decide +kernel
theorem dX12_looks_22 : decode cX12_looks 22 = .ok (.goto (-19), 3) := by decide +kernel
theorem dX12_looks_25 : decode cX12_looks 25 = .ok (.aload_n 0, 1) := by decide +kernel
theorem dX12_looks_26 : decode cX12_looks 26 = .ok (.iconst 1, 1) := by decide +kernel
theorem dX12_looks_27 : decode cX12_looks 27 = .ok (.putfield 136, 3) := by decide +kernel
theorem dX12_looks_30 : decode cX12_looks 30 = .ok (.aload_n 0, 1) := by decide +kernel
theorem dX12_looks_31 : decode cX12_looks 31 = .ok (.getfield 31, 3) := by decide +kernel
theorem dX12_looks_34 : decode cX12_looks 34 = .ok (.iconst 0, 1) := by decide +kernel
theorem dX12_looks_35 : decode cX12_looks 35 = .ok (.iload_n 2, 1) := by decide +kernel
theorem dX12_looks_36 : decode cX12_looks 36 = .ok (.iastore, 1) := by decide +kernel
theorem dX12_looks_37 : decode cX12_looks 37 = .ok (.aload_n 0, 1) := by decide +kernel
theorem dX12_looks_38 : decode cX12_looks 38 = .ok (.getfield 40, 3) := by decide +kernel
theorem dX12_looks_41 : decode cX12_looks 41 = .ok (.iload_n 2, 1) := by decide +kernel
theorem dX12_looks_42 : decode cX12_looks 42 = .ok (.iconst 1, 1) := by decide +kernel
theorem dX12_looks_43 : decode cX12_looks 43 = .ok (.bastore, 1) := by decide +kernel
theorem dX12_looks_44 : decode cX12_looks 44 = .ok (.aload_n 0, 1) := by decide +kernel
theorem dX12_looks_45 : decode cX12_looks 45 = .ok (.getfield 34, 3) := by decide +kernel
theorem dX12_looks_48 : decode cX12_looks 48 = .ok (.iload_n 2, 1) := by decide +kernel
theorem dX12_looks_49 : decode cX12_looks 49 = .ok (.iconst 0, 1) := by decide +kernel
theorem dX12_looks_50 : decode cX12_looks 50 = .ok (.iastore, 1) := by decide +kernel
theorem dX12_looks_51 : decode cX12_looks 51 = .ok (.iload_n 3, 1) := by decide +kernel
theorem dX12_looks_52 : decode cX12_looks 52 = .ok (.ifCond .lt 14, 3) := by decide +kernel
theorem dX12_looks_55 : decode cX12_looks 55 = .ok (.aload_n 0, 1) := by decide +kernel
theorem dX12_looks_56 : decode cX12_looks 56 = .ok (.iload_n 2, 1) := by decide +kernel
theorem dX12_looks_57 : decode cX12_looks 57 = .ok (.iload_n 3, 1) := by decide +kernel
theorem dX12_looks_58 : decode cX12_looks 58 = .ok (.invokevirtual 139, 3) := by decide +kernel
theorem dX12_looks_61 : decode cX12_looks 61 = .ok (.ifCond .eq 5, 3) := by decide +kernel
theorem dX12_looks_64 : decode cX12_looks 64 = .ok (.iload_n 2, 1) := by decide +kernel
theorem dX12_looks_65 : decode cX12_looks 65 = .ok (.ireturn, 1) := by decide +kernel
theorem dX12_looks_66 : decode cX12_looks 66 = .ok (.iconst 0, 1) := by decide +kernel
theorem dX12_looks_67 : decode cX12_looks 67 = .ok (.istore 4, 2) := by decide +kernel
theorem dX12_looks_69 : decode cX12_looks 69 = .ok (.iload 4, 2) := by decide +kernel
theorem dX12_looks_71 : decode cX12_looks 71 = .ok (.aload_n 0, 1) := by decide +kernel
theorem dX12_looks_72 : decode cX12_looks 72 = .ok (.getfield 136, 3) := by decide +kernel
theorem dX12_looks_75 : decode cX12_looks 75 = .ok (.if_icmp .ge 129, 3) := by decide +kernel
theorem dX12_looks_78 : decode cX12_looks 78 = .ok (.iconst 0, 1) := by decide +kernel
theorem dX12_looks_79 : decode cX12_looks 79 = .ok (.istore 5, 2) := by decide +kernel
theorem dX12_looks_81 : decode cX12_looks 81 = .ok (.iload 5, 2) := by decide +kernel
theorem dX12_looks_83 : decode cX12_looks 83 = .ok (.aload_n 0, 1) := by decide +kernel
theorem dX12_looks_84 : decode cX12_looks 84 = .ok (.getfield 13, 3) := by decide +kernel
theorem dX12_looks_87 : decode cX12_looks 87 = .ok (.iload_n 1, 1) := by decide +kernel
theorem dX12_looks_88 : decode cX12_looks 88 = .ok (.iaload, 1) := by decide +kernel
theorem dX12_looks_89 : decode cX12_looks 89 = .ok (.if_icmp .ge 109, 3) := by decide +kernel
theorem dX12_looks_92 : decode cX12_looks 92 = .ok (.aload_n 0, 1) := by decide +kernel
theorem dX12_looks_93 : decode cX12_looks 93 = .ok (.iload_n 1, 1) := by decide +kernel
theorem dX12_looks_94 : decode cX12_looks 94 = .ok (.aload_n 0, 1) := by decide +kernel
theorem dX12_looks_95 : decode cX12_looks 95 = .ok (.getfield 31, 3) := by decide +kernel
theorem dX12_looks_98 : decode cX12_looks 98 = .ok (.iload 4, 2) := by decide +kernel
theorem dX12_looks_100 : decode cX12_looks 100 = .ok (.iaload, 1) := by decide +kernel
theorem dX12_looks_101 : decode cX12_looks 101 = .ok (.iload 5, 2) := by decide +kernel
theorem dX12_looks_103 : decode cX12_looks 103 = .ok (.invokevirtual 129, 3) := by decide +kernel
theorem dX12_looks_106 : decode cX12_looks 106 = .ok (.istore 6, 2) := by decide +kernel
theorem dX12_looks_108 : decode cX12_looks 108 = .ok (.iload 6, 2) := by decide +kernel
theorem dX12_looks_110 : decode cX12_looks 110 = .ok (.ifCond .le 82, 3) := by decide +kernel
theorem dX12_looks_113 : decode cX12_looks 113 = .ok (.aload_n 0, 1) := by decide +kernel
theorem dX12_looks_114 : decode cX12_looks 114 = .ok (.getfield 40, 3) := by decide +kernel
theorem dX12_looks_117 : decode cX12_looks 117 = .ok (.iload 6, 2) := by decide +kernel
theorem dX12_looks_119 : decode cX12_looks 119 = .ok (.baload, 1) := by decide +kernel
theorem dX12_looks_120 : decode cX12_looks 120 = .ok (.ifCond .ne 72, 3) := by decide +kernel
theorem dX12_looks_123 : decode cX12_looks 123 = .ok (.aload_n 0, 1) := by decide +kernel
theorem dX12_looks_124 : decode cX12_looks 124 = .ok (.getfield 40, 3) := by decide +kernel
theorem dX12_looks_127 : decode cX12_looks 127 = .ok (.iload 6, 2) := by decide +kernel
theorem dX12_looks_129 : decode cX12_looks 129 = .ok (.iconst 1, 1) := by decide +kernel
theorem dX12_looks_130 : decode cX12_looks 130 = .ok (.bastore, 1) := by decide +kernel
theorem dX12_looks_131 : decode cX12_looks 131 = .ok (.aload_n 0, 1) := by decide +kernel
theorem dX12_looks_132 : decode cX12_looks 132 = .ok (.getfield 34, 3) := by decide +kernel
theorem dX12_looks_135 : decode cX12_looks 135 = .ok (.iload 6, 2) := by decide +kernel
theorem dX12_looks_137 : decode cX12_looks 137 = .ok (.aload_n 0, 1) := by decide +kernel
theorem dX12_looks_138 : decode cX12_looks 138 = .ok (.getfield 31, 3) := by decide +kernel
theorem dX12_looks_141 : decode cX12_looks 141 = .ok (.iload 4, 2) := by decide +kernel
theorem dX12_looks_143 : decode cX12_looks 143 = .ok (.iaload, 1) := by decide +kernel
theorem dX12_looks_144 : decode cX12_looks 144 = .ok (.iastore, 1) := by decide +kernel
theorem dX12_looks_145 : decode cX12_looks 145 = .ok (.aload_n 0, 1) := by decide +kernel
theorem dX12_looks_146 : decode cX12_looks 146 = .ok (.getfield 37, 3) := by decide +kernel
theorem dX12_looks_149 : decode cX12_looks 149 = .ok (.iload 6, 2) := by decide +kernel
theorem dX12_looks_151 : decode cX12_looks 151 = .ok (.iload 5, 2) := by decide +kernel
theorem dX12_looks_153 : decode cX12_looks 153 = .ok (.iastore, 1) := by decide +kernel
theorem dX12_looks_154 : decode cX12_looks 154 = .ok (.aload_n 0, 1) := by decide +kernel
theorem dX12_looks_155 : decode cX12_looks 155 = .ok (.getfield 31, 3) := by decide +kernel
theorem dX12_looks_158 : decode cX12_looks 158 = .ok (.aload_n 0, 1) := by decide +kernel
theorem dX12_looks_159 : decode cX12_looks 159 = .ok (.getfield 136, 3) := by decide +kernel
theorem dX12_looks_162 : decode cX12_looks 162 = .ok (.iload 6, 2) := by decide +kernel
theorem dX12_looks_164 : decode cX12_looks 164 = .ok (.iastore, 1) := by decide +kernel
theorem dX12_looks_165 : decode cX12_looks 165 = .ok (.aload_n 0, 1) := by decide +kernel
theorem dX12_looks_166 : decode cX12_looks 166 = .ok (.dup, 1) := by decide +kernel
theorem dX12_looks_167 : decode cX12_looks 167 = .ok (.getfield 136, 3) := by decide +kernel
theorem dX12_looks_170 : decode cX12_looks 170 = .ok (.iconst 1, 1) := by decide +kernel
theorem dX12_looks_171 : decode cX12_looks 171 = .ok (.iadd, 1) := by decide +kernel
theorem dX12_looks_172 : decode cX12_looks 172 = .ok (.putfield 136, 3) := by decide +kernel
theorem dX12_looks_175 : decode cX12_looks 175 = .ok (.iload_n 3, 1) := by decide +kernel
theorem dX12_looks_176 : decode cX12_looks 176 = .ok (.ifCond .lt 16, 3) := by decide +kernel
theorem dX12_looks_179 : decode cX12_looks 179 = .ok (.aload_n 0, 1) := by decide +kernel
theorem dX12_looks_180 : decode cX12_looks 180 = .ok (.iload 6, 2) := by decide +kernel
theorem dX12_looks_182 : decode cX12_looks 182 = .ok (.iload_n 3, 1) := by decide +kernel
theorem dX12_looks_183 : decode cX12_looks 183 = .ok (.invokevirtual 139, 3) := by decide +kernel
theorem dX12_looks_186 : decode cX12_looks 186 = .ok (.ifCond .eq 6, 3) := by decide +kernel
theorem dX12_looks_189 : decode cX12_looks 189 = .ok (.iload 6, 2) := by decide +kernel
theorem dX12_looks_191 : decode cX12_looks 191 = .ok (.ireturn, 1) := by decide +kernel
theorem dX12_looks_192 : decode cX12_looks 192 = .ok (.iinc 5 1, 3) := by decide +kernel
theorem dX12_looks_195 : decode cX12_looks 195 = .ok (.goto (-114), 3) := by decide +kernel
theorem dX12_looks_198 : decode cX12_looks 198 = .ok (.iinc 4 1, 3) := by decide +kernel
theorem dX12_looks_201 : decode cX12_looks 201 = .ok (.goto (-132), 3) := by decide +kernel
theorem dX12_looks_204 : decode cX12_looks 204 = .ok (.iconst 0, 1) := by decide +kernel
theorem dX12_looks_205 : decode cX12_looks 205 = .ok (.ireturn, 1) := by decide +kernel
theorem dX12_longTo_0 : decode cX12_longTo 0 = .ok (.iconst 0, 1) := by decide +kernel
theorem dX12_longTo_1 : decode cX12_longTo 1 = .ok (.istore_n 2, 1) := by decide +kernel
theorem dX12_longTo_2 : decode cX12_longTo 2 = .ok (.aload_n 0, 1) := by decide +kernel
theorem dX12_longTo_3 : decode cX12_longTo 3 = .ok (.getfield 34, 3) := by decide +kernel
theorem dX12_longTo_6 : decode cX12_longTo 6 = .ok (.iload_n 1, 1) := by decide +kernel
theorem dX12_longTo_7 : decode cX12_longTo 7 = .ok (.iaload, 1) := by decide +kernel
theorem dX12_longTo_8 : decode cX12_longTo 8 = .ok (.istore_n 3, 1) := by decide +kernel
theorem dX12_longTo_9 : decode cX12_longTo 9 = .ok (.iload_n 3, 1) := by decide +kernel
theorem dX12_longTo_10 : decode cX12_longTo 10 = .ok (.ifCond .le 16, 3) := by decide +kernel
theorem dX12_longTo_13 : decode cX12_longTo 13 = .ok (.iinc 2 1, 3) := by decide +kernel
theorem dX12_longTo_16 : decode cX12_longTo 16 = .ok (.aload_n 0, 1) := by decide +kernel
theorem dX12_longTo_17 : decode cX12_longTo 17 = .ok (.getfield 34, 3) := by decide +kernel
theorem dX12_longTo_20 : decode cX12_longTo 20 = .ok (.iload_n 3, 1) := by decide +kernel
theorem dX12_longTo_21 : decode cX12_longTo 21 = .ok (.iaload, 1) := by decide +kernel
theorem dX12_longTo_22 : decode cX12_longTo 22 = .ok (.istore_n 3, 1) := by decide +kernel
theorem dX12_longTo_23 : decode cX12_longTo 23 = .ok (.goto (-14), 3) := by decide +kernel
theorem dX12_longTo_26 : decode cX12_longTo 26 = .ok (.iload_n 2, 1) := by decide +kernel
theorem dX12_longTo_27 : decode cX12_longTo 27 = .ok (.ireturn, 1) := by decide +kernel
set_option maxRecDepth 20000 in
theorem ggX12_becomesWord_X12_longTo : GoodIn wsX12_becomesWord wsX12_longTo := goodIn_r _ [9, 4, 10, 11, 12, 13, 14, 15, 16, 17, 18, 19, 20, 21, 22, 23, 24, 25, 26, 27, 28, 29, 30, 31, 32, 33, 34, 35, 36, 37, 38, 39] (by decide +kernel) (by decide +kernel)
set_option maxRecDepth 20000 in
theorem gX12_becomesWord_X12_longTo : GoodIn wsX12_becomesWord (wsV RX12 142 RX12 yX12_longTo wsX12_longTo) := goodIn_app (goodIn_of _ (by decide +kernel)) ggX12_becomesWord_X12_longTo
theorem dX12_becomesWord_0 : decode cX12_becomesWord 0 = .ok (.aload_n 0, 1) := by decide +kernel
theorem dX12_becomesWord_1 : decode cX12_becomesWord 1 = .ok (.iload_n 1, 1) := by decide +kernel
theorem dX12_becomesWord_2 : decode cX12_becomesWord 2 = .ok (.invokevirtual 142, 3) := by decide +kernel
theorem dX12_becomesWord_5 : decode cX12_becomesWord 5 = .ok (.istore_n 2, 1) := by decide +kernel
theorem dX12_becomesWord_6 : decode cX12_becomesWord 6 = .ok (.iload_n 2, 1) := by decide +kernel
theorem dX12_becomesWord_7 : decode cX12_becomesWord 7 = .ok (.sipush 600, 3) := by decide +kernel
theorem dX12_becomesWord_10 : decode cX12_becomesWord 10 = .ok (.if_icmp .gt 46, 3) := by decide +kernel
theorem dX12_becomesWord_13 : decode cX12_becomesWord 13 = .ok (.aload_n 0, 1) := by decide +kernel
theorem dX12_becomesWord_14 : decode cX12_becomesWord 14 = .ok (.iload_n 2, 1) := by decide +kernel
theorem dX12_becomesWord_15 : decode cX12_becomesWord 15 = .ok (.putfield 123, 3) := by decide +kernel
theorem dX12_becomesWord_18 : decode cX12_becomesWord 18 = .ok (.iload_n 1, 1) := by decide +kernel
theorem dX12_becomesWord_19 : decode cX12_becomesWord 19 = .ok (.istore_n 3, 1) := by decide +kernel
theorem dX12_becomesWord_20 : decode cX12_becomesWord 20 = .ok (.iload_n 2, 1) := by decide +kernel
theorem dX12_becomesWord_21 : decode cX12_becomesWord 21 = .ok (.iconst 1, 1) := by decide +kernel
theorem dX12_becomesWord_22 : decode cX12_becomesWord 22 = .ok (.isub, 1) := by decide +kernel
theorem dX12_becomesWord_23 : decode cX12_becomesWord 23 = .ok (.istore 4, 2) := by decide +kernel
theorem dX12_becomesWord_25 : decode cX12_becomesWord 25 = .ok (.iload 4, 2) := by decide +kernel
theorem dX12_becomesWord_27 : decode cX12_becomesWord 27 = .ok (.ifCond .lt 29, 3) := by decide +kernel
theorem dX12_becomesWord_30 : decode cX12_becomesWord 30 = .ok (.aload_n 0, 1) := by decide +kernel
theorem dX12_becomesWord_31 : decode cX12_becomesWord 31 = .ok (.getfield 28, 3) := by decide +kernel
theorem dX12_becomesWord_34 : decode cX12_becomesWord 34 = .ok (.iload 4, 2) := by decide +kernel
theorem dX12_becomesWord_36 : decode cX12_becomesWord 36 = .ok (.aload_n 0, 1) := by decide +kernel
theorem dX12_becomesWord_37 : decode cX12_becomesWord 37 = .ok (.getfield 37, 3) := by decide +kernel
theorem dX12_becomesWord_40 : decode cX12_becomesWord 40 = .ok (.iload_n 3, 1) := by decide +kernel
theorem dX12_becomesWord_41 : decode cX12_becomesWord 41 = .ok (.iaload, 1) := by decide +kernel
theorem dX12_becomesWord_42 : decode cX12_becomesWord 42 = .ok (.iastore, 1) := by decide +kernel
theorem dX12_becomesWord_43 : decode cX12_becomesWord 43 = .ok (.aload_n 0, 1) := by decide +kernel
theorem dX12_becomesWord_44 : decode cX12_becomesWord 44 = .ok (.getfield 34, 3) := by decide +kernel
theorem dX12_becomesWord_47 : decode cX12_becomesWord 47 = .ok (.iload_n 3, 1) := by decide +kernel
theorem dX12_becomesWord_48 : decode cX12_becomesWord 48 = .ok (.iaload, 1) := by decide +kernel
theorem dX12_becomesWord_49 : decode cX12_becomesWord 49 = .ok (.istore_n 3, 1) := by decide +kernel
theorem dX12_becomesWord_50 : decode cX12_becomesWord 50 = .ok (.iinc 4 (-1), 3) := by decide +kernel
theorem dX12_becomesWord_53 : decode cX12_becomesWord 53 = .ok (.goto (-28), 3) := by decide +kernel
theorem dX12_becomesWord_56 : decode cX12_becomesWord 56 = .ok (.iload_n 2, 1) := by decide +kernel
theorem dX12_becomesWord_57 : decode cX12_becomesWord 57 = .ok (.ireturn, 1) := by decide +kernel
set_option maxRecDepth 20000 in
theorem ggX12_shortest_X12_isSet : GoodIn wsX12_shortest wsX12_isSet := goodIn_r _ [5, 6, 7, 8, 9, 4, 10, 11, 12, 13, 14, 50, 51, 52, 53, 54, 55, 56, 57, 58, 59, 60, 61, 62, 63, 64, 65, 66, 67, 68, 69, 70, 71, 72, 73, 74, 75, 76, 77, 78, 79] (by decide +kernel) (by decide +kernel)
set_option maxRecDepth 20000 in
theorem gX12_shortest_X12_isSet : GoodIn wsX12_shortest (wsV RX12 126 RX12 yX12_isSet wsX12_isSet) := goodIn_app (goodIn_of _ (by decide +kernel)) ggX12_shortest_X12_isSet
set_option maxRecDepth 20000 in
theorem ggX12_shortest_X12_looks : GoodIn wsX12_shortest wsX12_looks := goodIn_r _ [18, 19, 20, 21, 22, 23, 24, 25, 26, 27, 4, 28, 29, 30, 31, 32, 33, 34, 35, 6, 36, 37, 38, 39, 50, 51, 52, 53, 54, 55, 56, 57, 58, 59, 60, 61, 62, 63, 64, 65, 66, 67, 68, 69, 70, 71, 72, 73, 74, 75, 76, 77, 78, 79] (by decide +kernel) (by decide +kernel)
set_option maxRecDepth 20000 in
theorem gX12_shortest_X12_looks : GoodIn wsX12_shortest (wsV RX12 145 RX12 yX12_looks wsX12_looks) := goodIn_app (goodIn_of _ (by decide +kernel)) ggX12_shortest_X12_looks
set_option maxRecDepth 20000 in
theorem ggX12_shortest_X12_becomesWord : GoodIn wsX12_shortest wsX12_becomesWord := goodIn_r _ [43, 44, 45, 24, 22, 46, 47, 48, 4, 49, 50, 51, 52, 53, 54, 55, 56, 57, 58, 59, 60, 61, 62, 63, 64, 65, 66, 67, 68, 69, 70, 71, 72, 73, 74, 75, 76, 77, 78, 79] (by decide +kernel) (by decide +kernel)
set_option maxRecDepth 20000 in
theorem gX12_shortest_X12_becomesWord : GoodIn wsX12_shortest (wsV RX12 148 RX12 yX12_becomesWord wsX12_becomesWord) := goodIn_app (goodIn_of _ (by decide +kernel)) ggX12_shortest_X12_becomesWord
theorem dX12_shortest_0 : decode cX12_shortest 0 = .ok (.aload_n 0, 1) := by decide +kernel
theorem dX12_shortest_1 : decode cX12_shortest 1 = .ok (.iload_n 1, 1) := by decide +kernel
theorem dX12_shortest_2 : decode cX12_shortest 2 = .ok (.iload_n 2, 1) := by decide +kernel
theorem dX12_shortest_3 : decode cX12_shortest 3 = .ok (.invokevirtual 126, 3) := by decide +kernel
theorem dX12_shortest_6 : decode cX12_shortest 6 = .ok (.ifCond .ne 6, 3) := by decide +kernel
theorem dX12_shortest_9 : decode cX12_shortest 9 = .ok (.bipush (-2), 2) := by decide +kernel
theorem dX12_shortest_11 : decode cX12_shortest 11 = .ok (.ireturn, 1) := by decide +kernel
theorem dX12_shortest_12 : decode cX12_shortest 12 = .ok (.aload_n 0, 1) := by decide +kernel
theorem dX12_shortest_13 : decode cX12_shortest 13 = .ok (.iload_n 1, 1) := by decide +kernel
theorem dX12_shortest_14 : decode cX12_shortest 14 = .ok (.iload_n 2, 1) := by decide +kernel
theorem dX12_shortest_15 : decode cX12_shortest 15 = .ok (.iconst 0, 1) := by decide +kernel
theorem dX12_shortest_16 : decode cX12_shortest 16 = .ok (.invokevirtual 145, 3) := by decide +kernel
theorem dX12_shortest_19 : decode cX12_shortest 19 = .ok (.istore_n 3, 1) := by decide +kernel
theorem dX12_shortest_20 : decode cX12_shortest 20 = .ok (.iload_n 3, 1) := by decide +kernel
theorem dX12_shortest_21 : decode cX12_shortest 21 = .ok (.ifCond .ne 7, 3) := by decide +kernel
theorem dX12_shortest_24 : decode cX12_shortest 24 = .ok (.iconst (-1), 1) := by decide +kernel
theorem dX12_shortest_25 : decode cX12_shortest 25 = .ok (.goto 8, 3) := by decide +kernel
theorem dX12_shortest_28 : decode cX12_shortest 28 = .ok (.aload_n 0, 1) := by decide +kernel
theorem dX12_shortest_29 : decode cX12_shortest 29 = .ok (.iload_n 3, 1) := by decide +kernel
theorem dX12_shortest_30 : decode cX12_shortest 30 = .ok (.invokevirtual 148, 3) := by decide +kernel
theorem dX12_shortest_33 : decode cX12_shortest 33 = .ok (.ireturn, 1) := by decide +kernel
set_option maxRecDepth 20000 in
theorem ggX12_shortestTo_X12_isSet : GoodIn wsX12_shortestTo wsX12_isSet := goodIn_r _ [5, 6, 7, 8, 9, 4, 10, 11, 12, 13, 14, 54, 55, 56, 57, 58, 59, 60, 61, 62, 63, 64, 65, 66, 67, 68, 69, 70, 71, 72, 73, 74, 75, 76, 77, 78, 79, 80, 81, 82, 83] (by decide +kernel) (by decide +kernel)
set_option maxRecDepth 20000 in
theorem gX12_shortestTo_X12_isSet : GoodIn wsX12_shortestTo (wsV RX12 126 RX12 yX12_isSet wsX12_isSet) := goodIn_app (goodIn_of _ (by decide +kernel)) ggX12_shortestTo_X12_isSet
set_option maxRecDepth 20000 in
theorem ggX12_shortestTo_X12_isState : GoodIn wsX12_shortestTo wsX12_isState := goodIn_r _ [18, 6, 7, 8, 9, 4, 10, 11, 12, 13, 14, 54, 55, 56, 57, 58, 59, 60, 61, 62, 63, 64, 65, 66, 67, 68, 69, 70, 71, 72, 73, 74, 75, 76, 77, 78, 79, 80, 81, 82, 83] (by decide +kernel) (by decide +kernel)
set_option maxRecDepth 20000 in
theorem gX12_shortestTo_X12_isState : GoodIn wsX12_shortestTo (wsV RX12 110 RX12 yX12_isState wsX12_isState) := goodIn_app (goodIn_of _ (by decide +kernel)) ggX12_shortestTo_X12_isState
set_option maxRecDepth 20000 in
theorem ggX12_shortestTo_X12_looks : GoodIn wsX12_shortestTo wsX12_looks := goodIn_r _ [22, 23, 24, 25, 26, 27, 28, 29, 30, 31, 4, 32, 33, 34, 35, 36, 37, 38, 39, 6, 40, 41, 42, 43, 54, 55, 56, 57, 58, 59, 60, 61, 62, 63, 64, 65, 66, 67, 68, 69, 70, 71, 72, 73, 74, 75, 76, 77, 78, 79, 80, 81, 82, 83] (by decide +kernel) (by decide +kernel)
set_option maxRecDepth 20000 in
theorem gX12_shortestTo_X12_looks : GoodIn wsX12_shortestTo (wsV RX12 145 RX12 yX12_looks wsX12_looks) := goodIn_app (goodIn_of _ (by decide +kernel)) ggX12_shortestTo_X12_looks
set_option maxRecDepth 20000 in
theorem ggX12_shortestTo_X12_becomesWord : GoodIn wsX12_shortestTo wsX12_becomesWord := goodIn_r _ [47, 48, 49, 28, 26, 50, 51, 52, 4, 53, 54, 55, 56, 57, 58, 59, 60, 61, 62, 63, 64, 65, 66, 67, 68, 69, 70, 71, 72, 73, 74, 75, 76, 77, 78, 79, 80, 81, 82, 83] (by decide +kernel) (by decide +kernel)
set_option maxRecDepth 20000 in
theorem gX12_shortestTo_X12_becomesWord : GoodIn wsX12_shortestTo (wsV RX12 148 RX12 yX12_becomesWord wsX12_becomesWord) := goodIn_app (goodIn_of _ (by decide +kernel)) ggX12_shortestTo_X12_becomesWord
theorem dX12_shortestTo_0 : decode cX12_shortestTo 0 = .ok (.aload_n 0, 1) := by decide +kernel
theorem dX12_shortestTo_1 : decode cX12_shortestTo 1 = .ok (.iload_n 1, 1) := by decide +kernel
theorem dX12_shortestTo_2 : decode cX12_shortestTo 2 = .ok (.iload_n 2, 1) := by decide +kernel
theorem dX12_shortestTo_3 : decode cX12_shortestTo 3 = .ok (.invokevirtual 126, 3) := by decide +kernel
theorem dX12_shortestTo_6 : decode cX12_shortestTo 6 = .ok (.ifCond .eq 12, 3) := by decide +kernel
theorem dX12_shortestTo_9 : decode cX12_shortestTo 9 = .ok (.aload_n 0, 1) := by decide +kernel
theorem dX12_shortestTo_10 : decode cX12_shortestTo 10 = .ok (.iload_n 1, 1) := by decide +kernel
theorem dX12_shortestTo_11 : decode cX12_shortestTo 11 = .ok (.iload_n 3, 1) := by decide +kernel
theorem dX12_shortestTo_12 : decode cX12_shortestTo 12 = .ok (.invokevirtual 110, 3) := by decide +kernel
theorem dX12_shortestTo_15 : decode cX12_shortestTo 15 = .ok (.ifCond .ne 6, 3) := by decide +kernel
theorem dX12_shortestTo_18 : decode cX12_shortestTo 18 = .ok (.bipush (-2), 2) := by decide +kernel
theorem dX12_shortestTo_20 : decode cX12_shortestTo 20 = .ok (.ireturn, 1) := by decide +kernel
theorem dX12_shortestTo_21 : decode cX12_shortestTo 21 = .ok (.aload_n 0, 1) := by decide +kernel
theorem dX12_shortestTo_22 : decode cX12_shortestTo 22 = .ok (.iload_n 1, 1) := by decide +kernel
theorem dX12_shortestTo_23 : decode cX12_shortestTo 23 = .ok (.iload_n 2, 1) := by decide +kernel
theorem dX12_shortestTo_24 : decode cX12_shortestTo 24 = .ok (.iconst 1, 1) := by decide +kernel
theorem dX12_shortestTo_25 : decode cX12_shortestTo 25 = .ok (.iload_n 3, 1) := by decide +kernel
theorem dX12_shortestTo_26 : decode cX12_shortestTo 26 = .ok (.ishl, 1) := by decide +kernel
theorem dX12_shortestTo_27 : decode cX12_shortestTo 27 = .ok (.invokevirtual 145, 3) := by decide +kernel
theorem dX12_shortestTo_30 : decode cX12_shortestTo 30 = .ok (.istore 4, 2) := by decide +kernel
theorem dX12_shortestTo_32 : decode cX12_shortestTo 32 = .ok (.iload 4, 2) := by decide +kernel
theorem dX12_shortestTo_34 : decode cX12_shortestTo 34 = .ok (.ifCond .ne 7, 3) := by decide +kernel
theorem dX12_shortestTo_37 : decode cX12_shortestTo 37 = .ok (.iconst (-1), 1) := by decide +kernel
theorem dX12_shortestTo_38 : decode cX12_shortestTo 38 = .ok (.goto 9, 3) := by decide +kernel
theorem dX12_shortestTo_41 : decode cX12_shortestTo 41 = .ok (.aload_n 0, 1) := by decide +kernel
theorem dX12_shortestTo_42 : decode cX12_shortestTo 42 = .ok (.iload 4, 2) := by decide +kernel
theorem dX12_shortestTo_44 : decode cX12_shortestTo 44 = .ok (.invokevirtual 148, 3) := by decide +kernel
theorem dX12_shortestTo_47 : decode cX12_shortestTo 47 = .ok (.ireturn, 1) := by decide +kernel
set_option maxRecDepth 20000 in
theorem ggX12_rank_X12_isSet : GoodIn wsX12_rank wsX12_isSet := goodIn_r _ [7, 8, 9, 10, 11, 6, 12, 13, 14, 15, 16, 50, 51, 52, 53, 54, 55, 56, 57, 58, 59, 60, 61, 62, 63, 64, 65, 66, 67, 68, 69, 70, 71, 72, 73, 74, 75, 76, 77, 78, 79] (by decide +kernel) (by decide +kernel)
set_option maxRecDepth 20000 in
theorem gX12_rank_X12_isSet : GoodIn wsX12_rank (wsV RX12 126 RX12 yX12_isSet wsX12_isSet) := goodIn_app (goodIn_of _ (by decide +kernel)) ggX12_rank_X12_isSet
set_option maxRecDepth 20000 in
theorem ggX12_rank_X12_looks : GoodIn wsX12_rank wsX12_looks := goodIn_r _ [20, 21, 1, 2, 22, 23, 24, 25, 26, 27, 6, 28, 29, 30, 31, 32, 33, 34, 35, 8, 36, 37, 38, 39, 50, 51, 52, 53, 54, 55, 56, 57, 58, 59, 60, 61, 62, 63, 64, 65, 66, 67, 68, 69, 70, 71, 72, 73, 74, 75, 76, 77, 78, 79] (by decide +kernel) (by decide +kernel)
set_option maxRecDepth 20000 in
theorem gX12_rank_X12_looks : GoodIn wsX12_rank (wsV RX12 145 RX12 yX12_looks wsX12_looks) := goodIn_app (goodIn_of _ (by decide +kernel)) ggX12_rank_X12_looks
set_option maxRecDepth 20000 in
theorem ggX12_rank_X12_many : GoodIn wsX12_rank wsX12_many := goodIn_r _ [31] (by decide +kernel) (by decide +kernel)
set_option maxRecDepth 20000 in
theorem gX12_rank_X12_many : GoodIn wsX12_rank (va_wsS RX12 132 yX12_many wsX12_many) := goodIn_app (goodIn_of _ (by decide +kernel)) ggX12_rank_X12_many
set_option maxRecDepth 20000 in
theorem ggX12_rank_X12_becomesWord : GoodIn wsX12_rank wsX12_becomesWord := goodIn_r _ [43, 44, 45, 24, 22, 46, 47, 48, 6, 49, 50, 51, 52, 53, 54, 55, 56, 57, 58, 59, 60, 61, 62, 63, 64, 65, 66, 67, 68, 69, 70, 71, 72, 73, 74, 75, 76, 77, 78, 79] (by decide +kernel) (by decide +kernel)
set_option maxRecDepth 20000 in
theorem gX12_rank_X12_becomesWord : GoodIn wsX12_rank (wsV RX12 148 RX12 yX12_becomesWord wsX12_becomesWord) := goodIn_app (goodIn_of _ (by decide +kernel)) ggX12_rank_X12_becomesWord
theorem dX12_rank_0 : decode cX12_rank 0 = .ok (.aload_n 0, 1) := by decide +kernel
theorem dX12_rank_1 : decode cX12_rank 1 = .ok (.iload_n 1, 1) := by decide +kernel
theorem dX12_rank_2 : decode cX12_rank 2 = .ok (.iload_n 2, 1) := by decide +kernel
theorem dX12_rank_3 : decode cX12_rank 3 = .ok (.invokevirtual 126, 3) := by decide +kernel
theorem dX12_rank_6 : decode cX12_rank 6 = .ok (.ifCond .ne 6, 3) := by decide +kernel
theorem dX12_rank_9 : decode cX12_rank 9 = .ok (.bipush (-2), 2) := by decide +kernel
theorem dX12_rank_11 : decode cX12_rank 11 = .ok (.ireturn, 1) := by decide +kernel
theorem dX12_rank_12 : decode cX12_rank 12 = .ok (.aload_n 0, 1) := by decide +kernel
theorem dX12_rank_13 : decode cX12_rank 13 = .ok (.iload_n 1, 1) := by decide +kernel
theorem dX12_rank_14 : decode cX12_rank 14 = .ok (.iload_n 2, 1) := by decide +kernel
theorem dX12_rank_15 : decode cX12_rank 15 = .ok (.iconst (-1), 1) := by decide +kernel
theorem dX12_rank_16 : decode cX12_rank 16 = .ok (.invokevirtual 145, 3) := by decide +kernel
theorem dX12_rank_19 : decode cX12_rank 19 = .ok (.pop, 1) := by decide +kernel
theorem dX12_rank_20 : decode cX12_rank 20 = .ok (.iload_n 2, 1) := by decide +kernel
theorem dX12_rank_21 : decode cX12_rank 21 = .ok (.istore_n 3, 1) := by decide +kernel
theorem dX12_rank_22 : decode cX12_rank 22 = .ok (.iconst 1, 1) := by decide +kernel
theorem dX12_rank_23 : decode cX12_rank 23 = .ok (.istore 4, 2) := by decide +kernel
theorem dX12_rank_25 : decode cX12_rank 25 = .ok (.iload 4, 2) := by decide +kernel
theorem dX12_rank_27 : decode cX12_rank 27 = .ok (.aload_n 0, 1) := by decide +kernel
theorem dX12_rank_28 : decode cX12_rank 28 = .ok (.getfield 136, 3) := by decide +kernel
theorem dX12_rank_31 : decode cX12_rank 31 = .ok (.if_icmp .ge 38, 3) := by decide +kernel
theorem dX12_rank_34 : decode cX12_rank 34 = .ok (.aload_n 0, 1) := by decide +kernel
theorem dX12_rank_35 : decode cX12_rank 35 = .ok (.getfield 31, 3) := by decide +kernel
theorem dX12_rank_38 : decode cX12_rank 38 = .ok (.iload 4, 2) := by decide +kernel
theorem dX12_rank_40 : decode cX12_rank 40 = .ok (.iaload, 1) := by decide +kernel
theorem dX12_rank_41 : decode cX12_rank 41 = .ok (.invokestatic 132, 3) := by decide +kernel
theorem dX12_rank_44 : decode cX12_rank 44 = .ok (.iload_n 3, 1) := by decide +kernel
theorem dX12_rank_45 : decode cX12_rank 45 = .ok (.invokestatic 132, 3) := by decide +kernel
theorem dX12_rank_48 : decode cX12_rank 48 = .ok (.if_icmp .ge 13, 3) := by decide +kernel
theorem dX12_rank_51 : decode cX12_rank 51 = .ok (.aload_n 0, 1) := by decide +kernel
theorem dX12_rank_52 : decode cX12_rank 52 = .ok (.getfield 31, 3) := by decide +kernel
theorem dX12_rank_55 : decode cX12_rank 55 = .ok (.iload 4, 2) := by decide +kernel
theorem dX12_rank_57 : decode cX12_rank 57 = .ok (.iaload, 1) := by decide +kernel
theorem dX12_rank_58 : decode cX12_rank 58 = .ok (.goto 4, 3) := by decide +kernel
theorem dX12_rank_61 : decode cX12_rank 61 = .ok (.iload_n 3, 1) := by decide +kernel
theorem dX12_rank_62 : decode cX12_rank 62 = .ok (.istore_n 3, 1) := by decide +kernel
theorem dX12_rank_63 : decode cX12_rank 63 = .ok (.iinc 4 1, 3) := by decide +kernel
theorem dX12_rank_66 : decode cX12_rank 66 = .ok (.goto (-41), 3) := by decide +kernel
theorem dX12_rank_69 : decode cX12_rank 69 = .ok (.aload_n 0, 1) := by decide +kernel
theorem dX12_rank_70 : decode cX12_rank 70 = .ok (.iload_n 3, 1) := by decide +kernel
theorem dX12_rank_71 : decode cX12_rank 71 = .ok (.invokevirtual 148, 3) := by decide +kernel
theorem dX12_rank_74 : decode cX12_rank 74 = .ok (.pop, 1) := by decide +kernel
theorem dX12_rank_75 : decode cX12_rank 75 = .ok (.iload_n 3, 1) := by decide +kernel
theorem dX12_rank_76 : decode cX12_rank 76 = .ok (.invokestatic 132, 3) := by decide +kernel
theorem dX12_rank_79 : decode cX12_rank 79 = .ok (.ireturn, 1) := by decide +kernel
set_option maxRecDepth 20000 in
theorem ggX12_merge_X12_isState : GoodIn wsX12_merge wsX12_isState := goodIn_r _ [5, 6, 7, 8, 9, 4, 10, 11, 12, 13, 14, 44, 45, 46, 47, 48, 49, 50, 51, 52, 53, 54, 55, 56, 57, 58, 59, 60, 61, 62, 63, 64, 65, 66, 67, 68, 69, 70, 71, 72, 73] (by decide +kernel) (by decide +kernel)
set_option maxRecDepth 20000 in
theorem gX12_merge_X12_isState : GoodIn wsX12_merge (wsV RX12 110 RX12 yX12_isState wsX12_isState) := goodIn_app (goodIn_of _ (by decide +kernel)) ggX12_merge_X12_isState
set_option maxRecDepth 20000 in
theorem ggX12_merge_X12_looks : GoodIn wsX12_merge wsX12_looks := goodIn_r _ [18, 19, 20, 21, 22, 23, 24, 25, 26, 27, 4, 28, 29, 30, 31, 32, 33, 34, 35, 6, 36, 37, 38, 39, 44, 45, 46, 47, 48, 49, 50, 51, 52, 53, 54, 55, 56, 57, 58, 59, 60, 61, 62, 63, 64, 65, 66, 67, 68, 69, 70, 71, 72, 73] (by decide +kernel) (by decide +kernel)
set_option maxRecDepth 20000 in
theorem gX12_merge_X12_looks : GoodIn wsX12_merge (wsV RX12 145 RX12 yX12_looks wsX12_looks) := goodIn_app (goodIn_of _ (by decide +kernel)) ggX12_merge_X12_looks
set_option maxRecDepth 20000 in
theorem ggX12_merge_X12_longTo : GoodIn wsX12_merge wsX12_longTo := goodIn_r _ [43, 22, 44, 45, 46, 47, 48, 49, 50, 51, 52, 53, 54, 55, 56, 57, 58, 59, 60, 61, 62, 63, 64, 65, 66, 67, 68, 69, 70, 71, 72, 73] (by decide +kernel) (by decide +kernel)
set_option maxRecDepth 20000 in
theorem gX12_merge_X12_longTo : GoodIn wsX12_merge (wsV RX12 142 RX12 yX12_longTo wsX12_longTo) := goodIn_app (goodIn_of _ (by decide +kernel)) ggX12_merge_X12_longTo
theorem dX12_merge_0 : decode cX12_merge 0 = .ok (.aload_n 0, 1) := by decide +kernel
theorem dX12_merge_1 : decode cX12_merge 1 = .ok (.iload_n 1, 1) := by decide +kernel
theorem dX12_merge_2 : decode cX12_merge 2 = .ok (.iload_n 2, 1) := by decide +kernel
theorem dX12_merge_3 : decode cX12_merge 3 = .ok (.invokevirtual 110, 3) := by decide +kernel
theorem dX12_merge_6 : decode cX12_merge 6 = .ok (.ifCond .eq 17, 3) := by decide +kernel
theorem dX12_merge_9 : decode cX12_merge 9 = .ok (.aload_n 0, 1) := by decide +kernel
theorem dX12_merge_10 : decode cX12_merge 10 = .ok (.iload_n 1, 1) := by decide +kernel
theorem dX12_merge_11 : decode cX12_merge 11 = .ok (.iload_n 3, 1) := by decide +kernel
theorem dX12_merge_12 : decode cX12_merge 12 = .ok (.invokevirtual 110, 3) := by decide +kernel
theorem dX12_merge_15 : decode cX12_merge 15 = .ok (.ifCond .eq 8, 3) := by decide +kernel
theorem dX12_merge_18 : decode cX12_merge 18 = .ok (.iload_n 2, 1) := by decide +kernel
theorem dX12_merge_19 : decode cX12_merge 19 = .ok (.iload_n 3, 1) := by decide +kernel
theorem dX12_merge_20 : decode cX12_merge 20 = .ok (.if_icmp .ne 6, 3) := by decide +kernel
theorem dX12_merge_23 : decode cX12_merge 23 = .ok (.bipush (-2), 2) := by decide +kernel
theorem dX12_merge_25 : decode cX12_merge 25 = .ok (.ireturn, 1) := by decide +kernel
theorem dX12_merge_26 : decode cX12_merge 26 = .ok (.aload_n 0, 1) := by decide +kernel
theorem dX12_merge_27 : decode cX12_merge 27 = .ok (.iload_n 1, 1) := by decide +kernel
theorem dX12_merge_28 : decode cX12_merge 28 = .ok (.iconst 1, 1) := by decide +kernel
theorem dX12_merge_29 : decode cX12_merge 29 = .ok (.iload_n 2, 1) := by decide +kernel
theorem dX12_merge_30 : decode cX12_merge 30 = .ok (.ishl, 1) := by decide +kernel
theorem dX12_merge_31 : decode cX12_merge 31 = .ok (.iconst 1, 1) := by decide +kernel
theorem dX12_merge_32 : decode cX12_merge 32 = .ok (.iload_n 3, 1) := by decide +kernel
theorem dX12_merge_33 : decode cX12_merge 33 = .ok (.ishl, 1) := by decide +kernel
theorem dX12_merge_34 : decode cX12_merge 34 = .ok (.ior, 1) := by decide +kernel
theorem dX12_merge_35 : decode cX12_merge 35 = .ok (.iconst 0, 1) := by decide +kernel
theorem dX12_merge_36 : decode cX12_merge 36 = .ok (.invokevirtual 145, 3) := by decide +kernel
theorem dX12_merge_39 : decode cX12_merge 39 = .ok (.istore 4, 2) := by decide +kernel
theorem dX12_merge_41 : decode cX12_merge 41 = .ok (.iload 4, 2) := by decide +kernel
theorem dX12_merge_43 : decode cX12_merge 43 = .ok (.ifCond .ne 7, 3) := by decide +kernel
theorem dX12_merge_46 : decode cX12_merge 46 = .ok (.iconst (-1), 1) := by decide +kernel
theorem dX12_merge_47 : decode cX12_merge 47 = .ok (.goto 9, 3) := by decide +kernel
theorem dX12_merge_50 : decode cX12_merge 50 = .ok (.aload_n 0, 1) := by decide +kernel
theorem dX12_merge_51 : decode cX12_merge 51 = .ok (.iload 4, 2) := by decide +kernel
theorem dX12_merge_53 : decode cX12_merge 53 = .ok (.invokevirtual 142, 3) := by decide +kernel
theorem dX12_merge_56 : decode cX12_merge 56 = .ok (.ireturn, 1) := by decide +kernel
theorem dX12_isOne_0 : decode cX12_isOne 0 = .ok (.iload_n 1, 1) := by decide +kernel
theorem dX12_isOne_1 : decode cX12_isOne 1 = .ok (.iload_n 2, 1) := by decide +kernel
theorem dX12_isOne_2 : decode cX12_isOne 2 = .ok (.if_icmp .eq 17, 3) := by decide +kernel
theorem dX12_isOne_5 : decode cX12_isOne 5 = .ok (.aload_n 0, 1) := by decide +kernel
theorem dX12_isOne_6 : decode cX12_isOne 6 = .ok (.getfield 44, 3) := by decide +kernel
theorem dX12_isOne_9 : decode cX12_isOne 9 = .ok (.bipush 12, 2) := by decide +kernel
theorem dX12_isOne_11 : decode cX12_isOne 11 = .ok (.iload_n 1, 1) := by decide +kernel
theorem dX12_isOne_12 : decode cX12_isOne 12 = .ok (.imul, 1) := by decide +kernel
theorem dX12_isOne_13 : decode cX12_isOne 13 = .ok (.iload_n 2, 1) := by decide +kernel
theorem dX12_isOne_14 : decode cX12_isOne 14 = .ok (.iadd, 1) := by decide +kernel
theorem dX12_isOne_15 : decode cX12_isOne 15 = .ok (.baload, 1) := by decide +kernel
theorem dX12_isOne_16 : decode cX12_isOne 16 = .ok (.ifCond .eq 7, 3) := by decide +kernel
theorem dX12_isOne_19 : decode cX12_isOne 19 = .ok (.iconst 1, 1) := by decide +kernel
theorem dX12_isOne_20 : decode cX12_isOne 20 = .ok (.goto 4, 3) := by decide +kernel
theorem dX12_isOne_23 : decode cX12_isOne 23 = .ok (.iconst 0, 1) := by decide +kernel
theorem dX12_isOne_24 : decode cX12_isOne 24 = .ok (.ireturn, 1) := by decide +kernel
set_option maxRecDepth 20000 in
theorem ggX12_apartPairs_X12_at : GoodIn wsX12_apartPairs wsX12_at := goodIn_r _ [8] (by decide +kernel) (by decide +kernel)
set_option maxRecDepth 20000 in
theorem gX12_apartPairs_X12_at : GoodIn wsX12_apartPairs (va_wsS RX12 102 yX12_at wsX12_at) := goodIn_app (goodIn_of _ (by decide +kernel)) ggX12_apartPairs_X12_at
set_option maxRecDepth 20000 in
theorem ggX12_apartPairs_X12_isOne : GoodIn wsX12_apartPairs wsX12_isOne := goodIn_r _ [12, 2, 13, 14, 15, 16, 17, 18, 19, 20, 21, 22, 23, 24, 25, 26, 27, 28, 29, 30, 31, 32, 33, 34, 35, 36, 37, 38, 39, 40, 41, 42] (by decide +kernel) (by decide +kernel)
set_option maxRecDepth 20000 in
theorem gX12_apartPairs_X12_isOne : GoodIn wsX12_apartPairs (wsV RX12 151 RX12 yX12_isOne wsX12_isOne) := goodIn_app (goodIn_of _ (by decide +kernel)) ggX12_apartPairs_X12_isOne
theorem dX12_apartPairs_0 : decode cX12_apartPairs 0 = .ok (.aload_n 0, 1) := by decide +kernel
theorem dX12_apartPairs_1 : decode cX12_apartPairs 1 = .ok (.getfield 7, 3) := by decide +kernel
theorem dX12_apartPairs_4 : decode cX12_apartPairs 4 = .ok (.iload_n 1, 1) := by decide +kernel
theorem dX12_apartPairs_5 : decode cX12_apartPairs 5 = .ok (.iaload, 1) := by decide +kernel
theorem dX12_apartPairs_6 : decode cX12_apartPairs 6 = .ok (.istore_n 2, 1) := by decide +kernel
theorem dX12_apartPairs_7 : decode cX12_apartPairs 7 = .ok (.iconst 0, 1) := by decide +kernel
theorem dX12_apartPairs_8 : decode cX12_apartPairs 8 = .ok (.istore_n 3, 1) := by decide +kernel
theorem dX12_apartPairs_9 : decode cX12_apartPairs 9 = .ok (.iload_n 3, 1) := by decide +kernel
theorem dX12_apartPairs_10 : decode cX12_apartPairs 10 = .ok (.sipush 144, 3) := by decide +kernel
theorem dX12_apartPairs_13 : decode cX12_apartPairs 13 = .ok (.if_icmp .ge 16, 3) := by decide +kernel
theorem dX12_apartPairs_16 : decode cX12_apartPairs 16 = .ok (.aload_n 0, 1) := by decide +kernel
theorem dX12_apartPairs_17 : decode cX12_apartPairs 17 = .ok (.getfield 44, 3) := by decide +kernel
theorem dX12_apartPairs_20 : decode cX12_apartPairs 20 = .ok (.iload_n 3, 1) := by decide +kernel
theorem dX12_apartPairs_21 : decode cX12_apartPairs 21 = .ok (.iconst 0, 1) := by decide +kernel
theorem dX12_apartPairs_22 : decode cX12_apartPairs 22 = .ok (.bastore, 1) := by decide +kernel
theorem dX12_apartPairs_23 : decode cX12_apartPairs 23 = .ok (.iinc 3 1, 3) := by decide +kernel
theorem dX12_apartPairs_26 : decode cX12_apartPairs 26 = .ok (.goto (-17), 3) := by decide +kernel
theorem dX12_apartPairs_29 : decode cX12_apartPairs 29 = .ok (.iload_n 2, 1) := by decide +kernel
theorem dX12_apartPairs_30 : decode cX12_apartPairs 30 = .ok (.iload_n 2, 1) := by decide +kernel
theorem dX12_apartPairs_31 : decode cX12_apartPairs 31 = .ok (.iconst 1, 1) := by decide +kernel
theorem dX12_apartPairs_32 : decode cX12_apartPairs 32 = .ok (.isub, 1) := by decide +kernel
theorem dX12_apartPairs_33 : decode cX12_apartPairs 33 = .ok (.imul, 1) := by decide +kernel
theorem dX12_apartPairs_34 : decode cX12_apartPairs 34 = .ok (.iconst 2, 1) := by decide +kernel
theorem dX12_apartPairs_35 : decode cX12_apartPairs 35 = .ok (.idiv, 1) := by decide +kernel
theorem dX12_apartPairs_36 : decode cX12_apartPairs 36 = .ok (.istore_n 3, 1) := by decide +kernel
theorem dX12_apartPairs_37 : decode cX12_apartPairs 37 = .ok (.iconst 1, 1) := by decide +kernel
theorem dX12_apartPairs_38 : decode cX12_apartPairs 38 = .ok (.istore 4, 2) := by decide +kernel
theorem dX12_apartPairs_40 : decode cX12_apartPairs 40 = .ok (.iload 4, 2) := by decide +kernel
theorem dX12_apartPairs_42 : decode cX12_apartPairs 42 = .ok (.ifCond .eq 165, 3) := by decide +kernel
theorem dX12_apartPairs_45 : decode cX12_apartPairs 45 = .ok (.iconst 0, 1) := by decide +kernel
theorem dX12_apartPairs_46 : decode cX12_apartPairs 46 = .ok (.istore 4, 2) := by decide +kernel
theorem dX12_apartPairs_48 : decode cX12_apartPairs 48 = .ok (.iconst 0, 1) := by decide +kernel
theorem dX12_apartPairs_49 : decode cX12_apartPairs 49 = .ok (.istore 5, 2) := by decide +kernel
theorem dX12_apartPairs_51 : decode cX12_apartPairs 51 = .ok (.iload 5, 2) := by decide +kernel
theorem dX12_apartPairs_53 : decode cX12_apartPairs 53 = .ok (.iload_n 2, 1) := by decide +kernel
theorem dX12_apartPairs_54 : decode cX12_apartPairs 54 = .ok (.if_icmp .ge 150, 3) := by decide +kernel
theorem dX12_apartPairs_57 : decode cX12_apartPairs 57 = .ok (.iload 5, 2) := by decide +kernel
theorem dX12_apartPairs_59 : decode cX12_apartPairs 59 = .ok (.iconst 1, 1) := by decide +kernel
theorem dX12_apartPairs_60 : decode cX12_apartPairs 60 = .ok (.iadd, 1) := by decide +kernel
theorem dX12_apartPairs_61 : decode cX12_apartPairs 61 = .ok (.istore 6, 2) := by decide +kernel
theorem dX12_apartPairs_63 : decode cX12_apartPairs 63 = .ok (.iload 6, 2) := by decide +kernel
theorem dX12_apartPairs_65 : decode cX12_apartPairs 65 = .ok (.iload_n 2, 1) := by decide +kernel
theorem dX12_apartPairs_66 : decode cX12_apartPairs 66 = .ok (.if_icmp .ge 132, 3) := by decide +kernel
theorem dX12_apartPairs_69 : decode cX12_apartPairs 69 = .ok (.iconst 0, 1) := by decide +kernel
theorem dX12_apartPairs_70 : decode cX12_apartPairs 70 = .ok (.istore 7, 2) := by decide +kernel
theorem dX12_apartPairs_72 : decode cX12_apartPairs 72 = .ok (.iload 7, 2) := by decide +kernel
theorem dX12_apartPairs_74 : decode cX12_apartPairs 74 = .ok (.aload_n 0, 1) := by decide +kernel
theorem dX12_apartPairs_75 : decode cX12_apartPairs 75 = .ok (.getfield 13, 3) := by decide +kernel
theorem dX12_apartPairs_78 : decode cX12_apartPairs 78 = .ok (.iload_n 1, 1) := by decide +kernel
theorem dX12_apartPairs_79 : decode cX12_apartPairs 79 = .ok (.iaload, 1) := by decide +kernel
theorem dX12_apartPairs_80 : decode cX12_apartPairs 80 = .ok (.if_icmp .ge 112, 3) := by decide +kernel
theorem dX12_apartPairs_83 : decode cX12_apartPairs 83 = .ok (.aload_n 0, 1) := by decide +kernel
theorem dX12_apartPairs_84 : decode cX12_apartPairs 84 = .ok (.getfield 44, 3) := by decide +kernel
theorem dX12_apartPairs_87 : decode cX12_apartPairs 87 = .ok (.bipush 12, 2) := by decide +kernel
theorem dX12_apartPairs_89 : decode cX12_apartPairs 89 = .ok (.iload 5, 2) := by decide +kernel
theorem dX12_apartPairs_91 : decode cX12_apartPairs 91 = .ok (.imul, 1) := by decide +kernel
theorem dX12_apartPairs_92 : decode cX12_apartPairs 92 = .ok (.iload 6, 2) := by decide +kernel
theorem dX12_apartPairs_94 : decode cX12_apartPairs 94 = .ok (.iadd, 1) := by decide +kernel
theorem dX12_apartPairs_95 : decode cX12_apartPairs 95 = .ok (.baload, 1) := by decide +kernel
theorem dX12_apartPairs_96 : decode cX12_apartPairs 96 = .ok (.ifCond .ne 96, 3) := by decide +kernel
theorem dX12_apartPairs_99 : decode cX12_apartPairs 99 = .ok (.aload_n 0, 1) := by decide +kernel
theorem dX12_apartPairs_100 : decode cX12_apartPairs 100 = .ok (.getfield 16, 3) := by decide +kernel
theorem dX12_apartPairs_103 : decode cX12_apartPairs 103 = .ok (.iload_n 1, 1) := by decide +kernel
theorem dX12_apartPairs_104 : decode cX12_apartPairs 104 = .ok (.iload 5, 2) := by decide +kernel
theorem dX12_apartPairs_106 : decode cX12_apartPairs 106 = .ok (.iload 7, 2) := by decide +kernel
theorem dX12_apartPairs_108 : decode cX12_apartPairs 108 = .ok (.invokestatic 102, 3) := by decide +kernel
theorem dX12_apartPairs_111 : decode cX12_apartPairs 111 = .ok (.iaload, 1) := by decide +kernel
theorem dX12_apartPairs_112 : decode cX12_apartPairs 112 = .ok (.istore 8, 2) := by decide +kernel
theorem dX12_apartPairs_114 : decode cX12_apartPairs 114 = .ok (.aload_n 0, 1) := by decide +kernel
theorem dX12_apartPairs_115 : decode cX12_apartPairs 115 = .ok (.getfield 16, 3) := by decide +kernel
theorem dX12_apartPairs_118 : decode cX12_apartPairs 118 = .ok (.iload_n 1, 1) := by decide +kernel
theorem dX12_apartPairs_119 : decode cX12_apartPairs 119 = .ok (.iload 6, 2) := by decide +kernel
theorem dX12_apartPairs_121 : decode cX12_apartPairs 121 = .ok (.iload 7, 2) := by decide +kernel
theorem dX12_apartPairs_123 : decode cX12_apartPairs 123 = .ok (.invokestatic 102, 3) := by decide +kernel
theorem dX12_apartPairs_126 : decode cX12_apartPairs 126 = .ok (.iaload, 1) := by decide +kernel
theorem dX12_apartPairs_127 : decode cX12_apartPairs 127 = .ok (.istore 9, 2) := by decide +kernel
theorem dX12_apartPairs_129 : decode cX12_apartPairs 129 = .ok (.iload 8, 2) := by decide +kernel
theorem dX12_apartPairs_131 : decode cX12_apartPairs 131 = .ok (.iconst (-1), 1) := by decide +kernel
theorem dX12_apartPairs_132 : decode cX12_apartPairs 132 = .ok (.if_icmp .eq 54, 3) := by decide +kernel
theorem dX12_apartPairs_135 : decode cX12_apartPairs 135 = .ok (.iload 9, 2) := by decide +kernel
theorem dX12_apartPairs_137 : decode cX12_apartPairs 137 = .ok (.iconst (-1), 1) := by decide +kernel
theorem dX12_apartPairs_138 : decode cX12_apartPairs 138 = .ok (.if_icmp .eq 48, 3) := by decide +kernel
theorem dX12_apartPairs_141 : decode cX12_apartPairs 141 = .ok (.aload_n 0, 1) := by decide +kernel
theorem dX12_apartPairs_142 : decode cX12_apartPairs 142 = .ok (.iload 8, 2) := by decide +kernel
theorem dX12_apartPairs_144 : decode cX12_apartPairs 144 = .ok (.iload 9, 2) := by decide +kernel
theorem dX12_apartPairs_146 : decode cX12_apartPairs 146 = .ok (.invokevirtual 151, 3) := by decide +kernel
theorem dX12_apartPairs_149 : decode cX12_apartPairs 149 = .ok (.ifCond .eq 37, 3) := by decide +kernel
theorem dX12_apartPairs_152 : decode cX12_apartPairs 152 = .ok (.aload_n 0, 1) := by decide +kernel
theorem dX12_apartPairs_153 : decode cX12_apartPairs 153 = .ok (.getfield 44, 3) := by decide +kernel
theorem dX12_apartPairs_156 : decode cX12_apartPairs 156 = .ok (.bipush 12, 2) := by decide +kernel
theorem dX12_apartPairs_158 : decode cX12_apartPairs 158 = .ok (.iload 5, 2) := by decide +kernel
theorem dX12_apartPairs_160 : decode cX12_apartPairs 160 = .ok (.imul, 1) := by decide +kernel
theorem dX12_apartPairs_161 : decode cX12_apartPairs 161 = .ok (.iload 6, 2) := by decide +kernel
theorem dX12_apartPairs_163 : decode cX12_apartPairs 163 = .ok (.iadd, 1) := by decide +kernel
theorem dX12_apartPairs_164 : decode cX12_apartPairs 164 = .ok (.iconst 1, 1) := by decide +kernel
theorem dX12_apartPairs_165 : decode cX12_apartPairs 165 = .ok (.bastore, 1) := by decide +kernel
theorem dX12_apartPairs_166 : decode cX12_apartPairs 166 = .ok (.aload_n 0, 1) := by decide +kernel
theorem dX12_apartPairs_167 : decode cX12_apartPairs 167 = .ok (.getfield 44, 3) := by decide +kernel
theorem dX12_apartPairs_170 : decode cX12_apartPairs 170 = .ok (.bipush 12, 2) := by decide +kernel
theorem dX12_apartPairs_172 : decode cX12_apartPairs 172 = .ok (.iload 6, 2) := by decide +kernel
theorem dX12_apartPairs_174 : decode cX12_apartPairs 174 = .ok (.imul, 1) := by decide +kernel
theorem dX12_apartPairs_175 : decode cX12_apartPairs 175 = .ok (.iload 5, 2) := by decide +kernel
theorem dX12_apartPairs_177 : decode cX12_apartPairs 177 = .ok (.iadd, 1) := by decide +kernel
theorem dX12_apartPairs_178 : decode cX12_apartPairs 178 = .ok (.iconst 1, 1) := by decide +kernel
theorem dX12_apartPairs_179 : decode cX12_apartPairs 179 = .ok (.bastore, 1) := by decide +kernel
theorem dX12_apartPairs_180 : decode cX12_apartPairs 180 = .ok (.iinc 3 (-1), 3) := by decide +kernel
theorem dX12_apartPairs_183 : decode cX12_apartPairs 183 = .ok (.iconst 1, 1) := by decide +kernel
theorem dX12_apartPairs_184 : decode cX12_apartPairs 184 = .ok (.istore 4, 2) := by decide +kernel
theorem dX12_apartPairs_186 : decode cX12_apartPairs 186 = .ok (.iinc 7 1, 3) := by decide +kernel
theorem dX12_apartPairs_189 : decode cX12_apartPairs 189 = .ok (.goto (-117), 3) := by decide +kernel
theorem dX12_apartPairs_192 : decode cX12_apartPairs 192 = .ok (.iinc 6 1, 3) := by decide +kernel
theorem dX12_apartPairs_195 : decode cX12_apartPairs 195 = .ok (.goto (-132), 3) := by decide +kernel
theorem dX12_apartPairs_198 : decode cX12_apartPairs 198 = .ok (.iinc 5 1, 3) := by decide +kernel
theorem dX12_apartPairs_201 : decode cX12_apartPairs 201 = .ok (.goto (-150), 3) := by decide +kernel
theorem dX12_apartPairs_204 : decode cX12_apartPairs 204 = .ok (.goto (-164), 3) := by decide +kernel
theorem dX12_apartPairs_207 : decode cX12_apartPairs 207 = .ok (.iload_n 3, 1) := by decide +kernel
theorem dX12_apartPairs_208 : decode cX12_apartPairs 208 = .ok (.ireturn, 1) := by decide +kernel
set_option maxRecDepth 20000 in
theorem ggX12_unmerged_X12_isMachine : GoodIn wsX12_unmerged wsX12_isMachine := goodIn_r _ [5, 6, 7, 8, 4, 9, 25, 26, 27, 28, 29, 30, 31, 32, 33, 34, 35, 36, 37, 38, 39, 40, 41, 42, 43, 44, 45, 46, 47, 48, 49, 50, 51, 52, 53, 54] (by decide +kernel) (by decide +kernel)
set_option maxRecDepth 20000 in
theorem gX12_unmerged_X12_isMachine : GoodIn wsX12_unmerged (wsV RX12 106 RX12 yX12_isMachine wsX12_isMachine) := goodIn_app (goodIn_of _ (by decide +kernel)) ggX12_unmerged_X12_isMachine
set_option maxRecDepth 20000 in
theorem ggX12_unmerged_X12_apartPairs : GoodIn wsX12_unmerged wsX12_apartPairs := goodIn_r _ [13, 14, 15, 16, 17, 18, 19, 4, 20, 21, 22, 23, 24, 25, 26, 27, 28, 29, 30, 31, 32, 33, 34, 35, 36, 37, 38, 39, 40, 41, 42, 43, 44, 45, 46, 47, 48, 49, 50, 51, 52, 53, 54] (by decide +kernel) (by decide +kernel)
set_option maxRecDepth 20000 in
theorem gX12_unmerged_X12_apartPairs : GoodIn wsX12_unmerged (wsV RX12 154 RX12 yX12_apartPairs wsX12_apartPairs) := goodIn_app (goodIn_of _ (by decide +kernel)) ggX12_unmerged_X12_apartPairs
theorem dX12_unmerged_0 : decode cX12_unmerged 0 = .ok (.aload_n 0, 1) := by decide +kernel
theorem dX12_unmerged_1 : decode cX12_unmerged 1 = .ok (.iload_n 1, 1) := by decide +kernel
theorem dX12_unmerged_2 : decode cX12_unmerged 2 = .ok (.invokevirtual 106, 3) := by decide +kernel
theorem dX12_unmerged_5 : decode cX12_unmerged 5 = .ok (.ifCond .eq 11, 3) := by decide +kernel
theorem dX12_unmerged_8 : decode cX12_unmerged 8 = .ok (.aload_n 0, 1) := by decide +kernel
theorem dX12_unmerged_9 : decode cX12_unmerged 9 = .ok (.iload_n 1, 1) := by decide +kernel
theorem dX12_unmerged_10 : decode cX12_unmerged 10 = .ok (.invokevirtual 154, 3) := by decide +kernel
theorem dX12_unmerged_13 : decode cX12_unmerged 13 = .ok (.goto 5, 3) := by decide +kernel
theorem dX12_unmerged_16 : decode cX12_unmerged 16 = .ok (.bipush (-2), 2) := by decide +kernel
theorem dX12_unmerged_18 : decode cX12_unmerged 18 = .ok (.ireturn, 1) := by decide +kernel
set_option maxRecDepth 20000 in
theorem ggX12_readPair_X12_longTo : GoodIn wsX12_readPair wsX12_longTo := goodIn_r _ [8, 3, 9, 10, 11, 12, 13, 14, 15, 16, 17, 18, 19, 20, 21, 22, 23, 24, 25, 26, 27, 28, 29, 30, 31, 32, 33, 34, 35, 36, 37, 38] (by decide +kernel) (by decide +kernel)
set_option maxRecDepth 20000 in
theorem gX12_readPair_X12_longTo : GoodIn wsX12_readPair (wsV RX12 142 RX12 yX12_longTo wsX12_longTo) := goodIn_app (goodIn_of _ (by decide +kernel)) ggX12_readPair_X12_longTo
theorem dX12_readPair_0 : decode cX12_readPair 0 = .ok (.aload_n 0, 1) := by decide +kernel
theorem dX12_readPair_1 : decode cX12_readPair 1 = .ok (.iload_n 1, 1) := by decide +kernel
theorem dX12_readPair_2 : decode cX12_readPair 2 = .ok (.invokevirtual 142, 3) := by decide +kernel
theorem dX12_readPair_5 : decode cX12_readPair 5 = .ok (.istore_n 2, 1) := by decide +kernel
theorem dX12_readPair_6 : decode cX12_readPair 6 = .ok (.iload_n 1, 1) := by decide +kernel
theorem dX12_readPair_7 : decode cX12_readPair 7 = .ok (.istore_n 3, 1) := by decide +kernel
theorem dX12_readPair_8 : decode cX12_readPair 8 = .ok (.iload_n 2, 1) := by decide +kernel
theorem dX12_readPair_9 : decode cX12_readPair 9 = .ok (.iconst 1, 1) := by decide +kernel
theorem dX12_readPair_10 : decode cX12_readPair 10 = .ok (.isub, 1) := by decide +kernel
theorem dX12_readPair_11 : decode cX12_readPair 11 = .ok (.istore 4, 2) := by decide +kernel
theorem dX12_readPair_13 : decode cX12_readPair 13 = .ok (.iload 4, 2) := by decide +kernel
theorem dX12_readPair_15 : decode cX12_readPair 15 = .ok (.ifCond .lt 29, 3) := by decide +kernel
theorem dX12_readPair_18 : decode cX12_readPair 18 = .ok (.aload_n 0, 1) := by decide +kernel
theorem dX12_readPair_19 : decode cX12_readPair 19 = .ok (.getfield 50, 3) := by decide +kernel
theorem dX12_readPair_22 : decode cX12_readPair 22 = .ok (.iload 4, 2) := by decide +kernel
theorem dX12_readPair_24 : decode cX12_readPair 24 = .ok (.aload_n 0, 1) := by decide +kernel
theorem dX12_readPair_25 : decode cX12_readPair 25 = .ok (.getfield 37, 3) := by decide +kernel
theorem dX12_readPair_28 : decode cX12_readPair 28 = .ok (.iload_n 3, 1) := by decide +kernel
theorem dX12_readPair_29 : decode cX12_readPair 29 = .ok (.iaload, 1) := by decide +kernel
theorem dX12_readPair_30 : decode cX12_readPair 30 = .ok (.iastore, 1) := by decide +kernel
theorem dX12_readPair_31 : decode cX12_readPair 31 = .ok (.aload_n 0, 1) := by decide +kernel
theorem dX12_readPair_32 : decode cX12_readPair 32 = .ok (.getfield 34, 3) := by decide +kernel
theorem dX12_readPair_35 : decode cX12_readPair 35 = .ok (.iload_n 3, 1) := by decide +kernel
theorem dX12_readPair_36 : decode cX12_readPair 36 = .ok (.iaload, 1) := by decide +kernel
theorem dX12_readPair_37 : decode cX12_readPair 37 = .ok (.istore_n 3, 1) := by decide +kernel
theorem dX12_readPair_38 : decode cX12_readPair 38 = .ok (.iinc 4 (-1), 3) := by decide +kernel
theorem dX12_readPair_41 : decode cX12_readPair 41 = .ok (.goto (-28), 3) := by decide +kernel
theorem dX12_readPair_44 : decode cX12_readPair 44 = .ok (.iload_n 2, 1) := by decide +kernel
theorem dX12_readPair_45 : decode cX12_readPair 45 = .ok (.ireturn, 1) := by decide +kernel
set_option maxRecDepth 20000 in
theorem ggX12_goesByPair_X12_next : GoodIn wsX12_goesByPair wsX12_next := goodIn_r _ [6, 7, 8, 9, 10, 5, 11, 12, 13, 14, 15, 16, 17, 18, 19, 20, 21, 22, 23, 24, 25, 26, 27, 28, 29, 30, 31, 32, 33, 34, 35, 36, 37, 38, 39, 40, 41] (by decide +kernel) (by decide +kernel)
set_option maxRecDepth 20000 in
theorem gX12_goesByPair_X12_next : GoodIn wsX12_goesByPair (wsV RX12 129 RX12 yX12_next wsX12_next) := goodIn_app (goodIn_of _ (by decide +kernel)) ggX12_goesByPair_X12_next
theorem dX12_goesByPair_0 : decode cX12_goesByPair 0 = .ok (.iload_n 2, 1) := by decide +kernel
theorem dX12_goesByPair_1 : decode cX12_goesByPair 1 = .ok (.istore 4, 2) := by decide +kernel
theorem dX12_goesByPair_3 : decode cX12_goesByPair 3 = .ok (.iconst 0, 1) := by decide +kernel
theorem dX12_goesByPair_4 : decode cX12_goesByPair 4 = .ok (.istore 5, 2) := by decide +kernel
theorem dX12_goesByPair_6 : decode cX12_goesByPair 6 = .ok (.iload 5, 2) := by decide +kernel
theorem dX12_goesByPair_8 : decode cX12_goesByPair 8 = .ok (.iload_n 3, 1) := by decide +kernel
theorem dX12_goesByPair_9 : decode cX12_goesByPair 9 = .ok (.if_icmp .ge 30, 3) := by decide +kernel
theorem dX12_goesByPair_12 : decode cX12_goesByPair 12 = .ok (.iload 4, 2) := by decide +kernel
theorem dX12_goesByPair_14 : decode cX12_goesByPair 14 = .ok (.ifCond .le 25, 3) := by decide +kernel
theorem dX12_goesByPair_17 : decode cX12_goesByPair 17 = .ok (.aload_n 0, 1) := by decide +kernel
theorem dX12_goesByPair_18 : decode cX12_goesByPair 18 = .ok (.iload_n 1, 1) := by decide +kernel
theorem dX12_goesByPair_19 : decode cX12_goesByPair 19 = .ok (.iload 4, 2) := by decide +kernel
theorem dX12_goesByPair_21 : decode cX12_goesByPair 21 = .ok (.aload_n 0, 1) := by decide +kernel
theorem dX12_goesByPair_22 : decode cX12_goesByPair 22 = .ok (.getfield 50, 3) := by decide +kernel
theorem dX12_goesByPair_25 : decode cX12_goesByPair 25 = .ok (.iload 5, 2) := by decide +kernel
theorem dX12_goesByPair_27 : decode cX12_goesByPair 27 = .ok (.iaload, 1) := by decide +kernel
theorem dX12_goesByPair_28 : decode cX12_goesByPair 28 = .ok (.invokevirtual 129, 3) := by decide +kernel
theorem dX12_goesByPair_31 : decode cX12_goesByPair 31 = .ok (.istore 4, 2) := by decide +kernel
theorem dX12_goesByPair_33 : decode cX12_goesByPair 33 = .ok (.iinc 5 1, 3) := by decide +kernel
theorem dX12_goesByPair_36 : decode cX12_goesByPair 36 = .ok (.goto (-30), 3) := by decide +kernel
theorem dX12_goesByPair_39 : decode cX12_goesByPair 39 = .ok (.iload 4, 2) := by decide +kernel
theorem dX12_goesByPair_41 : decode cX12_goesByPair 41 = .ok (.ireturn, 1) := by decide +kernel
theorem dX12_isBetter_0 : decode cX12_isBetter 0 = .ok (.iload_n 1, 1) := by decide +kernel
theorem dX12_isBetter_1 : decode cX12_isBetter 1 = .ok (.iload_n 2, 1) := by decide +kernel
theorem dX12_isBetter_2 : decode cX12_isBetter 2 = .ok (.if_icmp .eq 19, 3) := by decide +kernel
theorem dX12_isBetter_5 : decode cX12_isBetter 5 = .ok (.iload_n 2, 1) := by decide +kernel
theorem dX12_isBetter_6 : decode cX12_isBetter 6 = .ok (.iconst (-1), 1) := by decide +kernel
theorem dX12_isBetter_7 : decode cX12_isBetter 7 = .ok (.if_icmp .eq 8, 3) := by decide +kernel
theorem dX12_isBetter_10 : decode cX12_isBetter 10 = .ok (.iload_n 1, 1) := by decide +kernel
theorem dX12_isBetter_11 : decode cX12_isBetter 11 = .ok (.iload_n 2, 1) := by decide +kernel
theorem dX12_isBetter_12 : decode cX12_isBetter 12 = .ok (.if_icmp .ge 7, 3) := by decide +kernel
theorem dX12_isBetter_15 : decode cX12_isBetter 15 = .ok (.iconst 1, 1) := by decide +kernel
theorem dX12_isBetter_16 : decode cX12_isBetter 16 = .ok (.goto 4, 3) := by decide +kernel
theorem dX12_isBetter_19 : decode cX12_isBetter 19 = .ok (.iconst 0, 1) := by decide +kernel
theorem dX12_isBetter_20 : decode cX12_isBetter 20 = .ok (.ireturn, 1) := by decide +kernel
theorem dX12_isBetter_21 : decode cX12_isBetter 21 = .ok (.iconst 0, 1) := by decide +kernel
theorem dX12_isBetter_22 : decode cX12_isBetter 22 = .ok (.istore_n 3, 1) := by decide +kernel
theorem dX12_isBetter_23 : decode cX12_isBetter 23 = .ok (.iload_n 3, 1) := by decide +kernel
theorem dX12_isBetter_24 : decode cX12_isBetter 24 = .ok (.iload_n 1, 1) := by decide +kernel
theorem dX12_isBetter_25 : decode cX12_isBetter 25 = .ok (.if_icmp .ge 45, 3) := by decide +kernel
theorem dX12_isBetter_28 : decode cX12_isBetter 28 = .ok (.aload_n 0, 1) := by decide +kernel
theorem dX12_isBetter_29 : decode cX12_isBetter 29 = .ok (.getfield 50, 3) := by decide +kernel
theorem dX12_isBetter_32 : decode cX12_isBetter 32 = .ok (.iload_n 3, 1) := by decide +kernel
theorem dX12_isBetter_33 : decode cX12_isBetter 33 = .ok (.iaload, 1) := by decide +kernel
theorem dX12_isBetter_34 : decode cX12_isBetter 34 = .ok (.aload_n 0, 1) := by decide +kernel
theorem dX12_isBetter_35 : decode cX12_isBetter 35 = .ok (.getfield 53, 3) := by decide +kernel
theorem dX12_isBetter_38 : decode cX12_isBetter 38 = .ok (.iload_n 3, 1) := by decide +kernel
theorem dX12_isBetter_39 : decode cX12_isBetter 39 = .ok (.iaload, 1) := by decide +kernel
theorem dX12_isBetter_40 : decode cX12_isBetter 40 = .ok (.if_icmp .eq 24, 3) := by decide +kernel
theorem dX12_isBetter_43 : decode cX12_isBetter 43 = .ok (.aload_n 0, 1) := by decide +kernel
theorem dX12_isBetter_44 : decode cX12_isBetter 44 = .ok (.getfield 50, 3) := by decide +kernel
theorem dX12_isBetter_47 : decode cX12_isBetter 47 = .ok (.iload_n 3, 1) := by decide +kernel
theorem dX12_isBetter_48 : decode cX12_isBetter 48 = .ok (.iaload, 1) := by decide +kernel
theorem dX12_isBetter_49 : decode cX12_isBetter 49 = .ok (.aload_n 0, 1) := by decide +kernel
theorem dX12_isBetter_50 : decode cX12_isBetter 50 = .ok (.getfield 53, 3) := by decide +kernel
theorem dX12_isBetter_53 : decode cX12_isBetter 53 = .ok (.iload_n 3, 1) := by decide +kernel
theorem dX12_isBetter_54 : decode cX12_isBetter 54 = .ok (.iaload, 1) := by decide +kernel
theorem dX12_isBetter_55 : decode cX12_isBetter 55 = .ok (.if_icmp .ge 7, 3) := by decide +kernel
theorem dX12_isBetter_58 : decode cX12_isBetter 58 = .ok (.iconst 1, 1) := by decide +kernel
theorem dX12_isBetter_59 : decode cX12_isBetter 59 = .ok (.goto 4, 3) := by decide +kernel
theorem dX12_isBetter_62 : decode cX12_isBetter 62 = .ok (.iconst 0, 1) := by decide +kernel
theorem dX12_isBetter_63 : decode cX12_isBetter 63 = .ok (.ireturn, 1) := by decide +kernel
theorem dX12_isBetter_64 : decode cX12_isBetter 64 = .ok (.iinc 3 1, 3) := by decide +kernel
theorem dX12_isBetter_67 : decode cX12_isBetter 67 = .ok (.goto (-44), 3) := by decide +kernel
theorem dX12_isBetter_70 : decode cX12_isBetter 70 = .ok (.iconst 0, 1) := by decide +kernel
theorem dX12_isBetter_71 : decode cX12_isBetter 71 = .ok (.ireturn, 1) := by decide +kernel
set_option maxRecDepth 20000 in
theorem ggX12_bestPair_X12_looks : GoodIn wsX12_bestPair wsX12_looks := goodIn_r _ [8, 9, 10, 11, 12, 13, 14, 15, 16, 17, 7, 18, 19, 20, 21, 22, 23, 24, 25, 1, 26, 27, 28, 29, 46, 47, 48, 49, 50, 51, 52, 53, 54, 55, 56, 57, 58, 59, 60, 61, 62, 63, 64, 65, 66, 67, 68, 69, 70, 71, 72, 73, 74, 75] (by decide +kernel) (by decide +kernel)
set_option maxRecDepth 20000 in
theorem gX12_bestPair_X12_looks : GoodIn wsX12_bestPair (wsV RX12 145 RX12 yX12_looks wsX12_looks) := goodIn_app (goodIn_of _ (by decide +kernel)) ggX12_bestPair_X12_looks
set_option maxRecDepth 20000 in
theorem ggX12_bestPair_X12_readPair : GoodIn wsX12_bestPair wsX12_readPair := goodIn_r _ [33, 3, 14, 12, 34, 35, 36, 7, 37, 46, 47, 48, 49, 50, 51, 52, 53, 54, 55, 56, 57, 58, 59, 60, 61, 62, 63, 64, 65, 66, 67, 68, 69, 70, 71, 72, 73, 74, 75] (by decide +kernel) (by decide +kernel)
set_option maxRecDepth 20000 in
theorem gX12_bestPair_X12_readPair : GoodIn wsX12_bestPair (wsV RX12 157 RX12 yX12_readPair wsX12_readPair) := goodIn_app (goodIn_of _ (by decide +kernel)) ggX12_bestPair_X12_readPair
set_option maxRecDepth 20000 in
theorem ggX12_bestPair_X12_goesByPair : GoodIn wsX12_bestPair wsX12_goesByPair := goodIn_r _ [41, 3, 22, 23, 24, 7, 25, 1, 26, 27, 28, 29, 46, 47, 48, 49, 50, 51, 52, 53, 54, 55, 56, 57, 58, 59, 60, 61, 62, 63, 64, 65, 66, 67, 68, 69, 70, 71, 72, 73, 74, 75] (by decide +kernel) (by decide +kernel)
set_option maxRecDepth 20000 in
theorem gX12_bestPair_X12_goesByPair : GoodIn wsX12_bestPair (wsV RX12 160 RX12 yX12_goesByPair wsX12_goesByPair) := goodIn_app (goodIn_of _ (by decide +kernel)) ggX12_bestPair_X12_goesByPair
set_option maxRecDepth 20000 in
theorem ggX12_bestPair_X12_isBetter : GoodIn wsX12_bestPair wsX12_isBetter := goodIn_r _ [45, 3, 2, 46, 47, 48, 49, 50, 51, 52, 53, 54, 55, 56, 57, 58, 59, 60, 61, 62, 63, 64, 65, 66, 67, 68, 69, 70, 71, 72, 73, 74, 75] (by decide +kernel) (by decide +kernel)
set_option maxRecDepth 20000 in
theorem gX12_bestPair_X12_isBetter : GoodIn wsX12_bestPair (wsV RX12 163 RX12 yX12_isBetter wsX12_isBetter) := goodIn_app (goodIn_of _ (by decide +kernel)) ggX12_bestPair_X12_isBetter
theorem dX12_bestPair_0 : decode cX12_bestPair 0 = .ok (.iconst (-1), 1) := by decide +kernel
theorem dX12_bestPair_1 : decode cX12_bestPair 1 = .ok (.istore_n 3, 1) := by decide +kernel
theorem dX12_bestPair_2 : decode cX12_bestPair 2 = .ok (.iconst 0, 1) := by decide +kernel
theorem dX12_bestPair_3 : decode cX12_bestPair 3 = .ok (.istore 4, 2) := by decide +kernel
theorem dX12_bestPair_5 : decode cX12_bestPair 5 = .ok (.iload 4, 2) := by decide +kernel
theorem dX12_bestPair_7 : decode cX12_bestPair 7 = .ok (.aload_n 0, 1) := by decide +kernel
theorem dX12_bestPair_8 : decode cX12_bestPair 8 = .ok (.getfield 7, 3) := by decide +kernel
theorem dX12_bestPair_11 : decode cX12_bestPair 11 = .ok (.iload_n 1, 1) := by decide +kernel
theorem dX12_bestPair_12 : decode cX12_bestPair 12 = .ok (.iaload, 1) := by decide +kernel
theorem dX12_bestPair_13 : decode cX12_bestPair 13 = .ok (.if_icmp .ge 146, 3) := by decide +kernel
theorem dX12_bestPair_16 : decode cX12_bestPair 16 = .ok (.iload 4, 2) := by decide +kernel
theorem dX12_bestPair_18 : decode cX12_bestPair 18 = .ok (.iconst 1, 1) := by decide +kernel
theorem dX12_bestPair_19 : decode cX12_bestPair 19 = .ok (.iadd, 1) := by decide +kernel
theorem dX12_bestPair_20 : decode cX12_bestPair 20 = .ok (.istore 5, 2) := by decide +kernel
theorem dX12_bestPair_22 : decode cX12_bestPair 22 = .ok (.iload 5, 2) := by decide +kernel
theorem dX12_bestPair_24 : decode cX12_bestPair 24 = .ok (.aload_n 0, 1) := by decide +kernel
theorem dX12_bestPair_25 : decode cX12_bestPair 25 = .ok (.getfield 7, 3) := by decide +kernel
theorem dX12_bestPair_28 : decode cX12_bestPair 28 = .ok (.iload_n 1, 1) := by decide +kernel
theorem dX12_bestPair_29 : decode cX12_bestPair 29 = .ok (.iaload, 1) := by decide +kernel
theorem dX12_bestPair_30 : decode cX12_bestPair 30 = .ok (.if_icmp .ge 123, 3) := by decide +kernel
theorem dX12_bestPair_33 : decode cX12_bestPair 33 = .ok (.iload_n 2, 1) := by decide +kernel
theorem dX12_bestPair_34 : decode cX12_bestPair 34 = .ok (.iload 4, 2) := by decide +kernel
theorem dX12_bestPair_36 : decode cX12_bestPair 36 = .ok (.ishr, 1) := by decide +kernel
theorem dX12_bestPair_37 : decode cX12_bestPair 37 = .ok (.iconst 1, 1) := by decide +kernel
theorem dX12_bestPair_38 : decode cX12_bestPair 38 = .ok (.iand, 1) := by decide +kernel
theorem dX12_bestPair_39 : decode cX12_bestPair 39 = .ok (.iconst 1, 1) := by decide +kernel
theorem dX12_bestPair_40 : decode cX12_bestPair 40 = .ok (.if_icmp .ne 107, 3) := by decide +kernel
theorem dX12_bestPair_43 : decode cX12_bestPair 43 = .ok (.iload_n 2, 1) := by decide +kernel
theorem dX12_bestPair_44 : decode cX12_bestPair 44 = .ok (.iload 5, 2) := by decide +kernel
theorem dX12_bestPair_46 : decode cX12_bestPair 46 = .ok (.ishr, 1) := by decide +kernel
theorem dX12_bestPair_47 : decode cX12_bestPair 47 = .ok (.iconst 1, 1) := by decide +kernel
theorem dX12_bestPair_48 : decode cX12_bestPair 48 = .ok (.iand, 1) := by decide +kernel
theorem dX12_bestPair_49 : decode cX12_bestPair 49 = .ok (.iconst 1, 1) := by decide +kernel
theorem dX12_bestPair_50 : decode cX12_bestPair 50 = .ok (.if_icmp .ne 97, 3) := by decide +kernel
theorem dX12_bestPair_53 : decode cX12_bestPair 53 = .ok (.aload_n 0, 1) := by decide +kernel
theorem dX12_bestPair_54 : decode cX12_bestPair 54 = .ok (.iload_n 1, 1) := by decide +kernel
theorem dX12_bestPair_55 : decode cX12_bestPair 55 = .ok (.iconst 1, 1) := by decide +kernel
theorem dX12_bestPair_56 : decode cX12_bestPair 56 = .ok (.iload 4, 2) := by decide +kernel
theorem dX12_bestPair_58 : decode cX12_bestPair 58 = .ok (.ishl, 1) := by decide +kernel
theorem dX12_bestPair_59 : decode cX12_bestPair 59 = .ok (.iconst 1, 1) := by decide +kernel
theorem dX12_bestPair_60 : decode cX12_bestPair 60 = .ok (.iload 5, 2) := by decide +kernel
theorem dX12_bestPair_62 : decode cX12_bestPair 62 = .ok (.ishl, 1) := by decide +kernel
theorem dX12_bestPair_63 : decode cX12_bestPair 63 = .ok (.ior, 1) := by decide +kernel
theorem dX12_bestPair_64 : decode cX12_bestPair 64 = .ok (.iconst 0, 1) := by decide +kernel
theorem dX12_bestPair_65 : decode cX12_bestPair 65 = .ok (.invokevirtual 145, 3) := by decide +kernel
theorem dX12_bestPair_68 : decode cX12_bestPair 68 = .ok (.istore 6, 2) := by decide +kernel
theorem dX12_bestPair_70 : decode cX12_bestPair 70 = .ok (.iload 6, 2) := by decide +kernel
theorem dX12_bestPair_72 : decode cX12_bestPair 72 = .ok (.ifCond .ne 7, 3) := by decide +kernel
theorem dX12_bestPair_75 : decode cX12_bestPair 75 = .ok (.iconst (-1), 1) := by decide +kernel
theorem dX12_bestPair_76 : decode cX12_bestPair 76 = .ok (.goto 9, 3) := by decide +kernel
theorem dX12_bestPair_79 : decode cX12_bestPair 79 = .ok (.aload_n 0, 1) := by decide +kernel
theorem dX12_bestPair_80 : decode cX12_bestPair 80 = .ok (.iload 6, 2) := by decide +kernel
theorem dX12_bestPair_82 : decode cX12_bestPair 82 = .ok (.invokevirtual 157, 3) := by decide +kernel
theorem dX12_bestPair_85 : decode cX12_bestPair 85 = .ok (.istore 7, 2) := by decide +kernel
theorem dX12_bestPair_87 : decode cX12_bestPair 87 = .ok (.iload 7, 2) := by decide +kernel
theorem dX12_bestPair_89 : decode cX12_bestPair 89 = .ok (.iconst (-1), 1) := by decide +kernel
theorem dX12_bestPair_90 : decode cX12_bestPair 90 = .ok (.if_icmp .eq 57, 3) := by decide +kernel
theorem dX12_bestPair_93 : decode cX12_bestPair 93 = .ok (.aload_n 0, 1) := by decide +kernel
theorem dX12_bestPair_94 : decode cX12_bestPair 94 = .ok (.iload_n 1, 1) := by decide +kernel
theorem dX12_bestPair_95 : decode cX12_bestPair 95 = .ok (.iload_n 2, 1) := by decide +kernel
theorem dX12_bestPair_96 : decode cX12_bestPair 96 = .ok (.iload 7, 2) := by decide +kernel
theorem dX12_bestPair_98 : decode cX12_bestPair 98 = .ok (.invokevirtual 160, 3) := by decide +kernel
theorem dX12_bestPair_101 : decode cX12_bestPair 101 = .ok (.ifCond .le 46, 3) := by decide +kernel
theorem dX12_bestPair_104 : decode cX12_bestPair 104 = .ok (.aload_n 0, 1) := by decide +kernel
theorem dX12_bestPair_105 : decode cX12_bestPair 105 = .ok (.iload 7, 2) := by decide +kernel
theorem dX12_bestPair_107 : decode cX12_bestPair 107 = .ok (.iload_n 3, 1) := by decide +kernel
theorem dX12_bestPair_108 : decode cX12_bestPair 108 = .ok (.invokevirtual 163, 3) := by decide +kernel
theorem dX12_bestPair_111 : decode cX12_bestPair 111 = .ok (.ifCond .eq 36, 3) := by decide +kernel
theorem dX12_bestPair_114 : decode cX12_bestPair 114 = .ok (.iload 7, 2) := by decide +kernel
theorem dX12_bestPair_116 : decode cX12_bestPair 116 = .ok (.istore_n 3, 1) := by decide +kernel
theorem dX12_bestPair_117 : decode cX12_bestPair 117 = .ok (.iconst 0, 1) := by decide +kernel
theorem dX12_bestPair_118 : decode cX12_bestPair 118 = .ok (.istore 8, 2) := by decide +kernel
theorem dX12_bestPair_120 : decode cX12_bestPair 120 = .ok (.iload 8, 2) := by decide +kernel
theorem dX12_bestPair_122 : decode cX12_bestPair 122 = .ok (.iload 7, 2) := by decide +kernel
theorem dX12_bestPair_124 : decode cX12_bestPair 124 = .ok (.if_icmp .ge 23, 3) := by decide +kernel
theorem dX12_bestPair_127 : decode cX12_bestPair 127 = .ok (.aload_n 0, 1) := by decide +kernel
theorem dX12_bestPair_128 : decode cX12_bestPair 128 = .ok (.getfield 53, 3) := by decide +kernel
theorem dX12_bestPair_131 : decode cX12_bestPair 131 = .ok (.iload 8, 2) := by decide +kernel
theorem dX12_bestPair_133 : decode cX12_bestPair 133 = .ok (.aload_n 0, 1) := by decide +kernel
theorem dX12_bestPair_134 : decode cX12_bestPair 134 = .ok (.getfield 50, 3) := by decide +kernel
theorem dX12_bestPair_137 : decode cX12_bestPair 137 = .ok (.iload 8, 2) := by decide +kernel
theorem dX12_bestPair_139 : decode cX12_bestPair 139 = .ok (.iaload, 1) := by decide +kernel
theorem dX12_bestPair_140 : decode cX12_bestPair 140 = .ok (.iastore, 1) := by decide +kernel
theorem dX12_bestPair_141 : decode cX12_bestPair 141 = .ok (.iinc 8 1, 3) := by decide +kernel
theorem dX12_bestPair_144 : decode cX12_bestPair 144 = .ok (.goto (-24), 3) := by decide +kernel
theorem dX12_bestPair_147 : decode cX12_bestPair 147 = .ok (.iinc 5 1, 3) := by decide +kernel
theorem dX12_bestPair_150 : decode cX12_bestPair 150 = .ok (.goto (-128), 3) := by decide +kernel
theorem dX12_bestPair_153 : decode cX12_bestPair 153 = .ok (.iinc 4 1, 3) := by decide +kernel
theorem dX12_bestPair_156 : decode cX12_bestPair 156 = .ok (.goto (-151), 3) := by decide +kernel
theorem dX12_bestPair_159 : decode cX12_bestPair 159 = .ok (.iload_n 3, 1) := by decide +kernel
theorem dX12_bestPair_160 : decode cX12_bestPair 160 = .ok (.ireturn, 1) := by decide +kernel
set_option maxRecDepth 20000 in
theorem ggX12_greedy_X12_isSet : GoodIn wsX12_greedy wsX12_isSet := goodIn_r _ [9, 10, 11, 12, 13, 8, 14, 15, 16, 17, 18, 65, 66, 67, 68, 69, 70, 71, 72, 73, 74, 75, 76, 77, 78, 79, 80, 81, 82, 83, 84, 85, 86, 87, 88, 89, 90, 91, 92, 93, 94] (by decide +kernel) (by decide +kernel)
set_option maxRecDepth 20000 in
theorem gX12_greedy_X12_isSet : GoodIn wsX12_greedy (wsV RX12 126 RX12 yX12_isSet wsX12_isSet) := goodIn_app (goodIn_of _ (by decide +kernel)) ggX12_greedy_X12_isSet
set_option maxRecDepth 20000 in
theorem ggX12_greedy_X12_many : GoodIn wsX12_greedy wsX12_many := goodIn_r _ [21] (by decide +kernel) (by decide +kernel)
set_option maxRecDepth 20000 in
theorem gX12_greedy_X12_many : GoodIn wsX12_greedy (va_wsS RX12 132 yX12_many wsX12_many) := goodIn_app (goodIn_of _ (by decide +kernel)) ggX12_greedy_X12_many
set_option maxRecDepth 20000 in
theorem ggX12_greedy_X12_bestPair : GoodIn wsX12_greedy wsX12_bestPair := goodIn_r _ [25, 10, 2, 26, 27, 28, 29, 8, 30, 31, 32, 33, 34, 35, 36, 37, 38, 39, 40, 19, 20, 21, 41, 42, 43, 44, 45, 46, 47, 48, 49, 50, 51, 52, 53, 54, 55, 56, 57, 58, 59, 60, 61, 62, 63, 64, 65, 66, 67, 68, 69, 70, 71, 72, 73, 74, 75, 76, 77, 78, 79, 80, 81, 82, 83, 84, 85, 86, 87, 88, 89, 90, 91, 92, 93, 94] (by decide +kernel) (by decide +kernel)
set_option maxRecDepth 20000 in
theorem gX12_greedy_X12_bestPair : GoodIn wsX12_greedy (wsV RX12 166 RX12 yX12_bestPair wsX12_bestPair) := goodIn_app (goodIn_of _ (by decide +kernel)) ggX12_greedy_X12_bestPair
set_option maxRecDepth 20000 in
theorem ggX12_greedy_X12_next : GoodIn wsX12_greedy wsX12_next := goodIn_r _ [44, 10, 45, 46, 47, 8, 48, 65, 66, 67, 68, 69, 70, 71, 72, 73, 74, 75, 76, 77, 78, 79, 80, 81, 82, 83, 84, 85, 86, 87, 88, 89, 90, 91, 92, 93, 94] (by decide +kernel) (by decide +kernel)
set_option maxRecDepth 20000 in
theorem gX12_greedy_X12_next : GoodIn wsX12_greedy (wsV RX12 129 RX12 yX12_next wsX12_next) := goodIn_app (goodIn_of _ (by decide +kernel)) ggX12_greedy_X12_next
theorem dX12_greedy_0 : decode cX12_greedy 0 = .ok (.aload_n 0, 1) := by decide +kernel
theorem dX12_greedy_1 : decode cX12_greedy 1 = .ok (.iload_n 1, 1) := by decide +kernel
theorem dX12_greedy_2 : decode cX12_greedy 2 = .ok (.iload_n 2, 1) := by decide +kernel
theorem dX12_greedy_3 : decode cX12_greedy 3 = .ok (.invokevirtual 126, 3) := by decide +kernel
theorem dX12_greedy_6 : decode cX12_greedy 6 = .ok (.ifCond .ne 6, 3) := by decide +kernel
theorem dX12_greedy_9 : decode cX12_greedy 9 = .ok (.bipush (-2), 2) := by decide +kernel
theorem dX12_greedy_11 : decode cX12_greedy 11 = .ok (.ireturn, 1) := by decide +kernel
theorem dX12_greedy_12 : decode cX12_greedy 12 = .ok (.iload_n 2, 1) := by decide +kernel
theorem dX12_greedy_13 : decode cX12_greedy 13 = .ok (.istore_n 3, 1) := by decide +kernel
theorem dX12_greedy_14 : decode cX12_greedy 14 = .ok (.iconst 0, 1) := by decide +kernel
theorem dX12_greedy_15 : decode cX12_greedy 15 = .ok (.istore 4, 2) := by decide +kernel
theorem dX12_greedy_17 : decode cX12_greedy 17 = .ok (.iload_n 3, 1) := by decide +kernel
theorem dX12_greedy_18 : decode cX12_greedy 18 = .ok (.invokestatic 132, 3) := by decide +kernel
theorem dX12_greedy_21 : decode cX12_greedy 21 = .ok (.iconst 1, 1) := by decide +kernel
theorem dX12_greedy_22 : decode cX12_greedy 22 = .ok (.if_icmp .le 80, 3) := by decide +kernel
theorem dX12_greedy_25 : decode cX12_greedy 25 = .ok (.aload_n 0, 1) := by decide +kernel
theorem dX12_greedy_26 : decode cX12_greedy 26 = .ok (.iload_n 1, 1) := by decide +kernel
theorem dX12_greedy_27 : decode cX12_greedy 27 = .ok (.iload_n 3, 1) := by decide +kernel
theorem dX12_greedy_28 : decode cX12_greedy 28 = .ok (.invokevirtual 166, 3) := by decide +kernel
theorem dX12_greedy_31 : decode cX12_greedy 31 = .ok (.istore 5, 2) := by decide +kernel
theorem dX12_greedy_33 : decode cX12_greedy 33 = .ok (.iload 5, 2) := by decide +kernel
theorem dX12_greedy_35 : decode cX12_greedy 35 = .ok (.iconst (-1), 1) := by decide +kernel
theorem dX12_greedy_36 : decode cX12_greedy 36 = .ok (.if_icmp .eq 14, 3) := by decide +kernel
theorem dX12_greedy_39 : decode cX12_greedy 39 = .ok (.iload 4, 2) := by decide +kernel
theorem dX12_greedy_41 : decode cX12_greedy 41 = .ok (.iload 5, 2) := by decide +kernel
theorem dX12_greedy_43 : decode cX12_greedy 43 = .ok (.iadd, 1) := by decide +kernel
theorem dX12_greedy_44 : decode cX12_greedy 44 = .ok (.sipush 600, 3) := by decide +kernel
theorem dX12_greedy_47 : decode cX12_greedy 47 = .ok (.if_icmp .le 5, 3) := by decide +kernel
theorem dX12_greedy_50 : decode cX12_greedy 50 = .ok (.iconst (-1), 1) := by decide +kernel
theorem dX12_greedy_51 : decode cX12_greedy 51 = .ok (.ireturn, 1) := by decide +kernel
theorem dX12_greedy_52 : decode cX12_greedy 52 = .ok (.iconst 0, 1) := by decide +kernel
theorem dX12_greedy_53 : decode cX12_greedy 53 = .ok (.istore 6, 2) := by decide +kernel
theorem dX12_greedy_55 : decode cX12_greedy 55 = .ok (.iload 6, 2) := by decide +kernel
theorem dX12_greedy_57 : decode cX12_greedy 57 = .ok (.iload 5, 2) := by decide +kernel
theorem dX12_greedy_59 : decode cX12_greedy 59 = .ok (.if_icmp .ge 40, 3) := by decide +kernel
theorem dX12_greedy_62 : decode cX12_greedy 62 = .ok (.aload_n 0, 1) := by decide +kernel
theorem dX12_greedy_63 : decode cX12_greedy 63 = .ok (.getfield 47, 3) := by decide +kernel
theorem dX12_greedy_66 : decode cX12_greedy 66 = .ok (.iload 4, 2) := by decide +kernel
theorem dX12_greedy_68 : decode cX12_greedy 68 = .ok (.aload_n 0, 1) := by decide +kernel
theorem dX12_greedy_69 : decode cX12_greedy 69 = .ok (.getfield 53, 3) := by decide +kernel
theorem dX12_greedy_72 : decode cX12_greedy 72 = .ok (.iload 6, 2) := by decide +kernel
theorem dX12_greedy_74 : decode cX12_greedy 74 = .ok (.iaload, 1) := by decide +kernel
theorem dX12_greedy_75 : decode cX12_greedy 75 = .ok (.iastore, 1) := by decide +kernel
theorem dX12_greedy_76 : decode cX12_greedy 76 = .ok (.iinc 4 1, 3) := by decide +kernel
theorem dX12_greedy_79 : decode cX12_greedy 79 = .ok (.aload_n 0, 1) := by decide +kernel
theorem dX12_greedy_80 : decode cX12_greedy 80 = .ok (.iload_n 1, 1) := by decide +kernel
theorem dX12_greedy_81 : decode cX12_greedy 81 = .ok (.iload_n 3, 1) := by decide +kernel
theorem dX12_greedy_82 : decode cX12_greedy 82 = .ok (.aload_n 0, 1) := by decide +kernel
theorem dX12_greedy_83 : decode cX12_greedy 83 = .ok (.getfield 53, 3) := by decide +kernel
theorem dX12_greedy_86 : decode cX12_greedy 86 = .ok (.iload 6, 2) := by decide +kernel
theorem dX12_greedy_88 : decode cX12_greedy 88 = .ok (.iaload, 1) := by decide +kernel
theorem dX12_greedy_89 : decode cX12_greedy 89 = .ok (.invokevirtual 129, 3) := by decide +kernel
theorem dX12_greedy_92 : decode cX12_greedy 92 = .ok (.istore_n 3, 1) := by decide +kernel
theorem dX12_greedy_93 : decode cX12_greedy 93 = .ok (.iinc 6 1, 3) := by decide +kernel
theorem dX12_greedy_96 : decode cX12_greedy 96 = .ok (.goto (-41), 3) := by decide +kernel
theorem dX12_greedy_99 : decode cX12_greedy 99 = .ok (.goto (-82), 3) := by decide +kernel
theorem dX12_greedy_102 : decode cX12_greedy 102 = .ok (.aload_n 0, 1) := by decide +kernel
theorem dX12_greedy_103 : decode cX12_greedy 103 = .ok (.iload 4, 2) := by decide +kernel
theorem dX12_greedy_105 : decode cX12_greedy 105 = .ok (.putfield 123, 3) := by decide +kernel
theorem dX12_greedy_108 : decode cX12_greedy 108 = .ok (.iconst 0, 1) := by decide +kernel
theorem dX12_greedy_109 : decode cX12_greedy 109 = .ok (.istore 5, 2) := by decide +kernel
theorem dX12_greedy_111 : decode cX12_greedy 111 = .ok (.iload 5, 2) := by decide +kernel
theorem dX12_greedy_113 : decode cX12_greedy 113 = .ok (.iload 4, 2) := by decide +kernel
theorem dX12_greedy_115 : decode cX12_greedy 115 = .ok (.if_icmp .ge 23, 3) := by decide +kernel
theorem dX12_greedy_118 : decode cX12_greedy 118 = .ok (.aload_n 0, 1) := by decide +kernel
theorem dX12_greedy_119 : decode cX12_greedy 119 = .ok (.getfield 28, 3) := by decide +kernel
theorem dX12_greedy_122 : decode cX12_greedy 122 = .ok (.iload 5, 2) := by decide +kernel
theorem dX12_greedy_124 : decode cX12_greedy 124 = .ok (.aload_n 0, 1) := by decide +kernel
theorem dX12_greedy_125 : decode cX12_greedy 125 = .ok (.getfield 47, 3) := by decide +kernel
theorem dX12_greedy_128 : decode cX12_greedy 128 = .ok (.iload 5, 2) := by decide +kernel
theorem dX12_greedy_130 : decode cX12_greedy 130 = .ok (.iaload, 1) := by decide +kernel
theorem dX12_greedy_131 : decode cX12_greedy 131 = .ok (.iastore, 1) := by decide +kernel
theorem dX12_greedy_132 : decode cX12_greedy 132 = .ok (.iinc 5 1, 3) := by decide +kernel
theorem dX12_greedy_135 : decode cX12_greedy 135 = .ok (.goto (-24), 3) := by decide +kernel
theorem dX12_greedy_138 : decode cX12_greedy 138 = .ok (.iload 4, 2) := by decide +kernel
theorem dX12_greedy_140 : decode cX12_greedy 140 = .ok (.ireturn, 1) := by decide +kernel
theorem dX12_isLess_0 : decode cX12_isLess 0 = .ok (.aload_n 0, 1) := by decide +kernel
theorem dX12_isLess_1 : decode cX12_isLess 1 = .ok (.getfield 62, 3) := by decide +kernel
theorem dX12_isLess_4 : decode cX12_isLess 4 = .ok (.iload_n 1, 1) := by decide +kernel
theorem dX12_isLess_5 : decode cX12_isLess 5 = .ok (.iaload, 1) := by decide +kernel
theorem dX12_isLess_6 : decode cX12_isLess 6 = .ok (.aload_n 0, 1) := by decide +kernel
theorem dX12_isLess_7 : decode cX12_isLess 7 = .ok (.getfield 62, 3) := by decide +kernel
theorem dX12_isLess_10 : decode cX12_isLess 10 = .ok (.iload_n 2, 1) := by decide +kernel
theorem dX12_isLess_11 : decode cX12_isLess 11 = .ok (.iaload, 1) := by decide +kernel
theorem dX12_isLess_12 : decode cX12_isLess 12 = .ok (.if_icmp .lt 33, 3) := by decide +kernel
theorem dX12_isLess_15 : decode cX12_isLess 15 = .ok (.aload_n 0, 1) := by decide +kernel
theorem dX12_isLess_16 : decode cX12_isLess 16 = .ok (.getfield 62, 3) := by decide +kernel
theorem dX12_isLess_19 : decode cX12_isLess 19 = .ok (.iload_n 1, 1) := by decide +kernel
theorem dX12_isLess_20 : decode cX12_isLess 20 = .ok (.iaload, 1) := by decide +kernel
theorem dX12_isLess_21 : decode cX12_isLess 21 = .ok (.aload_n 0, 1) := by decide +kernel
theorem dX12_isLess_22 : decode cX12_isLess 22 = .ok (.getfield 62, 3) := by decide +kernel
theorem dX12_isLess_25 : decode cX12_isLess 25 = .ok (.iload_n 2, 1) := by decide +kernel
theorem dX12_isLess_26 : decode cX12_isLess 26 = .ok (.iaload, 1) := by decide +kernel
theorem dX12_isLess_27 : decode cX12_isLess 27 = .ok (.if_icmp .ne 22, 3) := by decide +kernel
theorem dX12_isLess_30 : decode cX12_isLess 30 = .ok (.aload_n 0, 1) := by decide +kernel
theorem dX12_isLess_31 : decode cX12_isLess 31 = .ok (.getfield 65, 3) := by decide +kernel
theorem dX12_isLess_34 : decode cX12_isLess 34 = .ok (.iload_n 1, 1) := by decide +kernel
theorem dX12_isLess_35 : decode cX12_isLess 35 = .ok (.iaload, 1) := by decide +kernel
theorem dX12_isLess_36 : decode cX12_isLess 36 = .ok (.aload_n 0, 1) := by decide +kernel
theorem dX12_isLess_37 : decode cX12_isLess 37 = .ok (.getfield 65, 3) := by decide +kernel
theorem dX12_isLess_40 : decode cX12_isLess 40 = .ok (.iload_n 2, 1) := by decide +kernel
theorem dX12_isLess_41 : decode cX12_isLess 41 = .ok (.iaload, 1) := by decide +kernel
theorem dX12_isLess_42 : decode cX12_isLess 42 = .ok (.if_icmp .ge 7, 3) := by decide +kernel
theorem dX12_isLess_45 : decode cX12_isLess 45 = .ok (.iconst 1, 1) := by decide +kernel
theorem dX12_isLess_46 : decode cX12_isLess 46 = .ok (.goto 4, 3) := by decide +kernel
theorem dX12_isLess_49 : decode cX12_isLess 49 = .ok (.iconst 0, 1) := by decide +kernel
theorem dX12_isLess_50 : decode cX12_isLess 50 = .ok (.ireturn, 1) := by decide +kernel
theorem dX12_exchange_0 : decode cX12_exchange 0 = .ok (.aload_n 0, 1) := by decide +kernel
theorem dX12_exchange_1 : decode cX12_exchange 1 = .ok (.getfield 62, 3) := by decide +kernel
theorem dX12_exchange_4 : decode cX12_exchange 4 = .ok (.iload_n 1, 1) := by decide +kernel
theorem dX12_exchange_5 : decode cX12_exchange 5 = .ok (.iaload, 1) := by decide +kernel
theorem dX12_exchange_6 : decode cX12_exchange 6 = .ok (.istore_n 3, 1) := by decide +kernel
theorem dX12_exchange_7 : decode cX12_exchange 7 = .ok (.aload_n 0, 1) := by decide +kernel
theorem dX12_exchange_8 : decode cX12_exchange 8 = .ok (.getfield 62, 3) := by decide +kernel
theorem dX12_exchange_11 : decode cX12_exchange 11 = .ok (.iload_n 1, 1) := by decide +kernel
theorem dX12_exchange_12 : decode cX12_exchange 12 = .ok (.aload_n 0, 1) := by decide +kernel
theorem dX12_exchange_13 : decode cX12_exchange 13 = .ok (.getfield 62, 3) := by decide +kernel
theorem dX12_exchange_16 : decode cX12_exchange 16 = .ok (.iload_n 2, 1) := by decide +kernel
theorem dX12_exchange_17 : decode cX12_exchange 17 = .ok (.iaload, 1) := by decide +kernel
theorem dX12_exchange_18 : decode cX12_exchange 18 = .ok (.iastore, 1) := by decide +kernel
theorem dX12_exchange_19 : decode cX12_exchange 19 = .ok (.aload_n 0, 1) := by decide +kernel
theorem dX12_exchange_20 : decode cX12_exchange 20 = .ok (.getfield 62, 3) := by decide +kernel
theorem dX12_exchange_23 : decode cX12_exchange 23 = .ok (.iload_n 2, 1) := by decide +kernel
theorem dX12_exchange_24 : decode cX12_exchange 24 = .ok (.iload_n 3, 1) := by decide +kernel
theorem dX12_exchange_25 : decode cX12_exchange 25 = .ok (.iastore, 1) := by decide +kernel
theorem dX12_exchange_26 : decode cX12_exchange 26 = .ok (.aload_n 0, 1) := by decide +kernel
theorem dX12_exchange_27 : decode cX12_exchange 27 = .ok (.getfield 65, 3) := by decide +kernel
theorem dX12_exchange_30 : decode cX12_exchange 30 = .ok (.iload_n 1, 1) := by decide +kernel
theorem dX12_exchange_31 : decode cX12_exchange 31 = .ok (.iaload, 1) := by decide +kernel
theorem dX12_exchange_32 : decode cX12_exchange 32 = .ok (.istore_n 3, 1) := by decide +kernel
theorem dX12_exchange_33 : decode cX12_exchange 33 = .ok (.aload_n 0, 1) := by decide +kernel
theorem dX12_exchange_34 : decode cX12_exchange 34 = .ok (.getfield 65, 3) := by decide +kernel
theorem dX12_exchange_37 : decode cX12_exchange 37 = .ok (.iload_n 1, 1) := by decide +kernel
theorem dX12_exchange_38 : decode cX12_exchange 38 = .ok (.aload_n 0, 1) := by decide +kernel
theorem dX12_exchange_39 : decode cX12_exchange 39 = .ok (.getfield 65, 3) := by decide +kernel
theorem dX12_exchange_42 : decode cX12_exchange 42 = .ok (.iload_n 2, 1) := by decide +kernel
theorem dX12_exchange_43 : decode cX12_exchange 43 = .ok (.iaload, 1) := by decide +kernel
theorem dX12_exchange_44 : decode cX12_exchange 44 = .ok (.iastore, 1) := by decide +kernel
theorem dX12_exchange_45 : decode cX12_exchange 45 = .ok (.aload_n 0, 1) := by decide +kernel
theorem dX12_exchange_46 : decode cX12_exchange 46 = .ok (.getfield 65, 3) := by decide +kernel
theorem dX12_exchange_49 : decode cX12_exchange 49 = .ok (.iload_n 2, 1) := by decide +kernel
theorem dX12_exchange_50 : decode cX12_exchange 50 = .ok (.iload_n 3, 1) := by decide +kernel
theorem dX12_exchange_51 : decode cX12_exchange 51 = .ok (.iastore, 1) := by decide +kernel
theorem dX12_exchange_52 : decode cX12_exchange 52 = .ok (.return_, 1) := by decide +kernel
set_option maxRecDepth 20000 in
theorem ggX12_heaps_X12_isLess : GoodIn wsX12_heaps wsX12_isLess := goodIn_r _ [8, 2, 3, 13, 14, 15, 16, 17, 18, 19, 20, 21, 22, 23, 24, 25, 26, 27, 28, 29, 30, 31, 32, 33, 34, 35, 36, 37, 38, 39, 40, 41, 42] (by decide +kernel) (by decide +kernel)
set_option maxRecDepth 20000 in
theorem gX12_heaps_X12_isLess : GoodIn wsX12_heaps (wsV RX12 172 RX12 yX12_isLess wsX12_isLess) := goodIn_app (goodIn_of _ (by decide +kernel)) ggX12_heaps_X12_isLess
set_option maxRecDepth 20000 in
theorem ggX12_heaps_X12_exchange : GoodIn wsX12_heaps wsX12_exchange := goodIn_r _ [12, 2, 3, 13, 14, 15, 16, 17, 18, 19, 20, 21, 22, 23, 24, 25, 26, 27, 28, 29, 30, 31, 32, 33, 34, 35, 36, 37, 38, 39, 40, 41, 42] (by decide +kernel) (by decide +kernel)
set_option maxRecDepth 20000 in
theorem gX12_heaps_X12_exchange : GoodIn wsX12_heaps (wsV RX12 175 RX12 yX12_exchange wsX12_exchange) := goodIn_app (goodIn_of _ (by decide +kernel)) ggX12_heaps_X12_exchange
theorem dX12_heaps_0 : decode cX12_heaps 0 = .ok (.aload_n 0, 1) := by decide +kernel
theorem dX12_heaps_1 : decode cX12_heaps 1 = .ok (.getfield 169, 3) := by decide +kernel
theorem dX12_heaps_4 : decode cX12_heaps 4 = .ok (.istore_n 3, 1) := by decide +kernel
theorem dX12_heaps_5 : decode cX12_heaps 5 = .ok (.aload_n 0, 1) := by decide +kernel
theorem dX12_heaps_6 : decode cX12_heaps 6 = .ok (.getfield 62, 3) := by decide +kernel
theorem dX12_heaps_9 : decode cX12_heaps 9 = .ok (.iload_n 3, 1) := by decide +kernel
theorem dX12_heaps_10 : decode cX12_heaps 10 = .ok (.iload_n 1, 1) := by decide +kernel
theorem dX12_heaps_11 : decode cX12_heaps 11 = .ok (.iastore, 1) := by decide +kernel
theorem dX12_heaps_12 : decode cX12_heaps 12 = .ok (.aload_n 0, 1) := by decide +kernel
theorem dX12_heaps_13 : decode cX12_heaps 13 = .ok (.getfield 65, 3) := by decide +kernel
theorem dX12_heaps_16 : decode cX12_heaps 16 = .ok (.iload_n 3, 1) := by decide +kernel
theorem dX12_heaps_17 : decode cX12_heaps 17 = .ok (.iload_n 2, 1) := by decide +kernel
theorem dX12_heaps_18 : decode cX12_heaps 18 = .ok (.iastore, 1) := by decide +kernel
theorem dX12_heaps_19 : decode cX12_heaps 19 = .ok (.aload_n 0, 1) := by decide +kernel
theorem dX12_heaps_20 : decode cX12_heaps 20 = .ok (.dup, 1) := by decide +kernel
theorem dX12_heaps_21 : decode cX12_heaps 21 = .ok (.getfield 169, 3) := by decide +kernel
theorem dX12_heaps_24 : decode cX12_heaps 24 = .ok (.iconst 1, 1) := by decide +kernel
theorem dX12_heaps_25 : decode cX12_heaps 25 = .ok (.iadd, 1) := by decide +kernel
theorem dX12_heaps_26 : decode cX12_heaps 26 = .ok (.putfield 169, 3) := by decide +kernel
theorem dX12_heaps_29 : decode cX12_heaps 29 = .ok (.iload_n 3, 1) := by decide +kernel
theorem dX12_heaps_30 : decode cX12_heaps 30 = .ok (.ifCond .le 35, 3) := by decide +kernel
theorem dX12_heaps_33 : decode cX12_heaps 33 = .ok (.aload_n 0, 1) := by decide +kernel
theorem dX12_heaps_34 : decode cX12_heaps 34 = .ok (.iload_n 3, 1) := by decide +kernel
theorem dX12_heaps_35 : decode cX12_heaps 35 = .ok (.iload_n 3, 1) := by decide +kernel
theorem dX12_heaps_36 : decode cX12_heaps 36 = .ok (.iconst 1, 1) := by decide +kernel
theorem dX12_heaps_37 : decode cX12_heaps 37 = .ok (.isub, 1) := by decide +kernel
theorem dX12_heaps_38 : decode cX12_heaps 38 = .ok (.iconst 2, 1) := by decide +kernel
theorem dX12_heaps_39 : decode cX12_heaps 39 = .ok (.idiv, 1) := by decide +kernel
theorem dX12_heaps_40 : decode cX12_heaps 40 = .ok (.invokevirtual 172, 3) := by decide +kernel
theorem dX12_heaps_43 : decode cX12_heaps 43 = .ok (.ifCond .eq 22, 3) := by decide +kernel
theorem dX12_heaps_46 : decode cX12_heaps 46 = .ok (.aload_n 0, 1) := by decide +kernel
theorem dX12_heaps_47 : decode cX12_heaps 47 = .ok (.iload_n 3, 1) := by decide +kernel
theorem dX12_heaps_48 : decode cX12_heaps 48 = .ok (.iload_n 3, 1) := by decide +kernel
theorem dX12_heaps_49 : decode cX12_heaps 49 = .ok (.iconst 1, 1) := by decide +kernel
theorem dX12_heaps_50 : decode cX12_heaps 50 = .ok (.isub, 1) := by decide +kernel
theorem dX12_heaps_51 : decode cX12_heaps 51 = .ok (.iconst 2, 1) := by decide +kernel
theorem dX12_heaps_52 : decode cX12_heaps 52 = .ok (.idiv, 1) := by decide +kernel
theorem dX12_heaps_53 : decode cX12_heaps 53 = .ok (.invokevirtual 175, 3) := by decide +kernel
theorem dX12_heaps_56 : decode cX12_heaps 56 = .ok (.iload_n 3, 1) := by decide +kernel
theorem dX12_heaps_57 : decode cX12_heaps 57 = .ok (.iconst 1, 1) := by decide +kernel
theorem dX12_heaps_58 : decode cX12_heaps 58 = .ok (.isub, 1) := by decide +kernel
theorem dX12_heaps_59 : decode cX12_heaps 59 = .ok (.iconst 2, 1) := by decide +kernel
theorem dX12_heaps_60 : decode cX12_heaps 60 = .ok (.idiv, 1) := by decide +kernel
theorem dX12_heaps_61 : decode cX12_heaps 61 = .ok (.istore_n 3, 1) := by decide +kernel
theorem dX12_heaps_62 : decode cX12_heaps 62 = .ok (.goto (-33), 3) := by decide +kernel
theorem dX12_heaps_65 : decode cX12_heaps 65 = .ok (.return_, 1) := by decide +kernel
set_option maxRecDepth 20000 in
theorem ggX12_leaves_X12_exchange : GoodIn wsX12_leaves wsX12_exchange := goodIn_r _ [7, 8, 1, 13, 14, 15, 16, 17, 18, 19, 20, 21, 22, 23, 24, 25, 26, 27, 28, 29, 30, 31, 32, 33, 34, 35, 36, 37, 38, 39, 40, 41, 42] (by decide +kernel) (by decide +kernel)
set_option maxRecDepth 20000 in
theorem gX12_leaves_X12_exchange : GoodIn wsX12_leaves (wsV RX12 175 RX12 yX12_exchange wsX12_exchange) := goodIn_app (goodIn_of _ (by decide +kernel)) ggX12_leaves_X12_exchange
set_option maxRecDepth 20000 in
theorem ggX12_leaves_X12_isLess : GoodIn wsX12_leaves wsX12_isLess := goodIn_r _ [12, 8, 1, 13, 14, 15, 16, 17, 18, 19, 20, 21, 22, 23, 24, 25, 26, 27, 28, 29, 30, 31, 32, 33, 34, 35, 36, 37, 38, 39, 40, 41, 42] (by decide +kernel) (by decide +kernel)
set_option maxRecDepth 20000 in
theorem gX12_leaves_X12_isLess : GoodIn wsX12_leaves (wsV RX12 172 RX12 yX12_isLess wsX12_isLess) := goodIn_app (goodIn_of _ (by decide +kernel)) ggX12_leaves_X12_isLess
theorem dX12_leaves_0 : decode cX12_leaves 0 = .ok (.aload_n 0, 1) := by decide +kernel
theorem dX12_leaves_1 : decode cX12_leaves 1 = .ok (.getfield 65, 3) := by decide +kernel
theorem dX12_leaves_4 : decode cX12_leaves 4 = .ok (.iconst 0, 1) := by decide +kernel
theorem dX12_leaves_5 : decode cX12_leaves 5 = .ok (.iaload, 1) := by decide +kernel
theorem dX12_leaves_6 : decode cX12_leaves 6 = .ok (.istore_n 1, 1) := by decide +kernel
theorem dX12_leaves_7 : decode cX12_leaves 7 = .ok (.aload_n 0, 1) := by decide +kernel
theorem dX12_leaves_8 : decode cX12_leaves 8 = .ok (.dup, 1) := by decide +kernel
theorem dX12_leaves_9 : decode cX12_leaves 9 = .ok (.getfield 169, 3) := by decide +kernel
theorem dX12_leaves_12 : decode cX12_leaves 12 = .ok (.iconst 1, 1) := by decide +kernel
theorem dX12_leaves_13 : decode cX12_leaves 13 = .ok (.isub, 1) := by decide +kernel
theorem dX12_leaves_14 : decode cX12_leaves 14 = .ok (.putfield 169, 3) := by decide +kernel
theorem dX12_leaves_17 : decode cX12_leaves 17 = .ok (.aload_n 0, 1) := by decide +kernel
theorem dX12_leaves_18 : decode cX12_leaves 18 = .ok (.iconst 0, 1) := by decide +kernel
theorem dX12_leaves_19 : decode cX12_leaves 19 = .ok (.aload_n 0, 1) := by decide +kernel
theorem dX12_leaves_20 : decode cX12_leaves 20 = .ok (.getfield 169, 3) := by decide +kernel
theorem dX12_leaves_23 : decode cX12_leaves 23 = .ok (.invokevirtual 175, 3) := by decide +kernel
theorem dX12_leaves_26 : decode cX12_leaves 26 = .ok (.iconst 0, 1) := by decide +kernel
theorem dX12_leaves_27 : decode cX12_leaves 27 = .ok (.istore_n 2, 1) := by decide +kernel
theorem dX12_leaves_28 : decode cX12_leaves 28 = .ok (.iconst 1, 1) := by decide +kernel
theorem dX12_leaves_29 : decode cX12_leaves 29 = .ok (.istore_n 3, 1) := by decide +kernel
theorem dX12_leaves_30 : decode cX12_leaves 30 = .ok (.iload_n 3, 1) := by decide +kernel
theorem dX12_leaves_31 : decode cX12_leaves 31 = .ok (.ifCond .eq 107, 3) := by decide +kernel
theorem dX12_leaves_34 : decode cX12_leaves 34 = .ok (.iload_n 2, 1) := by decide +kernel
theorem dX12_leaves_35 : decode cX12_leaves 35 = .ok (.istore 4, 2) := by decide +kernel
theorem dX12_leaves_37 : decode cX12_leaves 37 = .ok (.iconst 2, 1) := by decide +kernel
theorem dX12_leaves_38 : decode cX12_leaves 38 = .ok (.iload_n 2, 1) := by decide +kernel
theorem dX12_leaves_39 : decode cX12_leaves 39 = .ok (.imul, 1) := by decide +kernel
theorem dX12_leaves_40 : decode cX12_leaves 40 = .ok (.iconst 1, 1) := by decide +kernel
theorem dX12_leaves_41 : decode cX12_leaves 41 = .ok (.iadd, 1) := by decide +kernel
theorem dX12_leaves_42 : decode cX12_leaves 42 = .ok (.aload_n 0, 1) := by decide +kernel
theorem dX12_leaves_43 : decode cX12_leaves 43 = .ok (.getfield 169, 3) := by decide +kernel
theorem dX12_leaves_46 : decode cX12_leaves 46 = .ok (.if_icmp .ge 25, 3) := by decide +kernel
theorem dX12_leaves_49 : decode cX12_leaves 49 = .ok (.aload_n 0, 1) := by decide +kernel
theorem dX12_leaves_50 : decode cX12_leaves 50 = .ok (.iconst 2, 1) := by decide +kernel
theorem dX12_leaves_51 : decode cX12_leaves 51 = .ok (.iload_n 2, 1) := by decide +kernel
theorem dX12_leaves_52 : decode cX12_leaves 52 = .ok (.imul, 1) := by decide +kernel
theorem dX12_leaves_53 : decode cX12_leaves 53 = .ok (.iconst 1, 1) := by decide +kernel
theorem dX12_leaves_54 : decode cX12_leaves 54 = .ok (.iadd, 1) := by decide +kernel
theorem dX12_leaves_55 : decode cX12_leaves 55 = .ok (.iload 4, 2) := by decide +kernel
theorem dX12_leaves_57 : decode cX12_leaves 57 = .ok (.invokevirtual 172, 3) := by decide +kernel
theorem dX12_leaves_60 : decode cX12_leaves 60 = .ok (.ifCond .eq 11, 3) := by decide +kernel
theorem dX12_leaves_63 : decode cX12_leaves 63 = .ok (.iconst 2, 1) := by decide +kernel
theorem dX12_leaves_64 : decode cX12_leaves 64 = .ok (.iload_n 2, 1) := by decide +kernel
theorem dX12_leaves_65 : decode cX12_leaves 65 = .ok (.imul, 1) := by decide +kernel
theorem dX12_leaves_66 : decode cX12_leaves 66 = .ok (.iconst 1, 1) := by decide +kernel
theorem dX12_leaves_67 : decode cX12_leaves 67 = .ok (.iadd, 1) := by decide +kernel
theorem dX12_leaves_68 : decode cX12_leaves 68 = .ok (.goto 5, 3) := by decide +kernel
theorem dX12_leaves_71 : decode cX12_leaves 71 = .ok (.iload 4, 2) := by decide +kernel
theorem dX12_leaves_73 : decode cX12_leaves 73 = .ok (.istore 4, 2) := by decide +kernel
theorem dX12_leaves_75 : decode cX12_leaves 75 = .ok (.iconst 2, 1) := by decide +kernel
theorem dX12_leaves_76 : decode cX12_leaves 76 = .ok (.iload_n 2, 1) := by decide +kernel
theorem dX12_leaves_77 : decode cX12_leaves 77 = .ok (.imul, 1) := by decide +kernel
theorem dX12_leaves_78 : decode cX12_leaves 78 = .ok (.iconst 2, 1) := by decide +kernel
theorem dX12_leaves_79 : decode cX12_leaves 79 = .ok (.iadd, 1) := by decide +kernel
theorem dX12_leaves_80 : decode cX12_leaves 80 = .ok (.aload_n 0, 1) := by decide +kernel
theorem dX12_leaves_81 : decode cX12_leaves 81 = .ok (.getfield 169, 3) := by decide +kernel
theorem dX12_leaves_84 : decode cX12_leaves 84 = .ok (.if_icmp .ge 25, 3) := by decide +kernel
theorem dX12_leaves_87 : decode cX12_leaves 87 = .ok (.aload_n 0, 1) := by decide +kernel
theorem dX12_leaves_88 : decode cX12_leaves 88 = .ok (.iconst 2, 1) := by decide +kernel
theorem dX12_leaves_89 : decode cX12_leaves 89 = .ok (.iload_n 2, 1) := by decide +kernel
theorem dX12_leaves_90 : decode cX12_leaves 90 = .ok (.imul, 1) := by decide +kernel
theorem dX12_leaves_91 : decode cX12_leaves 91 = .ok (.iconst 2, 1) := by decide +kernel
theorem dX12_leaves_92 : decode cX12_leaves 92 = .ok (.iadd, 1) := by decide +kernel
theorem dX12_leaves_93 : decode cX12_leaves 93 = .ok (.iload 4, 2) := by decide +kernel
theorem dX12_leaves_95 : decode cX12_leaves 95 = .ok (.invokevirtual 172, 3) := by decide +kernel
theorem dX12_leaves_98 : decode cX12_leaves 98 = .ok (.ifCond .eq 11, 3) := by decide +kernel
theorem dX12_leaves_101 : decode cX12_leaves 101 = .ok (.iconst 2, 1) := by decide +kernel
theorem dX12_leaves_102 : decode cX12_leaves 102 = .ok (.iload_n 2, 1) := by decide +kernel
theorem dX12_leaves_103 : decode cX12_leaves 103 = .ok (.imul, 1) := by decide +kernel
theorem dX12_leaves_104 : decode cX12_leaves 104 = .ok (.iconst 2, 1) := by decide +kernel
theorem dX12_leaves_105 : decode cX12_leaves 105 = .ok (.iadd, 1) := by decide +kernel
theorem dX12_leaves_106 : decode cX12_leaves 106 = .ok (.goto 5, 3) := by decide +kernel
theorem dX12_leaves_109 : decode cX12_leaves 109 = .ok (.iload 4, 2) := by decide +kernel
theorem dX12_leaves_111 : decode cX12_leaves 111 = .ok (.istore 4, 2) := by decide +kernel
theorem dX12_leaves_113 : decode cX12_leaves 113 = .ok (.iload 4, 2) := by decide +kernel
theorem dX12_leaves_115 : decode cX12_leaves 115 = .ok (.iload_n 2, 1) := by decide +kernel
theorem dX12_leaves_116 : decode cX12_leaves 116 = .ok (.if_icmp .eq 7, 3) := by decide +kernel
theorem dX12_leaves_119 : decode cX12_leaves 119 = .ok (.iconst 1, 1) := by decide +kernel
theorem dX12_leaves_120 : decode cX12_leaves 120 = .ok (.goto 4, 3) := by decide +kernel
theorem dX12_leaves_123 : decode cX12_leaves 123 = .ok (.iconst 0, 1) := by decide +kernel
theorem dX12_leaves_124 : decode cX12_leaves 124 = .ok (.istore_n 3, 1) := by decide +kernel
theorem dX12_leaves_125 : decode cX12_leaves 125 = .ok (.aload_n 0, 1) := by decide +kernel
theorem dX12_leaves_126 : decode cX12_leaves 126 = .ok (.iload_n 2, 1) := by decide +kernel
theorem dX12_leaves_127 : decode cX12_leaves 127 = .ok (.iload 4, 2) := by decide +kernel
theorem dX12_leaves_129 : decode cX12_leaves 129 = .ok (.invokevirtual 175, 3) := by decide +kernel
theorem dX12_leaves_132 : decode cX12_leaves 132 = .ok (.iload 4, 2) := by decide +kernel
theorem dX12_leaves_134 : decode cX12_leaves 134 = .ok (.istore_n 2, 1) := by decide +kernel
theorem dX12_leaves_135 : decode cX12_leaves 135 = .ok (.goto (-105), 3) := by decide +kernel
theorem dX12_leaves_138 : decode cX12_leaves 138 = .ok (.iload_n 1, 1) := by decide +kernel
theorem dX12_leaves_139 : decode cX12_leaves 139 = .ok (.ireturn, 1) := by decide +kernel
set_option maxRecDepth 20000 in
theorem ggX12_cheapest_X12_isSet : GoodIn wsX12_cheapest wsX12_isSet := goodIn_r _ [12, 13, 14, 15, 16, 11, 17, 18, 19, 20, 21, 61, 62, 63, 64, 65, 66, 67, 68, 69, 70, 71, 72, 73, 74, 75, 76, 77, 78, 79, 80, 81, 82, 83, 84, 85, 86, 87, 88, 89, 90] (by decide +kernel) (by decide +kernel)
set_option maxRecDepth 20000 in
theorem gX12_cheapest_X12_isSet : GoodIn wsX12_cheapest (wsV RX12 126 RX12 yX12_isSet wsX12_isSet) := goodIn_app (goodIn_of _ (by decide +kernel)) ggX12_cheapest_X12_isSet
set_option maxRecDepth 20000 in
theorem ggX12_cheapest_X12_heaps : GoodIn wsX12_cheapest wsX12_heaps := goodIn_r _ [25, 3, 26, 27, 28, 29, 30, 11, 31, 32, 33, 34, 35, 61, 62, 63, 64, 65, 66, 67, 68, 69, 70, 71, 72, 73, 74, 75, 76, 77, 78, 79, 80, 81, 82, 83, 84, 85, 86, 87, 88, 89, 90] (by decide +kernel) (by decide +kernel)
set_option maxRecDepth 20000 in
theorem gX12_cheapest_X12_heaps : GoodIn wsX12_cheapest (wsV RX12 179 RX12 yX12_heaps wsX12_heaps) := goodIn_app (goodIn_of _ (by decide +kernel)) ggX12_cheapest_X12_heaps
set_option maxRecDepth 20000 in
theorem ggX12_cheapest_X12_leaves : GoodIn wsX12_cheapest wsX12_leaves := goodIn_r _ [39, 27, 3, 32, 33, 34, 11, 35, 26, 28, 29, 30, 31, 61, 62, 63, 64, 65, 66, 67, 68, 69, 70, 71, 72, 73, 74, 75, 76, 77, 78, 79, 80, 81, 82, 83, 84, 85, 86, 87, 88, 89, 90] (by decide +kernel) (by decide +kernel)
set_option maxRecDepth 20000 in
theorem gX12_cheapest_X12_leaves : GoodIn wsX12_cheapest (wsV RX12 182 RX12 yX12_leaves wsX12_leaves) := goodIn_app (goodIn_of _ (by decide +kernel)) ggX12_cheapest_X12_leaves
set_option maxRecDepth 20000 in
theorem ggX12_cheapest_X12_many : GoodIn wsX12_cheapest wsX12_many := goodIn_r _ [42] (by decide +kernel) (by decide +kernel)
set_option maxRecDepth 20000 in
theorem gX12_cheapest_X12_many : GoodIn wsX12_cheapest (va_wsS RX12 132 yX12_many wsX12_many) := goodIn_app (goodIn_of _ (by decide +kernel)) ggX12_cheapest_X12_many
set_option maxRecDepth 20000 in
theorem ggX12_cheapest_X12_becomesWord : GoodIn wsX12_cheapest wsX12_becomesWord := goodIn_r _ [46, 47, 48, 7, 4, 49, 50, 51, 11, 52, 61, 62, 63, 64, 65, 66, 67, 68, 69, 70, 71, 72, 73, 74, 75, 76, 77, 78, 79, 80, 81, 82, 83, 84, 85, 86, 87, 88, 89, 90] (by decide +kernel) (by decide +kernel)
set_option maxRecDepth 20000 in
theorem gX12_cheapest_X12_becomesWord : GoodIn wsX12_cheapest (wsV RX12 148 RX12 yX12_becomesWord wsX12_becomesWord) := goodIn_app (goodIn_of _ (by decide +kernel)) ggX12_cheapest_X12_becomesWord
set_option maxRecDepth 20000 in
theorem ggX12_cheapest_X12_next : GoodIn wsX12_cheapest wsX12_next := goodIn_r _ [56, 13, 57, 58, 59, 11, 60, 61, 62, 63, 64, 65, 66, 67, 68, 69, 70, 71, 72, 73, 74, 75, 76, 77, 78, 79, 80, 81, 82, 83, 84, 85, 86, 87, 88, 89, 90] (by decide +kernel) (by decide +kernel)
set_option maxRecDepth 20000 in
theorem gX12_cheapest_X12_next : GoodIn wsX12_cheapest (wsV RX12 129 RX12 yX12_next wsX12_next) := goodIn_app (goodIn_of _ (by decide +kernel)) ggX12_cheapest_X12_next
theorem dX12_cheapest_0 : decode cX12_cheapest 0 = .ok (.aload_n 0, 1) := by decide +kernel
theorem dX12_cheapest_1 : decode cX12_cheapest 1 = .ok (.iload_n 1, 1) := by decide +kernel
theorem dX12_cheapest_2 : decode cX12_cheapest 2 = .ok (.iload_n 2, 1) := by decide +kernel
theorem dX12_cheapest_3 : decode cX12_cheapest 3 = .ok (.invokevirtual 126, 3) := by decide +kernel
theorem dX12_cheapest_6 : decode cX12_cheapest 6 = .ok (.ifCond .ne 6, 3) := by decide +kernel
theorem dX12_cheapest_9 : decode cX12_cheapest 9 = .ok (.bipush (-2), 2) := by decide +kernel
theorem dX12_cheapest_11 : decode cX12_cheapest 11 = .ok (.ireturn, 1) := by decide +kernel
theorem dX12_cheapest_12 : decode cX12_cheapest 12 = .ok (.iconst 0, 1) := by decide +kernel
theorem dX12_cheapest_13 : decode cX12_cheapest 13 = .ok (.istore_n 3, 1) := by decide +kernel
theorem dX12_cheapest_14 : decode cX12_cheapest 14 = .ok (.iload_n 3, 1) := by decide +kernel
theorem dX12_cheapest_15 : decode cX12_cheapest 15 = .ok (.sipush 4096, 3) := by decide +kernel
theorem dX12_cheapest_18 : decode cX12_cheapest 18 = .ok (.if_icmp .ge 23, 3) := by decide +kernel
theorem dX12_cheapest_21 : decode cX12_cheapest 21 = .ok (.aload_n 0, 1) := by decide +kernel
theorem dX12_cheapest_22 : decode cX12_cheapest 22 = .ok (.getfield 56, 3) := by decide +kernel
theorem dX12_cheapest_25 : decode cX12_cheapest 25 = .ok (.iload_n 3, 1) := by decide +kernel
theorem dX12_cheapest_26 : decode cX12_cheapest 26 = .ok (.iconst (-1), 1) := by decide +kernel
theorem dX12_cheapest_27 : decode cX12_cheapest 27 = .ok (.iastore, 1) := by decide +kernel
theorem dX12_cheapest_28 : decode cX12_cheapest 28 = .ok (.aload_n 0, 1) := by decide +kernel
theorem dX12_cheapest_29 : decode cX12_cheapest 29 = .ok (.getfield 59, 3) := by decide +kernel
theorem dX12_cheapest_32 : decode cX12_cheapest 32 = .ok (.iload_n 3, 1) := by decide +kernel
theorem dX12_cheapest_33 : decode cX12_cheapest 33 = .ok (.iconst 0, 1) := by decide +kernel
theorem dX12_cheapest_34 : decode cX12_cheapest 34 = .ok (.bastore, 1) := by decide +kernel
theorem dX12_cheapest_35 : decode cX12_cheapest 35 = .ok (.iinc 3 1, 3) := by decide +kernel
theorem dX12_cheapest_38 : decode cX12_cheapest 38 = .ok (.goto (-24), 3) := by decide +kernel
theorem dX12_cheapest_41 : decode cX12_cheapest 41 = .ok (.aload_n 0, 1) := by decide +kernel
theorem dX12_cheapest_42 : decode cX12_cheapest 42 = .ok (.iconst 0, 1) := by decide +kernel
theorem dX12_cheapest_43 : decode cX12_cheapest 43 = .ok (.putfield 169, 3) := by decide +kernel
theorem dX12_cheapest_46 : decode cX12_cheapest 46 = .ok (.aload_n 0, 1) := by decide +kernel
theorem dX12_cheapest_47 : decode cX12_cheapest 47 = .ok (.getfield 56, 3) := by decide +kernel
theorem dX12_cheapest_50 : decode cX12_cheapest 50 = .ok (.iload_n 2, 1) := by decide +kernel
theorem dX12_cheapest_51 : decode cX12_cheapest 51 = .ok (.iconst 0, 1) := by decide +kernel
theorem dX12_cheapest_52 : decode cX12_cheapest 52 = .ok (.iastore, 1) := by decide +kernel
theorem dX12_cheapest_53 : decode cX12_cheapest 53 = .ok (.aload_n 0, 1) := by decide +kernel
theorem dX12_cheapest_54 : decode cX12_cheapest 54 = .ok (.getfield 34, 3) := by decide +kernel
theorem dX12_cheapest_57 : decode cX12_cheapest 57 = .ok (.iload_n 2, 1) := by decide +kernel
theorem dX12_cheapest_58 : decode cX12_cheapest 58 = .ok (.iconst 0, 1) := by decide +kernel
theorem dX12_cheapest_59 : decode cX12_cheapest 59 = .ok (.iastore, 1) := by decide +kernel
theorem dX12_cheapest_60 : decode cX12_cheapest 60 = .ok (.aload_n 0, 1) := by decide +kernel
theorem dX12_cheapest_61 : decode cX12_cheapest 61 = .ok (.iconst 0, 1) := by decide +kernel
theorem dX12_cheapest_62 : decode cX12_cheapest 62 = .ok (.iload_n 2, 1) := by decide +kernel
theorem dX12_cheapest_63 : decode cX12_cheapest 63 = .ok (.invokevirtual 179, 3) := by decide +kernel
theorem dX12_cheapest_66 : decode cX12_cheapest 66 = .ok (.aload_n 0, 1) := by decide +kernel
theorem dX12_cheapest_67 : decode cX12_cheapest 67 = .ok (.getfield 169, 3) := by decide +kernel
theorem dX12_cheapest_70 : decode cX12_cheapest 70 = .ok (.ifCond .le 170, 3) := by decide +kernel
theorem dX12_cheapest_73 : decode cX12_cheapest 73 = .ok (.aload_n 0, 1) := by decide +kernel
theorem dX12_cheapest_74 : decode cX12_cheapest 74 = .ok (.invokevirtual 182, 3) := by decide +kernel
theorem dX12_cheapest_77 : decode cX12_cheapest 77 = .ok (.istore_n 3, 1) := by decide +kernel
theorem dX12_cheapest_78 : decode cX12_cheapest 78 = .ok (.aload_n 0, 1) := by decide +kernel
theorem dX12_cheapest_79 : decode cX12_cheapest 79 = .ok (.getfield 59, 3) := by decide +kernel
theorem dX12_cheapest_82 : decode cX12_cheapest 82 = .ok (.iload_n 3, 1) := by decide +kernel
theorem dX12_cheapest_83 : decode cX12_cheapest 83 = .ok (.baload, 1) := by decide +kernel
theorem dX12_cheapest_84 : decode cX12_cheapest 84 = .ok (.ifCond .ne 153, 3) := by decide +kernel
theorem dX12_cheapest_87 : decode cX12_cheapest 87 = .ok (.aload_n 0, 1) := by decide +kernel
theorem dX12_cheapest_88 : decode cX12_cheapest 88 = .ok (.getfield 59, 3) := by decide +kernel
theorem dX12_cheapest_91 : decode cX12_cheapest 91 = .ok (.iload_n 3, 1) := by decide +kernel
theorem dX12_cheapest_92 : decode cX12_cheapest 92 = .ok (.iconst 1, 1) := by decide +kernel
theorem dX12_cheapest_93 : decode cX12_cheapest 93 = .ok (.bastore, 1) := by decide +kernel
theorem dX12_cheapest_94 : decode cX12_cheapest 94 = .ok (.iload_n 3, 1) := by decide +kernel
theorem dX12_cheapest_95 : decode cX12_cheapest 95 = .ok (.invokestatic 132, 3) := by decide +kernel
theorem dX12_cheapest_98 : decode cX12_cheapest 98 = .ok (.iconst 1, 1) := by decide +kernel
theorem dX12_cheapest_99 : decode cX12_cheapest 99 = .ok (.if_icmp .ne 16, 3) := by decide +kernel
theorem dX12_cheapest_102 : decode cX12_cheapest 102 = .ok (.aload_n 0, 1) := by decide +kernel
theorem dX12_cheapest_103 : decode cX12_cheapest 103 = .ok (.iload_n 3, 1) := by decide +kernel
theorem dX12_cheapest_104 : decode cX12_cheapest 104 = .ok (.invokevirtual 148, 3) := by decide +kernel
theorem dX12_cheapest_107 : decode cX12_cheapest 107 = .ok (.pop, 1) := by decide +kernel
theorem dX12_cheapest_108 : decode cX12_cheapest 108 = .ok (.aload_n 0, 1) := by decide +kernel
theorem dX12_cheapest_109 : decode cX12_cheapest 109 = .ok (.getfield 56, 3) := by decide +kernel
theorem dX12_cheapest_112 : decode cX12_cheapest 112 = .ok (.iload_n 3, 1) := by decide +kernel
theorem dX12_cheapest_113 : decode cX12_cheapest 113 = .ok (.iaload, 1) := by decide +kernel
theorem dX12_cheapest_114 : decode cX12_cheapest 114 = .ok (.ireturn, 1) := by decide +kernel
theorem dX12_cheapest_115 : decode cX12_cheapest 115 = .ok (.iconst 0, 1) := by decide +kernel
theorem dX12_cheapest_116 : decode cX12_cheapest 116 = .ok (.istore 4, 2) := by decide +kernel
theorem dX12_cheapest_118 : decode cX12_cheapest 118 = .ok (.iload 4, 2) := by decide +kernel
theorem dX12_cheapest_120 : decode cX12_cheapest 120 = .ok (.aload_n 0, 1) := by decide +kernel
theorem dX12_cheapest_121 : decode cX12_cheapest 121 = .ok (.getfield 13, 3) := by decide +kernel
theorem dX12_cheapest_124 : decode cX12_cheapest 124 = .ok (.iload_n 1, 1) := by decide +kernel
theorem dX12_cheapest_125 : decode cX12_cheapest 125 = .ok (.iaload, 1) := by decide +kernel
theorem dX12_cheapest_126 : decode cX12_cheapest 126 = .ok (.if_icmp .ge 111, 3) := by decide +kernel
theorem dX12_cheapest_129 : decode cX12_cheapest 129 = .ok (.aload_n 0, 1) := by decide +kernel
theorem dX12_cheapest_130 : decode cX12_cheapest 130 = .ok (.iload_n 1, 1) := by decide +kernel
theorem dX12_cheapest_131 : decode cX12_cheapest 131 = .ok (.iload_n 3, 1) := by decide +kernel
theorem dX12_cheapest_132 : decode cX12_cheapest 132 = .ok (.iload 4, 2) := by decide +kernel
theorem dX12_cheapest_134 : decode cX12_cheapest 134 = .ok (.invokevirtual 129, 3) := by decide +kernel
theorem dX12_cheapest_137 : decode cX12_cheapest 137 = .ok (.istore 5, 2) := by decide +kernel
theorem dX12_cheapest_139 : decode cX12_cheapest 139 = .ok (.aload_n 0, 1) := by decide +kernel
theorem dX12_cheapest_140 : decode cX12_cheapest 140 = .ok (.getfield 56, 3) := by decide +kernel
theorem dX12_cheapest_143 : decode cX12_cheapest 143 = .ok (.iload_n 3, 1) := by decide +kernel
theorem dX12_cheapest_144 : decode cX12_cheapest 144 = .ok (.iaload, 1) := by decide +kernel
theorem dX12_cheapest_145 : decode cX12_cheapest 145 = .ok (.aload_n 0, 1) := by decide +kernel
theorem dX12_cheapest_146 : decode cX12_cheapest 146 = .ok (.getfield 22, 3) := by decide +kernel
theorem dX12_cheapest_149 : decode cX12_cheapest 149 = .ok (.iconst 4, 1) := by decide +kernel
theorem dX12_cheapest_150 : decode cX12_cheapest 150 = .ok (.iload_n 1, 1) := by decide +kernel
theorem dX12_cheapest_151 : decode cX12_cheapest 151 = .ok (.imul, 1) := by decide +kernel
theorem dX12_cheapest_152 : decode cX12_cheapest 152 = .ok (.iload 4, 2) := by decide +kernel
theorem dX12_cheapest_154 : decode cX12_cheapest 154 = .ok (.iadd, 1) := by decide +kernel
theorem dX12_cheapest_155 : decode cX12_cheapest 155 = .ok (.iaload, 1) := by decide +kernel
theorem dX12_cheapest_156 : decode cX12_cheapest 156 = .ok (.iadd, 1) := by decide +kernel
theorem dX12_cheapest_157 : decode cX12_cheapest 157 = .ok (.istore 6, 2) := by decide +kernel
theorem dX12_cheapest_159 : decode cX12_cheapest 159 = .ok (.iload 5, 2) := by decide +kernel
theorem dX12_cheapest_161 : decode cX12_cheapest 161 = .ok (.ifCond .le 70, 3) := by decide +kernel
theorem dX12_cheapest_164 : decode cX12_cheapest 164 = .ok (.aload_n 0, 1) := by decide +kernel
theorem dX12_cheapest_165 : decode cX12_cheapest 165 = .ok (.getfield 59, 3) := by decide +kernel
theorem dX12_cheapest_168 : decode cX12_cheapest 168 = .ok (.iload 5, 2) := by decide +kernel
theorem dX12_cheapest_170 : decode cX12_cheapest 170 = .ok (.baload, 1) := by decide +kernel
theorem dX12_cheapest_171 : decode cX12_cheapest 171 = .ok (.ifCond .ne 60, 3) := by decide +kernel
theorem dX12_cheapest_174 : decode cX12_cheapest 174 = .ok (.aload_n 0, 1) := by decide +kernel
theorem dX12_cheapest_175 : decode cX12_cheapest 175 = .ok (.getfield 56, 3) := by decide +kernel
theorem dX12_cheapest_178 : decode cX12_cheapest 178 = .ok (.iload 5, 2) := by decide +kernel
theorem dX12_cheapest_180 : decode cX12_cheapest 180 = .ok (.iaload, 1) := by decide +kernel
theorem dX12_cheapest_181 : decode cX12_cheapest 181 = .ok (.iconst (-1), 1) := by decide +kernel
theorem dX12_cheapest_182 : decode cX12_cheapest 182 = .ok (.if_icmp .eq 15, 3) := by decide +kernel
theorem dX12_cheapest_185 : decode cX12_cheapest 185 = .ok (.iload 6, 2) := by decide +kernel
theorem dX12_cheapest_187 : decode cX12_cheapest 187 = .ok (.aload_n 0, 1) := by decide +kernel
theorem dX12_cheapest_188 : decode cX12_cheapest 188 = .ok (.getfield 56, 3) := by decide +kernel
theorem dX12_cheapest_191 : decode cX12_cheapest 191 = .ok (.iload 5, 2) := by decide +kernel
theorem dX12_cheapest_193 : decode cX12_cheapest 193 = .ok (.iaload, 1) := by decide +kernel
theorem dX12_cheapest_194 : decode cX12_cheapest 194 = .ok (.if_icmp .ge 37, 3) := by decide +kernel
theorem dX12_cheapest_197 : decode cX12_cheapest 197 = .ok (.aload_n 0, 1) := by decide +kernel
theorem dX12_cheapest_198 : decode cX12_cheapest 198 = .ok (.getfield 56, 3) := by decide +kernel
theorem dX12_cheapest_201 : decode cX12_cheapest 201 = .ok (.iload 5, 2) := by decide +kernel
theorem dX12_cheapest_203 : decode cX12_cheapest 203 = .ok (.iload 6, 2) := by decide +kernel
theorem dX12_cheapest_205 : decode cX12_cheapest 205 = .ok (.iastore, 1) := by decide +kernel
theorem dX12_cheapest_206 : decode cX12_cheapest 206 = .ok (.aload_n 0, 1) := by decide +kernel
theorem dX12_cheapest_207 : decode cX12_cheapest 207 = .ok (.getfield 34, 3) := by decide +kernel
theorem dX12_cheapest_210 : decode cX12_cheapest 210 = .ok (.iload 5, 2) := by decide +kernel
theorem dX12_cheapest_212 : decode cX12_cheapest 212 = .ok (.iload_n 3, 1) := by decide +kernel
theorem dX12_cheapest_213 : decode cX12_cheapest 213 = .ok (.iastore, 1) := by decide +kernel
theorem dX12_cheapest_214 : decode cX12_cheapest 214 = .ok (.aload_n 0, 1) := by decide +kernel
theorem dX12_cheapest_215 : decode cX12_cheapest 215 = .ok (.getfield 37, 3) := by decide +kernel
theorem dX12_cheapest_218 : decode cX12_cheapest 218 = .ok (.iload 5, 2) := by decide +kernel
theorem dX12_cheapest_220 : decode cX12_cheapest 220 = .ok (.iload 4, 2) := by decide +kernel
theorem dX12_cheapest_222 : decode cX12_cheapest 222 = .ok (.iastore, 1) := by decide +kernel
theorem dX12_cheapest_223 : decode cX12_cheapest 223 = .ok (.aload_n 0, 1) := by decide +kernel
theorem dX12_cheapest_224 : decode cX12_cheapest 224 = .ok (.iload 6, 2) := by decide +kernel
theorem dX12_cheapest_226 : decode cX12_cheapest 226 = .ok (.iload 5, 2) := by decide +kernel
theorem dX12_cheapest_228 : decode cX12_cheapest 228 = .ok (.invokevirtual 179, 3) := by decide +kernel
theorem dX12_cheapest_231 : decode cX12_cheapest 231 = .ok (.iinc 4 1, 3) := by decide +kernel
theorem dX12_cheapest_234 : decode cX12_cheapest 234 = .ok (.goto (-116), 3) := by decide +kernel
theorem dX12_cheapest_237 : decode cX12_cheapest 237 = .ok (.goto (-171), 3) := by decide +kernel
theorem dX12_cheapest_240 : decode cX12_cheapest 240 = .ok (.iconst (-1), 1) := by decide +kernel
theorem dX12_cheapest_241 : decode cX12_cheapest 241 = .ok (.ireturn, 1) := by decide +kernel
set_option maxRecDepth 20000 in
theorem ggX12_isTime_X12_in : GoodIn wsX12_isTime wsX12_in := goodIn_r _ [4] (by decide +kernel) (by decide +kernel)
set_option maxRecDepth 20000 in
theorem gX12_isTime_X12_in : GoodIn wsX12_isTime (va_wsS RX12 94 yX12_in wsX12_in) := goodIn_app (goodIn_of _ (by decide +kernel)) ggX12_isTime_X12_in
theorem dX12_isTime_0 : decode cX12_isTime 0 = .ok (.iload_n 0, 1) := by decide +kernel
theorem dX12_isTime_1 : decode cX12_isTime 1 = .ok (.iconst 0, 1) := by decide +kernel
theorem dX12_isTime_2 : decode cX12_isTime 2 = .ok (.bipush 12, 2) := by decide +kernel
theorem dX12_isTime_4 : decode cX12_isTime 4 = .ok (.invokestatic 94, 3) := by decide +kernel
theorem dX12_isTime_7 : decode cX12_isTime 7 = .ok (.ireturn, 1) := by decide +kernel
set_option maxRecDepth 20000 in
theorem ggX12_chance_X12_isSet : GoodIn wsX12_chance wsX12_isSet := goodIn_r _ [11, 2, 12, 13, 14, 10, 15, 16, 17, 18, 19, 31, 32, 33, 34, 35, 36, 37, 38, 39, 40, 41, 42, 43, 44, 45, 46, 47, 48, 49, 50, 51, 52, 53, 54, 55, 56, 57, 58, 59, 60] (by decide +kernel) (by decide +kernel)
set_option maxRecDepth 20000 in
theorem gX12_chance_X12_isSet : GoodIn wsX12_chance (wsV RX12 126 RX12 yX12_isSet wsX12_isSet) := goodIn_app (goodIn_of _ (by decide +kernel)) ggX12_chance_X12_isSet
set_option maxRecDepth 20000 in
theorem ggX12_chance_X12_isTime : GoodIn wsX12_chance wsX12_isTime := goodIn_r _ [22, 17, 18, 10, 19] (by decide +kernel) (by decide +kernel)
set_option maxRecDepth 20000 in
theorem gX12_chance_X12_isTime : GoodIn wsX12_chance (va_wsS RX12 186 yX12_isTime wsX12_isTime) := goodIn_app (goodIn_of _ (by decide +kernel)) ggX12_chance_X12_isTime
set_option maxRecDepth 20000 in
theorem ggX12_chance_X12_next : GoodIn wsX12_chance wsX12_next := goodIn_r _ [26, 2, 27, 28, 29, 10, 30, 31, 32, 33, 34, 35, 36, 37, 38, 39, 40, 41, 42, 43, 44, 45, 46, 47, 48, 49, 50, 51, 52, 53, 54, 55, 56, 57, 58, 59, 60] (by decide +kernel) (by decide +kernel)
set_option maxRecDepth 20000 in
theorem gX12_chance_X12_next : GoodIn wsX12_chance (wsV RX12 129 RX12 yX12_next wsX12_next) := goodIn_app (goodIn_of _ (by decide +kernel)) ggX12_chance_X12_next
theorem dX12_chance_0 : decode cX12_chance 0 = .ok (.aload_n 0, 1) := by decide +kernel
theorem dX12_chance_1 : decode cX12_chance 1 = .ok (.iload_n 1, 1) := by decide +kernel
theorem dX12_chance_2 : decode cX12_chance 2 = .ok (.iload_n 2, 1) := by decide +kernel
theorem dX12_chance_3 : decode cX12_chance 3 = .ok (.invokevirtual 126, 3) := by decide +kernel
theorem dX12_chance_6 : decode cX12_chance 6 = .ok (.ifCond .eq 10, 3) := by decide +kernel
theorem dX12_chance_9 : decode cX12_chance 9 = .ok (.iload_n 3, 1) := by decide +kernel
theorem dX12_chance_10 : decode cX12_chance 10 = .ok (.invokestatic 186, 3) := by decide +kernel
theorem dX12_chance_13 : decode cX12_chance 13 = .ok (.ifCond .ne 7, 3) := by decide +kernel
theorem dX12_chance_16 : decode cX12_chance 16 = .ok (.ldc2_w 189, 3) := by decide +kernel
theorem dX12_chance_19 : decode cX12_chance 19 = .ok (.lreturn, 1) := by decide +kernel
theorem dX12_chance_20 : decode cX12_chance 20 = .ok (.iconst 1, 1) := by decide +kernel
theorem dX12_chance_21 : decode cX12_chance 21 = .ok (.aload_n 0, 1) := by decide +kernel
theorem dX12_chance_22 : decode cX12_chance 22 = .ok (.getfield 7, 3) := by decide +kernel
theorem dX12_chance_25 : decode cX12_chance 25 = .ok (.iload_n 1, 1) := by decide +kernel
theorem dX12_chance_26 : decode cX12_chance 26 = .ok (.iaload, 1) := by decide +kernel
theorem dX12_chance_27 : decode cX12_chance 27 = .ok (.ishl, 1) := by decide +kernel
theorem dX12_chance_28 : decode cX12_chance 28 = .ok (.istore 4, 2) := by decide +kernel
theorem dX12_chance_30 : decode cX12_chance 30 = .ok (.iconst 0, 1) := by decide +kernel
theorem dX12_chance_31 : decode cX12_chance 31 = .ok (.istore 5, 2) := by decide +kernel
theorem dX12_chance_33 : decode cX12_chance 33 = .ok (.iload 5, 2) := by decide +kernel
theorem dX12_chance_35 : decode cX12_chance 35 = .ok (.iload 4, 2) := by decide +kernel
theorem dX12_chance_37 : decode cX12_chance 37 = .ok (.if_icmp .ge 27, 3) := by decide +kernel
theorem dX12_chance_40 : decode cX12_chance 40 = .ok (.aload_n 0, 1) := by decide +kernel
theorem dX12_chance_41 : decode cX12_chance 41 = .ok (.getfield 68, 3) := by decide +kernel
theorem dX12_chance_44 : decode cX12_chance 44 = .ok (.iload 5, 2) := by decide +kernel
theorem dX12_chance_46 : decode cX12_chance 46 = .ok (.iload 5, 2) := by decide +kernel
theorem dX12_chance_48 : decode cX12_chance 48 = .ok (.iload_n 2, 1) := by decide +kernel
theorem dX12_chance_49 : decode cX12_chance 49 = .ok (.if_icmp .ne 7, 3) := by decide +kernel
theorem dX12_chance_52 : decode cX12_chance 52 = .ok (.lconst 1, 1) := by decide +kernel
theorem dX12_chance_53 : decode cX12_chance 53 = .ok (.goto 4, 3) := by decide +kernel
theorem dX12_chance_56 : decode cX12_chance 56 = .ok (.lconst 0, 1) := by decide +kernel
theorem dX12_chance_57 : decode cX12_chance 57 = .ok (.lastore, 1) := by decide +kernel
theorem dX12_chance_58 : decode cX12_chance 58 = .ok (.iinc 5 1, 3) := by decide +kernel
theorem dX12_chance_61 : decode cX12_chance 61 = .ok (.goto (-28), 3) := by decide +kernel
theorem dX12_chance_64 : decode cX12_chance 64 = .ok (.iconst 0, 1) := by decide +kernel
theorem dX12_chance_65 : decode cX12_chance 65 = .ok (.istore 5, 2) := by decide +kernel
theorem dX12_chance_67 : decode cX12_chance 67 = .ok (.iload 5, 2) := by decide +kernel
theorem dX12_chance_69 : decode cX12_chance 69 = .ok (.iload_n 3, 1) := by decide +kernel
theorem dX12_chance_70 : decode cX12_chance 70 = .ok (.if_icmp .ge 157, 3) := by decide +kernel
theorem dX12_chance_73 : decode cX12_chance 73 = .ok (.iconst 0, 1) := by decide +kernel
theorem dX12_chance_74 : decode cX12_chance 74 = .ok (.istore 6, 2) := by decide +kernel
theorem dX12_chance_76 : decode cX12_chance 76 = .ok (.iload 6, 2) := by decide +kernel
theorem dX12_chance_78 : decode cX12_chance 78 = .ok (.iload 4, 2) := by decide +kernel
theorem dX12_chance_80 : decode cX12_chance 80 = .ok (.if_icmp .ge 17, 3) := by decide +kernel
theorem dX12_chance_83 : decode cX12_chance 83 = .ok (.aload_n 0, 1) := by decide +kernel
theorem dX12_chance_84 : decode cX12_chance 84 = .ok (.getfield 72, 3) := by decide +kernel
theorem dX12_chance_87 : decode cX12_chance 87 = .ok (.iload 6, 2) := by decide +kernel
theorem dX12_chance_89 : decode cX12_chance 89 = .ok (.lconst 0, 1) := by decide +kernel
theorem dX12_chance_90 : decode cX12_chance 90 = .ok (.lastore, 1) := by decide +kernel
theorem dX12_chance_91 : decode cX12_chance 91 = .ok (.iinc 6 1, 3) := by decide +kernel
theorem dX12_chance_94 : decode cX12_chance 94 = .ok (.goto (-18), 3) := by decide +kernel
theorem dX12_chance_97 : decode cX12_chance 97 = .ok (.iconst 1, 1) := by decide +kernel
theorem dX12_chance_98 : decode cX12_chance 98 = .ok (.istore 6, 2) := by decide +kernel
theorem dX12_chance_100 : decode cX12_chance 100 = .ok (.iload 6, 2) := by decide +kernel
theorem dX12_chance_102 : decode cX12_chance 102 = .ok (.iload 4, 2) := by decide +kernel
theorem dX12_chance_104 : decode cX12_chance 104 = .ok (.if_icmp .ge 78, 3) := by decide +kernel
theorem dX12_chance_107 : decode cX12_chance 107 = .ok (.iconst 0, 1) := by decide +kernel
theorem dX12_chance_108 : decode cX12_chance 108 = .ok (.istore 7, 2) := by decide +kernel
theorem dX12_chance_110 : decode cX12_chance 110 = .ok (.iload 7, 2) := by decide +kernel
theorem dX12_chance_112 : decode cX12_chance 112 = .ok (.aload_n 0, 1) := by decide +kernel
theorem dX12_chance_113 : decode cX12_chance 113 = .ok (.getfield 13, 3) := by decide +kernel
theorem dX12_chance_116 : decode cX12_chance 116 = .ok (.iload_n 1, 1) := by decide +kernel
theorem dX12_chance_117 : decode cX12_chance 117 = .ok (.iaload, 1) := by decide +kernel
theorem dX12_chance_118 : decode cX12_chance 118 = .ok (.if_icmp .ge 58, 3) := by decide +kernel
theorem dX12_chance_121 : decode cX12_chance 121 = .ok (.aload_n 0, 1) := by decide +kernel
theorem dX12_chance_122 : decode cX12_chance 122 = .ok (.getfield 68, 3) := by decide +kernel
theorem dX12_chance_125 : decode cX12_chance 125 = .ok (.iload 6, 2) := by decide +kernel
theorem dX12_chance_127 : decode cX12_chance 127 = .ok (.laload, 1) := by decide +kernel
theorem dX12_chance_128 : decode cX12_chance 128 = .ok (.lconst 0, 1) := by decide +kernel
theorem dX12_chance_129 : decode cX12_chance 129 = .ok (.lcmp, 1) := by decide +kernel
theorem dX12_chance_130 : decode cX12_chance 130 = .ok (.ifCond .le 46, 3) := by decide +kernel
theorem dX12_chance_133 : decode cX12_chance 133 = .ok (.aload_n 0, 1) := by decide +kernel
theorem dX12_chance_134 : decode cX12_chance 134 = .ok (.getfield 72, 3) := by decide +kernel
theorem dX12_chance_137 : decode cX12_chance 137 = .ok (.aload_n 0, 1) := by decide +kernel
theorem dX12_chance_138 : decode cX12_chance 138 = .ok (.iload_n 1, 1) := by decide +kernel
theorem dX12_chance_139 : decode cX12_chance 139 = .ok (.iload 6, 2) := by decide +kernel
theorem dX12_chance_141 : decode cX12_chance 141 = .ok (.iload 7, 2) := by decide +kernel
theorem dX12_chance_143 : decode cX12_chance 143 = .ok (.invokevirtual 129, 3) := by decide +kernel
theorem dX12_chance_146 : decode cX12_chance 146 = .ok (.dup2, 1) := by decide +kernel
theorem dX12_chance_147 : decode cX12_chance 147 = .ok (.laload, 1) := by decide +kernel
theorem dX12_chance_148 : decode cX12_chance 148 = .ok (.aload_n 0, 1) := by decide +kernel
theorem dX12_chance_149 : decode cX12_chance 149 = .ok (.getfield 68, 3) := by decide +kernel
theorem dX12_chance_152 : decode cX12_chance 152 = .ok (.iload 6, 2) := by decide +kernel
theorem dX12_chance_154 : decode cX12_chance 154 = .ok (.laload, 1) := by decide +kernel
theorem dX12_chance_155 : decode cX12_chance 155 = .ok (.aload_n 0, 1) := by decide +kernel
theorem dX12_chance_156 : decode cX12_chance 156 = .ok (.getfield 25, 3) := by decide +kernel
theorem dX12_chance_159 : decode cX12_chance 159 = .ok (.iconst 4, 1) := by decide +kernel
theorem dX12_chance_160 : decode cX12_chance 160 = .ok (.iload_n 1, 1) := by decide +kernel
theorem dX12_chance_161 : decode cX12_chance 161 = .ok (.imul, 1) := by decide +kernel
theorem dX12_chance_162 : decode cX12_chance 162 = .ok (.iload 7, 2) := by decide +kernel
theorem dX12_chance_164 : decode cX12_chance 164 = .ok (.iadd, 1) := by decide +kernel
theorem dX12_chance_165 : decode cX12_chance 165 = .ok (.iaload, 1) := by decide +kernel
theorem dX12_chance_166 : decode cX12_chance 166 = .ok (.i2l, 1) := by decide +kernel
theorem dX12_chance_167 : decode cX12_chance 167 = .ok (.lmul, 1) := by decide +kernel
theorem dX12_chance_168 : decode cX12_chance 168 = .ok (.ladd, 1) := by decide +kernel
theorem dX12_chance_169 : decode cX12_chance 169 = .ok (.lastore, 1) := by decide +kernel
theorem dX12_chance_170 : decode cX12_chance 170 = .ok (.iinc 7 1, 3) := by decide +kernel
theorem dX12_chance_173 : decode cX12_chance 173 = .ok (.goto (-63), 3) := by decide +kernel
theorem dX12_chance_176 : decode cX12_chance 176 = .ok (.iinc 6 1, 3) := by decide +kernel
theorem dX12_chance_179 : decode cX12_chance 179 = .ok (.goto (-79), 3) := by decide +kernel
theorem dX12_chance_182 : decode cX12_chance 182 = .ok (.iconst 0, 1) := by decide +kernel
theorem dX12_chance_183 : decode cX12_chance 183 = .ok (.istore 6, 2) := by decide +kernel
theorem dX12_chance_185 : decode cX12_chance 185 = .ok (.iload 6, 2) := by decide +kernel
theorem dX12_chance_187 : decode cX12_chance 187 = .ok (.iload 4, 2) := by decide +kernel
theorem dX12_chance_189 : decode cX12_chance 189 = .ok (.if_icmp .ge 32, 3) := by decide +kernel
theorem dX12_chance_192 : decode cX12_chance 192 = .ok (.aload_n 0, 1) := by decide +kernel
theorem dX12_chance_193 : decode cX12_chance 193 = .ok (.getfield 68, 3) := by decide +kernel
theorem dX12_chance_196 : decode cX12_chance 196 = .ok (.iload 6, 2) := by decide +kernel
theorem dX12_chance_198 : decode cX12_chance 198 = .ok (.iload 6, 2) := by decide +kernel
theorem dX12_chance_200 : decode cX12_chance 200 = .ok (.ifCond .ne 7, 3) := by decide +kernel
theorem dX12_chance_203 : decode cX12_chance 203 = .ok (.lconst 0, 1) := by decide +kernel
theorem dX12_chance_204 : decode cX12_chance 204 = .ok (.goto 10, 3) := by decide +kernel
theorem dX12_chance_207 : decode cX12_chance 207 = .ok (.aload_n 0, 1) := by decide +kernel
theorem dX12_chance_208 : decode cX12_chance 208 = .ok (.getfield 72, 3) := by decide +kernel
theorem dX12_chance_211 : decode cX12_chance 211 = .ok (.iload 6, 2) := by decide +kernel
theorem dX12_chance_213 : decode cX12_chance 213 = .ok (.laload, 1) := by decide +kernel
theorem dX12_chance_214 : decode cX12_chance 214 = .ok (.lastore, 1) := by decide +kernel
theorem dX12_chance_215 : decode cX12_chance 215 = .ok (.iinc 6 1, 3) := by decide +kernel
theorem dX12_chance_218 : decode cX12_chance 218 = .ok (.goto (-33), 3) := by decide +kernel
theorem dX12_chance_221 : decode cX12_chance 221 = .ok (.iinc 5 1, 3) := by decide +kernel
theorem dX12_chance_224 : decode cX12_chance 224 = .ok (.goto (-157), 3) := by decide +kernel
theorem dX12_chance_227 : decode cX12_chance 227 = .ok (.lconst 0, 1) := by decide +kernel
theorem dX12_chance_228 : decode cX12_chance 228 = .ok (.lstore 5, 2) := by decide +kernel
theorem dX12_chance_230 : decode cX12_chance 230 = .ok (.iconst 0, 1) := by decide +kernel
theorem dX12_chance_231 : decode cX12_chance 231 = .ok (.istore 7, 2) := by decide +kernel
theorem dX12_chance_233 : decode cX12_chance 233 = .ok (.iload 7, 2) := by decide +kernel
theorem dX12_chance_235 : decode cX12_chance 235 = .ok (.aload_n 0, 1) := by decide +kernel
theorem dX12_chance_236 : decode cX12_chance 236 = .ok (.getfield 7, 3) := by decide +kernel
theorem dX12_chance_239 : decode cX12_chance 239 = .ok (.iload_n 1, 1) := by decide +kernel
theorem dX12_chance_240 : decode cX12_chance 240 = .ok (.iaload, 1) := by decide +kernel
theorem dX12_chance_241 : decode cX12_chance 241 = .ok (.if_icmp .ge 23, 3) := by decide +kernel
theorem dX12_chance_244 : decode cX12_chance 244 = .ok (.lload 5, 2) := by decide +kernel
theorem dX12_chance_246 : decode cX12_chance 246 = .ok (.aload_n 0, 1) := by decide +kernel
theorem dX12_chance_247 : decode cX12_chance 247 = .ok (.getfield 68, 3) := by decide +kernel
theorem dX12_chance_250 : decode cX12_chance 250 = .ok (.iconst 1, 1) := by decide +kernel
theorem dX12_chance_251 : decode cX12_chance 251 = .ok (.iload 7, 2) := by decide +kernel
theorem dX12_chance_253 : decode cX12_chance 253 = .ok (.ishl, 1) := by decide +kernel
theorem dX12_chance_254 : decode cX12_chance 254 = .ok (.laload, 1) := by decide +kernel
theorem dX12_chance_255 : decode cX12_chance 255 = .ok (.ladd, 1) := by decide +kernel
theorem dX12_chance_256 : decode cX12_chance 256 = .ok (.lstore 5, 2) := by decide +kernel
theorem dX12_chance_258 : decode cX12_chance 258 = .ok (.iinc 7 1, 3) := by decide +kernel
theorem dX12_chance_261 : decode cX12_chance 261 = .ok (.goto (-28), 3) := by decide +kernel
theorem dX12_chance_264 : decode cX12_chance 264 = .ok (.lload 5, 2) := by decide +kernel
theorem dX12_chance_266 : decode cX12_chance 266 = .ok (.lreturn, 1) := by decide +kernel
set_option maxRecDepth 20000 in
theorem ggX12_chances_X12_isMachine : GoodIn wsX12_chances wsX12_isMachine := goodIn_r _ [8, 9, 10, 11, 7, 12, 16, 17, 18, 19, 20, 21, 22, 23, 24, 25, 26, 27, 28, 29, 30, 31, 32, 33, 34, 35, 36, 37, 38, 39, 40, 41, 42, 43, 44, 45] (by decide +kernel) (by decide +kernel)
set_option maxRecDepth 20000 in
theorem gX12_chances_X12_isMachine : GoodIn wsX12_chances (wsV RX12 106 RX12 yX12_isMachine wsX12_isMachine) := goodIn_app (goodIn_of _ (by decide +kernel)) ggX12_chances_X12_isMachine
set_option maxRecDepth 20000 in
theorem ggX12_chances_X12_isTime : GoodIn wsX12_chances wsX12_isTime := goodIn_r _ [15, 10, 11, 7, 12] (by decide +kernel) (by decide +kernel)
set_option maxRecDepth 20000 in
theorem gX12_chances_X12_isTime : GoodIn wsX12_chances (va_wsS RX12 186 yX12_isTime wsX12_isTime) := goodIn_app (goodIn_of _ (by decide +kernel)) ggX12_chances_X12_isTime
theorem dX12_chances_0 : decode cX12_chances 0 = .ok (.aload_n 0, 1) := by decide +kernel
theorem dX12_chances_1 : decode cX12_chances 1 = .ok (.iload_n 1, 1) := by decide +kernel
theorem dX12_chances_2 : decode cX12_chances 2 = .ok (.invokevirtual 106, 3) := by decide +kernel
theorem dX12_chances_5 : decode cX12_chances 5 = .ok (.ifCond .eq 10, 3) := by decide +kernel
theorem dX12_chances_8 : decode cX12_chances 8 = .ok (.iload_n 2, 1) := by decide +kernel
theorem dX12_chances_9 : decode cX12_chances 9 = .ok (.invokestatic 186, 3) := by decide +kernel
theorem dX12_chances_12 : decode cX12_chances 12 = .ok (.ifCond .ne 7, 3) := by decide +kernel
theorem dX12_chances_15 : decode cX12_chances 15 = .ok (.ldc2_w 189, 3) := by decide +kernel
theorem dX12_chances_18 : decode cX12_chances 18 = .ok (.lreturn, 1) := by decide +kernel
theorem dX12_chances_19 : decode cX12_chances 19 = .ok (.lconst 0, 1) := by decide +kernel
theorem dX12_chances_20 : decode cX12_chances 20 = .ok (.lstore_n 3, 1) := by decide +kernel
theorem dX12_chances_21 : decode cX12_chances 21 = .ok (.iconst 0, 1) := by decide +kernel
theorem dX12_chances_22 : decode cX12_chances 22 = .ok (.istore 5, 2) := by decide +kernel
theorem dX12_chances_24 : decode cX12_chances 24 = .ok (.iload 5, 2) := by decide +kernel
theorem dX12_chances_26 : decode cX12_chances 26 = .ok (.aload_n 0, 1) := by decide +kernel
theorem dX12_chances_27 : decode cX12_chances 27 = .ok (.getfield 13, 3) := by decide +kernel
theorem dX12_chances_30 : decode cX12_chances 30 = .ok (.iload_n 1, 1) := by decide +kernel
theorem dX12_chances_31 : decode cX12_chances 31 = .ok (.iaload, 1) := by decide +kernel
theorem dX12_chances_32 : decode cX12_chances 32 = .ok (.if_icmp .ge 24, 3) := by decide +kernel
theorem dX12_chances_35 : decode cX12_chances 35 = .ok (.lload_n 3, 1) := by decide +kernel
theorem dX12_chances_36 : decode cX12_chances 36 = .ok (.aload_n 0, 1) := by decide +kernel
theorem dX12_chances_37 : decode cX12_chances 37 = .ok (.getfield 25, 3) := by decide +kernel
theorem dX12_chances_40 : decode cX12_chances 40 = .ok (.iconst 4, 1) := by decide +kernel
theorem dX12_chances_41 : decode cX12_chances 41 = .ok (.iload_n 1, 1) := by decide +kernel
theorem dX12_chances_42 : decode cX12_chances 42 = .ok (.imul, 1) := by decide +kernel
theorem dX12_chances_43 : decode cX12_chances 43 = .ok (.iload 5, 2) := by decide +kernel
theorem dX12_chances_45 : decode cX12_chances 45 = .ok (.iadd, 1) := by decide +kernel
theorem dX12_chances_46 : decode cX12_chances 46 = .ok (.iaload, 1) := by decide +kernel
theorem dX12_chances_47 : decode cX12_chances 47 = .ok (.i2l, 1) := by decide +kernel
theorem dX12_chances_48 : decode cX12_chances 48 = .ok (.ladd, 1) := by decide +kernel
theorem dX12_chances_49 : decode cX12_chances 49 = .ok (.lstore_n 3, 1) := by decide +kernel
theorem dX12_chances_50 : decode cX12_chances 50 = .ok (.iinc 5 1, 3) := by decide +kernel
theorem dX12_chances_53 : decode cX12_chances 53 = .ok (.goto (-29), 3) := by decide +kernel
theorem dX12_chances_56 : decode cX12_chances 56 = .ok (.lconst 1, 1) := by decide +kernel
theorem dX12_chances_57 : decode cX12_chances 57 = .ok (.lstore 5, 2) := by decide +kernel
theorem dX12_chances_59 : decode cX12_chances 59 = .ok (.iconst 0, 1) := by decide +kernel
theorem dX12_chances_60 : decode cX12_chances 60 = .ok (.istore 7, 2) := by decide +kernel
theorem dX12_chances_62 : decode cX12_chances 62 = .ok (.iload 7, 2) := by decide +kernel
theorem dX12_chances_64 : decode cX12_chances 64 = .ok (.iload_n 2, 1) := by decide +kernel
theorem dX12_chances_65 : decode cX12_chances 65 = .ok (.if_icmp .ge 15, 3) := by decide +kernel
theorem dX12_chances_68 : decode cX12_chances 68 = .ok (.lload 5, 2) := by decide +kernel
theorem dX12_chances_70 : decode cX12_chances 70 = .ok (.lload_n 3, 1) := by decide +kernel
theorem dX12_chances_71 : decode cX12_chances 71 = .ok (.lmul, 1) := by decide +kernel
theorem dX12_chances_72 : decode cX12_chances 72 = .ok (.lstore 5, 2) := by decide +kernel
theorem dX12_chances_74 : decode cX12_chances 74 = .ok (.iinc 7 1, 3) := by decide +kernel
theorem dX12_chances_77 : decode cX12_chances 77 = .ok (.goto (-15), 3) := by decide +kernel
theorem dX12_chances_80 : decode cX12_chances 80 = .ok (.lload 5, 2) := by decide +kernel
theorem dX12_chances_82 : decode cX12_chances 82 = .ok (.lreturn, 1) := by decide +kernel
set_option maxRecDepth 20000 in
theorem ggX12_isRing_X12_at : GoodIn wsX12_isRing wsX12_at := goodIn_r _ [6] (by decide +kernel) (by decide +kernel)
set_option maxRecDepth 20000 in
theorem gX12_isRing_X12_at : GoodIn wsX12_isRing (va_wsS RX12 102 yX12_at wsX12_at) := goodIn_app (goodIn_of _ (by decide +kernel)) ggX12_isRing_X12_at
theorem dX12_isRing_0 : decode cX12_isRing 0 = .ok (.iconst 0, 1) := by decide +kernel
theorem dX12_isRing_1 : decode cX12_isRing 1 = .ok (.istore_n 3, 1) := by decide +kernel
theorem dX12_isRing_2 : decode cX12_isRing 2 = .ok (.iconst 0, 1) := by decide +kernel
theorem dX12_isRing_3 : decode cX12_isRing 3 = .ok (.istore 4, 2) := by decide +kernel
theorem dX12_isRing_5 : decode cX12_isRing 5 = .ok (.iconst 0, 1) := by decide +kernel
theorem dX12_isRing_6 : decode cX12_isRing 6 = .ok (.istore 5, 2) := by decide +kernel
theorem dX12_isRing_8 : decode cX12_isRing 8 = .ok (.iload 5, 2) := by decide +kernel
theorem dX12_isRing_10 : decode cX12_isRing 10 = .ok (.aload_n 0, 1) := by decide +kernel
theorem dX12_isRing_11 : decode cX12_isRing 11 = .ok (.getfield 7, 3) := by decide +kernel
theorem dX12_isRing_14 : decode cX12_isRing 14 = .ok (.iload_n 1, 1) := by decide +kernel
theorem dX12_isRing_15 : decode cX12_isRing 15 = .ok (.iaload, 1) := by decide +kernel
theorem dX12_isRing_16 : decode cX12_isRing 16 = .ok (.if_icmp .ge 29, 3) := by decide +kernel
theorem dX12_isRing_19 : decode cX12_isRing 19 = .ok (.aload_n 0, 1) := by decide +kernel
theorem dX12_isRing_20 : decode cX12_isRing 20 = .ok (.getfield 16, 3) := by decide +kernel
theorem dX12_isRing_23 : decode cX12_isRing 23 = .ok (.iload_n 1, 1) := by decide +kernel
theorem dX12_isRing_24 : decode cX12_isRing 24 = .ok (.iload_n 3, 1) := by decide +kernel
theorem dX12_isRing_25 : decode cX12_isRing 25 = .ok (.iload_n 2, 1) := by decide +kernel
theorem dX12_isRing_26 : decode cX12_isRing 26 = .ok (.invokestatic 102, 3) := by decide +kernel
theorem dX12_isRing_29 : decode cX12_isRing 29 = .ok (.iaload, 1) := by decide +kernel
theorem dX12_isRing_30 : decode cX12_isRing 30 = .ok (.istore_n 3, 1) := by decide +kernel
theorem dX12_isRing_31 : decode cX12_isRing 31 = .ok (.iload 4, 2) := by decide +kernel
theorem dX12_isRing_33 : decode cX12_isRing 33 = .ok (.iconst 1, 1) := by decide +kernel
theorem dX12_isRing_34 : decode cX12_isRing 34 = .ok (.iload_n 3, 1) := by decide +kernel
theorem dX12_isRing_35 : decode cX12_isRing 35 = .ok (.ishl, 1) := by decide +kernel
theorem dX12_isRing_36 : decode cX12_isRing 36 = .ok (.ior, 1) := by decide +kernel
theorem dX12_isRing_37 : decode cX12_isRing 37 = .ok (.istore 4, 2) := by decide +kernel
theorem dX12_isRing_39 : decode cX12_isRing 39 = .ok (.iinc 5 1, 3) := by decide +kernel
theorem dX12_isRing_42 : decode cX12_isRing 42 = .ok (.goto (-34), 3) := by decide +kernel
theorem dX12_isRing_45 : decode cX12_isRing 45 = .ok (.iload 4, 2) := by decide +kernel
theorem dX12_isRing_47 : decode cX12_isRing 47 = .ok (.iconst 1, 1) := by decide +kernel
theorem dX12_isRing_48 : decode cX12_isRing 48 = .ok (.aload_n 0, 1) := by decide +kernel
theorem dX12_isRing_49 : decode cX12_isRing 49 = .ok (.getfield 7, 3) := by decide +kernel
theorem dX12_isRing_52 : decode cX12_isRing 52 = .ok (.iload_n 1, 1) := by decide +kernel
theorem dX12_isRing_53 : decode cX12_isRing 53 = .ok (.iaload, 1) := by decide +kernel
theorem dX12_isRing_54 : decode cX12_isRing 54 = .ok (.ishl, 1) := by decide +kernel
theorem dX12_isRing_55 : decode cX12_isRing 55 = .ok (.iconst 1, 1) := by decide +kernel
theorem dX12_isRing_56 : decode cX12_isRing 56 = .ok (.isub, 1) := by decide +kernel
theorem dX12_isRing_57 : decode cX12_isRing 57 = .ok (.if_icmp .ne 7, 3) := by decide +kernel
theorem dX12_isRing_60 : decode cX12_isRing 60 = .ok (.iconst 1, 1) := by decide +kernel
theorem dX12_isRing_61 : decode cX12_isRing 61 = .ok (.goto 4, 3) := by decide +kernel
theorem dX12_isRing_64 : decode cX12_isRing 64 = .ok (.iconst 0, 1) := by decide +kernel
theorem dX12_isRing_65 : decode cX12_isRing 65 = .ok (.ireturn, 1) := by decide +kernel
set_option maxRecDepth 20000 in
theorem ggX12_isSink_X12_at : GoodIn wsX12_isSink wsX12_at := goodIn_r _ [7] (by decide +kernel) (by decide +kernel)
set_option maxRecDepth 20000 in
theorem gX12_isSink_X12_at : GoodIn wsX12_isSink (va_wsS RX12 102 yX12_at wsX12_at) := goodIn_app (goodIn_of _ (by decide +kernel)) ggX12_isSink_X12_at
theorem dX12_isSink_0 : decode cX12_isSink 0 = .ok (.iconst 0, 1) := by decide +kernel
theorem dX12_isSink_1 : decode cX12_isSink 1 = .ok (.istore_n 3, 1) := by decide +kernel
theorem dX12_isSink_2 : decode cX12_isSink 2 = .ok (.iload_n 3, 1) := by decide +kernel
theorem dX12_isSink_3 : decode cX12_isSink 3 = .ok (.aload_n 0, 1) := by decide +kernel
theorem dX12_isSink_4 : decode cX12_isSink 4 = .ok (.getfield 13, 3) := by decide +kernel
theorem dX12_isSink_7 : decode cX12_isSink 7 = .ok (.iload_n 1, 1) := by decide +kernel
theorem dX12_isSink_8 : decode cX12_isSink 8 = .ok (.iaload, 1) := by decide +kernel
theorem dX12_isSink_9 : decode cX12_isSink 9 = .ok (.if_icmp .ge 26, 3) := by decide +kernel
theorem dX12_isSink_12 : decode cX12_isSink 12 = .ok (.aload_n 0, 1) := by decide +kernel
theorem dX12_isSink_13 : decode cX12_isSink 13 = .ok (.getfield 16, 3) := by decide +kernel
theorem dX12_isSink_16 : decode cX12_isSink 16 = .ok (.iload_n 1, 1) := by decide +kernel
theorem dX12_isSink_17 : decode cX12_isSink 17 = .ok (.iload_n 2, 1) := by decide +kernel
theorem dX12_isSink_18 : decode cX12_isSink 18 = .ok (.iload_n 3, 1) := by decide +kernel
theorem dX12_isSink_19 : decode cX12_isSink 19 = .ok (.invokestatic 102, 3) := by decide +kernel
theorem dX12_isSink_22 : decode cX12_isSink 22 = .ok (.iaload, 1) := by decide +kernel
theorem dX12_isSink_23 : decode cX12_isSink 23 = .ok (.iload_n 2, 1) := by decide +kernel
theorem dX12_isSink_24 : decode cX12_isSink 24 = .ok (.if_icmp .eq 5, 3) := by decide +kernel
theorem dX12_isSink_27 : decode cX12_isSink 27 = .ok (.iconst 0, 1) := by decide +kernel
theorem dX12_isSink_28 : decode cX12_isSink 28 = .ok (.ireturn, 1) := by decide +kernel
theorem dX12_isSink_29 : decode cX12_isSink 29 = .ok (.iinc 3 1, 3) := by decide +kernel
theorem dX12_isSink_32 : decode cX12_isSink 32 = .ok (.goto (-30), 3) := by decide +kernel
theorem dX12_isSink_35 : decode cX12_isSink 35 = .ok (.iconst 1, 1) := by decide +kernel
theorem dX12_isSink_36 : decode cX12_isSink 36 = .ok (.iload_n 2, 1) := by decide +kernel
theorem dX12_isSink_37 : decode cX12_isSink 37 = .ok (.ishl, 1) := by decide +kernel
theorem dX12_isSink_38 : decode cX12_isSink 38 = .ok (.istore_n 3, 1) := by decide +kernel
theorem dX12_isSink_39 : decode cX12_isSink 39 = .ok (.iconst 1, 1) := by decide +kernel
theorem dX12_isSink_40 : decode cX12_isSink 40 = .ok (.istore 4, 2) := by decide +kernel
theorem dX12_isSink_42 : decode cX12_isSink 42 = .ok (.iload 4, 2) := by decide +kernel
theorem dX12_isSink_44 : decode cX12_isSink 44 = .ok (.ifCond .eq 85, 3) := by decide +kernel
theorem dX12_isSink_47 : decode cX12_isSink 47 = .ok (.iload_n 3, 1) := by decide +kernel
theorem dX12_isSink_48 : decode cX12_isSink 48 = .ok (.istore 5, 2) := by decide +kernel
theorem dX12_isSink_50 : decode cX12_isSink 50 = .ok (.iconst 0, 1) := by decide +kernel
theorem dX12_isSink_51 : decode cX12_isSink 51 = .ok (.istore 6, 2) := by decide +kernel
theorem dX12_isSink_53 : decode cX12_isSink 53 = .ok (.iload 6, 2) := by decide +kernel
theorem dX12_isSink_55 : decode cX12_isSink 55 = .ok (.aload_n 0, 1) := by decide +kernel
theorem dX12_isSink_56 : decode cX12_isSink 56 = .ok (.getfield 7, 3) := by decide +kernel
theorem dX12_isSink_59 : decode cX12_isSink 59 = .ok (.iload_n 1, 1) := by decide +kernel
theorem dX12_isSink_60 : decode cX12_isSink 60 = .ok (.iaload, 1) := by decide +kernel
theorem dX12_isSink_61 : decode cX12_isSink 61 = .ok (.if_icmp .ge 52, 3) := by decide +kernel
theorem dX12_isSink_64 : decode cX12_isSink 64 = .ok (.iconst 0, 1) := by decide +kernel
theorem dX12_isSink_65 : decode cX12_isSink 65 = .ok (.istore 7, 2) := by decide +kernel
theorem dX12_isSink_67 : decode cX12_isSink 67 = .ok (.iload 7, 2) := by decide +kernel
theorem dX12_isSink_69 : decode cX12_isSink 69 = .ok (.aload_n 0, 1) := by decide +kernel
theorem dX12_isSink_70 : decode cX12_isSink 70 = .ok (.getfield 13, 3) := by decide +kernel
theorem dX12_isSink_73 : decode cX12_isSink 73 = .ok (.iload_n 1, 1) := by decide +kernel
theorem dX12_isSink_74 : decode cX12_isSink 74 = .ok (.iaload, 1) := by decide +kernel
theorem dX12_isSink_75 : decode cX12_isSink 75 = .ok (.if_icmp .ge 32, 3) := by decide +kernel
theorem dX12_isSink_78 : decode cX12_isSink 78 = .ok (.iload_n 3, 1) := by decide +kernel
theorem dX12_isSink_79 : decode cX12_isSink 79 = .ok (.iload_n 3, 1) := by decide +kernel
theorem dX12_isSink_80 : decode cX12_isSink 80 = .ok (.aload_n 0, 1) := by decide +kernel
theorem dX12_isSink_81 : decode cX12_isSink 81 = .ok (.getfield 16, 3) := by decide +kernel
theorem dX12_isSink_84 : decode cX12_isSink 84 = .ok (.iload_n 1, 1) := by decide +kernel
theorem dX12_isSink_85 : decode cX12_isSink 85 = .ok (.iload 6, 2) := by decide +kernel
theorem dX12_isSink_87 : decode cX12_isSink 87 = .ok (.iload 7, 2) := by decide +kernel
theorem dX12_isSink_89 : decode cX12_isSink 89 = .ok (.invokestatic 102, 3) := by decide +kernel
theorem dX12_isSink_92 : decode cX12_isSink 92 = .ok (.iaload, 1) := by decide +kernel
theorem dX12_isSink_93 : decode cX12_isSink 93 = .ok (.ishr, 1) := by decide +kernel
theorem dX12_isSink_94 : decode cX12_isSink 94 = .ok (.iconst 1, 1) := by decide +kernel
theorem dX12_isSink_95 : decode cX12_isSink 95 = .ok (.iand, 1) := by decide +kernel
theorem dX12_isSink_96 : decode cX12_isSink 96 = .ok (.iload 6, 2) := by decide +kernel
theorem dX12_isSink_98 : decode cX12_isSink 98 = .ok (.ishl, 1) := by decide +kernel
theorem dX12_isSink_99 : decode cX12_isSink 99 = .ok (.ior, 1) := by decide +kernel
theorem dX12_isSink_100 : decode cX12_isSink 100 = .ok (.istore_n 3, 1) := by decide +kernel
theorem dX12_isSink_101 : decode cX12_isSink 101 = .ok (.iinc 7 1, 3) := by decide +kernel
theorem dX12_isSink_104 : decode cX12_isSink 104 = .ok (.goto (-37), 3) := by decide +kernel
theorem dX12_isSink_107 : decode cX12_isSink 107 = .ok (.iinc 6 1, 3) := by decide +kernel
theorem dX12_isSink_110 : decode cX12_isSink 110 = .ok (.goto (-57), 3) := by decide +kernel
theorem dX12_isSink_113 : decode cX12_isSink 113 = .ok (.iload_n 3, 1) := by decide +kernel
theorem dX12_isSink_114 : decode cX12_isSink 114 = .ok (.iload 5, 2) := by decide +kernel
theorem dX12_isSink_116 : decode cX12_isSink 116 = .ok (.if_icmp .eq 7, 3) := by decide +kernel
theorem dX12_isSink_119 : decode cX12_isSink 119 = .ok (.iconst 1, 1) := by decide +kernel
theorem dX12_isSink_120 : decode cX12_isSink 120 = .ok (.goto 4, 3) := by decide +kernel
theorem dX12_isSink_123 : decode cX12_isSink 123 = .ok (.iconst 0, 1) := by decide +kernel
theorem dX12_isSink_124 : decode cX12_isSink 124 = .ok (.istore 4, 2) := by decide +kernel
theorem dX12_isSink_126 : decode cX12_isSink 126 = .ok (.goto (-84), 3) := by decide +kernel
theorem dX12_isSink_129 : decode cX12_isSink 129 = .ok (.iload_n 3, 1) := by decide +kernel
theorem dX12_isSink_130 : decode cX12_isSink 130 = .ok (.iconst 1, 1) := by decide +kernel
theorem dX12_isSink_131 : decode cX12_isSink 131 = .ok (.aload_n 0, 1) := by decide +kernel
theorem dX12_isSink_132 : decode cX12_isSink 132 = .ok (.getfield 7, 3) := by decide +kernel
theorem dX12_isSink_135 : decode cX12_isSink 135 = .ok (.iload_n 1, 1) := by decide +kernel
theorem dX12_isSink_136 : decode cX12_isSink 136 = .ok (.iaload, 1) := by decide +kernel
theorem dX12_isSink_137 : decode cX12_isSink 137 = .ok (.ishl, 1) := by decide +kernel
theorem dX12_isSink_138 : decode cX12_isSink 138 = .ok (.iconst 1, 1) := by decide +kernel
theorem dX12_isSink_139 : decode cX12_isSink 139 = .ok (.isub, 1) := by decide +kernel
theorem dX12_isSink_140 : decode cX12_isSink 140 = .ok (.if_icmp .ne 7, 3) := by decide +kernel
theorem dX12_isSink_143 : decode cX12_isSink 143 = .ok (.iconst 1, 1) := by decide +kernel
theorem dX12_isSink_144 : decode cX12_isSink 144 = .ok (.goto 4, 3) := by decide +kernel
theorem dX12_isSink_147 : decode cX12_isSink 147 = .ok (.iconst 0, 1) := by decide +kernel
theorem dX12_isSink_148 : decode cX12_isSink 148 = .ok (.ireturn, 1) := by decide +kernel
set_option maxRecDepth 20000 in
theorem ggX12_kinds_X12_isMachine : GoodIn wsX12_kinds wsX12_isMachine := goodIn_r _ [8, 9, 10, 11, 7, 12, 32, 33, 34, 35, 36, 37, 38, 39, 40, 41, 42, 43, 44, 45, 46, 47, 48, 49, 50, 51, 52, 53, 54, 55, 56, 57, 58, 59, 60, 61] (by decide +kernel) (by decide +kernel)
set_option maxRecDepth 20000 in
theorem gX12_kinds_X12_isMachine : GoodIn wsX12_kinds (wsV RX12 106 RX12 yX12_isMachine wsX12_isMachine) := goodIn_app (goodIn_of _ (by decide +kernel)) ggX12_kinds_X12_isMachine
set_option maxRecDepth 20000 in
theorem ggX12_kinds_X12_isWhole : GoodIn wsX12_kinds wsX12_isWhole := goodIn_r _ [16, 1, 2, 3, 17, 18, 7, 19, 32, 33, 34, 35, 36, 37, 38, 39, 40, 41, 42, 43, 44, 45, 46, 47, 48, 49, 50, 51, 52, 53, 54, 55, 56, 57, 58, 59, 60, 61] (by decide +kernel) (by decide +kernel)
set_option maxRecDepth 20000 in
theorem gX12_kinds_X12_isWhole : GoodIn wsX12_kinds (wsV RX12 117 RX12 yX12_isWhole wsX12_isWhole) := goodIn_app (goodIn_of _ (by decide +kernel)) ggX12_kinds_X12_isWhole
set_option maxRecDepth 20000 in
theorem ggX12_kinds_X12_isRing : GoodIn wsX12_kinds wsX12_isRing := goodIn_r _ [23, 1, 3, 17, 18, 7, 19, 32, 33, 34, 35, 36, 37, 38, 39, 40, 41, 42, 43, 44, 45, 46, 47, 48, 49, 50, 51, 52, 53, 54, 55, 56, 57, 58, 59, 60, 61] (by decide +kernel) (by decide +kernel)
set_option maxRecDepth 20000 in
theorem gX12_kinds_X12_isRing : GoodIn wsX12_kinds (wsV RX12 191 RX12 yX12_isRing wsX12_isRing) := goodIn_app (goodIn_of _ (by decide +kernel)) ggX12_kinds_X12_isRing
set_option maxRecDepth 20000 in
theorem ggX12_kinds_X12_next : GoodIn wsX12_kinds wsX12_next := goodIn_r _ [27, 1, 3, 17, 18, 7, 19, 32, 33, 34, 35, 36, 37, 38, 39, 40, 41, 42, 43, 44, 45, 46, 47, 48, 49, 50, 51, 52, 53, 54, 55, 56, 57, 58, 59, 60, 61] (by decide +kernel) (by decide +kernel)
set_option maxRecDepth 20000 in
theorem gX12_kinds_X12_next : GoodIn wsX12_kinds (wsV RX12 129 RX12 yX12_next wsX12_next) := goodIn_app (goodIn_of _ (by decide +kernel)) ggX12_kinds_X12_next
set_option maxRecDepth 20000 in
theorem ggX12_kinds_X12_at : GoodIn wsX12_kinds wsX12_at := goodIn_r _ [19] (by decide +kernel) (by decide +kernel)
set_option maxRecDepth 20000 in
theorem gX12_kinds_X12_at : GoodIn wsX12_kinds (va_wsS RX12 102 yX12_at wsX12_at) := goodIn_app (goodIn_of _ (by decide +kernel)) ggX12_kinds_X12_at
set_option maxRecDepth 20000 in
theorem ggX12_kinds_X12_isSink : GoodIn wsX12_kinds wsX12_isSink := goodIn_r _ [31, 2, 3, 1, 17, 18, 7, 19, 32, 33, 34, 35, 36, 37, 38, 39, 40, 41, 42, 43, 44, 45, 46, 47, 48, 49, 50, 51, 52, 53, 54, 55, 56, 57, 58, 59, 60, 61] (by decide +kernel) (by decide +kernel)
set_option maxRecDepth 20000 in
theorem gX12_kinds_X12_isSink : GoodIn wsX12_kinds (wsV RX12 194 RX12 yX12_isSink wsX12_isSink) := goodIn_app (goodIn_of _ (by decide +kernel)) ggX12_kinds_X12_isSink
theorem dX12_kinds_0 : decode cX12_kinds 0 = .ok (.aload_n 0, 1) := by decide +kernel
theorem dX12_kinds_1 : decode cX12_kinds 1 = .ok (.iload_n 1, 1) := by decide +kernel
theorem dX12_kinds_2 : decode cX12_kinds 2 = .ok (.invokevirtual 106, 3) := by decide +kernel
theorem dX12_kinds_5 : decode cX12_kinds 5 = .ok (.ifCond .ne 6, 3) := by decide +kernel
theorem dX12_kinds_8 : decode cX12_kinds 8 = .ok (.bipush (-2), 2) := by decide +kernel
theorem dX12_kinds_10 : decode cX12_kinds 10 = .ok (.ireturn, 1) := by decide +kernel
theorem dX12_kinds_11 : decode cX12_kinds 11 = .ok (.aload_n 0, 1) := by decide +kernel
theorem dX12_kinds_12 : decode cX12_kinds 12 = .ok (.iload_n 1, 1) := by decide +kernel
theorem dX12_kinds_13 : decode cX12_kinds 13 = .ok (.invokevirtual 117, 3) := by decide +kernel
theorem dX12_kinds_16 : decode cX12_kinds 16 = .ok (.ifCond .ne 6, 3) := by decide +kernel
theorem dX12_kinds_19 : decode cX12_kinds 19 = .ok (.bipush (-3), 2) := by decide +kernel
theorem dX12_kinds_21 : decode cX12_kinds 21 = .ok (.ireturn, 1) := by decide +kernel
theorem dX12_kinds_22 : decode cX12_kinds 22 = .ok (.aload_n 0, 1) := by decide +kernel
theorem dX12_kinds_23 : decode cX12_kinds 23 = .ok (.getfield 7, 3) := by decide +kernel
theorem dX12_kinds_26 : decode cX12_kinds 26 = .ok (.iload_n 1, 1) := by decide +kernel
theorem dX12_kinds_27 : decode cX12_kinds 27 = .ok (.iaload, 1) := by decide +kernel
theorem dX12_kinds_28 : decode cX12_kinds 28 = .ok (.istore_n 2, 1) := by decide +kernel
theorem dX12_kinds_29 : decode cX12_kinds 29 = .ok (.iconst 1, 1) := by decide +kernel
theorem dX12_kinds_30 : decode cX12_kinds 30 = .ok (.iload_n 2, 1) := by decide +kernel
theorem dX12_kinds_31 : decode cX12_kinds 31 = .ok (.ishl, 1) := by decide +kernel
theorem dX12_kinds_32 : decode cX12_kinds 32 = .ok (.iconst 1, 1) := by decide +kernel
theorem dX12_kinds_33 : decode cX12_kinds 33 = .ok (.isub, 1) := by decide +kernel
theorem dX12_kinds_34 : decode cX12_kinds 34 = .ok (.istore_n 3, 1) := by decide +kernel
theorem dX12_kinds_35 : decode cX12_kinds 35 = .ok (.iconst 0, 1) := by decide +kernel
theorem dX12_kinds_36 : decode cX12_kinds 36 = .ok (.istore 4, 2) := by decide +kernel
theorem dX12_kinds_38 : decode cX12_kinds 38 = .ok (.iconst 0, 1) := by decide +kernel
theorem dX12_kinds_39 : decode cX12_kinds 39 = .ok (.istore 5, 2) := by decide +kernel
theorem dX12_kinds_41 : decode cX12_kinds 41 = .ok (.iconst 1, 1) := by decide +kernel
theorem dX12_kinds_42 : decode cX12_kinds 42 = .ok (.istore 6, 2) := by decide +kernel
theorem dX12_kinds_44 : decode cX12_kinds 44 = .ok (.iconst 1, 1) := by decide +kernel
theorem dX12_kinds_45 : decode cX12_kinds 45 = .ok (.istore 7, 2) := by decide +kernel
theorem dX12_kinds_47 : decode cX12_kinds 47 = .ok (.iconst 0, 1) := by decide +kernel
theorem dX12_kinds_48 : decode cX12_kinds 48 = .ok (.istore 8, 2) := by decide +kernel
theorem dX12_kinds_50 : decode cX12_kinds 50 = .ok (.iconst 0, 1) := by decide +kernel
theorem dX12_kinds_51 : decode cX12_kinds 51 = .ok (.istore 9, 2) := by decide +kernel
theorem dX12_kinds_53 : decode cX12_kinds 53 = .ok (.iload 9, 2) := by decide +kernel
theorem dX12_kinds_55 : decode cX12_kinds 55 = .ok (.aload_n 0, 1) := by decide +kernel
theorem dX12_kinds_56 : decode cX12_kinds 56 = .ok (.getfield 13, 3) := by decide +kernel
theorem dX12_kinds_59 : decode cX12_kinds 59 = .ok (.iload_n 1, 1) := by decide +kernel
theorem dX12_kinds_60 : decode cX12_kinds 60 = .ok (.iaload, 1) := by decide +kernel
theorem dX12_kinds_61 : decode cX12_kinds 61 = .ok (.if_icmp .ge 148, 3) := by decide +kernel
theorem dX12_kinds_64 : decode cX12_kinds 64 = .ok (.iload 4, 2) := by decide +kernel
theorem dX12_kinds_66 : decode cX12_kinds 66 = .ok (.ifCond .ne 13, 3) := by decide +kernel
theorem dX12_kinds_69 : decode cX12_kinds 69 = .ok (.aload_n 0, 1) := by decide +kernel
theorem dX12_kinds_70 : decode cX12_kinds 70 = .ok (.iload_n 1, 1) := by decide +kernel
theorem dX12_kinds_71 : decode cX12_kinds 71 = .ok (.iload 9, 2) := by decide +kernel
theorem dX12_kinds_73 : decode cX12_kinds 73 = .ok (.invokevirtual 191, 3) := by decide +kernel
theorem dX12_kinds_76 : decode cX12_kinds 76 = .ok (.ifCond .eq 7, 3) := by decide +kernel
theorem dX12_kinds_79 : decode cX12_kinds 79 = .ok (.iconst 1, 1) := by decide +kernel
theorem dX12_kinds_80 : decode cX12_kinds 80 = .ok (.goto 4, 3) := by decide +kernel
theorem dX12_kinds_83 : decode cX12_kinds 83 = .ok (.iconst 0, 1) := by decide +kernel
theorem dX12_kinds_84 : decode cX12_kinds 84 = .ok (.istore 4, 2) := by decide +kernel
theorem dX12_kinds_86 : decode cX12_kinds 86 = .ok (.iload 7, 2) := by decide +kernel
theorem dX12_kinds_88 : decode cX12_kinds 88 = .ok (.ifCond .eq 19, 3) := by decide +kernel
theorem dX12_kinds_91 : decode cX12_kinds 91 = .ok (.aload_n 0, 1) := by decide +kernel
theorem dX12_kinds_92 : decode cX12_kinds 92 = .ok (.iload_n 1, 1) := by decide +kernel
theorem dX12_kinds_93 : decode cX12_kinds 93 = .ok (.iload_n 3, 1) := by decide +kernel
theorem dX12_kinds_94 : decode cX12_kinds 94 = .ok (.iload 9, 2) := by decide +kernel
theorem dX12_kinds_96 : decode cX12_kinds 96 = .ok (.invokevirtual 129, 3) := by decide +kernel
theorem dX12_kinds_99 : decode cX12_kinds 99 = .ok (.iload_n 3, 1) := by decide +kernel
theorem dX12_kinds_100 : decode cX12_kinds 100 = .ok (.if_icmp .ne 7, 3) := by decide +kernel
theorem dX12_kinds_103 : decode cX12_kinds 103 = .ok (.iconst 1, 1) := by decide +kernel
theorem dX12_kinds_104 : decode cX12_kinds 104 = .ok (.goto 4, 3) := by decide +kernel
theorem dX12_kinds_107 : decode cX12_kinds 107 = .ok (.iconst 0, 1) := by decide +kernel
theorem dX12_kinds_108 : decode cX12_kinds 108 = .ok (.istore 7, 2) := by decide +kernel
theorem dX12_kinds_110 : decode cX12_kinds 110 = .ok (.iconst 0, 1) := by decide +kernel
theorem dX12_kinds_111 : decode cX12_kinds 111 = .ok (.istore 10, 2) := by decide +kernel
theorem dX12_kinds_113 : decode cX12_kinds 113 = .ok (.iload 10, 2) := by decide +kernel
theorem dX12_kinds_115 : decode cX12_kinds 115 = .ok (.iload_n 2, 1) := by decide +kernel
theorem dX12_kinds_116 : decode cX12_kinds 116 = .ok (.if_icmp .ge 87, 3) := by decide +kernel
theorem dX12_kinds_119 : decode cX12_kinds 119 = .ok (.iload 8, 2) := by decide +kernel
theorem dX12_kinds_121 : decode cX12_kinds 121 = .ok (.ifCond .ne 21, 3) := by decide +kernel
theorem dX12_kinds_124 : decode cX12_kinds 124 = .ok (.aload_n 0, 1) := by decide +kernel
theorem dX12_kinds_125 : decode cX12_kinds 125 = .ok (.getfield 16, 3) := by decide +kernel
theorem dX12_kinds_128 : decode cX12_kinds 128 = .ok (.iload_n 1, 1) := by decide +kernel
theorem dX12_kinds_129 : decode cX12_kinds 129 = .ok (.iload 10, 2) := by decide +kernel
theorem dX12_kinds_131 : decode cX12_kinds 131 = .ok (.iload 9, 2) := by decide +kernel
theorem dX12_kinds_133 : decode cX12_kinds 133 = .ok (.invokestatic 102, 3) := by decide +kernel
theorem dX12_kinds_136 : decode cX12_kinds 136 = .ok (.iaload, 1) := by decide +kernel
theorem dX12_kinds_137 : decode cX12_kinds 137 = .ok (.iload 10, 2) := by decide +kernel
theorem dX12_kinds_139 : decode cX12_kinds 139 = .ok (.if_icmp .ne 7, 3) := by decide +kernel
theorem dX12_kinds_142 : decode cX12_kinds 142 = .ok (.iconst 1, 1) := by decide +kernel
theorem dX12_kinds_143 : decode cX12_kinds 143 = .ok (.goto 4, 3) := by decide +kernel
theorem dX12_kinds_146 : decode cX12_kinds 146 = .ok (.iconst 0, 1) := by decide +kernel
theorem dX12_kinds_147 : decode cX12_kinds 147 = .ok (.istore 8, 2) := by decide +kernel
theorem dX12_kinds_149 : decode cX12_kinds 149 = .ok (.iload 6, 2) := by decide +kernel
theorem dX12_kinds_151 : decode cX12_kinds 151 = .ok (.ifCond .eq 43, 3) := by decide +kernel
theorem dX12_kinds_154 : decode cX12_kinds 154 = .ok (.iload 10, 2) := by decide +kernel
theorem dX12_kinds_156 : decode cX12_kinds 156 = .ok (.ifCond .eq 34, 3) := by decide +kernel
theorem dX12_kinds_159 : decode cX12_kinds 159 = .ok (.aload_n 0, 1) := by decide +kernel
theorem dX12_kinds_160 : decode cX12_kinds 160 = .ok (.getfield 16, 3) := by decide +kernel
theorem dX12_kinds_163 : decode cX12_kinds 163 = .ok (.iload_n 1, 1) := by decide +kernel
theorem dX12_kinds_164 : decode cX12_kinds 164 = .ok (.iload 10, 2) := by decide +kernel
theorem dX12_kinds_166 : decode cX12_kinds 166 = .ok (.iconst 1, 1) := by decide +kernel
theorem dX12_kinds_167 : decode cX12_kinds 167 = .ok (.isub, 1) := by decide +kernel
theorem dX12_kinds_168 : decode cX12_kinds 168 = .ok (.iload 9, 2) := by decide +kernel
theorem dX12_kinds_170 : decode cX12_kinds 170 = .ok (.invokestatic 102, 3) := by decide +kernel
theorem dX12_kinds_173 : decode cX12_kinds 173 = .ok (.iaload, 1) := by decide +kernel
theorem dX12_kinds_174 : decode cX12_kinds 174 = .ok (.aload_n 0, 1) := by decide +kernel
theorem dX12_kinds_175 : decode cX12_kinds 175 = .ok (.getfield 16, 3) := by decide +kernel
theorem dX12_kinds_178 : decode cX12_kinds 178 = .ok (.iload_n 1, 1) := by decide +kernel
theorem dX12_kinds_179 : decode cX12_kinds 179 = .ok (.iload 10, 2) := by decide +kernel
theorem dX12_kinds_181 : decode cX12_kinds 181 = .ok (.iload 9, 2) := by decide +kernel
theorem dX12_kinds_183 : decode cX12_kinds 183 = .ok (.invokestatic 102, 3) := by decide +kernel
theorem dX12_kinds_186 : decode cX12_kinds 186 = .ok (.iaload, 1) := by decide +kernel
theorem dX12_kinds_187 : decode cX12_kinds 187 = .ok (.if_icmp .gt 7, 3) := by decide +kernel
theorem dX12_kinds_190 : decode cX12_kinds 190 = .ok (.iconst 1, 1) := by decide +kernel
theorem dX12_kinds_191 : decode cX12_kinds 191 = .ok (.goto 4, 3) := by decide +kernel
theorem dX12_kinds_194 : decode cX12_kinds 194 = .ok (.iconst 0, 1) := by decide +kernel
theorem dX12_kinds_195 : decode cX12_kinds 195 = .ok (.istore 6, 2) := by decide +kernel
theorem dX12_kinds_197 : decode cX12_kinds 197 = .ok (.iinc 10 1, 3) := by decide +kernel
theorem dX12_kinds_200 : decode cX12_kinds 200 = .ok (.goto (-87), 3) := by decide +kernel
theorem dX12_kinds_203 : decode cX12_kinds 203 = .ok (.iinc 9 1, 3) := by decide +kernel
theorem dX12_kinds_206 : decode cX12_kinds 206 = .ok (.goto (-153), 3) := by decide +kernel
theorem dX12_kinds_209 : decode cX12_kinds 209 = .ok (.iconst 0, 1) := by decide +kernel
theorem dX12_kinds_210 : decode cX12_kinds 210 = .ok (.istore 9, 2) := by decide +kernel
theorem dX12_kinds_212 : decode cX12_kinds 212 = .ok (.iload 9, 2) := by decide +kernel
theorem dX12_kinds_214 : decode cX12_kinds 214 = .ok (.iload_n 2, 1) := by decide +kernel
theorem dX12_kinds_215 : decode cX12_kinds 215 = .ok (.if_icmp .ge 31, 3) := by decide +kernel
theorem dX12_kinds_218 : decode cX12_kinds 218 = .ok (.iload 5, 2) := by decide +kernel
theorem dX12_kinds_220 : decode cX12_kinds 220 = .ok (.ifCond .ne 13, 3) := by decide +kernel
theorem dX12_kinds_223 : decode cX12_kinds 223 = .ok (.aload_n 0, 1) := by decide +kernel
theorem dX12_kinds_224 : decode cX12_kinds 224 = .ok (.iload_n 1, 1) := by decide +kernel
theorem dX12_kinds_225 : decode cX12_kinds 225 = .ok (.iload 9, 2) := by decide +kernel
theorem dX12_kinds_227 : decode cX12_kinds 227 = .ok (.invokevirtual 194, 3) := by decide +kernel
theorem dX12_kinds_230 : decode cX12_kinds 230 = .ok (.ifCond .eq 7, 3) := by decide +kernel
theorem dX12_kinds_233 : decode cX12_kinds 233 = .ok (.iconst 1, 1) := by decide +kernel
theorem dX12_kinds_234 : decode cX12_kinds 234 = .ok (.goto 4, 3) := by decide +kernel
theorem dX12_kinds_237 : decode cX12_kinds 237 = .ok (.iconst 0, 1) := by decide +kernel
theorem dX12_kinds_238 : decode cX12_kinds 238 = .ok (.istore 5, 2) := by decide +kernel
theorem dX12_kinds_240 : decode cX12_kinds 240 = .ok (.iinc 9 1, 3) := by decide +kernel
theorem dX12_kinds_243 : decode cX12_kinds 243 = .ok (.goto (-31), 3) := by decide +kernel
theorem dX12_kinds_246 : decode cX12_kinds 246 = .ok (.iload 4, 2) := by decide +kernel
theorem dX12_kinds_248 : decode cX12_kinds 248 = .ok (.ifCond .eq 7, 3) := by decide +kernel
theorem dX12_kinds_251 : decode cX12_kinds 251 = .ok (.iconst 1, 1) := by decide +kernel
theorem dX12_kinds_252 : decode cX12_kinds 252 = .ok (.goto 4, 3) := by decide +kernel
theorem dX12_kinds_255 : decode cX12_kinds 255 = .ok (.iconst 0, 1) := by decide +kernel
theorem dX12_kinds_256 : decode cX12_kinds 256 = .ok (.iload 5, 2) := by decide +kernel
theorem dX12_kinds_258 : decode cX12_kinds 258 = .ok (.ifCond .eq 7, 3) := by decide +kernel
theorem dX12_kinds_261 : decode cX12_kinds 261 = .ok (.iconst 2, 1) := by decide +kernel
theorem dX12_kinds_262 : decode cX12_kinds 262 = .ok (.goto 4, 3) := by decide +kernel
theorem dX12_kinds_265 : decode cX12_kinds 265 = .ok (.iconst 0, 1) := by decide +kernel
theorem dX12_kinds_266 : decode cX12_kinds 266 = .ok (.ior, 1) := by decide +kernel
theorem dX12_kinds_267 : decode cX12_kinds 267 = .ok (.iload 6, 2) := by decide +kernel
theorem dX12_kinds_269 : decode cX12_kinds 269 = .ok (.ifCond .eq 7, 3) := by decide +kernel
theorem dX12_kinds_272 : decode cX12_kinds 272 = .ok (.iconst 4, 1) := by decide +kernel
theorem dX12_kinds_273 : decode cX12_kinds 273 = .ok (.goto 4, 3) := by decide +kernel
theorem dX12_kinds_276 : decode cX12_kinds 276 = .ok (.iconst 0, 1) := by decide +kernel
theorem dX12_kinds_277 : decode cX12_kinds 277 = .ok (.ior, 1) := by decide +kernel
theorem dX12_kinds_278 : decode cX12_kinds 278 = .ok (.iload 7, 2) := by decide +kernel
theorem dX12_kinds_280 : decode cX12_kinds 280 = .ok (.ifCond .eq 8, 3) := by decide +kernel
theorem dX12_kinds_283 : decode cX12_kinds 283 = .ok (.bipush 8, 2) := by decide +kernel
theorem dX12_kinds_285 : decode cX12_kinds 285 = .ok (.goto 4, 3) := by decide +kernel
theorem dX12_kinds_288 : decode cX12_kinds 288 = .ok (.iconst 0, 1) := by decide +kernel
theorem dX12_kinds_289 : decode cX12_kinds 289 = .ok (.ior, 1) := by decide +kernel
theorem dX12_kinds_290 : decode cX12_kinds 290 = .ok (.iload 8, 2) := by decide +kernel
theorem dX12_kinds_292 : decode cX12_kinds 292 = .ok (.ifCond .eq 8, 3) := by decide +kernel
theorem dX12_kinds_295 : decode cX12_kinds 295 = .ok (.bipush 16, 2) := by decide +kernel
theorem dX12_kinds_297 : decode cX12_kinds 297 = .ok (.goto 4, 3) := by decide +kernel
theorem dX12_kinds_300 : decode cX12_kinds 300 = .ok (.iconst 0, 1) := by decide +kernel
theorem dX12_kinds_301 : decode cX12_kinds 301 = .ok (.ior, 1) := by decide +kernel
theorem dX12_kinds_302 : decode cX12_kinds 302 = .ok (.ireturn, 1) := by decide +kernel
theorem dX12_findRow_0 : decode cX12_findRow 0 = .ok (.iload_n 2, 1) := by decide +kernel
theorem dX12_findRow_1 : decode cX12_findRow 1 = .ok (.istore_n 3, 1) := by decide +kernel
theorem dX12_findRow_2 : decode cX12_findRow 2 = .ok (.iconst 0, 1) := by decide +kernel
theorem dX12_findRow_3 : decode cX12_findRow 3 = .ok (.istore 4, 2) := by decide +kernel
theorem dX12_findRow_5 : decode cX12_findRow 5 = .ok (.iconst 1, 1) := by decide +kernel
theorem dX12_findRow_6 : decode cX12_findRow 6 = .ok (.istore 5, 2) := by decide +kernel
theorem dX12_findRow_8 : decode cX12_findRow 8 = .ok (.iconst 2, 1) := by decide +kernel
theorem dX12_findRow_9 : decode cX12_findRow 9 = .ok (.istore 6, 2) := by decide +kernel
theorem dX12_findRow_11 : decode cX12_findRow 11 = .ok (.iload 6, 2) := by decide +kernel
theorem dX12_findRow_13 : decode cX12_findRow 13 = .ok (.iload_n 1, 1) := by decide +kernel
theorem dX12_findRow_14 : decode cX12_findRow 14 = .ok (.if_icmp .ge 16, 3) := by decide +kernel
theorem dX12_findRow_17 : decode cX12_findRow 17 = .ok (.iload 5, 2) := by decide +kernel
theorem dX12_findRow_19 : decode cX12_findRow 19 = .ok (.iload 6, 2) := by decide +kernel
theorem dX12_findRow_21 : decode cX12_findRow 21 = .ok (.imul, 1) := by decide +kernel
theorem dX12_findRow_22 : decode cX12_findRow 22 = .ok (.istore 5, 2) := by decide +kernel
theorem dX12_findRow_24 : decode cX12_findRow 24 = .ok (.iinc 6 1, 3) := by decide +kernel
theorem dX12_findRow_27 : decode cX12_findRow 27 = .ok (.goto (-16), 3) := by decide +kernel
theorem dX12_findRow_30 : decode cX12_findRow 30 = .ok (.iconst 0, 1) := by decide +kernel
theorem dX12_findRow_31 : decode cX12_findRow 31 = .ok (.istore 6, 2) := by decide +kernel
theorem dX12_findRow_33 : decode cX12_findRow 33 = .ok (.iload 6, 2) := by decide +kernel
theorem dX12_findRow_35 : decode cX12_findRow 35 = .ok (.iload_n 1, 1) := by decide +kernel
theorem dX12_findRow_36 : decode cX12_findRow 36 = .ok (.if_icmp .ge 107, 3) := by decide +kernel
theorem dX12_findRow_39 : decode cX12_findRow 39 = .ok (.iload_n 3, 1) := by decide +kernel
theorem dX12_findRow_40 : decode cX12_findRow 40 = .ok (.iload 5, 2) := by decide +kernel
theorem dX12_findRow_42 : decode cX12_findRow 42 = .ok (.idiv, 1) := by decide +kernel
theorem dX12_findRow_43 : decode cX12_findRow 43 = .ok (.istore 7, 2) := by decide +kernel
theorem dX12_findRow_45 : decode cX12_findRow 45 = .ok (.iload_n 3, 1) := by decide +kernel
theorem dX12_findRow_46 : decode cX12_findRow 46 = .ok (.iload 5, 2) := by decide +kernel
theorem dX12_findRow_48 : decode cX12_findRow 48 = .ok (.irem, 1) := by decide +kernel
theorem dX12_findRow_49 : decode cX12_findRow 49 = .ok (.istore_n 3, 1) := by decide +kernel
theorem dX12_findRow_50 : decode cX12_findRow 50 = .ok (.iconst 0, 1) := by decide +kernel
theorem dX12_findRow_51 : decode cX12_findRow 51 = .ok (.istore 8, 2) := by decide +kernel
theorem dX12_findRow_53 : decode cX12_findRow 53 = .ok (.iload 4, 2) := by decide +kernel
theorem dX12_findRow_55 : decode cX12_findRow 55 = .ok (.iload 8, 2) := by decide +kernel
theorem dX12_findRow_57 : decode cX12_findRow 57 = .ok (.ishr, 1) := by decide +kernel
theorem dX12_findRow_58 : decode cX12_findRow 58 = .ok (.iconst 1, 1) := by decide +kernel
theorem dX12_findRow_59 : decode cX12_findRow 59 = .ok (.iand, 1) := by decide +kernel
theorem dX12_findRow_60 : decode cX12_findRow 60 = .ok (.iconst 1, 1) := by decide +kernel
theorem dX12_findRow_61 : decode cX12_findRow 61 = .ok (.if_icmp .eq 8, 3) := by decide +kernel
theorem dX12_findRow_64 : decode cX12_findRow 64 = .ok (.iload 7, 2) := by decide +kernel
theorem dX12_findRow_66 : decode cX12_findRow 66 = .ok (.ifCond .le 30, 3) := by decide +kernel
theorem dX12_findRow_69 : decode cX12_findRow 69 = .ok (.iload 7, 2) := by decide +kernel
theorem dX12_findRow_71 : decode cX12_findRow 71 = .ok (.iload 4, 2) := by decide +kernel
theorem dX12_findRow_73 : decode cX12_findRow 73 = .ok (.iload 8, 2) := by decide +kernel
theorem dX12_findRow_75 : decode cX12_findRow 75 = .ok (.ishr, 1) := by decide +kernel
theorem dX12_findRow_76 : decode cX12_findRow 76 = .ok (.iconst 1, 1) := by decide +kernel
theorem dX12_findRow_77 : decode cX12_findRow 77 = .ok (.iand, 1) := by decide +kernel
theorem dX12_findRow_78 : decode cX12_findRow 78 = .ok (.iconst 1, 1) := by decide +kernel
theorem dX12_findRow_79 : decode cX12_findRow 79 = .ok (.if_icmp .ne 7, 3) := by decide +kernel
theorem dX12_findRow_82 : decode cX12_findRow 82 = .ok (.iconst 0, 1) := by decide +kernel
theorem dX12_findRow_83 : decode cX12_findRow 83 = .ok (.goto 4, 3) := by decide +kernel
theorem dX12_findRow_86 : decode cX12_findRow 86 = .ok (.iconst 1, 1) := by decide +kernel
theorem dX12_findRow_87 : decode cX12_findRow 87 = .ok (.isub, 1) := by decide +kernel
theorem dX12_findRow_88 : decode cX12_findRow 88 = .ok (.istore 7, 2) := by decide +kernel
theorem dX12_findRow_90 : decode cX12_findRow 90 = .ok (.iinc 8 1, 3) := by decide +kernel
theorem dX12_findRow_93 : decode cX12_findRow 93 = .ok (.goto (-40), 3) := by decide +kernel
theorem dX12_findRow_96 : decode cX12_findRow 96 = .ok (.aload_n 0, 1) := by decide +kernel
theorem dX12_findRow_97 : decode cX12_findRow 97 = .ok (.getfield 81, 3) := by decide +kernel
theorem dX12_findRow_100 : decode cX12_findRow 100 = .ok (.iload 6, 2) := by decide +kernel
theorem dX12_findRow_102 : decode cX12_findRow 102 = .ok (.iload 8, 2) := by decide +kernel
theorem dX12_findRow_104 : decode cX12_findRow 104 = .ok (.iastore, 1) := by decide +kernel
theorem dX12_findRow_105 : decode cX12_findRow 105 = .ok (.iload 4, 2) := by decide +kernel
theorem dX12_findRow_107 : decode cX12_findRow 107 = .ok (.iconst 1, 1) := by decide +kernel
theorem dX12_findRow_108 : decode cX12_findRow 108 = .ok (.iload 8, 2) := by decide +kernel
theorem dX12_findRow_110 : decode cX12_findRow 110 = .ok (.ishl, 1) := by decide +kernel
theorem dX12_findRow_111 : decode cX12_findRow 111 = .ok (.ior, 1) := by decide +kernel
theorem dX12_findRow_112 : decode cX12_findRow 112 = .ok (.istore 4, 2) := by decide +kernel
theorem dX12_findRow_114 : decode cX12_findRow 114 = .ok (.iload 6, 2) := by decide +kernel
theorem dX12_findRow_116 : decode cX12_findRow 116 = .ok (.iload_n 1, 1) := by decide +kernel
theorem dX12_findRow_117 : decode cX12_findRow 117 = .ok (.iconst 1, 1) := by decide +kernel
theorem dX12_findRow_118 : decode cX12_findRow 118 = .ok (.isub, 1) := by decide +kernel
theorem dX12_findRow_119 : decode cX12_findRow 119 = .ok (.if_icmp .ge 15, 3) := by decide +kernel
theorem dX12_findRow_122 : decode cX12_findRow 122 = .ok (.iload 5, 2) := by decide +kernel
theorem dX12_findRow_124 : decode cX12_findRow 124 = .ok (.iload_n 1, 1) := by decide +kernel
theorem dX12_findRow_125 : decode cX12_findRow 125 = .ok (.iconst 1, 1) := by decide +kernel
theorem dX12_findRow_126 : decode cX12_findRow 126 = .ok (.isub, 1) := by decide +kernel
theorem dX12_findRow_127 : decode cX12_findRow 127 = .ok (.iload 6, 2) := by decide +kernel
theorem dX12_findRow_129 : decode cX12_findRow 129 = .ok (.isub, 1) := by decide +kernel
theorem dX12_findRow_130 : decode cX12_findRow 130 = .ok (.idiv, 1) := by decide +kernel
theorem dX12_findRow_131 : decode cX12_findRow 131 = .ok (.goto 4, 3) := by decide +kernel
theorem dX12_findRow_134 : decode cX12_findRow 134 = .ok (.iconst 1, 1) := by decide +kernel
theorem dX12_findRow_135 : decode cX12_findRow 135 = .ok (.istore 5, 2) := by decide +kernel
theorem dX12_findRow_137 : decode cX12_findRow 137 = .ok (.iinc 6 1, 3) := by decide +kernel
theorem dX12_findRow_140 : decode cX12_findRow 140 = .ok (.goto (-107), 3) := by decide +kernel
theorem dX12_findRow_143 : decode cX12_findRow 143 = .ok (.return_, 1) := by decide +kernel
set_option maxRecDepth 20000 in
theorem ggX12_colours_X12_findRow : GoodIn wsX12_colours wsX12_findRow := goodIn_r _ [10, 5, 14, 15, 16, 17, 18, 19, 20, 21, 22, 23, 24, 25, 26, 27, 28, 29, 30, 31, 32, 33, 34, 35, 36, 37, 38, 39, 40, 41, 42, 43] (by decide +kernel) (by decide +kernel)
set_option maxRecDepth 20000 in
theorem gX12_colours_X12_findRow : GoodIn wsX12_colours (wsV RX12 197 RX12 yX12_findRow wsX12_findRow) := goodIn_app (goodIn_of _ (by decide +kernel)) ggX12_colours_X12_findRow
set_option maxRecDepth 20000 in
theorem ggX12_colours_X12_at : GoodIn wsX12_colours wsX12_at := goodIn_r _ [13] (by decide +kernel) (by decide +kernel)
set_option maxRecDepth 20000 in
theorem gX12_colours_X12_at : GoodIn wsX12_colours (va_wsS RX12 102 yX12_at wsX12_at) := goodIn_app (goodIn_of _ (by decide +kernel)) ggX12_colours_X12_at
theorem dX12_colours_0 : decode cX12_colours 0 = .ok (.aload_n 0, 1) := by decide +kernel
theorem dX12_colours_1 : decode cX12_colours 1 = .ok (.aload_n 0, 1) := by decide +kernel
theorem dX12_colours_2 : decode cX12_colours 2 = .ok (.getfield 13, 3) := by decide +kernel
theorem dX12_colours_5 : decode cX12_colours 5 = .ok (.iload_n 1, 1) := by decide +kernel
theorem dX12_colours_6 : decode cX12_colours 6 = .ok (.iaload, 1) := by decide +kernel
theorem dX12_colours_7 : decode cX12_colours 7 = .ok (.aload_n 0, 1) := by decide +kernel
theorem dX12_colours_8 : decode cX12_colours 8 = .ok (.getfield 75, 3) := by decide +kernel
theorem dX12_colours_11 : decode cX12_colours 11 = .ok (.iload_n 2, 1) := by decide +kernel
theorem dX12_colours_12 : decode cX12_colours 12 = .ok (.iaload, 1) := by decide +kernel
theorem dX12_colours_13 : decode cX12_colours 13 = .ok (.invokevirtual 197, 3) := by decide +kernel
theorem dX12_colours_16 : decode cX12_colours 16 = .ok (.iconst 0, 1) := by decide +kernel
theorem dX12_colours_17 : decode cX12_colours 17 = .ok (.istore_n 3, 1) := by decide +kernel
theorem dX12_colours_18 : decode cX12_colours 18 = .ok (.iload_n 3, 1) := by decide +kernel
theorem dX12_colours_19 : decode cX12_colours 19 = .ok (.aload_n 0, 1) := by decide +kernel
theorem dX12_colours_20 : decode cX12_colours 20 = .ok (.getfield 13, 3) := by decide +kernel
theorem dX12_colours_23 : decode cX12_colours 23 = .ok (.iload_n 1, 1) := by decide +kernel
theorem dX12_colours_24 : decode cX12_colours 24 = .ok (.iaload, 1) := by decide +kernel
theorem dX12_colours_25 : decode cX12_colours 25 = .ok (.if_icmp .ge 35, 3) := by decide +kernel
theorem dX12_colours_28 : decode cX12_colours 28 = .ok (.aload_n 0, 1) := by decide +kernel
theorem dX12_colours_29 : decode cX12_colours 29 = .ok (.getfield 16, 3) := by decide +kernel
theorem dX12_colours_32 : decode cX12_colours 32 = .ok (.iload_n 1, 1) := by decide +kernel
theorem dX12_colours_33 : decode cX12_colours 33 = .ok (.iload_n 2, 1) := by decide +kernel
theorem dX12_colours_34 : decode cX12_colours 34 = .ok (.iload_n 3, 1) := by decide +kernel
theorem dX12_colours_35 : decode cX12_colours 35 = .ok (.invokestatic 102, 3) := by decide +kernel
theorem dX12_colours_38 : decode cX12_colours 38 = .ok (.aload_n 0, 1) := by decide +kernel
theorem dX12_colours_39 : decode cX12_colours 39 = .ok (.getfield 78, 3) := by decide +kernel
theorem dX12_colours_42 : decode cX12_colours 42 = .ok (.iconst 4, 1) := by decide +kernel
theorem dX12_colours_43 : decode cX12_colours 43 = .ok (.iload_n 2, 1) := by decide +kernel
theorem dX12_colours_44 : decode cX12_colours 44 = .ok (.imul, 1) := by decide +kernel
theorem dX12_colours_45 : decode cX12_colours 45 = .ok (.aload_n 0, 1) := by decide +kernel
theorem dX12_colours_46 : decode cX12_colours 46 = .ok (.getfield 81, 3) := by decide +kernel
theorem dX12_colours_49 : decode cX12_colours 49 = .ok (.iload_n 3, 1) := by decide +kernel
theorem dX12_colours_50 : decode cX12_colours 50 = .ok (.iaload, 1) := by decide +kernel
theorem dX12_colours_51 : decode cX12_colours 51 = .ok (.iadd, 1) := by decide +kernel
theorem dX12_colours_52 : decode cX12_colours 52 = .ok (.iaload, 1) := by decide +kernel
theorem dX12_colours_53 : decode cX12_colours 53 = .ok (.iastore, 1) := by decide +kernel
theorem dX12_colours_54 : decode cX12_colours 54 = .ok (.iinc 3 1, 3) := by decide +kernel
theorem dX12_colours_57 : decode cX12_colours 57 = .ok (.goto (-39), 3) := by decide +kernel
theorem dX12_colours_60 : decode cX12_colours 60 = .ok (.return_, 1) := by decide +kernel
set_option maxRecDepth 20000 in
theorem ggX12_colour_X12_isMachine : GoodIn wsX12_colour wsX12_isMachine := goodIn_r _ [10, 11, 12, 13, 9, 14, 40, 41, 42, 43, 44, 45, 46, 47, 48, 49, 50, 51, 52, 53, 54, 55, 56, 57, 58, 59, 60, 61, 62, 63, 64, 65, 66, 67, 68, 69] (by decide +kernel) (by decide +kernel)
set_option maxRecDepth 20000 in
theorem gX12_colour_X12_isMachine : GoodIn wsX12_colour (wsV RX12 106 RX12 yX12_isMachine wsX12_isMachine) := goodIn_app (goodIn_of _ (by decide +kernel)) ggX12_colour_X12_isMachine
set_option maxRecDepth 20000 in
theorem ggX12_colour_X12_isWhole : GoodIn wsX12_colour wsX12_isWhole := goodIn_r _ [18, 1, 2, 5, 19, 20, 9, 21, 40, 41, 42, 43, 44, 45, 46, 47, 48, 49, 50, 51, 52, 53, 54, 55, 56, 57, 58, 59, 60, 61, 62, 63, 64, 65, 66, 67, 68, 69] (by decide +kernel) (by decide +kernel)
set_option maxRecDepth 20000 in
theorem gX12_colour_X12_isWhole : GoodIn wsX12_colour (wsV RX12 117 RX12 yX12_isWhole wsX12_isWhole) := goodIn_app (goodIn_of _ (by decide +kernel)) ggX12_colour_X12_isWhole
set_option maxRecDepth 20000 in
theorem ggX12_colour_X12_at : GoodIn wsX12_colour wsX12_at := goodIn_r _ [21] (by decide +kernel) (by decide +kernel)
set_option maxRecDepth 20000 in
theorem gX12_colour_X12_at : GoodIn wsX12_colour (va_wsS RX12 102 yX12_at wsX12_at) := goodIn_app (goodIn_of _ (by decide +kernel)) ggX12_colour_X12_at
set_option maxRecDepth 20000 in
theorem ggX12_colour_X12_apartPairs : GoodIn wsX12_colour wsX12_apartPairs := goodIn_r _ [25, 1, 26, 2, 5, 19, 20, 9, 21, 27, 28, 29, 30, 40, 41, 42, 43, 44, 45, 46, 47, 48, 49, 50, 51, 52, 53, 54, 55, 56, 57, 58, 59, 60, 61, 62, 63, 64, 65, 66, 67, 68, 69] (by decide +kernel) (by decide +kernel)
set_option maxRecDepth 20000 in
theorem gX12_colour_X12_apartPairs : GoodIn wsX12_colour (wsV RX12 154 RX12 yX12_apartPairs wsX12_apartPairs) := goodIn_app (goodIn_of _ (by decide +kernel)) ggX12_colour_X12_apartPairs
set_option maxRecDepth 20000 in
theorem ggX12_colour_X12_colours : GoodIn wsX12_colour wsX12_colours := goodIn_r _ [34, 2, 3, 5, 4, 35, 36, 37, 38, 9, 39, 19, 20, 21, 40, 41, 42, 43, 44, 45, 46, 47, 48, 49, 50, 51, 52, 53, 54, 55, 56, 57, 58, 59, 60, 61, 62, 63, 64, 65, 66, 67, 68, 69] (by decide +kernel) (by decide +kernel)
set_option maxRecDepth 20000 in
theorem gX12_colour_X12_colours : GoodIn wsX12_colour (wsV RX12 200 RX12 yX12_colours wsX12_colours) := goodIn_app (goodIn_of _ (by decide +kernel)) ggX12_colour_X12_colours
theorem dX12_colour_0 : decode cX12_colour 0 = .ok (.aload_n 0, 1) := by decide +kernel
theorem dX12_colour_1 : decode cX12_colour 1 = .ok (.iload_n 1, 1) := by decide +kernel
theorem dX12_colour_2 : decode cX12_colour 2 = .ok (.invokevirtual 106, 3) := by decide +kernel
theorem dX12_colour_5 : decode cX12_colour 5 = .ok (.ifCond .ne 6, 3) := by decide +kernel
theorem dX12_colour_8 : decode cX12_colour 8 = .ok (.bipush (-2), 2) := by decide +kernel
theorem dX12_colour_10 : decode cX12_colour 10 = .ok (.ireturn, 1) := by decide +kernel
theorem dX12_colour_11 : decode cX12_colour 11 = .ok (.aload_n 0, 1) := by decide +kernel
theorem dX12_colour_12 : decode cX12_colour 12 = .ok (.iload_n 1, 1) := by decide +kernel
theorem dX12_colour_13 : decode cX12_colour 13 = .ok (.invokevirtual 117, 3) := by decide +kernel
theorem dX12_colour_16 : decode cX12_colour 16 = .ok (.ifCond .ne 6, 3) := by decide +kernel
theorem dX12_colour_19 : decode cX12_colour 19 = .ok (.bipush (-3), 2) := by decide +kernel
theorem dX12_colour_21 : decode cX12_colour 21 = .ok (.ireturn, 1) := by decide +kernel
theorem dX12_colour_22 : decode cX12_colour 22 = .ok (.aload_n 0, 1) := by decide +kernel
theorem dX12_colour_23 : decode cX12_colour 23 = .ok (.getfield 7, 3) := by decide +kernel
theorem dX12_colour_26 : decode cX12_colour 26 = .ok (.iload_n 1, 1) := by decide +kernel
theorem dX12_colour_27 : decode cX12_colour 27 = .ok (.iaload, 1) := by decide +kernel
theorem dX12_colour_28 : decode cX12_colour 28 = .ok (.istore_n 2, 1) := by decide +kernel
theorem dX12_colour_29 : decode cX12_colour 29 = .ok (.iconst 1, 1) := by decide +kernel
theorem dX12_colour_30 : decode cX12_colour 30 = .ok (.istore_n 3, 1) := by decide +kernel
theorem dX12_colour_31 : decode cX12_colour 31 = .ok (.iconst 2, 1) := by decide +kernel
theorem dX12_colour_32 : decode cX12_colour 32 = .ok (.istore 4, 2) := by decide +kernel
theorem dX12_colour_34 : decode cX12_colour 34 = .ok (.iload 4, 2) := by decide +kernel
theorem dX12_colour_36 : decode cX12_colour 36 = .ok (.aload_n 0, 1) := by decide +kernel
theorem dX12_colour_37 : decode cX12_colour 37 = .ok (.getfield 13, 3) := by decide +kernel
theorem dX12_colour_40 : decode cX12_colour 40 = .ok (.iload_n 1, 1) := by decide +kernel
theorem dX12_colour_41 : decode cX12_colour 41 = .ok (.iaload, 1) := by decide +kernel
theorem dX12_colour_42 : decode cX12_colour 42 = .ok (.if_icmp .gt 14, 3) := by decide +kernel
theorem dX12_colour_45 : decode cX12_colour 45 = .ok (.iload_n 3, 1) := by decide +kernel
theorem dX12_colour_46 : decode cX12_colour 46 = .ok (.iload 4, 2) := by decide +kernel
theorem dX12_colour_48 : decode cX12_colour 48 = .ok (.imul, 1) := by decide +kernel
theorem dX12_colour_49 : decode cX12_colour 49 = .ok (.istore_n 3, 1) := by decide +kernel
theorem dX12_colour_50 : decode cX12_colour 50 = .ok (.iinc 4 1, 3) := by decide +kernel
theorem dX12_colour_53 : decode cX12_colour 53 = .ok (.goto (-19), 3) := by decide +kernel
theorem dX12_colour_56 : decode cX12_colour 56 = .ok (.iconst 0, 1) := by decide +kernel
theorem dX12_colour_57 : decode cX12_colour 57 = .ok (.istore 4, 2) := by decide +kernel
theorem dX12_colour_59 : decode cX12_colour 59 = .ok (.iload 4, 2) := by decide +kernel
theorem dX12_colour_61 : decode cX12_colour 61 = .ok (.iload_n 2, 1) := by decide +kernel
theorem dX12_colour_62 : decode cX12_colour 62 = .ok (.if_icmp .ge 62, 3) := by decide +kernel
theorem dX12_colour_65 : decode cX12_colour 65 = .ok (.aload_n 0, 1) := by decide +kernel
theorem dX12_colour_66 : decode cX12_colour 66 = .ok (.getfield 75, 3) := by decide +kernel
theorem dX12_colour_69 : decode cX12_colour 69 = .ok (.iload 4, 2) := by decide +kernel
theorem dX12_colour_71 : decode cX12_colour 71 = .ok (.iconst 0, 1) := by decide +kernel
theorem dX12_colour_72 : decode cX12_colour 72 = .ok (.iastore, 1) := by decide +kernel
theorem dX12_colour_73 : decode cX12_colour 73 = .ok (.iconst 0, 1) := by decide +kernel
theorem dX12_colour_74 : decode cX12_colour 74 = .ok (.istore 5, 2) := by decide +kernel
theorem dX12_colour_76 : decode cX12_colour 76 = .ok (.iload 5, 2) := by decide +kernel
theorem dX12_colour_78 : decode cX12_colour 78 = .ok (.aload_n 0, 1) := by decide +kernel
theorem dX12_colour_79 : decode cX12_colour 79 = .ok (.getfield 13, 3) := by decide +kernel
theorem dX12_colour_82 : decode cX12_colour 82 = .ok (.iload_n 1, 1) := by decide +kernel
theorem dX12_colour_83 : decode cX12_colour 83 = .ok (.iaload, 1) := by decide +kernel
theorem dX12_colour_84 : decode cX12_colour 84 = .ok (.if_icmp .ge 34, 3) := by decide +kernel
theorem dX12_colour_87 : decode cX12_colour 87 = .ok (.aload_n 0, 1) := by decide +kernel
theorem dX12_colour_88 : decode cX12_colour 88 = .ok (.getfield 78, 3) := by decide +kernel
theorem dX12_colour_91 : decode cX12_colour 91 = .ok (.iconst 4, 1) := by decide +kernel
theorem dX12_colour_92 : decode cX12_colour 92 = .ok (.iload 4, 2) := by decide +kernel
theorem dX12_colour_94 : decode cX12_colour 94 = .ok (.imul, 1) := by decide +kernel
theorem dX12_colour_95 : decode cX12_colour 95 = .ok (.iload 5, 2) := by decide +kernel
theorem dX12_colour_97 : decode cX12_colour 97 = .ok (.iadd, 1) := by decide +kernel
theorem dX12_colour_98 : decode cX12_colour 98 = .ok (.aload_n 0, 1) := by decide +kernel
theorem dX12_colour_99 : decode cX12_colour 99 = .ok (.getfield 16, 3) := by decide +kernel
theorem dX12_colour_102 : decode cX12_colour 102 = .ok (.iload_n 1, 1) := by decide +kernel
theorem dX12_colour_103 : decode cX12_colour 103 = .ok (.iload 4, 2) := by decide +kernel
theorem dX12_colour_105 : decode cX12_colour 105 = .ok (.iload 5, 2) := by decide +kernel
theorem dX12_colour_107 : decode cX12_colour 107 = .ok (.invokestatic 102, 3) := by decide +kernel
theorem dX12_colour_110 : decode cX12_colour 110 = .ok (.iaload, 1) := by decide +kernel
theorem dX12_colour_111 : decode cX12_colour 111 = .ok (.iastore, 1) := by decide +kernel
theorem dX12_colour_112 : decode cX12_colour 112 = .ok (.iinc 5 1, 3) := by decide +kernel
theorem dX12_colour_115 : decode cX12_colour 115 = .ok (.goto (-39), 3) := by decide +kernel
theorem dX12_colour_118 : decode cX12_colour 118 = .ok (.iinc 4 1, 3) := by decide +kernel
theorem dX12_colour_121 : decode cX12_colour 121 = .ok (.goto (-62), 3) := by decide +kernel
theorem dX12_colour_124 : decode cX12_colour 124 = .ok (.iconst 0, 1) := by decide +kernel
theorem dX12_colour_125 : decode cX12_colour 125 = .ok (.istore 4, 2) := by decide +kernel
theorem dX12_colour_127 : decode cX12_colour 127 = .ok (.iconst 0, 1) := by decide +kernel
theorem dX12_colour_128 : decode cX12_colour 128 = .ok (.istore 5, 2) := by decide +kernel
theorem dX12_colour_130 : decode cX12_colour 130 = .ok (.iload 4, 2) := by decide +kernel
theorem dX12_colour_132 : decode cX12_colour 132 = .ok (.sipush 1500, 3) := by decide +kernel
theorem dX12_colour_135 : decode cX12_colour 135 = .ok (.if_icmp .ge 92, 3) := by decide +kernel
theorem dX12_colour_138 : decode cX12_colour 138 = .ok (.iload 5, 2) := by decide +kernel
theorem dX12_colour_140 : decode cX12_colour 140 = .ok (.ifCond .lt 87, 3) := by decide +kernel
theorem dX12_colour_143 : decode cX12_colour 143 = .ok (.aload_n 0, 1) := by decide +kernel
theorem dX12_colour_144 : decode cX12_colour 144 = .ok (.iload_n 1, 1) := by decide +kernel
theorem dX12_colour_145 : decode cX12_colour 145 = .ok (.invokevirtual 154, 3) := by decide +kernel
theorem dX12_colour_148 : decode cX12_colour 148 = .ok (.ifCond .ne 6, 3) := by decide +kernel
theorem dX12_colour_151 : decode cX12_colour 151 = .ok (.iload 4, 2) := by decide +kernel
theorem dX12_colour_153 : decode cX12_colour 153 = .ok (.ireturn, 1) := by decide +kernel
theorem dX12_colour_154 : decode cX12_colour 154 = .ok (.iload_n 2, 1) := by decide +kernel
theorem dX12_colour_155 : decode cX12_colour 155 = .ok (.iconst 1, 1) := by decide +kernel
theorem dX12_colour_156 : decode cX12_colour 156 = .ok (.isub, 1) := by decide +kernel
theorem dX12_colour_157 : decode cX12_colour 157 = .ok (.istore 5, 2) := by decide +kernel
theorem dX12_colour_159 : decode cX12_colour 159 = .ok (.iload 5, 2) := by decide +kernel
theorem dX12_colour_161 : decode cX12_colour 161 = .ok (.ifCond .lt 37, 3) := by decide +kernel
theorem dX12_colour_164 : decode cX12_colour 164 = .ok (.aload_n 0, 1) := by decide +kernel
theorem dX12_colour_165 : decode cX12_colour 165 = .ok (.getfield 75, 3) := by decide +kernel
theorem dX12_colour_168 : decode cX12_colour 168 = .ok (.iload 5, 2) := by decide +kernel
theorem dX12_colour_170 : decode cX12_colour 170 = .ok (.iaload, 1) := by decide +kernel
theorem dX12_colour_171 : decode cX12_colour 171 = .ok (.iload_n 3, 1) := by decide +kernel
theorem dX12_colour_172 : decode cX12_colour 172 = .ok (.iconst 1, 1) := by decide +kernel
theorem dX12_colour_173 : decode cX12_colour 173 = .ok (.isub, 1) := by decide +kernel
theorem dX12_colour_174 : decode cX12_colour 174 = .ok (.if_icmp .ne 24, 3) := by decide +kernel
theorem dX12_colour_177 : decode cX12_colour 177 = .ok (.aload_n 0, 1) := by decide +kernel
theorem dX12_colour_178 : decode cX12_colour 178 = .ok (.getfield 75, 3) := by decide +kernel
theorem dX12_colour_181 : decode cX12_colour 181 = .ok (.iload 5, 2) := by decide +kernel
theorem dX12_colour_183 : decode cX12_colour 183 = .ok (.iconst 0, 1) := by decide +kernel
theorem dX12_colour_184 : decode cX12_colour 184 = .ok (.iastore, 1) := by decide +kernel
theorem dX12_colour_185 : decode cX12_colour 185 = .ok (.aload_n 0, 1) := by decide +kernel
theorem dX12_colour_186 : decode cX12_colour 186 = .ok (.iload_n 1, 1) := by decide +kernel
theorem dX12_colour_187 : decode cX12_colour 187 = .ok (.iload 5, 2) := by decide +kernel
theorem dX12_colour_189 : decode cX12_colour 189 = .ok (.invokevirtual 200, 3) := by decide +kernel
theorem dX12_colour_192 : decode cX12_colour 192 = .ok (.iinc 5 (-1), 3) := by decide +kernel
theorem dX12_colour_195 : decode cX12_colour 195 = .ok (.goto (-36), 3) := by decide +kernel
theorem dX12_colour_198 : decode cX12_colour 198 = .ok (.iload 5, 2) := by decide +kernel
theorem dX12_colour_200 : decode cX12_colour 200 = .ok (.ifCond .lt 21, 3) := by decide +kernel
theorem dX12_colour_203 : decode cX12_colour 203 = .ok (.aload_n 0, 1) := by decide +kernel
theorem dX12_colour_204 : decode cX12_colour 204 = .ok (.getfield 75, 3) := by decide +kernel
theorem dX12_colour_207 : decode cX12_colour 207 = .ok (.iload 5, 2) := by decide +kernel
theorem dX12_colour_209 : decode cX12_colour 209 = .ok (.dup2, 1) := by decide +kernel
theorem dX12_colour_210 : decode cX12_colour 210 = .ok (.iaload, 1) := by decide +kernel
theorem dX12_colour_211 : decode cX12_colour 211 = .ok (.iconst 1, 1) := by decide +kernel
theorem dX12_colour_212 : decode cX12_colour 212 = .ok (.iadd, 1) := by decide +kernel
theorem dX12_colour_213 : decode cX12_colour 213 = .ok (.iastore, 1) := by decide +kernel
theorem dX12_colour_214 : decode cX12_colour 214 = .ok (.aload_n 0, 1) := by decide +kernel
theorem dX12_colour_215 : decode cX12_colour 215 = .ok (.iload_n 1, 1) := by decide +kernel
theorem dX12_colour_216 : decode cX12_colour 216 = .ok (.iload 5, 2) := by decide +kernel
theorem dX12_colour_218 : decode cX12_colour 218 = .ok (.invokevirtual 200, 3) := by decide +kernel
theorem dX12_colour_221 : decode cX12_colour 221 = .ok (.iinc 4 1, 3) := by decide +kernel
theorem dX12_colour_224 : decode cX12_colour 224 = .ok (.goto (-94), 3) := by decide +kernel
theorem dX12_colour_227 : decode cX12_colour 227 = .ok (.iconst 0, 1) := by decide +kernel
theorem dX12_colour_228 : decode cX12_colour 228 = .ok (.istore 6, 2) := by decide +kernel
theorem dX12_colour_230 : decode cX12_colour 230 = .ok (.iload 6, 2) := by decide +kernel
theorem dX12_colour_232 : decode cX12_colour 232 = .ok (.iload_n 2, 1) := by decide +kernel
theorem dX12_colour_233 : decode cX12_colour 233 = .ok (.if_icmp .ge 24, 3) := by decide +kernel
theorem dX12_colour_236 : decode cX12_colour 236 = .ok (.aload_n 0, 1) := by decide +kernel
theorem dX12_colour_237 : decode cX12_colour 237 = .ok (.getfield 75, 3) := by decide +kernel
theorem dX12_colour_240 : decode cX12_colour 240 = .ok (.iload 6, 2) := by decide +kernel
theorem dX12_colour_242 : decode cX12_colour 242 = .ok (.iconst 0, 1) := by decide +kernel
theorem dX12_colour_243 : decode cX12_colour 243 = .ok (.iastore, 1) := by decide +kernel
theorem dX12_colour_244 : decode cX12_colour 244 = .ok (.aload_n 0, 1) := by decide +kernel
theorem dX12_colour_245 : decode cX12_colour 245 = .ok (.iload_n 1, 1) := by decide +kernel
theorem dX12_colour_246 : decode cX12_colour 246 = .ok (.iload 6, 2) := by decide +kernel
theorem dX12_colour_248 : decode cX12_colour 248 = .ok (.invokevirtual 200, 3) := by decide +kernel
theorem dX12_colour_251 : decode cX12_colour 251 = .ok (.iinc 6 1, 3) := by decide +kernel
theorem dX12_colour_254 : decode cX12_colour 254 = .ok (.goto (-24), 3) := by decide +kernel
theorem dX12_colour_257 : decode cX12_colour 257 = .ok (.iconst (-1), 1) := by decide +kernel
theorem dX12_colour_258 : decode cX12_colour 258 = .ok (.ireturn, 1) := by decide +kernel
set_option maxRecDepth 20000 in
theorem ggX12_apart_X12_isState : GoodIn wsX12_apart wsX12_isState := goodIn_r _ [10, 11, 12, 13, 14, 9, 15, 16, 17, 18, 19, 23, 24, 25, 26, 27, 28, 29, 30, 31, 32, 33, 34, 35, 36, 37, 38, 39, 40, 41, 42, 43, 44, 45, 46, 47, 48, 49, 50, 51, 52] (by decide +kernel) (by decide +kernel)
set_option maxRecDepth 20000 in
theorem gX12_apart_X12_isState : GoodIn wsX12_apart (wsV RX12 110 RX12 yX12_isState wsX12_isState) := goodIn_app (goodIn_of _ (by decide +kernel)) ggX12_apart_X12_isState
set_option maxRecDepth 20000 in
theorem ggX12_apart_X12_at : GoodIn wsX12_apart wsX12_at := goodIn_r _ [22] (by decide +kernel) (by decide +kernel)
set_option maxRecDepth 20000 in
theorem gX12_apart_X12_at : GoodIn wsX12_apart (va_wsS RX12 102 yX12_at wsX12_at) := goodIn_app (goodIn_of _ (by decide +kernel)) ggX12_apart_X12_at
theorem dX12_apart_0 : decode cX12_apart 0 = .ok (.aload_n 0, 1) := by decide +kernel
theorem dX12_apart_1 : decode cX12_apart 1 = .ok (.iload_n 1, 1) := by decide +kernel
theorem dX12_apart_2 : decode cX12_apart 2 = .ok (.iload_n 2, 1) := by decide +kernel
theorem dX12_apart_3 : decode cX12_apart 3 = .ok (.invokevirtual 110, 3) := by decide +kernel
theorem dX12_apart_6 : decode cX12_apart 6 = .ok (.ifCond .eq 12, 3) := by decide +kernel
theorem dX12_apart_9 : decode cX12_apart 9 = .ok (.aload_n 0, 1) := by decide +kernel
theorem dX12_apart_10 : decode cX12_apart 10 = .ok (.iload_n 1, 1) := by decide +kernel
theorem dX12_apart_11 : decode cX12_apart 11 = .ok (.iload_n 3, 1) := by decide +kernel
theorem dX12_apart_12 : decode cX12_apart 12 = .ok (.invokevirtual 110, 3) := by decide +kernel
theorem dX12_apart_15 : decode cX12_apart 15 = .ok (.ifCond .ne 6, 3) := by decide +kernel
theorem dX12_apart_18 : decode cX12_apart 18 = .ok (.bipush (-2), 2) := by decide +kernel
theorem dX12_apart_20 : decode cX12_apart 20 = .ok (.ireturn, 1) := by decide +kernel
theorem dX12_apart_21 : decode cX12_apart 21 = .ok (.iconst 0, 1) := by decide +kernel
theorem dX12_apart_22 : decode cX12_apart 22 = .ok (.istore 4, 2) := by decide +kernel
theorem dX12_apart_24 : decode cX12_apart 24 = .ok (.iload 4, 2) := by decide +kernel
theorem dX12_apart_26 : decode cX12_apart 26 = .ok (.sipush 144, 3) := by decide +kernel
theorem dX12_apart_29 : decode cX12_apart 29 = .ok (.if_icmp .ge 17, 3) := by decide +kernel
theorem dX12_apart_32 : decode cX12_apart 32 = .ok (.aload_n 0, 1) := by decide +kernel
theorem dX12_apart_33 : decode cX12_apart 33 = .ok (.getfield 87, 3) := by decide +kernel
theorem dX12_apart_36 : decode cX12_apart 36 = .ok (.iload 4, 2) := by decide +kernel
theorem dX12_apart_38 : decode cX12_apart 38 = .ok (.iconst (-1), 1) := by decide +kernel
theorem dX12_apart_39 : decode cX12_apart 39 = .ok (.iastore, 1) := by decide +kernel
theorem dX12_apart_40 : decode cX12_apart 40 = .ok (.iinc 4 1, 3) := by decide +kernel
theorem dX12_apart_43 : decode cX12_apart 43 = .ok (.goto (-19), 3) := by decide +kernel
theorem dX12_apart_46 : decode cX12_apart 46 = .ok (.iconst 1, 1) := by decide +kernel
theorem dX12_apart_47 : decode cX12_apart 47 = .ok (.istore 4, 2) := by decide +kernel
theorem dX12_apart_49 : decode cX12_apart 49 = .ok (.aload_n 0, 1) := by decide +kernel
theorem dX12_apart_50 : decode cX12_apart 50 = .ok (.getfield 84, 3) := by decide +kernel
theorem dX12_apart_53 : decode cX12_apart 53 = .ok (.iconst 0, 1) := by decide +kernel
theorem dX12_apart_54 : decode cX12_apart 54 = .ok (.bipush 12, 2) := by decide +kernel
theorem dX12_apart_56 : decode cX12_apart 56 = .ok (.iload_n 2, 1) := by decide +kernel
theorem dX12_apart_57 : decode cX12_apart 57 = .ok (.imul, 1) := by decide +kernel
theorem dX12_apart_58 : decode cX12_apart 58 = .ok (.iload_n 3, 1) := by decide +kernel
theorem dX12_apart_59 : decode cX12_apart 59 = .ok (.iadd, 1) := by decide +kernel
theorem dX12_apart_60 : decode cX12_apart 60 = .ok (.iastore, 1) := by decide +kernel
theorem dX12_apart_61 : decode cX12_apart 61 = .ok (.aload_n 0, 1) := by decide +kernel
theorem dX12_apart_62 : decode cX12_apart 62 = .ok (.getfield 87, 3) := by decide +kernel
theorem dX12_apart_65 : decode cX12_apart 65 = .ok (.aload_n 0, 1) := by decide +kernel
theorem dX12_apart_66 : decode cX12_apart 66 = .ok (.getfield 84, 3) := by decide +kernel
theorem dX12_apart_69 : decode cX12_apart 69 = .ok (.iconst 0, 1) := by decide +kernel
theorem dX12_apart_70 : decode cX12_apart 70 = .ok (.iaload, 1) := by decide +kernel
theorem dX12_apart_71 : decode cX12_apart 71 = .ok (.iconst 0, 1) := by decide +kernel
theorem dX12_apart_72 : decode cX12_apart 72 = .ok (.iastore, 1) := by decide +kernel
theorem dX12_apart_73 : decode cX12_apart 73 = .ok (.iconst 0, 1) := by decide +kernel
theorem dX12_apart_74 : decode cX12_apart 74 = .ok (.istore 5, 2) := by decide +kernel
theorem dX12_apart_76 : decode cX12_apart 76 = .ok (.iload 5, 2) := by decide +kernel
theorem dX12_apart_78 : decode cX12_apart 78 = .ok (.iload 4, 2) := by decide +kernel
theorem dX12_apart_80 : decode cX12_apart 80 = .ok (.if_icmp .ge 197, 3) := by decide +kernel
theorem dX12_apart_83 : decode cX12_apart 83 = .ok (.aload_n 0, 1) := by decide +kernel
theorem dX12_apart_84 : decode cX12_apart 84 = .ok (.getfield 84, 3) := by decide +kernel
theorem dX12_apart_87 : decode cX12_apart 87 = .ok (.iload 5, 2) := by decide +kernel
theorem dX12_apart_89 : decode cX12_apart 89 = .ok (.iaload, 1) := by decide +kernel
theorem dX12_apart_90 : decode cX12_apart 90 = .ok (.bipush 12, 2) := by decide +kernel
theorem dX12_apart_92 : decode cX12_apart 92 = .ok (.idiv, 1) := by decide +kernel
theorem dX12_apart_93 : decode cX12_apart 93 = .ok (.istore 6, 2) := by decide +kernel
theorem dX12_apart_95 : decode cX12_apart 95 = .ok (.aload_n 0, 1) := by decide +kernel
theorem dX12_apart_96 : decode cX12_apart 96 = .ok (.getfield 84, 3) := by decide +kernel
theorem dX12_apart_99 : decode cX12_apart 99 = .ok (.iload 5, 2) := by decide +kernel
theorem dX12_apart_101 : decode cX12_apart 101 = .ok (.iaload, 1) := by decide +kernel
theorem dX12_apart_102 : decode cX12_apart 102 = .ok (.bipush 12, 2) := by decide +kernel
theorem dX12_apart_104 : decode cX12_apart 104 = .ok (.irem, 1) := by decide +kernel
theorem dX12_apart_105 : decode cX12_apart 105 = .ok (.istore 7, 2) := by decide +kernel
theorem dX12_apart_107 : decode cX12_apart 107 = .ok (.aload_n 0, 1) := by decide +kernel
theorem dX12_apart_108 : decode cX12_apart 108 = .ok (.getfield 19, 3) := by decide +kernel
theorem dX12_apart_111 : decode cX12_apart 111 = .ok (.bipush 12, 2) := by decide +kernel
theorem dX12_apart_113 : decode cX12_apart 113 = .ok (.iload_n 1, 1) := by decide +kernel
theorem dX12_apart_114 : decode cX12_apart 114 = .ok (.imul, 1) := by decide +kernel
theorem dX12_apart_115 : decode cX12_apart 115 = .ok (.iload 6, 2) := by decide +kernel
theorem dX12_apart_117 : decode cX12_apart 117 = .ok (.iadd, 1) := by decide +kernel
theorem dX12_apart_118 : decode cX12_apart 118 = .ok (.iaload, 1) := by decide +kernel
theorem dX12_apart_119 : decode cX12_apart 119 = .ok (.aload_n 0, 1) := by decide +kernel
theorem dX12_apart_120 : decode cX12_apart 120 = .ok (.getfield 19, 3) := by decide +kernel
theorem dX12_apart_123 : decode cX12_apart 123 = .ok (.bipush 12, 2) := by decide +kernel
theorem dX12_apart_125 : decode cX12_apart 125 = .ok (.iload_n 1, 1) := by decide +kernel
theorem dX12_apart_126 : decode cX12_apart 126 = .ok (.imul, 1) := by decide +kernel
theorem dX12_apart_127 : decode cX12_apart 127 = .ok (.iload 7, 2) := by decide +kernel
theorem dX12_apart_129 : decode cX12_apart 129 = .ok (.iadd, 1) := by decide +kernel
theorem dX12_apart_130 : decode cX12_apart 130 = .ok (.iaload, 1) := by decide +kernel
theorem dX12_apart_131 : decode cX12_apart 131 = .ok (.if_icmp .eq 16, 3) := by decide +kernel
theorem dX12_apart_134 : decode cX12_apart 134 = .ok (.aload_n 0, 1) := by decide +kernel
theorem dX12_apart_135 : decode cX12_apart 135 = .ok (.getfield 87, 3) := by decide +kernel
theorem dX12_apart_138 : decode cX12_apart 138 = .ok (.aload_n 0, 1) := by decide +kernel
theorem dX12_apart_139 : decode cX12_apart 139 = .ok (.getfield 84, 3) := by decide +kernel
theorem dX12_apart_142 : decode cX12_apart 142 = .ok (.iload 5, 2) := by decide +kernel
theorem dX12_apart_144 : decode cX12_apart 144 = .ok (.iaload, 1) := by decide +kernel
theorem dX12_apart_145 : decode cX12_apart 145 = .ok (.iaload, 1) := by decide +kernel
theorem dX12_apart_146 : decode cX12_apart 146 = .ok (.ireturn, 1) := by decide +kernel
theorem dX12_apart_147 : decode cX12_apart 147 = .ok (.iconst 0, 1) := by decide +kernel
theorem dX12_apart_148 : decode cX12_apart 148 = .ok (.istore 8, 2) := by decide +kernel
theorem dX12_apart_150 : decode cX12_apart 150 = .ok (.iload 8, 2) := by decide +kernel
theorem dX12_apart_152 : decode cX12_apart 152 = .ok (.aload_n 0, 1) := by decide +kernel
theorem dX12_apart_153 : decode cX12_apart 153 = .ok (.getfield 13, 3) := by decide +kernel
theorem dX12_apart_156 : decode cX12_apart 156 = .ok (.iload_n 1, 1) := by decide +kernel
theorem dX12_apart_157 : decode cX12_apart 157 = .ok (.iaload, 1) := by decide +kernel
theorem dX12_apart_158 : decode cX12_apart 158 = .ok (.if_icmp .ge 113, 3) := by decide +kernel
theorem dX12_apart_161 : decode cX12_apart 161 = .ok (.aload_n 0, 1) := by decide +kernel
theorem dX12_apart_162 : decode cX12_apart 162 = .ok (.getfield 16, 3) := by decide +kernel
theorem dX12_apart_165 : decode cX12_apart 165 = .ok (.iload_n 1, 1) := by decide +kernel
theorem dX12_apart_166 : decode cX12_apart 166 = .ok (.iload 6, 2) := by decide +kernel
theorem dX12_apart_168 : decode cX12_apart 168 = .ok (.iload 8, 2) := by decide +kernel
theorem dX12_apart_170 : decode cX12_apart 170 = .ok (.invokestatic 102, 3) := by decide +kernel
theorem dX12_apart_173 : decode cX12_apart 173 = .ok (.iaload, 1) := by decide +kernel
theorem dX12_apart_174 : decode cX12_apart 174 = .ok (.istore 9, 2) := by decide +kernel
theorem dX12_apart_176 : decode cX12_apart 176 = .ok (.aload_n 0, 1) := by decide +kernel
theorem dX12_apart_177 : decode cX12_apart 177 = .ok (.getfield 16, 3) := by decide +kernel
theorem dX12_apart_180 : decode cX12_apart 180 = .ok (.iload_n 1, 1) := by decide +kernel
theorem dX12_apart_181 : decode cX12_apart 181 = .ok (.iload 7, 2) := by decide +kernel
theorem dX12_apart_183 : decode cX12_apart 183 = .ok (.iload 8, 2) := by decide +kernel
theorem dX12_apart_185 : decode cX12_apart 185 = .ok (.invokestatic 102, 3) := by decide +kernel
theorem dX12_apart_188 : decode cX12_apart 188 = .ok (.iaload, 1) := by decide +kernel
theorem dX12_apart_189 : decode cX12_apart 189 = .ok (.istore 10, 2) := by decide +kernel
theorem dX12_apart_191 : decode cX12_apart 191 = .ok (.iload 9, 2) := by decide +kernel
theorem dX12_apart_193 : decode cX12_apart 193 = .ok (.iconst (-1), 1) := by decide +kernel
theorem dX12_apart_194 : decode cX12_apart 194 = .ok (.if_icmp .eq 71, 3) := by decide +kernel
theorem dX12_apart_197 : decode cX12_apart 197 = .ok (.iload 10, 2) := by decide +kernel
theorem dX12_apart_199 : decode cX12_apart 199 = .ok (.iconst (-1), 1) := by decide +kernel
theorem dX12_apart_200 : decode cX12_apart 200 = .ok (.if_icmp .eq 65, 3) := by decide +kernel
theorem dX12_apart_203 : decode cX12_apart 203 = .ok (.aload_n 0, 1) := by decide +kernel
theorem dX12_apart_204 : decode cX12_apart 204 = .ok (.getfield 87, 3) := by decide +kernel
theorem dX12_apart_207 : decode cX12_apart 207 = .ok (.bipush 12, 2) := by decide +kernel
theorem dX12_apart_209 : decode cX12_apart 209 = .ok (.iload 9, 2) := by decide +kernel
theorem dX12_apart_211 : decode cX12_apart 211 = .ok (.imul, 1) := by decide +kernel
theorem dX12_apart_212 : decode cX12_apart 212 = .ok (.iload 10, 2) := by decide +kernel
theorem dX12_apart_214 : decode cX12_apart 214 = .ok (.iadd, 1) := by decide +kernel
theorem dX12_apart_215 : decode cX12_apart 215 = .ok (.iaload, 1) := by decide +kernel
theorem dX12_apart_216 : decode cX12_apart 216 = .ok (.iconst (-1), 1) := by decide +kernel
theorem dX12_apart_217 : decode cX12_apart 217 = .ok (.if_icmp .ne 48, 3) := by decide +kernel
theorem dX12_apart_220 : decode cX12_apart 220 = .ok (.aload_n 0, 1) := by decide +kernel
theorem dX12_apart_221 : decode cX12_apart 221 = .ok (.getfield 87, 3) := by decide +kernel
theorem dX12_apart_224 : decode cX12_apart 224 = .ok (.bipush 12, 2) := by decide +kernel
theorem dX12_apart_226 : decode cX12_apart 226 = .ok (.iload 9, 2) := by decide +kernel
theorem dX12_apart_228 : decode cX12_apart 228 = .ok (.imul, 1) := by decide +kernel
theorem dX12_apart_229 : decode cX12_apart 229 = .ok (.iload 10, 2) := by decide +kernel
theorem dX12_apart_231 : decode cX12_apart 231 = .ok (.iadd, 1) := by decide +kernel
theorem dX12_apart_232 : decode cX12_apart 232 = .ok (.aload_n 0, 1) := by decide +kernel
theorem dX12_apart_233 : decode cX12_apart 233 = .ok (.getfield 87, 3) := by decide +kernel
theorem dX12_apart_236 : decode cX12_apart 236 = .ok (.aload_n 0, 1) := by decide +kernel
theorem dX12_apart_237 : decode cX12_apart 237 = .ok (.getfield 84, 3) := by decide +kernel
theorem dX12_apart_240 : decode cX12_apart 240 = .ok (.iload 5, 2) := by decide +kernel
theorem dX12_apart_242 : decode cX12_apart 242 = .ok (.iaload, 1) := by decide +kernel
theorem dX12_apart_243 : decode cX12_apart 243 = .ok (.iaload, 1) := by decide +kernel
theorem dX12_apart_244 : decode cX12_apart 244 = .ok (.iconst 1, 1) := by decide +kernel
theorem dX12_apart_245 : decode cX12_apart 245 = .ok (.iadd, 1) := by decide +kernel
theorem dX12_apart_246 : decode cX12_apart 246 = .ok (.iastore, 1) := by decide +kernel
theorem dX12_apart_247 : decode cX12_apart 247 = .ok (.aload_n 0, 1) := by decide +kernel
theorem dX12_apart_248 : decode cX12_apart 248 = .ok (.getfield 84, 3) := by decide +kernel
theorem dX12_apart_251 : decode cX12_apart 251 = .ok (.iload 4, 2) := by decide +kernel
theorem dX12_apart_253 : decode cX12_apart 253 = .ok (.bipush 12, 2) := by decide +kernel
theorem dX12_apart_255 : decode cX12_apart 255 = .ok (.iload 9, 2) := by decide +kernel
theorem dX12_apart_257 : decode cX12_apart 257 = .ok (.imul, 1) := by decide +kernel
theorem dX12_apart_258 : decode cX12_apart 258 = .ok (.iload 10, 2) := by decide +kernel
theorem dX12_apart_260 : decode cX12_apart 260 = .ok (.iadd, 1) := by decide +kernel
theorem dX12_apart_261 : decode cX12_apart 261 = .ok (.iastore, 1) := by decide +kernel
theorem dX12_apart_262 : decode cX12_apart 262 = .ok (.iinc 4 1, 3) := by decide +kernel
theorem dX12_apart_265 : decode cX12_apart 265 = .ok (.iinc 8 1, 3) := by decide +kernel
theorem dX12_apart_268 : decode cX12_apart 268 = .ok (.goto (-118), 3) := by decide +kernel
theorem dX12_apart_271 : decode cX12_apart 271 = .ok (.iinc 5 1, 3) := by decide +kernel
theorem dX12_apart_274 : decode cX12_apart 274 = .ok (.goto (-198), 3) := by decide +kernel
theorem dX12_apart_277 : decode cX12_apart 277 = .ok (.iconst (-1), 1) := by decide +kernel
theorem dX12_apart_278 : decode cX12_apart 278 = .ok (.ireturn, 1) := by decide +kernel
theorem dX12_count_0 : decode cX12_count 0 = .ok (.iload_n 1, 1) := by decide +kernel
theorem dX12_count_1 : decode cX12_count 1 = .ok (.ifCond .ne 10, 3) := by decide +kernel
theorem dX12_count_4 : decode cX12_count 4 = .ok (.aload_n 0, 1) := by decide +kernel
theorem dX12_count_5 : decode cX12_count 5 = .ok (.getfield 90, 3) := by decide +kernel
theorem dX12_count_8 : decode cX12_count 8 = .ok (.goto 17, 3) := by decide +kernel
theorem dX12_count_11 : decode cX12_count 11 = .ok (.iload_n 1, 1) := by decide +kernel
theorem dX12_count_12 : decode cX12_count 12 = .ok (.iconst 1, 1) := by decide +kernel
theorem dX12_count_13 : decode cX12_count 13 = .ok (.if_icmp .ne 10, 3) := by decide +kernel
theorem dX12_count_16 : decode cX12_count 16 = .ok (.aload_n 0, 1) := by decide +kernel
theorem dX12_count_17 : decode cX12_count 17 = .ok (.getfield 123, 3) := by decide +kernel
theorem dX12_count_20 : decode cX12_count 20 = .ok (.goto 5, 3) := by decide +kernel
theorem dX12_count_23 : decode cX12_count 23 = .ok (.bipush (-2), 2) := by decide +kernel
theorem dX12_count_25 : decode cX12_count 25 = .ok (.ireturn, 1) := by decide +kernel
set_option maxRecDepth 20000 in
theorem ggX12_digest_X12_aboutOf : GoodIn wsX12_digest wsX12_aboutOf := goodIn_r _ [16, 4, 5, 17, 18, 19, 15, 20, 6, 21, 22, 23, 24, 25, 26, 27, 28, 29, 30, 31, 32, 33, 34, 35, 36, 37, 38, 39, 40, 41, 42, 43, 44, 45, 46, 47, 48, 49, 50, 51, 52, 53] (by decide +kernel) (by decide +kernel)
set_option maxRecDepth 20000 in
theorem gX12_digest_X12_aboutOf : GoodIn wsX12_digest (wsV RX12 120 RX12 yX12_aboutOf wsX12_aboutOf) := goodIn_app (goodIn_of _ (by decide +kernel)) ggX12_digest_X12_aboutOf
set_option maxRecDepth 20000 in
theorem ggX12_digest_X12_at : GoodIn wsX12_digest wsX12_at := goodIn_r _ [23] (by decide +kernel) (by decide +kernel)
set_option maxRecDepth 20000 in
theorem gX12_digest_X12_at : GoodIn wsX12_digest (va_wsS RX12 102 yX12_at wsX12_at) := goodIn_app (goodIn_of _ (by decide +kernel)) ggX12_digest_X12_at
theorem dX12_digest_0 : decode cX12_digest 0 = .ok (.ldc2_w 203, 3) := by decide +kernel
theorem dX12_digest_3 : decode cX12_digest 3 = .ok (.lstore_n 1, 1) := by decide +kernel
theorem dX12_digest_4 : decode cX12_digest 4 = .ok (.iconst 0, 1) := by decide +kernel
theorem dX12_digest_5 : decode cX12_digest 5 = .ok (.istore_n 3, 1) := by decide +kernel
theorem dX12_digest_6 : decode cX12_digest 6 = .ok (.iload_n 3, 1) := by decide +kernel
theorem dX12_digest_7 : decode cX12_digest 7 = .ok (.aload_n 0, 1) := by decide +kernel
theorem dX12_digest_8 : decode cX12_digest 8 = .ok (.getfield 90, 3) := by decide +kernel
theorem dX12_digest_11 : decode cX12_digest 11 = .ok (.if_icmp .ge 176, 3) := by decide +kernel
theorem dX12_digest_14 : decode cX12_digest 14 = .ok (.iconst 0, 1) := by decide +kernel
theorem dX12_digest_15 : decode cX12_digest 15 = .ok (.istore 4, 2) := by decide +kernel
theorem dX12_digest_17 : decode cX12_digest 17 = .ok (.iload 4, 2) := by decide +kernel
theorem dX12_digest_19 : decode cX12_digest 19 = .ok (.iconst 3, 1) := by decide +kernel
theorem dX12_digest_20 : decode cX12_digest 20 = .ok (.if_icmp .ge 24, 3) := by decide +kernel
theorem dX12_digest_23 : decode cX12_digest 23 = .ok (.ldc2_w 205, 3) := by decide +kernel
theorem dX12_digest_26 : decode cX12_digest 26 = .ok (.lload_n 1, 1) := by decide +kernel
theorem dX12_digest_27 : decode cX12_digest 27 = .ok (.lmul, 1) := by decide +kernel
theorem dX12_digest_28 : decode cX12_digest 28 = .ok (.aload_n 0, 1) := by decide +kernel
theorem dX12_digest_29 : decode cX12_digest 29 = .ok (.iload_n 3, 1) := by decide +kernel
theorem dX12_digest_30 : decode cX12_digest 30 = .ok (.iload 4, 2) := by decide +kernel
theorem dX12_digest_32 : decode cX12_digest 32 = .ok (.invokevirtual 120, 3) := by decide +kernel
theorem dX12_digest_35 : decode cX12_digest 35 = .ok (.i2l, 1) := by decide +kernel
theorem dX12_digest_36 : decode cX12_digest 36 = .ok (.ladd, 1) := by decide +kernel
theorem dX12_digest_37 : decode cX12_digest 37 = .ok (.lstore_n 1, 1) := by decide +kernel
theorem dX12_digest_38 : decode cX12_digest 38 = .ok (.iinc 4 1, 3) := by decide +kernel
theorem dX12_digest_41 : decode cX12_digest 41 = .ok (.goto (-24), 3) := by decide +kernel
theorem dX12_digest_44 : decode cX12_digest 44 = .ok (.iconst 0, 1) := by decide +kernel
theorem dX12_digest_45 : decode cX12_digest 45 = .ok (.istore 4, 2) := by decide +kernel
theorem dX12_digest_47 : decode cX12_digest 47 = .ok (.iload 4, 2) := by decide +kernel
theorem dX12_digest_49 : decode cX12_digest 49 = .ok (.aload_n 0, 1) := by decide +kernel
theorem dX12_digest_50 : decode cX12_digest 50 = .ok (.getfield 7, 3) := by decide +kernel
theorem dX12_digest_53 : decode cX12_digest 53 = .ok (.iload_n 3, 1) := by decide +kernel
theorem dX12_digest_54 : decode cX12_digest 54 = .ok (.iaload, 1) := by decide +kernel
theorem dX12_digest_55 : decode cX12_digest 55 = .ok (.if_icmp .ge 70, 3) := by decide +kernel
theorem dX12_digest_58 : decode cX12_digest 58 = .ok (.iconst 0, 1) := by decide +kernel
theorem dX12_digest_59 : decode cX12_digest 59 = .ok (.istore 5, 2) := by decide +kernel
theorem dX12_digest_61 : decode cX12_digest 61 = .ok (.iload 5, 2) := by decide +kernel
theorem dX12_digest_63 : decode cX12_digest 63 = .ok (.aload_n 0, 1) := by decide +kernel
theorem dX12_digest_64 : decode cX12_digest 64 = .ok (.getfield 13, 3) := by decide +kernel
theorem dX12_digest_67 : decode cX12_digest 67 = .ok (.iload_n 3, 1) := by decide +kernel
theorem dX12_digest_68 : decode cX12_digest 68 = .ok (.iaload, 1) := by decide +kernel
theorem dX12_digest_69 : decode cX12_digest 69 = .ok (.if_icmp .ge 30, 3) := by decide +kernel
theorem dX12_digest_72 : decode cX12_digest 72 = .ok (.ldc2_w 205, 3) := by decide +kernel
theorem dX12_digest_75 : decode cX12_digest 75 = .ok (.lload_n 1, 1) := by decide +kernel
theorem dX12_digest_76 : decode cX12_digest 76 = .ok (.lmul, 1) := by decide +kernel
theorem dX12_digest_77 : decode cX12_digest 77 = .ok (.aload_n 0, 1) := by decide +kernel
theorem dX12_digest_78 : decode cX12_digest 78 = .ok (.getfield 16, 3) := by decide +kernel
theorem dX12_digest_81 : decode cX12_digest 81 = .ok (.iload_n 3, 1) := by decide +kernel
theorem dX12_digest_82 : decode cX12_digest 82 = .ok (.iload 4, 2) := by decide +kernel
theorem dX12_digest_84 : decode cX12_digest 84 = .ok (.iload 5, 2) := by decide +kernel
theorem dX12_digest_86 : decode cX12_digest 86 = .ok (.invokestatic 102, 3) := by decide +kernel
theorem dX12_digest_89 : decode cX12_digest 89 = .ok (.iaload, 1) := by decide +kernel
theorem dX12_digest_90 : decode cX12_digest 90 = .ok (.i2l, 1) := by decide +kernel
theorem dX12_digest_91 : decode cX12_digest 91 = .ok (.ladd, 1) := by decide +kernel
theorem dX12_digest_92 : decode cX12_digest 92 = .ok (.lstore_n 1, 1) := by decide +kernel
theorem dX12_digest_93 : decode cX12_digest 93 = .ok (.iinc 5 1, 3) := by decide +kernel
theorem dX12_digest_96 : decode cX12_digest 96 = .ok (.goto (-35), 3) := by decide +kernel
theorem dX12_digest_99 : decode cX12_digest 99 = .ok (.ldc2_w 205, 3) := by decide +kernel
theorem dX12_digest_102 : decode cX12_digest 102 = .ok (.lload_n 1, 1) := by decide +kernel
theorem dX12_digest_103 : decode cX12_digest 103 = .ok (.lmul, 1) := by decide +kernel
theorem dX12_digest_104 : decode cX12_digest 104 = .ok (.aload_n 0, 1) := by decide +kernel
theorem dX12_digest_105 : decode cX12_digest 105 = .ok (.getfield 19, 3) := by decide +kernel
theorem dX12_digest_108 : decode cX12_digest 108 = .ok (.bipush 12, 2) := by decide +kernel
theorem dX12_digest_110 : decode cX12_digest 110 = .ok (.iload_n 3, 1) := by decide +kernel
theorem dX12_digest_111 : decode cX12_digest 111 = .ok (.imul, 1) := by decide +kernel
theorem dX12_digest_112 : decode cX12_digest 112 = .ok (.iload 4, 2) := by decide +kernel
theorem dX12_digest_114 : decode cX12_digest 114 = .ok (.iadd, 1) := by decide +kernel
theorem dX12_digest_115 : decode cX12_digest 115 = .ok (.iaload, 1) := by decide +kernel
theorem dX12_digest_116 : decode cX12_digest 116 = .ok (.i2l, 1) := by decide +kernel
theorem dX12_digest_117 : decode cX12_digest 117 = .ok (.ladd, 1) := by decide +kernel
theorem dX12_digest_118 : decode cX12_digest 118 = .ok (.lstore_n 1, 1) := by decide +kernel
theorem dX12_digest_119 : decode cX12_digest 119 = .ok (.iinc 4 1, 3) := by decide +kernel
theorem dX12_digest_122 : decode cX12_digest 122 = .ok (.goto (-75), 3) := by decide +kernel
theorem dX12_digest_125 : decode cX12_digest 125 = .ok (.iconst 0, 1) := by decide +kernel
theorem dX12_digest_126 : decode cX12_digest 126 = .ok (.istore 4, 2) := by decide +kernel
theorem dX12_digest_128 : decode cX12_digest 128 = .ok (.iload 4, 2) := by decide +kernel
theorem dX12_digest_130 : decode cX12_digest 130 = .ok (.aload_n 0, 1) := by decide +kernel
theorem dX12_digest_131 : decode cX12_digest 131 = .ok (.getfield 13, 3) := by decide +kernel
theorem dX12_digest_134 : decode cX12_digest 134 = .ok (.iload_n 3, 1) := by decide +kernel
theorem dX12_digest_135 : decode cX12_digest 135 = .ok (.iaload, 1) := by decide +kernel
theorem dX12_digest_136 : decode cX12_digest 136 = .ok (.if_icmp .ge 45, 3) := by decide +kernel
theorem dX12_digest_139 : decode cX12_digest 139 = .ok (.ldc2_w 205, 3) := by decide +kernel
theorem dX12_digest_142 : decode cX12_digest 142 = .ok (.ldc2_w 205, 3) := by decide +kernel
theorem dX12_digest_145 : decode cX12_digest 145 = .ok (.lload_n 1, 1) := by decide +kernel
theorem dX12_digest_146 : decode cX12_digest 146 = .ok (.lmul, 1) := by decide +kernel
theorem dX12_digest_147 : decode cX12_digest 147 = .ok (.aload_n 0, 1) := by decide +kernel
theorem dX12_digest_148 : decode cX12_digest 148 = .ok (.getfield 22, 3) := by decide +kernel
theorem dX12_digest_151 : decode cX12_digest 151 = .ok (.iconst 4, 1) := by decide +kernel
theorem dX12_digest_152 : decode cX12_digest 152 = .ok (.iload_n 3, 1) := by decide +kernel
theorem dX12_digest_153 : decode cX12_digest 153 = .ok (.imul, 1) := by decide +kernel
theorem dX12_digest_154 : decode cX12_digest 154 = .ok (.iload 4, 2) := by decide +kernel
theorem dX12_digest_156 : decode cX12_digest 156 = .ok (.iadd, 1) := by decide +kernel
theorem dX12_digest_157 : decode cX12_digest 157 = .ok (.iaload, 1) := by decide +kernel
theorem dX12_digest_158 : decode cX12_digest 158 = .ok (.i2l, 1) := by decide +kernel
theorem dX12_digest_159 : decode cX12_digest 159 = .ok (.ladd, 1) := by decide +kernel
theorem dX12_digest_160 : decode cX12_digest 160 = .ok (.lmul, 1) := by decide +kernel
theorem dX12_digest_161 : decode cX12_digest 161 = .ok (.aload_n 0, 1) := by decide +kernel
theorem dX12_digest_162 : decode cX12_digest 162 = .ok (.getfield 25, 3) := by decide +kernel
theorem dX12_digest_165 : decode cX12_digest 165 = .ok (.iconst 4, 1) := by decide +kernel
theorem dX12_digest_166 : decode cX12_digest 166 = .ok (.iload_n 3, 1) := by decide +kernel
theorem dX12_digest_167 : decode cX12_digest 167 = .ok (.imul, 1) := by decide +kernel
theorem dX12_digest_168 : decode cX12_digest 168 = .ok (.iload 4, 2) := by decide +kernel
theorem dX12_digest_170 : decode cX12_digest 170 = .ok (.iadd, 1) := by decide +kernel
theorem dX12_digest_171 : decode cX12_digest 171 = .ok (.iaload, 1) := by decide +kernel
theorem dX12_digest_172 : decode cX12_digest 172 = .ok (.i2l, 1) := by decide +kernel
theorem dX12_digest_173 : decode cX12_digest 173 = .ok (.ladd, 1) := by decide +kernel
theorem dX12_digest_174 : decode cX12_digest 174 = .ok (.lstore_n 1, 1) := by decide +kernel
theorem dX12_digest_175 : decode cX12_digest 175 = .ok (.iinc 4 1, 3) := by decide +kernel
theorem dX12_digest_178 : decode cX12_digest 178 = .ok (.goto (-50), 3) := by decide +kernel
theorem dX12_digest_181 : decode cX12_digest 181 = .ok (.iinc 3 1, 3) := by decide +kernel
theorem dX12_digest_184 : decode cX12_digest 184 = .ok (.goto (-178), 3) := by decide +kernel
theorem dX12_digest_187 : decode cX12_digest 187 = .ok (.ldc2_w 205, 3) := by decide +kernel
theorem dX12_digest_190 : decode cX12_digest 190 = .ok (.lload_n 1, 1) := by decide +kernel
theorem dX12_digest_191 : decode cX12_digest 191 = .ok (.lmul, 1) := by decide +kernel
theorem dX12_digest_192 : decode cX12_digest 192 = .ok (.aload_n 0, 1) := by decide +kernel
theorem dX12_digest_193 : decode cX12_digest 193 = .ok (.getfield 123, 3) := by decide +kernel
theorem dX12_digest_196 : decode cX12_digest 196 = .ok (.i2l, 1) := by decide +kernel
theorem dX12_digest_197 : decode cX12_digest 197 = .ok (.ladd, 1) := by decide +kernel
theorem dX12_digest_198 : decode cX12_digest 198 = .ok (.lstore_n 1, 1) := by decide +kernel
theorem dX12_digest_199 : decode cX12_digest 199 = .ok (.iconst 0, 1) := by decide +kernel
theorem dX12_digest_200 : decode cX12_digest 200 = .ok (.istore_n 3, 1) := by decide +kernel
theorem dX12_digest_201 : decode cX12_digest 201 = .ok (.iload_n 3, 1) := by decide +kernel
theorem dX12_digest_202 : decode cX12_digest 202 = .ok (.aload_n 0, 1) := by decide +kernel
theorem dX12_digest_203 : decode cX12_digest 203 = .ok (.getfield 123, 3) := by decide +kernel
theorem dX12_digest_206 : decode cX12_digest 206 = .ok (.if_icmp .ge 23, 3) := by decide +kernel
theorem dX12_digest_209 : decode cX12_digest 209 = .ok (.ldc2_w 205, 3) := by decide +kernel
theorem dX12_digest_212 : decode cX12_digest 212 = .ok (.lload_n 1, 1) := by decide +kernel
theorem dX12_digest_213 : decode cX12_digest 213 = .ok (.lmul, 1) := by decide +kernel
theorem dX12_digest_214 : decode cX12_digest 214 = .ok (.aload_n 0, 1) := by decide +kernel
theorem dX12_digest_215 : decode cX12_digest 215 = .ok (.getfield 28, 3) := by decide +kernel
theorem dX12_digest_218 : decode cX12_digest 218 = .ok (.iload_n 3, 1) := by decide +kernel
theorem dX12_digest_219 : decode cX12_digest 219 = .ok (.iaload, 1) := by decide +kernel
theorem dX12_digest_220 : decode cX12_digest 220 = .ok (.i2l, 1) := by decide +kernel
theorem dX12_digest_221 : decode cX12_digest 221 = .ok (.ladd, 1) := by decide +kernel
theorem dX12_digest_222 : decode cX12_digest 222 = .ok (.lstore_n 1, 1) := by decide +kernel
theorem dX12_digest_223 : decode cX12_digest 223 = .ok (.iinc 3 1, 3) := by decide +kernel
theorem dX12_digest_226 : decode cX12_digest 226 = .ok (.goto (-25), 3) := by decide +kernel
theorem dX12_digest_229 : decode cX12_digest 229 = .ok (.lload_n 1, 1) := by decide +kernel
theorem dX12_digest_230 : decode cX12_digest 230 = .ok (.lreturn, 1) := by decide +kernel
theorem dJ6_bitCount_0f7a4_0 : decode cJ6_bitCount_0f7a4 0 = .ok (.iload_n 0, 1) := by decide +kernel
theorem dJ6_bitCount_0f7a4_1 : decode cJ6_bitCount_0f7a4 1 = .ok (.iload_n 0, 1) := by decide +kernel
theorem dJ6_bitCount_0f7a4_2 : decode cJ6_bitCount_0f7a4 2 = .ok (.iconst 1, 1) := by decide +kernel
theorem dJ6_bitCount_0f7a4_3 : decode cJ6_bitCount_0f7a4 3 = .ok (.iushr, 1) := by decide +kernel
theorem dJ6_bitCount_0f7a4_4 : decode cJ6_bitCount_0f7a4 4 = .ok (.ldc_w 265, 3) := by decide +kernel
theorem dJ6_bitCount_0f7a4_7 : decode cJ6_bitCount_0f7a4 7 = .ok (.iand, 1) := by decide +kernel
theorem dJ6_bitCount_0f7a4_8 : decode cJ6_bitCount_0f7a4 8 = .ok (.isub, 1) := by decide +kernel
theorem dJ6_bitCount_0f7a4_9 : decode cJ6_bitCount_0f7a4 9 = .ok (.istore_n 0, 1) := by decide +kernel
theorem dJ6_bitCount_0f7a4_10 : decode cJ6_bitCount_0f7a4 10 = .ok (.iload_n 0, 1) := by decide +kernel
theorem dJ6_bitCount_0f7a4_11 : decode cJ6_bitCount_0f7a4 11 = .ok (.ldc_w 266, 3) := by decide +kernel
theorem dJ6_bitCount_0f7a4_14 : decode cJ6_bitCount_0f7a4 14 = .ok (.iand, 1) := by decide +kernel
theorem dJ6_bitCount_0f7a4_15 : decode cJ6_bitCount_0f7a4 15 = .ok (.iload_n 0, 1) := by decide +kernel
theorem dJ6_bitCount_0f7a4_16 : decode cJ6_bitCount_0f7a4 16 = .ok (.iconst 2, 1) := by decide +kernel
theorem dJ6_bitCount_0f7a4_17 : decode cJ6_bitCount_0f7a4 17 = .ok (.iushr, 1) := by decide +kernel
theorem dJ6_bitCount_0f7a4_18 : decode cJ6_bitCount_0f7a4 18 = .ok (.ldc_w 266, 3) := by decide +kernel
theorem dJ6_bitCount_0f7a4_21 : decode cJ6_bitCount_0f7a4 21 = .ok (.iand, 1) := by decide +kernel
theorem dJ6_bitCount_0f7a4_22 : decode cJ6_bitCount_0f7a4 22 = .ok (.iadd, 1) := by decide +kernel
theorem dJ6_bitCount_0f7a4_23 : decode cJ6_bitCount_0f7a4 23 = .ok (.istore_n 0, 1) := by decide +kernel
theorem dJ6_bitCount_0f7a4_24 : decode cJ6_bitCount_0f7a4 24 = .ok (.iload_n 0, 1) := by decide +kernel
theorem dJ6_bitCount_0f7a4_25 : decode cJ6_bitCount_0f7a4 25 = .ok (.iload_n 0, 1) := by decide +kernel
theorem dJ6_bitCount_0f7a4_26 : decode cJ6_bitCount_0f7a4 26 = .ok (.iconst 4, 1) := by decide +kernel
theorem dJ6_bitCount_0f7a4_27 : decode cJ6_bitCount_0f7a4 27 = .ok (.iushr, 1) := by decide +kernel
theorem dJ6_bitCount_0f7a4_28 : decode cJ6_bitCount_0f7a4 28 = .ok (.iadd, 1) := by decide +kernel
theorem dJ6_bitCount_0f7a4_29 : decode cJ6_bitCount_0f7a4 29 = .ok (.ldc_w 267, 3) := by decide +kernel
theorem dJ6_bitCount_0f7a4_32 : decode cJ6_bitCount_0f7a4 32 = .ok (.iand, 1) := by decide +kernel
theorem dJ6_bitCount_0f7a4_33 : decode cJ6_bitCount_0f7a4 33 = .ok (.istore_n 0, 1) := by decide +kernel
theorem dJ6_bitCount_0f7a4_34 : decode cJ6_bitCount_0f7a4 34 = .ok (.iload_n 0, 1) := by decide +kernel
theorem dJ6_bitCount_0f7a4_35 : decode cJ6_bitCount_0f7a4 35 = .ok (.iload_n 0, 1) := by decide +kernel
theorem dJ6_bitCount_0f7a4_36 : decode cJ6_bitCount_0f7a4 36 = .ok (.bipush 8, 2) := by decide +kernel
theorem dJ6_bitCount_0f7a4_38 : decode cJ6_bitCount_0f7a4 38 = .ok (.iushr, 1) := by decide +kernel
theorem dJ6_bitCount_0f7a4_39 : decode cJ6_bitCount_0f7a4 39 = .ok (.iadd, 1) := by decide +kernel
theorem dJ6_bitCount_0f7a4_40 : decode cJ6_bitCount_0f7a4 40 = .ok (.istore_n 0, 1) := by decide +kernel
theorem dJ6_bitCount_0f7a4_41 : decode cJ6_bitCount_0f7a4 41 = .ok (.iload_n 0, 1) := by decide +kernel
theorem dJ6_bitCount_0f7a4_42 : decode cJ6_bitCount_0f7a4 42 = .ok (.iload_n 0, 1) := by decide +kernel
theorem dJ6_bitCount_0f7a4_43 : decode cJ6_bitCount_0f7a4 43 = .ok (.bipush 16, 2) := by decide +kernel
theorem dJ6_bitCount_0f7a4_45 : decode cJ6_bitCount_0f7a4 45 = .ok (.iushr, 1) := by decide +kernel
theorem dJ6_bitCount_0f7a4_46 : decode cJ6_bitCount_0f7a4 46 = .ok (.iadd, 1) := by decide +kernel
theorem dJ6_bitCount_0f7a4_47 : decode cJ6_bitCount_0f7a4 47 = .ok (.istore_n 0, 1) := by decide +kernel
theorem dJ6_bitCount_0f7a4_48 : decode cJ6_bitCount_0f7a4 48 = .ok (.iload_n 0, 1) := by decide +kernel
theorem dJ6_bitCount_0f7a4_49 : decode cJ6_bitCount_0f7a4 49 = .ok (.bipush 63, 2) := by decide +kernel
theorem dJ6_bitCount_0f7a4_51 : decode cJ6_bitCount_0f7a4 51 = .ok (.iand, 1) := by decide +kernel
theorem dJ6_bitCount_0f7a4_52 : decode cJ6_bitCount_0f7a4 52 = .ok (.ireturn, 1) := by decide +kernel
theorem dJ9_min_7cf53_0 : decode cJ9_min_7cf53 0 = .ok (.iload_n 0, 1) := by decide +kernel
theorem dJ9_min_7cf53_1 : decode cJ9_min_7cf53 1 = .ok (.iload_n 1, 1) := by decide +kernel
theorem dJ9_min_7cf53_2 : decode cJ9_min_7cf53 2 = .ok (.if_icmp .gt 7, 3) := by decide +kernel
theorem dJ9_min_7cf53_5 : decode cJ9_min_7cf53 5 = .ok (.iload_n 0, 1) := by decide +kernel
theorem dJ9_min_7cf53_6 : decode cJ9_min_7cf53 6 = .ok (.goto 4, 3) := by decide +kernel
theorem dJ9_min_7cf53_9 : decode cJ9_min_7cf53 9 = .ok (.iload_n 1, 1) := by decide +kernel
theorem dJ9_min_7cf53_10 : decode cJ9_min_7cf53 10 = .ok (.ireturn, 1) := by decide +kernel
theorem dJ7_fill_d0a16_0 : decode cJ7_fill_d0a16 0 = .ok (.iconst 0, 1) := by decide +kernel
theorem dJ7_fill_d0a16_1 : decode cJ7_fill_d0a16 1 = .ok (.istore_n 3, 1) := by decide +kernel
theorem dJ7_fill_d0a16_2 : decode cJ7_fill_d0a16 2 = .ok (.aload_n 0, 1) := by decide +kernel
theorem dJ7_fill_d0a16_3 : decode cJ7_fill_d0a16 3 = .ok (.arraylength, 1) := by decide +kernel
theorem dJ7_fill_d0a16_4 : decode cJ7_fill_d0a16 4 = .ok (.istore 4, 2) := by decide +kernel
theorem dJ7_fill_d0a16_6 : decode cJ7_fill_d0a16 6 = .ok (.iload_n 3, 1) := by decide +kernel
theorem dJ7_fill_d0a16_7 : decode cJ7_fill_d0a16 7 = .ok (.iload 4, 2) := by decide +kernel
theorem dJ7_fill_d0a16_9 : decode cJ7_fill_d0a16 9 = .ok (.if_icmp .ge 13, 3) := by decide +kernel
theorem dJ7_fill_d0a16_12 : decode cJ7_fill_d0a16 12 = .ok (.aload_n 0, 1) := by decide +kernel
theorem dJ7_fill_d0a16_13 : decode cJ7_fill_d0a16 13 = .ok (.iload_n 3, 1) := by decide +kernel
theorem dJ7_fill_d0a16_14 : decode cJ7_fill_d0a16 14 = .ok (.lload_n 1, 1) := by decide +kernel
theorem dJ7_fill_d0a16_15 : decode cJ7_fill_d0a16 15 = .ok (.lastore, 1) := by decide +kernel
theorem dJ7_fill_d0a16_16 : decode cJ7_fill_d0a16 16 = .ok (.iinc 3 1, 3) := by decide +kernel
theorem dJ7_fill_d0a16_19 : decode cJ7_fill_d0a16 19 = .ok (.goto (-13), 3) := by decide +kernel
theorem dJ7_fill_d0a16_22 : decode cJ7_fill_d0a16 22 = .ok (.return_, 1) := by decide +kernel
theorem dJ7_fill_53178_0 : decode cJ7_fill_53178 0 = .ok (.iconst 0, 1) := by decide +kernel
theorem dJ7_fill_53178_1 : decode cJ7_fill_53178 1 = .ok (.istore_n 2, 1) := by decide +kernel
theorem dJ7_fill_53178_2 : decode cJ7_fill_53178 2 = .ok (.aload_n 0, 1) := by decide +kernel
theorem dJ7_fill_53178_3 : decode cJ7_fill_53178 3 = .ok (.arraylength, 1) := by decide +kernel
theorem dJ7_fill_53178_4 : decode cJ7_fill_53178 4 = .ok (.istore_n 3, 1) := by decide +kernel
theorem dJ7_fill_53178_5 : decode cJ7_fill_53178 5 = .ok (.iload_n 2, 1) := by decide +kernel
theorem dJ7_fill_53178_6 : decode cJ7_fill_53178 6 = .ok (.iload_n 3, 1) := by decide +kernel
theorem dJ7_fill_53178_7 : decode cJ7_fill_53178 7 = .ok (.if_icmp .ge 13, 3) := by decide +kernel
theorem dJ7_fill_53178_10 : decode cJ7_fill_53178 10 = .ok (.aload_n 0, 1) := by decide +kernel
theorem dJ7_fill_53178_11 : decode cJ7_fill_53178 11 = .ok (.iload_n 2, 1) := by decide +kernel
theorem dJ7_fill_53178_12 : decode cJ7_fill_53178 12 = .ok (.iload_n 1, 1) := by decide +kernel
theorem dJ7_fill_53178_13 : decode cJ7_fill_53178 13 = .ok (.iastore, 1) := by decide +kernel
theorem dJ7_fill_53178_14 : decode cJ7_fill_53178 14 = .ok (.iinc 2 1, 3) := by decide +kernel
theorem dJ7_fill_53178_17 : decode cJ7_fill_53178 17 = .ok (.goto (-12), 3) := by decide +kernel
theorem dJ7_fill_53178_20 : decode cJ7_fill_53178 20 = .ok (.return_, 1) := by decide +kernel
set_option maxRecDepth 20000 in
theorem ggL_law_X11_init : GoodIn wsL_law wsX11_init := goodIn_r _ [8, 9, 10, 11, 12, 13, 14, 15, 16, 17, 18, 19, 20, 21, 22, 23, 24, 25, 26, 27, 28, 29, 30, 31, 32, 33, 34, 35, 36, 37, 38, 39, 40, 41, 42, 43, 44, 45, 46, 47, 48, 49, 50, 51, 52, 53, 54, 55, 56, 57, 58, 59, 60, 61, 62, 63, 64, 65, 66, 67, 68, 69, 70, 71, 72, 73, 74, 75, 76, 77, 78, 79, 80, 81, 82, 83, 84, 85, 86, 87, 88, 89, 90, 91, 92, 93, 94, 95, 96, 97, 98, 99, 100, 101, 102, 103, 104, 105, 106, 107, 108, 109, 110, 111, 112, 113, 114, 115, 116, 117, 118, 119, 120, 121, 122, 123, 124, 125, 910, 911, 912, 913, 914, 915, 916, 917, 918, 919, 920, 951, 952, 953, 954, 955, 956, 957, 958, 959, 960, 961, 962, 963, 964, 965, 966, 967, 968, 969, 970, 971, 972, 973, 974, 975, 976, 977, 978, 979, 980, 981, 982, 983, 984, 985, 986, 987] (by decide +kernel) (by decide +kernel)
set_option maxRecDepth 20000 in
theorem gL_law_X11_init : GoodIn wsL_law (wsX11_init) := ggL_law_X11_init
set_option maxRecDepth 20000 in
theorem ggL_law_X12_init : GoodIn wsL_law wsX12_init := goodIn_r _ [128, 129, 10, 11, 53, 130, 131, 132, 133, 134, 135, 136, 137, 138, 139, 140, 141, 142, 143, 144, 145, 146, 147, 148, 149, 83, 150, 151, 152, 153, 154, 155, 156, 921, 922, 923, 924, 925, 926, 927, 928, 929, 930, 931, 932, 933, 934, 935, 936, 937, 938, 939, 940, 941, 942, 943, 944, 945, 946, 947, 948, 949, 950] (by decide +kernel) (by decide +kernel)
set_option maxRecDepth 20000 in
theorem gL_law_X12_init : GoodIn wsL_law (wsX12_init) := ggL_law_X12_init
set_option maxRecDepth 20000 in
theorem ggL_law_X11_machine : GoodIn wsL_law wsX11_machine := goodIn_r _ [160, 161, 12, 109, 110, 162, 113, 114, 115, 10, 11, 53, 116, 117, 118, 119, 120, 121, 122, 123, 124, 125, 163, 164, 165, 2, 166, 13, 910, 911, 912, 913, 914, 915, 916, 917, 918, 919, 920, 982, 983, 984, 985, 986, 987] (by decide +kernel) (by decide +kernel)
set_option maxRecDepth 20000 in
theorem gL_law_X11_machine : GoodIn wsL_law (wsV RL 13 RX11 yX11_machine wsX11_machine) := goodIn_app (goodIn_of _ (by decide +kernel)) ggL_law_X11_machine
set_option maxRecDepth 20000 in
theorem ggL_law_X12_machine : GoodIn wsL_law wsX12_machine := goodIn_r _ [170, 171, 172, 5, 173, 174, 175, 176, 177, 178, 130, 131, 132, 133, 134, 135, 921, 922, 923, 924, 925, 926, 927, 928, 929, 930, 931, 932, 933, 934, 935, 936, 937, 938, 939, 940, 941, 942, 943, 944, 945, 946, 947, 948, 949, 950] (by decide +kernel) (by decide +kernel)
set_option maxRecDepth 20000 in
theorem gL_law_X12_machine : GoodIn wsL_law (wsV RL 17 RX12 yX12_machine wsX12_machine) := goodIn_app (goodIn_of _ (by decide +kernel)) ggL_law_X12_machine
set_option maxRecDepth 20000 in
theorem ggL_law_X11_ring : GoodIn wsL_law wsX11_ring := goodIn_r _ [182, 161, 12, 109, 110, 162, 113, 114, 115, 10, 11, 53, 116, 117, 118, 119, 120, 121, 122, 123, 124, 125, 183, 184, 185, 186, 187, 188, 189, 190, 191, 192, 193, 194, 163, 164, 165, 2, 166, 13, 910, 911, 912, 913, 914, 915, 916, 917, 918, 919, 920, 982, 983, 984, 985, 986, 987] (by decide +kernel) (by decide +kernel)
set_option maxRecDepth 20000 in
theorem gL_law_X11_ring : GoodIn wsL_law (wsV RL 18 RX11 yX11_ring wsX11_ring) := goodIn_app (goodIn_of _ (by decide +kernel)) ggL_law_X11_ring
set_option maxRecDepth 20000 in
theorem ggL_law_X12_ring : GoodIn wsL_law wsX12_ring := goodIn_r _ [198, 132, 171, 172, 5, 173, 174, 175, 176, 177, 178, 130, 131, 133, 134, 135, 199, 200, 201, 921, 922, 923, 924, 925, 926, 927, 928, 929, 930, 931, 932, 933, 934, 935, 936, 937, 938, 939, 940, 941, 942, 943, 944, 945, 946, 947, 948, 949, 950] (by decide +kernel) (by decide +kernel)
set_option maxRecDepth 20000 in
theorem gL_law_X12_ring : GoodIn wsL_law (wsV RL 22 RX12 yX12_ring wsX12_ring) := goodIn_app (goodIn_of _ (by decide +kernel)) ggL_law_X12_ring
set_option maxRecDepth 20000 in
theorem ggL_law_X11_move : GoodIn wsL_law wsX11_move := goodIn_r _ [205, 206, 207, 208, 2, 209, 161, 13, 210, 188, 189, 110, 190, 120, 211, 192, 193, 194, 121, 212, 213, 214, 215, 116, 183, 184, 185, 186, 187, 191, 910, 911, 912, 913, 914, 915, 916, 917, 918, 919, 920, 982, 983, 984, 985, 986, 987] (by decide +kernel) (by decide +kernel)
set_option maxRecDepth 20000 in
theorem gL_law_X11_move : GoodIn wsL_law (wsV RL 23 RX11 yX11_move wsX11_move) := goodIn_app (goodIn_of _ (by decide +kernel)) ggL_law_X11_move
set_option maxRecDepth 20000 in
theorem ggL_law_X12_move : GoodIn wsL_law wsX12_move := goodIn_r _ [219, 132, 220, 221, 222, 5, 223, 130, 224, 225, 226, 227, 178, 171, 172, 173, 228, 229, 230, 231, 131, 199, 200, 201, 921, 922, 923, 924, 925, 926, 927, 928, 929, 930, 931, 932, 933, 934, 935, 936, 937, 938, 939, 940, 941, 942, 943, 944, 945, 946, 947, 948, 949, 950] (by decide +kernel) (by decide +kernel)
set_option maxRecDepth 20000 in
theorem gL_law_X12_move : GoodIn wsL_law (wsV RL 27 RX12 yX12_move wsX12_move) := goodIn_app (goodIn_of _ (by decide +kernel)) ggL_law_X12_move
set_option maxRecDepth 20000 in
theorem ggL_law_X11_light : GoodIn wsL_law wsX11_light := goodIn_r _ [235, 206, 207, 208, 2, 209, 161, 13, 210, 188, 189, 110, 190, 120, 236, 237, 238, 239, 117, 240, 241, 242, 243, 187, 910, 911, 912, 913, 914, 915, 916, 917, 918, 919, 920, 982, 983, 984, 985, 986, 987] (by decide +kernel) (by decide +kernel)
set_option maxRecDepth 20000 in
theorem gL_law_X11_light : GoodIn wsL_law (wsV RL 28 RX11 yX11_light wsX11_light) := goodIn_app (goodIn_of _ (by decide +kernel)) ggL_law_X11_light
set_option maxRecDepth 20000 in
theorem ggL_law_X12_light : GoodIn wsL_law wsX12_light := goodIn_r _ [247, 133, 220, 221, 222, 5, 223, 130, 224, 225, 226, 227, 178, 171, 172, 173, 921, 922, 923, 924, 925, 926, 927, 928, 929, 930, 931, 932, 933, 934, 935, 936, 937, 938, 939, 940, 941, 942, 943, 944, 945, 946, 947, 948, 949, 950] (by decide +kernel) (by decide +kernel)
set_option maxRecDepth 20000 in
theorem gL_law_X12_light : GoodIn wsL_law (wsV RL 32 RX12 yX12_light wsX12_light) := goodIn_app (goodIn_of _ (by decide +kernel)) ggL_law_X12_light
set_option maxRecDepth 20000 in
theorem ggL_law_X11_price : GoodIn wsL_law wsX11_price := goodIn_r _ [251, 206, 207, 208, 2, 209, 161, 13, 211, 192, 193, 110, 194, 121, 252, 253, 254, 255, 118, 256, 257, 258, 259, 191, 910, 911, 912, 913, 914, 915, 916, 917, 918, 919, 920, 982, 983, 984, 985, 986, 987] (by decide +kernel) (by decide +kernel)
set_option maxRecDepth 20000 in
theorem gL_law_X11_price : GoodIn wsL_law (wsV RL 33 RX11 yX11_price wsX11_price) := goodIn_app (goodIn_of _ (by decide +kernel)) ggL_law_X11_price
set_option maxRecDepth 20000 in
theorem ggL_law_X12_price : GoodIn wsL_law wsX12_price := goodIn_r _ [263, 134, 228, 229, 230, 5, 231, 131, 224, 225, 226, 227, 178, 171, 172, 173, 921, 922, 923, 924, 925, 926, 927, 928, 929, 930, 931, 932, 933, 934, 935, 936, 937, 938, 939, 940, 941, 942, 943, 944, 945, 946, 947, 948, 949, 950] (by decide +kernel) (by decide +kernel)
set_option maxRecDepth 20000 in
theorem gL_law_X12_price : GoodIn wsL_law (wsV RL 36 RX12 yX12_price wsX12_price) := goodIn_app (goodIn_of _ (by decide +kernel)) ggL_law_X12_price
set_option maxRecDepth 20000 in
theorem ggL_law_X11_share : GoodIn wsL_law wsX11_share := goodIn_r _ [267, 206, 207, 208, 2, 209, 161, 13, 211, 192, 193, 110, 194, 121, 268, 269, 270, 271, 119, 272, 273, 274, 275, 191, 910, 911, 912, 913, 914, 915, 916, 917, 918, 919, 920, 982, 983, 984, 985, 986, 987] (by decide +kernel) (by decide +kernel)
set_option maxRecDepth 20000 in
theorem gL_law_X11_share : GoodIn wsL_law (wsV RL 37 RX11 yX11_share wsX11_share) := goodIn_app (goodIn_of _ (by decide +kernel)) ggL_law_X11_share
set_option maxRecDepth 20000 in
theorem ggL_law_X12_share : GoodIn wsL_law wsX12_share := goodIn_r _ [279, 135, 228, 229, 230, 5, 231, 131, 224, 225, 226, 227, 178, 171, 172, 173, 921, 922, 923, 924, 925, 926, 927, 928, 929, 930, 931, 932, 933, 934, 935, 936, 937, 938, 939, 940, 941, 942, 943, 944, 945, 946, 947, 948, 949, 950] (by decide +kernel) (by decide +kernel)
set_option maxRecDepth 20000 in
theorem gL_law_X12_share : GoodIn wsL_law (wsV RL 40 RX12 yX12_share wsX12_share) := goodIn_app (goodIn_of _ (by decide +kernel)) ggL_law_X12_share
set_option maxRecDepth 20000 in
theorem ggL_law_X11_about : GoodIn wsL_law wsX11_about := goodIn_r _ [283, 206, 207, 208, 2, 209, 161, 13, 284, 285, 286, 287, 288, 289, 110, 290, 120, 291, 292, 293, 294, 121, 295, 296, 297, 298, 299, 213, 214, 215, 116, 910, 911, 912, 913, 914, 915, 916, 917, 918, 919, 920, 982, 983, 984, 985, 986, 987] (by decide +kernel) (by decide +kernel)
set_option maxRecDepth 20000 in
theorem gL_law_X11_about : GoodIn wsL_law (wsV RL 41 RX11 yX11_about wsX11_about) := goodIn_app (goodIn_of _ (by decide +kernel)) ggL_law_X11_about
set_option maxRecDepth 20000 in
theorem ggL_law_X12_about : GoodIn wsL_law wsX12_about := goodIn_r _ [303, 224, 225, 226, 5, 227, 178, 171, 172, 173, 304, 305, 306, 307, 130, 131, 308, 309, 310, 311, 132, 199, 200, 201, 921, 922, 923, 924, 925, 926, 927, 928, 929, 930, 931, 932, 933, 934, 935, 936, 937, 938, 939, 940, 941, 942, 943, 944, 945, 946, 947, 948, 949, 950] (by decide +kernel) (by decide +kernel)
set_option maxRecDepth 20000 in
theorem gL_law_X12_about : GoodIn wsL_law (wsV RL 44 RX12 yX12_about wsX12_about) := goodIn_app (goodIn_of _ (by decide +kernel)) ggL_law_X12_about
set_option maxRecDepth 20000 in
theorem ggL_law_X11_moveOf : GoodIn wsL_law wsX11_moveOf := goodIn_r _ [315, 206, 207, 208, 2, 209, 161, 13, 210, 188, 189, 110, 190, 120, 211, 192, 193, 194, 121, 212, 213, 214, 215, 116, 910, 911, 912, 913, 914, 915, 916, 917, 918, 919, 920, 982, 983, 984, 985, 986, 987] (by decide +kernel) (by decide +kernel)
set_option maxRecDepth 20000 in
theorem gL_law_X11_moveOf : GoodIn wsL_law (wsV RL 45 RX11 yX11_moveOf wsX11_moveOf) := goodIn_app (goodIn_of _ (by decide +kernel)) ggL_law_X11_moveOf
set_option maxRecDepth 20000 in
theorem ggL_law_X12_moveOf : GoodIn wsL_law wsX12_moveOf := goodIn_r _ [319, 132, 220, 221, 222, 5, 223, 130, 224, 225, 226, 227, 178, 171, 172, 173, 228, 229, 230, 231, 131, 199, 200, 201, 921, 922, 923, 924, 925, 926, 927, 928, 929, 930, 931, 932, 933, 934, 935, 936, 937, 938, 939, 940, 941, 942, 943, 944, 945, 946, 947, 948, 949, 950] (by decide +kernel) (by decide +kernel)
set_option maxRecDepth 20000 in
theorem gL_law_X12_moveOf : GoodIn wsL_law (wsV RL 48 RX12 yX12_moveOf wsX12_moveOf) := goodIn_app (goodIn_of _ (by decide +kernel)) ggL_law_X12_moveOf
set_option maxRecDepth 20000 in
theorem ggL_law_X11_empty : GoodIn wsL_law wsX11_empty := goodIn_r _ [323, 17, 324, 325, 326, 16, 327, 328, 329, 330, 331, 332, 910, 911, 912, 913, 914, 915, 916, 917, 918, 919, 920, 951, 952] (by decide +kernel) (by decide +kernel)
set_option maxRecDepth 20000 in
theorem gL_law_X11_empty : GoodIn wsL_law (wsV RL 49 RX11 yX11_empty wsX11_empty) := goodIn_app (goodIn_of _ (by decide +kernel)) ggL_law_X11_empty
set_option maxRecDepth 20000 in
theorem ggL_law_X12_empty : GoodIn wsL_law wsX12_empty := goodIn_r _ [336, 337, 921, 922, 923, 924, 925, 926, 927, 928, 929, 930, 931, 932, 933, 934, 935, 936, 937, 938, 939, 940, 941, 942, 943, 944, 945, 946, 947, 948, 949, 950] (by decide +kernel) (by decide +kernel)
set_option maxRecDepth 20000 in
theorem gL_law_X12_empty : GoodIn wsL_law (wsV RL 53 RX12 yX12_empty wsX12_empty) := goodIn_app (goodIn_of _ (by decide +kernel)) ggL_law_X12_empty
set_option maxRecDepth 20000 in
theorem ggL_law_X11_letter : GoodIn wsL_law wsX11_letter := goodIn_r _ [341, 17, 342, 343, 344, 16, 345, 328, 54, 324, 325, 326, 327, 910, 911, 912, 913, 914, 915, 916, 917, 918, 919, 920, 951, 952] (by decide +kernel) (by decide +kernel)
set_option maxRecDepth 20000 in
theorem gL_law_X11_letter : GoodIn wsL_law (wsV RL 54 RX11 yX11_letter wsX11_letter) := goodIn_app (goodIn_of _ (by decide +kernel)) ggL_law_X11_letter
set_option maxRecDepth 20000 in
theorem ggL_law_X12_letter : GoodIn wsL_law wsX12_letter := goodIn_r _ [349, 337, 136, 171, 172, 5, 173, 921, 922, 923, 924, 925, 926, 927, 928, 929, 930, 931, 932, 933, 934, 935, 936, 937, 938, 939, 940, 941, 942, 943, 944, 945, 946, 947, 948, 949, 950] (by decide +kernel) (by decide +kernel)
set_option maxRecDepth 20000 in
theorem gL_law_X12_letter : GoodIn wsL_law (wsV RL 57 RX12 yX12_letter wsX12_letter) := goodIn_app (goodIn_of _ (by decide +kernel)) ggL_law_X12_letter
set_option maxRecDepth 20000 in
theorem ggL_law_X11_letterAt : GoodIn wsL_law wsX11_letterAt := goodIn_r _ [353, 17, 354, 355, 356, 16, 357, 328, 54, 910, 911, 912, 913, 914, 915, 916, 917, 918, 919, 920, 951, 952] (by decide +kernel) (by decide +kernel)
set_option maxRecDepth 20000 in
theorem gL_law_X11_letterAt : GoodIn wsL_law (wsV RL 58 RX11 yX11_letterAt wsX11_letterAt) := goodIn_app (goodIn_of _ (by decide +kernel)) ggL_law_X11_letterAt
set_option maxRecDepth 20000 in
theorem ggL_law_X12_letterAt : GoodIn wsL_law wsX12_letterAt := goodIn_r _ [361, 337, 136, 171, 172, 5, 173, 921, 922, 923, 924, 925, 926, 927, 928, 929, 930, 931, 932, 933, 934, 935, 936, 937, 938, 939, 940, 941, 942, 943, 944, 945, 946, 947, 948, 949, 950] (by decide +kernel) (by decide +kernel)
set_option maxRecDepth 20000 in
theorem gL_law_X12_letterAt : GoodIn wsL_law (wsV RL 61 RX12 yX12_letterAt wsX12_letterAt) := goodIn_app (goodIn_of _ (by decide +kernel)) ggL_law_X12_letterAt
set_option maxRecDepth 20000 in
theorem ggL_law_X11_goes : GoodIn wsL_law wsX11_goes := goodIn_r _ [365, 17, 21, 206, 207, 208, 2, 209, 161, 13, 366, 367, 368, 110, 369, 120, 370, 371, 372, 16, 373, 328, 54, 374, 192, 193, 194, 121, 375, 376, 377, 20, 378, 379, 58, 59, 380, 292, 293, 294, 381, 382, 383, 384, 188, 189, 190, 385, 213, 214, 215, 116, 386, 387, 388, 389, 390, 325, 326, 327, 391, 355, 356, 357, 392, 393, 394, 395, 910, 911, 912, 913, 914, 915, 916, 917, 918, 919, 920, 982, 983, 984, 985, 986, 987, 951, 952, 953, 954, 955] (by decide +kernel) (by decide +kernel)
set_option maxRecDepth 20000 in
theorem gL_law_X11_goes : GoodIn wsL_law (wsV RL 62 RX11 yX11_goes wsX11_goes) := goodIn_app (goodIn_of _ (by decide +kernel)) ggL_law_X11_goes
set_option maxRecDepth 20000 in
theorem ggL_law_X12_goes : GoodIn wsL_law wsX12_goes := goodIn_r _ [399, 337, 136, 131, 400, 401, 402, 5, 403, 130, 224, 225, 226, 227, 178, 171, 172, 173, 404, 405, 406, 407, 132, 199, 200, 201, 921, 922, 923, 924, 925, 926, 927, 928, 929, 930, 931, 932, 933, 934, 935, 936, 937, 938, 939, 940, 941, 942, 943, 944, 945, 946, 947, 948, 949, 950] (by decide +kernel) (by decide +kernel)
set_option maxRecDepth 20000 in
theorem gL_law_X12_goes : GoodIn wsL_law (wsV RL 65 RX12 yX12_goes wsX12_goes) := goodIn_app (goodIn_of _ (by decide +kernel)) ggL_law_X12_goes
set_option maxRecDepth 20000 in
theorem ggL_law_X11_shortest : GoodIn wsL_law wsX11_shortest := goodIn_r _ [411, 29, 206, 207, 208, 2, 209, 161, 13, 366, 367, 368, 110, 369, 120, 412, 413, 414, 28, 415, 69, 70, 68, 416, 417, 376, 377, 20, 378, 379, 58, 59, 380, 292, 293, 294, 121, 381, 382, 383, 384, 188, 189, 190, 385, 213, 214, 215, 116, 418, 419, 420, 24, 421, 63, 422, 123, 124, 125, 423, 424, 425, 426, 427, 428, 429, 430, 431, 432, 433, 434, 435, 436, 437, 393, 394, 395, 438, 439, 440, 441, 442, 443, 444, 445, 446, 447, 448, 449, 25, 17, 450, 451, 452, 453, 454, 455, 456, 457, 458, 459, 460, 461, 462, 463, 464, 465, 16, 466, 467, 468, 469, 470, 328, 471, 472, 473, 474, 54, 910, 911, 912, 913, 914, 915, 916, 917, 918, 919, 920, 982, 983, 984, 985, 986, 987, 957, 958, 959, 960, 953, 954, 955, 956, 951, 952] (by decide +kernel) (by decide +kernel)
set_option maxRecDepth 20000 in
theorem gL_law_X11_shortest : GoodIn wsL_law (wsV RL 66 RX11 yX11_shortest wsX11_shortest) := goodIn_app (goodIn_of _ (by decide +kernel)) ggL_law_X11_shortest
set_option maxRecDepth 20000 in
theorem ggL_law_X12_shortest : GoodIn wsL_law wsX12_shortest := goodIn_r _ [478, 400, 401, 402, 5, 403, 130, 224, 225, 226, 227, 178, 171, 172, 173, 479, 480, 481, 482, 141, 483, 137, 138, 131, 139, 484, 485, 486, 487, 488, 489, 490, 404, 405, 406, 407, 132, 199, 200, 201, 491, 492, 493, 494, 337, 136, 495, 496, 497, 498, 921, 922, 923, 924, 925, 926, 927, 928, 929, 930, 931, 932, 933, 934, 935, 936, 937, 938, 939, 940, 941, 942, 943, 944, 945, 946, 947, 948, 949, 950] (by decide +kernel) (by decide +kernel)
set_option maxRecDepth 20000 in
theorem gL_law_X12_shortest : GoodIn wsL_law (wsV RL 69 RX12 yX12_shortest wsX12_shortest) := goodIn_app (goodIn_of _ (by decide +kernel)) ggL_law_X12_shortest
set_option maxRecDepth 20000 in
theorem ggL_law_X11_shortestTo : GoodIn wsL_law wsX11_shortestTo := goodIn_r _ [502, 29, 206, 207, 208, 2, 209, 161, 13, 366, 367, 368, 110, 369, 120, 210, 188, 189, 190, 412, 413, 414, 28, 415, 69, 70, 68, 416, 417, 376, 377, 20, 378, 379, 58, 59, 380, 292, 293, 294, 121, 381, 382, 383, 384, 385, 213, 214, 215, 116, 418, 419, 420, 24, 421, 63, 422, 123, 124, 125, 423, 424, 425, 426, 427, 428, 429, 430, 431, 432, 433, 434, 435, 436, 437, 393, 394, 395, 438, 439, 440, 441, 442, 443, 444, 445, 446, 447, 448, 449, 25, 17, 450, 451, 452, 453, 454, 455, 456, 457, 458, 459, 460, 461, 462, 463, 464, 465, 16, 466, 467, 468, 469, 470, 328, 471, 472, 473, 474, 54, 910, 911, 912, 913, 914, 915, 916, 917, 918, 919, 920, 982, 983, 984, 985, 986, 987, 957, 958, 959, 960, 953, 954, 955, 956, 951, 952] (by decide +kernel) (by decide +kernel)
set_option maxRecDepth 20000 in
theorem gL_law_X11_shortestTo : GoodIn wsL_law (wsV RL 70 RX11 yX11_shortestTo wsX11_shortestTo) := goodIn_app (goodIn_of _ (by decide +kernel)) ggL_law_X11_shortestTo
set_option maxRecDepth 20000 in
theorem ggL_law_X12_shortestTo : GoodIn wsL_law wsX12_shortestTo := goodIn_r _ [506, 400, 401, 402, 5, 403, 130, 224, 225, 226, 227, 178, 171, 172, 173, 220, 221, 222, 223, 479, 480, 481, 482, 141, 483, 137, 138, 131, 139, 484, 485, 486, 487, 488, 489, 490, 404, 405, 406, 407, 132, 199, 200, 201, 491, 492, 493, 494, 337, 136, 495, 496, 497, 498, 921, 922, 923, 924, 925, 926, 927, 928, 929, 930, 931, 932, 933, 934, 935, 936, 937, 938, 939, 940, 941, 942, 943, 944, 945, 946, 947, 948, 949, 950] (by decide +kernel) (by decide +kernel)
set_option maxRecDepth 20000 in
theorem gL_law_X12_shortestTo : GoodIn wsL_law (wsV RL 73 RX12 yX12_shortestTo wsX12_shortestTo) := goodIn_app (goodIn_of _ (by decide +kernel)) ggL_law_X12_shortestTo
set_option maxRecDepth 20000 in
theorem ggL_law_X11_rank : GoodIn wsL_law wsX11_rank := goodIn_r _ [510, 29, 206, 207, 208, 2, 209, 161, 13, 366, 367, 368, 110, 369, 120, 412, 413, 414, 28, 415, 69, 70, 68, 416, 417, 376, 377, 20, 378, 379, 58, 59, 380, 292, 293, 294, 121, 381, 382, 383, 384, 188, 189, 190, 385, 213, 214, 215, 116, 418, 419, 420, 24, 421, 63, 422, 123, 124, 125, 423, 424, 425, 426, 427, 428, 429, 430, 431, 432, 433, 434, 435, 436, 437, 393, 394, 395, 438, 439, 440, 441, 442, 443, 444, 445, 511, 512, 513, 514, 515, 516, 517, 518, 519, 520, 521, 522, 523, 524, 525, 446, 447, 448, 449, 25, 17, 450, 451, 452, 453, 454, 455, 456, 457, 458, 459, 460, 461, 462, 463, 464, 465, 16, 466, 467, 468, 469, 470, 328, 471, 472, 473, 474, 54, 526, 910, 911, 912, 913, 914, 915, 916, 917, 918, 919, 920, 982, 983, 984, 985, 986, 987, 957, 958, 959, 960, 953, 954, 955, 956, 951, 952] (by decide +kernel) (by decide +kernel)
set_option maxRecDepth 20000 in
theorem gL_law_X11_rank : GoodIn wsL_law (wsV RL 74 RX11 yX11_rank wsX11_rank) := goodIn_app (goodIn_of _ (by decide +kernel)) ggL_law_X11_rank
set_option maxRecDepth 20000 in
theorem ggL_law_X12_rank : GoodIn wsL_law wsX12_rank := goodIn_r _ [530, 483, 137, 400, 401, 402, 5, 403, 130, 224, 225, 226, 227, 178, 171, 172, 173, 479, 480, 481, 482, 141, 138, 131, 139, 484, 485, 486, 487, 488, 489, 490, 404, 405, 406, 407, 132, 199, 200, 201, 491, 492, 493, 494, 337, 136, 495, 496, 497, 498, 921, 922, 923, 924, 925, 926, 927, 928, 929, 930, 931, 932, 933, 934, 935, 936, 937, 938, 939, 940, 941, 942, 943, 944, 945, 946, 947, 948, 949, 950] (by decide +kernel) (by decide +kernel)
set_option maxRecDepth 20000 in
theorem gL_law_X12_rank : GoodIn wsL_law (wsV RL 77 RX12 yX12_rank wsX12_rank) := goodIn_app (goodIn_of _ (by decide +kernel)) ggL_law_X12_rank
set_option maxRecDepth 20000 in
theorem ggL_law_X11_merge : GoodIn wsL_law wsX11_merge := goodIn_r _ [534, 41, 206, 207, 208, 2, 209, 161, 13, 210, 188, 189, 110, 190, 120, 535, 536, 537, 40, 538, 91, 539, 540, 123, 124, 125, 541, 288, 289, 290, 542, 543, 544, 545, 546, 547, 548, 549, 550, 551, 552, 553, 554, 555, 556, 557, 558, 292, 293, 294, 121, 559, 213, 214, 215, 116, 560, 910, 911, 912, 913, 914, 915, 916, 917, 918, 919, 920, 982, 983, 984, 985, 986, 987, 970, 971, 972] (by decide +kernel) (by decide +kernel)
set_option maxRecDepth 20000 in
theorem gL_law_X11_merge : GoodIn wsL_law (wsV RL 78 RX11 yX11_merge wsX11_merge) := goodIn_app (goodIn_of _ (by decide +kernel)) ggL_law_X11_merge
set_option maxRecDepth 20000 in
theorem ggL_law_X12_merge : GoodIn wsL_law wsX12_merge := goodIn_r _ [564, 220, 221, 222, 5, 223, 130, 224, 225, 226, 227, 178, 171, 172, 173, 479, 480, 481, 482, 141, 483, 137, 138, 131, 139, 484, 485, 486, 487, 488, 489, 490, 404, 405, 406, 407, 132, 199, 200, 201, 495, 496, 497, 498, 921, 922, 923, 924, 925, 926, 927, 928, 929, 930, 931, 932, 933, 934, 935, 936, 937, 938, 939, 940, 941, 942, 943, 944, 945, 946, 947, 948, 949, 950] (by decide +kernel) (by decide +kernel)
set_option maxRecDepth 20000 in
theorem gL_law_X12_merge : GoodIn wsL_law (wsV RL 81 RX12 yX12_merge wsX12_merge) := goodIn_app (goodIn_of _ (by decide +kernel)) ggL_law_X12_merge
set_option maxRecDepth 20000 in
theorem ggL_law_X11_unmerged : GoodIn wsL_law wsX11_unmerged := goodIn_r _ [568, 41, 206, 207, 208, 2, 209, 161, 13, 535, 536, 537, 40, 538, 91, 539, 540, 123, 124, 125, 541, 288, 289, 110, 290, 120, 542, 543, 544, 545, 546, 547, 548, 549, 550, 551, 552, 553, 554, 555, 556, 557, 558, 292, 293, 294, 121, 559, 213, 214, 215, 116, 569, 570, 571, 572, 910, 911, 912, 913, 914, 915, 916, 917, 918, 919, 920, 970, 971, 972, 982, 983, 984, 985, 986, 987] (by decide +kernel) (by decide +kernel)
set_option maxRecDepth 20000 in
theorem gL_law_X11_unmerged : GoodIn wsL_law (wsV RL 82 RX11 yX11_unmerged wsX11_unmerged) := goodIn_app (goodIn_of _ (by decide +kernel)) ggL_law_X11_unmerged
set_option maxRecDepth 20000 in
theorem ggL_law_X12_unmerged : GoodIn wsL_law wsX12_unmerged := goodIn_r _ [576, 224, 225, 226, 5, 227, 178, 171, 172, 173, 577, 578, 579, 580, 130, 142, 131, 132, 199, 200, 201, 581, 582, 583, 584, 921, 922, 923, 924, 925, 926, 927, 928, 929, 930, 931, 932, 933, 934, 935, 936, 937, 938, 939, 940, 941, 942, 943, 944, 945, 946, 947, 948, 949, 950] (by decide +kernel) (by decide +kernel)
set_option maxRecDepth 20000 in
theorem gL_law_X12_unmerged : GoodIn wsL_law (wsV RL 85 RX12 yX12_unmerged wsX12_unmerged) := goodIn_app (goodIn_of _ (by decide +kernel)) ggL_law_X12_unmerged
set_option maxRecDepth 20000 in
theorem ggL_law_X11_greedy : GoodIn wsL_law wsX11_greedy := goodIn_r _ [588, 45, 17, 206, 207, 208, 2, 209, 161, 13, 366, 367, 368, 110, 369, 120, 589, 590, 591, 44, 592, 101, 102, 98, 593, 99, 594, 376, 377, 20, 378, 379, 58, 59, 380, 292, 293, 294, 121, 381, 382, 383, 384, 188, 189, 190, 385, 213, 214, 215, 116, 595, 536, 537, 40, 538, 91, 539, 540, 123, 124, 125, 541, 288, 289, 290, 542, 543, 544, 545, 546, 547, 548, 549, 550, 551, 552, 553, 554, 555, 556, 557, 558, 559, 596, 330, 331, 16, 332, 328, 597, 427, 28, 428, 598, 599, 600, 601, 602, 603, 604, 605, 100, 606, 607, 325, 326, 327, 608, 609, 610, 611, 612, 464, 465, 466, 467, 468, 469, 470, 613, 472, 473, 474, 54, 614, 615, 616, 617, 618, 619, 355, 356, 357, 620, 387, 388, 389, 390, 391, 392, 393, 394, 395, 621, 622, 623, 624, 625, 626, 627, 628, 343, 344, 345, 910, 911, 912, 913, 914, 915, 916, 917, 918, 919, 920, 982, 983, 984, 985, 986, 987, 973, 974, 975, 976, 977, 978, 953, 954, 955, 970, 971, 972, 951, 952] (by decide +kernel) (by decide +kernel)
set_option maxRecDepth 20000 in
theorem gL_law_X11_greedy : GoodIn wsL_law (wsV RL 86 RX11 yX11_greedy wsX11_greedy) := goodIn_app (goodIn_of _ (by decide +kernel)) ggL_law_X11_greedy
set_option maxRecDepth 20000 in
theorem ggL_law_X12_greedy : GoodIn wsL_law wsX12_greedy := goodIn_r _ [632, 143, 145, 337, 136, 400, 401, 402, 5, 403, 130, 224, 225, 226, 227, 178, 171, 172, 173, 488, 489, 490, 633, 634, 635, 636, 144, 479, 480, 481, 482, 141, 483, 137, 138, 131, 139, 484, 485, 486, 487, 404, 405, 406, 407, 132, 199, 200, 201, 637, 638, 639, 640, 495, 496, 497, 498, 641, 642, 643, 644, 645, 646, 647, 648, 921, 922, 923, 924, 925, 926, 927, 928, 929, 930, 931, 932, 933, 934, 935, 936, 937, 938, 939, 940, 941, 942, 943, 944, 945, 946, 947, 948, 949, 950] (by decide +kernel) (by decide +kernel)
set_option maxRecDepth 20000 in
theorem gL_law_X12_greedy : GoodIn wsL_law (wsV RL 89 RX12 yX12_greedy wsX12_greedy) := goodIn_app (goodIn_of _ (by decide +kernel)) ggL_law_X12_greedy
set_option maxRecDepth 20000 in
theorem ggL_law_X11_cheapest : GoodIn wsL_law wsX11_cheapest := goodIn_r _ [652, 33, 206, 207, 208, 2, 209, 161, 13, 366, 367, 368, 110, 369, 120, 653, 654, 655, 32, 656, 77, 78, 75, 657, 658, 376, 377, 20, 378, 379, 58, 59, 380, 292, 293, 294, 121, 381, 382, 383, 384, 188, 189, 190, 385, 213, 214, 215, 116, 659, 419, 420, 24, 421, 63, 422, 123, 124, 125, 660, 661, 662, 663, 664, 665, 666, 667, 668, 76, 669, 670, 671, 672, 673, 674, 675, 676, 677, 678, 679, 680, 681, 427, 28, 428, 682, 683, 684, 685, 686, 434, 435, 436, 687, 393, 394, 395, 688, 257, 258, 259, 118, 191, 192, 193, 194, 689, 443, 444, 445, 446, 447, 448, 449, 25, 17, 450, 451, 452, 453, 454, 455, 456, 457, 458, 439, 440, 441, 459, 460, 461, 462, 463, 464, 465, 16, 466, 467, 468, 469, 470, 328, 471, 472, 473, 474, 54, 690, 910, 911, 912, 913, 914, 915, 916, 917, 918, 919, 920, 982, 983, 984, 985, 986, 987, 961, 962, 963, 964, 965, 953, 954, 955, 956, 951, 952] (by decide +kernel) (by decide +kernel)
set_option maxRecDepth 20000 in
theorem gL_law_X11_cheapest : GoodIn wsL_law (wsV RL 90 RX11 yX11_cheapest wsX11_cheapest) := goodIn_app (goodIn_of _ (by decide +kernel)) ggL_law_X11_cheapest
set_option maxRecDepth 20000 in
theorem ggL_law_X12_cheapest : GoodIn wsL_law wsX12_cheapest := goodIn_r _ [694, 146, 147, 695, 138, 131, 134, 139, 400, 401, 402, 5, 403, 130, 224, 225, 226, 227, 178, 171, 172, 173, 696, 697, 698, 699, 148, 149, 700, 701, 702, 703, 704, 705, 706, 707, 708, 709, 710, 711, 488, 489, 490, 491, 492, 493, 494, 337, 136, 495, 496, 497, 498, 404, 405, 406, 407, 132, 199, 200, 201, 921, 922, 923, 924, 925, 926, 927, 928, 929, 930, 931, 932, 933, 934, 935, 936, 937, 938, 939, 940, 941, 942, 943, 944, 945, 946, 947, 948, 949, 950] (by decide +kernel) (by decide +kernel)
set_option maxRecDepth 20000 in
theorem gL_law_X12_cheapest : GoodIn wsL_law (wsV RL 93 RX12 yX12_cheapest wsX12_cheapest) := goodIn_app (goodIn_of _ (by decide +kernel)) ggL_law_X12_cheapest
set_option maxRecDepth 20000 in
theorem ggL_law_X11_chance : GoodIn wsL_law wsX11_chance := goodIn_r _ [715, 716, 37, 206, 207, 208, 2, 209, 161, 13, 366, 367, 368, 110, 369, 120, 717, 718, 719, 36, 720, 87, 84, 85, 721, 413, 414, 28, 415, 69, 70, 68, 416, 417, 376, 377, 20, 378, 379, 58, 59, 380, 292, 293, 294, 121, 381, 382, 383, 384, 188, 189, 190, 385, 213, 214, 215, 116, 418, 419, 420, 24, 421, 63, 422, 123, 124, 125, 423, 424, 425, 426, 427, 428, 429, 430, 431, 432, 433, 434, 435, 436, 437, 393, 394, 395, 438, 439, 440, 441, 442, 443, 444, 445, 722, 723, 724, 725, 726, 727, 728, 86, 729, 730, 731, 732, 733, 516, 517, 518, 734, 735, 736, 273, 274, 275, 119, 191, 192, 193, 194, 737, 910, 911, 912, 913, 914, 915, 916, 917, 918, 919, 920, 982, 983, 984, 985, 986, 987, 966, 967, 968, 969, 957, 958, 959, 960, 953, 954, 955, 956] (by decide +kernel) (by decide +kernel)
set_option maxRecDepth 20000 in
theorem gL_law_X11_chance : GoodIn wsL_law (wsV RL 94 RX11 yX11_chance wsX11_chance) := goodIn_app (goodIn_of _ (by decide +kernel)) ggL_law_X11_chance
set_option maxRecDepth 20000 in
theorem ggL_law_X12_chance : GoodIn wsL_law wsX12_chance := goodIn_r _ [741, 742, 130, 150, 151, 131, 135, 400, 401, 402, 5, 403, 224, 225, 226, 227, 178, 171, 172, 173, 743, 744, 745, 404, 405, 406, 407, 132, 199, 200, 201, 921, 922, 923, 924, 925, 926, 927, 928, 929, 930, 931, 932, 933, 934, 935, 936, 937, 938, 939, 940, 941, 942, 943, 944, 945, 946, 947, 948, 949, 950] (by decide +kernel) (by decide +kernel)
set_option maxRecDepth 20000 in
theorem gL_law_X12_chance : GoodIn wsL_law (wsV RL 98 RX12 yX12_chance wsX12_chance) := goodIn_app (goodIn_of _ (by decide +kernel)) ggL_law_X12_chance
set_option maxRecDepth 20000 in
theorem ggL_law_X11_chances : GoodIn wsL_law wsX11_chances := goodIn_r _ [749, 716, 37, 206, 207, 208, 2, 209, 161, 13, 750, 751, 752, 36, 753, 754, 292, 293, 110, 294, 121, 736, 273, 274, 275, 119, 191, 192, 193, 194, 910, 911, 912, 913, 914, 915, 916, 917, 918, 919, 920, 982, 983, 984, 985, 986, 987] (by decide +kernel) (by decide +kernel)
set_option maxRecDepth 20000 in
theorem gL_law_X11_chances : GoodIn wsL_law (wsV RL 99 RX11 yX11_chances wsX11_chances) := goodIn_app (goodIn_of _ (by decide +kernel)) ggL_law_X11_chances
set_option maxRecDepth 20000 in
theorem ggL_law_X12_chances : GoodIn wsL_law wsX12_chances := goodIn_r _ [758, 742, 131, 135, 224, 225, 226, 5, 227, 178, 171, 172, 173, 743, 744, 745, 921, 922, 923, 924, 925, 926, 927, 928, 929, 930, 931, 932, 933, 934, 935, 936, 937, 938, 939, 940, 941, 942, 943, 944, 945, 946, 947, 948, 949, 950] (by decide +kernel) (by decide +kernel)
set_option maxRecDepth 20000 in
theorem gL_law_X12_chances : GoodIn wsL_law (wsV RL 103 RX12 yX12_chances wsX12_chances) := goodIn_app (goodIn_of _ (by decide +kernel)) ggL_law_X12_chances
set_option maxRecDepth 20000 in
theorem ggL_law_X11_kinds : GoodIn wsL_law wsX11_kinds := goodIn_r _ [762, 206, 207, 208, 2, 209, 161, 13, 295, 296, 297, 110, 298, 120, 121, 299, 213, 214, 215, 116, 763, 764, 765, 766, 767, 768, 769, 770, 288, 289, 290, 771, 772, 773, 774, 292, 293, 294, 775, 776, 777, 778, 779, 780, 781, 782, 783, 784, 785, 520, 521, 522, 523, 524, 525, 786, 787, 788, 789, 790, 791, 910, 911, 912, 913, 914, 915, 916, 917, 918, 919, 920, 982, 983, 984, 985, 986, 987] (by decide +kernel) (by decide +kernel)
set_option maxRecDepth 20000 in
theorem gL_law_X11_kinds : GoodIn wsL_law (wsV RL 104 RX11 yX11_kinds wsX11_kinds) := goodIn_app (goodIn_of _ (by decide +kernel)) ggL_law_X11_kinds
set_option maxRecDepth 20000 in
theorem ggL_law_X12_kinds : GoodIn wsL_law wsX12_kinds := goodIn_r _ [795, 130, 131, 132, 224, 225, 226, 5, 227, 178, 171, 172, 173, 308, 309, 310, 311, 199, 200, 201, 796, 797, 798, 799, 404, 405, 406, 407, 800, 801, 802, 803, 921, 922, 923, 924, 925, 926, 927, 928, 929, 930, 931, 932, 933, 934, 935, 936, 937, 938, 939, 940, 941, 942, 943, 944, 945, 946, 947, 948, 949, 950] (by decide +kernel) (by decide +kernel)
set_option maxRecDepth 20000 in
theorem gL_law_X12_kinds : GoodIn wsL_law (wsV RL 107 RX12 yX12_kinds wsX12_kinds) := goodIn_app (goodIn_of _ (by decide +kernel)) ggL_law_X12_kinds
set_option maxRecDepth 20000 in
theorem ggL_law_X11_colour : GoodIn wsL_law wsX11_colour := goodIn_r _ [807, 49, 206, 207, 208, 2, 209, 161, 13, 295, 296, 297, 110, 298, 120, 121, 299, 213, 214, 215, 116, 808, 809, 810, 48, 811, 106, 812, 123, 124, 125, 813, 288, 289, 290, 814, 815, 816, 817, 111, 818, 292, 293, 294, 819, 820, 821, 822, 823, 824, 825, 826, 827, 828, 184, 185, 186, 187, 188, 189, 190, 191, 192, 193, 194, 829, 830, 831, 832, 107, 833, 834, 835, 836, 837, 838, 839, 840, 841, 842, 843, 844, 845, 846, 847, 848, 849, 850, 851, 852, 853, 854, 910, 911, 912, 913, 914, 915, 916, 917, 918, 919, 920, 982, 983, 984, 985, 986, 987, 979, 980, 981] (by decide +kernel) (by decide +kernel)
set_option maxRecDepth 20000 in
theorem gL_law_X11_colour : GoodIn wsL_law (wsV RL 108 RX11 yX11_colour wsX11_colour) := goodIn_app (goodIn_of _ (by decide +kernel)) ggL_law_X11_colour
set_option maxRecDepth 20000 in
theorem ggL_law_X12_colour : GoodIn wsL_law wsX12_colour := goodIn_r _ [858, 130, 131, 152, 153, 132, 224, 225, 226, 5, 227, 178, 171, 172, 173, 308, 309, 310, 311, 199, 200, 201, 577, 578, 579, 580, 142, 581, 582, 583, 584, 859, 860, 861, 862, 154, 863, 864, 865, 866, 921, 922, 923, 924, 925, 926, 927, 928, 929, 930, 931, 932, 933, 934, 935, 936, 937, 938, 939, 940, 941, 942, 943, 944, 945, 946, 947, 948, 949, 950] (by decide +kernel) (by decide +kernel)
set_option maxRecDepth 20000 in
theorem gL_law_X12_colour : GoodIn wsL_law (wsV RL 111 RX12 yX12_colour wsX12_colour) := goodIn_app (goodIn_of _ (by decide +kernel)) ggL_law_X12_colour
set_option maxRecDepth 20000 in
theorem ggL_law_X11_apart : GoodIn wsL_law wsX11_apart := goodIn_r _ [870, 41, 206, 207, 208, 2, 209, 161, 13, 210, 188, 189, 110, 190, 120, 871, 872, 873, 40, 874, 91, 92, 540, 123, 124, 125, 542, 543, 544, 545, 875, 241, 242, 243, 117, 187, 550, 551, 552, 553, 876, 877, 878, 879, 558, 292, 293, 294, 121, 559, 213, 214, 215, 116, 910, 911, 912, 913, 914, 915, 916, 917, 918, 919, 920, 982, 983, 984, 985, 986, 987, 970, 971, 972] (by decide +kernel) (by decide +kernel)
set_option maxRecDepth 20000 in
theorem gL_law_X11_apart : GoodIn wsL_law (wsV RL 112 RX11 yX11_apart wsX11_apart) := goodIn_app (goodIn_of _ (by decide +kernel)) ggL_law_X11_apart
set_option maxRecDepth 20000 in
theorem ggL_law_X12_apart : GoodIn wsL_law wsX12_apart := goodIn_r _ [883, 156, 155, 133, 131, 132, 220, 221, 222, 5, 223, 130, 224, 225, 226, 227, 178, 171, 172, 173, 199, 200, 201, 921, 922, 923, 924, 925, 926, 927, 928, 929, 930, 931, 932, 933, 934, 935, 936, 937, 938, 939, 940, 941, 942, 943, 944, 945, 946, 947, 948, 949, 950] (by decide +kernel) (by decide +kernel)
set_option maxRecDepth 20000 in
theorem gL_law_X12_apart : GoodIn wsL_law (wsV RL 115 RX12 yX12_apart wsX12_apart) := goodIn_app (goodIn_of _ (by decide +kernel)) ggL_law_X12_apart
set_option maxRecDepth 20000 in
theorem ggL_law_X11_count : GoodIn wsL_law wsX11_count := goodIn_r _ [887, 161, 17, 324, 325, 326, 16, 327, 328, 910, 911, 912, 913, 914, 915, 916, 917, 918, 919, 920, 951, 952] (by decide +kernel) (by decide +kernel)
set_option maxRecDepth 20000 in
theorem gL_law_X11_count : GoodIn wsL_law (wsV RL 116 RX11 yX11_count wsX11_count) := goodIn_app (goodIn_of _ (by decide +kernel)) ggL_law_X11_count
set_option maxRecDepth 20000 in
theorem ggL_law_X12_count : GoodIn wsL_law wsX12_count := goodIn_r _ [891, 178, 337, 921, 922, 923, 924, 925, 926, 927, 928, 929, 930, 931, 932, 933, 934, 935, 936, 937, 938, 939, 940, 941, 942, 943, 944, 945, 946, 947, 948, 949, 950] (by decide +kernel) (by decide +kernel)
set_option maxRecDepth 20000 in
theorem gL_law_X12_count : GoodIn wsL_law (wsV RL 119 RX12 yX12_count wsX12_count) := goodIn_app (goodIn_of _ (by decide +kernel)) ggL_law_X12_count
set_option maxRecDepth 20000 in
theorem ggL_law_X11_digest : GoodIn wsL_law wsX11_digest := goodIn_r _ [895, 896, 161, 13, 897, 17, 898, 899, 2, 900, 284, 285, 286, 287, 288, 289, 110, 290, 120, 291, 292, 293, 294, 121, 295, 296, 297, 298, 299, 213, 214, 215, 116, 212, 901, 241, 242, 243, 117, 187, 188, 189, 190, 902, 257, 258, 259, 118, 191, 192, 193, 194, 903, 273, 274, 275, 119, 324, 325, 326, 16, 327, 328, 354, 355, 356, 357, 54, 910, 911, 912, 913, 914, 915, 916, 917, 918, 919, 920, 982, 983, 984, 985, 986, 987, 951, 952] (by decide +kernel) (by decide +kernel)
set_option maxRecDepth 20000 in
theorem gL_law_X11_digest : GoodIn wsL_law (wsV RL 120 RX11 yX11_digest wsX11_digest) := goodIn_app (goodIn_of _ (by decide +kernel)) ggL_law_X11_digest
set_option maxRecDepth 20000 in
theorem ggL_law_X12_digest : GoodIn wsL_law wsX12_digest := goodIn_r _ [907, 908, 178, 909, 130, 131, 132, 133, 134, 135, 337, 136, 304, 305, 306, 5, 307, 308, 309, 310, 311, 199, 200, 201, 921, 922, 923, 924, 925, 926, 927, 928, 929, 930, 931, 932, 933, 934, 935, 936, 937, 938, 939, 940, 941, 942, 943, 944, 945, 946, 947, 948, 949, 950] (by decide +kernel) (by decide +kernel)
set_option maxRecDepth 20000 in
theorem gL_law_X12_digest : GoodIn wsL_law (wsV RL 124 RX12 yX12_digest wsX12_digest) := goodIn_app (goodIn_of _ (by decide +kernel)) ggL_law_X12_digest
theorem dL_law_0 : decode cL_law 0 = .ok (.new 7, 3) := by decide +kernel
theorem dL_law_3 : decode cL_law 3 = .ok (.dup, 1) := by decide +kernel
theorem dL_law_4 : decode cL_law 4 = .ok (.invokespecial 9, 3) := by decide +kernel
theorem dL_law_7 : decode cL_law 7 = .ok (.astore_n 1, 1) := by decide +kernel
theorem dL_law_8 : decode cL_law 8 = .ok (.new 10, 3) := by decide +kernel
theorem dL_law_11 : decode cL_law 11 = .ok (.dup, 1) := by decide +kernel
theorem dL_law_12 : decode cL_law 12 = .ok (.invokespecial 12, 3) := by decide +kernel
theorem dL_law_15 : decode cL_law 15 = .ok (.astore_n 2, 1) := by decide +kernel
theorem dL_law_16 : decode cL_law 16 = .ok (.iconst 0, 1) := by decide +kernel
theorem dL_law_17 : decode cL_law 17 = .ok (.istore_n 3, 1) := by decide +kernel
theorem dL_law_18 : decode cL_law 18 = .ok (.iload_n 3, 1) := by decide +kernel
theorem dL_law_19 : decode cL_law 19 = .ok (.aload_n 0, 1) := by decide +kernel
theorem dL_law_20 : decode cL_law 20 = .ok (.arraylength, 1) := by decide +kernel
theorem dL_law_21 : decode cL_law 21 = .ok (.iconst 5, 1) := by decide +kernel
theorem dL_law_22 : decode cL_law 22 = .ok (.isub, 1) := by decide +kernel
theorem dL_law_23 : decode cL_law 23 = .ok (.if_icmp .gt 986, 3) := by decide +kernel
theorem dL_law_26 : decode cL_law 26 = .ok (.aload_n 0, 1) := by decide +kernel
theorem dL_law_27 : decode cL_law 27 = .ok (.iload_n 3, 1) := by decide +kernel
theorem dL_law_28 : decode cL_law 28 = .ok (.iaload, 1) := by decide +kernel
theorem dL_law_29 : decode cL_law 29 = .ok (.bipush 31, 2) := by decide +kernel
theorem dL_law_31 : decode cL_law 31 = .ok (.iand, 1) := by decide +kernel
theorem dL_law_32 : decode cL_law 32 = .ok (.tableswitch 971 0 25 #[120, 153, 176, 229, 272, 315, 358, 391, 434, 447, 470, 493, 526, 559, 602, 635, 678, 701, 734, 767, 811, 845, 868, 891, 934, 957], 120) := by decide +kernel
theorem dL_law_152 : decode cL_law 152 = .ok (.aload_n 1, 1) := by decide +kernel
theorem dL_law_153 : decode cL_law 153 = .ok (.aload_n 0, 1) := by decide +kernel
theorem dL_law_154 : decode cL_law 154 = .ok (.iload_n 3, 1) := by decide +kernel
theorem dL_law_155 : decode cL_law 155 = .ok (.iconst 1, 1) := by decide +kernel
theorem dL_law_156 : decode cL_law 156 = .ok (.iadd, 1) := by decide +kernel
theorem dL_law_157 : decode cL_law 157 = .ok (.iaload, 1) := by decide +kernel
theorem dL_law_158 : decode cL_law 158 = .ok (.aload_n 0, 1) := by decide +kernel
theorem dL_law_159 : decode cL_law 159 = .ok (.iload_n 3, 1) := by decide +kernel
theorem dL_law_160 : decode cL_law 160 = .ok (.iconst 2, 1) := by decide +kernel
theorem dL_law_161 : decode cL_law 161 = .ok (.iadd, 1) := by decide +kernel
theorem dL_law_162 : decode cL_law 162 = .ok (.iaload, 1) := by decide +kernel
theorem dL_law_163 : decode cL_law 163 = .ok (.invokevirtual 13, 3) := by decide +kernel
theorem dL_law_166 : decode cL_law 166 = .ok (.aload_n 2, 1) := by decide +kernel
theorem dL_law_167 : decode cL_law 167 = .ok (.aload_n 0, 1) := by decide +kernel
theorem dL_law_168 : decode cL_law 168 = .ok (.iload_n 3, 1) := by decide +kernel
theorem dL_law_169 : decode cL_law 169 = .ok (.iconst 1, 1) := by decide +kernel
theorem dL_law_170 : decode cL_law 170 = .ok (.iadd, 1) := by decide +kernel
theorem dL_law_171 : decode cL_law 171 = .ok (.iaload, 1) := by decide +kernel
theorem dL_law_172 : decode cL_law 172 = .ok (.aload_n 0, 1) := by decide +kernel
theorem dL_law_173 : decode cL_law 173 = .ok (.iload_n 3, 1) := by decide +kernel
theorem dL_law_174 : decode cL_law 174 = .ok (.iconst 2, 1) := by decide +kernel
theorem dL_law_175 : decode cL_law 175 = .ok (.iadd, 1) := by decide +kernel
theorem dL_law_176 : decode cL_law 176 = .ok (.iaload, 1) := by decide +kernel
theorem dL_law_177 : decode cL_law 177 = .ok (.invokevirtual 17, 3) := by decide +kernel
theorem dL_law_180 : decode cL_law 180 = .ok (.if_icmp .eq 823, 3) := by decide +kernel
theorem dL_law_183 : decode cL_law 183 = .ok (.iconst 0, 1) := by decide +kernel
theorem dL_law_184 : decode cL_law 184 = .ok (.ireturn, 1) := by decide +kernel
theorem dL_law_185 : decode cL_law 185 = .ok (.aload_n 1, 1) := by decide +kernel
theorem dL_law_186 : decode cL_law 186 = .ok (.aload_n 0, 1) := by decide +kernel
theorem dL_law_187 : decode cL_law 187 = .ok (.iload_n 3, 1) := by decide +kernel
theorem dL_law_188 : decode cL_law 188 = .ok (.iconst 1, 1) := by decide +kernel
theorem dL_law_189 : decode cL_law 189 = .ok (.iadd, 1) := by decide +kernel
theorem dL_law_190 : decode cL_law 190 = .ok (.iaload, 1) := by decide +kernel
theorem dL_law_191 : decode cL_law 191 = .ok (.invokevirtual 18, 3) := by decide +kernel
theorem dL_law_194 : decode cL_law 194 = .ok (.aload_n 2, 1) := by decide +kernel
theorem dL_law_195 : decode cL_law 195 = .ok (.aload_n 0, 1) := by decide +kernel
theorem dL_law_196 : decode cL_law 196 = .ok (.iload_n 3, 1) := by decide +kernel
theorem dL_law_197 : decode cL_law 197 = .ok (.iconst 1, 1) := by decide +kernel
theorem dL_law_198 : decode cL_law 198 = .ok (.iadd, 1) := by decide +kernel
theorem dL_law_199 : decode cL_law 199 = .ok (.iaload, 1) := by decide +kernel
theorem dL_law_200 : decode cL_law 200 = .ok (.invokevirtual 22, 3) := by decide +kernel
theorem dL_law_203 : decode cL_law 203 = .ok (.if_icmp .eq 800, 3) := by decide +kernel
theorem dL_law_206 : decode cL_law 206 = .ok (.iconst 0, 1) := by decide +kernel
theorem dL_law_207 : decode cL_law 207 = .ok (.ireturn, 1) := by decide +kernel
theorem dL_law_208 : decode cL_law 208 = .ok (.aload_n 1, 1) := by decide +kernel
theorem dL_law_209 : decode cL_law 209 = .ok (.aload_n 0, 1) := by decide +kernel
theorem dL_law_210 : decode cL_law 210 = .ok (.iload_n 3, 1) := by decide +kernel
theorem dL_law_211 : decode cL_law 211 = .ok (.iconst 1, 1) := by decide +kernel
theorem dL_law_212 : decode cL_law 212 = .ok (.iadd, 1) := by decide +kernel
theorem dL_law_213 : decode cL_law 213 = .ok (.iaload, 1) := by decide +kernel
theorem dL_law_214 : decode cL_law 214 = .ok (.aload_n 0, 1) := by decide +kernel
theorem dL_law_215 : decode cL_law 215 = .ok (.iload_n 3, 1) := by decide +kernel
theorem dL_law_216 : decode cL_law 216 = .ok (.iconst 2, 1) := by decide +kernel
theorem dL_law_217 : decode cL_law 217 = .ok (.iadd, 1) := by decide +kernel
theorem dL_law_218 : decode cL_law 218 = .ok (.iaload, 1) := by decide +kernel
theorem dL_law_219 : decode cL_law 219 = .ok (.aload_n 0, 1) := by decide +kernel
theorem dL_law_220 : decode cL_law 220 = .ok (.iload_n 3, 1) := by decide +kernel
theorem dL_law_221 : decode cL_law 221 = .ok (.iconst 3, 1) := by decide +kernel
theorem dL_law_222 : decode cL_law 222 = .ok (.iadd, 1) := by decide +kernel
theorem dL_law_223 : decode cL_law 223 = .ok (.iaload, 1) := by decide +kernel
theorem dL_law_224 : decode cL_law 224 = .ok (.aload_n 0, 1) := by decide +kernel
theorem dL_law_225 : decode cL_law 225 = .ok (.iload_n 3, 1) := by decide +kernel
theorem dL_law_226 : decode cL_law 226 = .ok (.iconst 4, 1) := by decide +kernel
theorem dL_law_227 : decode cL_law 227 = .ok (.iadd, 1) := by decide +kernel
theorem dL_law_228 : decode cL_law 228 = .ok (.iaload, 1) := by decide +kernel
theorem dL_law_229 : decode cL_law 229 = .ok (.invokevirtual 23, 3) := by decide +kernel
theorem dL_law_232 : decode cL_law 232 = .ok (.aload_n 2, 1) := by decide +kernel
theorem dL_law_233 : decode cL_law 233 = .ok (.aload_n 0, 1) := by decide +kernel
theorem dL_law_234 : decode cL_law 234 = .ok (.iload_n 3, 1) := by decide +kernel
theorem dL_law_235 : decode cL_law 235 = .ok (.iconst 1, 1) := by decide +kernel
theorem dL_law_236 : decode cL_law 236 = .ok (.iadd, 1) := by decide +kernel
theorem dL_law_237 : decode cL_law 237 = .ok (.iaload, 1) := by decide +kernel
theorem dL_law_238 : decode cL_law 238 = .ok (.aload_n 0, 1) := by decide +kernel
theorem dL_law_239 : decode cL_law 239 = .ok (.iload_n 3, 1) := by decide +kernel
theorem dL_law_240 : decode cL_law 240 = .ok (.iconst 2, 1) := by decide +kernel
theorem dL_law_241 : decode cL_law 241 = .ok (.iadd, 1) := by decide +kernel
theorem dL_law_242 : decode cL_law 242 = .ok (.iaload, 1) := by decide +kernel
theorem dL_law_243 : decode cL_law 243 = .ok (.aload_n 0, 1) := by decide +kernel
theorem dL_law_244 : decode cL_law 244 = .ok (.iload_n 3, 1) := by decide +kernel
theorem dL_law_245 : decode cL_law 245 = .ok (.iconst 3, 1) := by decide +kernel
theorem dL_law_246 : decode cL_law 246 = .ok (.iadd, 1) := by decide +kernel
theorem dL_law_247 : decode cL_law 247 = .ok (.iaload, 1) := by decide +kernel
theorem dL_law_248 : decode cL_law 248 = .ok (.aload_n 0, 1) := by decide +kernel
theorem dL_law_249 : decode cL_law 249 = .ok (.iload_n 3, 1) := by decide +kernel
theorem dL_law_250 : decode cL_law 250 = .ok (.iconst 4, 1) := by decide +kernel
theorem dL_law_251 : decode cL_law 251 = .ok (.iadd, 1) := by decide +kernel
theorem dL_law_252 : decode cL_law 252 = .ok (.iaload, 1) := by decide +kernel
theorem dL_law_253 : decode cL_law 253 = .ok (.invokevirtual 27, 3) := by decide +kernel
theorem dL_law_256 : decode cL_law 256 = .ok (.if_icmp .eq 747, 3) := by decide +kernel
theorem dL_law_259 : decode cL_law 259 = .ok (.iconst 0, 1) := by decide +kernel
theorem dL_law_260 : decode cL_law 260 = .ok (.ireturn, 1) := by decide +kernel
theorem dL_law_261 : decode cL_law 261 = .ok (.aload_n 1, 1) := by decide +kernel
theorem dL_law_262 : decode cL_law 262 = .ok (.aload_n 0, 1) := by decide +kernel
theorem dL_law_263 : decode cL_law 263 = .ok (.iload_n 3, 1) := by decide +kernel
theorem dL_law_264 : decode cL_law 264 = .ok (.iconst 1, 1) := by decide +kernel
theorem dL_law_265 : decode cL_law 265 = .ok (.iadd, 1) := by decide +kernel
theorem dL_law_266 : decode cL_law 266 = .ok (.iaload, 1) := by decide +kernel
theorem dL_law_267 : decode cL_law 267 = .ok (.aload_n 0, 1) := by decide +kernel
theorem dL_law_268 : decode cL_law 268 = .ok (.iload_n 3, 1) := by decide +kernel
theorem dL_law_269 : decode cL_law 269 = .ok (.iconst 2, 1) := by decide +kernel
theorem dL_law_270 : decode cL_law 270 = .ok (.iadd, 1) := by decide +kernel
theorem dL_law_271 : decode cL_law 271 = .ok (.iaload, 1) := by decide +kernel
theorem dL_law_272 : decode cL_law 272 = .ok (.aload_n 0, 1) := by decide +kernel
theorem dL_law_273 : decode cL_law 273 = .ok (.iload_n 3, 1) := by decide +kernel
theorem dL_law_274 : decode cL_law 274 = .ok (.iconst 3, 1) := by decide +kernel
theorem dL_law_275 : decode cL_law 275 = .ok (.iadd, 1) := by decide +kernel
theorem dL_law_276 : decode cL_law 276 = .ok (.iaload, 1) := by decide +kernel
theorem dL_law_277 : decode cL_law 277 = .ok (.invokevirtual 28, 3) := by decide +kernel
theorem dL_law_280 : decode cL_law 280 = .ok (.aload_n 2, 1) := by decide +kernel
theorem dL_law_281 : decode cL_law 281 = .ok (.aload_n 0, 1) := by decide +kernel
theorem dL_law_282 : decode cL_law 282 = .ok (.iload_n 3, 1) := by decide +kernel
theorem dL_law_283 : decode cL_law 283 = .ok (.iconst 1, 1) := by decide +kernel
theorem dL_law_284 : decode cL_law 284 = .ok (.iadd, 1) := by decide +kernel
theorem dL_law_285 : decode cL_law 285 = .ok (.iaload, 1) := by decide +kernel
theorem dL_law_286 : decode cL_law 286 = .ok (.aload_n 0, 1) := by decide +kernel
theorem dL_law_287 : decode cL_law 287 = .ok (.iload_n 3, 1) := by decide +kernel
theorem dL_law_288 : decode cL_law 288 = .ok (.iconst 2, 1) := by decide +kernel
theorem dL_law_289 : decode cL_law 289 = .ok (.iadd, 1) := by decide +kernel
theorem dL_law_290 : decode cL_law 290 = .ok (.iaload, 1) := by decide +kernel
theorem dL_law_291 : decode cL_law 291 = .ok (.aload_n 0, 1) := by decide +kernel
theorem dL_law_292 : decode cL_law 292 = .ok (.iload_n 3, 1) := by decide +kernel
theorem dL_law_293 : decode cL_law 293 = .ok (.iconst 3, 1) := by decide +kernel
theorem dL_law_294 : decode cL_law 294 = .ok (.iadd, 1) := by decide +kernel
theorem dL_law_295 : decode cL_law 295 = .ok (.iaload, 1) := by decide +kernel
theorem dL_law_296 : decode cL_law 296 = .ok (.invokevirtual 32, 3) := by decide +kernel
theorem dL_law_299 : decode cL_law 299 = .ok (.if_icmp .eq 704, 3) := by decide +kernel
theorem dL_law_302 : decode cL_law 302 = .ok (.iconst 0, 1) := by decide +kernel
theorem dL_law_303 : decode cL_law 303 = .ok (.ireturn, 1) := by decide +kernel
theorem dL_law_304 : decode cL_law 304 = .ok (.aload_n 1, 1) := by decide +kernel
theorem dL_law_305 : decode cL_law 305 = .ok (.aload_n 0, 1) := by decide +kernel
theorem dL_law_306 : decode cL_law 306 = .ok (.iload_n 3, 1) := by decide +kernel
theorem dL_law_307 : decode cL_law 307 = .ok (.iconst 1, 1) := by decide +kernel
theorem dL_law_308 : decode cL_law 308 = .ok (.iadd, 1) := by decide +kernel
theorem dL_law_309 : decode cL_law 309 = .ok (.iaload, 1) := by decide +kernel
theorem dL_law_310 : decode cL_law 310 = .ok (.aload_n 0, 1) := by decide +kernel
theorem dL_law_311 : decode cL_law 311 = .ok (.iload_n 3, 1) := by decide +kernel
theorem dL_law_312 : decode cL_law 312 = .ok (.iconst 2, 1) := by decide +kernel
theorem dL_law_313 : decode cL_law 313 = .ok (.iadd, 1) := by decide +kernel
theorem dL_law_314 : decode cL_law 314 = .ok (.iaload, 1) := by decide +kernel
theorem dL_law_315 : decode cL_law 315 = .ok (.aload_n 0, 1) := by decide +kernel
theorem dL_law_316 : decode cL_law 316 = .ok (.iload_n 3, 1) := by decide +kernel
theorem dL_law_317 : decode cL_law 317 = .ok (.iconst 3, 1) := by decide +kernel
theorem dL_law_318 : decode cL_law 318 = .ok (.iadd, 1) := by decide +kernel
theorem dL_law_319 : decode cL_law 319 = .ok (.iaload, 1) := by decide +kernel
theorem dL_law_320 : decode cL_law 320 = .ok (.invokevirtual 33, 3) := by decide +kernel
theorem dL_law_323 : decode cL_law 323 = .ok (.aload_n 2, 1) := by decide +kernel
theorem dL_law_324 : decode cL_law 324 = .ok (.aload_n 0, 1) := by decide +kernel
theorem dL_law_325 : decode cL_law 325 = .ok (.iload_n 3, 1) := by decide +kernel
theorem dL_law_326 : decode cL_law 326 = .ok (.iconst 1, 1) := by decide +kernel
theorem dL_law_327 : decode cL_law 327 = .ok (.iadd, 1) := by decide +kernel
theorem dL_law_328 : decode cL_law 328 = .ok (.iaload, 1) := by decide +kernel
theorem dL_law_329 : decode cL_law 329 = .ok (.aload_n 0, 1) := by decide +kernel
theorem dL_law_330 : decode cL_law 330 = .ok (.iload_n 3, 1) := by decide +kernel
theorem dL_law_331 : decode cL_law 331 = .ok (.iconst 2, 1) := by decide +kernel
theorem dL_law_332 : decode cL_law 332 = .ok (.iadd, 1) := by decide +kernel
theorem dL_law_333 : decode cL_law 333 = .ok (.iaload, 1) := by decide +kernel
theorem dL_law_334 : decode cL_law 334 = .ok (.aload_n 0, 1) := by decide +kernel
theorem dL_law_335 : decode cL_law 335 = .ok (.iload_n 3, 1) := by decide +kernel
theorem dL_law_336 : decode cL_law 336 = .ok (.iconst 3, 1) := by decide +kernel
theorem dL_law_337 : decode cL_law 337 = .ok (.iadd, 1) := by decide +kernel
theorem dL_law_338 : decode cL_law 338 = .ok (.iaload, 1) := by decide +kernel
theorem dL_law_339 : decode cL_law 339 = .ok (.invokevirtual 36, 3) := by decide +kernel
theorem dL_law_342 : decode cL_law 342 = .ok (.if_icmp .eq 661, 3) := by decide +kernel
theorem dL_law_345 : decode cL_law 345 = .ok (.iconst 0, 1) := by decide +kernel
theorem dL_law_346 : decode cL_law 346 = .ok (.ireturn, 1) := by decide +kernel
theorem dL_law_347 : decode cL_law 347 = .ok (.aload_n 1, 1) := by decide +kernel
theorem dL_law_348 : decode cL_law 348 = .ok (.aload_n 0, 1) := by decide +kernel
theorem dL_law_349 : decode cL_law 349 = .ok (.iload_n 3, 1) := by decide +kernel
theorem dL_law_350 : decode cL_law 350 = .ok (.iconst 1, 1) := by decide +kernel
theorem dL_law_351 : decode cL_law 351 = .ok (.iadd, 1) := by decide +kernel
theorem dL_law_352 : decode cL_law 352 = .ok (.iaload, 1) := by decide +kernel
theorem dL_law_353 : decode cL_law 353 = .ok (.aload_n 0, 1) := by decide +kernel
theorem dL_law_354 : decode cL_law 354 = .ok (.iload_n 3, 1) := by decide +kernel
theorem dL_law_355 : decode cL_law 355 = .ok (.iconst 2, 1) := by decide +kernel
theorem dL_law_356 : decode cL_law 356 = .ok (.iadd, 1) := by decide +kernel
theorem dL_law_357 : decode cL_law 357 = .ok (.iaload, 1) := by decide +kernel
theorem dL_law_358 : decode cL_law 358 = .ok (.aload_n 0, 1) := by decide +kernel
theorem dL_law_359 : decode cL_law 359 = .ok (.iload_n 3, 1) := by decide +kernel
theorem dL_law_360 : decode cL_law 360 = .ok (.iconst 3, 1) := by decide +kernel
theorem dL_law_361 : decode cL_law 361 = .ok (.iadd, 1) := by decide +kernel
theorem dL_law_362 : decode cL_law 362 = .ok (.iaload, 1) := by decide +kernel
theorem dL_law_363 : decode cL_law 363 = .ok (.invokevirtual 37, 3) := by decide +kernel
theorem dL_law_366 : decode cL_law 366 = .ok (.aload_n 2, 1) := by decide +kernel
theorem dL_law_367 : decode cL_law 367 = .ok (.aload_n 0, 1) := by decide +kernel
theorem dL_law_368 : decode cL_law 368 = .ok (.iload_n 3, 1) := by decide +kernel
theorem dL_law_369 : decode cL_law 369 = .ok (.iconst 1, 1) := by decide +kernel
theorem dL_law_370 : decode cL_law 370 = .ok (.iadd, 1) := by decide +kernel
theorem dL_law_371 : decode cL_law 371 = .ok (.iaload, 1) := by decide +kernel
theorem dL_law_372 : decode cL_law 372 = .ok (.aload_n 0, 1) := by decide +kernel
theorem dL_law_373 : decode cL_law 373 = .ok (.iload_n 3, 1) := by decide +kernel
theorem dL_law_374 : decode cL_law 374 = .ok (.iconst 2, 1) := by decide +kernel
theorem dL_law_375 : decode cL_law 375 = .ok (.iadd, 1) := by decide +kernel
theorem dL_law_376 : decode cL_law 376 = .ok (.iaload, 1) := by decide +kernel
theorem dL_law_377 : decode cL_law 377 = .ok (.aload_n 0, 1) := by decide +kernel
theorem dL_law_378 : decode cL_law 378 = .ok (.iload_n 3, 1) := by decide +kernel
theorem dL_law_379 : decode cL_law 379 = .ok (.iconst 3, 1) := by decide +kernel
theorem dL_law_380 : decode cL_law 380 = .ok (.iadd, 1) := by decide +kernel
theorem dL_law_381 : decode cL_law 381 = .ok (.iaload, 1) := by decide +kernel
theorem dL_law_382 : decode cL_law 382 = .ok (.invokevirtual 40, 3) := by decide +kernel
theorem dL_law_385 : decode cL_law 385 = .ok (.if_icmp .eq 618, 3) := by decide +kernel
theorem dL_law_388 : decode cL_law 388 = .ok (.iconst 0, 1) := by decide +kernel
theorem dL_law_389 : decode cL_law 389 = .ok (.ireturn, 1) := by decide +kernel
theorem dL_law_390 : decode cL_law 390 = .ok (.aload_n 1, 1) := by decide +kernel
theorem dL_law_391 : decode cL_law 391 = .ok (.aload_n 0, 1) := by decide +kernel
theorem dL_law_392 : decode cL_law 392 = .ok (.iload_n 3, 1) := by decide +kernel
theorem dL_law_393 : decode cL_law 393 = .ok (.iconst 1, 1) := by decide +kernel
theorem dL_law_394 : decode cL_law 394 = .ok (.iadd, 1) := by decide +kernel
theorem dL_law_395 : decode cL_law 395 = .ok (.iaload, 1) := by decide +kernel
theorem dL_law_396 : decode cL_law 396 = .ok (.aload_n 0, 1) := by decide +kernel
theorem dL_law_397 : decode cL_law 397 = .ok (.iload_n 3, 1) := by decide +kernel
theorem dL_law_398 : decode cL_law 398 = .ok (.iconst 2, 1) := by decide +kernel
theorem dL_law_399 : decode cL_law 399 = .ok (.iadd, 1) := by decide +kernel
theorem dL_law_400 : decode cL_law 400 = .ok (.iaload, 1) := by decide +kernel
theorem dL_law_401 : decode cL_law 401 = .ok (.invokevirtual 41, 3) := by decide +kernel
theorem dL_law_404 : decode cL_law 404 = .ok (.aload_n 2, 1) := by decide +kernel
theorem dL_law_405 : decode cL_law 405 = .ok (.aload_n 0, 1) := by decide +kernel
theorem dL_law_406 : decode cL_law 406 = .ok (.iload_n 3, 1) := by decide +kernel
theorem dL_law_407 : decode cL_law 407 = .ok (.iconst 1, 1) := by decide +kernel
theorem dL_law_408 : decode cL_law 408 = .ok (.iadd, 1) := by decide +kernel
theorem dL_law_409 : decode cL_law 409 = .ok (.iaload, 1) := by decide +kernel
theorem dL_law_410 : decode cL_law 410 = .ok (.aload_n 0, 1) := by decide +kernel
theorem dL_law_411 : decode cL_law 411 = .ok (.iload_n 3, 1) := by decide +kernel
theorem dL_law_412 : decode cL_law 412 = .ok (.iconst 2, 1) := by decide +kernel
theorem dL_law_413 : decode cL_law 413 = .ok (.iadd, 1) := by decide +kernel
theorem dL_law_414 : decode cL_law 414 = .ok (.iaload, 1) := by decide +kernel
theorem dL_law_415 : decode cL_law 415 = .ok (.invokevirtual 44, 3) := by decide +kernel
theorem dL_law_418 : decode cL_law 418 = .ok (.if_icmp .eq 585, 3) := by decide +kernel
theorem dL_law_421 : decode cL_law 421 = .ok (.iconst 0, 1) := by decide +kernel
theorem dL_law_422 : decode cL_law 422 = .ok (.ireturn, 1) := by decide +kernel
theorem dL_law_423 : decode cL_law 423 = .ok (.aload_n 1, 1) := by decide +kernel
theorem dL_law_424 : decode cL_law 424 = .ok (.aload_n 0, 1) := by decide +kernel
theorem dL_law_425 : decode cL_law 425 = .ok (.iload_n 3, 1) := by decide +kernel
theorem dL_law_426 : decode cL_law 426 = .ok (.iconst 1, 1) := by decide +kernel
theorem dL_law_427 : decode cL_law 427 = .ok (.iadd, 1) := by decide +kernel
theorem dL_law_428 : decode cL_law 428 = .ok (.iaload, 1) := by decide +kernel
theorem dL_law_429 : decode cL_law 429 = .ok (.aload_n 0, 1) := by decide +kernel
theorem dL_law_430 : decode cL_law 430 = .ok (.iload_n 3, 1) := by decide +kernel
theorem dL_law_431 : decode cL_law 431 = .ok (.iconst 2, 1) := by decide +kernel
theorem dL_law_432 : decode cL_law 432 = .ok (.iadd, 1) := by decide +kernel
theorem dL_law_433 : decode cL_law 433 = .ok (.iaload, 1) := by decide +kernel
theorem dL_law_434 : decode cL_law 434 = .ok (.aload_n 0, 1) := by decide +kernel
theorem dL_law_435 : decode cL_law 435 = .ok (.iload_n 3, 1) := by decide +kernel
theorem dL_law_436 : decode cL_law 436 = .ok (.iconst 3, 1) := by decide +kernel
theorem dL_law_437 : decode cL_law 437 = .ok (.iadd, 1) := by decide +kernel
theorem dL_law_438 : decode cL_law 438 = .ok (.iaload, 1) := by decide +kernel
theorem dL_law_439 : decode cL_law 439 = .ok (.invokevirtual 45, 3) := by decide +kernel
theorem dL_law_442 : decode cL_law 442 = .ok (.aload_n 2, 1) := by decide +kernel
theorem dL_law_443 : decode cL_law 443 = .ok (.aload_n 0, 1) := by decide +kernel
theorem dL_law_444 : decode cL_law 444 = .ok (.iload_n 3, 1) := by decide +kernel
theorem dL_law_445 : decode cL_law 445 = .ok (.iconst 1, 1) := by decide +kernel
theorem dL_law_446 : decode cL_law 446 = .ok (.iadd, 1) := by decide +kernel
theorem dL_law_447 : decode cL_law 447 = .ok (.iaload, 1) := by decide +kernel
theorem dL_law_448 : decode cL_law 448 = .ok (.aload_n 0, 1) := by decide +kernel
theorem dL_law_449 : decode cL_law 449 = .ok (.iload_n 3, 1) := by decide +kernel
theorem dL_law_450 : decode cL_law 450 = .ok (.iconst 2, 1) := by decide +kernel
theorem dL_law_451 : decode cL_law 451 = .ok (.iadd, 1) := by decide +kernel
theorem dL_law_452 : decode cL_law 452 = .ok (.iaload, 1) := by decide +kernel
theorem dL_law_453 : decode cL_law 453 = .ok (.aload_n 0, 1) := by decide +kernel
theorem dL_law_454 : decode cL_law 454 = .ok (.iload_n 3, 1) := by decide +kernel
theorem dL_law_455 : decode cL_law 455 = .ok (.iconst 3, 1) := by decide +kernel
theorem dL_law_456 : decode cL_law 456 = .ok (.iadd, 1) := by decide +kernel
theorem dL_law_457 : decode cL_law 457 = .ok (.iaload, 1) := by decide +kernel
theorem dL_law_458 : decode cL_law 458 = .ok (.invokevirtual 48, 3) := by decide +kernel
theorem dL_law_461 : decode cL_law 461 = .ok (.if_icmp .eq 542, 3) := by decide +kernel
theorem dL_law_464 : decode cL_law 464 = .ok (.iconst 0, 1) := by decide +kernel
theorem dL_law_465 : decode cL_law 465 = .ok (.ireturn, 1) := by decide +kernel
theorem dL_law_466 : decode cL_law 466 = .ok (.aload_n 1, 1) := by decide +kernel
theorem dL_law_467 : decode cL_law 467 = .ok (.invokevirtual 49, 3) := by decide +kernel
theorem dL_law_470 : decode cL_law 470 = .ok (.aload_n 2, 1) := by decide +kernel
theorem dL_law_471 : decode cL_law 471 = .ok (.invokevirtual 53, 3) := by decide +kernel
theorem dL_law_474 : decode cL_law 474 = .ok (.if_icmp .eq 529, 3) := by decide +kernel
theorem dL_law_477 : decode cL_law 477 = .ok (.iconst 0, 1) := by decide +kernel
theorem dL_law_478 : decode cL_law 478 = .ok (.ireturn, 1) := by decide +kernel
theorem dL_law_479 : decode cL_law 479 = .ok (.aload_n 1, 1) := by decide +kernel
theorem dL_law_480 : decode cL_law 480 = .ok (.aload_n 0, 1) := by decide +kernel
theorem dL_law_481 : decode cL_law 481 = .ok (.iload_n 3, 1) := by decide +kernel
theorem dL_law_482 : decode cL_law 482 = .ok (.iconst 1, 1) := by decide +kernel
theorem dL_law_483 : decode cL_law 483 = .ok (.iadd, 1) := by decide +kernel
theorem dL_law_484 : decode cL_law 484 = .ok (.iaload, 1) := by decide +kernel
theorem dL_law_485 : decode cL_law 485 = .ok (.invokevirtual 54, 3) := by decide +kernel
theorem dL_law_488 : decode cL_law 488 = .ok (.aload_n 2, 1) := by decide +kernel
theorem dL_law_489 : decode cL_law 489 = .ok (.aload_n 0, 1) := by decide +kernel
theorem dL_law_490 : decode cL_law 490 = .ok (.iload_n 3, 1) := by decide +kernel
theorem dL_law_491 : decode cL_law 491 = .ok (.iconst 1, 1) := by decide +kernel
theorem dL_law_492 : decode cL_law 492 = .ok (.iadd, 1) := by decide +kernel
theorem dL_law_493 : decode cL_law 493 = .ok (.iaload, 1) := by decide +kernel
theorem dL_law_494 : decode cL_law 494 = .ok (.invokevirtual 57, 3) := by decide +kernel
theorem dL_law_497 : decode cL_law 497 = .ok (.if_icmp .eq 506, 3) := by decide +kernel
theorem dL_law_500 : decode cL_law 500 = .ok (.iconst 0, 1) := by decide +kernel
theorem dL_law_501 : decode cL_law 501 = .ok (.ireturn, 1) := by decide +kernel
theorem dL_law_502 : decode cL_law 502 = .ok (.aload_n 1, 1) := by decide +kernel
theorem dL_law_503 : decode cL_law 503 = .ok (.aload_n 0, 1) := by decide +kernel
theorem dL_law_504 : decode cL_law 504 = .ok (.iload_n 3, 1) := by decide +kernel
theorem dL_law_505 : decode cL_law 505 = .ok (.iconst 1, 1) := by decide +kernel
theorem dL_law_506 : decode cL_law 506 = .ok (.iadd, 1) := by decide +kernel
theorem dL_law_507 : decode cL_law 507 = .ok (.iaload, 1) := by decide +kernel
theorem dL_law_508 : decode cL_law 508 = .ok (.invokevirtual 58, 3) := by decide +kernel
theorem dL_law_511 : decode cL_law 511 = .ok (.aload_n 2, 1) := by decide +kernel
theorem dL_law_512 : decode cL_law 512 = .ok (.aload_n 0, 1) := by decide +kernel
theorem dL_law_513 : decode cL_law 513 = .ok (.iload_n 3, 1) := by decide +kernel
theorem dL_law_514 : decode cL_law 514 = .ok (.iconst 1, 1) := by decide +kernel
theorem dL_law_515 : decode cL_law 515 = .ok (.iadd, 1) := by decide +kernel
theorem dL_law_516 : decode cL_law 516 = .ok (.iaload, 1) := by decide +kernel
theorem dL_law_517 : decode cL_law 517 = .ok (.invokevirtual 61, 3) := by decide +kernel
theorem dL_law_520 : decode cL_law 520 = .ok (.if_icmp .eq 483, 3) := by decide +kernel
theorem dL_law_523 : decode cL_law 523 = .ok (.iconst 0, 1) := by decide +kernel
theorem dL_law_524 : decode cL_law 524 = .ok (.ireturn, 1) := by decide +kernel
theorem dL_law_525 : decode cL_law 525 = .ok (.aload_n 1, 1) := by decide +kernel
theorem dL_law_526 : decode cL_law 526 = .ok (.aload_n 0, 1) := by decide +kernel
theorem dL_law_527 : decode cL_law 527 = .ok (.iload_n 3, 1) := by decide +kernel
theorem dL_law_528 : decode cL_law 528 = .ok (.iconst 1, 1) := by decide +kernel
theorem dL_law_529 : decode cL_law 529 = .ok (.iadd, 1) := by decide +kernel
theorem dL_law_530 : decode cL_law 530 = .ok (.iaload, 1) := by decide +kernel
theorem dL_law_531 : decode cL_law 531 = .ok (.aload_n 0, 1) := by decide +kernel
theorem dL_law_532 : decode cL_law 532 = .ok (.iload_n 3, 1) := by decide +kernel
theorem dL_law_533 : decode cL_law 533 = .ok (.iconst 2, 1) := by decide +kernel
theorem dL_law_534 : decode cL_law 534 = .ok (.iadd, 1) := by decide +kernel
theorem dL_law_535 : decode cL_law 535 = .ok (.iaload, 1) := by decide +kernel
theorem dL_law_536 : decode cL_law 536 = .ok (.invokevirtual 62, 3) := by decide +kernel
theorem dL_law_539 : decode cL_law 539 = .ok (.aload_n 2, 1) := by decide +kernel
theorem dL_law_540 : decode cL_law 540 = .ok (.aload_n 0, 1) := by decide +kernel
theorem dL_law_541 : decode cL_law 541 = .ok (.iload_n 3, 1) := by decide +kernel
theorem dL_law_542 : decode cL_law 542 = .ok (.iconst 1, 1) := by decide +kernel
theorem dL_law_543 : decode cL_law 543 = .ok (.iadd, 1) := by decide +kernel
theorem dL_law_544 : decode cL_law 544 = .ok (.iaload, 1) := by decide +kernel
theorem dL_law_545 : decode cL_law 545 = .ok (.aload_n 0, 1) := by decide +kernel
theorem dL_law_546 : decode cL_law 546 = .ok (.iload_n 3, 1) := by decide +kernel
theorem dL_law_547 : decode cL_law 547 = .ok (.iconst 2, 1) := by decide +kernel
theorem dL_law_548 : decode cL_law 548 = .ok (.iadd, 1) := by decide +kernel
theorem dL_law_549 : decode cL_law 549 = .ok (.iaload, 1) := by decide +kernel
theorem dL_law_550 : decode cL_law 550 = .ok (.invokevirtual 65, 3) := by decide +kernel
theorem dL_law_553 : decode cL_law 553 = .ok (.if_icmp .eq 450, 3) := by decide +kernel
theorem dL_law_556 : decode cL_law 556 = .ok (.iconst 0, 1) := by decide +kernel
theorem dL_law_557 : decode cL_law 557 = .ok (.ireturn, 1) := by decide +kernel
theorem dL_law_558 : decode cL_law 558 = .ok (.aload_n 1, 1) := by decide +kernel
theorem dL_law_559 : decode cL_law 559 = .ok (.aload_n 0, 1) := by decide +kernel
theorem dL_law_560 : decode cL_law 560 = .ok (.iload_n 3, 1) := by decide +kernel
theorem dL_law_561 : decode cL_law 561 = .ok (.iconst 1, 1) := by decide +kernel
theorem dL_law_562 : decode cL_law 562 = .ok (.iadd, 1) := by decide +kernel
theorem dL_law_563 : decode cL_law 563 = .ok (.iaload, 1) := by decide +kernel
theorem dL_law_564 : decode cL_law 564 = .ok (.aload_n 0, 1) := by decide +kernel
theorem dL_law_565 : decode cL_law 565 = .ok (.iload_n 3, 1) := by decide +kernel
theorem dL_law_566 : decode cL_law 566 = .ok (.iconst 2, 1) := by decide +kernel
theorem dL_law_567 : decode cL_law 567 = .ok (.iadd, 1) := by decide +kernel
theorem dL_law_568 : decode cL_law 568 = .ok (.iaload, 1) := by decide +kernel
theorem dL_law_569 : decode cL_law 569 = .ok (.invokevirtual 66, 3) := by decide +kernel
theorem dL_law_572 : decode cL_law 572 = .ok (.aload_n 2, 1) := by decide +kernel
theorem dL_law_573 : decode cL_law 573 = .ok (.aload_n 0, 1) := by decide +kernel
theorem dL_law_574 : decode cL_law 574 = .ok (.iload_n 3, 1) := by decide +kernel
theorem dL_law_575 : decode cL_law 575 = .ok (.iconst 1, 1) := by decide +kernel
theorem dL_law_576 : decode cL_law 576 = .ok (.iadd, 1) := by decide +kernel
theorem dL_law_577 : decode cL_law 577 = .ok (.iaload, 1) := by decide +kernel
theorem dL_law_578 : decode cL_law 578 = .ok (.aload_n 0, 1) := by decide +kernel
theorem dL_law_579 : decode cL_law 579 = .ok (.iload_n 3, 1) := by decide +kernel
theorem dL_law_580 : decode cL_law 580 = .ok (.iconst 2, 1) := by decide +kernel
theorem dL_law_581 : decode cL_law 581 = .ok (.iadd, 1) := by decide +kernel
theorem dL_law_582 : decode cL_law 582 = .ok (.iaload, 1) := by decide +kernel
theorem dL_law_583 : decode cL_law 583 = .ok (.invokevirtual 69, 3) := by decide +kernel
theorem dL_law_586 : decode cL_law 586 = .ok (.if_icmp .eq 417, 3) := by decide +kernel
theorem dL_law_589 : decode cL_law 589 = .ok (.iconst 0, 1) := by decide +kernel
theorem dL_law_590 : decode cL_law 590 = .ok (.ireturn, 1) := by decide +kernel
theorem dL_law_591 : decode cL_law 591 = .ok (.aload_n 1, 1) := by decide +kernel
theorem dL_law_592 : decode cL_law 592 = .ok (.aload_n 0, 1) := by decide +kernel
theorem dL_law_593 : decode cL_law 593 = .ok (.iload_n 3, 1) := by decide +kernel
theorem dL_law_594 : decode cL_law 594 = .ok (.iconst 1, 1) := by decide +kernel
theorem dL_law_595 : decode cL_law 595 = .ok (.iadd, 1) := by decide +kernel
theorem dL_law_596 : decode cL_law 596 = .ok (.iaload, 1) := by decide +kernel
theorem dL_law_597 : decode cL_law 597 = .ok (.aload_n 0, 1) := by decide +kernel
theorem dL_law_598 : decode cL_law 598 = .ok (.iload_n 3, 1) := by decide +kernel
theorem dL_law_599 : decode cL_law 599 = .ok (.iconst 2, 1) := by decide +kernel
theorem dL_law_600 : decode cL_law 600 = .ok (.iadd, 1) := by decide +kernel
theorem dL_law_601 : decode cL_law 601 = .ok (.iaload, 1) := by decide +kernel
theorem dL_law_602 : decode cL_law 602 = .ok (.aload_n 0, 1) := by decide +kernel
theorem dL_law_603 : decode cL_law 603 = .ok (.iload_n 3, 1) := by decide +kernel
theorem dL_law_604 : decode cL_law 604 = .ok (.iconst 3, 1) := by decide +kernel
theorem dL_law_605 : decode cL_law 605 = .ok (.iadd, 1) := by decide +kernel
theorem dL_law_606 : decode cL_law 606 = .ok (.iaload, 1) := by decide +kernel
theorem dL_law_607 : decode cL_law 607 = .ok (.invokevirtual 70, 3) := by decide +kernel
theorem dL_law_610 : decode cL_law 610 = .ok (.aload_n 2, 1) := by decide +kernel
theorem dL_law_611 : decode cL_law 611 = .ok (.aload_n 0, 1) := by decide +kernel
theorem dL_law_612 : decode cL_law 612 = .ok (.iload_n 3, 1) := by decide +kernel
theorem dL_law_613 : decode cL_law 613 = .ok (.iconst 1, 1) := by decide +kernel
theorem dL_law_614 : decode cL_law 614 = .ok (.iadd, 1) := by decide +kernel
theorem dL_law_615 : decode cL_law 615 = .ok (.iaload, 1) := by decide +kernel
theorem dL_law_616 : decode cL_law 616 = .ok (.aload_n 0, 1) := by decide +kernel
theorem dL_law_617 : decode cL_law 617 = .ok (.iload_n 3, 1) := by decide +kernel
theorem dL_law_618 : decode cL_law 618 = .ok (.iconst 2, 1) := by decide +kernel
theorem dL_law_619 : decode cL_law 619 = .ok (.iadd, 1) := by decide +kernel
theorem dL_law_620 : decode cL_law 620 = .ok (.iaload, 1) := by decide +kernel
theorem dL_law_621 : decode cL_law 621 = .ok (.aload_n 0, 1) := by decide +kernel
theorem dL_law_622 : decode cL_law 622 = .ok (.iload_n 3, 1) := by decide +kernel
theorem dL_law_623 : decode cL_law 623 = .ok (.iconst 3, 1) := by decide +kernel
theorem dL_law_624 : decode cL_law 624 = .ok (.iadd, 1) := by decide +kernel
theorem dL_law_625 : decode cL_law 625 = .ok (.iaload, 1) := by decide +kernel
theorem dL_law_626 : decode cL_law 626 = .ok (.invokevirtual 73, 3) := by decide +kernel
theorem dL_law_629 : decode cL_law 629 = .ok (.if_icmp .eq 374, 3) := by decide +kernel
theorem dL_law_632 : decode cL_law 632 = .ok (.iconst 0, 1) := by decide +kernel
theorem dL_law_633 : decode cL_law 633 = .ok (.ireturn, 1) := by decide +kernel
theorem dL_law_634 : decode cL_law 634 = .ok (.aload_n 1, 1) := by decide +kernel
theorem dL_law_635 : decode cL_law 635 = .ok (.aload_n 0, 1) := by decide +kernel
theorem dL_law_636 : decode cL_law 636 = .ok (.iload_n 3, 1) := by decide +kernel
theorem dL_law_637 : decode cL_law 637 = .ok (.iconst 1, 1) := by decide +kernel
theorem dL_law_638 : decode cL_law 638 = .ok (.iadd, 1) := by decide +kernel
theorem dL_law_639 : decode cL_law 639 = .ok (.iaload, 1) := by decide +kernel
theorem dL_law_640 : decode cL_law 640 = .ok (.aload_n 0, 1) := by decide +kernel
theorem dL_law_641 : decode cL_law 641 = .ok (.iload_n 3, 1) := by decide +kernel
theorem dL_law_642 : decode cL_law 642 = .ok (.iconst 2, 1) := by decide +kernel
theorem dL_law_643 : decode cL_law 643 = .ok (.iadd, 1) := by decide +kernel
theorem dL_law_644 : decode cL_law 644 = .ok (.iaload, 1) := by decide +kernel
theorem dL_law_645 : decode cL_law 645 = .ok (.invokevirtual 74, 3) := by decide +kernel
theorem dL_law_648 : decode cL_law 648 = .ok (.aload_n 2, 1) := by decide +kernel
theorem dL_law_649 : decode cL_law 649 = .ok (.aload_n 0, 1) := by decide +kernel
theorem dL_law_650 : decode cL_law 650 = .ok (.iload_n 3, 1) := by decide +kernel
theorem dL_law_651 : decode cL_law 651 = .ok (.iconst 1, 1) := by decide +kernel
theorem dL_law_652 : decode cL_law 652 = .ok (.iadd, 1) := by decide +kernel
theorem dL_law_653 : decode cL_law 653 = .ok (.iaload, 1) := by decide +kernel
theorem dL_law_654 : decode cL_law 654 = .ok (.aload_n 0, 1) := by decide +kernel
theorem dL_law_655 : decode cL_law 655 = .ok (.iload_n 3, 1) := by decide +kernel
theorem dL_law_656 : decode cL_law 656 = .ok (.iconst 2, 1) := by decide +kernel
theorem dL_law_657 : decode cL_law 657 = .ok (.iadd, 1) := by decide +kernel
theorem dL_law_658 : decode cL_law 658 = .ok (.iaload, 1) := by decide +kernel
theorem dL_law_659 : decode cL_law 659 = .ok (.invokevirtual 77, 3) := by decide +kernel
theorem dL_law_662 : decode cL_law 662 = .ok (.if_icmp .eq 341, 3) := by decide +kernel
theorem dL_law_665 : decode cL_law 665 = .ok (.iconst 0, 1) := by decide +kernel
theorem dL_law_666 : decode cL_law 666 = .ok (.ireturn, 1) := by decide +kernel
theorem dL_law_667 : decode cL_law 667 = .ok (.aload_n 1, 1) := by decide +kernel
theorem dL_law_668 : decode cL_law 668 = .ok (.aload_n 0, 1) := by decide +kernel
theorem dL_law_669 : decode cL_law 669 = .ok (.iload_n 3, 1) := by decide +kernel
theorem dL_law_670 : decode cL_law 670 = .ok (.iconst 1, 1) := by decide +kernel
theorem dL_law_671 : decode cL_law 671 = .ok (.iadd, 1) := by decide +kernel
theorem dL_law_672 : decode cL_law 672 = .ok (.iaload, 1) := by decide +kernel
theorem dL_law_673 : decode cL_law 673 = .ok (.aload_n 0, 1) := by decide +kernel
theorem dL_law_674 : decode cL_law 674 = .ok (.iload_n 3, 1) := by decide +kernel
theorem dL_law_675 : decode cL_law 675 = .ok (.iconst 2, 1) := by decide +kernel
theorem dL_law_676 : decode cL_law 676 = .ok (.iadd, 1) := by decide +kernel
theorem dL_law_677 : decode cL_law 677 = .ok (.iaload, 1) := by decide +kernel
theorem dL_law_678 : decode cL_law 678 = .ok (.aload_n 0, 1) := by decide +kernel
theorem dL_law_679 : decode cL_law 679 = .ok (.iload_n 3, 1) := by decide +kernel
theorem dL_law_680 : decode cL_law 680 = .ok (.iconst 3, 1) := by decide +kernel
theorem dL_law_681 : decode cL_law 681 = .ok (.iadd, 1) := by decide +kernel
theorem dL_law_682 : decode cL_law 682 = .ok (.iaload, 1) := by decide +kernel
theorem dL_law_683 : decode cL_law 683 = .ok (.invokevirtual 78, 3) := by decide +kernel
theorem dL_law_686 : decode cL_law 686 = .ok (.aload_n 2, 1) := by decide +kernel
theorem dL_law_687 : decode cL_law 687 = .ok (.aload_n 0, 1) := by decide +kernel
theorem dL_law_688 : decode cL_law 688 = .ok (.iload_n 3, 1) := by decide +kernel
theorem dL_law_689 : decode cL_law 689 = .ok (.iconst 1, 1) := by decide +kernel
theorem dL_law_690 : decode cL_law 690 = .ok (.iadd, 1) := by decide +kernel
theorem dL_law_691 : decode cL_law 691 = .ok (.iaload, 1) := by decide +kernel
theorem dL_law_692 : decode cL_law 692 = .ok (.aload_n 0, 1) := by decide +kernel
theorem dL_law_693 : decode cL_law 693 = .ok (.iload_n 3, 1) := by decide +kernel
theorem dL_law_694 : decode cL_law 694 = .ok (.iconst 2, 1) := by decide +kernel
theorem dL_law_695 : decode cL_law 695 = .ok (.iadd, 1) := by decide +kernel
theorem dL_law_696 : decode cL_law 696 = .ok (.iaload, 1) := by decide +kernel
theorem dL_law_697 : decode cL_law 697 = .ok (.aload_n 0, 1) := by decide +kernel
theorem dL_law_698 : decode cL_law 698 = .ok (.iload_n 3, 1) := by decide +kernel
theorem dL_law_699 : decode cL_law 699 = .ok (.iconst 3, 1) := by decide +kernel
theorem dL_law_700 : decode cL_law 700 = .ok (.iadd, 1) := by decide +kernel
theorem dL_law_701 : decode cL_law 701 = .ok (.iaload, 1) := by decide +kernel
theorem dL_law_702 : decode cL_law 702 = .ok (.invokevirtual 81, 3) := by decide +kernel
theorem dL_law_705 : decode cL_law 705 = .ok (.if_icmp .eq 298, 3) := by decide +kernel
theorem dL_law_708 : decode cL_law 708 = .ok (.iconst 0, 1) := by decide +kernel
theorem dL_law_709 : decode cL_law 709 = .ok (.ireturn, 1) := by decide +kernel
theorem dL_law_710 : decode cL_law 710 = .ok (.aload_n 1, 1) := by decide +kernel
theorem dL_law_711 : decode cL_law 711 = .ok (.aload_n 0, 1) := by decide +kernel
theorem dL_law_712 : decode cL_law 712 = .ok (.iload_n 3, 1) := by decide +kernel
theorem dL_law_713 : decode cL_law 713 = .ok (.iconst 1, 1) := by decide +kernel
theorem dL_law_714 : decode cL_law 714 = .ok (.iadd, 1) := by decide +kernel
theorem dL_law_715 : decode cL_law 715 = .ok (.iaload, 1) := by decide +kernel
theorem dL_law_716 : decode cL_law 716 = .ok (.invokevirtual 82, 3) := by decide +kernel
theorem dL_law_719 : decode cL_law 719 = .ok (.aload_n 2, 1) := by decide +kernel
theorem dL_law_720 : decode cL_law 720 = .ok (.aload_n 0, 1) := by decide +kernel
theorem dL_law_721 : decode cL_law 721 = .ok (.iload_n 3, 1) := by decide +kernel
theorem dL_law_722 : decode cL_law 722 = .ok (.iconst 1, 1) := by decide +kernel
theorem dL_law_723 : decode cL_law 723 = .ok (.iadd, 1) := by decide +kernel
theorem dL_law_724 : decode cL_law 724 = .ok (.iaload, 1) := by decide +kernel
theorem dL_law_725 : decode cL_law 725 = .ok (.invokevirtual 85, 3) := by decide +kernel
theorem dL_law_728 : decode cL_law 728 = .ok (.if_icmp .eq 275, 3) := by decide +kernel
theorem dL_law_731 : decode cL_law 731 = .ok (.iconst 0, 1) := by decide +kernel
theorem dL_law_732 : decode cL_law 732 = .ok (.ireturn, 1) := by decide +kernel
theorem dL_law_733 : decode cL_law 733 = .ok (.aload_n 1, 1) := by decide +kernel
theorem dL_law_734 : decode cL_law 734 = .ok (.aload_n 0, 1) := by decide +kernel
theorem dL_law_735 : decode cL_law 735 = .ok (.iload_n 3, 1) := by decide +kernel
theorem dL_law_736 : decode cL_law 736 = .ok (.iconst 1, 1) := by decide +kernel
theorem dL_law_737 : decode cL_law 737 = .ok (.iadd, 1) := by decide +kernel
theorem dL_law_738 : decode cL_law 738 = .ok (.iaload, 1) := by decide +kernel
theorem dL_law_739 : decode cL_law 739 = .ok (.aload_n 0, 1) := by decide +kernel
theorem dL_law_740 : decode cL_law 740 = .ok (.iload_n 3, 1) := by decide +kernel
theorem dL_law_741 : decode cL_law 741 = .ok (.iconst 2, 1) := by decide +kernel
theorem dL_law_742 : decode cL_law 742 = .ok (.iadd, 1) := by decide +kernel
theorem dL_law_743 : decode cL_law 743 = .ok (.iaload, 1) := by decide +kernel
theorem dL_law_744 : decode cL_law 744 = .ok (.invokevirtual 86, 3) := by decide +kernel
theorem dL_law_747 : decode cL_law 747 = .ok (.aload_n 2, 1) := by decide +kernel
theorem dL_law_748 : decode cL_law 748 = .ok (.aload_n 0, 1) := by decide +kernel
theorem dL_law_749 : decode cL_law 749 = .ok (.iload_n 3, 1) := by decide +kernel
theorem dL_law_750 : decode cL_law 750 = .ok (.iconst 1, 1) := by decide +kernel
theorem dL_law_751 : decode cL_law 751 = .ok (.iadd, 1) := by decide +kernel
theorem dL_law_752 : decode cL_law 752 = .ok (.iaload, 1) := by decide +kernel
theorem dL_law_753 : decode cL_law 753 = .ok (.aload_n 0, 1) := by decide +kernel
theorem dL_law_754 : decode cL_law 754 = .ok (.iload_n 3, 1) := by decide +kernel
theorem dL_law_755 : decode cL_law 755 = .ok (.iconst 2, 1) := by decide +kernel
theorem dL_law_756 : decode cL_law 756 = .ok (.iadd, 1) := by decide +kernel
theorem dL_law_757 : decode cL_law 757 = .ok (.iaload, 1) := by decide +kernel
theorem dL_law_758 : decode cL_law 758 = .ok (.invokevirtual 89, 3) := by decide +kernel
theorem dL_law_761 : decode cL_law 761 = .ok (.if_icmp .eq 242, 3) := by decide +kernel
theorem dL_law_764 : decode cL_law 764 = .ok (.iconst 0, 1) := by decide +kernel
theorem dL_law_765 : decode cL_law 765 = .ok (.ireturn, 1) := by decide +kernel
theorem dL_law_766 : decode cL_law 766 = .ok (.aload_n 1, 1) := by decide +kernel
theorem dL_law_767 : decode cL_law 767 = .ok (.aload_n 0, 1) := by decide +kernel
theorem dL_law_768 : decode cL_law 768 = .ok (.iload_n 3, 1) := by decide +kernel
theorem dL_law_769 : decode cL_law 769 = .ok (.iconst 1, 1) := by decide +kernel
theorem dL_law_770 : decode cL_law 770 = .ok (.iadd, 1) := by decide +kernel
theorem dL_law_771 : decode cL_law 771 = .ok (.iaload, 1) := by decide +kernel
theorem dL_law_772 : decode cL_law 772 = .ok (.aload_n 0, 1) := by decide +kernel
theorem dL_law_773 : decode cL_law 773 = .ok (.iload_n 3, 1) := by decide +kernel
theorem dL_law_774 : decode cL_law 774 = .ok (.iconst 2, 1) := by decide +kernel
theorem dL_law_775 : decode cL_law 775 = .ok (.iadd, 1) := by decide +kernel
theorem dL_law_776 : decode cL_law 776 = .ok (.iaload, 1) := by decide +kernel
theorem dL_law_777 : decode cL_law 777 = .ok (.invokevirtual 90, 3) := by decide +kernel
theorem dL_law_780 : decode cL_law 780 = .ok (.aload_n 2, 1) := by decide +kernel
theorem dL_law_781 : decode cL_law 781 = .ok (.aload_n 0, 1) := by decide +kernel
theorem dL_law_782 : decode cL_law 782 = .ok (.iload_n 3, 1) := by decide +kernel
theorem dL_law_783 : decode cL_law 783 = .ok (.iconst 1, 1) := by decide +kernel
theorem dL_law_784 : decode cL_law 784 = .ok (.iadd, 1) := by decide +kernel
theorem dL_law_785 : decode cL_law 785 = .ok (.iaload, 1) := by decide +kernel
theorem dL_law_786 : decode cL_law 786 = .ok (.aload_n 0, 1) := by decide +kernel
theorem dL_law_787 : decode cL_law 787 = .ok (.iload_n 3, 1) := by decide +kernel
theorem dL_law_788 : decode cL_law 788 = .ok (.iconst 2, 1) := by decide +kernel
theorem dL_law_789 : decode cL_law 789 = .ok (.iadd, 1) := by decide +kernel
theorem dL_law_790 : decode cL_law 790 = .ok (.iaload, 1) := by decide +kernel
theorem dL_law_791 : decode cL_law 791 = .ok (.invokevirtual 93, 3) := by decide +kernel
theorem dL_law_794 : decode cL_law 794 = .ok (.if_icmp .eq 209, 3) := by decide +kernel
theorem dL_law_797 : decode cL_law 797 = .ok (.iconst 0, 1) := by decide +kernel
theorem dL_law_798 : decode cL_law 798 = .ok (.ireturn, 1) := by decide +kernel
theorem dL_law_799 : decode cL_law 799 = .ok (.aload_n 1, 1) := by decide +kernel
theorem dL_law_800 : decode cL_law 800 = .ok (.aload_n 0, 1) := by decide +kernel
theorem dL_law_801 : decode cL_law 801 = .ok (.iload_n 3, 1) := by decide +kernel
theorem dL_law_802 : decode cL_law 802 = .ok (.iconst 1, 1) := by decide +kernel
theorem dL_law_803 : decode cL_law 803 = .ok (.iadd, 1) := by decide +kernel
theorem dL_law_804 : decode cL_law 804 = .ok (.iaload, 1) := by decide +kernel
theorem dL_law_805 : decode cL_law 805 = .ok (.aload_n 0, 1) := by decide +kernel
theorem dL_law_806 : decode cL_law 806 = .ok (.iload_n 3, 1) := by decide +kernel
theorem dL_law_807 : decode cL_law 807 = .ok (.iconst 2, 1) := by decide +kernel
theorem dL_law_808 : decode cL_law 808 = .ok (.iadd, 1) := by decide +kernel
theorem dL_law_809 : decode cL_law 809 = .ok (.iaload, 1) := by decide +kernel
theorem dL_law_810 : decode cL_law 810 = .ok (.aload_n 0, 1) := by decide +kernel
theorem dL_law_811 : decode cL_law 811 = .ok (.iload_n 3, 1) := by decide +kernel
theorem dL_law_812 : decode cL_law 812 = .ok (.iconst 3, 1) := by decide +kernel
theorem dL_law_813 : decode cL_law 813 = .ok (.iadd, 1) := by decide +kernel
theorem dL_law_814 : decode cL_law 814 = .ok (.iaload, 1) := by decide +kernel
theorem dL_law_815 : decode cL_law 815 = .ok (.invokevirtual 94, 3) := by decide +kernel
theorem dL_law_818 : decode cL_law 818 = .ok (.aload_n 2, 1) := by decide +kernel
theorem dL_law_819 : decode cL_law 819 = .ok (.aload_n 0, 1) := by decide +kernel
theorem dL_law_820 : decode cL_law 820 = .ok (.iload_n 3, 1) := by decide +kernel
theorem dL_law_821 : decode cL_law 821 = .ok (.iconst 1, 1) := by decide +kernel
theorem dL_law_822 : decode cL_law 822 = .ok (.iadd, 1) := by decide +kernel
theorem dL_law_823 : decode cL_law 823 = .ok (.iaload, 1) := by decide +kernel
theorem dL_law_824 : decode cL_law 824 = .ok (.aload_n 0, 1) := by decide +kernel
theorem dL_law_825 : decode cL_law 825 = .ok (.iload_n 3, 1) := by decide +kernel
theorem dL_law_826 : decode cL_law 826 = .ok (.iconst 2, 1) := by decide +kernel
theorem dL_law_827 : decode cL_law 827 = .ok (.iadd, 1) := by decide +kernel
theorem dL_law_828 : decode cL_law 828 = .ok (.iaload, 1) := by decide +kernel
theorem dL_law_829 : decode cL_law 829 = .ok (.aload_n 0, 1) := by decide +kernel
theorem dL_law_830 : decode cL_law 830 = .ok (.iload_n 3, 1) := by decide +kernel
theorem dL_law_831 : decode cL_law 831 = .ok (.iconst 3, 1) := by decide +kernel
theorem dL_law_832 : decode cL_law 832 = .ok (.iadd, 1) := by decide +kernel
theorem dL_law_833 : decode cL_law 833 = .ok (.iaload, 1) := by decide +kernel
theorem dL_law_834 : decode cL_law 834 = .ok (.invokevirtual 98, 3) := by decide +kernel
theorem dL_law_837 : decode cL_law 837 = .ok (.lcmp, 1) := by decide +kernel
theorem dL_law_838 : decode cL_law 838 = .ok (.ifCond .eq 165, 3) := by decide +kernel
theorem dL_law_841 : decode cL_law 841 = .ok (.iconst 0, 1) := by decide +kernel
theorem dL_law_842 : decode cL_law 842 = .ok (.ireturn, 1) := by decide +kernel
theorem dL_law_843 : decode cL_law 843 = .ok (.aload_n 1, 1) := by decide +kernel
theorem dL_law_844 : decode cL_law 844 = .ok (.aload_n 0, 1) := by decide +kernel
theorem dL_law_845 : decode cL_law 845 = .ok (.iload_n 3, 1) := by decide +kernel
theorem dL_law_846 : decode cL_law 846 = .ok (.iconst 1, 1) := by decide +kernel
theorem dL_law_847 : decode cL_law 847 = .ok (.iadd, 1) := by decide +kernel
theorem dL_law_848 : decode cL_law 848 = .ok (.iaload, 1) := by decide +kernel
theorem dL_law_849 : decode cL_law 849 = .ok (.aload_n 0, 1) := by decide +kernel
theorem dL_law_850 : decode cL_law 850 = .ok (.iload_n 3, 1) := by decide +kernel
theorem dL_law_851 : decode cL_law 851 = .ok (.iconst 2, 1) := by decide +kernel
theorem dL_law_852 : decode cL_law 852 = .ok (.iadd, 1) := by decide +kernel
theorem dL_law_853 : decode cL_law 853 = .ok (.iaload, 1) := by decide +kernel
theorem dL_law_854 : decode cL_law 854 = .ok (.invokevirtual 99, 3) := by decide +kernel
theorem dL_law_857 : decode cL_law 857 = .ok (.aload_n 2, 1) := by decide +kernel
theorem dL_law_858 : decode cL_law 858 = .ok (.aload_n 0, 1) := by decide +kernel
theorem dL_law_859 : decode cL_law 859 = .ok (.iload_n 3, 1) := by decide +kernel
theorem dL_law_860 : decode cL_law 860 = .ok (.iconst 1, 1) := by decide +kernel
theorem dL_law_861 : decode cL_law 861 = .ok (.iadd, 1) := by decide +kernel
theorem dL_law_862 : decode cL_law 862 = .ok (.iaload, 1) := by decide +kernel
theorem dL_law_863 : decode cL_law 863 = .ok (.aload_n 0, 1) := by decide +kernel
theorem dL_law_864 : decode cL_law 864 = .ok (.iload_n 3, 1) := by decide +kernel
theorem dL_law_865 : decode cL_law 865 = .ok (.iconst 2, 1) := by decide +kernel
theorem dL_law_866 : decode cL_law 866 = .ok (.iadd, 1) := by decide +kernel
theorem dL_law_867 : decode cL_law 867 = .ok (.iaload, 1) := by decide +kernel
theorem dL_law_868 : decode cL_law 868 = .ok (.invokevirtual 103, 3) := by decide +kernel
theorem dL_law_871 : decode cL_law 871 = .ok (.lcmp, 1) := by decide +kernel
theorem dL_law_872 : decode cL_law 872 = .ok (.ifCond .eq 131, 3) := by decide +kernel
theorem dL_law_875 : decode cL_law 875 = .ok (.iconst 0, 1) := by decide +kernel
theorem dL_law_876 : decode cL_law 876 = .ok (.ireturn, 1) := by decide +kernel
theorem dL_law_877 : decode cL_law 877 = .ok (.aload_n 1, 1) := by decide +kernel
theorem dL_law_878 : decode cL_law 878 = .ok (.aload_n 0, 1) := by decide +kernel
theorem dL_law_879 : decode cL_law 879 = .ok (.iload_n 3, 1) := by decide +kernel
theorem dL_law_880 : decode cL_law 880 = .ok (.iconst 1, 1) := by decide +kernel
theorem dL_law_881 : decode cL_law 881 = .ok (.iadd, 1) := by decide +kernel
theorem dL_law_882 : decode cL_law 882 = .ok (.iaload, 1) := by decide +kernel
theorem dL_law_883 : decode cL_law 883 = .ok (.invokevirtual 104, 3) := by decide +kernel
theorem dL_law_886 : decode cL_law 886 = .ok (.aload_n 2, 1) := by decide +kernel
theorem dL_law_887 : decode cL_law 887 = .ok (.aload_n 0, 1) := by decide +kernel
theorem dL_law_888 : decode cL_law 888 = .ok (.iload_n 3, 1) := by decide +kernel
theorem dL_law_889 : decode cL_law 889 = .ok (.iconst 1, 1) := by decide +kernel
theorem dL_law_890 : decode cL_law 890 = .ok (.iadd, 1) := by decide +kernel
theorem dL_law_891 : decode cL_law 891 = .ok (.iaload, 1) := by decide +kernel
theorem dL_law_892 : decode cL_law 892 = .ok (.invokevirtual 107, 3) := by decide +kernel
theorem dL_law_895 : decode cL_law 895 = .ok (.if_icmp .eq 108, 3) := by decide +kernel
theorem dL_law_898 : decode cL_law 898 = .ok (.iconst 0, 1) := by decide +kernel
theorem dL_law_899 : decode cL_law 899 = .ok (.ireturn, 1) := by decide +kernel
theorem dL_law_900 : decode cL_law 900 = .ok (.aload_n 1, 1) := by decide +kernel
theorem dL_law_901 : decode cL_law 901 = .ok (.aload_n 0, 1) := by decide +kernel
theorem dL_law_902 : decode cL_law 902 = .ok (.iload_n 3, 1) := by decide +kernel
theorem dL_law_903 : decode cL_law 903 = .ok (.iconst 1, 1) := by decide +kernel
theorem dL_law_904 : decode cL_law 904 = .ok (.iadd, 1) := by decide +kernel
theorem dL_law_905 : decode cL_law 905 = .ok (.iaload, 1) := by decide +kernel
theorem dL_law_906 : decode cL_law 906 = .ok (.invokevirtual 108, 3) := by decide +kernel
theorem dL_law_909 : decode cL_law 909 = .ok (.aload_n 2, 1) := by decide +kernel
theorem dL_law_910 : decode cL_law 910 = .ok (.aload_n 0, 1) := by decide +kernel
theorem dL_law_911 : decode cL_law 911 = .ok (.iload_n 3, 1) := by decide +kernel
theorem dL_law_912 : decode cL_law 912 = .ok (.iconst 1, 1) := by decide +kernel
theorem dL_law_913 : decode cL_law 913 = .ok (.iadd, 1) := by decide +kernel
theorem dL_law_914 : decode cL_law 914 = .ok (.iaload, 1) := by decide +kernel
theorem dL_law_915 : decode cL_law 915 = .ok (.invokevirtual 111, 3) := by decide +kernel
theorem dL_law_918 : decode cL_law 918 = .ok (.if_icmp .eq 85, 3) := by decide +kernel
theorem dL_law_921 : decode cL_law 921 = .ok (.iconst 0, 1) := by decide +kernel
theorem dL_law_922 : decode cL_law 922 = .ok (.ireturn, 1) := by decide +kernel
theorem dL_law_923 : decode cL_law 923 = .ok (.aload_n 1, 1) := by decide +kernel
theorem dL_law_924 : decode cL_law 924 = .ok (.aload_n 0, 1) := by decide +kernel
theorem dL_law_925 : decode cL_law 925 = .ok (.iload_n 3, 1) := by decide +kernel
theorem dL_law_926 : decode cL_law 926 = .ok (.iconst 1, 1) := by decide +kernel
theorem dL_law_927 : decode cL_law 927 = .ok (.iadd, 1) := by decide +kernel
theorem dL_law_928 : decode cL_law 928 = .ok (.iaload, 1) := by decide +kernel
theorem dL_law_929 : decode cL_law 929 = .ok (.aload_n 0, 1) := by decide +kernel
theorem dL_law_930 : decode cL_law 930 = .ok (.iload_n 3, 1) := by decide +kernel
theorem dL_law_931 : decode cL_law 931 = .ok (.iconst 2, 1) := by decide +kernel
theorem dL_law_932 : decode cL_law 932 = .ok (.iadd, 1) := by decide +kernel
theorem dL_law_933 : decode cL_law 933 = .ok (.iaload, 1) := by decide +kernel
theorem dL_law_934 : decode cL_law 934 = .ok (.aload_n 0, 1) := by decide +kernel
theorem dL_law_935 : decode cL_law 935 = .ok (.iload_n 3, 1) := by decide +kernel
theorem dL_law_936 : decode cL_law 936 = .ok (.iconst 3, 1) := by decide +kernel
theorem dL_law_937 : decode cL_law 937 = .ok (.iadd, 1) := by decide +kernel
theorem dL_law_938 : decode cL_law 938 = .ok (.iaload, 1) := by decide +kernel
theorem dL_law_939 : decode cL_law 939 = .ok (.invokevirtual 112, 3) := by decide +kernel
theorem dL_law_942 : decode cL_law 942 = .ok (.aload_n 2, 1) := by decide +kernel
theorem dL_law_943 : decode cL_law 943 = .ok (.aload_n 0, 1) := by decide +kernel
theorem dL_law_944 : decode cL_law 944 = .ok (.iload_n 3, 1) := by decide +kernel
theorem dL_law_945 : decode cL_law 945 = .ok (.iconst 1, 1) := by decide +kernel
theorem dL_law_946 : decode cL_law 946 = .ok (.iadd, 1) := by decide +kernel
theorem dL_law_947 : decode cL_law 947 = .ok (.iaload, 1) := by decide +kernel
theorem dL_law_948 : decode cL_law 948 = .ok (.aload_n 0, 1) := by decide +kernel
theorem dL_law_949 : decode cL_law 949 = .ok (.iload_n 3, 1) := by decide +kernel
theorem dL_law_950 : decode cL_law 950 = .ok (.iconst 2, 1) := by decide +kernel
theorem dL_law_951 : decode cL_law 951 = .ok (.iadd, 1) := by decide +kernel
theorem dL_law_952 : decode cL_law 952 = .ok (.iaload, 1) := by decide +kernel
theorem dL_law_953 : decode cL_law 953 = .ok (.aload_n 0, 1) := by decide +kernel
theorem dL_law_954 : decode cL_law 954 = .ok (.iload_n 3, 1) := by decide +kernel
theorem dL_law_955 : decode cL_law 955 = .ok (.iconst 3, 1) := by decide +kernel
theorem dL_law_956 : decode cL_law 956 = .ok (.iadd, 1) := by decide +kernel
theorem dL_law_957 : decode cL_law 957 = .ok (.iaload, 1) := by decide +kernel
theorem dL_law_958 : decode cL_law 958 = .ok (.invokevirtual 115, 3) := by decide +kernel
theorem dL_law_961 : decode cL_law 961 = .ok (.if_icmp .eq 42, 3) := by decide +kernel
theorem dL_law_964 : decode cL_law 964 = .ok (.iconst 0, 1) := by decide +kernel
theorem dL_law_965 : decode cL_law 965 = .ok (.ireturn, 1) := by decide +kernel
theorem dL_law_966 : decode cL_law 966 = .ok (.aload_n 1, 1) := by decide +kernel
theorem dL_law_967 : decode cL_law 967 = .ok (.aload_n 0, 1) := by decide +kernel
theorem dL_law_968 : decode cL_law 968 = .ok (.iload_n 3, 1) := by decide +kernel
theorem dL_law_969 : decode cL_law 969 = .ok (.iconst 1, 1) := by decide +kernel
theorem dL_law_970 : decode cL_law 970 = .ok (.iadd, 1) := by decide +kernel
theorem dL_law_971 : decode cL_law 971 = .ok (.iaload, 1) := by decide +kernel
theorem dL_law_972 : decode cL_law 972 = .ok (.invokevirtual 116, 3) := by decide +kernel
theorem dL_law_975 : decode cL_law 975 = .ok (.aload_n 2, 1) := by decide +kernel
theorem dL_law_976 : decode cL_law 976 = .ok (.aload_n 0, 1) := by decide +kernel
theorem dL_law_977 : decode cL_law 977 = .ok (.iload_n 3, 1) := by decide +kernel
theorem dL_law_978 : decode cL_law 978 = .ok (.iconst 1, 1) := by decide +kernel
theorem dL_law_979 : decode cL_law 979 = .ok (.iadd, 1) := by decide +kernel
theorem dL_law_980 : decode cL_law 980 = .ok (.iaload, 1) := by decide +kernel
theorem dL_law_981 : decode cL_law 981 = .ok (.invokevirtual 119, 3) := by decide +kernel
theorem dL_law_984 : decode cL_law 984 = .ok (.if_icmp .eq 19, 3) := by decide +kernel
theorem dL_law_987 : decode cL_law 987 = .ok (.iconst 0, 1) := by decide +kernel
theorem dL_law_988 : decode cL_law 988 = .ok (.ireturn, 1) := by decide +kernel
theorem dL_law_989 : decode cL_law 989 = .ok (.aload_n 1, 1) := by decide +kernel
theorem dL_law_990 : decode cL_law 990 = .ok (.invokevirtual 120, 3) := by decide +kernel
theorem dL_law_993 : decode cL_law 993 = .ok (.aload_n 2, 1) := by decide +kernel
theorem dL_law_994 : decode cL_law 994 = .ok (.invokevirtual 124, 3) := by decide +kernel
theorem dL_law_997 : decode cL_law 997 = .ok (.lcmp, 1) := by decide +kernel
theorem dL_law_998 : decode cL_law 998 = .ok (.ifCond .eq 5, 3) := by decide +kernel
theorem dL_law_1001 : decode cL_law 1001 = .ok (.iconst 0, 1) := by decide +kernel
theorem dL_law_1002 : decode cL_law 1002 = .ok (.ireturn, 1) := by decide +kernel
theorem dL_law_1003 : decode cL_law 1003 = .ok (.iinc 3 5, 3) := by decide +kernel
theorem dL_law_1006 : decode cL_law 1006 = .ok (.goto (-988), 3) := by decide +kernel
theorem dL_law_1009 : decode cL_law 1009 = .ok (.iconst 1, 1) := by decide +kernel
theorem dL_law_1010 : decode cL_law 1010 = .ok (.ireturn, 1) := by decide +kernel
abbrev vwCl : List vw_C := [(RX0, TX0, 4), (RX1, TX1, 3), (RX2, TX2, 6), (RX4, TX4, 6), (RX5, TX5, 3), (RX6, TX6, 5), (RX7, TX7, 4), (RX8, TX8, 3), (RX9, TX9, 1), (RX10, TX10, 2), (RX11, TX11, 11), (RX12, TX12, 30)]
