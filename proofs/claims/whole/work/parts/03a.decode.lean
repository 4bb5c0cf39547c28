theorem dX0_init_0 : decode cX0_init 0 = .ok (.aload_n 0, 1) := by decide +kernel
theorem dX0_init_1 : decode cX0_init 1 = .ok (.invokespecial 3, 3) := by decide +kernel
theorem dX0_init_4 : decode cX0_init 4 = .ok (.aload_n 0, 1) := by decide +kernel
theorem dX0_init_5 : decode cX0_init 5 = .ok (.sipush 4096, 3) := by decide +kernel
theorem dX0_init_8 : decode cX0_init 8 = .ok (.newarray .long, 2) := by decide +kernel
theorem dX0_init_10 : decode cX0_init 10 = .ok (.putfield 9, 3) := by decide +kernel
theorem dX0_init_13 : decode cX0_init 13 = .ok (.aload_n 0, 1) := by decide +kernel
theorem dX0_init_14 : decode cX0_init 14 = .ok (.sipush 4096, 3) := by decide +kernel
theorem dX0_init_17 : decode cX0_init 17 = .ok (.newarray .long, 2) := by decide +kernel
theorem dX0_init_19 : decode cX0_init 19 = .ok (.putfield 15, 3) := by decide +kernel
theorem dX0_init_22 : decode cX0_init 22 = .ok (.aload_n 0, 1) := by decide +kernel
theorem dX0_init_23 : decode cX0_init 23 = .ok (.aload_n 1, 1) := by decide +kernel
theorem dX0_init_24 : decode cX0_init 24 = .ok (.putfield 18, 3) := by decide +kernel
theorem dX0_init_27 : decode cX0_init 27 = .ok (.aload_n 0, 1) := by decide +kernel
theorem dX0_init_28 : decode cX0_init 28 = .ok (.aload_n 2, 1) := by decide +kernel
theorem dX0_init_29 : decode cX0_init 29 = .ok (.putfield 22, 3) := by decide +kernel
theorem dX0_init_32 : decode cX0_init 32 = .ok (.return_, 1) := by decide +kernel
set_option maxRecDepth 20000 in
theorem ggX0_right_X7_look : GoodIn wsX0_right wsX7_look := goodIn_r _ [8, 9, 10, 11, 12, 13, 14, 15, 16, 17, 18, 19, 20, 21, 22, 23, 24, 25, 26, 27, 28, 29, 30, 31, 32, 33, 34, 35, 36, 37, 38, 39, 40, 41, 42, 43, 44, 45, 46, 47, 48, 49, 50, 51, 7, 52, 53, 54, 55, 56, 57, 58, 59, 60, 61, 62, 63, 64, 65, 66, 67, 68, 69, 70, 71, 72, 73, 74, 75, 109, 110, 111, 112, 113, 114, 115, 116, 117, 118, 119, 120, 121, 122] (by decide +kernel) (by decide +kernel)
set_option maxRecDepth 20000 in
theorem gX0_right_X7_look : GoodIn wsX0_right (wsV RX0 28 RX7 yX7_look wsX7_look) := goodIn_app (goodIn_of _ (by decide +kernel)) ggX0_right_X7_look
set_option maxRecDepth 20000 in
theorem ggX0_right_J7_fill_d0a16 : GoodIn wsX0_right wsJ7_fill_d0a16 := goodIn_r _ [78] (by decide +kernel) (by decide +kernel)
set_option maxRecDepth 20000 in
theorem gX0_right_J7_fill_d0a16 : GoodIn wsX0_right (va_wsS RX0 32 yJ7_fill_d0a16 wsJ7_fill_d0a16) := goodIn_app (goodIn_of _ (by decide +kernel)) ggX0_right_J7_fill_d0a16
set_option maxRecDepth 20000 in
theorem ggX0_right_X0_spread : GoodIn wsX0_right wsX0_spread := goodIn_r _ [83, 1, 2, 84, 3, 85, 86, 87, 7, 88, 12, 89, 90, 91, 92, 11, 93, 61, 62, 16, 63, 18, 94, 65, 66, 67, 19, 20, 95, 96, 97, 24, 98, 99, 100, 101, 102, 103, 26, 105, 106, 107, 108, 109, 110, 111, 112, 113, 114, 115, 116, 117, 118, 119, 120, 121] (by decide +kernel) (by decide +kernel)
set_option maxRecDepth 20000 in
theorem gX0_right_X0_spread : GoodIn wsX0_right (wsV RX0 38 RX0 yX0_spread wsX0_spread) := goodIn_app (goodIn_of _ (by decide +kernel)) ggX0_right_X0_spread
set_option maxRecDepth 20000 in
theorem ggX0_right_X7_size : GoodIn wsX0_right wsX7_size := goodIn_r _ [88, 12, 109, 110, 111, 112] (by decide +kernel) (by decide +kernel)
set_option maxRecDepth 20000 in
theorem gX0_right_X7_size : GoodIn wsX0_right (wsV RX0 42 RX7 yX7_size wsX7_size) := goodIn_app (goodIn_of _ (by decide +kernel)) ggX0_right_X7_size
set_option maxRecDepth 20000 in
theorem ggX0_right_X7_found : GoodIn wsX0_right wsX7_found := goodIn_r _ [92, 12, 11, 109, 110, 111, 112] (by decide +kernel) (by decide +kernel)
set_option maxRecDepth 20000 in
theorem gX0_right_X7_found : GoodIn wsX0_right (wsV RX0 46 RX7 yX7_found wsX7_found) := goodIn_app (goodIn_of _ (by decide +kernel)) ggX0_right_X7_found
set_option maxRecDepth 20000 in
theorem ggX0_right_X7_isOne : GoodIn wsX0_right wsX7_isOne := goodIn_r _ [55] (by decide +kernel) (by decide +kernel)
set_option maxRecDepth 20000 in
theorem gX0_right_X7_isOne : GoodIn wsX0_right (va_wsS RX0 50 yX7_isOne wsX7_isOne) := goodIn_app (goodIn_of _ (by decide +kernel)) ggX0_right_X7_isOne
theorem dX0_right_0 : decode cX0_right 0 = .ok (.aload_n 0, 1) := by decide +kernel
theorem dX0_right_1 : decode cX0_right 1 = .ok (.getfield 22, 3) := by decide +kernel
theorem dX0_right_4 : decode cX0_right 4 = .ok (.aload_n 1, 1) := by decide +kernel
theorem dX0_right_5 : decode cX0_right 5 = .ok (.iload_n 2, 1) := by decide +kernel
theorem dX0_right_6 : decode cX0_right 6 = .ok (.iconst (-1), 1) := by decide +kernel
theorem dX0_right_7 : decode cX0_right 7 = .ok (.invokevirtual 28, 3) := by decide +kernel
theorem dX0_right_10 : decode cX0_right 10 = .ok (.pop, 1) := by decide +kernel
theorem dX0_right_11 : decode cX0_right 11 = .ok (.aload_n 0, 1) := by decide +kernel
theorem dX0_right_12 : decode cX0_right 12 = .ok (.getfield 9, 3) := by decide +kernel
theorem dX0_right_15 : decode cX0_right 15 = .ok (.lconst 0, 1) := by decide +kernel
theorem dX0_right_16 : decode cX0_right 16 = .ok (.invokestatic 32, 3) := by decide +kernel
theorem dX0_right_19 : decode cX0_right 19 = .ok (.aload_n 0, 1) := by decide +kernel
theorem dX0_right_20 : decode cX0_right 20 = .ok (.getfield 15, 3) := by decide +kernel
theorem dX0_right_23 : decode cX0_right 23 = .ok (.lconst 0, 1) := by decide +kernel
theorem dX0_right_24 : decode cX0_right 24 = .ok (.invokestatic 32, 3) := by decide +kernel
theorem dX0_right_27 : decode cX0_right 27 = .ok (.iload_n 2, 1) := by decide +kernel
theorem dX0_right_28 : decode cX0_right 28 = .ok (.ifCond .le 17, 3) := by decide +kernel
theorem dX0_right_31 : decode cX0_right 31 = .ok (.iload_n 2, 1) := by decide +kernel
theorem dX0_right_32 : decode cX0_right 32 = .ok (.sipush 4096, 3) := by decide +kernel
theorem dX0_right_35 : decode cX0_right 35 = .ok (.if_icmp .ge 10, 3) := by decide +kernel
theorem dX0_right_38 : decode cX0_right 38 = .ok (.aload_n 0, 1) := by decide +kernel
theorem dX0_right_39 : decode cX0_right 39 = .ok (.getfield 9, 3) := by decide +kernel
theorem dX0_right_42 : decode cX0_right 42 = .ok (.iload_n 2, 1) := by decide +kernel
theorem dX0_right_43 : decode cX0_right 43 = .ok (.lconst 1, 1) := by decide +kernel
theorem dX0_right_44 : decode cX0_right 44 = .ok (.lastore, 1) := by decide +kernel
theorem dX0_right_45 : decode cX0_right 45 = .ok (.iconst 0, 1) := by decide +kernel
theorem dX0_right_46 : decode cX0_right 46 = .ok (.istore 4, 2) := by decide +kernel
theorem dX0_right_48 : decode cX0_right 48 = .ok (.iload 4, 2) := by decide +kernel
theorem dX0_right_50 : decode cX0_right 50 = .ok (.iload_n 3, 1) := by decide +kernel
theorem dX0_right_51 : decode cX0_right 51 = .ok (.if_icmp .ge 14, 3) := by decide +kernel
theorem dX0_right_54 : decode cX0_right 54 = .ok (.aload_n 0, 1) := by decide +kernel
theorem dX0_right_55 : decode cX0_right 55 = .ok (.aload_n 1, 1) := by decide +kernel
theorem dX0_right_56 : decode cX0_right 56 = .ok (.invokevirtual 38, 3) := by decide +kernel
theorem dX0_right_59 : decode cX0_right 59 = .ok (.iinc 4 1, 3) := by decide +kernel
theorem dX0_right_62 : decode cX0_right 62 = .ok (.goto (-14), 3) := by decide +kernel
theorem dX0_right_65 : decode cX0_right 65 = .ok (.lconst 0, 1) := by decide +kernel
theorem dX0_right_66 : decode cX0_right 66 = .ok (.lstore 4, 2) := by decide +kernel
theorem dX0_right_68 : decode cX0_right 68 = .ok (.iconst 0, 1) := by decide +kernel
theorem dX0_right_69 : decode cX0_right 69 = .ok (.istore 6, 2) := by decide +kernel
theorem dX0_right_71 : decode cX0_right 71 = .ok (.iload 6, 2) := by decide +kernel
theorem dX0_right_73 : decode cX0_right 73 = .ok (.aload_n 0, 1) := by decide +kernel
theorem dX0_right_74 : decode cX0_right 74 = .ok (.getfield 22, 3) := by decide +kernel
theorem dX0_right_77 : decode cX0_right 77 = .ok (.invokevirtual 42, 3) := by decide +kernel
theorem dX0_right_80 : decode cX0_right 80 = .ok (.if_icmp .ge 48, 3) := by decide +kernel
theorem dX0_right_83 : decode cX0_right 83 = .ok (.aload_n 0, 1) := by decide +kernel
theorem dX0_right_84 : decode cX0_right 84 = .ok (.getfield 22, 3) := by decide +kernel
theorem dX0_right_87 : decode cX0_right 87 = .ok (.iload 6, 2) := by decide +kernel
theorem dX0_right_89 : decode cX0_right 89 = .ok (.invokevirtual 46, 3) := by decide +kernel
theorem dX0_right_92 : decode cX0_right 92 = .ok (.istore 7, 2) := by decide +kernel
theorem dX0_right_94 : decode cX0_right 94 = .ok (.iload 7, 2) := by decide +kernel
theorem dX0_right_96 : decode cX0_right 96 = .ok (.invokestatic 50, 3) := by decide +kernel
theorem dX0_right_99 : decode cX0_right 99 = .ok (.ifCond .eq 23, 3) := by decide +kernel
theorem dX0_right_102 : decode cX0_right 102 = .ok (.iload 7, 2) := by decide +kernel
theorem dX0_right_104 : decode cX0_right 104 = .ok (.sipush 4096, 3) := by decide +kernel
theorem dX0_right_107 : decode cX0_right 107 = .ok (.if_icmp .ge 15, 3) := by decide +kernel
theorem dX0_right_110 : decode cX0_right 110 = .ok (.lload 4, 2) := by decide +kernel
theorem dX0_right_112 : decode cX0_right 112 = .ok (.aload_n 0, 1) := by decide +kernel
theorem dX0_right_113 : decode cX0_right 113 = .ok (.getfield 9, 3) := by decide +kernel
theorem dX0_right_116 : decode cX0_right 116 = .ok (.iload 7, 2) := by decide +kernel
theorem dX0_right_118 : decode cX0_right 118 = .ok (.laload, 1) := by decide +kernel
theorem dX0_right_119 : decode cX0_right 119 = .ok (.ladd, 1) := by decide +kernel
theorem dX0_right_120 : decode cX0_right 120 = .ok (.lstore 4, 2) := by decide +kernel
theorem dX0_right_122 : decode cX0_right 122 = .ok (.iinc 6 1, 3) := by decide +kernel
theorem dX0_right_125 : decode cX0_right 125 = .ok (.goto (-54), 3) := by decide +kernel
theorem dX0_right_128 : decode cX0_right 128 = .ok (.lload 4, 2) := by decide +kernel
theorem dX0_right_130 : decode cX0_right 130 = .ok (.lreturn, 1) := by decide +kernel
set_option maxRecDepth 20000 in
theorem ggX0_spread_X7_size : GoodIn wsX0_spread wsX7_size := goodIn_r _ [9, 10, 43, 44, 45, 46] (by decide +kernel) (by decide +kernel)
set_option maxRecDepth 20000 in
theorem gX0_spread_X7_size : GoodIn wsX0_spread (wsV RX0 42 RX7 yX7_size wsX7_size) := goodIn_app (goodIn_of _ (by decide +kernel)) ggX0_spread_X7_size
set_option maxRecDepth 20000 in
theorem ggX0_spread_X7_found : GoodIn wsX0_spread wsX7_found := goodIn_r _ [14, 10, 15, 43, 44, 45, 46] (by decide +kernel) (by decide +kernel)
set_option maxRecDepth 20000 in
theorem gX0_spread_X7_found : GoodIn wsX0_spread (wsV RX0 46 RX7 yX7_found wsX7_found) := goodIn_app (goodIn_of _ (by decide +kernel)) ggX0_spread_X7_found
set_option maxRecDepth 20000 in
theorem ggX0_spread_X8_letters : GoodIn wsX0_spread wsX8_letters := goodIn_r _ [20, 21, 47, 48, 49] (by decide +kernel) (by decide +kernel)
set_option maxRecDepth 20000 in
theorem gX0_spread_X8_letters : GoodIn wsX0_spread (wsV RX0 54 RX8 yX8_letters wsX8_letters) := goodIn_app (goodIn_of _ (by decide +kernel)) ggX0_spread_X8_letters
set_option maxRecDepth 20000 in
theorem ggX0_spread_X8_after : GoodIn wsX0_spread wsX8_after := goodIn_r _ [25, 26, 27, 47, 48, 49] (by decide +kernel) (by decide +kernel)
set_option maxRecDepth 20000 in
theorem gX0_spread_X8_after : GoodIn wsX0_spread (wsV RX0 59 RX8 yX8_after wsX8_after) := goodIn_app (goodIn_of _ (by decide +kernel)) ggX0_spread_X8_after
set_option maxRecDepth 20000 in
theorem ggX0_spread_X4_shareOf : GoodIn wsX0_spread wsX4_shareOf := goodIn_r _ [32, 33, 34, 35, 36, 31, 37, 38, 50, 51, 52, 53, 54, 55] (by decide +kernel) (by decide +kernel)
set_option maxRecDepth 20000 in
theorem gX0_spread_X4_shareOf : GoodIn wsX0_spread (wsV RX0 63 RX4 yX4_shareOf wsX4_shareOf) := goodIn_app (goodIn_of _ (by decide +kernel)) ggX0_spread_X4_shareOf
theorem dX0_spread_0 : decode cX0_spread 0 = .ok (.iconst 0, 1) := by decide +kernel
theorem dX0_spread_1 : decode cX0_spread 1 = .ok (.istore_n 2, 1) := by decide +kernel
theorem dX0_spread_2 : decode cX0_spread 2 = .ok (.iload_n 2, 1) := by decide +kernel
theorem dX0_spread_3 : decode cX0_spread 3 = .ok (.aload_n 0, 1) := by decide +kernel
theorem dX0_spread_4 : decode cX0_spread 4 = .ok (.getfield 22, 3) := by decide +kernel
theorem dX0_spread_7 : decode cX0_spread 7 = .ok (.invokevirtual 42, 3) := by decide +kernel
theorem dX0_spread_10 : decode cX0_spread 10 = .ok (.if_icmp .ge 113, 3) := by decide +kernel
theorem dX0_spread_13 : decode cX0_spread 13 = .ok (.aload_n 0, 1) := by decide +kernel
theorem dX0_spread_14 : decode cX0_spread 14 = .ok (.getfield 22, 3) := by decide +kernel
theorem dX0_spread_17 : decode cX0_spread 17 = .ok (.iload_n 2, 1) := by decide +kernel
theorem dX0_spread_18 : decode cX0_spread 18 = .ok (.invokevirtual 46, 3) := by decide +kernel
theorem dX0_spread_21 : decode cX0_spread 21 = .ok (.istore_n 3, 1) := by decide +kernel
theorem dX0_spread_22 : decode cX0_spread 22 = .ok (.iload_n 3, 1) := by decide +kernel
theorem dX0_spread_23 : decode cX0_spread 23 = .ok (.ifCond .lt 94, 3) := by decide +kernel
theorem dX0_spread_26 : decode cX0_spread 26 = .ok (.iload_n 3, 1) := by decide +kernel
theorem dX0_spread_27 : decode cX0_spread 27 = .ok (.sipush 4096, 3) := by decide +kernel
theorem dX0_spread_30 : decode cX0_spread 30 = .ok (.if_icmp .ge 87, 3) := by decide +kernel
theorem dX0_spread_33 : decode cX0_spread 33 = .ok (.aload_n 0, 1) := by decide +kernel
theorem dX0_spread_34 : decode cX0_spread 34 = .ok (.getfield 9, 3) := by decide +kernel
theorem dX0_spread_37 : decode cX0_spread 37 = .ok (.iload_n 3, 1) := by decide +kernel
theorem dX0_spread_38 : decode cX0_spread 38 = .ok (.laload, 1) := by decide +kernel
theorem dX0_spread_39 : decode cX0_spread 39 = .ok (.lconst 0, 1) := by decide +kernel
theorem dX0_spread_40 : decode cX0_spread 40 = .ok (.lcmp, 1) := by decide +kernel
theorem dX0_spread_41 : decode cX0_spread 41 = .ok (.ifCond .ne 6, 3) := by decide +kernel
theorem dX0_spread_44 : decode cX0_spread 44 = .ok (.goto 73, 3) := by decide +kernel
theorem dX0_spread_47 : decode cX0_spread 47 = .ok (.iconst 0, 1) := by decide +kernel
theorem dX0_spread_48 : decode cX0_spread 48 = .ok (.istore 4, 2) := by decide +kernel
theorem dX0_spread_50 : decode cX0_spread 50 = .ok (.iload 4, 2) := by decide +kernel
theorem dX0_spread_52 : decode cX0_spread 52 = .ok (.aload_n 0, 1) := by decide +kernel
theorem dX0_spread_53 : decode cX0_spread 53 = .ok (.getfield 18, 3) := by decide +kernel
theorem dX0_spread_56 : decode cX0_spread 56 = .ok (.invokevirtual 54, 3) := by decide +kernel
theorem dX0_spread_59 : decode cX0_spread 59 = .ok (.if_icmp .ge 58, 3) := by decide +kernel
theorem dX0_spread_62 : decode cX0_spread 62 = .ok (.aload_n 0, 1) := by decide +kernel
theorem dX0_spread_63 : decode cX0_spread 63 = .ok (.getfield 18, 3) := by decide +kernel
theorem dX0_spread_66 : decode cX0_spread 66 = .ok (.iload_n 3, 1) := by decide +kernel
theorem dX0_spread_67 : decode cX0_spread 67 = .ok (.iload 4, 2) := by decide +kernel
theorem dX0_spread_69 : decode cX0_spread 69 = .ok (.invokevirtual 59, 3) := by decide +kernel
theorem dX0_spread_72 : decode cX0_spread 72 = .ok (.istore 5, 2) := by decide +kernel
theorem dX0_spread_74 : decode cX0_spread 74 = .ok (.iload 5, 2) := by decide +kernel
theorem dX0_spread_76 : decode cX0_spread 76 = .ok (.ifCond .le 35, 3) := by decide +kernel
theorem dX0_spread_79 : decode cX0_spread 79 = .ok (.iload 5, 2) := by decide +kernel
theorem dX0_spread_81 : decode cX0_spread 81 = .ok (.sipush 4096, 3) := by decide +kernel
theorem dX0_spread_84 : decode cX0_spread 84 = .ok (.if_icmp .ge 27, 3) := by decide +kernel
theorem dX0_spread_87 : decode cX0_spread 87 = .ok (.aload_n 0, 1) := by decide +kernel
theorem dX0_spread_88 : decode cX0_spread 88 = .ok (.getfield 15, 3) := by decide +kernel
theorem dX0_spread_91 : decode cX0_spread 91 = .ok (.iload 5, 2) := by decide +kernel
theorem dX0_spread_93 : decode cX0_spread 93 = .ok (.dup2, 1) := by decide +kernel
theorem dX0_spread_94 : decode cX0_spread 94 = .ok (.laload, 1) := by decide +kernel
theorem dX0_spread_95 : decode cX0_spread 95 = .ok (.aload_n 0, 1) := by decide +kernel
theorem dX0_spread_96 : decode cX0_spread 96 = .ok (.getfield 9, 3) := by decide +kernel
theorem dX0_spread_99 : decode cX0_spread 99 = .ok (.iload_n 3, 1) := by decide +kernel
theorem dX0_spread_100 : decode cX0_spread 100 = .ok (.laload, 1) := by decide +kernel
theorem dX0_spread_101 : decode cX0_spread 101 = .ok (.aload_n 1, 1) := by decide +kernel
theorem dX0_spread_102 : decode cX0_spread 102 = .ok (.iload 4, 2) := by decide +kernel
theorem dX0_spread_104 : decode cX0_spread 104 = .ok (.invokevirtual 63, 3) := by decide +kernel
theorem dX0_spread_107 : decode cX0_spread 107 = .ok (.i2l, 1) := by decide +kernel
theorem dX0_spread_108 : decode cX0_spread 108 = .ok (.lmul, 1) := by decide +kernel
theorem dX0_spread_109 : decode cX0_spread 109 = .ok (.ladd, 1) := by decide +kernel
theorem dX0_spread_110 : decode cX0_spread 110 = .ok (.lastore, 1) := by decide +kernel
theorem dX0_spread_111 : decode cX0_spread 111 = .ok (.iinc 4 1, 3) := by decide +kernel
theorem dX0_spread_114 : decode cX0_spread 114 = .ok (.goto (-64), 3) := by decide +kernel
theorem dX0_spread_117 : decode cX0_spread 117 = .ok (.iinc 2 1, 3) := by decide +kernel
theorem dX0_spread_120 : decode cX0_spread 120 = .ok (.goto (-118), 3) := by decide +kernel
theorem dX0_spread_123 : decode cX0_spread 123 = .ok (.iconst 0, 1) := by decide +kernel
theorem dX0_spread_124 : decode cX0_spread 124 = .ok (.istore_n 2, 1) := by decide +kernel
theorem dX0_spread_125 : decode cX0_spread 125 = .ok (.iload_n 2, 1) := by decide +kernel
theorem dX0_spread_126 : decode cX0_spread 126 = .ok (.aload_n 0, 1) := by decide +kernel
theorem dX0_spread_127 : decode cX0_spread 127 = .ok (.getfield 22, 3) := by decide +kernel
theorem dX0_spread_130 : decode cX0_spread 130 = .ok (.invokevirtual 42, 3) := by decide +kernel
theorem dX0_spread_133 : decode cX0_spread 133 = .ok (.if_icmp .ge 48, 3) := by decide +kernel
theorem dX0_spread_136 : decode cX0_spread 136 = .ok (.aload_n 0, 1) := by decide +kernel
theorem dX0_spread_137 : decode cX0_spread 137 = .ok (.getfield 22, 3) := by decide +kernel
theorem dX0_spread_140 : decode cX0_spread 140 = .ok (.iload_n 2, 1) := by decide +kernel
theorem dX0_spread_141 : decode cX0_spread 141 = .ok (.invokevirtual 46, 3) := by decide +kernel
theorem dX0_spread_144 : decode cX0_spread 144 = .ok (.istore_n 3, 1) := by decide +kernel
theorem dX0_spread_145 : decode cX0_spread 145 = .ok (.iload_n 3, 1) := by decide +kernel
theorem dX0_spread_146 : decode cX0_spread 146 = .ok (.ifCond .lt 29, 3) := by decide +kernel
theorem dX0_spread_149 : decode cX0_spread 149 = .ok (.iload_n 3, 1) := by decide +kernel
theorem dX0_spread_150 : decode cX0_spread 150 = .ok (.sipush 4096, 3) := by decide +kernel
theorem dX0_spread_153 : decode cX0_spread 153 = .ok (.if_icmp .ge 22, 3) := by decide +kernel
theorem dX0_spread_156 : decode cX0_spread 156 = .ok (.aload_n 0, 1) := by decide +kernel
theorem dX0_spread_157 : decode cX0_spread 157 = .ok (.getfield 9, 3) := by decide +kernel
theorem dX0_spread_160 : decode cX0_spread 160 = .ok (.iload_n 3, 1) := by decide +kernel
theorem dX0_spread_161 : decode cX0_spread 161 = .ok (.aload_n 0, 1) := by decide +kernel
theorem dX0_spread_162 : decode cX0_spread 162 = .ok (.getfield 15, 3) := by decide +kernel
theorem dX0_spread_165 : decode cX0_spread 165 = .ok (.iload_n 3, 1) := by decide +kernel
theorem dX0_spread_166 : decode cX0_spread 166 = .ok (.laload, 1) := by decide +kernel
theorem dX0_spread_167 : decode cX0_spread 167 = .ok (.lastore, 1) := by decide +kernel
theorem dX0_spread_168 : decode cX0_spread 168 = .ok (.aload_n 0, 1) := by decide +kernel
theorem dX0_spread_169 : decode cX0_spread 169 = .ok (.getfield 15, 3) := by decide +kernel
theorem dX0_spread_172 : decode cX0_spread 172 = .ok (.iload_n 3, 1) := by decide +kernel
theorem dX0_spread_173 : decode cX0_spread 173 = .ok (.lconst 0, 1) := by decide +kernel
theorem dX0_spread_174 : decode cX0_spread 174 = .ok (.lastore, 1) := by decide +kernel
theorem dX0_spread_175 : decode cX0_spread 175 = .ok (.iinc 2 1, 3) := by decide +kernel
theorem dX0_spread_178 : decode cX0_spread 178 = .ok (.goto (-53), 3) := by decide +kernel
theorem dX0_spread_181 : decode cX0_spread 181 = .ok (.return_, 1) := by decide +kernel
set_option maxRecDepth 20000 in
theorem ggX0_all_X4_letters : GoodIn wsX0_all wsX4_letters := goodIn_r _ [5, 6, 16, 17, 18, 19, 20, 21] (by decide +kernel) (by decide +kernel)
set_option maxRecDepth 20000 in
theorem gX0_all_X4_letters : GoodIn wsX0_all (wsV RX0 68 RX4 yX4_letters wsX4_letters) := goodIn_app (goodIn_of _ (by decide +kernel)) ggX0_all_X4_letters
set_option maxRecDepth 20000 in
theorem ggX0_all_X4_shareOf : GoodIn wsX0_all wsX4_shareOf := goodIn_r _ [10, 11, 12, 13, 14, 4, 15, 6, 16, 17, 18, 19, 20, 21] (by decide +kernel) (by decide +kernel)
set_option maxRecDepth 20000 in
theorem gX0_all_X4_shareOf : GoodIn wsX0_all (wsV RX0 63 RX4 yX4_shareOf wsX4_shareOf) := goodIn_app (goodIn_of _ (by decide +kernel)) ggX0_all_X4_shareOf
theorem dX0_all_0 : decode cX0_all 0 = .ok (.lconst 0, 1) := by decide +kernel
theorem dX0_all_1 : decode cX0_all 1 = .ok (.lstore_n 3, 1) := by decide +kernel
theorem dX0_all_2 : decode cX0_all 2 = .ok (.iconst 0, 1) := by decide +kernel
theorem dX0_all_3 : decode cX0_all 3 = .ok (.istore 5, 2) := by decide +kernel
theorem dX0_all_5 : decode cX0_all 5 = .ok (.iload 5, 2) := by decide +kernel
theorem dX0_all_7 : decode cX0_all 7 = .ok (.aload_n 1, 1) := by decide +kernel
theorem dX0_all_8 : decode cX0_all 8 = .ok (.invokevirtual 68, 3) := by decide +kernel
theorem dX0_all_11 : decode cX0_all 11 = .ok (.if_icmp .ge 19, 3) := by decide +kernel
theorem dX0_all_14 : decode cX0_all 14 = .ok (.lload_n 3, 1) := by decide +kernel
theorem dX0_all_15 : decode cX0_all 15 = .ok (.aload_n 1, 1) := by decide +kernel
theorem dX0_all_16 : decode cX0_all 16 = .ok (.iload 5, 2) := by decide +kernel
theorem dX0_all_18 : decode cX0_all 18 = .ok (.invokevirtual 63, 3) := by decide +kernel
theorem dX0_all_21 : decode cX0_all 21 = .ok (.i2l, 1) := by decide +kernel
theorem dX0_all_22 : decode cX0_all 22 = .ok (.ladd, 1) := by decide +kernel
theorem dX0_all_23 : decode cX0_all 23 = .ok (.lstore_n 3, 1) := by decide +kernel
theorem dX0_all_24 : decode cX0_all 24 = .ok (.iinc 5 1, 3) := by decide +kernel
theorem dX0_all_27 : decode cX0_all 27 = .ok (.goto (-22), 3) := by decide +kernel
theorem dX0_all_30 : decode cX0_all 30 = .ok (.lconst 1, 1) := by decide +kernel
theorem dX0_all_31 : decode cX0_all 31 = .ok (.lstore 5, 2) := by decide +kernel
theorem dX0_all_33 : decode cX0_all 33 = .ok (.iconst 0, 1) := by decide +kernel
theorem dX0_all_34 : decode cX0_all 34 = .ok (.istore 7, 2) := by decide +kernel
theorem dX0_all_36 : decode cX0_all 36 = .ok (.iload 7, 2) := by decide +kernel
theorem dX0_all_38 : decode cX0_all 38 = .ok (.iload_n 2, 1) := by decide +kernel
theorem dX0_all_39 : decode cX0_all 39 = .ok (.if_icmp .ge 15, 3) := by decide +kernel
theorem dX0_all_42 : decode cX0_all 42 = .ok (.lload 5, 2) := by decide +kernel
theorem dX0_all_44 : decode cX0_all 44 = .ok (.lload_n 3, 1) := by decide +kernel
theorem dX0_all_45 : decode cX0_all 45 = .ok (.lmul, 1) := by decide +kernel
theorem dX0_all_46 : decode cX0_all 46 = .ok (.lstore 5, 2) := by decide +kernel
theorem dX0_all_48 : decode cX0_all 48 = .ok (.iinc 7 1, 3) := by decide +kernel
theorem dX0_all_51 : decode cX0_all 51 = .ok (.goto (-15), 3) := by decide +kernel
theorem dX0_all_54 : decode cX0_all 54 = .ok (.lload 5, 2) := by decide +kernel
theorem dX0_all_56 : decode cX0_all 56 = .ok (.lreturn, 1) := by decide +kernel
set_option maxRecDepth 20000 in
theorem ggX1_init_X4_init : GoodIn wsX1_init wsX4_init := goodIn_r _ [13, 14, 2, 3, 4, 15, 16, 17, 18, 19, 20, 21, 22, 23, 24, 28, 29, 30, 31, 32, 33] (by decide +kernel) (by decide +kernel)
set_option maxRecDepth 20000 in
theorem gX1_init_X4_init : GoodIn wsX1_init (wsX4_init) := ggX1_init_X4_init
theorem dX1_init_0 : decode cX1_init 0 = .ok (.aload_n 0, 1) := by decide +kernel
theorem dX1_init_1 : decode cX1_init 1 = .ok (.invokespecial 3, 3) := by decide +kernel
theorem dX1_init_4 : decode cX1_init 4 = .ok (.aload_n 0, 1) := by decide +kernel
theorem dX1_init_5 : decode cX1_init 5 = .ok (.bipush 12, 2) := by decide +kernel
theorem dX1_init_7 : decode cX1_init 7 = .ok (.newarray .int, 2) := by decide +kernel
theorem dX1_init_9 : decode cX1_init 9 = .ok (.putfield 9, 3) := by decide +kernel
theorem dX1_init_12 : decode cX1_init 12 = .ok (.aload_n 0, 1) := by decide +kernel
theorem dX1_init_13 : decode cX1_init 13 = .ok (.bipush 12, 2) := by decide +kernel
theorem dX1_init_15 : decode cX1_init 15 = .ok (.newarray .int, 2) := by decide +kernel
theorem dX1_init_17 : decode cX1_init 17 = .ok (.putfield 15, 3) := by decide +kernel
theorem dX1_init_20 : decode cX1_init 20 = .ok (.aload_n 0, 1) := by decide +kernel
theorem dX1_init_21 : decode cX1_init 21 = .ok (.new 18, 3) := by decide +kernel
theorem dX1_init_24 : decode cX1_init 24 = .ok (.dup, 1) := by decide +kernel
theorem dX1_init_25 : decode cX1_init 25 = .ok (.bipush 12, 2) := by decide +kernel
theorem dX1_init_27 : decode cX1_init 27 = .ok (.iconst 4, 1) := by decide +kernel
theorem dX1_init_28 : decode cX1_init 28 = .ok (.invokespecial 20, 3) := by decide +kernel
theorem dX1_init_31 : decode cX1_init 31 = .ok (.putfield 23, 3) := by decide +kernel
theorem dX1_init_34 : decode cX1_init 34 = .ok (.return_, 1) := by decide +kernel
set_option maxRecDepth 20000 in
theorem ggX1_paint_J7_fill_53178 : GoodIn wsX1_paint wsJ7_fill_53178 := goodIn_r _ [5] (by decide +kernel) (by decide +kernel)
set_option maxRecDepth 20000 in
theorem gX1_paint_J7_fill_53178 : GoodIn wsX1_paint (va_wsS RX1 27 yJ7_fill_53178 wsJ7_fill_53178) := goodIn_app (goodIn_of _ (by decide +kernel)) ggX1_paint_J7_fill_53178
set_option maxRecDepth 20000 in
theorem ggX1_paint_X4_states : GoodIn wsX1_paint wsX4_states := goodIn_r _ [10, 11, 78, 79, 80, 81, 82, 83] (by decide +kernel) (by decide +kernel)
set_option maxRecDepth 20000 in
theorem gX1_paint_X4_states : GoodIn wsX1_paint (wsV RX1 33 RX4 yX4_states wsX4_states) := goodIn_app (goodIn_of _ (by decide +kernel)) ggX1_paint_X4_states
set_option maxRecDepth 20000 in
theorem ggX1_paint_X1_exchange : GoodIn wsX1_paint wsX1_exchange := goodIn_r _ [16, 17, 18, 19, 20, 9, 21, 22, 23, 24, 25, 15, 26, 1, 27, 28, 29, 30, 31, 32, 33, 34, 11, 35, 36, 37, 38, 39, 40, 41, 42, 43, 44, 45, 46, 47, 75, 76, 77, 78, 79, 80, 81, 82, 83] (by decide +kernel) (by decide +kernel)
set_option maxRecDepth 20000 in
theorem gX1_paint_X1_exchange : GoodIn wsX1_paint (wsV RX1 37 RX1 yX1_exchange wsX1_exchange) := goodIn_app (goodIn_of _ (by decide +kernel)) ggX1_paint_X1_exchange
set_option maxRecDepth 20000 in
theorem ggX1_paint_X1_allComeTogether : GoodIn wsX1_paint wsX1_allComeTogether := goodIn_r _ [51, 52, 6, 7, 8, 9, 10, 11, 53, 54, 55, 15, 56, 57, 58, 59, 60, 17, 18, 19, 20, 21, 22, 31, 32, 33, 34, 35, 61, 62, 63, 75, 76, 77, 78, 79, 80, 81, 82, 83] (by decide +kernel) (by decide +kernel)
set_option maxRecDepth 20000 in
theorem gX1_paint_X1_allComeTogether : GoodIn wsX1_paint (wsV RX1 41 RX1 yX1_allComeTogether wsX1_allComeTogether) := goodIn_app (goodIn_of _ (by decide +kernel)) ggX1_paint_X1_allComeTogether
set_option maxRecDepth 20000 in
theorem ggX1_paint_X1_takeOver : GoodIn wsX1_paint wsX1_takeOver := goodIn_r _ [67, 17, 6, 7, 8, 9, 10, 11, 18, 19, 20, 21, 22, 31, 32, 33, 34, 35, 36, 37, 38, 39, 40, 41, 42, 43, 44, 45, 46, 47, 75, 76, 77, 78, 79, 80, 81, 82, 83] (by decide +kernel) (by decide +kernel)
set_option maxRecDepth 20000 in
theorem gX1_paint_X1_takeOver : GoodIn wsX1_paint (wsV RX1 45 RX1 yX1_takeOver wsX1_takeOver) := goodIn_app (goodIn_of _ (by decide +kernel)) ggX1_paint_X1_takeOver
set_option maxRecDepth 20000 in
theorem ggX1_paint_X1_turnOn : GoodIn wsX1_paint wsX1_turnOn := goodIn_r _ [71, 1, 18, 19, 20, 9, 21, 22, 72, 73, 15, 74, 6, 7, 8, 10, 11, 12, 13, 14, 16, 17, 23, 24, 25, 26, 27, 28, 29, 30, 31, 32, 33, 34, 35, 36, 37, 38, 39, 40, 41, 42, 43, 44, 45, 46, 47, 75, 76, 77, 78, 79, 80, 81, 82, 83] (by decide +kernel) (by decide +kernel)
set_option maxRecDepth 20000 in
theorem gX1_paint_X1_turnOn : GoodIn wsX1_paint (wsV RX1 49 RX1 yX1_turnOn wsX1_turnOn) := goodIn_app (goodIn_of _ (by decide +kernel)) ggX1_paint_X1_turnOn
theorem dX1_paint_0 : decode cX1_paint 0 = .ok (.aload_n 0, 1) := by decide +kernel
theorem dX1_paint_1 : decode cX1_paint 1 = .ok (.getfield 9, 3) := by decide +kernel
theorem dX1_paint_4 : decode cX1_paint 4 = .ok (.iconst 0, 1) := by decide +kernel
theorem dX1_paint_5 : decode cX1_paint 5 = .ok (.invokestatic 27, 3) := by decide +kernel
theorem dX1_paint_8 : decode cX1_paint 8 = .ok (.iconst 0, 1) := by decide +kernel
theorem dX1_paint_9 : decode cX1_paint 9 = .ok (.istore_n 2, 1) := by decide +kernel
theorem dX1_paint_10 : decode cX1_paint 10 = .ok (.iload_n 2, 1) := by decide +kernel
theorem dX1_paint_11 : decode cX1_paint 11 = .ok (.aload_n 1, 1) := by decide +kernel
theorem dX1_paint_12 : decode cX1_paint 12 = .ok (.invokevirtual 33, 3) := by decide +kernel
theorem dX1_paint_15 : decode cX1_paint 15 = .ok (.if_icmp .ge 15, 3) := by decide +kernel
theorem dX1_paint_18 : decode cX1_paint 18 = .ok (.aload_n 0, 1) := by decide +kernel
theorem dX1_paint_19 : decode cX1_paint 19 = .ok (.aload_n 1, 1) := by decide +kernel
theorem dX1_paint_20 : decode cX1_paint 20 = .ok (.iload_n 2, 1) := by decide +kernel
theorem dX1_paint_21 : decode cX1_paint 21 = .ok (.invokevirtual 37, 3) := by decide +kernel
theorem dX1_paint_24 : decode cX1_paint 24 = .ok (.iinc 2 1, 3) := by decide +kernel
theorem dX1_paint_27 : decode cX1_paint 27 = .ok (.goto (-17), 3) := by decide +kernel
theorem dX1_paint_30 : decode cX1_paint 30 = .ok (.aload_n 0, 1) := by decide +kernel
theorem dX1_paint_31 : decode cX1_paint 31 = .ok (.aload_n 1, 1) := by decide +kernel
theorem dX1_paint_32 : decode cX1_paint 32 = .ok (.iconst 1, 1) := by decide +kernel
theorem dX1_paint_33 : decode cX1_paint 33 = .ok (.invokevirtual 41, 3) := by decide +kernel
theorem dX1_paint_36 : decode cX1_paint 36 = .ok (.ifCond .ne 5, 3) := by decide +kernel
theorem dX1_paint_39 : decode cX1_paint 39 = .ok (.iconst (-1), 1) := by decide +kernel
theorem dX1_paint_40 : decode cX1_paint 40 = .ok (.ireturn, 1) := by decide +kernel
theorem dX1_paint_41 : decode cX1_paint 41 = .ok (.iconst 0, 1) := by decide +kernel
theorem dX1_paint_42 : decode cX1_paint 42 = .ok (.istore_n 2, 1) := by decide +kernel
theorem dX1_paint_43 : decode cX1_paint 43 = .ok (.iload_n 2, 1) := by decide +kernel
theorem dX1_paint_44 : decode cX1_paint 44 = .ok (.sipush 1500, 3) := by decide +kernel
theorem dX1_paint_47 : decode cX1_paint 47 = .ok (.if_icmp .ge 35, 3) := by decide +kernel
theorem dX1_paint_50 : decode cX1_paint 50 = .ok (.aload_n 0, 1) := by decide +kernel
theorem dX1_paint_51 : decode cX1_paint 51 = .ok (.aload_n 1, 1) := by decide +kernel
theorem dX1_paint_52 : decode cX1_paint 52 = .ok (.iconst 0, 1) := by decide +kernel
theorem dX1_paint_53 : decode cX1_paint 53 = .ok (.invokevirtual 41, 3) := by decide +kernel
theorem dX1_paint_56 : decode cX1_paint 56 = .ok (.ifCond .eq 10, 3) := by decide +kernel
theorem dX1_paint_59 : decode cX1_paint 59 = .ok (.aload_n 0, 1) := by decide +kernel
theorem dX1_paint_60 : decode cX1_paint 60 = .ok (.aload_n 1, 1) := by decide +kernel
theorem dX1_paint_61 : decode cX1_paint 61 = .ok (.invokevirtual 45, 3) := by decide +kernel
theorem dX1_paint_64 : decode cX1_paint 64 = .ok (.iload_n 2, 1) := by decide +kernel
theorem dX1_paint_65 : decode cX1_paint 65 = .ok (.ireturn, 1) := by decide +kernel
theorem dX1_paint_66 : decode cX1_paint 66 = .ok (.aload_n 0, 1) := by decide +kernel
theorem dX1_paint_67 : decode cX1_paint 67 = .ok (.aload_n 1, 1) := by decide +kernel
theorem dX1_paint_68 : decode cX1_paint 68 = .ok (.invokevirtual 49, 3) := by decide +kernel
theorem dX1_paint_71 : decode cX1_paint 71 = .ok (.ifCond .ne 5, 3) := by decide +kernel
theorem dX1_paint_74 : decode cX1_paint 74 = .ok (.iconst (-1), 1) := by decide +kernel
theorem dX1_paint_75 : decode cX1_paint 75 = .ok (.ireturn, 1) := by decide +kernel
theorem dX1_paint_76 : decode cX1_paint 76 = .ok (.iinc 2 1, 3) := by decide +kernel
theorem dX1_paint_79 : decode cX1_paint 79 = .ok (.goto (-36), 3) := by decide +kernel
theorem dX1_paint_82 : decode cX1_paint 82 = .ok (.iconst (-1), 1) := by decide +kernel
theorem dX1_paint_83 : decode cX1_paint 83 = .ok (.ireturn, 1) := by decide +kernel
set_option maxRecDepth 20000 in
theorem ggX1_turnOn_X4_letters : GoodIn wsX1_turnOn wsX4_letters := goodIn_r _ [6, 7, 50, 51, 52, 53, 54, 55] (by decide +kernel) (by decide +kernel)
set_option maxRecDepth 20000 in
theorem gX1_turnOn_X4_letters : GoodIn wsX1_turnOn (wsV RX1 53 RX4 yX4_letters wsX4_letters) := goodIn_app (goodIn_of _ (by decide +kernel)) ggX1_turnOn_X4_letters
set_option maxRecDepth 20000 in
theorem ggX1_turnOn_X1_ordersOf : GoodIn wsX1_turnOn wsX1_ordersOf := goodIn_r _ [11] (by decide +kernel) (by decide +kernel)
set_option maxRecDepth 20000 in
theorem gX1_turnOn_X1_ordersOf : GoodIn wsX1_turnOn (va_wsS RX1 56 yX1_ordersOf wsX1_ordersOf) := goodIn_app (goodIn_of _ (by decide +kernel)) ggX1_turnOn_X1_ordersOf
set_option maxRecDepth 20000 in
theorem ggX1_turnOn_X4_states : GoodIn wsX1_turnOn wsX4_states := goodIn_r _ [15, 16, 50, 51, 52, 53, 54, 55] (by decide +kernel) (by decide +kernel)
set_option maxRecDepth 20000 in
theorem gX1_turnOn_X4_states : GoodIn wsX1_turnOn (wsV RX1 33 RX4 yX4_states wsX4_states) := goodIn_app (goodIn_of _ (by decide +kernel)) ggX1_turnOn_X4_states
set_option maxRecDepth 20000 in
theorem ggX1_turnOn_X1_exchange : GoodIn wsX1_turnOn wsX1_exchange := goodIn_r _ [20, 21, 2, 3, 4, 5, 6, 7, 22, 23, 24, 10, 25, 1, 26, 27, 28, 29, 30, 31, 32, 33, 16, 34, 35, 36, 37, 38, 39, 40, 41, 42, 43, 44, 45, 46, 47, 48, 49, 50, 51, 52, 53, 54, 55] (by decide +kernel) (by decide +kernel)
set_option maxRecDepth 20000 in
theorem gX1_turnOn_X1_exchange : GoodIn wsX1_turnOn (wsV RX1 37 RX1 yX1_exchange wsX1_exchange) := goodIn_app (goodIn_of _ (by decide +kernel)) ggX1_turnOn_X1_exchange
theorem dX1_turnOn_0 : decode cX1_turnOn 0 = .ok (.aload_n 1, 1) := by decide +kernel
theorem dX1_turnOn_1 : decode cX1_turnOn 1 = .ok (.invokevirtual 53, 3) := by decide +kernel
theorem dX1_turnOn_4 : decode cX1_turnOn 4 = .ok (.invokestatic 56, 3) := by decide +kernel
theorem dX1_turnOn_7 : decode cX1_turnOn 7 = .ok (.istore_n 2, 1) := by decide +kernel
theorem dX1_turnOn_8 : decode cX1_turnOn 8 = .ok (.aload_n 1, 1) := by decide +kernel
theorem dX1_turnOn_9 : decode cX1_turnOn 9 = .ok (.invokevirtual 33, 3) := by decide +kernel
theorem dX1_turnOn_12 : decode cX1_turnOn 12 = .ok (.iconst 1, 1) := by decide +kernel
theorem dX1_turnOn_13 : decode cX1_turnOn 13 = .ok (.isub, 1) := by decide +kernel
theorem dX1_turnOn_14 : decode cX1_turnOn 14 = .ok (.istore_n 3, 1) := by decide +kernel
theorem dX1_turnOn_15 : decode cX1_turnOn 15 = .ok (.iload_n 3, 1) := by decide +kernel
theorem dX1_turnOn_16 : decode cX1_turnOn 16 = .ok (.ifCond .lt 67, 3) := by decide +kernel
theorem dX1_turnOn_19 : decode cX1_turnOn 19 = .ok (.iload_n 3, 1) := by decide +kernel
theorem dX1_turnOn_20 : decode cX1_turnOn 20 = .ok (.bipush 12, 2) := by decide +kernel
theorem dX1_turnOn_22 : decode cX1_turnOn 22 = .ok (.if_icmp .ge 61, 3) := by decide +kernel
theorem dX1_turnOn_25 : decode cX1_turnOn 25 = .ok (.aload_n 0, 1) := by decide +kernel
theorem dX1_turnOn_26 : decode cX1_turnOn 26 = .ok (.getfield 9, 3) := by decide +kernel
theorem dX1_turnOn_29 : decode cX1_turnOn 29 = .ok (.iload_n 3, 1) := by decide +kernel
theorem dX1_turnOn_30 : decode cX1_turnOn 30 = .ok (.dup2, 1) := by decide +kernel
theorem dX1_turnOn_31 : decode cX1_turnOn 31 = .ok (.iaload, 1) := by decide +kernel
theorem dX1_turnOn_32 : decode cX1_turnOn 32 = .ok (.iconst 1, 1) := by decide +kernel
theorem dX1_turnOn_33 : decode cX1_turnOn 33 = .ok (.iadd, 1) := by decide +kernel
theorem dX1_turnOn_34 : decode cX1_turnOn 34 = .ok (.iastore, 1) := by decide +kernel
theorem dX1_turnOn_35 : decode cX1_turnOn 35 = .ok (.aload_n 0, 1) := by decide +kernel
theorem dX1_turnOn_36 : decode cX1_turnOn 36 = .ok (.getfield 9, 3) := by decide +kernel
theorem dX1_turnOn_39 : decode cX1_turnOn 39 = .ok (.iload_n 3, 1) := by decide +kernel
theorem dX1_turnOn_40 : decode cX1_turnOn 40 = .ok (.iaload, 1) := by decide +kernel
theorem dX1_turnOn_41 : decode cX1_turnOn 41 = .ok (.iload_n 2, 1) := by decide +kernel
theorem dX1_turnOn_42 : decode cX1_turnOn 42 = .ok (.if_icmp .ge 7, 3) := by decide +kernel
theorem dX1_turnOn_45 : decode cX1_turnOn 45 = .ok (.iconst 1, 1) := by decide +kernel
theorem dX1_turnOn_46 : decode cX1_turnOn 46 = .ok (.goto 4, 3) := by decide +kernel
theorem dX1_turnOn_49 : decode cX1_turnOn 49 = .ok (.iconst 0, 1) := by decide +kernel
theorem dX1_turnOn_50 : decode cX1_turnOn 50 = .ok (.istore 4, 2) := by decide +kernel
theorem dX1_turnOn_52 : decode cX1_turnOn 52 = .ok (.iload 4, 2) := by decide +kernel
theorem dX1_turnOn_54 : decode cX1_turnOn 54 = .ok (.ifCond .ne 10, 3) := by decide +kernel
theorem dX1_turnOn_57 : decode cX1_turnOn 57 = .ok (.aload_n 0, 1) := by decide +kernel
theorem dX1_turnOn_58 : decode cX1_turnOn 58 = .ok (.getfield 9, 3) := by decide +kernel
theorem dX1_turnOn_61 : decode cX1_turnOn 61 = .ok (.iload_n 3, 1) := by decide +kernel
theorem dX1_turnOn_62 : decode cX1_turnOn 62 = .ok (.iconst 0, 1) := by decide +kernel
theorem dX1_turnOn_63 : decode cX1_turnOn 63 = .ok (.iastore, 1) := by decide +kernel
theorem dX1_turnOn_64 : decode cX1_turnOn 64 = .ok (.aload_n 0, 1) := by decide +kernel
theorem dX1_turnOn_65 : decode cX1_turnOn 65 = .ok (.aload_n 1, 1) := by decide +kernel
theorem dX1_turnOn_66 : decode cX1_turnOn 66 = .ok (.iload_n 3, 1) := by decide +kernel
theorem dX1_turnOn_67 : decode cX1_turnOn 67 = .ok (.invokevirtual 37, 3) := by decide +kernel
theorem dX1_turnOn_70 : decode cX1_turnOn 70 = .ok (.iload 4, 2) := by decide +kernel
theorem dX1_turnOn_72 : decode cX1_turnOn 72 = .ok (.ifCond .eq 5, 3) := by decide +kernel
theorem dX1_turnOn_75 : decode cX1_turnOn 75 = .ok (.iconst 1, 1) := by decide +kernel
theorem dX1_turnOn_76 : decode cX1_turnOn 76 = .ok (.ireturn, 1) := by decide +kernel
theorem dX1_turnOn_77 : decode cX1_turnOn 77 = .ok (.iinc 3 (-1), 3) := by decide +kernel
theorem dX1_turnOn_80 : decode cX1_turnOn 80 = .ok (.goto (-65), 3) := by decide +kernel
theorem dX1_turnOn_83 : decode cX1_turnOn 83 = .ok (.iconst 0, 1) := by decide +kernel
theorem dX1_turnOn_84 : decode cX1_turnOn 84 = .ok (.ireturn, 1) := by decide +kernel
theorem dX1_ordersOf_0 : decode cX1_ordersOf 0 = .ok (.iconst 1, 1) := by decide +kernel
theorem dX1_ordersOf_1 : decode cX1_ordersOf 1 = .ok (.istore_n 1, 1) := by decide +kernel
theorem dX1_ordersOf_2 : decode cX1_ordersOf 2 = .ok (.iconst 2, 1) := by decide +kernel
theorem dX1_ordersOf_3 : decode cX1_ordersOf 3 = .ok (.istore_n 2, 1) := by decide +kernel
theorem dX1_ordersOf_4 : decode cX1_ordersOf 4 = .ok (.iload_n 2, 1) := by decide +kernel
theorem dX1_ordersOf_5 : decode cX1_ordersOf 5 = .ok (.iload_n 0, 1) := by decide +kernel
theorem dX1_ordersOf_6 : decode cX1_ordersOf 6 = .ok (.if_icmp .gt 13, 3) := by decide +kernel
theorem dX1_ordersOf_9 : decode cX1_ordersOf 9 = .ok (.iload_n 1, 1) := by decide +kernel
theorem dX1_ordersOf_10 : decode cX1_ordersOf 10 = .ok (.iload_n 2, 1) := by decide +kernel
theorem dX1_ordersOf_11 : decode cX1_ordersOf 11 = .ok (.imul, 1) := by decide +kernel
theorem dX1_ordersOf_12 : decode cX1_ordersOf 12 = .ok (.istore_n 1, 1) := by decide +kernel
theorem dX1_ordersOf_13 : decode cX1_ordersOf 13 = .ok (.iinc 2 1, 3) := by decide +kernel
theorem dX1_ordersOf_16 : decode cX1_ordersOf 16 = .ok (.goto (-12), 3) := by decide +kernel
theorem dX1_ordersOf_19 : decode cX1_ordersOf 19 = .ok (.iload_n 1, 1) := by decide +kernel
theorem dX1_ordersOf_20 : decode cX1_ordersOf 20 = .ok (.ireturn, 1) := by decide +kernel
set_option maxRecDepth 20000 in
theorem ggX1_exchange_X4_letters : GoodIn wsX1_exchange wsX4_letters := goodIn_r _ [6, 7, 39, 40, 41, 42, 43, 44] (by decide +kernel) (by decide +kernel)
set_option maxRecDepth 20000 in
theorem gX1_exchange_X4_letters : GoodIn wsX1_exchange (wsV RX1 53 RX4 yX4_letters wsX4_letters) := goodIn_app (goodIn_of _ (by decide +kernel)) ggX1_exchange_X4_letters
set_option maxRecDepth 20000 in
theorem ggX1_exchange_X1_orderOf : GoodIn wsX1_exchange wsX1_orderOf := goodIn_r _ [12, 13, 36, 37, 38] (by decide +kernel) (by decide +kernel)
set_option maxRecDepth 20000 in
theorem gX1_exchange_X1_orderOf : GoodIn wsX1_exchange (wsV RX1 60 RX1 yX1_orderOf wsX1_orderOf) := goodIn_app (goodIn_of _ (by decide +kernel)) ggX1_exchange_X1_orderOf
set_option maxRecDepth 20000 in
theorem ggX1_exchange_X1_letterOf : GoodIn wsX1_exchange wsX1_letterOf := goodIn_r _ [16, 17] (by decide +kernel) (by decide +kernel)
set_option maxRecDepth 20000 in
theorem gX1_exchange_X1_letterOf : GoodIn wsX1_exchange (va_wsS RX1 63 yX1_letterOf wsX1_letterOf) := goodIn_app (goodIn_of _ (by decide +kernel)) ggX1_exchange_X1_letterOf
set_option maxRecDepth 20000 in
theorem ggX1_exchange_X4_target : GoodIn wsX1_exchange wsX4_target := goodIn_r _ [21, 22, 7, 23, 39, 40, 41, 42, 43, 44] (by decide +kernel) (by decide +kernel)
set_option maxRecDepth 20000 in
theorem gX1_exchange_X4_target : GoodIn wsX1_exchange (wsV RX1 67 RX4 yX4_target wsX4_target) := goodIn_app (goodIn_of _ (by decide +kernel)) ggX1_exchange_X4_target
set_option maxRecDepth 20000 in
theorem ggX1_exchange_X4_lead : GoodIn wsX1_exchange wsX4_lead := goodIn_r _ [27, 23, 28, 29, 30, 5, 31, 22, 32, 33, 34, 35, 7, 39, 40, 41, 42, 43, 44] (by decide +kernel) (by decide +kernel)
set_option maxRecDepth 20000 in
theorem gX1_exchange_X4_lead : GoodIn wsX1_exchange (wsV RX1 71 RX4 yX4_lead wsX4_lead) := goodIn_app (goodIn_of _ (by decide +kernel)) ggX1_exchange_X4_lead
theorem dX1_exchange_0 : decode cX1_exchange 0 = .ok (.iconst 0, 1) := by decide +kernel
theorem dX1_exchange_1 : decode cX1_exchange 1 = .ok (.istore_n 3, 1) := by decide +kernel
theorem dX1_exchange_2 : decode cX1_exchange 2 = .ok (.iload_n 3, 1) := by decide +kernel
theorem dX1_exchange_3 : decode cX1_exchange 3 = .ok (.aload_n 1, 1) := by decide +kernel
theorem dX1_exchange_4 : decode cX1_exchange 4 = .ok (.invokevirtual 53, 3) := by decide +kernel
theorem dX1_exchange_7 : decode cX1_exchange 7 = .ok (.if_icmp .ge 36, 3) := by decide +kernel
theorem dX1_exchange_10 : decode cX1_exchange 10 = .ok (.aload_n 0, 1) := by decide +kernel
theorem dX1_exchange_11 : decode cX1_exchange 11 = .ok (.getfield 23, 3) := by decide +kernel
theorem dX1_exchange_14 : decode cX1_exchange 14 = .ok (.iload_n 2, 1) := by decide +kernel
theorem dX1_exchange_15 : decode cX1_exchange 15 = .ok (.iload_n 3, 1) := by decide +kernel
theorem dX1_exchange_16 : decode cX1_exchange 16 = .ok (.aload_n 1, 1) := by decide +kernel
theorem dX1_exchange_17 : decode cX1_exchange 17 = .ok (.iload_n 2, 1) := by decide +kernel
theorem dX1_exchange_18 : decode cX1_exchange 18 = .ok (.aload_n 0, 1) := by decide +kernel
theorem dX1_exchange_19 : decode cX1_exchange 19 = .ok (.iload_n 2, 1) := by decide +kernel
theorem dX1_exchange_20 : decode cX1_exchange 20 = .ok (.invokevirtual 60, 3) := by decide +kernel
theorem dX1_exchange_23 : decode cX1_exchange 23 = .ok (.iload_n 3, 1) := by decide +kernel
theorem dX1_exchange_24 : decode cX1_exchange 24 = .ok (.aload_n 1, 1) := by decide +kernel
theorem dX1_exchange_25 : decode cX1_exchange 25 = .ok (.invokevirtual 53, 3) := by decide +kernel
theorem dX1_exchange_28 : decode cX1_exchange 28 = .ok (.invokestatic 63, 3) := by decide +kernel
theorem dX1_exchange_31 : decode cX1_exchange 31 = .ok (.invokevirtual 67, 3) := by decide +kernel
theorem dX1_exchange_34 : decode cX1_exchange 34 = .ok (.invokevirtual 71, 3) := by decide +kernel
theorem dX1_exchange_37 : decode cX1_exchange 37 = .ok (.iinc 3 1, 3) := by decide +kernel
theorem dX1_exchange_40 : decode cX1_exchange 40 = .ok (.goto (-38), 3) := by decide +kernel
theorem dX1_exchange_43 : decode cX1_exchange 43 = .ok (.return_, 1) := by decide +kernel
theorem dX1_orderOf_0 : decode cX1_orderOf 0 = .ok (.iload_n 1, 1) := by decide +kernel
theorem dX1_orderOf_1 : decode cX1_orderOf 1 = .ok (.ifCond .lt 18, 3) := by decide +kernel
theorem dX1_orderOf_4 : decode cX1_orderOf 4 = .ok (.iload_n 1, 1) := by decide +kernel
theorem dX1_orderOf_5 : decode cX1_orderOf 5 = .ok (.bipush 12, 2) := by decide +kernel
theorem dX1_orderOf_7 : decode cX1_orderOf 7 = .ok (.if_icmp .ge 12, 3) := by decide +kernel
theorem dX1_orderOf_10 : decode cX1_orderOf 10 = .ok (.aload_n 0, 1) := by decide +kernel
theorem dX1_orderOf_11 : decode cX1_orderOf 11 = .ok (.getfield 9, 3) := by decide +kernel
theorem dX1_orderOf_14 : decode cX1_orderOf 14 = .ok (.iload_n 1, 1) := by decide +kernel
theorem dX1_orderOf_15 : decode cX1_orderOf 15 = .ok (.iaload, 1) := by decide +kernel
theorem dX1_orderOf_16 : decode cX1_orderOf 16 = .ok (.goto 4, 3) := by decide +kernel
theorem dX1_orderOf_19 : decode cX1_orderOf 19 = .ok (.iconst 0, 1) := by decide +kernel
theorem dX1_orderOf_20 : decode cX1_orderOf 20 = .ok (.ireturn, 1) := by decide +kernel
theorem dX1_letterOf_0 : decode cX1_letterOf 0 = .ok (.iconst 4, 1) := by decide +kernel
theorem dX1_letterOf_1 : decode cX1_letterOf 1 = .ok (.iload_n 2, 1) := by decide +kernel
theorem dX1_letterOf_2 : decode cX1_letterOf 2 = .ok (.isub, 1) := by decide +kernel
theorem dX1_letterOf_3 : decode cX1_letterOf 3 = .ok (.istore_n 3, 1) := by decide +kernel
theorem dX1_letterOf_4 : decode cX1_letterOf 4 = .ok (.iload_n 0, 1) := by decide +kernel
theorem dX1_letterOf_5 : decode cX1_letterOf 5 = .ok (.iconst 4, 1) := by decide +kernel
theorem dX1_letterOf_6 : decode cX1_letterOf 6 = .ok (.imul, 1) := by decide +kernel
theorem dX1_letterOf_7 : decode cX1_letterOf 7 = .ok (.iload_n 3, 1) := by decide +kernel
theorem dX1_letterOf_8 : decode cX1_letterOf 8 = .ok (.iadd, 1) := by decide +kernel
theorem dX1_letterOf_9 : decode cX1_letterOf 9 = .ok (.iload_n 1, 1) := by decide +kernel
theorem dX1_letterOf_10 : decode cX1_letterOf 10 = .ok (.iadd, 1) := by decide +kernel
theorem dX1_letterOf_11 : decode cX1_letterOf 11 = .ok (.istore 4, 2) := by decide +kernel
theorem dX1_letterOf_13 : decode cX1_letterOf 13 = .ok (.iload 4, 2) := by decide +kernel
theorem dX1_letterOf_15 : decode cX1_letterOf 15 = .ok (.ifCond .lt 23, 3) := by decide +kernel
theorem dX1_letterOf_18 : decode cX1_letterOf 18 = .ok (.iload 4, 2) := by decide +kernel
theorem dX1_letterOf_20 : decode cX1_letterOf 20 = .ok (.getstatic 75, 3) := by decide +kernel
theorem dX1_letterOf_23 : decode cX1_letterOf 23 = .ok (.arraylength, 1) := by decide +kernel
theorem dX1_letterOf_24 : decode cX1_letterOf 24 = .ok (.if_icmp .ge 14, 3) := by decide +kernel
theorem dX1_letterOf_27 : decode cX1_letterOf 27 = .ok (.getstatic 75, 3) := by decide +kernel
theorem dX1_letterOf_30 : decode cX1_letterOf 30 = .ok (.iload 4, 2) := by decide +kernel
theorem dX1_letterOf_32 : decode cX1_letterOf 32 = .ok (.iaload, 1) := by decide +kernel
theorem dX1_letterOf_33 : decode cX1_letterOf 33 = .ok (.iload_n 3, 1) := by decide +kernel
theorem dX1_letterOf_34 : decode cX1_letterOf 34 = .ok (.isub, 1) := by decide +kernel
theorem dX1_letterOf_35 : decode cX1_letterOf 35 = .ok (.goto 4, 3) := by decide +kernel
theorem dX1_letterOf_38 : decode cX1_letterOf 38 = .ok (.iconst (-1), 1) := by decide +kernel
theorem dX1_letterOf_39 : decode cX1_letterOf 39 = .ok (.ireturn, 1) := by decide +kernel
set_option maxRecDepth 20000 in
theorem ggX1_takeOver_X4_states : GoodIn wsX1_takeOver wsX4_states := goodIn_r _ [6, 7, 33, 34, 35, 36, 37, 38] (by decide +kernel) (by decide +kernel)
set_option maxRecDepth 20000 in
theorem gX1_takeOver_X4_states : GoodIn wsX1_takeOver (wsV RX1 33 RX4 yX4_states wsX4_states) := goodIn_app (goodIn_of _ (by decide +kernel)) ggX1_takeOver_X4_states
set_option maxRecDepth 20000 in
theorem ggX1_takeOver_X4_letters : GoodIn wsX1_takeOver wsX4_letters := goodIn_r _ [11, 12, 33, 34, 35, 36, 37, 38] (by decide +kernel) (by decide +kernel)
set_option maxRecDepth 20000 in
theorem gX1_takeOver_X4_letters : GoodIn wsX1_takeOver (wsV RX1 53 RX4 yX4_letters wsX4_letters) := goodIn_app (goodIn_of _ (by decide +kernel)) ggX1_takeOver_X4_letters
set_option maxRecDepth 20000 in
theorem ggX1_takeOver_X4_target : GoodIn wsX1_takeOver wsX4_target := goodIn_r _ [16, 7, 12, 17, 33, 34, 35, 36, 37, 38] (by decide +kernel) (by decide +kernel)
set_option maxRecDepth 20000 in
theorem gX1_takeOver_X4_target : GoodIn wsX1_takeOver (wsV RX1 67 RX4 yX4_target wsX4_target) := goodIn_app (goodIn_of _ (by decide +kernel)) ggX1_takeOver_X4_target
set_option maxRecDepth 20000 in
theorem ggX1_takeOver_X4_lead : GoodIn wsX1_takeOver wsX4_lead := goodIn_r _ [21, 17, 22, 23, 24, 5, 25, 7, 26, 27, 28, 29, 12, 33, 34, 35, 36, 37, 38] (by decide +kernel) (by decide +kernel)
set_option maxRecDepth 20000 in
theorem gX1_takeOver_X4_lead : GoodIn wsX1_takeOver (wsV RX1 71 RX4 yX4_lead wsX4_lead) := goodIn_app (goodIn_of _ (by decide +kernel)) ggX1_takeOver_X4_lead
theorem dX1_takeOver_0 : decode cX1_takeOver 0 = .ok (.iconst 0, 1) := by decide +kernel
theorem dX1_takeOver_1 : decode cX1_takeOver 1 = .ok (.istore_n 2, 1) := by decide +kernel
theorem dX1_takeOver_2 : decode cX1_takeOver 2 = .ok (.iload_n 2, 1) := by decide +kernel
theorem dX1_takeOver_3 : decode cX1_takeOver 3 = .ok (.aload_n 1, 1) := by decide +kernel
theorem dX1_takeOver_4 : decode cX1_takeOver 4 = .ok (.invokevirtual 33, 3) := by decide +kernel
theorem dX1_takeOver_7 : decode cX1_takeOver 7 = .ok (.if_icmp .ge 40, 3) := by decide +kernel
theorem dX1_takeOver_10 : decode cX1_takeOver 10 = .ok (.iconst 0, 1) := by decide +kernel
theorem dX1_takeOver_11 : decode cX1_takeOver 11 = .ok (.istore_n 3, 1) := by decide +kernel
theorem dX1_takeOver_12 : decode cX1_takeOver 12 = .ok (.iload_n 3, 1) := by decide +kernel
theorem dX1_takeOver_13 : decode cX1_takeOver 13 = .ok (.aload_n 1, 1) := by decide +kernel
theorem dX1_takeOver_14 : decode cX1_takeOver 14 = .ok (.invokevirtual 53, 3) := by decide +kernel
theorem dX1_takeOver_17 : decode cX1_takeOver 17 = .ok (.if_icmp .ge 24, 3) := by decide +kernel
theorem dX1_takeOver_20 : decode cX1_takeOver 20 = .ok (.aload_n 1, 1) := by decide +kernel
theorem dX1_takeOver_21 : decode cX1_takeOver 21 = .ok (.iload_n 2, 1) := by decide +kernel
theorem dX1_takeOver_22 : decode cX1_takeOver 22 = .ok (.iload_n 3, 1) := by decide +kernel
theorem dX1_takeOver_23 : decode cX1_takeOver 23 = .ok (.aload_n 0, 1) := by decide +kernel
theorem dX1_takeOver_24 : decode cX1_takeOver 24 = .ok (.getfield 23, 3) := by decide +kernel
theorem dX1_takeOver_27 : decode cX1_takeOver 27 = .ok (.iload_n 2, 1) := by decide +kernel
theorem dX1_takeOver_28 : decode cX1_takeOver 28 = .ok (.iload_n 3, 1) := by decide +kernel
theorem dX1_takeOver_29 : decode cX1_takeOver 29 = .ok (.invokevirtual 67, 3) := by decide +kernel
theorem dX1_takeOver_32 : decode cX1_takeOver 32 = .ok (.invokevirtual 71, 3) := by decide +kernel
theorem dX1_takeOver_35 : decode cX1_takeOver 35 = .ok (.iinc 3 1, 3) := by decide +kernel
theorem dX1_takeOver_38 : decode cX1_takeOver 38 = .ok (.goto (-26), 3) := by decide +kernel
theorem dX1_takeOver_41 : decode cX1_takeOver 41 = .ok (.iinc 2 1, 3) := by decide +kernel
theorem dX1_takeOver_44 : decode cX1_takeOver 44 = .ok (.goto (-42), 3) := by decide +kernel
theorem dX1_takeOver_47 : decode cX1_takeOver 47 = .ok (.return_, 1) := by decide +kernel
set_option maxRecDepth 20000 in
theorem ggX1_allComeTogether_X4_states : GoodIn wsX1_allComeTogether wsX4_states := goodIn_r _ [6, 7, 34, 35, 36, 37, 38, 39] (by decide +kernel) (by decide +kernel)
set_option maxRecDepth 20000 in
theorem gX1_allComeTogether_X4_states : GoodIn wsX1_allComeTogether (wsV RX1 33 RX4 yX4_states wsX4_states) := goodIn_app (goodIn_of _ (by decide +kernel)) ggX1_allComeTogether_X4_states
set_option maxRecDepth 20000 in
theorem ggX1_allComeTogether_X1_sweepPairs : GoodIn wsX1_allComeTogether wsX1_sweepPairs := goodIn_r _ [12, 1, 2, 3, 4, 5, 6, 7, 13, 14, 15, 11, 16, 17, 18, 19, 20, 21, 22, 23, 24, 25, 26, 27, 28, 29, 30, 31, 32, 33, 34, 35, 36, 37, 38, 39] (by decide +kernel) (by decide +kernel)
set_option maxRecDepth 20000 in
theorem gX1_allComeTogether_X1_sweepPairs : GoodIn wsX1_allComeTogether (wsV RX1 78 RX1 yX1_sweepPairs wsX1_sweepPairs) := goodIn_app (goodIn_of _ (by decide +kernel)) ggX1_allComeTogether_X1_sweepPairs
theorem dX1_allComeTogether_0 : decode cX1_allComeTogether 0 = .ok (.iconst 0, 1) := by decide +kernel
theorem dX1_allComeTogether_1 : decode cX1_allComeTogether 1 = .ok (.istore_n 3, 1) := by decide +kernel
theorem dX1_allComeTogether_2 : decode cX1_allComeTogether 2 = .ok (.iload_n 3, 1) := by decide +kernel
theorem dX1_allComeTogether_3 : decode cX1_allComeTogether 3 = .ok (.bipush 12, 2) := by decide +kernel
theorem dX1_allComeTogether_5 : decode cX1_allComeTogether 5 = .ok (.if_icmp .ge 18, 3) := by decide +kernel
theorem dX1_allComeTogether_8 : decode cX1_allComeTogether 8 = .ok (.aload_n 0, 1) := by decide +kernel
theorem dX1_allComeTogether_9 : decode cX1_allComeTogether 9 = .ok (.getfield 15, 3) := by decide +kernel
theorem dX1_allComeTogether_12 : decode cX1_allComeTogether 12 = .ok (.iload_n 3, 1) := by decide +kernel
theorem dX1_allComeTogether_13 : decode cX1_allComeTogether 13 = .ok (.iconst 1, 1) := by decide +kernel
theorem dX1_allComeTogether_14 : decode cX1_allComeTogether 14 = .ok (.iload_n 3, 1) := by decide +kernel
theorem dX1_allComeTogether_15 : decode cX1_allComeTogether 15 = .ok (.ishl, 1) := by decide +kernel
theorem dX1_allComeTogether_16 : decode cX1_allComeTogether 16 = .ok (.iastore, 1) := by decide +kernel
theorem dX1_allComeTogether_17 : decode cX1_allComeTogether 17 = .ok (.iinc 3 1, 3) := by decide +kernel
theorem dX1_allComeTogether_20 : decode cX1_allComeTogether 20 = .ok (.goto (-18), 3) := by decide +kernel
theorem dX1_allComeTogether_23 : decode cX1_allComeTogether 23 = .ok (.aload_n 1, 1) := by decide +kernel
theorem dX1_allComeTogether_24 : decode cX1_allComeTogether 24 = .ok (.invokevirtual 33, 3) := by decide +kernel
theorem dX1_allComeTogether_27 : decode cX1_allComeTogether 27 = .ok (.aload_n 1, 1) := by decide +kernel
theorem dX1_allComeTogether_28 : decode cX1_allComeTogether 28 = .ok (.invokevirtual 33, 3) := by decide +kernel
theorem dX1_allComeTogether_31 : decode cX1_allComeTogether 31 = .ok (.iconst 1, 1) := by decide +kernel
theorem dX1_allComeTogether_32 : decode cX1_allComeTogether 32 = .ok (.isub, 1) := by decide +kernel
theorem dX1_allComeTogether_33 : decode cX1_allComeTogether 33 = .ok (.imul, 1) := by decide +kernel
theorem dX1_allComeTogether_34 : decode cX1_allComeTogether 34 = .ok (.iconst 2, 1) := by decide +kernel
theorem dX1_allComeTogether_35 : decode cX1_allComeTogether 35 = .ok (.idiv, 1) := by decide +kernel
theorem dX1_allComeTogether_36 : decode cX1_allComeTogether 36 = .ok (.istore_n 3, 1) := by decide +kernel
theorem dX1_allComeTogether_37 : decode cX1_allComeTogether 37 = .ok (.iload_n 3, 1) := by decide +kernel
theorem dX1_allComeTogether_38 : decode cX1_allComeTogether 38 = .ok (.iconst 1, 1) := by decide +kernel
theorem dX1_allComeTogether_39 : decode cX1_allComeTogether 39 = .ok (.iadd, 1) := by decide +kernel
theorem dX1_allComeTogether_40 : decode cX1_allComeTogether 40 = .ok (.istore 4, 2) := by decide +kernel
theorem dX1_allComeTogether_42 : decode cX1_allComeTogether 42 = .ok (.iconst 0, 1) := by decide +kernel
theorem dX1_allComeTogether_43 : decode cX1_allComeTogether 43 = .ok (.istore 5, 2) := by decide +kernel
theorem dX1_allComeTogether_45 : decode cX1_allComeTogether 45 = .ok (.iload 5, 2) := by decide +kernel
theorem dX1_allComeTogether_47 : decode cX1_allComeTogether 47 = .ok (.sipush 144, 3) := by decide +kernel
theorem dX1_allComeTogether_50 : decode cX1_allComeTogether 50 = .ok (.if_icmp .ge 31, 3) := by decide +kernel
theorem dX1_allComeTogether_53 : decode cX1_allComeTogether 53 = .ok (.iload_n 3, 1) := by decide +kernel
theorem dX1_allComeTogether_54 : decode cX1_allComeTogether 54 = .ok (.ifCond .le 27, 3) := by decide +kernel
theorem dX1_allComeTogether_57 : decode cX1_allComeTogether 57 = .ok (.iload_n 3, 1) := by decide +kernel
theorem dX1_allComeTogether_58 : decode cX1_allComeTogether 58 = .ok (.iload 4, 2) := by decide +kernel
theorem dX1_allComeTogether_60 : decode cX1_allComeTogether 60 = .ok (.if_icmp .ge 21, 3) := by decide +kernel
theorem dX1_allComeTogether_63 : decode cX1_allComeTogether 63 = .ok (.iload_n 3, 1) := by decide +kernel
theorem dX1_allComeTogether_64 : decode cX1_allComeTogether 64 = .ok (.istore 4, 2) := by decide +kernel
theorem dX1_allComeTogether_66 : decode cX1_allComeTogether 66 = .ok (.iload_n 3, 1) := by decide +kernel
theorem dX1_allComeTogether_67 : decode cX1_allComeTogether 67 = .ok (.aload_n 0, 1) := by decide +kernel
theorem dX1_allComeTogether_68 : decode cX1_allComeTogether 68 = .ok (.aload_n 1, 1) := by decide +kernel
theorem dX1_allComeTogether_69 : decode cX1_allComeTogether 69 = .ok (.iload_n 2, 1) := by decide +kernel
theorem dX1_allComeTogether_70 : decode cX1_allComeTogether 70 = .ok (.invokevirtual 78, 3) := by decide +kernel
theorem dX1_allComeTogether_73 : decode cX1_allComeTogether 73 = .ok (.isub, 1) := by decide +kernel
theorem dX1_allComeTogether_74 : decode cX1_allComeTogether 74 = .ok (.istore_n 3, 1) := by decide +kernel
theorem dX1_allComeTogether_75 : decode cX1_allComeTogether 75 = .ok (.iinc 5 1, 3) := by decide +kernel
theorem dX1_allComeTogether_78 : decode cX1_allComeTogether 78 = .ok (.goto (-33), 3) := by decide +kernel
theorem dX1_allComeTogether_81 : decode cX1_allComeTogether 81 = .ok (.iload_n 3, 1) := by decide +kernel
theorem dX1_allComeTogether_82 : decode cX1_allComeTogether 82 = .ok (.ifCond .ne 7, 3) := by decide +kernel
theorem dX1_allComeTogether_85 : decode cX1_allComeTogether 85 = .ok (.iconst 1, 1) := by decide +kernel
theorem dX1_allComeTogether_86 : decode cX1_allComeTogether 86 = .ok (.goto 4, 3) := by decide +kernel
theorem dX1_allComeTogether_89 : decode cX1_allComeTogether 89 = .ok (.iconst 0, 1) := by decide +kernel
theorem dX1_allComeTogether_90 : decode cX1_allComeTogether 90 = .ok (.ireturn, 1) := by decide +kernel
set_option maxRecDepth 20000 in
theorem ggX1_sweepPairs_X4_states : GoodIn wsX1_sweepPairs wsX4_states := goodIn_r _ [6, 7, 30, 31, 32, 33, 34, 35] (by decide +kernel) (by decide +kernel)
set_option maxRecDepth 20000 in
theorem gX1_sweepPairs_X4_states : GoodIn wsX1_sweepPairs (wsV RX1 33 RX4 yX4_states wsX4_states) := goodIn_app (goodIn_of _ (by decide +kernel)) ggX1_sweepPairs_X4_states
set_option maxRecDepth 20000 in
theorem ggX1_sweepPairs_X1_comeTogether : GoodIn wsX1_sweepPairs wsX1_comeTogether := goodIn_r _ [12, 13, 1, 14, 15, 16, 5, 17, 18, 19, 20, 21, 22, 7, 23, 24, 25, 11, 26, 27, 28, 29, 30, 31, 32, 33, 34, 35] (by decide +kernel) (by decide +kernel)
set_option maxRecDepth 20000 in
theorem gX1_sweepPairs_X1_comeTogether : GoodIn wsX1_sweepPairs (wsV RX1 82 RX1 yX1_comeTogether wsX1_comeTogether) := goodIn_app (goodIn_of _ (by decide +kernel)) ggX1_sweepPairs_X1_comeTogether
theorem dX1_sweepPairs_0 : decode cX1_sweepPairs 0 = .ok (.iconst 0, 1) := by decide +kernel
theorem dX1_sweepPairs_1 : decode cX1_sweepPairs 1 = .ok (.istore_n 3, 1) := by decide +kernel
theorem dX1_sweepPairs_2 : decode cX1_sweepPairs 2 = .ok (.iconst 0, 1) := by decide +kernel
theorem dX1_sweepPairs_3 : decode cX1_sweepPairs 3 = .ok (.istore 4, 2) := by decide +kernel
theorem dX1_sweepPairs_5 : decode cX1_sweepPairs 5 = .ok (.iload 4, 2) := by decide +kernel
theorem dX1_sweepPairs_7 : decode cX1_sweepPairs 7 = .ok (.aload_n 1, 1) := by decide +kernel
theorem dX1_sweepPairs_8 : decode cX1_sweepPairs 8 = .ok (.invokevirtual 33, 3) := by decide +kernel
theorem dX1_sweepPairs_11 : decode cX1_sweepPairs 11 = .ok (.if_icmp .ge 103, 3) := by decide +kernel
theorem dX1_sweepPairs_14 : decode cX1_sweepPairs 14 = .ok (.iload 4, 2) := by decide +kernel
theorem dX1_sweepPairs_16 : decode cX1_sweepPairs 16 = .ok (.bipush 12, 2) := by decide +kernel
theorem dX1_sweepPairs_18 : decode cX1_sweepPairs 18 = .ok (.if_icmp .ge 96, 3) := by decide +kernel
theorem dX1_sweepPairs_21 : decode cX1_sweepPairs 21 = .ok (.iload 4, 2) := by decide +kernel
theorem dX1_sweepPairs_23 : decode cX1_sweepPairs 23 = .ok (.iconst 1, 1) := by decide +kernel
theorem dX1_sweepPairs_24 : decode cX1_sweepPairs 24 = .ok (.iadd, 1) := by decide +kernel
theorem dX1_sweepPairs_25 : decode cX1_sweepPairs 25 = .ok (.istore 5, 2) := by decide +kernel
theorem dX1_sweepPairs_27 : decode cX1_sweepPairs 27 = .ok (.iload 5, 2) := by decide +kernel
theorem dX1_sweepPairs_29 : decode cX1_sweepPairs 29 = .ok (.aload_n 1, 1) := by decide +kernel
theorem dX1_sweepPairs_30 : decode cX1_sweepPairs 30 = .ok (.invokevirtual 33, 3) := by decide +kernel
theorem dX1_sweepPairs_33 : decode cX1_sweepPairs 33 = .ok (.if_icmp .ge 75, 3) := by decide +kernel
theorem dX1_sweepPairs_36 : decode cX1_sweepPairs 36 = .ok (.iload 5, 2) := by decide +kernel
theorem dX1_sweepPairs_38 : decode cX1_sweepPairs 38 = .ok (.bipush 12, 2) := by decide +kernel
theorem dX1_sweepPairs_40 : decode cX1_sweepPairs 40 = .ok (.if_icmp .ge 68, 3) := by decide +kernel
theorem dX1_sweepPairs_43 : decode cX1_sweepPairs 43 = .ok (.aload_n 0, 1) := by decide +kernel
theorem dX1_sweepPairs_44 : decode cX1_sweepPairs 44 = .ok (.getfield 15, 3) := by decide +kernel
theorem dX1_sweepPairs_47 : decode cX1_sweepPairs 47 = .ok (.iload 4, 2) := by decide +kernel
theorem dX1_sweepPairs_49 : decode cX1_sweepPairs 49 = .ok (.iaload, 1) := by decide +kernel
theorem dX1_sweepPairs_50 : decode cX1_sweepPairs 50 = .ok (.iload 5, 2) := by decide +kernel
theorem dX1_sweepPairs_52 : decode cX1_sweepPairs 52 = .ok (.ishr, 1) := by decide +kernel
theorem dX1_sweepPairs_53 : decode cX1_sweepPairs 53 = .ok (.iconst 1, 1) := by decide +kernel
theorem dX1_sweepPairs_54 : decode cX1_sweepPairs 54 = .ok (.iand, 1) := by decide +kernel
theorem dX1_sweepPairs_55 : decode cX1_sweepPairs 55 = .ok (.ifCond .ne 47, 3) := by decide +kernel
theorem dX1_sweepPairs_58 : decode cX1_sweepPairs 58 = .ok (.aload_n 0, 1) := by decide +kernel
theorem dX1_sweepPairs_59 : decode cX1_sweepPairs 59 = .ok (.aload_n 1, 1) := by decide +kernel
theorem dX1_sweepPairs_60 : decode cX1_sweepPairs 60 = .ok (.iload 4, 2) := by decide +kernel
theorem dX1_sweepPairs_62 : decode cX1_sweepPairs 62 = .ok (.iload 5, 2) := by decide +kernel
theorem dX1_sweepPairs_64 : decode cX1_sweepPairs 64 = .ok (.iload_n 2, 1) := by decide +kernel
theorem dX1_sweepPairs_65 : decode cX1_sweepPairs 65 = .ok (.invokevirtual 82, 3) := by decide +kernel
theorem dX1_sweepPairs_68 : decode cX1_sweepPairs 68 = .ok (.ifCond .eq 34, 3) := by decide +kernel
theorem dX1_sweepPairs_71 : decode cX1_sweepPairs 71 = .ok (.aload_n 0, 1) := by decide +kernel
theorem dX1_sweepPairs_72 : decode cX1_sweepPairs 72 = .ok (.getfield 15, 3) := by decide +kernel
theorem dX1_sweepPairs_75 : decode cX1_sweepPairs 75 = .ok (.iload 4, 2) := by decide +kernel
theorem dX1_sweepPairs_77 : decode cX1_sweepPairs 77 = .ok (.dup2, 1) := by decide +kernel
theorem dX1_sweepPairs_78 : decode cX1_sweepPairs 78 = .ok (.iaload, 1) := by decide +kernel
theorem dX1_sweepPairs_79 : decode cX1_sweepPairs 79 = .ok (.iconst 1, 1) := by decide +kernel
theorem dX1_sweepPairs_80 : decode cX1_sweepPairs 80 = .ok (.iload 5, 2) := by decide +kernel
theorem dX1_sweepPairs_82 : decode cX1_sweepPairs 82 = .ok (.ishl, 1) := by decide +kernel
theorem dX1_sweepPairs_83 : decode cX1_sweepPairs 83 = .ok (.ior, 1) := by decide +kernel
theorem dX1_sweepPairs_84 : decode cX1_sweepPairs 84 = .ok (.iastore, 1) := by decide +kernel
theorem dX1_sweepPairs_85 : decode cX1_sweepPairs 85 = .ok (.aload_n 0, 1) := by decide +kernel
theorem dX1_sweepPairs_86 : decode cX1_sweepPairs 86 = .ok (.getfield 15, 3) := by decide +kernel
theorem dX1_sweepPairs_89 : decode cX1_sweepPairs 89 = .ok (.iload 5, 2) := by decide +kernel
theorem dX1_sweepPairs_91 : decode cX1_sweepPairs 91 = .ok (.dup2, 1) := by decide +kernel
theorem dX1_sweepPairs_92 : decode cX1_sweepPairs 92 = .ok (.iaload, 1) := by decide +kernel
theorem dX1_sweepPairs_93 : decode cX1_sweepPairs 93 = .ok (.iconst 1, 1) := by decide +kernel
theorem dX1_sweepPairs_94 : decode cX1_sweepPairs 94 = .ok (.iload 4, 2) := by decide +kernel
theorem dX1_sweepPairs_96 : decode cX1_sweepPairs 96 = .ok (.ishl, 1) := by decide +kernel
theorem dX1_sweepPairs_97 : decode cX1_sweepPairs 97 = .ok (.ior, 1) := by decide +kernel
theorem dX1_sweepPairs_98 : decode cX1_sweepPairs 98 = .ok (.iastore, 1) := by decide +kernel
theorem dX1_sweepPairs_99 : decode cX1_sweepPairs 99 = .ok (.iinc 3 1, 3) := by decide +kernel
theorem dX1_sweepPairs_102 : decode cX1_sweepPairs 102 = .ok (.iinc 5 1, 3) := by decide +kernel
theorem dX1_sweepPairs_105 : decode cX1_sweepPairs 105 = .ok (.goto (-78), 3) := by decide +kernel
theorem dX1_sweepPairs_108 : decode cX1_sweepPairs 108 = .ok (.iinc 4 1, 3) := by decide +kernel
theorem dX1_sweepPairs_111 : decode cX1_sweepPairs 111 = .ok (.goto (-106), 3) := by decide +kernel
theorem dX1_sweepPairs_114 : decode cX1_sweepPairs 114 = .ok (.iload_n 3, 1) := by decide +kernel
theorem dX1_sweepPairs_115 : decode cX1_sweepPairs 115 = .ok (.ireturn, 1) := by decide +kernel
set_option maxRecDepth 20000 in
theorem ggX1_comeTogether_X4_letters : GoodIn wsX1_comeTogether wsX4_letters := goodIn_r _ [7, 8, 22, 23, 24, 25, 26, 27] (by decide +kernel) (by decide +kernel)
set_option maxRecDepth 20000 in
theorem gX1_comeTogether_X4_letters : GoodIn wsX1_comeTogether (wsV RX1 53 RX4 yX4_letters wsX4_letters) := goodIn_app (goodIn_of _ (by decide +kernel)) ggX1_comeTogether_X4_letters
set_option maxRecDepth 20000 in
theorem ggX1_comeTogether_X4_target : GoodIn wsX1_comeTogether wsX4_target := goodIn_r _ [12, 13, 8, 14, 22, 23, 24, 25, 26, 27] (by decide +kernel) (by decide +kernel)
set_option maxRecDepth 20000 in
theorem gX1_comeTogether_X4_target : GoodIn wsX1_comeTogether (wsV RX1 67 RX4 yX4_target wsX4_target) := goodIn_app (goodIn_of _ (by decide +kernel)) ggX1_comeTogether_X4_target
set_option maxRecDepth 20000 in
theorem ggX1_comeTogether_X1_targets : GoodIn wsX1_comeTogether wsX1_targets := goodIn_r _ [18, 3, 4, 5, 6, 7, 8, 9, 10, 11, 12, 13, 14, 22, 23, 24, 25, 26, 27] (by decide +kernel) (by decide +kernel)
set_option maxRecDepth 20000 in
theorem gX1_comeTogether_X1_targets : GoodIn wsX1_comeTogether (va_wsS RX1 86 yX1_targets wsX1_targets) := goodIn_app (goodIn_of _ (by decide +kernel)) ggX1_comeTogether_X1_targets
theorem dX1_comeTogether_0 : decode cX1_comeTogether 0 = .ok (.iconst 0, 1) := by decide +kernel
theorem dX1_comeTogether_1 : decode cX1_comeTogether 1 = .ok (.istore 5, 2) := by decide +kernel
theorem dX1_comeTogether_3 : decode cX1_comeTogether 3 = .ok (.iload 5, 2) := by decide +kernel
theorem dX1_comeTogether_5 : decode cX1_comeTogether 5 = .ok (.aload_n 1, 1) := by decide +kernel
theorem dX1_comeTogether_6 : decode cX1_comeTogether 6 = .ok (.invokevirtual 53, 3) := by decide +kernel
theorem dX1_comeTogether_9 : decode cX1_comeTogether 9 = .ok (.if_icmp .ge 75, 3) := by decide +kernel
theorem dX1_comeTogether_12 : decode cX1_comeTogether 12 = .ok (.aload_n 0, 1) := by decide +kernel
theorem dX1_comeTogether_13 : decode cX1_comeTogether 13 = .ok (.getfield 23, 3) := by decide +kernel
theorem dX1_comeTogether_16 : decode cX1_comeTogether 16 = .ok (.iload_n 2, 1) := by decide +kernel
theorem dX1_comeTogether_17 : decode cX1_comeTogether 17 = .ok (.iload 5, 2) := by decide +kernel
theorem dX1_comeTogether_19 : decode cX1_comeTogether 19 = .ok (.invokevirtual 67, 3) := by decide +kernel
theorem dX1_comeTogether_22 : decode cX1_comeTogether 22 = .ok (.istore 6, 2) := by decide +kernel
theorem dX1_comeTogether_24 : decode cX1_comeTogether 24 = .ok (.iload 4, 2) := by decide +kernel
theorem dX1_comeTogether_26 : decode cX1_comeTogether 26 = .ok (.ifCond .eq 11, 3) := by decide +kernel
theorem dX1_comeTogether_29 : decode cX1_comeTogether 29 = .ok (.aload_n 1, 1) := by decide +kernel
theorem dX1_comeTogether_30 : decode cX1_comeTogether 30 = .ok (.iload_n 3, 1) := by decide +kernel
theorem dX1_comeTogether_31 : decode cX1_comeTogether 31 = .ok (.invokestatic 86, 3) := by decide +kernel
theorem dX1_comeTogether_34 : decode cX1_comeTogether 34 = .ok (.goto 15, 3) := by decide +kernel
theorem dX1_comeTogether_37 : decode cX1_comeTogether 37 = .ok (.iconst 1, 1) := by decide +kernel
theorem dX1_comeTogether_38 : decode cX1_comeTogether 38 = .ok (.aload_n 0, 1) := by decide +kernel
theorem dX1_comeTogether_39 : decode cX1_comeTogether 39 = .ok (.getfield 23, 3) := by decide +kernel
theorem dX1_comeTogether_42 : decode cX1_comeTogether 42 = .ok (.iload_n 3, 1) := by decide +kernel
theorem dX1_comeTogether_43 : decode cX1_comeTogether 43 = .ok (.iload 5, 2) := by decide +kernel
theorem dX1_comeTogether_45 : decode cX1_comeTogether 45 = .ok (.invokevirtual 67, 3) := by decide +kernel
theorem dX1_comeTogether_48 : decode cX1_comeTogether 48 = .ok (.ishl, 1) := by decide +kernel
theorem dX1_comeTogether_49 : decode cX1_comeTogether 49 = .ok (.istore 7, 2) := by decide +kernel
theorem dX1_comeTogether_51 : decode cX1_comeTogether 51 = .ok (.iload 6, 2) := by decide +kernel
theorem dX1_comeTogether_53 : decode cX1_comeTogether 53 = .ok (.ifCond .lt 25, 3) := by decide +kernel
theorem dX1_comeTogether_56 : decode cX1_comeTogether 56 = .ok (.iload 6, 2) := by decide +kernel
theorem dX1_comeTogether_58 : decode cX1_comeTogether 58 = .ok (.bipush 12, 2) := by decide +kernel
theorem dX1_comeTogether_60 : decode cX1_comeTogether 60 = .ok (.if_icmp .ge 18, 3) := by decide +kernel
theorem dX1_comeTogether_63 : decode cX1_comeTogether 63 = .ok (.aload_n 0, 1) := by decide +kernel
theorem dX1_comeTogether_64 : decode cX1_comeTogether 64 = .ok (.getfield 15, 3) := by decide +kernel
theorem dX1_comeTogether_67 : decode cX1_comeTogether 67 = .ok (.iload 6, 2) := by decide +kernel
theorem dX1_comeTogether_69 : decode cX1_comeTogether 69 = .ok (.iaload, 1) := by decide +kernel
theorem dX1_comeTogether_70 : decode cX1_comeTogether 70 = .ok (.iload 7, 2) := by decide +kernel
theorem dX1_comeTogether_72 : decode cX1_comeTogether 72 = .ok (.iand, 1) := by decide +kernel
theorem dX1_comeTogether_73 : decode cX1_comeTogether 73 = .ok (.ifCond .eq 5, 3) := by decide +kernel
theorem dX1_comeTogether_76 : decode cX1_comeTogether 76 = .ok (.iconst 1, 1) := by decide +kernel
theorem dX1_comeTogether_77 : decode cX1_comeTogether 77 = .ok (.ireturn, 1) := by decide +kernel
theorem dX1_comeTogether_78 : decode cX1_comeTogether 78 = .ok (.iinc 5 1, 3) := by decide +kernel
theorem dX1_comeTogether_81 : decode cX1_comeTogether 81 = .ok (.goto (-78), 3) := by decide +kernel
theorem dX1_comeTogether_84 : decode cX1_comeTogether 84 = .ok (.iconst 0, 1) := by decide +kernel
theorem dX1_comeTogether_85 : decode cX1_comeTogether 85 = .ok (.ireturn, 1) := by decide +kernel
set_option maxRecDepth 20000 in
theorem ggX1_targets_X4_letters : GoodIn wsX1_targets wsX4_letters := goodIn_r _ [5, 6, 13, 14, 15, 16, 17, 18] (by decide +kernel) (by decide +kernel)
set_option maxRecDepth 20000 in
theorem gX1_targets_X4_letters : GoodIn wsX1_targets (wsV RX1 53 RX4 yX4_letters wsX4_letters) := goodIn_app (goodIn_of _ (by decide +kernel)) ggX1_targets_X4_letters
set_option maxRecDepth 20000 in
theorem ggX1_targets_X4_target : GoodIn wsX1_targets wsX4_target := goodIn_r _ [10, 11, 6, 12, 13, 14, 15, 16, 17, 18] (by decide +kernel) (by decide +kernel)
set_option maxRecDepth 20000 in
theorem gX1_targets_X4_target : GoodIn wsX1_targets (wsV RX1 67 RX4 yX4_target wsX4_target) := goodIn_app (goodIn_of _ (by decide +kernel)) ggX1_targets_X4_target
theorem dX1_targets_0 : decode cX1_targets 0 = .ok (.iconst 0, 1) := by decide +kernel
theorem dX1_targets_1 : decode cX1_targets 1 = .ok (.istore_n 2, 1) := by decide +kernel
theorem dX1_targets_2 : decode cX1_targets 2 = .ok (.iconst 0, 1) := by decide +kernel
theorem dX1_targets_3 : decode cX1_targets 3 = .ok (.istore_n 3, 1) := by decide +kernel
theorem dX1_targets_4 : decode cX1_targets 4 = .ok (.iload_n 3, 1) := by decide +kernel
theorem dX1_targets_5 : decode cX1_targets 5 = .ok (.aload_n 0, 1) := by decide +kernel
theorem dX1_targets_6 : decode cX1_targets 6 = .ok (.invokevirtual 53, 3) := by decide +kernel
theorem dX1_targets_9 : decode cX1_targets 9 = .ok (.if_icmp .ge 20, 3) := by decide +kernel
theorem dX1_targets_12 : decode cX1_targets 12 = .ok (.iload_n 2, 1) := by decide +kernel
theorem dX1_targets_13 : decode cX1_targets 13 = .ok (.iconst 1, 1) := by decide +kernel
theorem dX1_targets_14 : decode cX1_targets 14 = .ok (.aload_n 0, 1) := by decide +kernel
theorem dX1_targets_15 : decode cX1_targets 15 = .ok (.iload_n 1, 1) := by decide +kernel
theorem dX1_targets_16 : decode cX1_targets 16 = .ok (.iload_n 3, 1) := by decide +kernel
theorem dX1_targets_17 : decode cX1_targets 17 = .ok (.invokevirtual 67, 3) := by decide +kernel
theorem dX1_targets_20 : decode cX1_targets 20 = .ok (.ishl, 1) := by decide +kernel
theorem dX1_targets_21 : decode cX1_targets 21 = .ok (.ior, 1) := by decide +kernel
theorem dX1_targets_22 : decode cX1_targets 22 = .ok (.istore_n 2, 1) := by decide +kernel
theorem dX1_targets_23 : decode cX1_targets 23 = .ok (.iinc 3 1, 3) := by decide +kernel
theorem dX1_targets_26 : decode cX1_targets 26 = .ok (.goto (-22), 3) := by decide +kernel
theorem dX1_targets_29 : decode cX1_targets 29 = .ok (.iload_n 2, 1) := by decide +kernel
theorem dX1_targets_30 : decode cX1_targets 30 = .ok (.ireturn, 1) := by decide +kernel
set_option maxRecDepth 20000 in
theorem ggX2_init_X10_init : GoodIn wsX2_init wsX10_init := goodIn_r _ [13, 14, 2, 3, 15, 16, 17, 18] (by decide +kernel) (by decide +kernel)
set_option maxRecDepth 20000 in
theorem gX2_init_X10_init_n11 : GoodIn wsX2_init (wsX10_init) := ggX2_init_X10_init
theorem dX2_init_0 : decode cX2_init 0 = .ok (.aload_n 0, 1) := by decide +kernel
theorem dX2_init_1 : decode cX2_init 1 = .ok (.invokespecial 3, 3) := by decide +kernel
theorem dX2_init_4 : decode cX2_init 4 = .ok (.aload_n 0, 1) := by decide +kernel
theorem dX2_init_5 : decode cX2_init 5 = .ok (.new 9, 3) := by decide +kernel
theorem dX2_init_8 : decode cX2_init 8 = .ok (.dup, 1) := by decide +kernel
theorem dX2_init_9 : decode cX2_init 9 = .ok (.invokespecial 11, 3) := by decide +kernel
theorem dX2_init_12 : decode cX2_init 12 = .ok (.putfield 12, 3) := by decide +kernel
theorem dX2_init_15 : decode cX2_init 15 = .ok (.aload_n 0, 1) := by decide +kernel
theorem dX2_init_16 : decode cX2_init 16 = .ok (.new 9, 3) := by decide +kernel
theorem dX2_init_19 : decode cX2_init 19 = .ok (.dup, 1) := by decide +kernel
theorem dX2_init_20 : decode cX2_init 20 = .ok (.invokespecial 11, 3) := by decide +kernel
theorem dX2_init_23 : decode cX2_init 23 = .ok (.putfield 18, 3) := by decide +kernel
theorem dX2_init_26 : decode cX2_init 26 = .ok (.aload_n 0, 1) := by decide +kernel
theorem dX2_init_27 : decode cX2_init 27 = .ok (.new 9, 3) := by decide +kernel
theorem dX2_init_30 : decode cX2_init 30 = .ok (.dup, 1) := by decide +kernel
theorem dX2_init_31 : decode cX2_init 31 = .ok (.invokespecial 11, 3) := by decide +kernel
theorem dX2_init_34 : decode cX2_init 34 = .ok (.putfield 21, 3) := by decide +kernel
theorem dX2_init_37 : decode cX2_init 37 = .ok (.aload_n 0, 1) := by decide +kernel
theorem dX2_init_38 : decode cX2_init 38 = .ok (.aload_n 1, 1) := by decide +kernel
theorem dX2_init_39 : decode cX2_init 39 = .ok (.putfield 24, 3) := by decide +kernel
theorem dX2_init_42 : decode cX2_init 42 = .ok (.aload_n 0, 1) := by decide +kernel
theorem dX2_init_43 : decode cX2_init 43 = .ok (.aload_n 2, 1) := by decide +kernel
theorem dX2_init_44 : decode cX2_init 44 = .ok (.putfield 28, 3) := by decide +kernel
theorem dX2_init_47 : decode cX2_init 47 = .ok (.return_, 1) := by decide +kernel
set_option maxRecDepth 20000 in
theorem ggX2_run_X8_load : GoodIn wsX2_run wsX8_load := goodIn_r _ [10, 11, 12, 13, 14, 15, 16, 17, 18, 19, 20, 21, 9, 22, 23, 24, 25, 26, 27, 28, 29, 30, 31, 32, 144, 145, 146, 147, 148, 149, 150, 151, 152] (by decide +kernel) (by decide +kernel)
set_option maxRecDepth 20000 in
theorem gX2_run_X8_load : GoodIn wsX2_run (wsV RX2 32 RX8 yX8_load wsX8_load) := goodIn_app (goodIn_of _ (by decide +kernel)) ggX2_run_X8_load
set_option maxRecDepth 20000 in
theorem ggX2_run_X5_load : GoodIn wsX2_run wsX5_load := goodIn_r _ [37, 38, 39, 40, 41, 42, 43, 44, 45, 46, 17, 47, 27, 48, 49, 50, 36, 51, 52, 53, 54, 55, 56, 57, 58, 59, 60, 61, 62, 63, 64, 15, 16, 18, 19, 65, 29, 30, 31, 32, 153, 154, 155, 147, 148, 149, 150, 151, 152] (by decide +kernel) (by decide +kernel)
set_option maxRecDepth 20000 in
theorem gX2_run_X5_load : GoodIn wsX2_run (wsV RX2 38 RX5 yX5_load wsX5_load) := goodIn_app (goodIn_of _ (by decide +kernel)) ggX2_run_X5_load
set_option maxRecDepth 20000 in
theorem ggX2_run_X10_clear : GoodIn wsX2_run wsX10_clear := goodIn_r _ [70, 71, 156, 157] (by decide +kernel) (by decide +kernel)
set_option maxRecDepth 20000 in
theorem gX2_run_X10_clear : GoodIn wsX2_run (wsV RX2 41 RX10 yX10_clear wsX10_clear) := goodIn_app (goodIn_of _ (by decide +kernel)) ggX2_run_X10_clear
set_option maxRecDepth 20000 in
theorem ggX2_run_X7_isOne : GoodIn wsX2_run wsX7_isOne := goodIn_r _ [75] (by decide +kernel) (by decide +kernel)
set_option maxRecDepth 20000 in
theorem gX2_run_X7_isOne : GoodIn wsX2_run (va_wsS RX2 44 yX7_isOne wsX7_isOne) := goodIn_app (goodIn_of _ (by decide +kernel)) ggX2_run_X7_isOne
set_option maxRecDepth 20000 in
theorem ggX2_run_X2_choose : GoodIn wsX2_run wsX2_choose := goodIn_r _ [80, 4, 81, 82, 83, 79, 84, 2, 5, 85, 1, 86, 57, 58, 36, 59, 38, 87, 88, 89, 69, 90, 71, 91, 92, 93, 94, 56, 95, 96, 97, 98, 99, 100, 101, 102, 60, 61, 62, 63, 64, 15, 16, 17, 18, 19, 65, 29, 30, 31, 27, 32, 103, 104, 105, 106, 107, 108, 109, 110, 111, 112, 113, 114, 115, 116, 117, 118, 119, 9, 120, 121, 122, 123, 124, 125, 126, 12, 13, 127, 128, 129, 130, 131, 132, 138, 139, 140, 141, 142, 143, 153, 154, 155, 156, 157, 147, 148, 149, 150, 151, 152, 144, 145, 146] (by decide +kernel) (by decide +kernel)
set_option maxRecDepth 20000 in
theorem gX2_run_X2_choose : GoodIn wsX2_run (wsV RX2 50 RX2 yX2_choose wsX2_choose) := goodIn_app (goodIn_of _ (by decide +kernel)) ggX2_run_X2_choose
set_option maxRecDepth 20000 in
theorem ggX2_run_X10_length : GoodIn wsX2_run wsX10_length := goodIn_r _ [90, 71, 156, 157] (by decide +kernel) (by decide +kernel)
set_option maxRecDepth 20000 in
theorem gX2_run_X10_length : GoodIn wsX2_run (wsV RX2 58 RX10 yX10_length wsX10_length) := goodIn_app (goodIn_of _ (by decide +kernel)) ggX2_run_X10_length
set_option maxRecDepth 20000 in
theorem ggX2_run_X10_at : GoodIn wsX2_run wsX10_at := goodIn_r _ [116, 71, 107, 156, 157] (by decide +kernel) (by decide +kernel)
set_option maxRecDepth 20000 in
theorem gX2_run_X10_at : GoodIn wsX2_run (wsV RX2 62 RX10 yX10_at wsX10_at) := goodIn_app (goodIn_of _ (by decide +kernel)) ggX2_run_X10_at
set_option maxRecDepth 20000 in
theorem ggX2_run_X10_append : GoodIn wsX2_run wsX10_append := goodIn_r _ [137, 71, 107, 156, 157] (by decide +kernel) (by decide +kernel)
set_option maxRecDepth 20000 in
theorem gX2_run_X10_append : GoodIn wsX2_run (wsV RX2 66 RX10 yX10_append wsX10_append) := goodIn_app (goodIn_of _ (by decide +kernel)) ggX2_run_X10_append
set_option maxRecDepth 20000 in
theorem ggX2_run_X10_copy : GoodIn wsX2_run wsX10_copy := goodIn_r _ [130, 71, 112, 88, 89, 69, 90, 131, 96, 97, 98, 99, 100, 101, 102, 113, 114, 115, 116, 107, 132, 104, 105, 106, 156, 157] (by decide +kernel) (by decide +kernel)
set_option maxRecDepth 20000 in
theorem gX2_run_X10_copy : GoodIn wsX2_run (wsV RX2 69 RX10 yX10_copy wsX10_copy) := goodIn_app (goodIn_of _ (by decide +kernel)) ggX2_run_X10_copy
theorem dX2_run_0 : decode cX2_run 0 = .ok (.aload_n 0, 1) := by decide +kernel
theorem dX2_run_1 : decode cX2_run 1 = .ok (.getfield 24, 3) := by decide +kernel
theorem dX2_run_4 : decode cX2_run 4 = .ok (.aload_n 1, 1) := by decide +kernel
theorem dX2_run_5 : decode cX2_run 5 = .ok (.invokevirtual 32, 3) := by decide +kernel
theorem dX2_run_8 : decode cX2_run 8 = .ok (.aload_n 0, 1) := by decide +kernel
theorem dX2_run_9 : decode cX2_run 9 = .ok (.getfield 28, 3) := by decide +kernel
theorem dX2_run_12 : decode cX2_run 12 = .ok (.aload_n 1, 1) := by decide +kernel
theorem dX2_run_13 : decode cX2_run 13 = .ok (.invokevirtual 38, 3) := by decide +kernel
theorem dX2_run_16 : decode cX2_run 16 = .ok (.aload_n 0, 1) := by decide +kernel
theorem dX2_run_17 : decode cX2_run 17 = .ok (.getfield 12, 3) := by decide +kernel
theorem dX2_run_20 : decode cX2_run 20 = .ok (.invokevirtual 41, 3) := by decide +kernel
theorem dX2_run_23 : decode cX2_run 23 = .ok (.iload_n 2, 1) := by decide +kernel
theorem dX2_run_24 : decode cX2_run 24 = .ok (.istore 4, 2) := by decide +kernel
theorem dX2_run_26 : decode cX2_run 26 = .ok (.iconst 0, 1) := by decide +kernel
theorem dX2_run_27 : decode cX2_run 27 = .ok (.istore 5, 2) := by decide +kernel
theorem dX2_run_29 : decode cX2_run 29 = .ok (.iload 5, 2) := by decide +kernel
theorem dX2_run_31 : decode cX2_run 31 = .ok (.bipush 12, 2) := by decide +kernel
theorem dX2_run_33 : decode cX2_run 33 = .ok (.if_icmp .ge 98, 3) := by decide +kernel
theorem dX2_run_36 : decode cX2_run 36 = .ok (.iload 4, 2) := by decide +kernel
theorem dX2_run_38 : decode cX2_run 38 = .ok (.invokestatic 44, 3) := by decide +kernel
theorem dX2_run_41 : decode cX2_run 41 = .ok (.ifCond .ne 90, 3) := by decide +kernel
theorem dX2_run_44 : decode cX2_run 44 = .ok (.aload_n 0, 1) := by decide +kernel
theorem dX2_run_45 : decode cX2_run 45 = .ok (.aload_n 1, 1) := by decide +kernel
theorem dX2_run_46 : decode cX2_run 46 = .ok (.iload 4, 2) := by decide +kernel
theorem dX2_run_48 : decode cX2_run 48 = .ok (.invokevirtual 50, 3) := by decide +kernel
theorem dX2_run_51 : decode cX2_run 51 = .ok (.aload_n 0, 1) := by decide +kernel
theorem dX2_run_52 : decode cX2_run 52 = .ok (.getfield 54, 3) := by decide +kernel
theorem dX2_run_55 : decode cX2_run 55 = .ok (.ifCond .eq 24, 3) := by decide +kernel
theorem dX2_run_58 : decode cX2_run 58 = .ok (.aload_n 0, 1) := by decide +kernel
theorem dX2_run_59 : decode cX2_run 59 = .ok (.getfield 12, 3) := by decide +kernel
theorem dX2_run_62 : decode cX2_run 62 = .ok (.invokevirtual 58, 3) := by decide +kernel
theorem dX2_run_65 : decode cX2_run 65 = .ok (.aload_n 0, 1) := by decide +kernel
theorem dX2_run_66 : decode cX2_run 66 = .ok (.getfield 18, 3) := by decide +kernel
theorem dX2_run_69 : decode cX2_run 69 = .ok (.invokevirtual 58, 3) := by decide +kernel
theorem dX2_run_72 : decode cX2_run 72 = .ok (.iadd, 1) := by decide +kernel
theorem dX2_run_73 : decode cX2_run 73 = .ok (.sipush 600, 3) := by decide +kernel
theorem dX2_run_76 : decode cX2_run 76 = .ok (.if_icmp .le 5, 3) := by decide +kernel
theorem dX2_run_79 : decode cX2_run 79 = .ok (.iconst (-1), 1) := by decide +kernel
theorem dX2_run_80 : decode cX2_run 80 = .ok (.ireturn, 1) := by decide +kernel
theorem dX2_run_81 : decode cX2_run 81 = .ok (.iconst 0, 1) := by decide +kernel
theorem dX2_run_82 : decode cX2_run 82 = .ok (.istore 6, 2) := by decide +kernel
theorem dX2_run_84 : decode cX2_run 84 = .ok (.iload 6, 2) := by decide +kernel
theorem dX2_run_86 : decode cX2_run 86 = .ok (.aload_n 0, 1) := by decide +kernel
theorem dX2_run_87 : decode cX2_run 87 = .ok (.getfield 18, 3) := by decide +kernel
theorem dX2_run_90 : decode cX2_run 90 = .ok (.invokevirtual 58, 3) := by decide +kernel
theorem dX2_run_93 : decode cX2_run 93 = .ok (.if_icmp .ge 26, 3) := by decide +kernel
theorem dX2_run_96 : decode cX2_run 96 = .ok (.aload_n 0, 1) := by decide +kernel
theorem dX2_run_97 : decode cX2_run 97 = .ok (.getfield 12, 3) := by decide +kernel
theorem dX2_run_100 : decode cX2_run 100 = .ok (.aload_n 0, 1) := by decide +kernel
theorem dX2_run_101 : decode cX2_run 101 = .ok (.getfield 18, 3) := by decide +kernel
theorem dX2_run_104 : decode cX2_run 104 = .ok (.iload 6, 2) := by decide +kernel
theorem dX2_run_106 : decode cX2_run 106 = .ok (.invokevirtual 62, 3) := by decide +kernel
theorem dX2_run_109 : decode cX2_run 109 = .ok (.invokevirtual 66, 3) := by decide +kernel
theorem dX2_run_112 : decode cX2_run 112 = .ok (.pop, 1) := by decide +kernel
theorem dX2_run_113 : decode cX2_run 113 = .ok (.iinc 6 1, 3) := by decide +kernel
theorem dX2_run_116 : decode cX2_run 116 = .ok (.goto (-32), 3) := by decide +kernel
theorem dX2_run_119 : decode cX2_run 119 = .ok (.aload_n 0, 1) := by decide +kernel
theorem dX2_run_120 : decode cX2_run 120 = .ok (.getfield 54, 3) := by decide +kernel
theorem dX2_run_123 : decode cX2_run 123 = .ok (.istore 4, 2) := by decide +kernel
theorem dX2_run_125 : decode cX2_run 125 = .ok (.iinc 5 1, 3) := by decide +kernel
theorem dX2_run_128 : decode cX2_run 128 = .ok (.goto (-99), 3) := by decide +kernel
theorem dX2_run_131 : decode cX2_run 131 = .ok (.aload_n 3, 1) := by decide +kernel
theorem dX2_run_132 : decode cX2_run 132 = .ok (.aload_n 0, 1) := by decide +kernel
theorem dX2_run_133 : decode cX2_run 133 = .ok (.getfield 12, 3) := by decide +kernel
theorem dX2_run_136 : decode cX2_run 136 = .ok (.invokevirtual 69, 3) := by decide +kernel
theorem dX2_run_139 : decode cX2_run 139 = .ok (.aload_n 3, 1) := by decide +kernel
theorem dX2_run_140 : decode cX2_run 140 = .ok (.invokevirtual 58, 3) := by decide +kernel
theorem dX2_run_143 : decode cX2_run 143 = .ok (.ireturn, 1) := by decide +kernel
set_option maxRecDepth 20000 in
theorem ggX2_choose_X2_tryPair : GoodIn wsX2_choose wsX2_tryPair := goodIn_r _ [6, 7, 1, 8, 9, 10, 11, 12, 13, 14, 15, 16, 17, 18, 19, 20, 21, 22, 23, 24, 25, 26, 27, 28, 29, 30, 31, 32, 33, 34, 35, 36, 37, 38, 39, 40, 41, 42, 43, 44, 45, 46, 47, 48, 49, 50, 51, 52, 53, 54, 55, 56, 57, 58, 59, 60, 61, 62, 63, 64, 65, 66, 67, 68, 69, 70, 71, 72, 73, 74, 75, 76, 77, 78, 79, 80, 81, 82, 83, 84, 85, 86, 87, 88, 89, 90, 91, 92, 93, 94, 95, 96, 97, 98, 99, 100, 101, 102, 103, 104] (by decide +kernel) (by decide +kernel)
set_option maxRecDepth 20000 in
theorem gX2_choose_X2_tryPair : GoodIn wsX2_choose (wsV RX2 73 RX2 yX2_tryPair wsX2_tryPair) := goodIn_app (goodIn_of _ (by decide +kernel)) ggX2_choose_X2_tryPair
theorem dX2_choose_0 : decode cX2_choose 0 = .ok (.aload_n 0, 1) := by decide +kernel
theorem dX2_choose_1 : decode cX2_choose 1 = .ok (.iconst 0, 1) := by decide +kernel
theorem dX2_choose_2 : decode cX2_choose 2 = .ok (.putfield 54, 3) := by decide +kernel
theorem dX2_choose_5 : decode cX2_choose 5 = .ok (.iconst 0, 1) := by decide +kernel
theorem dX2_choose_6 : decode cX2_choose 6 = .ok (.istore_n 3, 1) := by decide +kernel
theorem dX2_choose_7 : decode cX2_choose 7 = .ok (.iload_n 3, 1) := by decide +kernel
theorem dX2_choose_8 : decode cX2_choose 8 = .ok (.bipush 12, 2) := by decide +kernel
theorem dX2_choose_10 : decode cX2_choose 10 = .ok (.if_icmp .ge 49, 3) := by decide +kernel
theorem dX2_choose_13 : decode cX2_choose 13 = .ok (.iload_n 3, 1) := by decide +kernel
theorem dX2_choose_14 : decode cX2_choose 14 = .ok (.iconst 1, 1) := by decide +kernel
theorem dX2_choose_15 : decode cX2_choose 15 = .ok (.iadd, 1) := by decide +kernel
theorem dX2_choose_16 : decode cX2_choose 16 = .ok (.istore 4, 2) := by decide +kernel
theorem dX2_choose_18 : decode cX2_choose 18 = .ok (.iload 4, 2) := by decide +kernel
theorem dX2_choose_20 : decode cX2_choose 20 = .ok (.bipush 12, 2) := by decide +kernel
theorem dX2_choose_22 : decode cX2_choose 22 = .ok (.if_icmp .ge 31, 3) := by decide +kernel
theorem dX2_choose_25 : decode cX2_choose 25 = .ok (.iload_n 2, 1) := by decide +kernel
theorem dX2_choose_26 : decode cX2_choose 26 = .ok (.iload_n 3, 1) := by decide +kernel
theorem dX2_choose_27 : decode cX2_choose 27 = .ok (.ishr, 1) := by decide +kernel
theorem dX2_choose_28 : decode cX2_choose 28 = .ok (.iload_n 2, 1) := by decide +kernel
theorem dX2_choose_29 : decode cX2_choose 29 = .ok (.iload 4, 2) := by decide +kernel
theorem dX2_choose_31 : decode cX2_choose 31 = .ok (.ishr, 1) := by decide +kernel
theorem dX2_choose_32 : decode cX2_choose 32 = .ok (.iand, 1) := by decide +kernel
theorem dX2_choose_33 : decode cX2_choose 33 = .ok (.iconst 1, 1) := by decide +kernel
theorem dX2_choose_34 : decode cX2_choose 34 = .ok (.iand, 1) := by decide +kernel
theorem dX2_choose_35 : decode cX2_choose 35 = .ok (.ifCond .eq 12, 3) := by decide +kernel
theorem dX2_choose_38 : decode cX2_choose 38 = .ok (.aload_n 0, 1) := by decide +kernel
theorem dX2_choose_39 : decode cX2_choose 39 = .ok (.aload_n 1, 1) := by decide +kernel
theorem dX2_choose_40 : decode cX2_choose 40 = .ok (.iload_n 2, 1) := by decide +kernel
theorem dX2_choose_41 : decode cX2_choose 41 = .ok (.iload_n 3, 1) := by decide +kernel
theorem dX2_choose_42 : decode cX2_choose 42 = .ok (.iload 4, 2) := by decide +kernel
theorem dX2_choose_44 : decode cX2_choose 44 = .ok (.invokevirtual 73, 3) := by decide +kernel
theorem dX2_choose_47 : decode cX2_choose 47 = .ok (.iinc 4 1, 3) := by decide +kernel
theorem dX2_choose_50 : decode cX2_choose 50 = .ok (.goto (-32), 3) := by decide +kernel
theorem dX2_choose_53 : decode cX2_choose 53 = .ok (.iinc 3 1, 3) := by decide +kernel
theorem dX2_choose_56 : decode cX2_choose 56 = .ok (.goto (-49), 3) := by decide +kernel
theorem dX2_choose_59 : decode cX2_choose 59 = .ok (.return_, 1) := by decide +kernel
set_option maxRecDepth 20000 in
theorem ggX2_tryPair_X5_lengthOf : GoodIn wsX2_tryPair wsX5_lengthOf := goodIn_r _ [10, 11, 86, 87, 88] (by decide +kernel) (by decide +kernel)
set_option maxRecDepth 20000 in
theorem gX2_tryPair_X5_lengthOf : GoodIn wsX2_tryPair (wsV RX2 77 RX5 yX5_lengthOf wsX5_lengthOf) := goodIn_app (goodIn_of _ (by decide +kernel)) ggX2_tryPair_X5_lengthOf
set_option maxRecDepth 20000 in
theorem ggX2_tryPair_X10_length : GoodIn wsX2_tryPair wsX10_length := goodIn_r _ [16, 17, 89, 90] (by decide +kernel) (by decide +kernel)
set_option maxRecDepth 20000 in
theorem gX2_tryPair_X10_length : GoodIn wsX2_tryPair (wsV RX2 58 RX10 yX10_length wsX10_length) := goodIn_app (goodIn_of _ (by decide +kernel)) ggX2_tryPair_X10_length
set_option maxRecDepth 20000 in
theorem ggX2_tryPair_X5_giveWord : GoodIn wsX2_tryPair wsX5_giveWord := goodIn_r _ [21, 22, 7, 8, 9, 10, 11, 23, 24, 25, 15, 26, 27, 28, 29, 30, 17, 31, 32, 33, 34, 35, 36, 37, 38, 39, 40, 41, 42, 43, 44, 45, 46, 47, 48, 49, 50, 51, 86, 87, 88, 89, 90, 91, 92, 93, 94, 95, 96] (by decide +kernel) (by decide +kernel)
set_option maxRecDepth 20000 in
theorem gX2_tryPair_X5_giveWord : GoodIn wsX2_tryPair (wsV RX2 81 RX5 yX5_giveWord wsX5_giveWord) := goodIn_app (goodIn_of _ (by decide +kernel)) ggX2_tryPair_X5_giveWord
set_option maxRecDepth 20000 in
theorem ggX2_tryPair_X10_isAheadOf : GoodIn wsX2_tryPair wsX10_isAheadOf := goodIn_r _ [55, 17, 56, 13, 14, 15, 16, 57, 58, 59, 60, 51, 89, 90] (by decide +kernel) (by decide +kernel)
set_option maxRecDepth 20000 in
theorem gX2_tryPair_X10_isAheadOf : GoodIn wsX2_tryPair (wsV RX2 85 RX10 yX10_isAheadOf wsX10_isAheadOf) := goodIn_app (goodIn_of _ (by decide +kernel)) ggX2_tryPair_X10_isAheadOf
set_option maxRecDepth 20000 in
theorem ggX2_tryPair_X8_afterWord : GoodIn wsX2_tryPair wsX8_afterWord := goodIn_r _ [65, 66, 13, 14, 15, 16, 17, 67, 58, 59, 60, 51, 68, 69, 70, 64, 71, 72, 73, 89, 90, 97, 98, 99] (by decide +kernel) (by decide +kernel)
set_option maxRecDepth 20000 in
theorem gX2_tryPair_X8_afterWord : GoodIn wsX2_tryPair (wsV RX2 89 RX8 yX8_afterWord wsX8_afterWord) := goodIn_app (goodIn_of _ (by decide +kernel)) ggX2_tryPair_X8_afterWord
set_option maxRecDepth 20000 in
theorem ggX2_tryPair_X10_copy : GoodIn wsX2_tryPair wsX10_copy := goodIn_r _ [77, 17, 56, 13, 14, 15, 16, 78, 24, 25, 26, 27, 28, 29, 30, 57, 58, 59, 60, 51, 79, 48, 49, 50, 89, 90] (by decide +kernel) (by decide +kernel)
set_option maxRecDepth 20000 in
theorem gX2_tryPair_X10_copy : GoodIn wsX2_tryPair (wsV RX2 69 RX10 yX10_copy wsX10_copy) := goodIn_app (goodIn_of _ (by decide +kernel)) ggX2_tryPair_X10_copy
theorem dX2_tryPair_0 : decode cX2_tryPair 0 = .ok (.aload_n 0, 1) := by decide +kernel
theorem dX2_tryPair_1 : decode cX2_tryPair 1 = .ok (.getfield 28, 3) := by decide +kernel
theorem dX2_tryPair_4 : decode cX2_tryPair 4 = .ok (.iload_n 3, 1) := by decide +kernel
theorem dX2_tryPair_5 : decode cX2_tryPair 5 = .ok (.iload 4, 2) := by decide +kernel
theorem dX2_tryPair_7 : decode cX2_tryPair 7 = .ok (.invokevirtual 77, 3) := by decide +kernel
theorem dX2_tryPair_10 : decode cX2_tryPair 10 = .ok (.istore 5, 2) := by decide +kernel
theorem dX2_tryPair_12 : decode cX2_tryPair 12 = .ok (.iload 5, 2) := by decide +kernel
theorem dX2_tryPair_14 : decode cX2_tryPair 14 = .ok (.iconst (-1), 1) := by decide +kernel
theorem dX2_tryPair_15 : decode cX2_tryPair 15 = .ok (.if_icmp .eq 22, 3) := by decide +kernel
theorem dX2_tryPair_18 : decode cX2_tryPair 18 = .ok (.aload_n 0, 1) := by decide +kernel
theorem dX2_tryPair_19 : decode cX2_tryPair 19 = .ok (.getfield 54, 3) := by decide +kernel
theorem dX2_tryPair_22 : decode cX2_tryPair 22 = .ok (.ifCond .eq 16, 3) := by decide +kernel
theorem dX2_tryPair_25 : decode cX2_tryPair 25 = .ok (.iload 5, 2) := by decide +kernel
theorem dX2_tryPair_27 : decode cX2_tryPair 27 = .ok (.aload_n 0, 1) := by decide +kernel
theorem dX2_tryPair_28 : decode cX2_tryPair 28 = .ok (.getfield 18, 3) := by decide +kernel
theorem dX2_tryPair_31 : decode cX2_tryPair 31 = .ok (.invokevirtual 58, 3) := by decide +kernel
theorem dX2_tryPair_34 : decode cX2_tryPair 34 = .ok (.if_icmp .le 4, 3) := by decide +kernel
theorem dX2_tryPair_37 : decode cX2_tryPair 37 = .ok (.return_, 1) := by decide +kernel
theorem dX2_tryPair_38 : decode cX2_tryPair 38 = .ok (.aload_n 0, 1) := by decide +kernel
theorem dX2_tryPair_39 : decode cX2_tryPair 39 = .ok (.getfield 28, 3) := by decide +kernel
theorem dX2_tryPair_42 : decode cX2_tryPair 42 = .ok (.aload_n 1, 1) := by decide +kernel
theorem dX2_tryPair_43 : decode cX2_tryPair 43 = .ok (.iload_n 3, 1) := by decide +kernel
theorem dX2_tryPair_44 : decode cX2_tryPair 44 = .ok (.iload 4, 2) := by decide +kernel
theorem dX2_tryPair_46 : decode cX2_tryPair 46 = .ok (.aload_n 0, 1) := by decide +kernel
theorem dX2_tryPair_47 : decode cX2_tryPair 47 = .ok (.getfield 21, 3) := by decide +kernel
theorem dX2_tryPair_50 : decode cX2_tryPair 50 = .ok (.invokevirtual 81, 3) := by decide +kernel
theorem dX2_tryPair_53 : decode cX2_tryPair 53 = .ok (.aload_n 0, 1) := by decide +kernel
theorem dX2_tryPair_54 : decode cX2_tryPair 54 = .ok (.getfield 54, 3) := by decide +kernel
theorem dX2_tryPair_57 : decode cX2_tryPair 57 = .ok (.ifCond .eq 18, 3) := by decide +kernel
theorem dX2_tryPair_60 : decode cX2_tryPair 60 = .ok (.aload_n 0, 1) := by decide +kernel
theorem dX2_tryPair_61 : decode cX2_tryPair 61 = .ok (.getfield 21, 3) := by decide +kernel
theorem dX2_tryPair_64 : decode cX2_tryPair 64 = .ok (.aload_n 0, 1) := by decide +kernel
theorem dX2_tryPair_65 : decode cX2_tryPair 65 = .ok (.getfield 18, 3) := by decide +kernel
theorem dX2_tryPair_68 : decode cX2_tryPair 68 = .ok (.invokevirtual 85, 3) := by decide +kernel
theorem dX2_tryPair_71 : decode cX2_tryPair 71 = .ok (.ifCond .ne 4, 3) := by decide +kernel
theorem dX2_tryPair_74 : decode cX2_tryPair 74 = .ok (.return_, 1) := by decide +kernel
theorem dX2_tryPair_75 : decode cX2_tryPair 75 = .ok (.aload_n 0, 1) := by decide +kernel
theorem dX2_tryPair_76 : decode cX2_tryPair 76 = .ok (.getfield 24, 3) := by decide +kernel
theorem dX2_tryPair_79 : decode cX2_tryPair 79 = .ok (.iload_n 2, 1) := by decide +kernel
theorem dX2_tryPair_80 : decode cX2_tryPair 80 = .ok (.aload_n 0, 1) := by decide +kernel
theorem dX2_tryPair_81 : decode cX2_tryPair 81 = .ok (.getfield 21, 3) := by decide +kernel
theorem dX2_tryPair_84 : decode cX2_tryPair 84 = .ok (.invokevirtual 89, 3) := by decide +kernel
theorem dX2_tryPair_87 : decode cX2_tryPair 87 = .ok (.istore 6, 2) := by decide +kernel
theorem dX2_tryPair_89 : decode cX2_tryPair 89 = .ok (.iload 6, 2) := by decide +kernel
theorem dX2_tryPair_91 : decode cX2_tryPair 91 = .ok (.ifCond .eq 20, 3) := by decide +kernel
theorem dX2_tryPair_94 : decode cX2_tryPair 94 = .ok (.aload_n 0, 1) := by decide +kernel
theorem dX2_tryPair_95 : decode cX2_tryPair 95 = .ok (.getfield 18, 3) := by decide +kernel
theorem dX2_tryPair_98 : decode cX2_tryPair 98 = .ok (.aload_n 0, 1) := by decide +kernel
theorem dX2_tryPair_99 : decode cX2_tryPair 99 = .ok (.getfield 21, 3) := by decide +kernel
theorem dX2_tryPair_102 : decode cX2_tryPair 102 = .ok (.invokevirtual 69, 3) := by decide +kernel
theorem dX2_tryPair_105 : decode cX2_tryPair 105 = .ok (.aload_n 0, 1) := by decide +kernel
theorem dX2_tryPair_106 : decode cX2_tryPair 106 = .ok (.iload 6, 2) := by decide +kernel
theorem dX2_tryPair_108 : decode cX2_tryPair 108 = .ok (.putfield 54, 3) := by decide +kernel
theorem dX2_tryPair_111 : decode cX2_tryPair 111 = .ok (.return_, 1) := by decide +kernel
set_option maxRecDepth 20000 in
theorem ggX3_of_X3_hasSink : GoodIn wsX3_of wsX3_hasSink := goodIn_r _ [4, 5, 6, 7, 8, 9, 10, 11, 12, 3, 13, 14, 15, 16, 17, 18, 19, 20, 21, 22, 23, 24, 25, 26, 46, 47, 48, 49, 50, 51] (by decide +kernel) (by decide +kernel)
set_option maxRecDepth 20000 in
theorem gX3_of_X3_hasSink : GoodIn wsX3_of (va_wsS RX3 9 yX3_hasSink wsX3_hasSink) := goodIn_app (goodIn_of _ (by decide +kernel)) ggX3_of_X3_hasSink
set_option maxRecDepth 20000 in
theorem ggX3_of_X4_letters : GoodIn wsX3_of wsX4_letters := goodIn_r _ [17, 18, 46, 47, 48, 49, 50, 51] (by decide +kernel) (by decide +kernel)
set_option maxRecDepth 20000 in
theorem gX3_of_X4_letters : GoodIn wsX3_of (wsV RX3 15 RX4 yX4_letters wsX4_letters) := goodIn_app (goodIn_of _ (by decide +kernel)) ggX3_of_X4_letters
set_option maxRecDepth 20000 in
theorem ggX3_of_X3_isRound : GoodIn wsX3_of wsX3_isRound := goodIn_r _ [29, 5, 6, 7, 8, 9, 10, 19, 20, 21, 22, 18, 23, 46, 47, 48, 49, 50, 51] (by decide +kernel) (by decide +kernel)
set_option maxRecDepth 20000 in
theorem gX3_of_X3_isRound : GoodIn wsX3_of (va_wsS RX3 21 yX3_isRound wsX3_isRound) := goodIn_app (goodIn_of _ (by decide +kernel)) ggX3_of_X3_isRound
set_option maxRecDepth 20000 in
theorem ggX3_of_X3_hasLoop : GoodIn wsX3_of wsX3_hasLoop := goodIn_r _ [32, 5, 6, 7, 8, 9, 10, 19, 20, 21, 22, 18, 23, 46, 47, 48, 49, 50, 51] (by decide +kernel) (by decide +kernel)
set_option maxRecDepth 20000 in
theorem gX3_of_X3_hasLoop : GoodIn wsX3_of (va_wsS RX3 25 yX3_hasLoop wsX3_hasLoop) := goodIn_app (goodIn_of _ (by decide +kernel)) ggX3_of_X3_hasLoop
set_option maxRecDepth 20000 in
theorem ggX3_of_X3_isInOrder : GoodIn wsX3_of wsX3_isInOrder := goodIn_r _ [35, 5, 6, 7, 8, 9, 10, 19, 20, 21, 22, 18, 23, 46, 47, 48, 49, 50, 51] (by decide +kernel) (by decide +kernel)
set_option maxRecDepth 20000 in
theorem gX3_of_X3_isInOrder : GoodIn wsX3_of (va_wsS RX3 28 yX3_isInOrder wsX3_isInOrder) := goodIn_app (goodIn_of _ (by decide +kernel)) ggX3_of_X3_isInOrder
set_option maxRecDepth 20000 in
theorem ggX3_of_X3_isSwap : GoodIn wsX3_of wsX3_isSwap := goodIn_r _ [38, 5, 6, 7, 8, 9, 10, 19, 20, 21, 22, 18, 23, 39, 40, 41, 42, 43, 44, 45, 46, 47, 48, 49, 50, 51] (by decide +kernel) (by decide +kernel)
set_option maxRecDepth 20000 in
theorem gX3_of_X3_isSwap : GoodIn wsX3_of (va_wsS RX3 31 yX3_isSwap wsX3_isSwap) := goodIn_app (goodIn_of _ (by decide +kernel)) ggX3_of_X3_isSwap
theorem dX3_of_0 : decode cX3_of 0 = .ok (.aload_n 0, 1) := by decide +kernel
theorem dX3_of_1 : decode cX3_of 1 = .ok (.invokestatic 9, 3) := by decide +kernel
theorem dX3_of_4 : decode cX3_of 4 = .ok (.ifCond .eq 7, 3) := by decide +kernel
theorem dX3_of_7 : decode cX3_of 7 = .ok (.iconst 2, 1) := by decide +kernel
theorem dX3_of_8 : decode cX3_of 8 = .ok (.goto 4, 3) := by decide +kernel
theorem dX3_of_11 : decode cX3_of 11 = .ok (.iconst 0, 1) := by decide +kernel
theorem dX3_of_12 : decode cX3_of 12 = .ok (.istore_n 1, 1) := by decide +kernel
theorem dX3_of_13 : decode cX3_of 13 = .ok (.iconst 1, 1) := by decide +kernel
theorem dX3_of_14 : decode cX3_of 14 = .ok (.istore_n 2, 1) := by decide +kernel
theorem dX3_of_15 : decode cX3_of 15 = .ok (.iconst 1, 1) := by decide +kernel
theorem dX3_of_16 : decode cX3_of 16 = .ok (.istore_n 3, 1) := by decide +kernel
theorem dX3_of_17 : decode cX3_of 17 = .ok (.iconst 0, 1) := by decide +kernel
theorem dX3_of_18 : decode cX3_of 18 = .ok (.istore 4, 2) := by decide +kernel
theorem dX3_of_20 : decode cX3_of 20 = .ok (.iload 4, 2) := by decide +kernel
theorem dX3_of_22 : decode cX3_of 22 = .ok (.aload_n 0, 1) := by decide +kernel
theorem dX3_of_23 : decode cX3_of 23 = .ok (.invokevirtual 15, 3) := by decide +kernel
theorem dX3_of_26 : decode cX3_of 26 = .ok (.if_icmp .ge 62, 3) := by decide +kernel
theorem dX3_of_29 : decode cX3_of 29 = .ok (.iload_n 1, 1) := by decide +kernel
theorem dX3_of_30 : decode cX3_of 30 = .ok (.aload_n 0, 1) := by decide +kernel
theorem dX3_of_31 : decode cX3_of 31 = .ok (.iload 4, 2) := by decide +kernel
theorem dX3_of_33 : decode cX3_of 33 = .ok (.invokestatic 21, 3) := by decide +kernel
theorem dX3_of_36 : decode cX3_of 36 = .ok (.ifCond .eq 7, 3) := by decide +kernel
theorem dX3_of_39 : decode cX3_of 39 = .ok (.iconst 1, 1) := by decide +kernel
theorem dX3_of_40 : decode cX3_of 40 = .ok (.goto 4, 3) := by decide +kernel
theorem dX3_of_43 : decode cX3_of 43 = .ok (.iconst 0, 1) := by decide +kernel
theorem dX3_of_44 : decode cX3_of 44 = .ok (.ior, 1) := by decide +kernel
theorem dX3_of_45 : decode cX3_of 45 = .ok (.istore_n 1, 1) := by decide +kernel
theorem dX3_of_46 : decode cX3_of 46 = .ok (.iload_n 1, 1) := by decide +kernel
theorem dX3_of_47 : decode cX3_of 47 = .ok (.aload_n 0, 1) := by decide +kernel
theorem dX3_of_48 : decode cX3_of 48 = .ok (.iload 4, 2) := by decide +kernel
theorem dX3_of_50 : decode cX3_of 50 = .ok (.invokestatic 25, 3) := by decide +kernel
theorem dX3_of_53 : decode cX3_of 53 = .ok (.ifCond .eq 8, 3) := by decide +kernel
theorem dX3_of_56 : decode cX3_of 56 = .ok (.bipush 16, 2) := by decide +kernel
theorem dX3_of_58 : decode cX3_of 58 = .ok (.goto 4, 3) := by decide +kernel
theorem dX3_of_61 : decode cX3_of 61 = .ok (.iconst 0, 1) := by decide +kernel
theorem dX3_of_62 : decode cX3_of 62 = .ok (.ior, 1) := by decide +kernel
theorem dX3_of_63 : decode cX3_of 63 = .ok (.istore_n 1, 1) := by decide +kernel
theorem dX3_of_64 : decode cX3_of 64 = .ok (.iload_n 2, 1) := by decide +kernel
theorem dX3_of_65 : decode cX3_of 65 = .ok (.aload_n 0, 1) := by decide +kernel
theorem dX3_of_66 : decode cX3_of 66 = .ok (.iload 4, 2) := by decide +kernel
theorem dX3_of_68 : decode cX3_of 68 = .ok (.invokestatic 28, 3) := by decide +kernel
theorem dX3_of_71 : decode cX3_of 71 = .ok (.iand, 1) := by decide +kernel
theorem dX3_of_72 : decode cX3_of 72 = .ok (.istore_n 2, 1) := by decide +kernel
theorem dX3_of_73 : decode cX3_of 73 = .ok (.iload_n 3, 1) := by decide +kernel
theorem dX3_of_74 : decode cX3_of 74 = .ok (.aload_n 0, 1) := by decide +kernel
theorem dX3_of_75 : decode cX3_of 75 = .ok (.iload 4, 2) := by decide +kernel
theorem dX3_of_77 : decode cX3_of 77 = .ok (.invokestatic 31, 3) := by decide +kernel
theorem dX3_of_80 : decode cX3_of 80 = .ok (.iand, 1) := by decide +kernel
theorem dX3_of_81 : decode cX3_of 81 = .ok (.istore_n 3, 1) := by decide +kernel
theorem dX3_of_82 : decode cX3_of 82 = .ok (.iinc 4 1, 3) := by decide +kernel
theorem dX3_of_85 : decode cX3_of 85 = .ok (.goto (-65), 3) := by decide +kernel
theorem dX3_of_88 : decode cX3_of 88 = .ok (.iload_n 1, 1) := by decide +kernel
theorem dX3_of_89 : decode cX3_of 89 = .ok (.iload_n 2, 1) := by decide +kernel
theorem dX3_of_90 : decode cX3_of 90 = .ok (.ifCond .eq 7, 3) := by decide +kernel
theorem dX3_of_93 : decode cX3_of 93 = .ok (.iconst 4, 1) := by decide +kernel
theorem dX3_of_94 : decode cX3_of 94 = .ok (.goto 4, 3) := by decide +kernel
theorem dX3_of_97 : decode cX3_of 97 = .ok (.iconst 0, 1) := by decide +kernel
theorem dX3_of_98 : decode cX3_of 98 = .ok (.ior, 1) := by decide +kernel
theorem dX3_of_99 : decode cX3_of 99 = .ok (.iload_n 3, 1) := by decide +kernel
theorem dX3_of_100 : decode cX3_of 100 = .ok (.ifCond .eq 8, 3) := by decide +kernel
theorem dX3_of_103 : decode cX3_of 103 = .ok (.bipush 8, 2) := by decide +kernel
theorem dX3_of_105 : decode cX3_of 105 = .ok (.goto 4, 3) := by decide +kernel
theorem dX3_of_108 : decode cX3_of 108 = .ok (.iconst 0, 1) := by decide +kernel
theorem dX3_of_109 : decode cX3_of 109 = .ok (.ior, 1) := by decide +kernel
theorem dX3_of_110 : decode cX3_of 110 = .ok (.ireturn, 1) := by decide +kernel
set_option maxRecDepth 20000 in
theorem ggX3_isRound_X4_states : GoodIn wsX3_isRound wsX4_states := goodIn_r _ [5, 6, 13, 14, 15, 16, 17, 18] (by decide +kernel) (by decide +kernel)
set_option maxRecDepth 20000 in
theorem gX3_isRound_X4_states : GoodIn wsX3_isRound (wsV RX3 34 RX4 yX4_states wsX4_states) := goodIn_app (goodIn_of _ (by decide +kernel)) ggX3_isRound_X4_states
set_option maxRecDepth 20000 in
theorem ggX3_isRound_X4_target : GoodIn wsX3_isRound wsX4_target := goodIn_r _ [10, 6, 11, 12, 13, 14, 15, 16, 17, 18] (by decide +kernel) (by decide +kernel)
set_option maxRecDepth 20000 in
theorem gX3_isRound_X4_target : GoodIn wsX3_isRound (wsV RX3 37 RX4 yX4_target wsX4_target) := goodIn_app (goodIn_of _ (by decide +kernel)) ggX3_isRound_X4_target
theorem dX3_isRound_0 : decode cX3_isRound 0 = .ok (.iconst 0, 1) := by decide +kernel
theorem dX3_isRound_1 : decode cX3_isRound 1 = .ok (.istore_n 2, 1) := by decide +kernel
theorem dX3_isRound_2 : decode cX3_isRound 2 = .ok (.iconst 1, 1) := by decide +kernel
theorem dX3_isRound_3 : decode cX3_isRound 3 = .ok (.istore_n 3, 1) := by decide +kernel
theorem dX3_isRound_4 : decode cX3_isRound 4 = .ok (.iload_n 3, 1) := by decide +kernel
theorem dX3_isRound_5 : decode cX3_isRound 5 = .ok (.aload_n 0, 1) := by decide +kernel
theorem dX3_isRound_6 : decode cX3_isRound 6 = .ok (.invokevirtual 34, 3) := by decide +kernel
theorem dX3_isRound_9 : decode cX3_isRound 9 = .ok (.if_icmp .ge 22, 3) := by decide +kernel
theorem dX3_isRound_12 : decode cX3_isRound 12 = .ok (.aload_n 0, 1) := by decide +kernel
theorem dX3_isRound_13 : decode cX3_isRound 13 = .ok (.iload_n 2, 1) := by decide +kernel
theorem dX3_isRound_14 : decode cX3_isRound 14 = .ok (.iload_n 1, 1) := by decide +kernel
theorem dX3_isRound_15 : decode cX3_isRound 15 = .ok (.invokevirtual 37, 3) := by decide +kernel
theorem dX3_isRound_18 : decode cX3_isRound 18 = .ok (.istore_n 2, 1) := by decide +kernel
theorem dX3_isRound_19 : decode cX3_isRound 19 = .ok (.iload_n 2, 1) := by decide +kernel
theorem dX3_isRound_20 : decode cX3_isRound 20 = .ok (.ifCond .ne 5, 3) := by decide +kernel
theorem dX3_isRound_23 : decode cX3_isRound 23 = .ok (.iconst 0, 1) := by decide +kernel
theorem dX3_isRound_24 : decode cX3_isRound 24 = .ok (.ireturn, 1) := by decide +kernel
theorem dX3_isRound_25 : decode cX3_isRound 25 = .ok (.iinc 3 1, 3) := by decide +kernel
theorem dX3_isRound_28 : decode cX3_isRound 28 = .ok (.goto (-24), 3) := by decide +kernel
theorem dX3_isRound_31 : decode cX3_isRound 31 = .ok (.aload_n 0, 1) := by decide +kernel
theorem dX3_isRound_32 : decode cX3_isRound 32 = .ok (.iload_n 2, 1) := by decide +kernel
theorem dX3_isRound_33 : decode cX3_isRound 33 = .ok (.iload_n 1, 1) := by decide +kernel
theorem dX3_isRound_34 : decode cX3_isRound 34 = .ok (.invokevirtual 37, 3) := by decide +kernel
theorem dX3_isRound_37 : decode cX3_isRound 37 = .ok (.ifCond .ne 7, 3) := by decide +kernel
theorem dX3_isRound_40 : decode cX3_isRound 40 = .ok (.iconst 1, 1) := by decide +kernel
theorem dX3_isRound_41 : decode cX3_isRound 41 = .ok (.goto 4, 3) := by decide +kernel
theorem dX3_isRound_44 : decode cX3_isRound 44 = .ok (.iconst 0, 1) := by decide +kernel
theorem dX3_isRound_45 : decode cX3_isRound 45 = .ok (.ireturn, 1) := by decide +kernel
set_option maxRecDepth 20000 in
theorem ggX3_hasLoop_X4_states : GoodIn wsX3_hasLoop wsX4_states := goodIn_r _ [5, 6, 13, 14, 15, 16, 17, 18] (by decide +kernel) (by decide +kernel)
set_option maxRecDepth 20000 in
theorem gX3_hasLoop_X4_states : GoodIn wsX3_hasLoop (wsV RX3 34 RX4 yX4_states wsX4_states) := goodIn_app (goodIn_of _ (by decide +kernel)) ggX3_hasLoop_X4_states
set_option maxRecDepth 20000 in
theorem ggX3_hasLoop_X4_target : GoodIn wsX3_hasLoop wsX4_target := goodIn_r _ [10, 6, 11, 12, 13, 14, 15, 16, 17, 18] (by decide +kernel) (by decide +kernel)
set_option maxRecDepth 20000 in
theorem gX3_hasLoop_X4_target : GoodIn wsX3_hasLoop (wsV RX3 37 RX4 yX4_target wsX4_target) := goodIn_app (goodIn_of _ (by decide +kernel)) ggX3_hasLoop_X4_target
theorem dX3_hasLoop_0 : decode cX3_hasLoop 0 = .ok (.iconst 0, 1) := by decide +kernel
theorem dX3_hasLoop_1 : decode cX3_hasLoop 1 = .ok (.istore_n 2, 1) := by decide +kernel
theorem dX3_hasLoop_2 : decode cX3_hasLoop 2 = .ok (.iload_n 2, 1) := by decide +kernel
theorem dX3_hasLoop_3 : decode cX3_hasLoop 3 = .ok (.aload_n 0, 1) := by decide +kernel
theorem dX3_hasLoop_4 : decode cX3_hasLoop 4 = .ok (.invokevirtual 34, 3) := by decide +kernel
theorem dX3_hasLoop_7 : decode cX3_hasLoop 7 = .ok (.if_icmp .ge 21, 3) := by decide +kernel
theorem dX3_hasLoop_10 : decode cX3_hasLoop 10 = .ok (.aload_n 0, 1) := by decide +kernel
theorem dX3_hasLoop_11 : decode cX3_hasLoop 11 = .ok (.iload_n 2, 1) := by decide +kernel
theorem dX3_hasLoop_12 : decode cX3_hasLoop 12 = .ok (.iload_n 1, 1) := by decide +kernel
theorem dX3_hasLoop_13 : decode cX3_hasLoop 13 = .ok (.invokevirtual 37, 3) := by decide +kernel
theorem dX3_hasLoop_16 : decode cX3_hasLoop 16 = .ok (.iload_n 2, 1) := by decide +kernel
theorem dX3_hasLoop_17 : decode cX3_hasLoop 17 = .ok (.if_icmp .ne 5, 3) := by decide +kernel
theorem dX3_hasLoop_20 : decode cX3_hasLoop 20 = .ok (.iconst 1, 1) := by decide +kernel
theorem dX3_hasLoop_21 : decode cX3_hasLoop 21 = .ok (.ireturn, 1) := by decide +kernel
theorem dX3_hasLoop_22 : decode cX3_hasLoop 22 = .ok (.iinc 2 1, 3) := by decide +kernel
theorem dX3_hasLoop_25 : decode cX3_hasLoop 25 = .ok (.goto (-23), 3) := by decide +kernel
theorem dX3_hasLoop_28 : decode cX3_hasLoop 28 = .ok (.iconst 0, 1) := by decide +kernel
theorem dX3_hasLoop_29 : decode cX3_hasLoop 29 = .ok (.ireturn, 1) := by decide +kernel
set_option maxRecDepth 20000 in
theorem ggX3_isInOrder_X4_states : GoodIn wsX3_isInOrder wsX4_states := goodIn_r _ [5, 6, 13, 14, 15, 16, 17, 18] (by decide +kernel) (by decide +kernel)
set_option maxRecDepth 20000 in
theorem gX3_isInOrder_X4_states : GoodIn wsX3_isInOrder (wsV RX3 34 RX4 yX4_states wsX4_states) := goodIn_app (goodIn_of _ (by decide +kernel)) ggX3_isInOrder_X4_states
set_option maxRecDepth 20000 in
theorem ggX3_isInOrder_X4_target : GoodIn wsX3_isInOrder wsX4_target := goodIn_r _ [10, 6, 11, 12, 13, 14, 15, 16, 17, 18] (by decide +kernel) (by decide +kernel)
set_option maxRecDepth 20000 in
theorem gX3_isInOrder_X4_target : GoodIn wsX3_isInOrder (wsV RX3 37 RX4 yX4_target wsX4_target) := goodIn_app (goodIn_of _ (by decide +kernel)) ggX3_isInOrder_X4_target
theorem dX3_isInOrder_0 : decode cX3_isInOrder 0 = .ok (.iconst 1, 1) := by decide +kernel
theorem dX3_isInOrder_1 : decode cX3_isInOrder 1 = .ok (.istore_n 2, 1) := by decide +kernel
theorem dX3_isInOrder_2 : decode cX3_isInOrder 2 = .ok (.iload_n 2, 1) := by decide +kernel
theorem dX3_isInOrder_3 : decode cX3_isInOrder 3 = .ok (.aload_n 0, 1) := by decide +kernel
theorem dX3_isInOrder_4 : decode cX3_isInOrder 4 = .ok (.invokevirtual 34, 3) := by decide +kernel
theorem dX3_isInOrder_7 : decode cX3_isInOrder 7 = .ok (.if_icmp .ge 28, 3) := by decide +kernel
theorem dX3_isInOrder_10 : decode cX3_isInOrder 10 = .ok (.aload_n 0, 1) := by decide +kernel
theorem dX3_isInOrder_11 : decode cX3_isInOrder 11 = .ok (.iload_n 2, 1) := by decide +kernel
theorem dX3_isInOrder_12 : decode cX3_isInOrder 12 = .ok (.iconst 1, 1) := by decide +kernel
theorem dX3_isInOrder_13 : decode cX3_isInOrder 13 = .ok (.isub, 1) := by decide +kernel
theorem dX3_isInOrder_14 : decode cX3_isInOrder 14 = .ok (.iload_n 1, 1) := by decide +kernel
theorem dX3_isInOrder_15 : decode cX3_isInOrder 15 = .ok (.invokevirtual 37, 3) := by decide +kernel
theorem dX3_isInOrder_18 : decode cX3_isInOrder 18 = .ok (.aload_n 0, 1) := by decide +kernel
theorem dX3_isInOrder_19 : decode cX3_isInOrder 19 = .ok (.iload_n 2, 1) := by decide +kernel
theorem dX3_isInOrder_20 : decode cX3_isInOrder 20 = .ok (.iload_n 1, 1) := by decide +kernel
theorem dX3_isInOrder_21 : decode cX3_isInOrder 21 = .ok (.invokevirtual 37, 3) := by decide +kernel
theorem dX3_isInOrder_24 : decode cX3_isInOrder 24 = .ok (.if_icmp .le 5, 3) := by decide +kernel
theorem dX3_isInOrder_27 : decode cX3_isInOrder 27 = .ok (.iconst 0, 1) := by decide +kernel
theorem dX3_isInOrder_28 : decode cX3_isInOrder 28 = .ok (.ireturn, 1) := by decide +kernel
theorem dX3_isInOrder_29 : decode cX3_isInOrder 29 = .ok (.iinc 2 1, 3) := by decide +kernel
theorem dX3_isInOrder_32 : decode cX3_isInOrder 32 = .ok (.goto (-30), 3) := by decide +kernel
theorem dX3_isInOrder_35 : decode cX3_isInOrder 35 = .ok (.iconst 1, 1) := by decide +kernel
theorem dX3_isInOrder_36 : decode cX3_isInOrder 36 = .ok (.ireturn, 1) := by decide +kernel
set_option maxRecDepth 20000 in
theorem ggX3_isSwap_X4_states : GoodIn wsX3_isSwap wsX4_states := goodIn_r _ [5, 6, 20, 21, 22, 23, 24, 25] (by decide +kernel) (by decide +kernel)
set_option maxRecDepth 20000 in
theorem gX3_isSwap_X4_states : GoodIn wsX3_isSwap (wsV RX3 34 RX4 yX4_states wsX4_states) := goodIn_app (goodIn_of _ (by decide +kernel)) ggX3_isSwap_X4_states
set_option maxRecDepth 20000 in
theorem ggX3_isSwap_X4_target : GoodIn wsX3_isSwap wsX4_target := goodIn_r _ [10, 6, 11, 12, 20, 21, 22, 23, 24, 25] (by decide +kernel) (by decide +kernel)
set_option maxRecDepth 20000 in
theorem gX3_isSwap_X4_target : GoodIn wsX3_isSwap (wsV RX3 37 RX4 yX4_target wsX4_target) := goodIn_app (goodIn_of _ (by decide +kernel)) ggX3_isSwap_X4_target
set_option maxRecDepth 20000 in
theorem ggX3_isSwap_J6_bitCount_0f7a4 : GoodIn wsX3_isSwap wsJ6_bitCount_0f7a4 := goodIn_r _ [16, 17, 18, 19] (by decide +kernel) (by decide +kernel)
set_option maxRecDepth 20000 in
theorem gX3_isSwap_J6_bitCount_0f7a4 : GoodIn wsX3_isSwap (va_wsS RX3 41 yJ6_bitCount_0f7a4 wsJ6_bitCount_0f7a4) := goodIn_app (goodIn_of _ (by decide +kernel)) ggX3_isSwap_J6_bitCount_0f7a4
theorem dX3_isSwap_0 : decode cX3_isSwap 0 = .ok (.iconst 0, 1) := by decide +kernel
theorem dX3_isSwap_1 : decode cX3_isSwap 1 = .ok (.istore_n 2, 1) := by decide +kernel
theorem dX3_isSwap_2 : decode cX3_isSwap 2 = .ok (.iconst 0, 1) := by decide +kernel
theorem dX3_isSwap_3 : decode cX3_isSwap 3 = .ok (.istore_n 3, 1) := by decide +kernel
theorem dX3_isSwap_4 : decode cX3_isSwap 4 = .ok (.iload_n 3, 1) := by decide +kernel
theorem dX3_isSwap_5 : decode cX3_isSwap 5 = .ok (.aload_n 0, 1) := by decide +kernel
theorem dX3_isSwap_6 : decode cX3_isSwap 6 = .ok (.invokevirtual 34, 3) := by decide +kernel
theorem dX3_isSwap_9 : decode cX3_isSwap 9 = .ok (.if_icmp .ge 20, 3) := by decide +kernel
theorem dX3_isSwap_12 : decode cX3_isSwap 12 = .ok (.iload_n 2, 1) := by decide +kernel
theorem dX3_isSwap_13 : decode cX3_isSwap 13 = .ok (.iconst 1, 1) := by decide +kernel
theorem dX3_isSwap_14 : decode cX3_isSwap 14 = .ok (.aload_n 0, 1) := by decide +kernel
theorem dX3_isSwap_15 : decode cX3_isSwap 15 = .ok (.iload_n 3, 1) := by decide +kernel
theorem dX3_isSwap_16 : decode cX3_isSwap 16 = .ok (.iload_n 1, 1) := by decide +kernel
theorem dX3_isSwap_17 : decode cX3_isSwap 17 = .ok (.invokevirtual 37, 3) := by decide +kernel
theorem dX3_isSwap_20 : decode cX3_isSwap 20 = .ok (.ishl, 1) := by decide +kernel
theorem dX3_isSwap_21 : decode cX3_isSwap 21 = .ok (.ior, 1) := by decide +kernel
theorem dX3_isSwap_22 : decode cX3_isSwap 22 = .ok (.istore_n 2, 1) := by decide +kernel
theorem dX3_isSwap_23 : decode cX3_isSwap 23 = .ok (.iinc 3 1, 3) := by decide +kernel
theorem dX3_isSwap_26 : decode cX3_isSwap 26 = .ok (.goto (-22), 3) := by decide +kernel
theorem dX3_isSwap_29 : decode cX3_isSwap 29 = .ok (.iload_n 2, 1) := by decide +kernel
theorem dX3_isSwap_30 : decode cX3_isSwap 30 = .ok (.invokestatic 41, 3) := by decide +kernel
theorem dX3_isSwap_33 : decode cX3_isSwap 33 = .ok (.aload_n 0, 1) := by decide +kernel
theorem dX3_isSwap_34 : decode cX3_isSwap 34 = .ok (.invokevirtual 34, 3) := by decide +kernel
theorem dX3_isSwap_37 : decode cX3_isSwap 37 = .ok (.if_icmp .ne 7, 3) := by decide +kernel
theorem dX3_isSwap_40 : decode cX3_isSwap 40 = .ok (.iconst 1, 1) := by decide +kernel
theorem dX3_isSwap_41 : decode cX3_isSwap 41 = .ok (.goto 4, 3) := by decide +kernel
theorem dX3_isSwap_44 : decode cX3_isSwap 44 = .ok (.iconst 0, 1) := by decide +kernel
theorem dX3_isSwap_45 : decode cX3_isSwap 45 = .ok (.ireturn, 1) := by decide +kernel
set_option maxRecDepth 20000 in
theorem ggX3_hasSink_X4_states : GoodIn wsX3_hasSink wsX4_states := goodIn_r _ [5, 6, 24, 25, 26, 27, 28, 29] (by decide +kernel) (by decide +kernel)
set_option maxRecDepth 20000 in
theorem gX3_hasSink_X4_states : GoodIn wsX3_hasSink (wsV RX3 34 RX4 yX4_states wsX4_states) := goodIn_app (goodIn_of _ (by decide +kernel)) ggX3_hasSink_X4_states
set_option maxRecDepth 20000 in
theorem ggX3_hasSink_X3_staysByAll : GoodIn wsX3_hasSink wsX3_staysByAll := goodIn_r _ [10, 11, 12, 13, 4, 14, 15, 16, 17, 18, 19, 6, 20, 24, 25, 26, 27, 28, 29] (by decide +kernel) (by decide +kernel)
set_option maxRecDepth 20000 in
theorem gX3_hasSink_X3_staysByAll : GoodIn wsX3_hasSink (va_wsS RX3 47 yX3_staysByAll wsX3_staysByAll) := goodIn_app (goodIn_of _ (by decide +kernel)) ggX3_hasSink_X3_staysByAll
set_option maxRecDepth 20000 in
theorem ggX3_hasSink_X3_isReachedByAll : GoodIn wsX3_hasSink wsX3_isReachedByAll := goodIn_r _ [23, 1, 2, 3, 4, 5, 6, 11, 12, 13, 14, 15, 16, 17, 18, 19, 20, 24, 25, 26, 27, 28, 29] (by decide +kernel) (by decide +kernel)
set_option maxRecDepth 20000 in
theorem gX3_hasSink_X3_isReachedByAll : GoodIn wsX3_hasSink (va_wsS RX3 50 yX3_isReachedByAll wsX3_isReachedByAll) := goodIn_app (goodIn_of _ (by decide +kernel)) ggX3_hasSink_X3_isReachedByAll
theorem dX3_hasSink_0 : decode cX3_hasSink 0 = .ok (.iconst 0, 1) := by decide +kernel
theorem dX3_hasSink_1 : decode cX3_hasSink 1 = .ok (.istore_n 1, 1) := by decide +kernel
theorem dX3_hasSink_2 : decode cX3_hasSink 2 = .ok (.iload_n 1, 1) := by decide +kernel
theorem dX3_hasSink_3 : decode cX3_hasSink 3 = .ok (.aload_n 0, 1) := by decide +kernel
theorem dX3_hasSink_4 : decode cX3_hasSink 4 = .ok (.invokevirtual 34, 3) := by decide +kernel
theorem dX3_hasSink_7 : decode cX3_hasSink 7 = .ok (.if_icmp .ge 27, 3) := by decide +kernel
theorem dX3_hasSink_10 : decode cX3_hasSink 10 = .ok (.aload_n 0, 1) := by decide +kernel
theorem dX3_hasSink_11 : decode cX3_hasSink 11 = .ok (.iload_n 1, 1) := by decide +kernel
theorem dX3_hasSink_12 : decode cX3_hasSink 12 = .ok (.invokestatic 47, 3) := by decide +kernel
theorem dX3_hasSink_15 : decode cX3_hasSink 15 = .ok (.ifCond .eq 13, 3) := by decide +kernel
theorem dX3_hasSink_18 : decode cX3_hasSink 18 = .ok (.aload_n 0, 1) := by decide +kernel
theorem dX3_hasSink_19 : decode cX3_hasSink 19 = .ok (.iload_n 1, 1) := by decide +kernel
theorem dX3_hasSink_20 : decode cX3_hasSink 20 = .ok (.invokestatic 50, 3) := by decide +kernel
theorem dX3_hasSink_23 : decode cX3_hasSink 23 = .ok (.ifCond .eq 5, 3) := by decide +kernel
theorem dX3_hasSink_26 : decode cX3_hasSink 26 = .ok (.iconst 1, 1) := by decide +kernel
theorem dX3_hasSink_27 : decode cX3_hasSink 27 = .ok (.ireturn, 1) := by decide +kernel
theorem dX3_hasSink_28 : decode cX3_hasSink 28 = .ok (.iinc 1 1, 3) := by decide +kernel
theorem dX3_hasSink_31 : decode cX3_hasSink 31 = .ok (.goto (-29), 3) := by decide +kernel
theorem dX3_hasSink_34 : decode cX3_hasSink 34 = .ok (.iconst 0, 1) := by decide +kernel
theorem dX3_hasSink_35 : decode cX3_hasSink 35 = .ok (.ireturn, 1) := by decide +kernel
set_option maxRecDepth 20000 in
theorem ggX3_staysByAll_X4_letters : GoodIn wsX3_staysByAll wsX4_letters := goodIn_r _ [5, 6, 13, 14, 15, 16, 17, 18] (by decide +kernel) (by decide +kernel)
set_option maxRecDepth 20000 in
theorem gX3_staysByAll_X4_letters : GoodIn wsX3_staysByAll (wsV RX3 15 RX4 yX4_letters wsX4_letters) := goodIn_app (goodIn_of _ (by decide +kernel)) ggX3_staysByAll_X4_letters
set_option maxRecDepth 20000 in
theorem ggX3_staysByAll_X4_target : GoodIn wsX3_staysByAll wsX4_target := goodIn_r _ [10, 11, 6, 12, 13, 14, 15, 16, 17, 18] (by decide +kernel) (by decide +kernel)
set_option maxRecDepth 20000 in
theorem gX3_staysByAll_X4_target : GoodIn wsX3_staysByAll (wsV RX3 37 RX4 yX4_target wsX4_target) := goodIn_app (goodIn_of _ (by decide +kernel)) ggX3_staysByAll_X4_target
theorem dX3_staysByAll_0 : decode cX3_staysByAll 0 = .ok (.iconst 0, 1) := by decide +kernel
theorem dX3_staysByAll_1 : decode cX3_staysByAll 1 = .ok (.istore_n 2, 1) := by decide +kernel
theorem dX3_staysByAll_2 : decode cX3_staysByAll 2 = .ok (.iload_n 2, 1) := by decide +kernel
theorem dX3_staysByAll_3 : decode cX3_staysByAll 3 = .ok (.aload_n 0, 1) := by decide +kernel
theorem dX3_staysByAll_4 : decode cX3_staysByAll 4 = .ok (.invokevirtual 15, 3) := by decide +kernel
theorem dX3_staysByAll_7 : decode cX3_staysByAll 7 = .ok (.if_icmp .ge 21, 3) := by decide +kernel
theorem dX3_staysByAll_10 : decode cX3_staysByAll 10 = .ok (.aload_n 0, 1) := by decide +kernel
theorem dX3_staysByAll_11 : decode cX3_staysByAll 11 = .ok (.iload_n 1, 1) := by decide +kernel
theorem dX3_staysByAll_12 : decode cX3_staysByAll 12 = .ok (.iload_n 2, 1) := by decide +kernel
theorem dX3_staysByAll_13 : decode cX3_staysByAll 13 = .ok (.invokevirtual 37, 3) := by decide +kernel
theorem dX3_staysByAll_16 : decode cX3_staysByAll 16 = .ok (.iload_n 1, 1) := by decide +kernel
theorem dX3_staysByAll_17 : decode cX3_staysByAll 17 = .ok (.if_icmp .eq 5, 3) := by decide +kernel
theorem dX3_staysByAll_20 : decode cX3_staysByAll 20 = .ok (.iconst 0, 1) := by decide +kernel
theorem dX3_staysByAll_21 : decode cX3_staysByAll 21 = .ok (.ireturn, 1) := by decide +kernel
theorem dX3_staysByAll_22 : decode cX3_staysByAll 22 = .ok (.iinc 2 1, 3) := by decide +kernel
theorem dX3_staysByAll_25 : decode cX3_staysByAll 25 = .ok (.goto (-23), 3) := by decide +kernel
theorem dX3_staysByAll_28 : decode cX3_staysByAll 28 = .ok (.iconst 1, 1) := by decide +kernel
theorem dX3_staysByAll_29 : decode cX3_staysByAll 29 = .ok (.ireturn, 1) := by decide +kernel
set_option maxRecDepth 20000 in
theorem ggX3_isReachedByAll_X4_states : GoodIn wsX3_isReachedByAll wsX4_states := goodIn_r _ [5, 6, 17, 18, 19, 20, 21, 22] (by decide +kernel) (by decide +kernel)
set_option maxRecDepth 20000 in
theorem gX3_isReachedByAll_X4_states : GoodIn wsX3_isReachedByAll (wsV RX3 34 RX4 yX4_states wsX4_states) := goodIn_app (goodIn_of _ (by decide +kernel)) ggX3_isReachedByAll_X4_states
set_option maxRecDepth 20000 in
theorem ggX3_isReachedByAll_X4_letters : GoodIn wsX3_isReachedByAll wsX4_letters := goodIn_r _ [10, 11, 17, 18, 19, 20, 21, 22] (by decide +kernel) (by decide +kernel)
set_option maxRecDepth 20000 in
theorem gX3_isReachedByAll_X4_letters : GoodIn wsX3_isReachedByAll (wsV RX3 15 RX4 yX4_letters wsX4_letters) := goodIn_app (goodIn_of _ (by decide +kernel)) ggX3_isReachedByAll_X4_letters
set_option maxRecDepth 20000 in
theorem ggX3_isReachedByAll_X4_target : GoodIn wsX3_isReachedByAll wsX4_target := goodIn_r _ [15, 6, 11, 16, 17, 18, 19, 20, 21, 22] (by decide +kernel) (by decide +kernel)
set_option maxRecDepth 20000 in
theorem gX3_isReachedByAll_X4_target : GoodIn wsX3_isReachedByAll (wsV RX3 37 RX4 yX4_target wsX4_target) := goodIn_app (goodIn_of _ (by decide +kernel)) ggX3_isReachedByAll_X4_target
theorem dX3_isReachedByAll_0 : decode cX3_isReachedByAll 0 = .ok (.iconst 1, 1) := by decide +kernel
theorem dX3_isReachedByAll_1 : decode cX3_isReachedByAll 1 = .ok (.iload_n 1, 1) := by decide +kernel
theorem dX3_isReachedByAll_2 : decode cX3_isReachedByAll 2 = .ok (.ishl, 1) := by decide +kernel
theorem dX3_isReachedByAll_3 : decode cX3_isReachedByAll 3 = .ok (.istore_n 2, 1) := by decide +kernel
theorem dX3_isReachedByAll_4 : decode cX3_isReachedByAll 4 = .ok (.iconst 0, 1) := by decide +kernel
theorem dX3_isReachedByAll_5 : decode cX3_isReachedByAll 5 = .ok (.istore_n 3, 1) := by decide +kernel
theorem dX3_isReachedByAll_6 : decode cX3_isReachedByAll 6 = .ok (.iload_n 3, 1) := by decide +kernel
theorem dX3_isReachedByAll_7 : decode cX3_isReachedByAll 7 = .ok (.bipush 12, 2) := by decide +kernel
theorem dX3_isReachedByAll_9 : decode cX3_isReachedByAll 9 = .ok (.if_icmp .ge 67, 3) := by decide +kernel
theorem dX3_isReachedByAll_12 : decode cX3_isReachedByAll 12 = .ok (.iconst 0, 1) := by decide +kernel
theorem dX3_isReachedByAll_13 : decode cX3_isReachedByAll 13 = .ok (.istore 4, 2) := by decide +kernel
theorem dX3_isReachedByAll_15 : decode cX3_isReachedByAll 15 = .ok (.iload 4, 2) := by decide +kernel
theorem dX3_isReachedByAll_17 : decode cX3_isReachedByAll 17 = .ok (.aload_n 0, 1) := by decide +kernel
theorem dX3_isReachedByAll_18 : decode cX3_isReachedByAll 18 = .ok (.invokevirtual 34, 3) := by decide +kernel
theorem dX3_isReachedByAll_21 : decode cX3_isReachedByAll 21 = .ok (.if_icmp .ge 49, 3) := by decide +kernel
theorem dX3_isReachedByAll_24 : decode cX3_isReachedByAll 24 = .ok (.iconst 0, 1) := by decide +kernel
theorem dX3_isReachedByAll_25 : decode cX3_isReachedByAll 25 = .ok (.istore 5, 2) := by decide +kernel
theorem dX3_isReachedByAll_27 : decode cX3_isReachedByAll 27 = .ok (.iload 5, 2) := by decide +kernel
theorem dX3_isReachedByAll_29 : decode cX3_isReachedByAll 29 = .ok (.aload_n 0, 1) := by decide +kernel
theorem dX3_isReachedByAll_30 : decode cX3_isReachedByAll 30 = .ok (.invokevirtual 15, 3) := by decide +kernel
theorem dX3_isReachedByAll_33 : decode cX3_isReachedByAll 33 = .ok (.if_icmp .ge 31, 3) := by decide +kernel
theorem dX3_isReachedByAll_36 : decode cX3_isReachedByAll 36 = .ok (.iload_n 2, 1) := by decide +kernel
theorem dX3_isReachedByAll_37 : decode cX3_isReachedByAll 37 = .ok (.aload_n 0, 1) := by decide +kernel
theorem dX3_isReachedByAll_38 : decode cX3_isReachedByAll 38 = .ok (.iload 4, 2) := by decide +kernel
theorem dX3_isReachedByAll_40 : decode cX3_isReachedByAll 40 = .ok (.iload 5, 2) := by decide +kernel
theorem dX3_isReachedByAll_42 : decode cX3_isReachedByAll 42 = .ok (.invokevirtual 37, 3) := by decide +kernel
theorem dX3_isReachedByAll_45 : decode cX3_isReachedByAll 45 = .ok (.ishr, 1) := by decide +kernel
theorem dX3_isReachedByAll_46 : decode cX3_isReachedByAll 46 = .ok (.iconst 1, 1) := by decide +kernel
theorem dX3_isReachedByAll_47 : decode cX3_isReachedByAll 47 = .ok (.iand, 1) := by decide +kernel
theorem dX3_isReachedByAll_48 : decode cX3_isReachedByAll 48 = .ok (.ifCond .eq 10, 3) := by decide +kernel
theorem dX3_isReachedByAll_51 : decode cX3_isReachedByAll 51 = .ok (.iload_n 2, 1) := by decide +kernel
theorem dX3_isReachedByAll_52 : decode cX3_isReachedByAll 52 = .ok (.iconst 1, 1) := by decide +kernel
theorem dX3_isReachedByAll_53 : decode cX3_isReachedByAll 53 = .ok (.iload 4, 2) := by decide +kernel
theorem dX3_isReachedByAll_55 : decode cX3_isReachedByAll 55 = .ok (.ishl, 1) := by decide +kernel
theorem dX3_isReachedByAll_56 : decode cX3_isReachedByAll 56 = .ok (.ior, 1) := by decide +kernel
theorem dX3_isReachedByAll_57 : decode cX3_isReachedByAll 57 = .ok (.istore_n 2, 1) := by decide +kernel
theorem dX3_isReachedByAll_58 : decode cX3_isReachedByAll 58 = .ok (.iinc 5 1, 3) := by decide +kernel
theorem dX3_isReachedByAll_61 : decode cX3_isReachedByAll 61 = .ok (.goto (-34), 3) := by decide +kernel
theorem dX3_isReachedByAll_64 : decode cX3_isReachedByAll 64 = .ok (.iinc 4 1, 3) := by decide +kernel
theorem dX3_isReachedByAll_67 : decode cX3_isReachedByAll 67 = .ok (.goto (-52), 3) := by decide +kernel
theorem dX3_isReachedByAll_70 : decode cX3_isReachedByAll 70 = .ok (.iinc 3 1, 3) := by decide +kernel
theorem dX3_isReachedByAll_73 : decode cX3_isReachedByAll 73 = .ok (.goto (-67), 3) := by decide +kernel
theorem dX3_isReachedByAll_76 : decode cX3_isReachedByAll 76 = .ok (.iload_n 2, 1) := by decide +kernel
theorem dX3_isReachedByAll_77 : decode cX3_isReachedByAll 77 = .ok (.iconst 1, 1) := by decide +kernel
theorem dX3_isReachedByAll_78 : decode cX3_isReachedByAll 78 = .ok (.aload_n 0, 1) := by decide +kernel
theorem dX3_isReachedByAll_79 : decode cX3_isReachedByAll 79 = .ok (.invokevirtual 34, 3) := by decide +kernel
theorem dX3_isReachedByAll_82 : decode cX3_isReachedByAll 82 = .ok (.ishl, 1) := by decide +kernel
theorem dX3_isReachedByAll_83 : decode cX3_isReachedByAll 83 = .ok (.iconst 1, 1) := by decide +kernel
theorem dX3_isReachedByAll_84 : decode cX3_isReachedByAll 84 = .ok (.isub, 1) := by decide +kernel
theorem dX3_isReachedByAll_85 : decode cX3_isReachedByAll 85 = .ok (.if_icmp .ne 7, 3) := by decide +kernel
theorem dX3_isReachedByAll_88 : decode cX3_isReachedByAll 88 = .ok (.iconst 1, 1) := by decide +kernel
theorem dX3_isReachedByAll_89 : decode cX3_isReachedByAll 89 = .ok (.goto 4, 3) := by decide +kernel
theorem dX3_isReachedByAll_92 : decode cX3_isReachedByAll 92 = .ok (.iconst 0, 1) := by decide +kernel
theorem dX3_isReachedByAll_93 : decode cX3_isReachedByAll 93 = .ok (.ireturn, 1) := by decide +kernel
set_option maxRecDepth 20000 in
theorem ggX4_init_J7_fill_53178 : GoodIn wsX4_init wsJ7_fill_53178 := goodIn_r _ [14] (by decide +kernel) (by decide +kernel)
set_option maxRecDepth 20000 in
theorem gX4_init_J7_fill_53178 : GoodIn wsX4_init (va_wsS RX4 31 yJ7_fill_53178 wsJ7_fill_53178) := goodIn_app (goodIn_of _ (by decide +kernel)) ggX4_init_J7_fill_53178
theorem dX4_init_0 : decode cX4_init 0 = .ok (.aload_n 0, 1) := by decide +kernel
theorem dX4_init_1 : decode cX4_init 1 = .ok (.invokespecial 3, 3) := by decide +kernel
theorem dX4_init_4 : decode cX4_init 4 = .ok (.aload_n 0, 1) := by decide +kernel
theorem dX4_init_5 : decode cX4_init 5 = .ok (.bipush 48, 2) := by decide +kernel
theorem dX4_init_7 : decode cX4_init 7 = .ok (.newarray .int, 2) := by decide +kernel
theorem dX4_init_9 : decode cX4_init 9 = .ok (.putfield 9, 3) := by decide +kernel
theorem dX4_init_12 : decode cX4_init 12 = .ok (.aload_n 0, 1) := by decide +kernel
theorem dX4_init_13 : decode cX4_init 13 = .ok (.bipush 12, 2) := by decide +kernel
theorem dX4_init_15 : decode cX4_init 15 = .ok (.newarray .int, 2) := by decide +kernel
theorem dX4_init_17 : decode cX4_init 17 = .ok (.putfield 15, 3) := by decide +kernel
theorem dX4_init_20 : decode cX4_init 20 = .ok (.aload_n 0, 1) := by decide +kernel
theorem dX4_init_21 : decode cX4_init 21 = .ok (.iconst 4, 1) := by decide +kernel
theorem dX4_init_22 : decode cX4_init 22 = .ok (.newarray .int, 2) := by decide +kernel
theorem dX4_init_24 : decode cX4_init 24 = .ok (.putfield 18, 3) := by decide +kernel
theorem dX4_init_27 : decode cX4_init 27 = .ok (.aload_n 0, 1) := by decide +kernel
theorem dX4_init_28 : decode cX4_init 28 = .ok (.iconst 4, 1) := by decide +kernel
theorem dX4_init_29 : decode cX4_init 29 = .ok (.newarray .int, 2) := by decide +kernel
theorem dX4_init_31 : decode cX4_init 31 = .ok (.putfield 21, 3) := by decide +kernel
theorem dX4_init_34 : decode cX4_init 34 = .ok (.aload_n 0, 1) := by decide +kernel
theorem dX4_init_35 : decode cX4_init 35 = .ok (.iload_n 1, 1) := by decide +kernel
theorem dX4_init_36 : decode cX4_init 36 = .ok (.putfield 24, 3) := by decide +kernel
theorem dX4_init_39 : decode cX4_init 39 = .ok (.aload_n 0, 1) := by decide +kernel
theorem dX4_init_40 : decode cX4_init 40 = .ok (.iload_n 2, 1) := by decide +kernel
theorem dX4_init_41 : decode cX4_init 41 = .ok (.putfield 28, 3) := by decide +kernel
theorem dX4_init_44 : decode cX4_init 44 = .ok (.aload_n 0, 1) := by decide +kernel
theorem dX4_init_45 : decode cX4_init 45 = .ok (.getfield 9, 3) := by decide +kernel
theorem dX4_init_48 : decode cX4_init 48 = .ok (.iconst (-1), 1) := by decide +kernel
theorem dX4_init_49 : decode cX4_init 49 = .ok (.invokestatic 31, 3) := by decide +kernel
theorem dX4_init_52 : decode cX4_init 52 = .ok (.aload_n 0, 1) := by decide +kernel
theorem dX4_init_53 : decode cX4_init 53 = .ok (.getfield 18, 3) := by decide +kernel
theorem dX4_init_56 : decode cX4_init 56 = .ok (.iconst 1, 1) := by decide +kernel
theorem dX4_init_57 : decode cX4_init 57 = .ok (.invokestatic 31, 3) := by decide +kernel
theorem dX4_init_60 : decode cX4_init 60 = .ok (.aload_n 0, 1) := by decide +kernel
theorem dX4_init_61 : decode cX4_init 61 = .ok (.getfield 21, 3) := by decide +kernel
theorem dX4_init_64 : decode cX4_init 64 = .ok (.iconst 1, 1) := by decide +kernel
theorem dX4_init_65 : decode cX4_init 65 = .ok (.invokestatic 31, 3) := by decide +kernel
theorem dX4_init_68 : decode cX4_init 68 = .ok (.return_, 1) := by decide +kernel
theorem dX4_states_0 : decode cX4_states 0 = .ok (.aload_n 0, 1) := by decide +kernel
theorem dX4_states_1 : decode cX4_states 1 = .ok (.getfield 24, 3) := by decide +kernel
theorem dX4_states_4 : decode cX4_states 4 = .ok (.ireturn, 1) := by decide +kernel
theorem dX4_letters_0 : decode cX4_letters 0 = .ok (.aload_n 0, 1) := by decide +kernel
theorem dX4_letters_1 : decode cX4_letters 1 = .ok (.getfield 28, 3) := by decide +kernel
theorem dX4_letters_4 : decode cX4_letters 4 = .ok (.ireturn, 1) := by decide +kernel
theorem dX4_hasState_0 : decode cX4_hasState 0 = .ok (.iload_n 1, 1) := by decide +kernel
theorem dX4_hasState_1 : decode cX4_hasState 1 = .ok (.ifCond .lt 21, 3) := by decide +kernel
theorem dX4_hasState_4 : decode cX4_hasState 4 = .ok (.iload_n 1, 1) := by decide +kernel
theorem dX4_hasState_5 : decode cX4_hasState 5 = .ok (.aload_n 0, 1) := by decide +kernel
theorem dX4_hasState_6 : decode cX4_hasState 6 = .ok (.getfield 24, 3) := by decide +kernel
theorem dX4_hasState_9 : decode cX4_hasState 9 = .ok (.if_icmp .ge 13, 3) := by decide +kernel
theorem dX4_hasState_12 : decode cX4_hasState 12 = .ok (.iload_n 1, 1) := by decide +kernel
theorem dX4_hasState_13 : decode cX4_hasState 13 = .ok (.bipush 12, 2) := by decide +kernel
theorem dX4_hasState_15 : decode cX4_hasState 15 = .ok (.if_icmp .ge 7, 3) := by decide +kernel
theorem dX4_hasState_18 : decode cX4_hasState 18 = .ok (.iconst 1, 1) := by decide +kernel
theorem dX4_hasState_19 : decode cX4_hasState 19 = .ok (.goto 4, 3) := by decide +kernel
theorem dX4_hasState_22 : decode cX4_hasState 22 = .ok (.iconst 0, 1) := by decide +kernel
theorem dX4_hasState_23 : decode cX4_hasState 23 = .ok (.ireturn, 1) := by decide +kernel
theorem dX4_hasLetter_0 : decode cX4_hasLetter 0 = .ok (.iload_n 1, 1) := by decide +kernel
theorem dX4_hasLetter_1 : decode cX4_hasLetter 1 = .ok (.ifCond .lt 20, 3) := by decide +kernel
theorem dX4_hasLetter_4 : decode cX4_hasLetter 4 = .ok (.iload_n 1, 1) := by decide +kernel
theorem dX4_hasLetter_5 : decode cX4_hasLetter 5 = .ok (.aload_n 0, 1) := by decide +kernel
theorem dX4_hasLetter_6 : decode cX4_hasLetter 6 = .ok (.getfield 28, 3) := by decide +kernel
theorem dX4_hasLetter_9 : decode cX4_hasLetter 9 = .ok (.if_icmp .ge 12, 3) := by decide +kernel
theorem dX4_hasLetter_12 : decode cX4_hasLetter 12 = .ok (.iload_n 1, 1) := by decide +kernel
theorem dX4_hasLetter_13 : decode cX4_hasLetter 13 = .ok (.iconst 4, 1) := by decide +kernel
theorem dX4_hasLetter_14 : decode cX4_hasLetter 14 = .ok (.if_icmp .ge 7, 3) := by decide +kernel
theorem dX4_hasLetter_17 : decode cX4_hasLetter 17 = .ok (.iconst 1, 1) := by decide +kernel
theorem dX4_hasLetter_18 : decode cX4_hasLetter 18 = .ok (.goto 4, 3) := by decide +kernel
theorem dX4_hasLetter_21 : decode cX4_hasLetter 21 = .ok (.iconst 0, 1) := by decide +kernel
theorem dX4_hasLetter_22 : decode cX4_hasLetter 22 = .ok (.ireturn, 1) := by decide +kernel
theorem dX4_hasSet_0 : decode cX4_hasSet 0 = .ok (.iload_n 1, 1) := by decide +kernel
theorem dX4_hasSet_1 : decode cX4_hasSet 1 = .ok (.ifCond .le 23, 3) := by decide +kernel
theorem dX4_hasSet_4 : decode cX4_hasSet 4 = .ok (.iload_n 1, 1) := by decide +kernel
theorem dX4_hasSet_5 : decode cX4_hasSet 5 = .ok (.sipush 4096, 3) := by decide +kernel
theorem dX4_hasSet_8 : decode cX4_hasSet 8 = .ok (.if_icmp .ge 16, 3) := by decide +kernel
theorem dX4_hasSet_11 : decode cX4_hasSet 11 = .ok (.iload_n 1, 1) := by decide +kernel
theorem dX4_hasSet_12 : decode cX4_hasSet 12 = .ok (.aload_n 0, 1) := by decide +kernel
theorem dX4_hasSet_13 : decode cX4_hasSet 13 = .ok (.getfield 24, 3) := by decide +kernel
theorem dX4_hasSet_16 : decode cX4_hasSet 16 = .ok (.ishr, 1) := by decide +kernel
theorem dX4_hasSet_17 : decode cX4_hasSet 17 = .ok (.ifCond .ne 7, 3) := by decide +kernel
