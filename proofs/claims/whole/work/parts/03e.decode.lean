theorem dX12_apartPairs_108 : decode cX12_apartPairs 108 = .ok (.invokestatic 102, 3) := by decide +kernel
theorem dX12_apartPairs_111 : decode cX12_apartPairs 111 = .ok (.iaload, 1) := by decide +kernel
theorem dX12_apartPairs_112 : decode cX12_apartPairs 112 = .ok (.istore 8, 2) := by decide +kernel
theorem dX12_apartPairs_114 : decode cX12_apartPairs 114 = .ok (.aload_n 0, 1) := by decide +kernel
theorem dX12_apartPairs_115 : decode cX12_apartPairs 115 = .ok (.getfield 16, 3) := by decide +kernel
theorem dX12_apartPairs_118 : decode cX12_apartPairs 118 = .ok (.iload_n 1, 1) := by decide +kernel
theorem dX12_apartPairs_119 : decode cX12_apartPairs 119 = .ok (.iload 6, 2) := by decide +kernel
theorem dX12_apartPairs_121 : decode cX12_apartPairs 121 = .ok (.iload 7, 2) := by decide +kernel
theorem dX12_apartPairs_123 : decode cX12_apartPairs 123 = .ok (.invokestatic 102, 3) := by decide +kernel
theorem dX12_apartPairs_126 : decode cX12_apartPairs 126 = .ok (.iaload, 1) := by decide +kernel
theorem dX12_apartPairs_127 : decode cX12_apartPairs 127 = .ok (.istore 9, 2) := by decide +kernel
theorem dX12_apartPairs_129 : decode cX12_apartPairs 129 = .ok (.iload 8, 2) := by decide +kernel
theorem dX12_apartPairs_131 : decode cX12_apartPairs 131 = .ok (.iconst (-1), 1) := by decide +kernel
theorem dX12_apartPairs_132 : decode cX12_apartPairs 132 = .ok (.if_icmp .eq 54, 3) := by decide +kernel
theorem dX12_apartPairs_135 : decode cX12_apartPairs 135 = .ok (.iload 9, 2) := by decide +kernel
theorem dX12_apartPairs_137 : decode cX12_apartPairs 137 = .ok (.iconst (-1), 1) := by decide +kernel
theorem dX12_apartPairs_138 : decode cX12_apartPairs 138 = .ok (.if_icmp .eq 48, 3) := by decide +kernel
theorem dX12_apartPairs_141 : decode cX12_apartPairs 141 = .ok (.aload_n 0, 1) := by decide +kernel
theorem dX12_apartPairs_142 : decode cX12_apartPairs 142 = .ok (.iload 8, 2) := by decide +kernel
theorem dX12_apartPairs_144 : decode cX12_apartPairs 144 = .ok (.iload 9, 2) := by decide +kernel
theorem dX12_apartPairs_146 : decode cX12_apartPairs 146 = .ok (.invokevirtual 151, 3) := by decide +kernel
theorem dX12_apartPairs_149 : decode cX12_apartPairs 149 = .ok (.ifCond .eq 37, 3) := by decide +kernel
theorem dX12_apartPairs_152 : decode cX12_apartPairs 152 = .ok (.aload_n 0, 1) := by decide +kernel
theorem dX12_apartPairs_153 : decode cX12_apartPairs 153 = .ok (.getfield 44, 3) := by decide +kernel
theorem dX12_apartPairs_156 : decode cX12_apartPairs 156 = .ok (.bipush 12, 2) := by decide +kernel
theorem dX12_apartPairs_158 : decode cX12_apartPairs 158 = .ok (.iload 5, 2) := by decide +kernel
theorem dX12_apartPairs_160 : decode cX12_apartPairs 160 = .ok (.imul, 1) := by decide +kernel
theorem dX12_apartPairs_161 : decode cX12_apartPairs 161 = .ok (.iload 6, 2) := by decide +kernel
theorem dX12_apartPairs_163 : decode cX12_apartPairs 163 = .ok (.iadd, 1) := by decide +kernel
theorem dX12_apartPairs_164 : decode cX12_apartPairs 164 = .ok (.iconst 1, 1) := by decide +kernel
theorem dX12_apartPairs_165 : decode cX12_apartPairs 165 = .ok (.bastore, 1) := by decide +kernel
theorem dX12_apartPairs_166 : decode cX12_apartPairs 166 = .ok (.aload_n 0, 1) := by decide +kernel
theorem dX12_apartPairs_167 : decode cX12_apartPairs 167 = .ok (.getfield 44, 3) := by decide +kernel
theorem dX12_apartPairs_170 : decode cX12_apartPairs 170 = .ok (.bipush 12, 2) := by decide +kernel
theorem dX12_apartPairs_172 : decode cX12_apartPairs 172 = .ok (.iload 6, 2) := by decide +kernel
theorem dX12_apartPairs_174 : decode cX12_apartPairs 174 = .ok (.imul, 1) := by decide +kernel
theorem dX12_apartPairs_175 : decode cX12_apartPairs 175 = .ok (.iload 5, 2) := by decide +kernel
theorem dX12_apartPairs_177 : decode cX12_apartPairs 177 = .ok (.iadd, 1) := by decide +kernel
theorem dX12_apartPairs_178 : decode cX12_apartPairs 178 = .ok (.iconst 1, 1) := by decide +kernel
theorem dX12_apartPairs_179 : decode cX12_apartPairs 179 = .ok (.bastore, 1) := by decide +kernel
theorem dX12_apartPairs_180 : decode cX12_apartPairs 180 = .ok (.iinc 3 (-1), 3) := by decide +kernel
theorem dX12_apartPairs_183 : decode cX12_apartPairs 183 = .ok (.iconst 1, 1) := by decide +kernel
theorem dX12_apartPairs_184 : decode cX12_apartPairs 184 = .ok (.istore 4, 2) := by decide +kernel
theorem dX12_apartPairs_186 : decode cX12_apartPairs 186 = .ok (.iinc 7 1, 3) := by decide +kernel
theorem dX12_apartPairs_189 : decode cX12_apartPairs 189 = .ok (.goto (-117), 3) := by decide +kernel
theorem dX12_apartPairs_192 : decode cX12_apartPairs 192 = .ok (.iinc 6 1, 3) := by decide +kernel
theorem dX12_apartPairs_195 : decode cX12_apartPairs 195 = .ok (.goto (-132), 3) := by decide +kernel
theorem dX12_apartPairs_198 : decode cX12_apartPairs 198 = .ok (.iinc 5 1, 3) := by decide +kernel
theorem dX12_apartPairs_201 : decode cX12_apartPairs 201 = .ok (.goto (-150), 3) := by decide +kernel
theorem dX12_apartPairs_204 : decode cX12_apartPairs 204 = .ok (.goto (-164), 3) := by decide +kernel
theorem dX12_apartPairs_207 : decode cX12_apartPairs 207 = .ok (.iload_n 3, 1) := by decide +kernel
theorem dX12_apartPairs_208 : decode cX12_apartPairs 208 = .ok (.ireturn, 1) := by decide +kernel
set_option maxRecDepth 20000 in
theorem ggX12_unmerged_X12_isMachine : GoodIn wsX12_unmerged wsX12_isMachine := goodIn_r _ [5, 6, 7, 8, 4, 9, 25, 26, 27, 28, 29, 30, 31, 32, 33, 34, 35, 36, 37, 38, 39, 40, 41, 42, 43, 44, 45, 46, 47, 48, 49, 50, 51, 52, 53, 54] (by decide +kernel) (by decide +kernel)
set_option maxRecDepth 20000 in
theorem gX12_unmerged_X12_isMachine : GoodIn wsX12_unmerged (wsV RX12 106 RX12 yX12_isMachine wsX12_isMachine) := goodIn_app (goodIn_of _ (by decide +kernel)) ggX12_unmerged_X12_isMachine
set_option maxRecDepth 20000 in
theorem ggX12_unmerged_X12_apartPairs : GoodIn wsX12_unmerged wsX12_apartPairs := goodIn_r _ [13, 14, 15, 16, 17, 18, 19, 4, 20, 21, 22, 23, 24, 25, 26, 27, 28, 29, 30, 31, 32, 33, 34, 35, 36, 37, 38, 39, 40, 41, 42, 43, 44, 45, 46, 47, 48, 49, 50, 51, 52, 53, 54] (by decide +kernel) (by decide +kernel)
set_option maxRecDepth 20000 in
theorem gX12_unmerged_X12_apartPairs : GoodIn wsX12_unmerged (wsV RX12 154 RX12 yX12_apartPairs wsX12_apartPairs) := goodIn_app (goodIn_of _ (by decide +kernel)) ggX12_unmerged_X12_apartPairs
theorem dX12_unmerged_0 : decode cX12_unmerged 0 = .ok (.aload_n 0, 1) := by decide +kernel
theorem dX12_unmerged_1 : decode cX12_unmerged 1 = .ok (.iload_n 1, 1) := by decide +kernel
theorem dX12_unmerged_2 : decode cX12_unmerged 2 = .ok (.invokevirtual 106, 3) := by decide +kernel
theorem dX12_unmerged_5 : decode cX12_unmerged 5 = .ok (.ifCond .eq 11, 3) := by decide +kernel
theorem dX12_unmerged_8 : decode cX12_unmerged 8 = .ok (.aload_n 0, 1) := by decide +kernel
theorem dX12_unmerged_9 : decode cX12_unmerged 9 = .ok (.iload_n 1, 1) := by decide +kernel
theorem dX12_unmerged_10 : decode cX12_unmerged 10 = .ok (.invokevirtual 154, 3) := by decide +kernel
theorem dX12_unmerged_13 : decode cX12_unmerged 13 = .ok (.goto 5, 3) := by decide +kernel
theorem dX12_unmerged_16 : decode cX12_unmerged 16 = .ok (.bipush (-2), 2) := by decide +kernel
theorem dX12_unmerged_18 : decode cX12_unmerged 18 = .ok (.ireturn, 1) := by decide +kernel
set_option maxRecDepth 20000 in
theorem ggX12_readPair_X12_longTo : GoodIn wsX12_readPair wsX12_longTo := goodIn_r _ [8, 3, 9, 10, 11, 12, 13, 14, 15, 16, 17, 18, 19, 20, 21, 22, 23, 24, 25, 26, 27, 28, 29, 30, 31, 32, 33, 34, 35, 36, 37, 38] (by decide +kernel) (by decide +kernel)
set_option maxRecDepth 20000 in
theorem gX12_readPair_X12_longTo : GoodIn wsX12_readPair (wsV RX12 142 RX12 yX12_longTo wsX12_longTo) := goodIn_app (goodIn_of _ (by decide +kernel)) ggX12_readPair_X12_longTo
theorem dX12_readPair_0 : decode cX12_readPair 0 = .ok (.aload_n 0, 1) := by decide +kernel
theorem dX12_readPair_1 : decode cX12_readPair 1 = .ok (.iload_n 1, 1) := by decide +kernel
theorem dX12_readPair_2 : decode cX12_readPair 2 = .ok (.invokevirtual 142, 3) := by decide +kernel
theorem dX12_readPair_5 : decode cX12_readPair 5 = .ok (.istore_n 2, 1) := by decide +kernel
theorem dX12_readPair_6 : decode cX12_readPair 6 = .ok (.iload_n 1, 1) := by decide +kernel
theorem dX12_readPair_7 : decode cX12_readPair 7 = .ok (.istore_n 3, 1) := by decide +kernel
theorem dX12_readPair_8 : decode cX12_readPair 8 = .ok (.iload_n 2, 1) := by decide +kernel
theorem dX12_readPair_9 : decode cX12_readPair 9 = .ok (.iconst 1, 1) := by decide +kernel
theorem dX12_readPair_10 : decode cX12_readPair 10 = .ok (.isub, 1) := by decide +kernel
theorem dX12_readPair_11 : decode cX12_readPair 11 = .ok (.istore 4, 2) := by decide +kernel
theorem dX12_readPair_13 : decode cX12_readPair 13 = .ok (.iload 4, 2) := by decide +kernel
theorem dX12_readPair_15 : decode cX12_readPair 15 = .ok (.ifCond .lt 29, 3) := by decide +kernel
theorem dX12_readPair_18 : decode cX12_readPair 18 = .ok (.aload_n 0, 1) := by decide +kernel
theorem dX12_readPair_19 : decode cX12_readPair 19 = .ok (.getfield 50, 3) := by decide +kernel
theorem dX12_readPair_22 : decode cX12_readPair 22 = .ok (.iload 4, 2) := by decide +kernel
theorem dX12_readPair_24 : decode cX12_readPair 24 = .ok (.aload_n 0, 1) := by decide +kernel
theorem dX12_readPair_25 : decode cX12_readPair 25 = .ok (.getfield 37, 3) := by decide +kernel
theorem dX12_readPair_28 : decode cX12_readPair 28 = .ok (.iload_n 3, 1) := by decide +kernel
theorem dX12_readPair_29 : decode cX12_readPair 29 = .ok (.iaload, 1) := by decide +kernel
theorem dX12_readPair_30 : decode cX12_readPair 30 = .ok (.iastore, 1) := by decide +kernel
theorem dX12_readPair_31 : decode cX12_readPair 31 = .ok (.aload_n 0, 1) := by decide +kernel
theorem dX12_readPair_32 : decode cX12_readPair 32 = .ok (.getfield 34, 3) := by decide +kernel
theorem dX12_readPair_35 : decode cX12_readPair 35 = .ok (.iload_n 3, 1) := by decide +kernel
theorem dX12_readPair_36 : decode cX12_readPair 36 = .ok (.iaload, 1) := by decide +kernel
theorem dX12_readPair_37 : decode cX12_readPair 37 = .ok (.istore_n 3, 1) := by decide +kernel
theorem dX12_readPair_38 : decode cX12_readPair 38 = .ok (.iinc 4 (-1), 3) := by decide +kernel
theorem dX12_readPair_41 : decode cX12_readPair 41 = .ok (.goto (-28), 3) := by decide +kernel
theorem dX12_readPair_44 : decode cX12_readPair 44 = .ok (.iload_n 2, 1) := by decide +kernel
theorem dX12_readPair_45 : decode cX12_readPair 45 = .ok (.ireturn, 1) := by decide +kernel
set_option maxRecDepth 20000 in
theorem ggX12_goesByPair_X12_next : GoodIn wsX12_goesByPair wsX12_next := goodIn_r _ [6, 7, 8, 9, 10, 5, 11, 12, 13, 14, 15, 16, 17, 18, 19, 20, 21, 22, 23, 24, 25, 26, 27, 28, 29, 30, 31, 32, 33, 34, 35, 36, 37, 38, 39, 40, 41] (by decide +kernel) (by decide +kernel)
set_option maxRecDepth 20000 in
theorem gX12_goesByPair_X12_next : GoodIn wsX12_goesByPair (wsV RX12 129 RX12 yX12_next wsX12_next) := goodIn_app (goodIn_of _ (by decide +kernel)) ggX12_goesByPair_X12_next
theorem dX12_goesByPair_0 : decode cX12_goesByPair 0 = .ok (.iload_n 2, 1) := by decide +kernel
theorem dX12_goesByPair_1 : decode cX12_goesByPair 1 = .ok (.istore 4, 2) := by decide +kernel
theorem dX12_goesByPair_3 : decode cX12_goesByPair 3 = .ok (.iconst 0, 1) := by decide +kernel
theorem dX12_goesByPair_4 : decode cX12_goesByPair 4 = .ok (.istore 5, 2) := by decide +kernel
theorem dX12_goesByPair_6 : decode cX12_goesByPair 6 = .ok (.iload 5, 2) := by decide +kernel
theorem dX12_goesByPair_8 : decode cX12_goesByPair 8 = .ok (.iload_n 3, 1) := by decide +kernel
theorem dX12_goesByPair_9 : decode cX12_goesByPair 9 = .ok (.if_icmp .ge 30, 3) := by decide +kernel
theorem dX12_goesByPair_12 : decode cX12_goesByPair 12 = .ok (.iload 4, 2) := by decide +kernel
theorem dX12_goesByPair_14 : decode cX12_goesByPair 14 = .ok (.ifCond .le 25, 3) := by decide +kernel
theorem dX12_goesByPair_17 : decode cX12_goesByPair 17 = .ok (.aload_n 0, 1) := by decide +kernel
theorem dX12_goesByPair_18 : decode cX12_goesByPair 18 = .ok (.iload_n 1, 1) := by decide +kernel
theorem dX12_goesByPair_19 : decode cX12_goesByPair 19 = .ok (.iload 4, 2) := by decide +kernel
theorem dX12_goesByPair_21 : decode cX12_goesByPair 21 = .ok (.aload_n 0, 1) := by decide +kernel
theorem dX12_goesByPair_22 : decode cX12_goesByPair 22 = .ok (.getfield 50, 3) := by decide +kernel
theorem dX12_goesByPair_25 : decode cX12_goesByPair 25 = .ok (.iload 5, 2) := by decide +kernel
theorem dX12_goesByPair_27 : decode cX12_goesByPair 27 = .ok (.iaload, 1) := by decide +kernel
theorem dX12_goesByPair_28 : decode cX12_goesByPair 28 = .ok (.invokevirtual 129, 3) := by decide +kernel
theorem dX12_goesByPair_31 : decode cX12_goesByPair 31 = .ok (.istore 4, 2) := by decide +kernel
theorem dX12_goesByPair_33 : decode cX12_goesByPair 33 = .ok (.iinc 5 1, 3) := by decide +kernel
theorem dX12_goesByPair_36 : decode cX12_goesByPair 36 = .ok (.goto (-30), 3) := by decide +kernel
theorem dX12_goesByPair_39 : decode cX12_goesByPair 39 = .ok (.iload 4, 2) := by decide +kernel
theorem dX12_goesByPair_41 : decode cX12_goesByPair 41 = .ok (.ireturn, 1) := by decide +kernel
theorem dX12_isBetter_0 : decode cX12_isBetter 0 = .ok (.iload_n 1, 1) := by decide +kernel
theorem dX12_isBetter_1 : decode cX12_isBetter 1 = .ok (.iload_n 2, 1) := by decide +kernel
theorem dX12_isBetter_2 : decode cX12_isBetter 2 = .ok (.if_icmp .eq 19, 3) := by decide +kernel
theorem dX12_isBetter_5 : decode cX12_isBetter 5 = .ok (.iload_n 2, 1) := by decide +kernel
theorem dX12_isBetter_6 : decode cX12_isBetter 6 = .ok (.iconst (-1), 1) := by decide +kernel
theorem dX12_isBetter_7 : decode cX12_isBetter 7 = .ok (.if_icmp .eq 8, 3) := by decide +kernel
theorem dX12_isBetter_10 : decode cX12_isBetter 10 = .ok (.iload_n 1, 1) := by decide +kernel
theorem dX12_isBetter_11 : decode cX12_isBetter 11 = .ok (.iload_n 2, 1) := by decide +kernel
theorem dX12_isBetter_12 : decode cX12_isBetter 12 = .ok (.if_icmp .ge 7, 3) := by decide +kernel
theorem dX12_isBetter_15 : decode cX12_isBetter 15 = .ok (.iconst 1, 1) := by decide +kernel
theorem dX12_isBetter_16 : decode cX12_isBetter 16 = .ok (.goto 4, 3) := by decide +kernel
theorem dX12_isBetter_19 : decode cX12_isBetter 19 = .ok (.iconst 0, 1) := by decide +kernel
theorem dX12_isBetter_20 : decode cX12_isBetter 20 = .ok (.ireturn, 1) := by decide +kernel
theorem dX12_isBetter_21 : decode cX12_isBetter 21 = .ok (.iconst 0, 1) := by decide +kernel
theorem dX12_isBetter_22 : decode cX12_isBetter 22 = .ok (.istore_n 3, 1) := by decide +kernel
theorem dX12_isBetter_23 : decode cX12_isBetter 23 = .ok (.iload_n 3, 1) := by decide +kernel
theorem dX12_isBetter_24 : decode cX12_isBetter 24 = .ok (.iload_n 1, 1) := by decide +kernel
theorem dX12_isBetter_25 : decode cX12_isBetter 25 = .ok (.if_icmp .ge 45, 3) := by decide +kernel
theorem dX12_isBetter_28 : decode cX12_isBetter 28 = .ok (.aload_n 0, 1) := by decide +kernel
theorem dX12_isBetter_29 : decode cX12_isBetter 29 = .ok (.getfield 50, 3) := by decide +kernel
theorem dX12_isBetter_32 : decode cX12_isBetter 32 = .ok (.iload_n 3, 1) := by decide +kernel
theorem dX12_isBetter_33 : decode cX12_isBetter 33 = .ok (.iaload, 1) := by decide +kernel
theorem dX12_isBetter_34 : decode cX12_isBetter 34 = .ok (.aload_n 0, 1) := by decide +kernel
theorem dX12_isBetter_35 : decode cX12_isBetter 35 = .ok (.getfield 53, 3) := by decide +kernel
theorem dX12_isBetter_38 : decode cX12_isBetter 38 = .ok (.iload_n 3, 1) := by decide +kernel
theorem dX12_isBetter_39 : decode cX12_isBetter 39 = .ok (.iaload, 1) := by decide +kernel
theorem dX12_isBetter_40 : decode cX12_isBetter 40 = .ok (.if_icmp .eq 24, 3) := by decide +kernel
theorem dX12_isBetter_43 : decode cX12_isBetter 43 = .ok (.aload_n 0, 1) := by decide +kernel
theorem dX12_isBetter_44 : decode cX12_isBetter 44 = .ok (.getfield 50, 3) := by decide +kernel
theorem dX12_isBetter_47 : decode cX12_isBetter 47 = .ok (.iload_n 3, 1) := by decide +kernel
theorem dX12_isBetter_48 : decode cX12_isBetter 48 = .ok (.iaload, 1) := by decide +kernel
theorem dX12_isBetter_49 : decode cX12_isBetter 49 = .ok (.aload_n 0, 1) := by decide +kernel
theorem dX12_isBetter_50 : decode cX12_isBetter 50 = .ok (.getfield 53, 3) := by decide +kernel
theorem dX12_isBetter_53 : decode cX12_isBetter 53 = .ok (.iload_n 3, 1) := by decide +kernel
theorem dX12_isBetter_54 : decode cX12_isBetter 54 = .ok (.iaload, 1) := by decide +kernel
theorem dX12_isBetter_55 : decode cX12_isBetter 55 = .ok (.if_icmp .ge 7, 3) := by decide +kernel
theorem dX12_isBetter_58 : decode cX12_isBetter 58 = .ok (.iconst 1, 1) := by decide +kernel
theorem dX12_isBetter_59 : decode cX12_isBetter 59 = .ok (.goto 4, 3) := by decide +kernel
theorem dX12_isBetter_62 : decode cX12_isBetter 62 = .ok (.iconst 0, 1) := by decide +kernel
theorem dX12_isBetter_63 : decode cX12_isBetter 63 = .ok (.ireturn, 1) := by decide +kernel
theorem dX12_isBetter_64 : decode cX12_isBetter 64 = .ok (.iinc 3 1, 3) := by decide +kernel
theorem dX12_isBetter_67 : decode cX12_isBetter 67 = .ok (.goto (-44), 3) := by decide +kernel
theorem dX12_isBetter_70 : decode cX12_isBetter 70 = .ok (.iconst 0, 1) := by decide +kernel
theorem dX12_isBetter_71 : decode cX12_isBetter 71 = .ok (.ireturn, 1) := by decide +kernel
set_option maxRecDepth 20000 in
theorem ggX12_bestPair_X12_looks : GoodIn wsX12_bestPair wsX12_looks := goodIn_r _ [8, 9, 10, 11, 12, 13, 14, 15, 16, 17, 7, 18, 19, 20, 21, 22, 23, 24, 25, 1, 26, 27, 28, 29, 46, 47, 48, 49, 50, 51, 52, 53, 54, 55, 56, 57, 58, 59, 60, 61, 62, 63, 64, 65, 66, 67, 68, 69, 70, 71, 72, 73, 74, 75] (by decide +kernel) (by decide +kernel)
set_option maxRecDepth 20000 in
theorem gX12_bestPair_X12_looks : GoodIn wsX12_bestPair (wsV RX12 145 RX12 yX12_looks wsX12_looks) := goodIn_app (goodIn_of _ (by decide +kernel)) ggX12_bestPair_X12_looks
set_option maxRecDepth 20000 in
theorem ggX12_bestPair_X12_readPair : GoodIn wsX12_bestPair wsX12_readPair := goodIn_r _ [33, 3, 14, 12, 34, 35, 36, 7, 37, 46, 47, 48, 49, 50, 51, 52, 53, 54, 55, 56, 57, 58, 59, 60, 61, 62, 63, 64, 65, 66, 67, 68, 69, 70, 71, 72, 73, 74, 75] (by decide +kernel) (by decide +kernel)
set_option maxRecDepth 20000 in
theorem gX12_bestPair_X12_readPair : GoodIn wsX12_bestPair (wsV RX12 157 RX12 yX12_readPair wsX12_readPair) := goodIn_app (goodIn_of _ (by decide +kernel)) ggX12_bestPair_X12_readPair
set_option maxRecDepth 20000 in
theorem ggX12_bestPair_X12_goesByPair : GoodIn wsX12_bestPair wsX12_goesByPair := goodIn_r _ [41, 3, 22, 23, 24, 7, 25, 1, 26, 27, 28, 29, 46, 47, 48, 49, 50, 51, 52, 53, 54, 55, 56, 57, 58, 59, 60, 61, 62, 63, 64, 65, 66, 67, 68, 69, 70, 71, 72, 73, 74, 75] (by decide +kernel) (by decide +kernel)
set_option maxRecDepth 20000 in
theorem gX12_bestPair_X12_goesByPair : GoodIn wsX12_bestPair (wsV RX12 160 RX12 yX12_goesByPair wsX12_goesByPair) := goodIn_app (goodIn_of _ (by decide +kernel)) ggX12_bestPair_X12_goesByPair
set_option maxRecDepth 20000 in
theorem ggX12_bestPair_X12_isBetter : GoodIn wsX12_bestPair wsX12_isBetter := goodIn_r _ [45, 3, 2, 46, 47, 48, 49, 50, 51, 52, 53, 54, 55, 56, 57, 58, 59, 60, 61, 62, 63, 64, 65, 66, 67, 68, 69, 70, 71, 72, 73, 74, 75] (by decide +kernel) (by decide +kernel)
set_option maxRecDepth 20000 in
theorem gX12_bestPair_X12_isBetter : GoodIn wsX12_bestPair (wsV RX12 163 RX12 yX12_isBetter wsX12_isBetter) := goodIn_app (goodIn_of _ (by decide +kernel)) ggX12_bestPair_X12_isBetter
theorem dX12_bestPair_0 : decode cX12_bestPair 0 = .ok (.iconst (-1), 1) := by decide +kernel
theorem dX12_bestPair_1 : decode cX12_bestPair 1 = .ok (.istore_n 3, 1) := by decide +kernel
theorem dX12_bestPair_2 : decode cX12_bestPair 2 = .ok (.iconst 0, 1) := by decide +kernel
theorem dX12_bestPair_3 : decode cX12_bestPair 3 = .ok (.istore 4, 2) := by decide +kernel
theorem dX12_bestPair_5 : decode cX12_bestPair 5 = .ok (.iload 4, 2) := by decide +kernel
theorem dX12_bestPair_7 : decode cX12_bestPair 7 = .ok (.aload_n 0, 1) := by decide +kernel
theorem dX12_bestPair_8 : decode cX12_bestPair 8 = .ok (.getfield 7, 3) := by decide +kernel
theorem dX12_bestPair_11 : decode cX12_bestPair 11 = .ok (.iload_n 1, 1) := by decide +kernel
theorem dX12_bestPair_12 : decode cX12_bestPair 12 = .ok (.iaload, 1) := by decide +kernel
theorem dX12_bestPair_13 : decode cX12_bestPair 13 = .ok (.if_icmp .ge 146, 3) := by decide +kernel
theorem dX12_bestPair_16 : decode cX12_bestPair 16 = .ok (.iload 4, 2) := by decide +kernel
theorem dX12_bestPair_18 : decode cX12_bestPair 18 = .ok (.iconst 1, 1) := by decide +kernel
theorem dX12_bestPair_19 : decode cX12_bestPair 19 = .ok (.iadd, 1) := by decide +kernel
theorem dX12_bestPair_20 : decode cX12_bestPair 20 = .ok (.istore 5, 2) := by decide +kernel
theorem dX12_bestPair_22 : decode cX12_bestPair 22 = .ok (.iload 5, 2) := by decide +kernel
theorem dX12_bestPair_24 : decode cX12_bestPair 24 = .ok (.aload_n 0, 1) := by decide +kernel
theorem dX12_bestPair_25 : decode cX12_bestPair 25 = .ok (.getfield 7, 3) := by decide +kernel
theorem dX12_bestPair_28 : decode cX12_bestPair 28 = .ok (.iload_n 1, 1) := by decide +kernel
theorem dX12_bestPair_29 : decode cX12_bestPair 29 = .ok (.iaload, 1) := by decide +kernel
theorem dX12_bestPair_30 : decode cX12_bestPair 30 = .ok (.if_icmp .ge 123, 3) := by decide +kernel
theorem dX12_bestPair_33 : decode cX12_bestPair 33 = .ok (.iload_n 2, 1) := by decide +kernel
theorem dX12_bestPair_34 : decode cX12_bestPair 34 = .ok (.iload 4, 2) := by decide +kernel
theorem dX12_bestPair_36 : decode cX12_bestPair 36 = .ok (.ishr, 1) := by decide +kernel
theorem dX12_bestPair_37 : decode cX12_bestPair 37 = .ok (.iconst 1, 1) := by decide +kernel
theorem dX12_bestPair_38 : decode cX12_bestPair 38 = .ok (.iand, 1) := by decide +kernel
theorem dX12_bestPair_39 : decode cX12_bestPair 39 = .ok (.iconst 1, 1) := by decide +kernel
theorem dX12_bestPair_40 : decode cX12_bestPair 40 = .ok (.if_icmp .ne 107, 3) := by decide +kernel
theorem dX12_bestPair_43 : decode cX12_bestPair 43 = .ok (.iload_n 2, 1) := by decide +kernel
theorem dX12_bestPair_44 : decode cX12_bestPair 44 = .ok (.iload 5, 2) := by decide +kernel
theorem dX12_bestPair_46 : decode cX12_bestPair 46 = .ok (.ishr, 1) := by decide +kernel
theorem dX12_bestPair_47 : decode cX12_bestPair 47 = .ok (.iconst 1, 1) := by decide +kernel
theorem dX12_bestPair_48 : decode cX12_bestPair 48 = .ok (.iand, 1) := by decide +kernel
theorem dX12_bestPair_49 : decode cX12_bestPair 49 = .ok (.iconst 1, 1) := by decide +kernel
theorem dX12_bestPair_50 : decode cX12_bestPair 50 = .ok (.if_icmp .ne 97, 3) := by decide +kernel
theorem dX12_bestPair_53 : decode cX12_bestPair 53 = .ok (.aload_n 0, 1) := by decide +kernel
theorem dX12_bestPair_54 : decode cX12_bestPair 54 = .ok (.iload_n 1, 1) := by decide +kernel
theorem dX12_bestPair_55 : decode cX12_bestPair 55 = .ok (.iconst 1, 1) := by decide +kernel
theorem dX12_bestPair_56 : decode cX12_bestPair 56 = .ok (.iload 4, 2) := by decide +kernel
theorem dX12_bestPair_58 : decode cX12_bestPair 58 = .ok (.ishl, 1) := by decide +kernel
theorem dX12_bestPair_59 : decode cX12_bestPair 59 = .ok (.iconst 1, 1) := by decide +kernel
theorem dX12_bestPair_60 : decode cX12_bestPair 60 = .ok (.iload 5, 2) := by decide +kernel
theorem dX12_bestPair_62 : decode cX12_bestPair 62 = .ok (.ishl, 1) := by decide +kernel
theorem dX12_bestPair_63 : decode cX12_bestPair 63 = .ok (.ior, 1) := by decide +kernel
theorem dX12_bestPair_64 : decode cX12_bestPair 64 = .ok (.iconst 0, 1) := by decide +kernel
theorem dX12_bestPair_65 : decode cX12_bestPair 65 = .ok (.invokevirtual 145, 3) := by decide +kernel
theorem dX12_bestPair_68 : decode cX12_bestPair 68 = .ok (.istore 6, 2) := by decide +kernel
theorem dX12_bestPair_70 : decode cX12_bestPair 70 = .ok (.iload 6, 2) := by decide +kernel
theorem dX12_bestPair_72 : decode cX12_bestPair 72 = .ok (.ifCond .ne 7, 3) := by decide +kernel
theorem dX12_bestPair_75 : decode cX12_bestPair 75 = .ok (.iconst (-1), 1) := by decide +kernel
theorem dX12_bestPair_76 : decode cX12_bestPair 76 = .ok (.goto 9, 3) := by decide +kernel
theorem dX12_bestPair_79 : decode cX12_bestPair 79 = .ok (.aload_n 0, 1) := by decide +kernel
theorem dX12_bestPair_80 : decode cX12_bestPair 80 = .ok (.iload 6, 2) := by decide +kernel
theorem dX12_bestPair_82 : decode cX12_bestPair 82 = .ok (.invokevirtual 157, 3) := by decide +kernel
theorem dX12_bestPair_85 : decode cX12_bestPair 85 = .ok (.istore 7, 2) := by decide +kernel
theorem dX12_bestPair_87 : decode cX12_bestPair 87 = .ok (.iload 7, 2) := by decide +kernel
theorem dX12_bestPair_89 : decode cX12_bestPair 89 = .ok (.iconst (-1), 1) := by decide +kernel
theorem dX12_bestPair_90 : decode cX12_bestPair 90 = .ok (.if_icmp .eq 57, 3) := by decide +kernel
theorem dX12_bestPair_93 : decode cX12_bestPair 93 = .ok (.aload_n 0, 1) := by decide +kernel
theorem dX12_bestPair_94 : decode cX12_bestPair 94 = .ok (.iload_n 1, 1) := by decide +kernel
theorem dX12_bestPair_95 : decode cX12_bestPair 95 = .ok (.iload_n 2, 1) := by decide +kernel
theorem dX12_bestPair_96 : decode cX12_bestPair 96 = .ok (.iload 7, 2) := by decide +kernel
theorem dX12_bestPair_98 : decode cX12_bestPair 98 = .ok (.invokevirtual 160, 3) := by decide +kernel
theorem dX12_bestPair_101 : decode cX12_bestPair 101 = .ok (.ifCond .le 46, 3) := by decide +kernel
theorem dX12_bestPair_104 : decode cX12_bestPair 104 = .ok (.aload_n 0, 1) := by decide +kernel
theorem dX12_bestPair_105 : decode cX12_bestPair 105 = .ok (.iload 7, 2) := by decide +kernel
theorem dX12_bestPair_107 : decode cX12_bestPair 107 = .ok (.iload_n 3, 1) := by decide +kernel
theorem dX12_bestPair_108 : decode cX12_bestPair 108 = .ok (.invokevirtual 163, 3) := by decide +kernel
theorem dX12_bestPair_111 : decode cX12_bestPair 111 = .ok (.ifCond .eq 36, 3) := by decide +kernel
theorem dX12_bestPair_114 : decode cX12_bestPair 114 = .ok (.iload 7, 2) := by decide +kernel
theorem dX12_bestPair_116 : decode cX12_bestPair 116 = .ok (.istore_n 3, 1) := by decide +kernel
theorem dX12_bestPair_117 : decode cX12_bestPair 117 = .ok (.iconst 0, 1) := by decide +kernel
theorem dX12_bestPair_118 : decode cX12_bestPair 118 = .ok (.istore 8, 2) := by decide +kernel
theorem dX12_bestPair_120 : decode cX12_bestPair 120 = .ok (.iload 8, 2) := by decide +kernel
theorem dX12_bestPair_122 : decode cX12_bestPair 122 = .ok (.iload 7, 2) := by decide +kernel
theorem dX12_bestPair_124 : decode cX12_bestPair 124 = .ok (.if_icmp .ge 23, 3) := by decide +kernel
theorem dX12_bestPair_127 : decode cX12_bestPair 127 = .ok (.aload_n 0, 1) := by decide +kernel
theorem dX12_bestPair_128 : decode cX12_bestPair 128 = .ok (.getfield 53, 3) := by decide +kernel
theorem dX12_bestPair_131 : decode cX12_bestPair 131 = .ok (.iload 8, 2) := by decide +kernel
theorem dX12_bestPair_133 : decode cX12_bestPair 133 = .ok (.aload_n 0, 1) := by decide +kernel
theorem dX12_bestPair_134 : decode cX12_bestPair 134 = .ok (.getfield 50, 3) := by decide +kernel
theorem dX12_bestPair_137 : decode cX12_bestPair 137 = .ok (.iload 8, 2) := by decide +kernel
theorem dX12_bestPair_139 : decode cX12_bestPair 139 = .ok (.iaload, 1) := by decide +kernel
theorem dX12_bestPair_140 : decode cX12_bestPair 140 = .ok (.iastore, 1) := by decide +kernel
theorem dX12_bestPair_141 : decode cX12_bestPair 141 = .ok (.iinc 8 1, 3) := by decide +kernel
theorem dX12_bestPair_144 : decode cX12_bestPair 144 = .ok (.goto (-24), 3) := by decide +kernel
theorem dX12_bestPair_147 : decode cX12_bestPair 147 = .ok (.iinc 5 1, 3) := by decide +kernel
theorem dX12_bestPair_150 : decode cX12_bestPair 150 = .ok (.goto (-128), 3) := by decide +kernel
theorem dX12_bestPair_153 : decode cX12_bestPair 153 = .ok (.iinc 4 1, 3) := by decide +kernel
theorem dX12_bestPair_156 : decode cX12_bestPair 156 = .ok (.goto (-151), 3) := by decide +kernel
theorem dX12_bestPair_159 : decode cX12_bestPair 159 = .ok (.iload_n 3, 1) := by decide +kernel
theorem dX12_bestPair_160 : decode cX12_bestPair 160 = .ok (.ireturn, 1) := by decide +kernel
set_option maxRecDepth 20000 in
theorem ggX12_greedy_X12_isSet : GoodIn wsX12_greedy wsX12_isSet := goodIn_r _ [9, 10, 11, 12, 13, 8, 14, 15, 16, 17, 18, 65, 66, 67, 68, 69, 70, 71, 72, 73, 74, 75, 76, 77, 78, 79, 80, 81, 82, 83, 84, 85, 86, 87, 88, 89, 90, 91, 92, 93, 94] (by decide +kernel) (by decide +kernel)
set_option maxRecDepth 20000 in
theorem gX12_greedy_X12_isSet : GoodIn wsX12_greedy (wsV RX12 126 RX12 yX12_isSet wsX12_isSet) := goodIn_app (goodIn_of _ (by decide +kernel)) ggX12_greedy_X12_isSet
set_option maxRecDepth 20000 in
theorem ggX12_greedy_X12_many : GoodIn wsX12_greedy wsX12_many := goodIn_r _ [21] (by decide +kernel) (by decide +kernel)
set_option maxRecDepth 20000 in
theorem gX12_greedy_X12_many : GoodIn wsX12_greedy (va_wsS RX12 132 yX12_many wsX12_many) := goodIn_app (goodIn_of _ (by decide +kernel)) ggX12_greedy_X12_many
set_option maxRecDepth 20000 in
theorem ggX12_greedy_X12_bestPair : GoodIn wsX12_greedy wsX12_bestPair := goodIn_r _ [25, 10, 2, 26, 27, 28, 29, 8, 30, 31, 32, 33, 34, 35, 36, 37, 38, 39, 40, 19, 20, 21, 41, 42, 43, 44, 45, 46, 47, 48, 49, 50, 51, 52, 53, 54, 55, 56, 57, 58, 59, 60, 61, 62, 63, 64, 65, 66, 67, 68, 69, 70, 71, 72, 73, 74, 75, 76, 77, 78, 79, 80, 81, 82, 83, 84, 85, 86, 87, 88, 89, 90, 91, 92, 93, 94] (by decide +kernel) (by decide +kernel)
set_option maxRecDepth 20000 in
theorem gX12_greedy_X12_bestPair : GoodIn wsX12_greedy (wsV RX12 166 RX12 yX12_bestPair wsX12_bestPair) := goodIn_app (goodIn_of _ (by decide +kernel)) ggX12_greedy_X12_bestPair
set_option maxRecDepth 20000 in
theorem ggX12_greedy_X12_next : GoodIn wsX12_greedy wsX12_next := goodIn_r _ [44, 10, 45, 46, 47, 8, 48, 65, 66, 67, 68, 69, 70, 71, 72, 73, 74, 75, 76, 77, 78, 79, 80, 81, 82, 83, 84, 85, 86, 87, 88, 89, 90, 91, 92, 93, 94] (by decide +kernel) (by decide +kernel)
set_option maxRecDepth 20000 in
theorem gX12_greedy_X12_next : GoodIn wsX12_greedy (wsV RX12 129 RX12 yX12_next wsX12_next) := goodIn_app (goodIn_of _ (by decide +kernel)) ggX12_greedy_X12_next
theorem dX12_greedy_0 : decode cX12_greedy 0 = .ok (.aload_n 0, 1) := by decide +kernel
theorem dX12_greedy_1 : decode cX12_greedy 1 = .ok (.iload_n 1, 1) := by decide +kernel
theorem dX12_greedy_2 : decode cX12_greedy 2 = .ok (.iload_n 2, 1) := by decide +kernel
theorem dX12_greedy_3 : decode cX12_greedy 3 = .ok (.invokevirtual 126, 3) := by decide +kernel
theorem dX12_greedy_6 : decode cX12_greedy 6 = .ok (.ifCond .ne 6, 3) := by decide +kernel
theorem dX12_greedy_9 : decode cX12_greedy 9 = .ok (.bipush (-2), 2) := by decide +kernel
theorem dX12_greedy_11 : decode cX12_greedy 11 = .ok (.ireturn, 1) := by decide +kernel
theorem dX12_greedy_12 : decode cX12_greedy 12 = .ok (.iload_n 2, 1) := by decide +kernel
theorem dX12_greedy_13 : decode cX12_greedy 13 = .ok (.istore_n 3, 1) := by decide +kernel
theorem dX12_greedy_14 : decode cX12_greedy 14 = .ok (.iconst 0, 1) := by decide +kernel
theorem dX12_greedy_15 : decode cX12_greedy 15 = .ok (.istore 4, 2) := by decide +kernel
theorem dX12_greedy_17 : decode cX12_greedy 17 = .ok (.iload_n 3, 1) := by decide +kernel
theorem dX12_greedy_18 : decode cX12_greedy 18 = .ok (.invokestatic 132, 3) := by decide +kernel
theorem dX12_greedy_21 : decode cX12_greedy 21 = .ok (.iconst 1, 1) := by decide +kernel
theorem dX12_greedy_22 : decode cX12_greedy 22 = .ok (.if_icmp .le 80, 3) := by decide +kernel
theorem dX12_greedy_25 : decode cX12_greedy 25 = .ok (.aload_n 0, 1) := by decide +kernel
theorem dX12_greedy_26 : decode cX12_greedy 26 = .ok (.iload_n 1, 1) := by decide +kernel
theorem dX12_greedy_27 : decode cX12_greedy 27 = .ok (.iload_n 3, 1) := by decide +kernel
theorem dX12_greedy_28 : decode cX12_greedy 28 = .ok (.invokevirtual 166, 3) := by decide +kernel
theorem dX12_greedy_31 : decode cX12_greedy 31 = .ok (.istore 5, 2) := by decide +kernel
theorem dX12_greedy_33 : decode cX12_greedy 33 = .ok (.iload 5, 2) := by decide +kernel
theorem dX12_greedy_35 : decode cX12_greedy 35 = .ok (.iconst (-1), 1) := by decide +kernel
theorem dX12_greedy_36 : decode cX12_greedy 36 = .ok (.if_icmp .eq 14, 3) := by decide +kernel
theorem dX12_greedy_39 : decode cX12_greedy 39 = .ok (.iload 4, 2) := by decide +kernel
theorem dX12_greedy_41 : decode cX12_greedy 41 = .ok (.iload 5, 2) := by decide +kernel
theorem dX12_greedy_43 : decode cX12_greedy 43 = .ok (.iadd, 1) := by decide +kernel
theorem dX12_greedy_44 : decode cX12_greedy 44 = .ok (.sipush 600, 3) := by decide +kernel
theorem dX12_greedy_47 : decode cX12_greedy 47 = .ok (.if_icmp .le 5, 3) := by decide +kernel
theorem dX12_greedy_50 : decode cX12_greedy 50 = .ok (.iconst (-1), 1) := by decide +kernel
theorem dX12_greedy_51 : decode cX12_greedy 51 = .ok (.ireturn, 1) := by decide +kernel
theorem dX12_greedy_52 : decode cX12_greedy 52 = .ok (.iconst 0, 1) := by decide +kernel
theorem dX12_greedy_53 : decode cX12_greedy 53 = .ok (.istore 6, 2) := by decide +kernel
theorem dX12_greedy_55 : decode cX12_greedy 55 = .ok (.iload 6, 2) := by decide +kernel
theorem dX12_greedy_57 : decode cX12_greedy 57 = .ok (.iload 5, 2) := by decide +kernel
theorem dX12_greedy_59 : decode cX12_greedy 59 = .ok (.if_icmp .ge 40, 3) := by decide +kernel
theorem dX12_greedy_62 : decode cX12_greedy 62 = .ok (.aload_n 0, 1) := by decide +kernel
theorem dX12_greedy_63 : decode cX12_greedy 63 = .ok (.getfield 47, 3) := by decide +kernel
theorem dX12_greedy_66 : decode cX12_greedy 66 = .ok (.iload 4, 2) := by decide +kernel
theorem dX12_greedy_68 : decode cX12_greedy 68 = .ok (.aload_n 0, 1) := by decide +kernel
theorem dX12_greedy_69 : decode cX12_greedy 69 = .ok (.getfield 53, 3) := by decide +kernel
theorem dX12_greedy_72 : decode cX12_greedy 72 = .ok (.iload 6, 2) := by decide +kernel
theorem dX12_greedy_74 : decode cX12_greedy 74 = .ok (.iaload, 1) := by decide +kernel
theorem dX12_greedy_75 : decode cX12_greedy 75 = .ok (.iastore, 1) := by decide +kernel
theorem dX12_greedy_76 : decode cX12_greedy 76 = .ok (.iinc 4 1, 3) := by decide +kernel
theorem dX12_greedy_79 : decode cX12_greedy 79 = .ok (.aload_n 0, 1) := by decide +kernel
theorem dX12_greedy_80 : decode cX12_greedy 80 = .ok (.iload_n 1, 1) := by decide +kernel
theorem dX12_greedy_81 : decode cX12_greedy 81 = .ok (.iload_n 3, 1) := by decide +kernel
theorem dX12_greedy_82 : decode cX12_greedy 82 = .ok (.aload_n 0, 1) := by decide +kernel
theorem dX12_greedy_83 : decode cX12_greedy 83 = .ok (.getfield 53, 3) := by decide +kernel
theorem dX12_greedy_86 : decode cX12_greedy 86 = .ok (.iload 6, 2) := by decide +kernel
theorem dX12_greedy_88 : decode cX12_greedy 88 = .ok (.iaload, 1) := by decide +kernel
theorem dX12_greedy_89 : decode cX12_greedy 89 = .ok (.invokevirtual 129, 3) := by decide +kernel
theorem dX12_greedy_92 : decode cX12_greedy 92 = .ok (.istore_n 3, 1) := by decide +kernel
theorem dX12_greedy_93 : decode cX12_greedy 93 = .ok (.iinc 6 1, 3) := by decide +kernel
theorem dX12_greedy_96 : decode cX12_greedy 96 = .ok (.goto (-41), 3) := by decide +kernel
theorem dX12_greedy_99 : decode cX12_greedy 99 = .ok (.goto (-82), 3) := by decide +kernel
theorem dX12_greedy_102 : decode cX12_greedy 102 = .ok (.aload_n 0, 1) := by decide +kernel
theorem dX12_greedy_103 : decode cX12_greedy 103 = .ok (.iload 4, 2) := by decide +kernel
theorem dX12_greedy_105 : decode cX12_greedy 105 = .ok (.putfield 123, 3) := by decide +kernel
theorem dX12_greedy_108 : decode cX12_greedy 108 = .ok (.iconst 0, 1) := by decide +kernel
theorem dX12_greedy_109 : decode cX12_greedy 109 = .ok (.istore 5, 2) := by decide +kernel
theorem dX12_greedy_111 : decode cX12_greedy 111 = .ok (.iload 5, 2) := by decide +kernel
theorem dX12_greedy_113 : decode cX12_greedy 113 = .ok (.iload 4, 2) := by decide +kernel
theorem dX12_greedy_115 : decode cX12_greedy 115 = .ok (.if_icmp .ge 23, 3) := by decide +kernel
theorem dX12_greedy_118 : decode cX12_greedy 118 = .ok (.aload_n 0, 1) := by decide +kernel
theorem dX12_greedy_119 : decode cX12_greedy 119 = .ok (.getfield 28, 3) := by decide +kernel
theorem dX12_greedy_122 : decode cX12_greedy 122 = .ok (.iload 5, 2) := by decide +kernel
theorem dX12_greedy_124 : decode cX12_greedy 124 = .ok (.aload_n 0, 1) := by decide +kernel
theorem dX12_greedy_125 : decode cX12_greedy 125 = .ok (.getfield 47, 3) := by decide +kernel
theorem dX12_greedy_128 : decode cX12_greedy 128 = .ok (.iload 5, 2) := by decide +kernel
theorem dX12_greedy_130 : decode cX12_greedy 130 = .ok (.iaload, 1) := by decide +kernel
theorem dX12_greedy_131 : decode cX12_greedy 131 = .ok (.iastore, 1) := by decide +kernel
theorem dX12_greedy_132 : decode cX12_greedy 132 = .ok (.iinc 5 1, 3) := by decide +kernel
theorem dX12_greedy_135 : decode cX12_greedy 135 = .ok (.goto (-24), 3) := by decide +kernel
theorem dX12_greedy_138 : decode cX12_greedy 138 = .ok (.iload 4, 2) := by decide +kernel
theorem dX12_greedy_140 : decode cX12_greedy 140 = .ok (.ireturn, 1) := by decide +kernel
theorem dX12_isLess_0 : decode cX12_isLess 0 = .ok (.aload_n 0, 1) := by decide +kernel
theorem dX12_isLess_1 : decode cX12_isLess 1 = .ok (.getfield 62, 3) := by decide +kernel
theorem dX12_isLess_4 : decode cX12_isLess 4 = .ok (.iload_n 1, 1) := by decide +kernel
theorem dX12_isLess_5 : decode cX12_isLess 5 = .ok (.iaload, 1) := by decide +kernel
theorem dX12_isLess_6 : decode cX12_isLess 6 = .ok (.aload_n 0, 1) := by decide +kernel
theorem dX12_isLess_7 : decode cX12_isLess 7 = .ok (.getfield 62, 3) := by decide +kernel
theorem dX12_isLess_10 : decode cX12_isLess 10 = .ok (.iload_n 2, 1) := by decide +kernel
theorem dX12_isLess_11 : decode cX12_isLess 11 = .ok (.iaload, 1) := by decide +kernel
theorem dX12_isLess_12 : decode cX12_isLess 12 = .ok (.if_icmp .lt 33, 3) := by decide +kernel
theorem dX12_isLess_15 : decode cX12_isLess 15 = .ok (.aload_n 0, 1) := by decide +kernel
theorem dX12_isLess_16 : decode cX12_isLess 16 = .ok (.getfield 62, 3) := by decide +kernel
theorem dX12_isLess_19 : decode cX12_isLess 19 = .ok (.iload_n 1, 1) := by decide +kernel
theorem dX12_isLess_20 : decode cX12_isLess 20 = .ok (.iaload, 1) := by decide +kernel
theorem dX12_isLess_21 : decode cX12_isLess 21 = .ok (.aload_n 0, 1) := by decide +kernel
theorem dX12_isLess_22 : decode cX12_isLess 22 = .ok (.getfield 62, 3) := by decide +kernel
theorem dX12_isLess_25 : decode cX12_isLess 25 = .ok (.iload_n 2, 1) := by decide +kernel
theorem dX12_isLess_26 : decode cX12_isLess 26 = .ok (.iaload, 1) := by decide +kernel
theorem dX12_isLess_27 : decode cX12_isLess 27 = .ok (.if_icmp .ne 22, 3) := by decide +kernel
theorem dX12_isLess_30 : decode cX12_isLess 30 = .ok (.aload_n 0, 1) := by decide +kernel
theorem dX12_isLess_31 : decode cX12_isLess 31 = .ok (.getfield 65, 3) := by decide +kernel
theorem dX12_isLess_34 : decode cX12_isLess 34 = .ok (.iload_n 1, 1) := by decide +kernel
theorem dX12_isLess_35 : decode cX12_isLess 35 = .ok (.iaload, 1) := by decide +kernel
theorem dX12_isLess_36 : decode cX12_isLess 36 = .ok (.aload_n 0, 1) := by decide +kernel
theorem dX12_isLess_37 : decode cX12_isLess 37 = .ok (.getfield 65, 3) := by decide +kernel
theorem dX12_isLess_40 : decode cX12_isLess 40 = .ok (.iload_n 2, 1) := by decide +kernel
theorem dX12_isLess_41 : decode cX12_isLess 41 = .ok (.iaload, 1) := by decide +kernel
theorem dX12_isLess_42 : decode cX12_isLess 42 = .ok (.if_icmp .ge 7, 3) := by decide +kernel
theorem dX12_isLess_45 : decode cX12_isLess 45 = .ok (.iconst 1, 1) := by decide +kernel
theorem dX12_isLess_46 : decode cX12_isLess 46 = .ok (.goto 4, 3) := by decide +kernel
theorem dX12_isLess_49 : decode cX12_isLess 49 = .ok (.iconst 0, 1) := by decide +kernel
theorem dX12_isLess_50 : decode cX12_isLess 50 = .ok (.ireturn, 1) := by decide +kernel
theorem dX12_exchange_0 : decode cX12_exchange 0 = .ok (.aload_n 0, 1) := by decide +kernel
theorem dX12_exchange_1 : decode cX12_exchange 1 = .ok (.getfield 62, 3) := by decide +kernel
theorem dX12_exchange_4 : decode cX12_exchange 4 = .ok (.iload_n 1, 1) := by decide +kernel
theorem dX12_exchange_5 : decode cX12_exchange 5 = .ok (.iaload, 1) := by decide +kernel
theorem dX12_exchange_6 : decode cX12_exchange 6 = .ok (.istore_n 3, 1) := by decide +kernel
theorem dX12_exchange_7 : decode cX12_exchange 7 = .ok (.aload_n 0, 1) := by decide +kernel
theorem dX12_exchange_8 : decode cX12_exchange 8 = .ok (.getfield 62, 3) := by decide +kernel
theorem dX12_exchange_11 : decode cX12_exchange 11 = .ok (.iload_n 1, 1) := by decide +kernel
theorem dX12_exchange_12 : decode cX12_exchange 12 = .ok (.aload_n 0, 1) := by decide +kernel
theorem dX12_exchange_13 : decode cX12_exchange 13 = .ok (.getfield 62, 3) := by decide +kernel
theorem dX12_exchange_16 : decode cX12_exchange 16 = .ok (.iload_n 2, 1) := by decide +kernel
theorem dX12_exchange_17 : decode cX12_exchange 17 = .ok (.iaload, 1) := by decide +kernel
theorem dX12_exchange_18 : decode cX12_exchange 18 = .ok (.iastore, 1) := by decide +kernel
theorem dX12_exchange_19 : decode cX12_exchange 19 = .ok (.aload_n 0, 1) := by decide +kernel
theorem dX12_exchange_20 : decode cX12_exchange 20 = .ok (.getfield 62, 3) := by decide +kernel
theorem dX12_exchange_23 : decode cX12_exchange 23 = .ok (.iload_n 2, 1) := by decide +kernel
theorem dX12_exchange_24 : decode cX12_exchange 24 = .ok (.iload_n 3, 1) := by decide +kernel
theorem dX12_exchange_25 : decode cX12_exchange 25 = .ok (.iastore, 1) := by decide +kernel
theorem dX12_exchange_26 : decode cX12_exchange 26 = .ok (.aload_n 0, 1) := by decide +kernel
theorem dX12_exchange_27 : decode cX12_exchange 27 = .ok (.getfield 65, 3) := by decide +kernel
theorem dX12_exchange_30 : decode cX12_exchange 30 = .ok (.iload_n 1, 1) := by decide +kernel
theorem dX12_exchange_31 : decode cX12_exchange 31 = .ok (.iaload, 1) := by decide +kernel
theorem dX12_exchange_32 : decode cX12_exchange 32 = .ok (.istore_n 3, 1) := by decide +kernel
theorem dX12_exchange_33 : decode cX12_exchange 33 = .ok (.aload_n 0, 1) := by decide +kernel
theorem dX12_exchange_34 : decode cX12_exchange 34 = .ok (.getfield 65, 3) := by decide +kernel
theorem dX12_exchange_37 : decode cX12_exchange 37 = .ok (.iload_n 1, 1) := by decide +kernel
theorem dX12_exchange_38 : decode cX12_exchange 38 = .ok (.aload_n 0, 1) := by decide +kernel
theorem dX12_exchange_39 : decode cX12_exchange 39 = .ok (.getfield 65, 3) := by decide +kernel
theorem dX12_exchange_42 : decode cX12_exchange 42 = .ok (.iload_n 2, 1) := by decide +kernel
theorem dX12_exchange_43 : decode cX12_exchange 43 = .ok (.iaload, 1) := by decide +kernel
theorem dX12_exchange_44 : decode cX12_exchange 44 = .ok (.iastore, 1) := by decide +kernel
theorem dX12_exchange_45 : decode cX12_exchange 45 = .ok (.aload_n 0, 1) := by decide +kernel
theorem dX12_exchange_46 : decode cX12_exchange 46 = .ok (.getfield 65, 3) := by decide +kernel
theorem dX12_exchange_49 : decode cX12_exchange 49 = .ok (.iload_n 2, 1) := by decide +kernel
theorem dX12_exchange_50 : decode cX12_exchange 50 = .ok (.iload_n 3, 1) := by decide +kernel
theorem dX12_exchange_51 : decode cX12_exchange 51 = .ok (.iastore, 1) := by decide +kernel
theorem dX12_exchange_52 : decode cX12_exchange 52 = .ok (.return_, 1) := by decide +kernel
set_option maxRecDepth 20000 in
theorem ggX12_heaps_X12_isLess : GoodIn wsX12_heaps wsX12_isLess := goodIn_r _ [8, 2, 3, 13, 14, 15, 16, 17, 18, 19, 20, 21, 22, 23, 24, 25, 26, 27, 28, 29, 30, 31, 32, 33, 34, 35, 36, 37, 38, 39, 40, 41, 42] (by decide +kernel) (by decide +kernel)
set_option maxRecDepth 20000 in
theorem gX12_heaps_X12_isLess : GoodIn wsX12_heaps (wsV RX12 172 RX12 yX12_isLess wsX12_isLess) := goodIn_app (goodIn_of _ (by decide +kernel)) ggX12_heaps_X12_isLess
set_option maxRecDepth 20000 in
theorem ggX12_heaps_X12_exchange : GoodIn wsX12_heaps wsX12_exchange := goodIn_r _ [12, 2, 3, 13, 14, 15, 16, 17, 18, 19, 20, 21, 22, 23, 24, 25, 26, 27, 28, 29, 30, 31, 32, 33, 34, 35, 36, 37, 38, 39, 40, 41, 42] (by decide +kernel) (by decide +kernel)
set_option maxRecDepth 20000 in
theorem gX12_heaps_X12_exchange : GoodIn wsX12_heaps (wsV RX12 175 RX12 yX12_exchange wsX12_exchange) := goodIn_app (goodIn_of _ (by decide +kernel)) ggX12_heaps_X12_exchange
theorem dX12_heaps_0 : decode cX12_heaps 0 = .ok (.aload_n 0, 1) := by decide +kernel
theorem dX12_heaps_1 : decode cX12_heaps 1 = .ok (.getfield 169, 3) := by decide +kernel
theorem dX12_heaps_4 : decode cX12_heaps 4 = .ok (.istore_n 3, 1) := by decide +kernel
theorem dX12_heaps_5 : decode cX12_heaps 5 = .ok (.aload_n 0, 1) := by decide +kernel
theorem dX12_heaps_6 : decode cX12_heaps 6 = .ok (.getfield 62, 3) := by decide +kernel
theorem dX12_heaps_9 : decode cX12_heaps 9 = .ok (.iload_n 3, 1) := by decide +kernel
theorem dX12_heaps_10 : decode cX12_heaps 10 = .ok (.iload_n 1, 1) := by decide +kernel
theorem dX12_heaps_11 : decode cX12_heaps 11 = .ok (.iastore, 1) := by decide +kernel
theorem dX12_heaps_12 : decode cX12_heaps 12 = .ok (.aload_n 0, 1) := by decide +kernel
theorem dX12_heaps_13 : decode cX12_heaps 13 = .ok (.getfield 65, 3) := by decide +kernel
theorem dX12_heaps_16 : decode cX12_heaps 16 = .ok (.iload_n 3, 1) := by decide +kernel
theorem dX12_heaps_17 : decode cX12_heaps 17 = .ok (.iload_n 2, 1) := by decide +kernel
theorem dX12_heaps_18 : decode cX12_heaps 18 = .ok (.iastore, 1) := by decide +kernel
theorem dX12_heaps_19 : decode cX12_heaps 19 = .ok (.aload_n 0, 1) := by decide +kernel
theorem dX12_heaps_20 : decode cX12_heaps 20 = .ok (.dup, 1) := by decide +kernel
theorem dX12_heaps_21 : decode cX12_heaps 21 = .ok (.getfield 169, 3) := by decide +kernel
theorem dX12_heaps_24 : decode cX12_heaps 24 = .ok (.iconst 1, 1) := by decide +kernel
theorem dX12_heaps_25 : decode cX12_heaps 25 = .ok (.iadd, 1) := by decide +kernel
theorem dX12_heaps_26 : decode cX12_heaps 26 = .ok (.putfield 169, 3) := by decide +kernel
theorem dX12_heaps_29 : decode cX12_heaps 29 = .ok (.iload_n 3, 1) := by decide +kernel
theorem dX12_heaps_30 : decode cX12_heaps 30 = .ok (.ifCond .le 35, 3) := by decide +kernel
theorem dX12_heaps_33 : decode cX12_heaps 33 = .ok (.aload_n 0, 1) := by decide +kernel
theorem dX12_heaps_34 : decode cX12_heaps 34 = .ok (.iload_n 3, 1) := by decide +kernel
theorem dX12_heaps_35 : decode cX12_heaps 35 = .ok (.iload_n 3, 1) := by decide +kernel
theorem dX12_heaps_36 : decode cX12_heaps 36 = .ok (.iconst 1, 1) := by decide +kernel
theorem dX12_heaps_37 : decode cX12_heaps 37 = .ok (.isub, 1) := by decide +kernel
theorem dX12_heaps_38 : decode cX12_heaps 38 = .ok (.iconst 2, 1) := by decide +kernel
theorem dX12_heaps_39 : decode cX12_heaps 39 = .ok (.idiv, 1) := by decide +kernel
theorem dX12_heaps_40 : decode cX12_heaps 40 = .ok (.invokevirtual 172, 3) := by decide +kernel
theorem dX12_heaps_43 : decode cX12_heaps 43 = .ok (.ifCond .eq 22, 3) := by decide +kernel
theorem dX12_heaps_46 : decode cX12_heaps 46 = .ok (.aload_n 0, 1) := by decide +kernel
theorem dX12_heaps_47 : decode cX12_heaps 47 = .ok (.iload_n 3, 1) := by decide +kernel
theorem dX12_heaps_48 : decode cX12_heaps 48 = .ok (.iload_n 3, 1) := by decide +kernel
theorem dX12_heaps_49 : decode cX12_heaps 49 = .ok (.iconst 1, 1) := by decide +kernel
theorem dX12_heaps_50 : decode cX12_heaps 50 = .ok (.isub, 1) := by decide +kernel
theorem dX12_heaps_51 : decode cX12_heaps 51 = .ok (.iconst 2, 1) := by decide +kernel
theorem dX12_heaps_52 : decode cX12_heaps 52 = .ok (.idiv, 1) := by decide +kernel
theorem dX12_heaps_53 : decode cX12_heaps 53 = .ok (.invokevirtual 175, 3) := by decide +kernel
theorem dX12_heaps_56 : decode cX12_heaps 56 = .ok (.iload_n 3, 1) := by decide +kernel
theorem dX12_heaps_57 : decode cX12_heaps 57 = .ok (.iconst 1, 1) := by decide +kernel
theorem dX12_heaps_58 : decode cX12_heaps 58 = .ok (.isub, 1) := by decide +kernel
theorem dX12_heaps_59 : decode cX12_heaps 59 = .ok (.iconst 2, 1) := by decide +kernel
theorem dX12_heaps_60 : decode cX12_heaps 60 = .ok (.idiv, 1) := by decide +kernel
theorem dX12_heaps_61 : decode cX12_heaps 61 = .ok (.istore_n 3, 1) := by decide +kernel
theorem dX12_heaps_62 : decode cX12_heaps 62 = .ok (.goto (-33), 3) := by decide +kernel
theorem dX12_heaps_65 : decode cX12_heaps 65 = .ok (.return_, 1) := by decide +kernel
set_option maxRecDepth 20000 in
theorem ggX12_leaves_X12_exchange : GoodIn wsX12_leaves wsX12_exchange := goodIn_r _ [7, 8, 1, 13, 14, 15, 16, 17, 18, 19, 20, 21, 22, 23, 24, 25, 26, 27, 28, 29, 30, 31, 32, 33, 34, 35, 36, 37, 38, 39, 40, 41, 42] (by decide +kernel) (by decide +kernel)
set_option maxRecDepth 20000 in
theorem gX12_leaves_X12_exchange : GoodIn wsX12_leaves (wsV RX12 175 RX12 yX12_exchange wsX12_exchange) := goodIn_app (goodIn_of _ (by decide +kernel)) ggX12_leaves_X12_exchange
set_option maxRecDepth 20000 in
theorem ggX12_leaves_X12_isLess : GoodIn wsX12_leaves wsX12_isLess := goodIn_r _ [12, 8, 1, 13, 14, 15, 16, 17, 18, 19, 20, 21, 22, 23, 24, 25, 26, 27, 28, 29, 30, 31, 32, 33, 34, 35, 36, 37, 38, 39, 40, 41, 42] (by decide +kernel) (by decide +kernel)
set_option maxRecDepth 20000 in
theorem gX12_leaves_X12_isLess : GoodIn wsX12_leaves (wsV RX12 172 RX12 yX12_isLess wsX12_isLess) := goodIn_app (goodIn_of _ (by decide +kernel)) ggX12_leaves_X12_isLess
theorem dX12_leaves_0 : decode cX12_leaves 0 = .ok (.aload_n 0, 1) := by decide +kernel
theorem dX12_leaves_1 : decode cX12_leaves 1 = .ok (.getfield 65, 3) := by decide +kernel
theorem dX12_leaves_4 : decode cX12_leaves 4 = .ok (.iconst 0, 1) := by decide +kernel
theorem dX12_leaves_5 : decode cX12_leaves 5 = .ok (.iaload, 1) := by decide +kernel
theorem dX12_leaves_6 : decode cX12_leaves 6 = .ok (.istore_n 1, 1) := by decide +kernel
theorem dX12_leaves_7 : decode cX12_leaves 7 = .ok (.aload_n 0, 1) := by decide +kernel
theorem dX12_leaves_8 : decode cX12_leaves 8 = .ok (.dup, 1) := by decide +kernel
theorem dX12_leaves_9 : decode cX12_leaves 9 = .ok (.getfield 169, 3) := by decide +kernel
theorem dX12_leaves_12 : decode cX12_leaves 12 = .ok (.iconst 1, 1) := by decide +kernel
theorem dX12_leaves_13 : decode cX12_leaves 13 = .ok (.isub, 1) := by decide +kernel
theorem dX12_leaves_14 : decode cX12_leaves 14 = .ok (.putfield 169, 3) := by decide +kernel
theorem dX12_leaves_17 : decode cX12_leaves 17 = .ok (.aload_n 0, 1) := by decide +kernel
theorem dX12_leaves_18 : decode cX12_leaves 18 = .ok (.iconst 0, 1) := by decide +kernel
theorem dX12_leaves_19 : decode cX12_leaves 19 = .ok (.aload_n 0, 1) := by decide +kernel
theorem dX12_leaves_20 : decode cX12_leaves 20 = .ok (.getfield 169, 3) := by decide +kernel
theorem dX12_leaves_23 : decode cX12_leaves 23 = .ok (.invokevirtual 175, 3) := by decide +kernel
theorem dX12_leaves_26 : decode cX12_leaves 26 = .ok (.iconst 0, 1) := by decide +kernel
theorem dX12_leaves_27 : decode cX12_leaves 27 = .ok (.istore_n 2, 1) := by decide +kernel
theorem dX12_leaves_28 : decode cX12_leaves 28 = .ok (.iconst 1, 1) := by decide +kernel
theorem dX12_leaves_29 : decode cX12_leaves 29 = .ok (.istore_n 3, 1) := by decide +kernel
theorem dX12_leaves_30 : decode cX12_leaves 30 = .ok (.iload_n 3, 1) := by decide +kernel
theorem dX12_leaves_31 : decode cX12_leaves 31 = .ok (.ifCond .eq 107, 3) := by decide +kernel
theorem dX12_leaves_34 : decode cX12_leaves 34 = .ok (.iload_n 2, 1) := by decide +kernel
theorem dX12_leaves_35 : decode cX12_leaves 35 = .ok (.istore 4, 2) := by decide +kernel
theorem dX12_leaves_37 : decode cX12_leaves 37 = .ok (.iconst 2, 1) := by decide +kernel
theorem dX12_leaves_38 : decode cX12_leaves 38 = .ok (.iload_n 2, 1) := by decide +kernel
theorem dX12_leaves_39 : decode cX12_leaves 39 = .ok (.imul, 1) := by decide +kernel
theorem dX12_leaves_40 : decode cX12_leaves 40 = .ok (.iconst 1, 1) := by decide +kernel
theorem dX12_leaves_41 : decode cX12_leaves 41 = .ok (.iadd, 1) := by decide +kernel
theorem dX12_leaves_42 : decode cX12_leaves 42 = .ok (.aload_n 0, 1) := by decide +kernel
theorem dX12_leaves_43 : decode cX12_leaves 43 = .ok (.getfield 169, 3) := by decide +kernel
theorem dX12_leaves_46 : decode cX12_leaves 46 = .ok (.if_icmp .ge 25, 3) := by decide +kernel
theorem dX12_leaves_49 : decode cX12_leaves 49 = .ok (.aload_n 0, 1) := by decide +kernel
theorem dX12_leaves_50 : decode cX12_leaves 50 = .ok (.iconst 2, 1) := by decide +kernel
theorem dX12_leaves_51 : decode cX12_leaves 51 = .ok (.iload_n 2, 1) := by decide +kernel
theorem dX12_leaves_52 : decode cX12_leaves 52 = .ok (.imul, 1) := by decide +kernel
theorem dX12_leaves_53 : decode cX12_leaves 53 = .ok (.iconst 1, 1) := by decide +kernel
theorem dX12_leaves_54 : decode cX12_leaves 54 = .ok (.iadd, 1) := by decide +kernel
theorem dX12_leaves_55 : decode cX12_leaves 55 = .ok (.iload 4, 2) := by decide +kernel
theorem dX12_leaves_57 : decode cX12_leaves 57 = .ok (.invokevirtual 172, 3) := by decide +kernel
theorem dX12_leaves_60 : decode cX12_leaves 60 = .ok (.ifCond .eq 11, 3) := by decide +kernel
theorem dX12_leaves_63 : decode cX12_leaves 63 = .ok (.iconst 2, 1) := by decide +kernel
theorem dX12_leaves_64 : decode cX12_leaves 64 = .ok (.iload_n 2, 1) := by decide +kernel
theorem dX12_leaves_65 : decode cX12_leaves 65 = .ok (.imul, 1) := by decide +kernel
theorem dX12_leaves_66 : decode cX12_leaves 66 = .ok (.iconst 1, 1) := by decide +kernel
theorem dX12_leaves_67 : decode cX12_leaves 67 = .ok (.iadd, 1) := by decide +kernel
theorem dX12_leaves_68 : decode cX12_leaves 68 = .ok (.goto 5, 3) := by decide +kernel
theorem dX12_leaves_71 : decode cX12_leaves 71 = .ok (.iload 4, 2) := by decide +kernel
theorem dX12_leaves_73 : decode cX12_leaves 73 = .ok (.istore 4, 2) := by decide +kernel
theorem dX12_leaves_75 : decode cX12_leaves 75 = .ok (.iconst 2, 1) := by decide +kernel
theorem dX12_leaves_76 : decode cX12_leaves 76 = .ok (.iload_n 2, 1) := by decide +kernel
theorem dX12_leaves_77 : decode cX12_leaves 77 = .ok (.imul, 1) := by decide +kernel
theorem dX12_leaves_78 : decode cX12_leaves 78 = .ok (.iconst 2, 1) := by decide +kernel
theorem dX12_leaves_79 : decode cX12_leaves 79 = .ok (.iadd, 1) := by decide +kernel
theorem dX12_leaves_80 : decode cX12_leaves 80 = .ok (.aload_n 0, 1) := by decide +kernel
theorem dX12_leaves_81 : decode cX12_leaves 81 = .ok (.getfield 169, 3) := by decide +kernel
theorem dX12_leaves_84 : decode cX12_leaves 84 = .ok (.if_icmp .ge 25, 3) := by decide +kernel
theorem dX12_leaves_87 : decode cX12_leaves 87 = .ok (.aload_n 0, 1) := by decide +kernel
theorem dX12_leaves_88 : decode cX12_leaves 88 = .ok (.iconst 2, 1) := by decide +kernel
theorem dX12_leaves_89 : decode cX12_leaves 89 = .ok (.iload_n 2, 1) := by decide +kernel
theorem dX12_leaves_90 : decode cX12_leaves 90 = .ok (.imul, 1) := by decide +kernel
theorem dX12_leaves_91 : decode cX12_leaves 91 = .ok (.iconst 2, 1) := by decide +kernel
theorem dX12_leaves_92 : decode cX12_leaves 92 = .ok (.iadd, 1) := by decide +kernel
theorem dX12_leaves_93 : decode cX12_leaves 93 = .ok (.iload 4, 2) := by decide +kernel
theorem dX12_leaves_95 : decode cX12_leaves 95 = .ok (.invokevirtual 172, 3) := by decide +kernel
theorem dX12_leaves_98 : decode cX12_leaves 98 = .ok (.ifCond .eq 11, 3) := by decide +kernel
theorem dX12_leaves_101 : decode cX12_leaves 101 = .ok (.iconst 2, 1) := by decide +kernel
theorem dX12_leaves_102 : decode cX12_leaves 102 = .ok (.iload_n 2, 1) := by decide +kernel
theorem dX12_leaves_103 : decode cX12_leaves 103 = .ok (.imul, 1) := by decide +kernel
theorem dX12_leaves_104 : decode cX12_leaves 104 = .ok (.iconst 2, 1) := by decide +kernel
theorem dX12_leaves_105 : decode cX12_leaves 105 = .ok (.iadd, 1) := by decide +kernel
theorem dX12_leaves_106 : decode cX12_leaves 106 = .ok (.goto 5, 3) := by decide +kernel
theorem dX12_leaves_109 : decode cX12_leaves 109 = .ok (.iload 4, 2) := by decide +kernel
theorem dX12_leaves_111 : decode cX12_leaves 111 = .ok (.istore 4, 2) := by decide +kernel
theorem dX12_leaves_113 : decode cX12_leaves 113 = .ok (.iload 4, 2) := by decide +kernel
theorem dX12_leaves_115 : decode cX12_leaves 115 = .ok (.iload_n 2, 1) := by decide +kernel
theorem dX12_leaves_116 : decode cX12_leaves 116 = .ok (.if_icmp .eq 7, 3) := by decide +kernel
theorem dX12_leaves_119 : decode cX12_leaves 119 = .ok (.iconst 1, 1) := by decide +kernel
theorem dX12_leaves_120 : decode cX12_leaves 120 = .ok (.goto 4, 3) := by decide +kernel
theorem dX12_leaves_123 : decode cX12_leaves 123 = .ok (.iconst 0, 1) := by decide +kernel
theorem dX12_leaves_124 : decode cX12_leaves 124 = .ok (.istore_n 3, 1) := by decide +kernel
theorem dX12_leaves_125 : decode cX12_leaves 125 = .ok (.aload_n 0, 1) := by decide +kernel
theorem dX12_leaves_126 : decode cX12_leaves 126 = .ok (.iload_n 2, 1) := by decide +kernel
theorem dX12_leaves_127 : decode cX12_leaves 127 = .ok (.iload 4, 2) := by decide +kernel
theorem dX12_leaves_129 : decode cX12_leaves 129 = .ok (.invokevirtual 175, 3) := by decide +kernel
theorem dX12_leaves_132 : decode cX12_leaves 132 = .ok (.iload 4, 2) := by decide +kernel
theorem dX12_leaves_134 : decode cX12_leaves 134 = .ok (.istore_n 2, 1) := by decide +kernel
theorem dX12_leaves_135 : decode cX12_leaves 135 = .ok (.goto (-105), 3) := by decide +kernel
theorem dX12_leaves_138 : decode cX12_leaves 138 = .ok (.iload_n 1, 1) := by decide +kernel
theorem dX12_leaves_139 : decode cX12_leaves 139 = .ok (.ireturn, 1) := by decide +kernel
set_option maxRecDepth 20000 in
theorem ggX12_cheapest_X12_isSet : GoodIn wsX12_cheapest wsX12_isSet := goodIn_r _ [12, 13, 14, 15, 16, 11, 17, 18, 19, 20, 21, 61, 62, 63, 64, 65, 66, 67, 68, 69, 70, 71, 72, 73, 74, 75, 76, 77, 78, 79, 80, 81, 82, 83, 84, 85, 86, 87, 88, 89, 90] (by decide +kernel) (by decide +kernel)
set_option maxRecDepth 20000 in
theorem gX12_cheapest_X12_isSet : GoodIn wsX12_cheapest (wsV RX12 126 RX12 yX12_isSet wsX12_isSet) := goodIn_app (goodIn_of _ (by decide +kernel)) ggX12_cheapest_X12_isSet
set_option maxRecDepth 20000 in
theorem ggX12_cheapest_X12_heaps : GoodIn wsX12_cheapest wsX12_heaps := goodIn_r _ [25, 3, 26, 27, 28, 29, 30, 11, 31, 32, 33, 34, 35, 61, 62, 63, 64, 65, 66, 67, 68, 69, 70, 71, 72, 73, 74, 75, 76, 77, 78, 79, 80, 81, 82, 83, 84, 85, 86, 87, 88, 89, 90] (by decide +kernel) (by decide +kernel)
set_option maxRecDepth 20000 in
theorem gX12_cheapest_X12_heaps : GoodIn wsX12_cheapest (wsV RX12 179 RX12 yX12_heaps wsX12_heaps) := goodIn_app (goodIn_of _ (by decide +kernel)) ggX12_cheapest_X12_heaps
set_option maxRecDepth 20000 in
theorem ggX12_cheapest_X12_leaves : GoodIn wsX12_cheapest wsX12_leaves := goodIn_r _ [39, 27, 3, 32, 33, 34, 11, 35, 26, 28, 29, 30, 31, 61, 62, 63, 64, 65, 66, 67, 68, 69, 70, 71, 72, 73, 74, 75, 76, 77, 78, 79, 80, 81, 82, 83, 84, 85, 86, 87, 88, 89, 90] (by decide +kernel) (by decide +kernel)
set_option maxRecDepth 20000 in
theorem gX12_cheapest_X12_leaves : GoodIn wsX12_cheapest (wsV RX12 182 RX12 yX12_leaves wsX12_leaves) := goodIn_app (goodIn_of _ (by decide +kernel)) ggX12_cheapest_X12_leaves
set_option maxRecDepth 20000 in
theorem ggX12_cheapest_X12_many : GoodIn wsX12_cheapest wsX12_many := goodIn_r _ [42] (by decide +kernel) (by decide +kernel)
set_option maxRecDepth 20000 in
theorem gX12_cheapest_X12_many : GoodIn wsX12_cheapest (va_wsS RX12 132 yX12_many wsX12_many) := goodIn_app (goodIn_of _ (by decide +kernel)) ggX12_cheapest_X12_many
set_option maxRecDepth 20000 in
theorem ggX12_cheapest_X12_becomesWord : GoodIn wsX12_cheapest wsX12_becomesWord := goodIn_r _ [46, 47, 48, 7, 4, 49, 50, 51, 11, 52, 61, 62, 63, 64, 65, 66, 67, 68, 69, 70, 71, 72, 73, 74, 75, 76, 77, 78, 79, 80, 81, 82, 83, 84, 85, 86, 87, 88, 89, 90] (by decide +kernel) (by decide +kernel)
set_option maxRecDepth 20000 in
theorem gX12_cheapest_X12_becomesWord : GoodIn wsX12_cheapest (wsV RX12 148 RX12 yX12_becomesWord wsX12_becomesWord) := goodIn_app (goodIn_of _ (by decide +kernel)) ggX12_cheapest_X12_becomesWord
set_option maxRecDepth 20000 in
theorem ggX12_cheapest_X12_next : GoodIn wsX12_cheapest wsX12_next := goodIn_r _ [56, 13, 57, 58, 59, 11, 60, 61, 62, 63, 64, 65, 66, 67, 68, 69, 70, 71, 72, 73, 74, 75, 76, 77, 78, 79, 80, 81, 82, 83, 84, 85, 86, 87, 88, 89, 90] (by decide +kernel) (by decide +kernel)
set_option maxRecDepth 20000 in
theorem gX12_cheapest_X12_next : GoodIn wsX12_cheapest (wsV RX12 129 RX12 yX12_next wsX12_next) := goodIn_app (goodIn_of _ (by decide +kernel)) ggX12_cheapest_X12_next
theorem dX12_cheapest_0 : decode cX12_cheapest 0 = .ok (.aload_n 0, 1) := by decide +kernel
theorem dX12_cheapest_1 : decode cX12_cheapest 1 = .ok (.iload_n 1, 1) := by decide +kernel
theorem dX12_cheapest_2 : decode cX12_cheapest 2 = .ok (.iload_n 2, 1) := by decide +kernel
theorem dX12_cheapest_3 : decode cX12_cheapest 3 = .ok (.invokevirtual 126, 3) := by decide +kernel
theorem dX12_cheapest_6 : decode cX12_cheapest 6 = .ok (.ifCond .ne 6, 3) := by decide +kernel
theorem dX12_cheapest_9 : decode cX12_cheapest 9 = .ok (.bipush (-2), 2) := by decide +kernel
theorem dX12_cheapest_11 : decode cX12_cheapest 11 = .ok (.ireturn, 1) := by decide +kernel
theorem dX12_cheapest_12 : decode cX12_cheapest 12 = .ok (.iconst 0, 1) := by decide +kernel
theorem dX12_cheapest_13 : decode cX12_cheapest 13 = .ok (.istore_n 3, 1) := by decide +kernel
theorem dX12_cheapest_14 : decode cX12_cheapest 14 = .ok (.iload_n 3, 1) := by decide +kernel
theorem dX12_cheapest_15 : decode cX12_cheapest 15 = .ok (.sipush 4096, 3) := by decide +kernel
theorem dX12_cheapest_18 : decode cX12_cheapest 18 = .ok (.if_icmp .ge 23, 3) := by decide +kernel
theorem dX12_cheapest_21 : decode cX12_cheapest 21 = .ok (.aload_n 0, 1) := by decide +kernel
theorem dX12_cheapest_22 : decode cX12_cheapest 22 = .ok (.getfield 56, 3) := by decide +kernel
theorem dX12_cheapest_25 : decode cX12_cheapest 25 = .ok (.iload_n 3, 1) := by decide +kernel
theorem dX12_cheapest_26 : decode cX12_cheapest 26 = .ok (.iconst (-1), 1) := by decide +kernel
theorem dX12_cheapest_27 : decode cX12_cheapest 27 = .ok (.iastore, 1) := by decide +kernel
theorem dX12_cheapest_28 : decode cX12_cheapest 28 = .ok (.aload_n 0, 1) := by decide +kernel
theorem dX12_cheapest_29 : decode cX12_cheapest 29 = .ok (.getfield 59, 3) := by decide +kernel
theorem dX12_cheapest_32 : decode cX12_cheapest 32 = .ok (.iload_n 3, 1) := by decide +kernel
theorem dX12_cheapest_33 : decode cX12_cheapest 33 = .ok (.iconst 0, 1) := by decide +kernel
theorem dX12_cheapest_34 : decode cX12_cheapest 34 = .ok (.bastore, 1) := by decide +kernel
theorem dX12_cheapest_35 : decode cX12_cheapest 35 = .ok (.iinc 3 1, 3) := by decide +kernel
theorem dX12_cheapest_38 : decode cX12_cheapest 38 = .ok (.goto (-24), 3) := by decide +kernel
theorem dX12_cheapest_41 : decode cX12_cheapest 41 = .ok (.aload_n 0, 1) := by decide +kernel
theorem dX12_cheapest_42 : decode cX12_cheapest 42 = .ok (.iconst 0, 1) := by decide +kernel
theorem dX12_cheapest_43 : decode cX12_cheapest 43 = .ok (.putfield 169, 3) := by decide +kernel
theorem dX12_cheapest_46 : decode cX12_cheapest 46 = .ok (.aload_n 0, 1) := by decide +kernel
theorem dX12_cheapest_47 : decode cX12_cheapest 47 = .ok (.getfield 56, 3) := by decide +kernel
theorem dX12_cheapest_50 : decode cX12_cheapest 50 = .ok (.iload_n 2, 1) := by decide +kernel
theorem dX12_cheapest_51 : decode cX12_cheapest 51 = .ok (.iconst 0, 1) := by decide +kernel
theorem dX12_cheapest_52 : decode cX12_cheapest 52 = .ok (.iastore, 1) := by decide +kernel
theorem dX12_cheapest_53 : decode cX12_cheapest 53 = .ok (.aload_n 0, 1) := by decide +kernel
theorem dX12_cheapest_54 : decode cX12_cheapest 54 = .ok (.getfield 34, 3) := by decide +kernel
theorem dX12_cheapest_57 : decode cX12_cheapest 57 = .ok (.iload_n 2, 1) := by decide +kernel
theorem dX12_cheapest_58 : decode cX12_cheapest 58 = .ok (.iconst 0, 1) := by decide +kernel
theorem dX12_cheapest_59 : decode cX12_cheapest 59 = .ok (.iastore, 1) := by decide +kernel
theorem dX12_cheapest_60 : decode cX12_cheapest 60 = .ok (.aload_n 0, 1) := by decide +kernel
theorem dX12_cheapest_61 : decode cX12_cheapest 61 = .ok (.iconst 0, 1) := by decide +kernel
theorem dX12_cheapest_62 : decode cX12_cheapest 62 = .ok (.iload_n 2, 1) := by decide +kernel
theorem dX12_cheapest_63 : decode cX12_cheapest 63 = .ok (.invokevirtual 179, 3) := by decide +kernel
theorem dX12_cheapest_66 : decode cX12_cheapest 66 = .ok (.aload_n 0, 1) := by decide +kernel
theorem dX12_cheapest_67 : decode cX12_cheapest 67 = .ok (.getfield 169, 3) := by decide +kernel
theorem dX12_cheapest_70 : decode cX12_cheapest 70 = .ok (.ifCond .le 170, 3) := by decide +kernel
theorem dX12_cheapest_73 : decode cX12_cheapest 73 = .ok (.aload_n 0, 1) := by decide +kernel
theorem dX12_cheapest_74 : decode cX12_cheapest 74 = .ok (.invokevirtual 182, 3) := by decide +kernel
theorem dX12_cheapest_77 : decode cX12_cheapest 77 = .ok (.istore_n 3, 1) := by decide +kernel
theorem dX12_cheapest_78 : decode cX12_cheapest 78 = .ok (.aload_n 0, 1) := by decide +kernel
theorem dX12_cheapest_79 : decode cX12_cheapest 79 = .ok (.getfield 59, 3) := by decide +kernel
theorem dX12_cheapest_82 : decode cX12_cheapest 82 = .ok (.iload_n 3, 1) := by decide +kernel
theorem dX12_cheapest_83 : decode cX12_cheapest 83 = .ok (.baload, 1) := by decide +kernel
theorem dX12_cheapest_84 : decode cX12_cheapest 84 = .ok (.ifCond .ne 153, 3) := by decide +kernel
theorem dX12_cheapest_87 : decode cX12_cheapest 87 = .ok (.aload_n 0, 1) := by decide +kernel
theorem dX12_cheapest_88 : decode cX12_cheapest 88 = .ok (.getfield 59, 3) := by decide +kernel
theorem dX12_cheapest_91 : decode cX12_cheapest 91 = .ok (.iload_n 3, 1) := by decide +kernel
theorem dX12_cheapest_92 : decode cX12_cheapest 92 = .ok (.iconst 1, 1) := by decide +kernel
theorem dX12_cheapest_93 : decode cX12_cheapest 93 = .ok (.bastore, 1) := by decide +kernel
theorem dX12_cheapest_94 : decode cX12_cheapest 94 = .ok (.iload_n 3, 1) := by decide +kernel
theorem dX12_cheapest_95 : decode cX12_cheapest 95 = .ok (.invokestatic 132, 3) := by decide +kernel
theorem dX12_cheapest_98 : decode cX12_cheapest 98 = .ok (.iconst 1, 1) := by decide +kernel
theorem dX12_cheapest_99 : decode cX12_cheapest 99 = .ok (.if_icmp .ne 16, 3) := by decide +kernel
theorem dX12_cheapest_102 : decode cX12_cheapest 102 = .ok (.aload_n 0, 1) := by decide +kernel
theorem dX12_cheapest_103 : decode cX12_cheapest 103 = .ok (.iload_n 3, 1) := by decide +kernel
theorem dX12_cheapest_104 : decode cX12_cheapest 104 = .ok (.invokevirtual 148, 3) := by decide +kernel
theorem dX12_cheapest_107 : decode cX12_cheapest 107 = .ok (.pop, 1) := by decide +kernel
theorem dX12_cheapest_108 : decode cX12_cheapest 108 = .ok (.aload_n 0, 1) := by decide +kernel
theorem dX12_cheapest_109 : decode cX12_cheapest 109 = .ok (.getfield 56, 3) := by decide +kernel
theorem dX12_cheapest_112 : decode cX12_cheapest 112 = .ok (.iload_n 3, 1) := by decide +kernel
theorem dX12_cheapest_113 : decode cX12_cheapest 113 = .ok (.iaload, 1) := by decide +kernel
theorem dX12_cheapest_114 : decode cX12_cheapest 114 = .ok (.ireturn, 1) := by decide +kernel
theorem dX12_cheapest_115 : decode cX12_cheapest 115 = .ok (.iconst 0, 1) := by decide +kernel
theorem dX12_cheapest_116 : decode cX12_cheapest 116 = .ok (.istore 4, 2) := by decide +kernel
theorem dX12_cheapest_118 : decode cX12_cheapest 118 = .ok (.iload 4, 2) := by decide +kernel
theorem dX12_cheapest_120 : decode cX12_cheapest 120 = .ok (.aload_n 0, 1) := by decide +kernel
theorem dX12_cheapest_121 : decode cX12_cheapest 121 = .ok (.getfield 13, 3) := by decide +kernel
theorem dX12_cheapest_124 : decode cX12_cheapest 124 = .ok (.iload_n 1, 1) := by decide +kernel
theorem dX12_cheapest_125 : decode cX12_cheapest 125 = .ok (.iaload, 1) := by decide +kernel
theorem dX12_cheapest_126 : decode cX12_cheapest 126 = .ok (.if_icmp .ge 111, 3) := by decide +kernel
theorem dX12_cheapest_129 : decode cX12_cheapest 129 = .ok (.aload_n 0, 1) := by decide +kernel
theorem dX12_cheapest_130 : decode cX12_cheapest 130 = .ok (.iload_n 1, 1) := by decide +kernel
theorem dX12_cheapest_131 : decode cX12_cheapest 131 = .ok (.iload_n 3, 1) := by decide +kernel
theorem dX12_cheapest_132 : decode cX12_cheapest 132 = .ok (.iload 4, 2) := by decide +kernel
theorem dX12_cheapest_134 : decode cX12_cheapest 134 = .ok (.invokevirtual 129, 3) := by decide +kernel
theorem dX12_cheapest_137 : decode cX12_cheapest 137 = .ok (.istore 5, 2) := by decide +kernel
theorem dX12_cheapest_139 : decode cX12_cheapest 139 = .ok (.aload_n 0, 1) := by decide +kernel
theorem dX12_cheapest_140 : decode cX12_cheapest 140 = .ok (.getfield 56, 3) := by decide +kernel
theorem dX12_cheapest_143 : decode cX12_cheapest 143 = .ok (.iload_n 3, 1) := by decide +kernel
theorem dX12_cheapest_144 : decode cX12_cheapest 144 = .ok (.iaload, 1) := by decide +kernel
theorem dX12_cheapest_145 : decode cX12_cheapest 145 = .ok (.aload_n 0, 1) := by decide +kernel
theorem dX12_cheapest_146 : decode cX12_cheapest 146 = .ok (.getfield 22, 3) := by decide +kernel
theorem dX12_cheapest_149 : decode cX12_cheapest 149 = .ok (.iconst 4, 1) := by decide +kernel
theorem dX12_cheapest_150 : decode cX12_cheapest 150 = .ok (.iload_n 1, 1) := by decide +kernel
theorem dX12_cheapest_151 : decode cX12_cheapest 151 = .ok (.imul, 1) := by decide +kernel
theorem dX12_cheapest_152 : decode cX12_cheapest 152 = .ok (.iload 4, 2) := by decide +kernel
theorem dX12_cheapest_154 : decode cX12_cheapest 154 = .ok (.iadd, 1) := by decide +kernel
theorem dX12_cheapest_155 : decode cX12_cheapest 155 = .ok (.iaload, 1) := by decide +kernel
theorem dX12_cheapest_156 : decode cX12_cheapest 156 = .ok (.iadd, 1) := by decide +kernel
theorem dX12_cheapest_157 : decode cX12_cheapest 157 = .ok (.istore 6, 2) := by decide +kernel
theorem dX12_cheapest_159 : decode cX12_cheapest 159 = .ok (.iload 5, 2) := by decide +kernel
theorem dX12_cheapest_161 : decode cX12_cheapest 161 = .ok (.ifCond .le 70, 3) := by decide +kernel
theorem dX12_cheapest_164 : decode cX12_cheapest 164 = .ok (.aload_n 0, 1) := by decide +kernel
theorem dX12_cheapest_165 : decode cX12_cheapest 165 = .ok (.getfield 59, 3) := by decide +kernel
theorem dX12_cheapest_168 : decode cX12_cheapest 168 = .ok (.iload 5, 2) := by decide +kernel
theorem dX12_cheapest_170 : decode cX12_cheapest 170 = .ok (.baload, 1) := by decide +kernel
theorem dX12_cheapest_171 : decode cX12_cheapest 171 = .ok (.ifCond .ne 60, 3) := by decide +kernel
theorem dX12_cheapest_174 : decode cX12_cheapest 174 = .ok (.aload_n 0, 1) := by decide +kernel
theorem dX12_cheapest_175 : decode cX12_cheapest 175 = .ok (.getfield 56, 3) := by decide +kernel
theorem dX12_cheapest_178 : decode cX12_cheapest 178 = .ok (.iload 5, 2) := by decide +kernel
theorem dX12_cheapest_180 : decode cX12_cheapest 180 = .ok (.iaload, 1) := by decide +kernel
theorem dX12_cheapest_181 : decode cX12_cheapest 181 = .ok (.iconst (-1), 1) := by decide +kernel
theorem dX12_cheapest_182 : decode cX12_cheapest 182 = .ok (.if_icmp .eq 15, 3) := by decide +kernel
theorem dX12_cheapest_185 : decode cX12_cheapest 185 = .ok (.iload 6, 2) := by decide +kernel
theorem dX12_cheapest_187 : decode cX12_cheapest 187 = .ok (.aload_n 0, 1) := by decide +kernel
theorem dX12_cheapest_188 : decode cX12_cheapest 188 = .ok (.getfield 56, 3) := by decide +kernel
theorem dX12_cheapest_191 : decode cX12_cheapest 191 = .ok (.iload 5, 2) := by decide +kernel
theorem dX12_cheapest_193 : decode cX12_cheapest 193 = .ok (.iaload, 1) := by decide +kernel
theorem dX12_cheapest_194 : decode cX12_cheapest 194 = .ok (.if_icmp .ge 37, 3) := by decide +kernel
theorem dX12_cheapest_197 : decode cX12_cheapest 197 = .ok (.aload_n 0, 1) := by decide +kernel
theorem dX12_cheapest_198 : decode cX12_cheapest 198 = .ok (.getfield 56, 3) := by decide +kernel
theorem dX12_cheapest_201 : decode cX12_cheapest 201 = .ok (.iload 5, 2) := by decide +kernel
theorem dX12_cheapest_203 : decode cX12_cheapest 203 = .ok (.iload 6, 2) := by decide +kernel
theorem dX12_cheapest_205 : decode cX12_cheapest 205 = .ok (.iastore, 1) := by decide +kernel
theorem dX12_cheapest_206 : decode cX12_cheapest 206 = .ok (.aload_n 0, 1) := by decide +kernel
theorem dX12_cheapest_207 : decode cX12_cheapest 207 = .ok (.getfield 34, 3) := by decide +kernel
theorem dX12_cheapest_210 : decode cX12_cheapest 210 = .ok (.iload 5, 2) := by decide +kernel
theorem dX12_cheapest_212 : decode cX12_cheapest 212 = .ok (.iload_n 3, 1) := by decide +kernel
theorem dX12_cheapest_213 : decode cX12_cheapest 213 = .ok (.iastore, 1) := by decide +kernel
theorem dX12_cheapest_214 : decode cX12_cheapest 214 = .ok (.aload_n 0, 1) := by decide +kernel
theorem dX12_cheapest_215 : decode cX12_cheapest 215 = .ok (.getfield 37, 3) := by decide +kernel
theorem dX12_cheapest_218 : decode cX12_cheapest 218 = .ok (.iload 5, 2) := by decide +kernel
theorem dX12_cheapest_220 : decode cX12_cheapest 220 = .ok (.iload 4, 2) := by decide +kernel
theorem dX12_cheapest_222 : decode cX12_cheapest 222 = .ok (.iastore, 1) := by decide +kernel
theorem dX12_cheapest_223 : decode cX12_cheapest 223 = .ok (.aload_n 0, 1) := by decide +kernel
theorem dX12_cheapest_224 : decode cX12_cheapest 224 = .ok (.iload 6, 2) := by decide +kernel
theorem dX12_cheapest_226 : decode cX12_cheapest 226 = .ok (.iload 5, 2) := by decide +kernel
theorem dX12_cheapest_228 : decode cX12_cheapest 228 = .ok (.invokevirtual 179, 3) := by decide +kernel
theorem dX12_cheapest_231 : decode cX12_cheapest 231 = .ok (.iinc 4 1, 3) := by decide +kernel
theorem dX12_cheapest_234 : decode cX12_cheapest 234 = .ok (.goto (-116), 3) := by decide +kernel
theorem dX12_cheapest_237 : decode cX12_cheapest 237 = .ok (.goto (-171), 3) := by decide +kernel
theorem dX12_cheapest_240 : decode cX12_cheapest 240 = .ok (.iconst (-1), 1) := by decide +kernel
theorem dX12_cheapest_241 : decode cX12_cheapest 241 = .ok (.ireturn, 1) := by decide +kernel
set_option maxRecDepth 20000 in
theorem ggX12_isTime_X12_in : GoodIn wsX12_isTime wsX12_in := goodIn_r _ [4] (by decide +kernel) (by decide +kernel)
set_option maxRecDepth 20000 in
theorem gX12_isTime_X12_in : GoodIn wsX12_isTime (va_wsS RX12 94 yX12_in wsX12_in) := goodIn_app (goodIn_of _ (by decide +kernel)) ggX12_isTime_X12_in
theorem dX12_isTime_0 : decode cX12_isTime 0 = .ok (.iload_n 0, 1) := by decide +kernel
theorem dX12_isTime_1 : decode cX12_isTime 1 = .ok (.iconst 0, 1) := by decide +kernel
theorem dX12_isTime_2 : decode cX12_isTime 2 = .ok (.bipush 12, 2) := by decide +kernel
theorem dX12_isTime_4 : decode cX12_isTime 4 = .ok (.invokestatic 94, 3) := by decide +kernel
theorem dX12_isTime_7 : decode cX12_isTime 7 = .ok (.ireturn, 1) := by decide +kernel
set_option maxRecDepth 20000 in
theorem ggX12_chance_X12_isSet : GoodIn wsX12_chance wsX12_isSet := goodIn_r _ [11, 2, 12, 13, 14, 10, 15, 16, 17, 18, 19, 31, 32, 33, 34, 35, 36, 37, 38, 39, 40, 41, 42, 43, 44, 45, 46, 47, 48, 49, 50, 51, 52, 53, 54, 55, 56, 57, 58, 59, 60] (by decide +kernel) (by decide +kernel)
set_option maxRecDepth 20000 in
theorem gX12_chance_X12_isSet : GoodIn wsX12_chance (wsV RX12 126 RX12 yX12_isSet wsX12_isSet) := goodIn_app (goodIn_of _ (by decide +kernel)) ggX12_chance_X12_isSet
set_option maxRecDepth 20000 in
theorem ggX12_chance_X12_isTime : GoodIn wsX12_chance wsX12_isTime := goodIn_r _ [22, 17, 18, 10, 19] (by decide +kernel) (by decide +kernel)
set_option maxRecDepth 20000 in
theorem gX12_chance_X12_isTime : GoodIn wsX12_chance (va_wsS RX12 186 yX12_isTime wsX12_isTime) := goodIn_app (goodIn_of _ (by decide +kernel)) ggX12_chance_X12_isTime
set_option maxRecDepth 20000 in
theorem ggX12_chance_X12_next : GoodIn wsX12_chance wsX12_next := goodIn_r _ [26, 2, 27, 28, 29, 10, 30, 31, 32, 33, 34, 35, 36, 37, 38, 39, 40, 41, 42, 43, 44, 45, 46, 47, 48, 49, 50, 51, 52, 53, 54, 55, 56, 57, 58, 59, 60] (by decide +kernel) (by decide +kernel)
set_option maxRecDepth 20000 in
theorem gX12_chance_X12_next : GoodIn wsX12_chance (wsV RX12 129 RX12 yX12_next wsX12_next) := goodIn_app (goodIn_of _ (by decide +kernel)) ggX12_chance_X12_next
theorem dX12_chance_0 : decode cX12_chance 0 = .ok (.aload_n 0, 1) := by decide +kernel
theorem dX12_chance_1 : decode cX12_chance 1 = .ok (.iload_n 1, 1) := by decide +kernel
theorem dX12_chance_2 : decode cX12_chance 2 = .ok (.iload_n 2, 1) := by decide +kernel
theorem dX12_chance_3 : decode cX12_chance 3 = .ok (.invokevirtual 126, 3) := by decide +kernel
theorem dX12_chance_6 : decode cX12_chance 6 = .ok (.ifCond .eq 10, 3) := by decide +kernel
theorem dX12_chance_9 : decode cX12_chance 9 = .ok (.iload_n 3, 1) := by decide +kernel
theorem dX12_chance_10 : decode cX12_chance 10 = .ok (.invokestatic 186, 3) := by decide +kernel
theorem dX12_chance_13 : decode cX12_chance 13 = .ok (.ifCond .ne 7, 3) := by decide +kernel
theorem dX12_chance_16 : decode cX12_chance 16 = .ok (.ldc2_w 189, 3) := by decide +kernel
theorem dX12_chance_19 : decode cX12_chance 19 = .ok (.lreturn, 1) := by decide +kernel
theorem dX12_chance_20 : decode cX12_chance 20 = .ok (.iconst 1, 1) := by decide +kernel
theorem dX12_chance_21 : decode cX12_chance 21 = .ok (.aload_n 0, 1) := by decide +kernel
theorem dX12_chance_22 : decode cX12_chance 22 = .ok (.getfield 7, 3) := by decide +kernel
theorem dX12_chance_25 : decode cX12_chance 25 = .ok (.iload_n 1, 1) := by decide +kernel
theorem dX12_chance_26 : decode cX12_chance 26 = .ok (.iaload, 1) := by decide +kernel
theorem dX12_chance_27 : decode cX12_chance 27 = .ok (.ishl, 1) := by decide +kernel
theorem dX12_chance_28 : decode cX12_chance 28 = .ok (.istore 4, 2) := by decide +kernel
theorem dX12_chance_30 : decode cX12_chance 30 = .ok (.iconst 0, 1) := by decide +kernel
theorem dX12_chance_31 : decode cX12_chance 31 = .ok (.istore 5, 2) := by decide +kernel
theorem dX12_chance_33 : decode cX12_chance 33 = .ok (.iload 5, 2) := by decide +kernel
theorem dX12_chance_35 : decode cX12_chance 35 = .ok (.iload 4, 2) := by decide +kernel
theorem dX12_chance_37 : decode cX12_chance 37 = .ok (.if_icmp .ge 27, 3) := by decide +kernel
theorem dX12_chance_40 : decode cX12_chance 40 = .ok (.aload_n 0, 1) := by decide +kernel
theorem dX12_chance_41 : decode cX12_chance 41 = .ok (.getfield 68, 3) := by decide +kernel
theorem dX12_chance_44 : decode cX12_chance 44 = .ok (.iload 5, 2) := by decide +kernel
theorem dX12_chance_46 : decode cX12_chance 46 = .ok (.iload 5, 2) := by decide +kernel
theorem dX12_chance_48 : decode cX12_chance 48 = .ok (.iload_n 2, 1) := by decide +kernel
theorem dX12_chance_49 : decode cX12_chance 49 = .ok (.if_icmp .ne 7, 3) := by decide +kernel
theorem dX12_chance_52 : decode cX12_chance 52 = .ok (.lconst 1, 1) := by decide +kernel
theorem dX12_chance_53 : decode cX12_chance 53 = .ok (.goto 4, 3) := by decide +kernel
theorem dX12_chance_56 : decode cX12_chance 56 = .ok (.lconst 0, 1) := by decide +kernel
theorem dX12_chance_57 : decode cX12_chance 57 = .ok (.lastore, 1) := by decide +kernel
theorem dX12_chance_58 : decode cX12_chance 58 = .ok (.iinc 5 1, 3) := by decide +kernel
theorem dX12_chance_61 : decode cX12_chance 61 = .ok (.goto (-28), 3) := by decide +kernel
theorem dX12_chance_64 : decode cX12_chance 64 = .ok (.iconst 0, 1) := by decide +kernel
theorem dX12_chance_65 : decode cX12_chance 65 = .ok (.istore 5, 2) := by decide +kernel
theorem dX12_chance_67 : decode cX12_chance 67 = .ok (.iload 5, 2) := by decide +kernel
theorem dX12_chance_69 : decode cX12_chance 69 = .ok (.iload_n 3, 1) := by decide +kernel
theorem dX12_chance_70 : decode cX12_chance 70 = .ok (.if_icmp .ge 157, 3) := by decide +kernel
theorem dX12_chance_73 : decode cX12_chance 73 = .ok (.iconst 0, 1) := by decide +kernel
theorem dX12_chance_74 : decode cX12_chance 74 = .ok (.istore 6, 2) := by decide +kernel
theorem dX12_chance_76 : decode cX12_chance 76 = .ok (.iload 6, 2) := by decide +kernel
theorem dX12_chance_78 : decode cX12_chance 78 = .ok (.iload 4, 2) := by decide +kernel
theorem dX12_chance_80 : decode cX12_chance 80 = .ok (.if_icmp .ge 17, 3) := by decide +kernel
theorem dX12_chance_83 : decode cX12_chance 83 = .ok (.aload_n 0, 1) := by decide +kernel
theorem dX12_chance_84 : decode cX12_chance 84 = .ok (.getfield 72, 3) := by decide +kernel
theorem dX12_chance_87 : decode cX12_chance 87 = .ok (.iload 6, 2) := by decide +kernel
theorem dX12_chance_89 : decode cX12_chance 89 = .ok (.lconst 0, 1) := by decide +kernel
theorem dX12_chance_90 : decode cX12_chance 90 = .ok (.lastore, 1) := by decide +kernel
theorem dX12_chance_91 : decode cX12_chance 91 = .ok (.iinc 6 1, 3) := by decide +kernel
theorem dX12_chance_94 : decode cX12_chance 94 = .ok (.goto (-18), 3) := by decide +kernel
theorem dX12_chance_97 : decode cX12_chance 97 = .ok (.iconst 1, 1) := by decide +kernel
theorem dX12_chance_98 : decode cX12_chance 98 = .ok (.istore 6, 2) := by decide +kernel
theorem dX12_chance_100 : decode cX12_chance 100 = .ok (.iload 6, 2) := by decide +kernel
theorem dX12_chance_102 : decode cX12_chance 102 = .ok (.iload 4, 2) := by decide +kernel
theorem dX12_chance_104 : decode cX12_chance 104 = .ok (.if_icmp .ge 78, 3) := by decide +kernel
theorem dX12_chance_107 : decode cX12_chance 107 = .ok (.iconst 0, 1) := by decide +kernel
theorem dX12_chance_108 : decode cX12_chance 108 = .ok (.istore 7, 2) := by decide +kernel
theorem dX12_chance_110 : decode cX12_chance 110 = .ok (.iload 7, 2) := by decide +kernel
theorem dX12_chance_112 : decode cX12_chance 112 = .ok (.aload_n 0, 1) := by decide +kernel
theorem dX12_chance_113 : decode cX12_chance 113 = .ok (.getfield 13, 3) := by decide +kernel
theorem dX12_chance_116 : decode cX12_chance 116 = .ok (.iload_n 1, 1) := by decide +kernel
theorem dX12_chance_117 : decode cX12_chance 117 = .ok (.iaload, 1) := by decide +kernel
theorem dX12_chance_118 : decode cX12_chance 118 = .ok (.if_icmp .ge 58, 3) := by decide +kernel
theorem dX12_chance_121 : decode cX12_chance 121 = .ok (.aload_n 0, 1) := by decide +kernel
theorem dX12_chance_122 : decode cX12_chance 122 = .ok (.getfield 68, 3) := by decide +kernel
theorem dX12_chance_125 : decode cX12_chance 125 = .ok (.iload 6, 2) := by decide +kernel
theorem dX12_chance_127 : decode cX12_chance 127 = .ok (.laload, 1) := by decide +kernel
theorem dX12_chance_128 : decode cX12_chance 128 = .ok (.lconst 0, 1) := by decide +kernel
theorem dX12_chance_129 : decode cX12_chance 129 = .ok (.lcmp, 1) := by decide +kernel
theorem dX12_chance_130 : decode cX12_chance 130 = .ok (.ifCond .le 46, 3) := by decide +kernel
theorem dX12_chance_133 : decode cX12_chance 133 = .ok (.aload_n 0, 1) := by decide +kernel
theorem dX12_chance_134 : decode cX12_chance 134 = .ok (.getfield 72, 3) := by decide +kernel
theorem dX12_chance_137 : decode cX12_chance 137 = .ok (.aload_n 0, 1) := by decide +kernel
theorem dX12_chance_138 : decode cX12_chance 138 = .ok (.iload_n 1, 1) := by decide +kernel
theorem dX12_chance_139 : decode cX12_chance 139 = .ok (.iload 6, 2) := by decide +kernel
theorem dX12_chance_141 : decode cX12_chance 141 = .ok (.iload 7, 2) := by decide +kernel
theorem dX12_chance_143 : decode cX12_chance 143 = .ok (.invokevirtual 129, 3) := by decide +kernel
theorem dX12_chance_146 : decode cX12_chance 146 = .ok (.dup2, 1) := by decide +kernel
theorem dX12_chance_147 : decode cX12_chance 147 = .ok (.laload, 1) := by decide +kernel
theorem dX12_chance_148 : decode cX12_chance 148 = .ok (.aload_n 0, 1) := by decide +kernel
theorem dX12_chance_149 : decode cX12_chance 149 = .ok (.getfield 68, 3) := by decide +kernel
theorem dX12_chance_152 : decode cX12_chance 152 = .ok (.iload 6, 2) := by decide +kernel
theorem dX12_chance_154 : decode cX12_chance 154 = .ok (.laload, 1) := by decide +kernel
theorem dX12_chance_155 : decode cX12_chance 155 = .ok (.aload_n 0, 1) := by decide +kernel
theorem dX12_chance_156 : decode cX12_chance 156 = .ok (.getfield 25, 3) := by decide +kernel
theorem dX12_chance_159 : decode cX12_chance 159 = .ok (.iconst 4, 1) := by decide +kernel
theorem dX12_chance_160 : decode cX12_chance 160 = .ok (.iload_n 1, 1) := by decide +kernel
theorem dX12_chance_161 : decode cX12_chance 161 = .ok (.imul, 1) := by decide +kernel
theorem dX12_chance_162 : decode cX12_chance 162 = .ok (.iload 7, 2) := by decide +kernel
theorem dX12_chance_164 : decode cX12_chance 164 = .ok (.iadd, 1) := by decide +kernel
theorem dX12_chance_165 : decode cX12_chance 165 = .ok (.iaload, 1) := by decide +kernel
theorem dX12_chance_166 : decode cX12_chance 166 = .ok (.i2l, 1) := by decide +kernel
theorem dX12_chance_167 : decode cX12_chance 167 = .ok (.lmul, 1) := by decide +kernel
theorem dX12_chance_168 : decode cX12_chance 168 = .ok (.ladd, 1) := by decide +kernel
theorem dX12_chance_169 : decode cX12_chance 169 = .ok (.lastore, 1) := by decide +kernel
theorem dX12_chance_170 : decode cX12_chance 170 = .ok (.iinc 7 1, 3) := by decide +kernel
theorem dX12_chance_173 : decode cX12_chance 173 = .ok (.goto (-63), 3) := by decide +kernel
theorem dX12_chance_176 : decode cX12_chance 176 = .ok (.iinc 6 1, 3) := by decide +kernel
theorem dX12_chance_179 : decode cX12_chance 179 = .ok (.goto (-79), 3) := by decide +kernel
theorem dX12_chance_182 : decode cX12_chance 182 = .ok (.iconst 0, 1) := by decide +kernel
theorem dX12_chance_183 : decode cX12_chance 183 = .ok (.istore 6, 2) := by decide +kernel
theorem dX12_chance_185 : decode cX12_chance 185 = .ok (.iload 6, 2) := by decide +kernel
theorem dX12_chance_187 : decode cX12_chance 187 = .ok (.iload 4, 2) := by decide +kernel
theorem dX12_chance_189 : decode cX12_chance 189 = .ok (.if_icmp .ge 32, 3) := by decide +kernel
theorem dX12_chance_192 : decode cX12_chance 192 = .ok (.aload_n 0, 1) := by decide +kernel
theorem dX12_chance_193 : decode cX12_chance 193 = .ok (.getfield 68, 3) := by decide +kernel
theorem dX12_chance_196 : decode cX12_chance 196 = .ok (.iload 6, 2) := by decide +kernel
theorem dX12_chance_198 : decode cX12_chance 198 = .ok (.iload 6, 2) := by decide +kernel
theorem dX12_chance_200 : decode cX12_chance 200 = .ok (.ifCond .ne 7, 3) := by decide +kernel
theorem dX12_chance_203 : decode cX12_chance 203 = .ok (.lconst 0, 1) := by decide +kernel
theorem dX12_chance_204 : decode cX12_chance 204 = .ok (.goto 10, 3) := by decide +kernel
theorem dX12_chance_207 : decode cX12_chance 207 = .ok (.aload_n 0, 1) := by decide +kernel
theorem dX12_chance_208 : decode cX12_chance 208 = .ok (.getfield 72, 3) := by decide +kernel
theorem dX12_chance_211 : decode cX12_chance 211 = .ok (.iload 6, 2) := by decide +kernel
theorem dX12_chance_213 : decode cX12_chance 213 = .ok (.laload, 1) := by decide +kernel
theorem dX12_chance_214 : decode cX12_chance 214 = .ok (.lastore, 1) := by decide +kernel
theorem dX12_chance_215 : decode cX12_chance 215 = .ok (.iinc 6 1, 3) := by decide +kernel
theorem dX12_chance_218 : decode cX12_chance 218 = .ok (.goto (-33), 3) := by decide +kernel
theorem dX12_chance_221 : decode cX12_chance 221 = .ok (.iinc 5 1, 3) := by decide +kernel
theorem dX12_chance_224 : decode cX12_chance 224 = .ok (.goto (-157), 3) := by decide +kernel
theorem dX12_chance_227 : decode cX12_chance 227 = .ok (.lconst 0, 1) := by decide +kernel
theorem dX12_chance_228 : decode cX12_chance 228 = .ok (.lstore 5, 2) := by decide +kernel
theorem dX12_chance_230 : decode cX12_chance 230 = .ok (.iconst 0, 1) := by decide +kernel
theorem dX12_chance_231 : decode cX12_chance 231 = .ok (.istore 7, 2) := by decide +kernel
theorem dX12_chance_233 : decode cX12_chance 233 = .ok (.iload 7, 2) := by decide +kernel
theorem dX12_chance_235 : decode cX12_chance 235 = .ok (.aload_n 0, 1) := by decide +kernel
theorem dX12_chance_236 : decode cX12_chance 236 = .ok (.getfield 7, 3) := by decide +kernel
theorem dX12_chance_239 : decode cX12_chance 239 = .ok (.iload_n 1, 1) := by decide +kernel
theorem dX12_chance_240 : decode cX12_chance 240 = .ok (.iaload, 1) := by decide +kernel
theorem dX12_chance_241 : decode cX12_chance 241 = .ok (.if_icmp .ge 23, 3) := by decide +kernel
theorem dX12_chance_244 : decode cX12_chance 244 = .ok (.lload 5, 2) := by decide +kernel
theorem dX12_chance_246 : decode cX12_chance 246 = .ok (.aload_n 0, 1) := by decide +kernel
theorem dX12_chance_247 : decode cX12_chance 247 = .ok (.getfield 68, 3) := by decide +kernel
theorem dX12_chance_250 : decode cX12_chance 250 = .ok (.iconst 1, 1) := by decide +kernel
theorem dX12_chance_251 : decode cX12_chance 251 = .ok (.iload 7, 2) := by decide +kernel
theorem dX12_chance_253 : decode cX12_chance 253 = .ok (.ishl, 1) := by decide +kernel
theorem dX12_chance_254 : decode cX12_chance 254 = .ok (.laload, 1) := by decide +kernel
theorem dX12_chance_255 : decode cX12_chance 255 = .ok (.ladd, 1) := by decide +kernel
theorem dX12_chance_256 : decode cX12_chance 256 = .ok (.lstore 5, 2) := by decide +kernel
theorem dX12_chance_258 : decode cX12_chance 258 = .ok (.iinc 7 1, 3) := by decide +kernel
theorem dX12_chance_261 : decode cX12_chance 261 = .ok (.goto (-28), 3) := by decide +kernel
theorem dX12_chance_264 : decode cX12_chance 264 = .ok (.lload 5, 2) := by decide +kernel
theorem dX12_chance_266 : decode cX12_chance 266 = .ok (.lreturn, 1) := by decide +kernel
set_option maxRecDepth 20000 in
theorem ggX12_chances_X12_isMachine : GoodIn wsX12_chances wsX12_isMachine := goodIn_r _ [8, 9, 10, 11, 7, 12, 16, 17, 18, 19, 20, 21, 22, 23, 24, 25, 26, 27, 28, 29, 30, 31, 32, 33, 34, 35, 36, 37, 38, 39, 40, 41, 42, 43, 44, 45] (by decide +kernel) (by decide +kernel)
set_option maxRecDepth 20000 in
theorem gX12_chances_X12_isMachine : GoodIn wsX12_chances (wsV RX12 106 RX12 yX12_isMachine wsX12_isMachine) := goodIn_app (goodIn_of _ (by decide +kernel)) ggX12_chances_X12_isMachine
set_option maxRecDepth 20000 in
theorem ggX12_chances_X12_isTime : GoodIn wsX12_chances wsX12_isTime := goodIn_r _ [15, 10, 11, 7, 12] (by decide +kernel) (by decide +kernel)
set_option maxRecDepth 20000 in
theorem gX12_chances_X12_isTime : GoodIn wsX12_chances (va_wsS RX12 186 yX12_isTime wsX12_isTime) := goodIn_app (goodIn_of _ (by decide +kernel)) ggX12_chances_X12_isTime
theorem dX12_chances_0 : decode cX12_chances 0 = .ok (.aload_n 0, 1) := by decide +kernel
theorem dX12_chances_1 : decode cX12_chances 1 = .ok (.iload_n 1, 1) := by decide +kernel
theorem dX12_chances_2 : decode cX12_chances 2 = .ok (.invokevirtual 106, 3) := by decide +kernel
theorem dX12_chances_5 : decode cX12_chances 5 = .ok (.ifCond .eq 10, 3) := by decide +kernel
theorem dX12_chances_8 : decode cX12_chances 8 = .ok (.iload_n 2, 1) := by decide +kernel
theorem dX12_chances_9 : decode cX12_chances 9 = .ok (.invokestatic 186, 3) := by decide +kernel
theorem dX12_chances_12 : decode cX12_chances 12 = .ok (.ifCond .ne 7, 3) := by decide +kernel
theorem dX12_chances_15 : decode cX12_chances 15 = .ok (.ldc2_w 189, 3) := by decide +kernel
theorem dX12_chances_18 : decode cX12_chances 18 = .ok (.lreturn, 1) := by decide +kernel
theorem dX12_chances_19 : decode cX12_chances 19 = .ok (.lconst 0, 1) := by decide +kernel
theorem dX12_chances_20 : decode cX12_chances 20 = .ok (.lstore_n 3, 1) := by decide +kernel
theorem dX12_chances_21 : decode cX12_chances 21 = .ok (.iconst 0, 1) := by decide +kernel
theorem dX12_chances_22 : decode cX12_chances 22 = .ok (.istore 5, 2) := by decide +kernel
theorem dX12_chances_24 : decode cX12_chances 24 = .ok (.iload 5, 2) := by decide +kernel
theorem dX12_chances_26 : decode cX12_chances 26 = .ok (.aload_n 0, 1) := by decide +kernel
theorem dX12_chances_27 : decode cX12_chances 27 = .ok (.getfield 13, 3) := by decide +kernel
theorem dX12_chances_30 : decode cX12_chances 30 = .ok (.iload_n 1, 1) := by decide +kernel
theorem dX12_chances_31 : decode cX12_chances 31 = .ok (.iaload, 1) := by decide +kernel
theorem dX12_chances_32 : decode cX12_chances 32 = .ok (.if_icmp .ge 24, 3) := by decide +kernel
theorem dX12_chances_35 : decode cX12_chances 35 = .ok (.lload_n 3, 1) := by decide +kernel
theorem dX12_chances_36 : decode cX12_chances 36 = .ok (.aload_n 0, 1) := by decide +kernel
theorem dX12_chances_37 : decode cX12_chances 37 = .ok (.getfield 25, 3) := by decide +kernel
theorem dX12_chances_40 : decode cX12_chances 40 = .ok (.iconst 4, 1) := by decide +kernel
theorem dX12_chances_41 : decode cX12_chances 41 = .ok (.iload_n 1, 1) := by decide +kernel
theorem dX12_chances_42 : decode cX12_chances 42 = .ok (.imul, 1) := by decide +kernel
theorem dX12_chances_43 : decode cX12_chances 43 = .ok (.iload 5, 2) := by decide +kernel
theorem dX12_chances_45 : decode cX12_chances 45 = .ok (.iadd, 1) := by decide +kernel
theorem dX12_chances_46 : decode cX12_chances 46 = .ok (.iaload, 1) := by decide +kernel
theorem dX12_chances_47 : decode cX12_chances 47 = .ok (.i2l, 1) := by decide +kernel
theorem dX12_chances_48 : decode cX12_chances 48 = .ok (.ladd, 1) := by decide +kernel
theorem dX12_chances_49 : decode cX12_chances 49 = .ok (.lstore_n 3, 1) := by decide +kernel
theorem dX12_chances_50 : decode cX12_chances 50 = .ok (.iinc 5 1, 3) := by decide +kernel
theorem dX12_chances_53 : decode cX12_chances 53 = .ok (.goto (-29), 3) := by decide +kernel
theorem dX12_chances_56 : decode cX12_chances 56 = .ok (.lconst 1, 1) := by decide +kernel
theorem dX12_chances_57 : decode cX12_chances 57 = .ok (.lstore 5, 2) := by decide +kernel
theorem dX12_chances_59 : decode cX12_chances 59 = .ok (.iconst 0, 1) := by decide +kernel
theorem dX12_chances_60 : decode cX12_chances 60 = .ok (.istore 7, 2) := by decide +kernel
theorem dX12_chances_62 : decode cX12_chances 62 = .ok (.iload 7, 2) := by decide +kernel
theorem dX12_chances_64 : decode cX12_chances 64 = .ok (.iload_n 2, 1) := by decide +kernel
theorem dX12_chances_65 : decode cX12_chances 65 = .ok (.if_icmp .ge 15, 3) := by decide +kernel
theorem dX12_chances_68 : decode cX12_chances 68 = .ok (.lload 5, 2) := by decide +kernel
theorem dX12_chances_70 : decode cX12_chances 70 = .ok (.lload_n 3, 1) := by decide +kernel
theorem dX12_chances_71 : decode cX12_chances 71 = .ok (.lmul, 1) := by decide +kernel
theorem dX12_chances_72 : decode cX12_chances 72 = .ok (.lstore 5, 2) := by decide +kernel
theorem dX12_chances_74 : decode cX12_chances 74 = .ok (.iinc 7 1, 3) := by decide +kernel
theorem dX12_chances_77 : decode cX12_chances 77 = .ok (.goto (-15), 3) := by decide +kernel
theorem dX12_chances_80 : decode cX12_chances 80 = .ok (.lload 5, 2) := by decide +kernel
theorem dX12_chances_82 : decode cX12_chances 82 = .ok (.lreturn, 1) := by decide +kernel
set_option maxRecDepth 20000 in
theorem ggX12_isRing_X12_at : GoodIn wsX12_isRing wsX12_at := goodIn_r _ [6] (by decide +kernel) (by decide +kernel)
set_option maxRecDepth 20000 in
theorem gX12_isRing_X12_at : GoodIn wsX12_isRing (va_wsS RX12 102 yX12_at wsX12_at) := goodIn_app (goodIn_of _ (by decide +kernel)) ggX12_isRing_X12_at
theorem dX12_isRing_0 : decode cX12_isRing 0 = .ok (.iconst 0, 1) := by decide +kernel
theorem dX12_isRing_1 : decode cX12_isRing 1 = .ok (.istore_n 3, 1) := by decide +kernel
theorem dX12_isRing_2 : decode cX12_isRing 2 = .ok (.iconst 0, 1) := by decide +kernel
theorem dX12_isRing_3 : decode cX12_isRing 3 = .ok (.istore 4, 2) := by decide +kernel
theorem dX12_isRing_5 : decode cX12_isRing 5 = .ok (.iconst 0, 1) := by decide +kernel
theorem dX12_isRing_6 : decode cX12_isRing 6 = .ok (.istore 5, 2) := by decide +kernel
theorem dX12_isRing_8 : decode cX12_isRing 8 = .ok (.iload 5, 2) := by decide +kernel
theorem dX12_isRing_10 : decode cX12_isRing 10 = .ok (.aload_n 0, 1) := by decide +kernel
theorem dX12_isRing_11 : decode cX12_isRing 11 = .ok (.getfield 7, 3) := by decide +kernel
theorem dX12_isRing_14 : decode cX12_isRing 14 = .ok (.iload_n 1, 1) := by decide +kernel
theorem dX12_isRing_15 : decode cX12_isRing 15 = .ok (.iaload, 1) := by decide +kernel
theorem dX12_isRing_16 : decode cX12_isRing 16 = .ok (.if_icmp .ge 29, 3) := by decide +kernel
theorem dX12_isRing_19 : decode cX12_isRing 19 = .ok (.aload_n 0, 1) := by decide +kernel
theorem dX12_isRing_20 : decode cX12_isRing 20 = .ok (.getfield 16, 3) := by decide +kernel
theorem dX12_isRing_23 : decode cX12_isRing 23 = .ok (.iload_n 1, 1) := by decide +kernel
theorem dX12_isRing_24 : decode cX12_isRing 24 = .ok (.iload_n 3, 1) := by decide +kernel
theorem dX12_isRing_25 : decode cX12_isRing 25 = .ok (.iload_n 2, 1) := by decide +kernel
theorem dX12_isRing_26 : decode cX12_isRing 26 = .ok (.invokestatic 102, 3) := by decide +kernel
theorem dX12_isRing_29 : decode cX12_isRing 29 = .ok (.iaload, 1) := by decide +kernel
theorem dX12_isRing_30 : decode cX12_isRing 30 = .ok (.istore_n 3, 1) := by decide +kernel
theorem dX12_isRing_31 : decode cX12_isRing 31 = .ok (.iload 4, 2) := by decide +kernel
theorem dX12_isRing_33 : decode cX12_isRing 33 = .ok (.iconst 1, 1) := by decide +kernel
theorem dX12_isRing_34 : decode cX12_isRing 34 = .ok (.iload_n 3, 1) := by decide +kernel
theorem dX12_isRing_35 : decode cX12_isRing 35 = .ok (.ishl, 1) := by decide +kernel
theorem dX12_isRing_36 : decode cX12_isRing 36 = .ok (.ior, 1) := by decide +kernel
theorem dX12_isRing_37 : decode cX12_isRing 37 = .ok (.istore 4, 2) := by decide +kernel
theorem dX12_isRing_39 : decode cX12_isRing 39 = .ok (.iinc 5 1, 3) := by decide +kernel
theorem dX12_isRing_42 : decode cX12_isRing 42 = .ok (.goto (-34), 3) := by decide +kernel
theorem dX12_isRing_45 : decode cX12_isRing 45 = .ok (.iload 4, 2) := by decide +kernel
theorem dX12_isRing_47 : decode cX12_isRing 47 = .ok (.iconst 1, 1) := by decide +kernel
theorem dX12_isRing_48 : decode cX12_isRing 48 = .ok (.aload_n 0, 1) := by decide +kernel
theorem dX12_isRing_49 : decode cX12_isRing 49 = .ok (.getfield 7, 3) := by decide +kernel
theorem dX12_isRing_52 : decode cX12_isRing 52 = .ok (.iload_n 1, 1) := by decide +kernel
theorem dX12_isRing_53 : decode cX12_isRing 53 = .ok (.iaload, 1) := by decide +kernel
theorem dX12_isRing_54 : decode cX12_isRing 54 = .ok (.ishl, 1) := by decide +kernel
theorem dX12_isRing_55 : decode cX12_isRing 55 = .ok (.iconst 1, 1) := by decide +kernel
theorem dX12_isRing_56 : decode cX12_isRing 56 = .ok (.isub, 1) := by decide +kernel
theorem dX12_isRing_57 : decode cX12_isRing 57 = .ok (.if_icmp .ne 7, 3) := by decide +kernel
theorem dX12_isRing_60 : decode cX12_isRing 60 = .ok (.iconst 1, 1) := by decide +kernel
theorem dX12_isRing_61 : decode cX12_isRing 61 = .ok (.goto 4, 3) := by decide +kernel
theorem dX12_isRing_64 : decode cX12_isRing 64 = .ok (.iconst 0, 1) := by decide +kernel
theorem dX12_isRing_65 : decode cX12_isRing 65 = .ok (.ireturn, 1) := by decide +kernel
set_option maxRecDepth 20000 in
theorem ggX12_isSink_X12_at : GoodIn wsX12_isSink wsX12_at := goodIn_r _ [7] (by decide +kernel) (by decide +kernel)
set_option maxRecDepth 20000 in
theorem gX12_isSink_X12_at : GoodIn wsX12_isSink (va_wsS RX12 102 yX12_at wsX12_at) := goodIn_app (goodIn_of _ (by decide +kernel)) ggX12_isSink_X12_at
theorem dX12_isSink_0 : decode cX12_isSink 0 = .ok (.iconst 0, 1) := by decide +kernel
theorem dX12_isSink_1 : decode cX12_isSink 1 = .ok (.istore_n 3, 1) := by decide +kernel
theorem dX12_isSink_2 : decode cX12_isSink 2 = .ok (.iload_n 3, 1) := by decide +kernel
theorem dX12_isSink_3 : decode cX12_isSink 3 = .ok (.aload_n 0, 1) := by decide +kernel
theorem dX12_isSink_4 : decode cX12_isSink 4 = .ok (.getfield 13, 3) := by decide +kernel
theorem dX12_isSink_7 : decode cX12_isSink 7 = .ok (.iload_n 1, 1) := by decide +kernel
theorem dX12_isSink_8 : decode cX12_isSink 8 = .ok (.iaload, 1) := by decide +kernel
theorem dX12_isSink_9 : decode cX12_isSink 9 = .ok (.if_icmp .ge 26, 3) := by decide +kernel
theorem dX12_isSink_12 : decode cX12_isSink 12 = .ok (.aload_n 0, 1) := by decide +kernel
theorem dX12_isSink_13 : decode cX12_isSink 13 = .ok (.getfield 16, 3) := by decide +kernel
theorem dX12_isSink_16 : decode cX12_isSink 16 = .ok (.iload_n 1, 1) := by decide +kernel
theorem dX12_isSink_17 : decode cX12_isSink 17 = .ok (.iload_n 2, 1) := by decide +kernel
theorem dX12_isSink_18 : decode cX12_isSink 18 = .ok (.iload_n 3, 1) := by decide +kernel
theorem dX12_isSink_19 : decode cX12_isSink 19 = .ok (.invokestatic 102, 3) := by decide +kernel
theorem dX12_isSink_22 : decode cX12_isSink 22 = .ok (.iaload, 1) := by decide +kernel
theorem dX12_isSink_23 : decode cX12_isSink 23 = .ok (.iload_n 2, 1) := by decide +kernel
theorem dX12_isSink_24 : decode cX12_isSink 24 = .ok (.if_icmp .eq 5, 3) := by decide +kernel
theorem dX12_isSink_27 : decode cX12_isSink 27 = .ok (.iconst 0, 1) := by decide +kernel
theorem dX12_isSink_28 : decode cX12_isSink 28 = .ok (.ireturn, 1) := by decide +kernel
theorem dX12_isSink_29 : decode cX12_isSink 29 = .ok (.iinc 3 1, 3) := by decide +kernel
theorem dX12_isSink_32 : decode cX12_isSink 32 = .ok (.goto (-30), 3) := by decide +kernel
theorem dX12_isSink_35 : decode cX12_isSink 35 = .ok (.iconst 1, 1) := by decide +kernel
theorem dX12_isSink_36 : decode cX12_isSink 36 = .ok (.iload_n 2, 1) := by decide +kernel
theorem dX12_isSink_37 : decode cX12_isSink 37 = .ok (.ishl, 1) := by decide +kernel
theorem dX12_isSink_38 : decode cX12_isSink 38 = .ok (.istore_n 3, 1) := by decide +kernel
theorem dX12_isSink_39 : decode cX12_isSink 39 = .ok (.iconst 1, 1) := by decide +kernel
theorem dX12_isSink_40 : decode cX12_isSink 40 = .ok (.istore 4, 2) := by decide +kernel
theorem dX12_isSink_42 : decode cX12_isSink 42 = .ok (.iload 4, 2) := by decide +kernel
theorem dX12_isSink_44 : decode cX12_isSink 44 = .ok (.ifCond .eq 85, 3) := by decide +kernel
theorem dX12_isSink_47 : decode cX12_isSink 47 = .ok (.iload_n 3, 1) := by decide +kernel
theorem dX12_isSink_48 : decode cX12_isSink 48 = .ok (.istore 5, 2) := by decide +kernel
theorem dX12_isSink_50 : decode cX12_isSink 50 = .ok (.iconst 0, 1) := by decide +kernel
theorem dX12_isSink_51 : decode cX12_isSink 51 = .ok (.istore 6, 2) := by decide +kernel
theorem dX12_isSink_53 : decode cX12_isSink 53 = .ok (.iload 6, 2) := by decide +kernel
theorem dX12_isSink_55 : decode cX12_isSink 55 = .ok (.aload_n 0, 1) := by decide +kernel
theorem dX12_isSink_56 : decode cX12_isSink 56 = .ok (.getfield 7, 3) := by decide +kernel
theorem dX12_isSink_59 : decode cX12_isSink 59 = .ok (.iload_n 1, 1) := by decide +kernel
theorem dX12_isSink_60 : decode cX12_isSink 60 = .ok (.iaload, 1) := by decide +kernel
theorem dX12_isSink_61 : decode cX12_isSink 61 = .ok (.if_icmp .ge 52, 3) := by decide +kernel
theorem dX12_isSink_64 : decode cX12_isSink 64 = .ok (.iconst 0, 1) := by decide +kernel
theorem dX12_isSink_65 : decode cX12_isSink 65 = .ok (.istore 7, 2) := by decide +kernel
theorem dX12_isSink_67 : decode cX12_isSink 67 = .ok (.iload 7, 2) := by decide +kernel
theorem dX12_isSink_69 : decode cX12_isSink 69 = .ok (.aload_n 0, 1) := by decide +kernel
theorem dX12_isSink_70 : decode cX12_isSink 70 = .ok (.getfield 13, 3) := by decide +kernel
theorem dX12_isSink_73 : decode cX12_isSink 73 = .ok (.iload_n 1, 1) := by decide +kernel
theorem dX12_isSink_74 : decode cX12_isSink 74 = .ok (.iaload, 1) := by decide +kernel
theorem dX12_isSink_75 : decode cX12_isSink 75 = .ok (.if_icmp .ge 32, 3) := by decide +kernel
theorem dX12_isSink_78 : decode cX12_isSink 78 = .ok (.iload_n 3, 1) := by decide +kernel
theorem dX12_isSink_79 : decode cX12_isSink 79 = .ok (.iload_n 3, 1) := by decide +kernel
theorem dX12_isSink_80 : decode cX12_isSink 80 = .ok (.aload_n 0, 1) := by decide +kernel
theorem dX12_isSink_81 : decode cX12_isSink 81 = .ok (.getfield 16, 3) := by decide +kernel
theorem dX12_isSink_84 : decode cX12_isSink 84 = .ok (.iload_n 1, 1) := by decide +kernel
theorem dX12_isSink_85 : decode cX12_isSink 85 = .ok (.iload 6, 2) := by decide +kernel
theorem dX12_isSink_87 : decode cX12_isSink 87 = .ok (.iload 7, 2) := by decide +kernel
theorem dX12_isSink_89 : decode cX12_isSink 89 = .ok (.invokestatic 102, 3) := by decide +kernel
theorem dX12_isSink_92 : decode cX12_isSink 92 = .ok (.iaload, 1) := by decide +kernel
theorem dX12_isSink_93 : decode cX12_isSink 93 = .ok (.ishr, 1) := by decide +kernel
theorem dX12_isSink_94 : decode cX12_isSink 94 = .ok (.iconst 1, 1) := by decide +kernel
theorem dX12_isSink_95 : decode cX12_isSink 95 = .ok (.iand, 1) := by decide +kernel
theorem dX12_isSink_96 : decode cX12_isSink 96 = .ok (.iload 6, 2) := by decide +kernel
theorem dX12_isSink_98 : decode cX12_isSink 98 = .ok (.ishl, 1) := by decide +kernel
theorem dX12_isSink_99 : decode cX12_isSink 99 = .ok (.ior, 1) := by decide +kernel
theorem dX12_isSink_100 : decode cX12_isSink 100 = .ok (.istore_n 3, 1) := by decide +kernel
theorem dX12_isSink_101 : decode cX12_isSink 101 = .ok (.iinc 7 1, 3) := by decide +kernel
theorem dX12_isSink_104 : decode cX12_isSink 104 = .ok (.goto (-37), 3) := by decide +kernel
theorem dX12_isSink_107 : decode cX12_isSink 107 = .ok (.iinc 6 1, 3) := by decide +kernel
theorem dX12_isSink_110 : decode cX12_isSink 110 = .ok (.goto (-57), 3) := by decide +kernel
theorem dX12_isSink_113 : decode cX12_isSink 113 = .ok (.iload_n 3, 1) := by decide +kernel
theorem dX12_isSink_114 : decode cX12_isSink 114 = .ok (.iload 5, 2) := by decide +kernel
theorem dX12_isSink_116 : decode cX12_isSink 116 = .ok (.if_icmp .eq 7, 3) := by decide +kernel
theorem dX12_isSink_119 : decode cX12_isSink 119 = .ok (.iconst 1, 1) := by decide +kernel
theorem dX12_isSink_120 : decode cX12_isSink 120 = .ok (.goto 4, 3) := by decide +kernel
theorem dX12_isSink_123 : decode cX12_isSink 123 = .ok (.iconst 0, 1) := by decide +kernel
theorem dX12_isSink_124 : decode cX12_isSink 124 = .ok (.istore 4, 2) := by decide +kernel
theorem dX12_isSink_126 : decode cX12_isSink 126 = .ok (.goto (-84), 3) := by decide +kernel
theorem dX12_isSink_129 : decode cX12_isSink 129 = .ok (.iload_n 3, 1) := by decide +kernel
theorem dX12_isSink_130 : decode cX12_isSink 130 = .ok (.iconst 1, 1) := by decide +kernel
theorem dX12_isSink_131 : decode cX12_isSink 131 = .ok (.aload_n 0, 1) := by decide +kernel
theorem dX12_isSink_132 : decode cX12_isSink 132 = .ok (.getfield 7, 3) := by decide +kernel
theorem dX12_isSink_135 : decode cX12_isSink 135 = .ok (.iload_n 1, 1) := by decide +kernel
theorem dX12_isSink_136 : decode cX12_isSink 136 = .ok (.iaload, 1) := by decide +kernel
theorem dX12_isSink_137 : decode cX12_isSink 137 = .ok (.ishl, 1) := by decide +kernel
theorem dX12_isSink_138 : decode cX12_isSink 138 = .ok (.iconst 1, 1) := by decide +kernel
theorem dX12_isSink_139 : decode cX12_isSink 139 = .ok (.isub, 1) := by decide +kernel
theorem dX12_isSink_140 : decode cX12_isSink 140 = .ok (.if_icmp .ne 7, 3) := by decide +kernel
theorem dX12_isSink_143 : decode cX12_isSink 143 = .ok (.iconst 1, 1) := by decide +kernel
theorem dX12_isSink_144 : decode cX12_isSink 144 = .ok (.goto 4, 3) := by decide +kernel
theorem dX12_isSink_147 : decode cX12_isSink 147 = .ok (.iconst 0, 1) := by decide +kernel
theorem dX12_isSink_148 : decode cX12_isSink 148 = .ok (.ireturn, 1) := by decide +kernel
set_option maxRecDepth 20000 in
theorem ggX12_kinds_X12_isMachine : GoodIn wsX12_kinds wsX12_isMachine := goodIn_r _ [8, 9, 10, 11, 7, 12, 32, 33, 34, 35, 36, 37, 38, 39, 40, 41, 42, 43, 44, 45, 46, 47, 48, 49, 50, 51, 52, 53, 54, 55, 56, 57, 58, 59, 60, 61] (by decide +kernel) (by decide +kernel)
set_option maxRecDepth 20000 in
theorem gX12_kinds_X12_isMachine : GoodIn wsX12_kinds (wsV RX12 106 RX12 yX12_isMachine wsX12_isMachine) := goodIn_app (goodIn_of _ (by decide +kernel)) ggX12_kinds_X12_isMachine
set_option maxRecDepth 20000 in
theorem ggX12_kinds_X12_isWhole : GoodIn wsX12_kinds wsX12_isWhole := goodIn_r _ [16, 1, 2, 3, 17, 18, 7, 19, 32, 33, 34, 35, 36, 37, 38, 39, 40, 41, 42, 43, 44, 45, 46, 47, 48, 49, 50, 51, 52, 53, 54, 55, 56, 57, 58, 59, 60, 61] (by decide +kernel) (by decide +kernel)
set_option maxRecDepth 20000 in
theorem gX12_kinds_X12_isWhole : GoodIn wsX12_kinds (wsV RX12 117 RX12 yX12_isWhole wsX12_isWhole) := goodIn_app (goodIn_of _ (by decide +kernel)) ggX12_kinds_X12_isWhole
set_option maxRecDepth 20000 in
theorem ggX12_kinds_X12_isRing : GoodIn wsX12_kinds wsX12_isRing := goodIn_r _ [23, 1, 3, 17, 18, 7, 19, 32, 33, 34, 35, 36, 37, 38, 39, 40, 41, 42, 43, 44, 45, 46, 47, 48, 49, 50, 51, 52, 53, 54, 55, 56, 57, 58, 59, 60, 61] (by decide +kernel) (by decide +kernel)
set_option maxRecDepth 20000 in
theorem gX12_kinds_X12_isRing : GoodIn wsX12_kinds (wsV RX12 191 RX12 yX12_isRing wsX12_isRing) := goodIn_app (goodIn_of _ (by decide +kernel)) ggX12_kinds_X12_isRing
set_option maxRecDepth 20000 in
theorem ggX12_kinds_X12_next : GoodIn wsX12_kinds wsX12_next := goodIn_r _ [27, 1, 3, 17, 18, 7, 19, 32, 33, 34, 35, 36, 37, 38, 39, 40, 41, 42, 43, 44, 45, 46, 47, 48, 49, 50, 51, 52, 53, 54, 55, 56, 57, 58, 59, 60, 61] (by decide +kernel) (by decide +kernel)
set_option maxRecDepth 20000 in
theorem gX12_kinds_X12_next : GoodIn wsX12_kinds (wsV RX12 129 RX12 yX12_next wsX12_next) := goodIn_app (goodIn_of _ (by decide +kernel)) ggX12_kinds_X12_next
set_option maxRecDepth 20000 in
theorem ggX12_kinds_X12_at : GoodIn wsX12_kinds wsX12_at := goodIn_r _ [19] (by decide +kernel) (by decide +kernel)
set_option maxRecDepth 20000 in
theorem gX12_kinds_X12_at : GoodIn wsX12_kinds (va_wsS RX12 102 yX12_at wsX12_at) := goodIn_app (goodIn_of _ (by decide +kernel)) ggX12_kinds_X12_at
set_option maxRecDepth 20000 in
theorem ggX12_kinds_X12_isSink : GoodIn wsX12_kinds wsX12_isSink := goodIn_r _ [31, 2, 3, 1, 17, 18, 7, 19, 32, 33, 34, 35, 36, 37, 38, 39, 40, 41, 42, 43, 44, 45, 46, 47, 48, 49, 50, 51, 52, 53, 54, 55, 56, 57, 58, 59, 60, 61] (by decide +kernel) (by decide +kernel)
set_option maxRecDepth 20000 in
theorem gX12_kinds_X12_isSink : GoodIn wsX12_kinds (wsV RX12 194 RX12 yX12_isSink wsX12_isSink) := goodIn_app (goodIn_of _ (by decide +kernel)) ggX12_kinds_X12_isSink
theorem dX12_kinds_0 : decode cX12_kinds 0 = .ok (.aload_n 0, 1) := by decide +kernel
theorem dX12_kinds_1 : decode cX12_kinds 1 = .ok (.iload_n 1, 1) := by decide +kernel
theorem dX12_kinds_2 : decode cX12_kinds 2 = .ok (.invokevirtual 106, 3) := by decide +kernel
theorem dX12_kinds_5 : decode cX12_kinds 5 = .ok (.ifCond .ne 6, 3) := by decide +kernel
theorem dX12_kinds_8 : decode cX12_kinds 8 = .ok (.bipush (-2), 2) := by decide +kernel
theorem dX12_kinds_10 : decode cX12_kinds 10 = .ok (.ireturn, 1) := by decide +kernel
theorem dX12_kinds_11 : decode cX12_kinds 11 = .ok (.aload_n 0, 1) := by decide +kernel
theorem dX12_kinds_12 : decode cX12_kinds 12 = .ok (.iload_n 1, 1) := by decide +kernel
theorem dX12_kinds_13 : decode cX12_kinds 13 = .ok (.invokevirtual 117, 3) := by decide +kernel
theorem dX12_kinds_16 : decode cX12_kinds 16 = .ok (.ifCond .ne 6, 3) := by decide +kernel
theorem dX12_kinds_19 : decode cX12_kinds 19 = .ok (.bipush (-3), 2) := by decide +kernel
theorem dX12_kinds_21 : decode cX12_kinds 21 = .ok (.ireturn, 1) := by decide +kernel
theorem dX12_kinds_22 : decode cX12_kinds 22 = .ok (.aload_n 0, 1) := by decide +kernel
theorem dX12_kinds_23 : decode cX12_kinds 23 = .ok (.getfield 7, 3) := by decide +kernel
theorem dX12_kinds_26 : decode cX12_kinds 26 = .ok (.iload_n 1, 1) := by decide +kernel
theorem dX12_kinds_27 : decode cX12_kinds 27 = .ok (.iaload, 1) := by decide +kernel
theorem dX12_kinds_28 : decode cX12_kinds 28 = .ok (.istore_n 2, 1) := by decide +kernel
theorem dX12_kinds_29 : decode cX12_kinds 29 = .ok (.iconst 1, 1) := by decide +kernel
theorem dX12_kinds_30 : decode cX12_kinds 30 = .ok (.iload_n 2, 1) := by decide +kernel
theorem dX12_kinds_31 : decode cX12_kinds 31 = .ok (.ishl, 1) := by decide +kernel
theorem dX12_kinds_32 : decode cX12_kinds 32 = .ok (.iconst 1, 1) := by decide +kernel
theorem dX12_kinds_33 : decode cX12_kinds 33 = .ok (.isub, 1) := by decide +kernel
theorem dX12_kinds_34 : decode cX12_kinds 34 = .ok (.istore_n 3, 1) := by decide +kernel
theorem dX12_kinds_35 : decode cX12_kinds 35 = .ok (.iconst 0, 1) := by decide +kernel
theorem dX12_kinds_36 : decode cX12_kinds 36 = .ok (.istore 4, 2) := by decide +kernel
theorem dX12_kinds_38 : decode cX12_kinds 38 = .ok (.iconst 0, 1) := by decide +kernel
theorem dX12_kinds_39 : decode cX12_kinds 39 = .ok (.istore 5, 2) := by decide +kernel
theorem dX12_kinds_41 : decode cX12_kinds 41 = .ok (.iconst 1, 1) := by decide +kernel
theorem dX12_kinds_42 : decode cX12_kinds 42 = .ok (.istore 6, 2) := by decide +kernel
theorem dX12_kinds_44 : decode cX12_kinds 44 = .ok (.iconst 1, 1) := by decide +kernel
theorem dX12_kinds_45 : decode cX12_kinds 45 = .ok (.istore 7, 2) := by decide +kernel
theorem dX12_kinds_47 : decode cX12_kinds 47 = .ok (.iconst 0, 1) := by decide +kernel
theorem dX12_kinds_48 : decode cX12_kinds 48 = .ok (.istore 8, 2) := by decide +kernel
theorem dX12_kinds_50 : decode cX12_kinds 50 = .ok (.iconst 0, 1) := by decide +kernel
theorem dX12_kinds_51 : decode cX12_kinds 51 = .ok (.istore 9, 2) := by decide +kernel
theorem dX12_kinds_53 : decode cX12_kinds 53 = .ok (.iload 9, 2) := by decide +kernel
theorem dX12_kinds_55 : decode cX12_kinds 55 = .ok (.aload_n 0, 1) := by decide +kernel
theorem dX12_kinds_56 : decode cX12_kinds 56 = .ok (.getfield 13, 3) := by decide +kernel
theorem dX12_kinds_59 : decode cX12_kinds 59 = .ok (.iload_n 1, 1) := by decide +kernel
theorem dX12_kinds_60 : decode cX12_kinds 60 = .ok (.iaload, 1) := by decide +kernel
theorem dX12_kinds_61 : decode cX12_kinds 61 = .ok (.if_icmp .ge 148, 3) := by decide +kernel
theorem dX12_kinds_64 : decode cX12_kinds 64 = .ok (.iload 4, 2) := by decide +kernel
theorem dX12_kinds_66 : decode cX12_kinds 66 = .ok (.ifCond .ne 13, 3) := by decide +kernel
theorem dX12_kinds_69 : decode cX12_kinds 69 = .ok (.aload_n 0, 1) := by decide +kernel
theorem dX12_kinds_70 : decode cX12_kinds 70 = .ok (.iload_n 1, 1) := by decide +kernel
theorem dX12_kinds_71 : decode cX12_kinds 71 = .ok (.iload 9, 2) := by decide +kernel
theorem dX12_kinds_73 : decode cX12_kinds 73 = .ok (.invokevirtual 191, 3) := by decide +kernel
theorem dX12_kinds_76 : decode cX12_kinds 76 = .ok (.ifCond .eq 7, 3) := by decide +kernel
theorem dX12_kinds_79 : decode cX12_kinds 79 = .ok (.iconst 1, 1) := by decide +kernel
theorem dX12_kinds_80 : decode cX12_kinds 80 = .ok (.goto 4, 3) := by decide +kernel
theorem dX12_kinds_83 : decode cX12_kinds 83 = .ok (.iconst 0, 1) := by decide +kernel
theorem dX12_kinds_84 : decode cX12_kinds 84 = .ok (.istore 4, 2) := by decide +kernel
theorem dX12_kinds_86 : decode cX12_kinds 86 = .ok (.iload 7, 2) := by decide +kernel
theorem dX12_kinds_88 : decode cX12_kinds 88 = .ok (.ifCond .eq 19, 3) := by decide +kernel
theorem dX12_kinds_91 : decode cX12_kinds 91 = .ok (.aload_n 0, 1) := by decide +kernel
theorem dX12_kinds_92 : decode cX12_kinds 92 = .ok (.iload_n 1, 1) := by decide +kernel
theorem dX12_kinds_93 : decode cX12_kinds 93 = .ok (.iload_n 3, 1) := by decide +kernel
theorem dX12_kinds_94 : decode cX12_kinds 94 = .ok (.iload 9, 2) := by decide +kernel
theorem dX12_kinds_96 : decode cX12_kinds 96 = .ok (.invokevirtual 129, 3) := by decide +kernel
theorem dX12_kinds_99 : decode cX12_kinds 99 = .ok (.iload_n 3, 1) := by decide +kernel
theorem dX12_kinds_100 : decode cX12_kinds 100 = .ok (.if_icmp .ne 7, 3) := by decide +kernel
theorem dX12_kinds_103 : decode cX12_kinds 103 = .ok (.iconst 1, 1) := by decide +kernel
theorem dX12_kinds_104 : decode cX12_kinds 104 = .ok (.goto 4, 3) := by decide +kernel
theorem dX12_kinds_107 : decode cX12_kinds 107 = .ok (.iconst 0, 1) := by decide +kernel
theorem dX12_kinds_108 : decode cX12_kinds 108 = .ok (.istore 7, 2) := by decide +kernel
theorem dX12_kinds_110 : decode cX12_kinds 110 = .ok (.iconst 0, 1) := by decide +kernel
theorem dX12_kinds_111 : decode cX12_kinds 111 = .ok (.istore 10, 2) := by decide +kernel
theorem dX12_kinds_113 : decode cX12_kinds 113 = .ok (.iload 10, 2) := by decide +kernel
theorem dX12_kinds_115 : decode cX12_kinds 115 = .ok (.iload_n 2, 1) := by decide +kernel
theorem dX12_kinds_116 : decode cX12_kinds 116 = .ok (.if_icmp .ge 87, 3) := by decide +kernel
theorem dX12_kinds_119 : decode cX12_kinds 119 = .ok (.iload 8, 2) := by decide +kernel
theorem dX12_kinds_121 : decode cX12_kinds 121 = .ok (.ifCond .ne 21, 3) := by decide +kernel
theorem dX12_kinds_124 : decode cX12_kinds 124 = .ok (.aload_n 0, 1) := by decide +kernel
theorem dX12_kinds_125 : decode cX12_kinds 125 = .ok (.getfield 16, 3) := by decide +kernel
theorem dX12_kinds_128 : decode cX12_kinds 128 = .ok (.iload_n 1, 1) := by decide +kernel
theorem dX12_kinds_129 : decode cX12_kinds 129 = .ok (.iload 10, 2) := by decide +kernel
theorem dX12_kinds_131 : decode cX12_kinds 131 = .ok (.iload 9, 2) := by decide +kernel
theorem dX12_kinds_133 : decode cX12_kinds 133 = .ok (.invokestatic 102, 3) := by decide +kernel
theorem dX12_kinds_136 : decode cX12_kinds 136 = .ok (.iaload, 1) := by decide +kernel
theorem dX12_kinds_137 : decode cX12_kinds 137 = .ok (.iload 10, 2) := by decide +kernel
theorem dX12_kinds_139 : decode cX12_kinds 139 = .ok (.if_icmp .ne 7, 3) := by decide +kernel
theorem dX12_kinds_142 : decode cX12_kinds 142 = .ok (.iconst 1, 1) := by decide +kernel
theorem dX12_kinds_143 : decode cX12_kinds 143 = .ok (.goto 4, 3) := by decide +kernel
theorem dX12_kinds_146 : decode cX12_kinds 146 = .ok (.iconst 0, 1) := by decide +kernel
theorem dX12_kinds_147 : decode cX12_kinds 147 = .ok (.istore 8, 2) := by decide +kernel
theorem dX12_kinds_149 : decode cX12_kinds 149 = .ok (.iload 6, 2) := by decide +kernel
theorem dX12_kinds_151 : decode cX12_kinds 151 = .ok (.ifCond .eq 43, 3) := by decide +kernel
theorem dX12_kinds_154 : decode cX12_kinds 154 = .ok (.iload 10, 2) := by decide +kernel
theorem dX12_kinds_156 : decode cX12_kinds 156 = .ok (.ifCond .eq 34, 3) := by decide +kernel
theorem dX12_kinds_159 : decode cX12_kinds 159 = .ok (.aload_n 0, 1) := by decide +kernel
theorem dX12_kinds_160 : decode cX12_kinds 160 = .ok (.getfield 16, 3) := by decide +kernel
theorem dX12_kinds_163 : decode cX12_kinds 163 = .ok (.iload_n 1, 1) := by decide +kernel
theorem dX12_kinds_164 : decode cX12_kinds 164 = .ok (.iload 10, 2) := by decide +kernel
theorem dX12_kinds_166 : decode cX12_kinds 166 = .ok (.iconst 1, 1) := by decide +kernel
theorem dX12_kinds_167 : decode cX12_kinds 167 = .ok (.isub, 1) := by decide +kernel
theorem dX12_kinds_168 : decode cX12_kinds 168 = .ok (.iload 9, 2) := by decide +kernel
theorem dX12_kinds_170 : decode cX12_kinds 170 = .ok (.invokestatic 102, 3) := by decide +kernel
theorem dX12_kinds_173 : decode cX12_kinds 173 = .ok (.iaload, 1) := by decide +kernel
theorem dX12_kinds_174 : decode cX12_kinds 174 = .ok (.aload_n 0, 1) := by decide +kernel
theorem dX12_kinds_175 : decode cX12_kinds 175 = .ok (.getfield 16, 3) := by decide +kernel
theorem dX12_kinds_178 : decode cX12_kinds 178 = .ok (.iload_n 1, 1) := by decide +kernel
theorem dX12_kinds_179 : decode cX12_kinds 179 = .ok (.iload 10, 2) := by decide +kernel
theorem dX12_kinds_181 : decode cX12_kinds 181 = .ok (.iload 9, 2) := by decide +kernel
theorem dX12_kinds_183 : decode cX12_kinds 183 = .ok (.invokestatic 102, 3) := by decide +kernel
theorem dX12_kinds_186 : decode cX12_kinds 186 = .ok (.iaload, 1) := by decide +kernel
theorem dX12_kinds_187 : decode cX12_kinds 187 = .ok (.if_icmp .gt 7, 3) := by decide +kernel
theorem dX12_kinds_190 : decode cX12_kinds 190 = .ok (.iconst 1, 1) := by decide +kernel
theorem dX12_kinds_191 : decode cX12_kinds 191 = .ok (.goto 4, 3) := by decide +kernel
theorem dX12_kinds_194 : decode cX12_kinds 194 = .ok (.iconst 0, 1) := by decide +kernel
theorem dX12_kinds_195 : decode cX12_kinds 195 = .ok (.istore 6, 2) := by decide +kernel
theorem dX12_kinds_197 : decode cX12_kinds 197 = .ok (.iinc 10 1, 3) := by decide +kernel
theorem dX12_kinds_200 : decode cX12_kinds 200 = .ok (.goto (-87), 3) := by decide +kernel
theorem dX12_kinds_203 : decode cX12_kinds 203 = .ok (.iinc 9 1, 3) := by decide +kernel
theorem dX12_kinds_206 : decode cX12_kinds 206 = .ok (.goto (-153), 3) := by decide +kernel
theorem dX12_kinds_209 : decode cX12_kinds 209 = .ok (.iconst 0, 1) := by decide +kernel
theorem dX12_kinds_210 : decode cX12_kinds 210 = .ok (.istore 9, 2) := by decide +kernel
theorem dX12_kinds_212 : decode cX12_kinds 212 = .ok (.iload 9, 2) := by decide +kernel
theorem dX12_kinds_214 : decode cX12_kinds 214 = .ok (.iload_n 2, 1) := by decide +kernel
theorem dX12_kinds_215 : decode cX12_kinds 215 = .ok (.if_icmp .ge 31, 3) := by decide +kernel
theorem dX12_kinds_218 : decode cX12_kinds 218 = .ok (.iload 5, 2) := by decide +kernel
theorem dX12_kinds_220 : decode cX12_kinds 220 = .ok (.ifCond .ne 13, 3) := by decide +kernel
theorem dX12_kinds_223 : decode cX12_kinds 223 = .ok (.aload_n 0, 1) := by decide +kernel
theorem dX12_kinds_224 : decode cX12_kinds 224 = .ok (.iload_n 1, 1) := by decide +kernel
theorem dX12_kinds_225 : decode cX12_kinds 225 = .ok (.iload 9, 2) := by decide +kernel
theorem dX12_kinds_227 : decode cX12_kinds 227 = .ok (.invokevirtual 194, 3) := by decide +kernel
theorem dX12_kinds_230 : decode cX12_kinds 230 = .ok (.ifCond .eq 7, 3) := by decide +kernel
theorem dX12_kinds_233 : decode cX12_kinds 233 = .ok (.iconst 1, 1) := by decide +kernel
theorem dX12_kinds_234 : decode cX12_kinds 234 = .ok (.goto 4, 3) := by decide +kernel
theorem dX12_kinds_237 : decode cX12_kinds 237 = .ok (.iconst 0, 1) := by decide +kernel
theorem dX12_kinds_238 : decode cX12_kinds 238 = .ok (.istore 5, 2) := by decide +kernel
theorem dX12_kinds_240 : decode cX12_kinds 240 = .ok (.iinc 9 1, 3) := by decide +kernel
theorem dX12_kinds_243 : decode cX12_kinds 243 = .ok (.goto (-31), 3) := by decide +kernel
theorem dX12_kinds_246 : decode cX12_kinds 246 = .ok (.iload 4, 2) := by decide +kernel
theorem dX12_kinds_248 : decode cX12_kinds 248 = .ok (.ifCond .eq 7, 3) := by decide +kernel
theorem dX12_kinds_251 : decode cX12_kinds 251 = .ok (.iconst 1, 1) := by decide +kernel
theorem dX12_kinds_252 : decode cX12_kinds 252 = .ok (.goto 4, 3) := by decide +kernel
theorem dX12_kinds_255 : decode cX12_kinds 255 = .ok (.iconst 0, 1) := by decide +kernel
theorem dX12_kinds_256 : decode cX12_kinds 256 = .ok (.iload 5, 2) := by decide +kernel
theorem dX12_kinds_258 : decode cX12_kinds 258 = .ok (.ifCond .eq 7, 3) := by decide +kernel
theorem dX12_kinds_261 : decode cX12_kinds 261 = .ok (.iconst 2, 1) := by decide +kernel
theorem dX12_kinds_262 : decode cX12_kinds 262 = .ok (.goto 4, 3) := by decide +kernel
theorem dX12_kinds_265 : decode cX12_kinds 265 = .ok (.iconst 0, 1) := by decide +kernel
theorem dX12_kinds_266 : decode cX12_kinds 266 = .ok (.ior, 1) := by decide +kernel
theorem dX12_kinds_267 : decode cX12_kinds 267 = .ok (.iload 6, 2) := by decide +kernel
theorem dX12_kinds_269 : decode cX12_kinds 269 = .ok (.ifCond .eq 7, 3) := by decide +kernel
theorem dX12_kinds_272 : decode cX12_kinds 272 = .ok (.iconst 4, 1) := by decide +kernel
theorem dX12_kinds_273 : decode cX12_kinds 273 = .ok (.goto 4, 3) := by decide +kernel
theorem dX12_kinds_276 : decode cX12_kinds 276 = .ok (.iconst 0, 1) := by decide +kernel
theorem dX12_kinds_277 : decode cX12_kinds 277 = .ok (.ior, 1) := by decide +kernel
theorem dX12_kinds_278 : decode cX12_kinds 278 = .ok (.iload 7, 2) := by decide +kernel
theorem dX12_kinds_280 : decode cX12_kinds 280 = .ok (.ifCond .eq 8, 3) := by decide +kernel
theorem dX12_kinds_283 : decode cX12_kinds 283 = .ok (.bipush 8, 2) := by decide +kernel
theorem dX12_kinds_285 : decode cX12_kinds 285 = .ok (.goto 4, 3) := by decide +kernel
theorem dX12_kinds_288 : decode cX12_kinds 288 = .ok (.iconst 0, 1) := by decide +kernel
theorem dX12_kinds_289 : decode cX12_kinds 289 = .ok (.ior, 1) := by decide +kernel
theorem dX12_kinds_290 : decode cX12_kinds 290 = .ok (.iload 8, 2) := by decide +kernel
theorem dX12_kinds_292 : decode cX12_kinds 292 = .ok (.ifCond .eq 8, 3) := by decide +kernel
theorem dX12_kinds_295 : decode cX12_kinds 295 = .ok (.bipush 16, 2) := by decide +kernel
theorem dX12_kinds_297 : decode cX12_kinds 297 = .ok (.goto 4, 3) := by decide +kernel
theorem dX12_kinds_300 : decode cX12_kinds 300 = .ok (.iconst 0, 1) := by decide +kernel
theorem dX12_kinds_301 : decode cX12_kinds 301 = .ok (.ior, 1) := by decide +kernel
theorem dX12_kinds_302 : decode cX12_kinds 302 = .ok (.ireturn, 1) := by decide +kernel
theorem dX12_findRow_0 : decode cX12_findRow 0 = .ok (.iload_n 2, 1) := by decide +kernel
theorem dX12_findRow_1 : decode cX12_findRow 1 = .ok (.istore_n 3, 1) := by decide +kernel
theorem dX12_findRow_2 : decode cX12_findRow 2 = .ok (.iconst 0, 1) := by decide +kernel
theorem dX12_findRow_3 : decode cX12_findRow 3 = .ok (.istore 4, 2) := by decide +kernel
theorem dX12_findRow_5 : decode cX12_findRow 5 = .ok (.iconst 1, 1) := by decide +kernel
theorem dX12_findRow_6 : decode cX12_findRow 6 = .ok (.istore 5, 2) := by decide +kernel
theorem dX12_findRow_8 : decode cX12_findRow 8 = .ok (.iconst 2, 1) := by decide +kernel
theorem dX12_findRow_9 : decode cX12_findRow 9 = .ok (.istore 6, 2) := by decide +kernel
theorem dX12_findRow_11 : decode cX12_findRow 11 = .ok (.iload 6, 2) := by decide +kernel
theorem dX12_findRow_13 : decode cX12_findRow 13 = .ok (.iload_n 1, 1) := by decide +kernel
theorem dX12_findRow_14 : decode cX12_findRow 14 = .ok (.if_icmp .ge 16, 3) := by decide +kernel
theorem dX12_findRow_17 : decode cX12_findRow 17 = .ok (.iload 5, 2) := by decide +kernel
theorem dX12_findRow_19 : decode cX12_findRow 19 = .ok (.iload 6, 2) := by decide +kernel
theorem dX12_findRow_21 : decode cX12_findRow 21 = .ok (.imul, 1) := by decide +kernel
theorem dX12_findRow_22 : decode cX12_findRow 22 = .ok (.istore 5, 2) := by decide +kernel
theorem dX12_findRow_24 : decode cX12_findRow 24 = .ok (.iinc 6 1, 3) := by decide +kernel
theorem dX12_findRow_27 : decode cX12_findRow 27 = .ok (.goto (-16), 3) := by decide +kernel
theorem dX12_findRow_30 : decode cX12_findRow 30 = .ok (.iconst 0, 1) := by decide +kernel
theorem dX12_findRow_31 : decode cX12_findRow 31 = .ok (.istore 6, 2) := by decide +kernel
theorem dX12_findRow_33 : decode cX12_findRow 33 = .ok (.iload 6, 2) := by decide +kernel
theorem dX12_findRow_35 : decode cX12_findRow 35 = .ok (.iload_n 1, 1) := by decide +kernel
theorem dX12_findRow_36 : decode cX12_findRow 36 = .ok (.if_icmp .ge 107, 3) := by decide +kernel
theorem dX12_findRow_39 : decode cX12_findRow 39 = .ok (.iload_n 3, 1) := by decide +kernel
theorem dX12_findRow_40 : decode cX12_findRow 40 = .ok (.iload 5, 2) := by decide +kernel
theorem dX12_findRow_42 : decode cX12_findRow 42 = .ok (.idiv, 1) := by decide +kernel
theorem dX12_findRow_43 : decode cX12_findRow 43 = .ok (.istore 7, 2) := by decide +kernel
theorem dX12_findRow_45 : decode cX12_findRow 45 = .ok (.iload_n 3, 1) := by decide +kernel
theorem dX12_findRow_46 : decode cX12_findRow 46 = .ok (.iload 5, 2) := by decide +kernel
theorem dX12_findRow_48 : decode cX12_findRow 48 = .ok (.irem, 1) := by decide +kernel
theorem dX12_findRow_49 : decode cX12_findRow 49 = .ok (.istore_n 3, 1) := by decide +kernel
theorem dX12_findRow_50 : decode cX12_findRow 50 = .ok (.iconst 0, 1) := by decide +kernel
theorem dX12_findRow_51 : decode cX12_findRow 51 = .ok (.istore 8, 2) := by decide +kernel
theorem dX12_findRow_53 : decode cX12_findRow 53 = .ok (.iload 4, 2) := by decide +kernel
theorem dX12_findRow_55 : decode cX12_findRow 55 = .ok (.iload 8, 2) := by decide +kernel
theorem dX12_findRow_57 : decode cX12_findRow 57 = .ok (.ishr, 1) := by decide +kernel
theorem dX12_findRow_58 : decode cX12_findRow 58 = .ok (.iconst 1, 1) := by decide +kernel
theorem dX12_findRow_59 : decode cX12_findRow 59 = .ok (.iand, 1) := by decide +kernel
theorem dX12_findRow_60 : decode cX12_findRow 60 = .ok (.iconst 1, 1) := by decide +kernel
theorem dX12_findRow_61 : decode cX12_findRow 61 = .ok (.if_icmp .eq 8, 3) := by decide +kernel
theorem dX12_findRow_64 : decode cX12_findRow 64 = .ok (.iload 7, 2) := by decide +kernel
theorem dX12_findRow_66 : decode cX12_findRow 66 = .ok (.ifCond .le 30, 3) := by decide +kernel
theorem dX12_findRow_69 : decode cX12_findRow 69 = .ok (.iload 7, 2) := by decide +kernel
theorem dX12_findRow_71 : decode cX12_findRow 71 = .ok (.iload 4, 2) := by decide +kernel
theorem dX12_findRow_73 : decode cX12_findRow 73 = .ok (.iload 8, 2) := by decide +kernel
theorem dX12_findRow_75 : decode cX12_findRow 75 = .ok (.ishr, 1) := by decide +kernel
theorem dX12_findRow_76 : decode cX12_findRow 76 = .ok (.iconst 1, 1) := by decide +kernel
theorem dX12_findRow_77 : decode cX12_findRow 77 = .ok (.iand, 1) := by decide +kernel
theorem dX12_findRow_78 : decode cX12_findRow 78 = .ok (.iconst 1, 1) := by decide +kernel
theorem dX12_findRow_79 : decode cX12_findRow 79 = .ok (.if_icmp .ne 7, 3) := by decide +kernel
theorem dX12_findRow_82 : decode cX12_findRow 82 = .ok (.iconst 0, 1) := by decide +kernel
theorem dX12_findRow_83 : decode cX12_findRow 83 = .ok (.goto 4, 3) := by decide +kernel
theorem dX12_findRow_86 : decode cX12_findRow 86 = .ok (.iconst 1, 1) := by decide +kernel
theorem dX12_findRow_87 : decode cX12_findRow 87 = .ok (.isub, 1) := by decide +kernel
theorem dX12_findRow_88 : decode cX12_findRow 88 = .ok (.istore 7, 2) := by decide +kernel
theorem dX12_findRow_90 : decode cX12_findRow 90 = .ok (.iinc 8 1, 3) := by decide +kernel
theorem dX12_findRow_93 : decode cX12_findRow 93 = .ok (.goto (-40), 3) := by decide +kernel
theorem dX12_findRow_96 : decode cX12_findRow 96 = .ok (.aload_n 0, 1) := by decide +kernel
theorem dX12_findRow_97 : decode cX12_findRow 97 = .ok (.getfield 81, 3) := by decide +kernel
theorem dX12_findRow_100 : decode cX12_findRow 100 = .ok (.iload 6, 2) := by decide +kernel
theorem dX12_findRow_102 : decode cX12_findRow 102 = .ok (.iload 8, 2) := by decide +kernel
theorem dX12_findRow_104 : decode cX12_findRow 104 = .ok (.iastore, 1) := by decide +kernel
theorem dX12_findRow_105 : decode cX12_findRow 105 = .ok (.iload 4, 2) := by decide +kernel
theorem dX12_findRow_107 : decode cX12_findRow 107 = .ok (.iconst 1, 1) := by decide +kernel
theorem dX12_findRow_108 : decode cX12_findRow 108 = .ok (.iload 8, 2) := by decide +kernel
theorem dX12_findRow_110 : decode cX12_findRow 110 = .ok (.ishl, 1) := by decide +kernel
theorem dX12_findRow_111 : decode cX12_findRow 111 = .ok (.ior, 1) := by decide +kernel
theorem dX12_findRow_112 : decode cX12_findRow 112 = .ok (.istore 4, 2) := by decide +kernel
theorem dX12_findRow_114 : decode cX12_findRow 114 = .ok (.iload 6, 2) := by decide +kernel
theorem dX12_findRow_116 : decode cX12_findRow 116 = .ok (.iload_n 1, 1) := by decide +kernel
theorem dX12_findRow_117 : decode cX12_findRow 117 = .ok (.iconst 1, 1) := by decide +kernel
theorem dX12_findRow_118 : decode cX12_findRow 118 = .ok (.isub, 1) := by decide +kernel
theorem dX12_findRow_119 : decode cX12_findRow 119 = .ok (.if_icmp .ge 15, 3) := by decide +kernel
theorem dX12_findRow_122 : decode cX12_findRow 122 = .ok (.iload 5, 2) := by decide +kernel
theorem dX12_findRow_124 : decode cX12_findRow 124 = .ok (.iload_n 1, 1) := by decide +kernel
theorem dX12_findRow_125 : decode cX12_findRow 125 = .ok (.iconst 1, 1) := by decide +kernel
theorem dX12_findRow_126 : decode cX12_findRow 126 = .ok (.isub, 1) := by decide +kernel
theorem dX12_findRow_127 : decode cX12_findRow 127 = .ok (.iload 6, 2) := by decide +kernel
theorem dX12_findRow_129 : decode cX12_findRow 129 = .ok (.isub, 1) := by decide +kernel
theorem dX12_findRow_130 : decode cX12_findRow 130 = .ok (.idiv, 1) := by decide +kernel
theorem dX12_findRow_131 : decode cX12_findRow 131 = .ok (.goto 4, 3) := by decide +kernel
theorem dX12_findRow_134 : decode cX12_findRow 134 = .ok (.iconst 1, 1) := by decide +kernel
theorem dX12_findRow_135 : decode cX12_findRow 135 = .ok (.istore 5, 2) := by decide +kernel
theorem dX12_findRow_137 : decode cX12_findRow 137 = .ok (.iinc 6 1, 3) := by decide +kernel
theorem dX12_findRow_140 : decode cX12_findRow 140 = .ok (.goto (-107), 3) := by decide +kernel
theorem dX12_findRow_143 : decode cX12_findRow 143 = .ok (.return_, 1) := by decide +kernel
set_option maxRecDepth 20000 in
theorem ggX12_colours_X12_findRow : GoodIn wsX12_colours wsX12_findRow := goodIn_r _ [10, 5, 14, 15, 16, 17, 18, 19, 20, 21, 22, 23, 24, 25, 26, 27, 28, 29, 30, 31, 32, 33, 34, 35, 36, 37, 38, 39, 40, 41, 42, 43] (by decide +kernel) (by decide +kernel)
set_option maxRecDepth 20000 in
theorem gX12_colours_X12_findRow : GoodIn wsX12_colours (wsV RX12 197 RX12 yX12_findRow wsX12_findRow) := goodIn_app (goodIn_of _ (by decide +kernel)) ggX12_colours_X12_findRow
set_option maxRecDepth 20000 in
theorem ggX12_colours_X12_at : GoodIn wsX12_colours wsX12_at := goodIn_r _ [13] (by decide +kernel) (by decide +kernel)
set_option maxRecDepth 20000 in
theorem gX12_colours_X12_at : GoodIn wsX12_colours (va_wsS RX12 102 yX12_at wsX12_at) := goodIn_app (goodIn_of _ (by decide +kernel)) ggX12_colours_X12_at
theorem dX12_colours_0 : decode cX12_colours 0 = .ok (.aload_n 0, 1) := by decide +kernel
theorem dX12_colours_1 : decode cX12_colours 1 = .ok (.aload_n 0, 1) := by decide +kernel
theorem dX12_colours_2 : decode cX12_colours 2 = .ok (.getfield 13, 3) := by decide +kernel
theorem dX12_colours_5 : decode cX12_colours 5 = .ok (.iload_n 1, 1) := by decide +kernel
theorem dX12_colours_6 : decode cX12_colours 6 = .ok (.iaload, 1) := by decide +kernel
theorem dX12_colours_7 : decode cX12_colours 7 = .ok (.aload_n 0, 1) := by decide +kernel
theorem dX12_colours_8 : decode cX12_colours 8 = .ok (.getfield 75, 3) := by decide +kernel
theorem dX12_colours_11 : decode cX12_colours 11 = .ok (.iload_n 2, 1) := by decide +kernel
theorem dX12_colours_12 : decode cX12_colours 12 = .ok (.iaload, 1) := by decide +kernel
theorem dX12_colours_13 : decode cX12_colours 13 = .ok (.invokevirtual 197, 3) := by decide +kernel
theorem dX12_colours_16 : decode cX12_colours 16 = .ok (.iconst 0, 1) := by decide +kernel
theorem dX12_colours_17 : decode cX12_colours 17 = .ok (.istore_n 3, 1) := by decide +kernel
theorem dX12_colours_18 : decode cX12_colours 18 = .ok (.iload_n 3, 1) := by decide +kernel
theorem dX12_colours_19 : decode cX12_colours 19 = .ok (.aload_n 0, 1) := by decide +kernel
theorem dX12_colours_20 : decode cX12_colours 20 = .ok (.getfield 13, 3) := by decide +kernel
theorem dX12_colours_23 : decode cX12_colours 23 = .ok (.iload_n 1, 1) := by decide +kernel
theorem dX12_colours_24 : decode cX12_colours 24 = .ok (.iaload, 1) := by decide +kernel
theorem dX12_colours_25 : decode cX12_colours 25 = .ok (.if_icmp .ge 35, 3) := by decide +kernel
theorem dX12_colours_28 : decode cX12_colours 28 = .ok (.aload_n 0, 1) := by decide +kernel
theorem dX12_colours_29 : decode cX12_colours 29 = .ok (.getfield 16, 3) := by decide +kernel
theorem dX12_colours_32 : decode cX12_colours 32 = .ok (.iload_n 1, 1) := by decide +kernel
theorem dX12_colours_33 : decode cX12_colours 33 = .ok (.iload_n 2, 1) := by decide +kernel
theorem dX12_colours_34 : decode cX12_colours 34 = .ok (.iload_n 3, 1) := by decide +kernel
theorem dX12_colours_35 : decode cX12_colours 35 = .ok (.invokestatic 102, 3) := by decide +kernel
theorem dX12_colours_38 : decode cX12_colours 38 = .ok (.aload_n 0, 1) := by decide +kernel
theorem dX12_colours_39 : decode cX12_colours 39 = .ok (.getfield 78, 3) := by decide +kernel
theorem dX12_colours_42 : decode cX12_colours 42 = .ok (.iconst 4, 1) := by decide +kernel
theorem dX12_colours_43 : decode cX12_colours 43 = .ok (.iload_n 2, 1) := by decide +kernel
theorem dX12_colours_44 : decode cX12_colours 44 = .ok (.imul, 1) := by decide +kernel
theorem dX12_colours_45 : decode cX12_colours 45 = .ok (.aload_n 0, 1) := by decide +kernel
theorem dX12_colours_46 : decode cX12_colours 46 = .ok (.getfield 81, 3) := by decide +kernel
theorem dX12_colours_49 : decode cX12_colours 49 = .ok (.iload_n 3, 1) := by decide +kernel
theorem dX12_colours_50 : decode cX12_colours 50 = .ok (.iaload, 1) := by decide +kernel
theorem dX12_colours_51 : decode cX12_colours 51 = .ok (.iadd, 1) := by decide +kernel
theorem dX12_colours_52 : decode cX12_colours 52 = .ok (.iaload, 1) := by decide +kernel
theorem dX12_colours_53 : decode cX12_colours 53 = .ok (.iastore, 1) := by decide +kernel
theorem dX12_colours_54 : decode cX12_colours 54 = .ok (.iinc 3 1, 3) := by decide +kernel
theorem dX12_colours_57 : decode cX12_colours 57 = .ok (.goto (-39), 3) := by decide +kernel
theorem dX12_colours_60 : decode cX12_colours 60 = .ok (.return_, 1) := by decide +kernel
set_option maxRecDepth 20000 in
theorem ggX12_colour_X12_isMachine : GoodIn wsX12_colour wsX12_isMachine := goodIn_r _ [10, 11, 12, 13, 9, 14, 40, 41, 42, 43, 44, 45, 46, 47, 48, 49, 50, 51, 52, 53, 54, 55, 56, 57, 58, 59, 60, 61, 62, 63, 64, 65, 66, 67, 68, 69] (by decide +kernel) (by decide +kernel)
set_option maxRecDepth 20000 in
theorem gX12_colour_X12_isMachine : GoodIn wsX12_colour (wsV RX12 106 RX12 yX12_isMachine wsX12_isMachine) := goodIn_app (goodIn_of _ (by decide +kernel)) ggX12_colour_X12_isMachine
set_option maxRecDepth 20000 in
theorem ggX12_colour_X12_isWhole : GoodIn wsX12_colour wsX12_isWhole := goodIn_r _ [18, 1, 2, 5, 19, 20, 9, 21, 40, 41, 42, 43, 44, 45, 46, 47, 48, 49, 50, 51, 52, 53, 54, 55, 56, 57, 58, 59, 60, 61, 62, 63, 64, 65, 66, 67, 68, 69] (by decide +kernel) (by decide +kernel)
set_option maxRecDepth 20000 in
theorem gX12_colour_X12_isWhole : GoodIn wsX12_colour (wsV RX12 117 RX12 yX12_isWhole wsX12_isWhole) := goodIn_app (goodIn_of _ (by decide +kernel)) ggX12_colour_X12_isWhole
set_option maxRecDepth 20000 in
theorem ggX12_colour_X12_at : GoodIn wsX12_colour wsX12_at := goodIn_r _ [21] (by decide +kernel) (by decide +kernel)
set_option maxRecDepth 20000 in
theorem gX12_colour_X12_at : GoodIn wsX12_colour (va_wsS RX12 102 yX12_at wsX12_at) := goodIn_app (goodIn_of _ (by decide +kernel)) ggX12_colour_X12_at
set_option maxRecDepth 20000 in
theorem ggX12_colour_X12_apartPairs : GoodIn wsX12_colour wsX12_apartPairs := goodIn_r _ [25, 1, 26, 2, 5, 19, 20, 9, 21, 27, 28, 29, 30, 40, 41, 42, 43, 44, 45, 46, 47, 48, 49, 50, 51, 52, 53, 54, 55, 56, 57, 58, 59, 60, 61, 62, 63, 64, 65, 66, 67, 68, 69] (by decide +kernel) (by decide +kernel)
set_option maxRecDepth 20000 in
theorem gX12_colour_X12_apartPairs : GoodIn wsX12_colour (wsV RX12 154 RX12 yX12_apartPairs wsX12_apartPairs) := goodIn_app (goodIn_of _ (by decide +kernel)) ggX12_colour_X12_apartPairs
set_option maxRecDepth 20000 in
theorem ggX12_colour_X12_colours : GoodIn wsX12_colour wsX12_colours := goodIn_r _ [34, 2, 3, 5, 4, 35, 36, 37, 38, 9, 39, 19, 20, 21, 40, 41, 42, 43, 44, 45, 46, 47, 48, 49, 50, 51, 52, 53, 54, 55, 56, 57, 58, 59, 60, 61, 62, 63, 64, 65, 66, 67, 68, 69] (by decide +kernel) (by decide +kernel)
set_option maxRecDepth 20000 in
theorem gX12_colour_X12_colours : GoodIn wsX12_colour (wsV RX12 200 RX12 yX12_colours wsX12_colours) := goodIn_app (goodIn_of _ (by decide +kernel)) ggX12_colour_X12_colours
theorem dX12_colour_0 : decode cX12_colour 0 = .ok (.aload_n 0, 1) := by decide +kernel
theorem dX12_colour_1 : decode cX12_colour 1 = .ok (.iload_n 1, 1) := by decide +kernel
theorem dX12_colour_2 : decode cX12_colour 2 = .ok (.invokevirtual 106, 3) := by decide +kernel
theorem dX12_colour_5 : decode cX12_colour 5 = .ok (.ifCond .ne 6, 3) := by decide +kernel
theorem dX12_colour_8 : decode cX12_colour 8 = .ok (.bipush (-2), 2) := by decide +kernel
theorem dX12_colour_10 : decode cX12_colour 10 = .ok (.ireturn, 1) := by decide +kernel
theorem dX12_colour_11 : decode cX12_colour 11 = .ok (.aload_n 0, 1) := by decide +kernel
theorem dX12_colour_12 : decode cX12_colour 12 = .ok (.iload_n 1, 1) := by decide +kernel
theorem dX12_colour_13 : decode cX12_colour 13 = .ok (.invokevirtual 117, 3) := by decide +kernel
theorem dX12_colour_16 : decode cX12_colour 16 = .ok (.ifCond .ne 6, 3) := by decide +kernel
theorem dX12_colour_19 : decode cX12_colour 19 = .ok (.bipush (-3), 2) := by decide +kernel
theorem dX12_colour_21 : decode cX12_colour 21 = .ok (.ireturn, 1) := by decide +kernel
theorem dX12_colour_22 : decode cX12_colour 22 = .ok (.aload_n 0, 1) := by decide +kernel
theorem dX12_colour_23 : decode cX12_colour 23 = .ok (.getfield 7, 3) := by decide +kernel
theorem dX12_colour_26 : decode cX12_colour 26 = .ok (.iload_n 1, 1) := by decide +kernel
theorem dX12_colour_27 : decode cX12_colour 27 = .ok (.iaload, 1) := by decide +kernel
