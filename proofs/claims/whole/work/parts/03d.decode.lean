theorem dX11_digestOf_100 : decode cX11_digestOf 100 = .ok (.iload 5, 2) := by decide +kernel
theorem dX11_digestOf_102 : decode cX11_digestOf 102 = .ok (.aload_n 0, 1) := by decide +kernel
theorem dX11_digestOf_103 : decode cX11_digestOf 103 = .ok (.invokevirtual 223, 3) := by decide +kernel
theorem dX11_digestOf_106 : decode cX11_digestOf 106 = .ok (.if_icmp .ge 37, 3) := by decide +kernel
theorem dX11_digestOf_109 : decode cX11_digestOf 109 = .ok (.ldc2_w 218, 3) := by decide +kernel
theorem dX11_digestOf_112 : decode cX11_digestOf 112 = .ok (.lload_n 3, 1) := by decide +kernel
theorem dX11_digestOf_113 : decode cX11_digestOf 113 = .ok (.lmul, 1) := by decide +kernel
theorem dX11_digestOf_114 : decode cX11_digestOf 114 = .ok (.aload_n 0, 1) := by decide +kernel
theorem dX11_digestOf_115 : decode cX11_digestOf 115 = .ok (.iload 5, 2) := by decide +kernel
theorem dX11_digestOf_117 : decode cX11_digestOf 117 = .ok (.invokevirtual 229, 3) := by decide +kernel
theorem dX11_digestOf_120 : decode cX11_digestOf 120 = .ok (.i2l, 1) := by decide +kernel
theorem dX11_digestOf_121 : decode cX11_digestOf 121 = .ok (.ladd, 1) := by decide +kernel
theorem dX11_digestOf_122 : decode cX11_digestOf 122 = .ok (.lstore_n 3, 1) := by decide +kernel
theorem dX11_digestOf_123 : decode cX11_digestOf 123 = .ok (.ldc2_w 218, 3) := by decide +kernel
theorem dX11_digestOf_126 : decode cX11_digestOf 126 = .ok (.lload_n 3, 1) := by decide +kernel
theorem dX11_digestOf_127 : decode cX11_digestOf 127 = .ok (.lmul, 1) := by decide +kernel
theorem dX11_digestOf_128 : decode cX11_digestOf 128 = .ok (.aload_n 0, 1) := by decide +kernel
theorem dX11_digestOf_129 : decode cX11_digestOf 129 = .ok (.iload 5, 2) := by decide +kernel
theorem dX11_digestOf_131 : decode cX11_digestOf 131 = .ok (.invokevirtual 232, 3) := by decide +kernel
theorem dX11_digestOf_134 : decode cX11_digestOf 134 = .ok (.i2l, 1) := by decide +kernel
theorem dX11_digestOf_135 : decode cX11_digestOf 135 = .ok (.ladd, 1) := by decide +kernel
theorem dX11_digestOf_136 : decode cX11_digestOf 136 = .ok (.lstore_n 3, 1) := by decide +kernel
theorem dX11_digestOf_137 : decode cX11_digestOf 137 = .ok (.iinc 5 1, 3) := by decide +kernel
theorem dX11_digestOf_140 : decode cX11_digestOf 140 = .ok (.goto (-40), 3) := by decide +kernel
theorem dX11_digestOf_143 : decode cX11_digestOf 143 = .ok (.lload_n 3, 1) := by decide +kernel
theorem dX11_digestOf_144 : decode cX11_digestOf 144 = .ok (.lreturn, 1) := by decide +kernel
set_option maxRecDepth 20000 in
theorem ggX11_fact_X4_states : GoodIn wsX11_fact wsX4_states := goodIn_r _ [5, 6, 21, 22, 23, 24, 25, 26] (by decide +kernel) (by decide +kernel)
set_option maxRecDepth 20000 in
theorem gX11_fact_X4_states : GoodIn wsX11_fact (wsV RX11 220 RX4 yX4_states wsX4_states) := goodIn_app (goodIn_of _ (by decide +kernel)) ggX11_fact_X4_states
set_option maxRecDepth 20000 in
theorem ggX11_fact_X4_letters : GoodIn wsX11_fact wsX4_letters := goodIn_r _ [10, 11, 21, 22, 23, 24, 25, 26] (by decide +kernel) (by decide +kernel)
set_option maxRecDepth 20000 in
theorem gX11_fact_X4_letters : GoodIn wsX11_fact (wsV RX11 223 RX4 yX4_letters wsX4_letters) := goodIn_app (goodIn_of _ (by decide +kernel)) ggX11_fact_X4_letters
set_option maxRecDepth 20000 in
theorem ggX11_fact_X4_isWhole : GoodIn wsX11_fact wsX4_isWhole := goodIn_r _ [15, 6, 11, 16, 17, 18, 4, 19, 20, 21, 22, 23, 24, 25, 26] (by decide +kernel) (by decide +kernel)
set_option maxRecDepth 20000 in
theorem gX11_fact_X4_isWhole : GoodIn wsX11_fact (wsV RX11 197 RX4 yX4_isWhole wsX4_isWhole) := goodIn_app (goodIn_of _ (by decide +kernel)) ggX11_fact_X4_isWhole
theorem dX11_fact_0 : decode cX11_fact 0 = .ok (.iload_n 1, 1) := by decide +kernel
theorem dX11_fact_1 : decode cX11_fact 1 = .ok (.ifCond .ne 8, 3) := by decide +kernel
theorem dX11_fact_4 : decode cX11_fact 4 = .ok (.aload_n 0, 1) := by decide +kernel
theorem dX11_fact_5 : decode cX11_fact 5 = .ok (.invokevirtual 220, 3) := by decide +kernel
theorem dX11_fact_8 : decode cX11_fact 8 = .ok (.ireturn, 1) := by decide +kernel
theorem dX11_fact_9 : decode cX11_fact 9 = .ok (.iload_n 1, 1) := by decide +kernel
theorem dX11_fact_10 : decode cX11_fact 10 = .ok (.iconst 1, 1) := by decide +kernel
theorem dX11_fact_11 : decode cX11_fact 11 = .ok (.if_icmp .ne 10, 3) := by decide +kernel
theorem dX11_fact_14 : decode cX11_fact 14 = .ok (.aload_n 0, 1) := by decide +kernel
theorem dX11_fact_15 : decode cX11_fact 15 = .ok (.invokevirtual 223, 3) := by decide +kernel
theorem dX11_fact_18 : decode cX11_fact 18 = .ok (.goto 15, 3) := by decide +kernel
theorem dX11_fact_21 : decode cX11_fact 21 = .ok (.aload_n 0, 1) := by decide +kernel
theorem dX11_fact_22 : decode cX11_fact 22 = .ok (.invokevirtual 197, 3) := by decide +kernel
theorem dX11_fact_25 : decode cX11_fact 25 = .ok (.ifCond .eq 7, 3) := by decide +kernel
theorem dX11_fact_28 : decode cX11_fact 28 = .ok (.iconst 1, 1) := by decide +kernel
theorem dX11_fact_29 : decode cX11_fact 29 = .ok (.goto 4, 3) := by decide +kernel
theorem dX11_fact_32 : decode cX11_fact 32 = .ok (.iconst 0, 1) := by decide +kernel
theorem dX11_fact_33 : decode cX11_fact 33 = .ok (.ireturn, 1) := by decide +kernel
theorem dX11_add_0 : decode cX11_add 0 = .ok (.aload_n 0, 1) := by decide +kernel
theorem dX11_add_1 : decode cX11_add 1 = .ok (.getfield 84, 3) := by decide +kernel
theorem dX11_add_4 : decode cX11_add 4 = .ok (.bipush 6, 2) := by decide +kernel
theorem dX11_add_6 : decode cX11_add 6 = .ok (.if_icmp .lt 6, 3) := by decide +kernel
theorem dX11_add_9 : decode cX11_add 9 = .ok (.bipush (-4), 2) := by decide +kernel
theorem dX11_add_11 : decode cX11_add 11 = .ok (.ireturn, 1) := by decide +kernel
theorem dX11_add_12 : decode cX11_add 12 = .ok (.aload_n 0, 1) := by decide +kernel
theorem dX11_add_13 : decode cX11_add 13 = .ok (.getfield 11, 3) := by decide +kernel
theorem dX11_add_16 : decode cX11_add 16 = .ok (.aload_n 0, 1) := by decide +kernel
theorem dX11_add_17 : decode cX11_add 17 = .ok (.getfield 84, 3) := by decide +kernel
theorem dX11_add_20 : decode cX11_add 20 = .ok (.aload_n 1, 1) := by decide +kernel
theorem dX11_add_21 : decode cX11_add 21 = .ok (.aastore, 1) := by decide +kernel
theorem dX11_add_22 : decode cX11_add 22 = .ok (.aload_n 0, 1) := by decide +kernel
theorem dX11_add_23 : decode cX11_add 23 = .ok (.dup, 1) := by decide +kernel
theorem dX11_add_24 : decode cX11_add 24 = .ok (.getfield 84, 3) := by decide +kernel
theorem dX11_add_27 : decode cX11_add 27 = .ok (.iconst 1, 1) := by decide +kernel
theorem dX11_add_28 : decode cX11_add 28 = .ok (.iadd, 1) := by decide +kernel
theorem dX11_add_29 : decode cX11_add 29 = .ok (.putfield 84, 3) := by decide +kernel
theorem dX11_add_32 : decode cX11_add 32 = .ok (.aload_n 0, 1) := by decide +kernel
theorem dX11_add_33 : decode cX11_add 33 = .ok (.getfield 84, 3) := by decide +kernel
theorem dX11_add_36 : decode cX11_add 36 = .ok (.iconst 1, 1) := by decide +kernel
theorem dX11_add_37 : decode cX11_add 37 = .ok (.isub, 1) := by decide +kernel
theorem dX11_add_38 : decode cX11_add 38 = .ok (.ireturn, 1) := by decide +kernel
theorem dX11_machineAt_0 : decode cX11_machineAt 0 = .ok (.iload_n 1, 1) := by decide +kernel
theorem dX11_machineAt_1 : decode cX11_machineAt 1 = .ok (.ifCond .lt 26, 3) := by decide +kernel
theorem dX11_machineAt_4 : decode cX11_machineAt 4 = .ok (.iload_n 1, 1) := by decide +kernel
theorem dX11_machineAt_5 : decode cX11_machineAt 5 = .ok (.aload_n 0, 1) := by decide +kernel
theorem dX11_machineAt_6 : decode cX11_machineAt 6 = .ok (.getfield 84, 3) := by decide +kernel
theorem dX11_machineAt_9 : decode cX11_machineAt 9 = .ok (.if_icmp .ge 18, 3) := by decide +kernel
theorem dX11_machineAt_12 : decode cX11_machineAt 12 = .ok (.iload_n 1, 1) := by decide +kernel
theorem dX11_machineAt_13 : decode cX11_machineAt 13 = .ok (.bipush 6, 2) := by decide +kernel
theorem dX11_machineAt_15 : decode cX11_machineAt 15 = .ok (.if_icmp .ge 12, 3) := by decide +kernel
theorem dX11_machineAt_18 : decode cX11_machineAt 18 = .ok (.aload_n 0, 1) := by decide +kernel
theorem dX11_machineAt_19 : decode cX11_machineAt 19 = .ok (.getfield 11, 3) := by decide +kernel
theorem dX11_machineAt_22 : decode cX11_machineAt 22 = .ok (.iload_n 1, 1) := by decide +kernel
theorem dX11_machineAt_23 : decode cX11_machineAt 23 = .ok (.aaload, 1) := by decide +kernel
theorem dX11_machineAt_24 : decode cX11_machineAt 24 = .ok (.goto 4, 3) := by decide +kernel
theorem dX11_machineAt_27 : decode cX11_machineAt 27 = .ok (.aconst_null, 1) := by decide +kernel
theorem dX11_machineAt_28 : decode cX11_machineAt 28 = .ok (.areturn, 1) := by decide +kernel
set_option maxRecDepth 20000 in
theorem ggX11_tellWordTo_X9_lengthTo : GoodIn wsX11_tellWordTo wsX9_lengthTo := goodIn_r _ [7, 8, 9, 10, 6, 11, 12, 13, 14, 15, 16, 47] (by decide +kernel) (by decide +kernel)
set_option maxRecDepth 20000 in
theorem gX11_tellWordTo_X9_lengthTo : GoodIn wsX11_tellWordTo (wsV RX11 235 RX9 yX9_lengthTo wsX9_lengthTo) := goodIn_app (goodIn_of _ (by decide +kernel)) ggX11_tellWordTo_X9_lengthTo
set_option maxRecDepth 20000 in
theorem ggX11_tellWordTo_X9_giveWord : GoodIn wsX11_tellWordTo wsX9_giveWord := goodIn_r _ [20, 12, 21, 22, 23, 24, 25, 26, 27, 28, 29, 30, 13, 14, 15, 6, 16, 31, 32, 33, 34, 35, 8, 9, 10, 11, 47, 48, 49] (by decide +kernel) (by decide +kernel)
set_option maxRecDepth 20000 in
theorem gX11_tellWordTo_X9_giveWord : GoodIn wsX11_tellWordTo (wsV RX11 238 RX9 yX9_giveWord wsX9_giveWord) := goodIn_app (goodIn_of _ (by decide +kernel)) ggX11_tellWordTo_X9_giveWord
theorem dX11_tellWordTo_0 : decode cX11_tellWordTo 0 = .ok (.iload_n 1, 1) := by decide +kernel
theorem dX11_tellWordTo_1 : decode cX11_tellWordTo 1 = .ok (.ifCond .ne 5, 3) := by decide +kernel
theorem dX11_tellWordTo_4 : decode cX11_tellWordTo 4 = .ok (.iconst (-1), 1) := by decide +kernel
theorem dX11_tellWordTo_5 : decode cX11_tellWordTo 5 = .ok (.ireturn, 1) := by decide +kernel
theorem dX11_tellWordTo_6 : decode cX11_tellWordTo 6 = .ok (.aload_n 0, 1) := by decide +kernel
theorem dX11_tellWordTo_7 : decode cX11_tellWordTo 7 = .ok (.getfield 32, 3) := by decide +kernel
theorem dX11_tellWordTo_10 : decode cX11_tellWordTo 10 = .ok (.iload_n 1, 1) := by decide +kernel
theorem dX11_tellWordTo_11 : decode cX11_tellWordTo 11 = .ok (.invokevirtual 235, 3) := by decide +kernel
theorem dX11_tellWordTo_14 : decode cX11_tellWordTo 14 = .ok (.istore_n 2, 1) := by decide +kernel
theorem dX11_tellWordTo_15 : decode cX11_tellWordTo 15 = .ok (.iload_n 2, 1) := by decide +kernel
theorem dX11_tellWordTo_16 : decode cX11_tellWordTo 16 = .ok (.sipush 600, 3) := by decide +kernel
theorem dX11_tellWordTo_19 : decode cX11_tellWordTo 19 = .ok (.if_icmp .gt 16, 3) := by decide +kernel
theorem dX11_tellWordTo_22 : decode cX11_tellWordTo 22 = .ok (.aload_n 0, 1) := by decide +kernel
theorem dX11_tellWordTo_23 : decode cX11_tellWordTo 23 = .ok (.getfield 32, 3) := by decide +kernel
theorem dX11_tellWordTo_26 : decode cX11_tellWordTo 26 = .ok (.iload_n 1, 1) := by decide +kernel
theorem dX11_tellWordTo_27 : decode cX11_tellWordTo 27 = .ok (.iload_n 2, 1) := by decide +kernel
theorem dX11_tellWordTo_28 : decode cX11_tellWordTo 28 = .ok (.aload_n 0, 1) := by decide +kernel
theorem dX11_tellWordTo_29 : decode cX11_tellWordTo 29 = .ok (.getfield 18, 3) := by decide +kernel
theorem dX11_tellWordTo_32 : decode cX11_tellWordTo 32 = .ok (.invokevirtual 238, 3) := by decide +kernel
theorem dX11_tellWordTo_35 : decode cX11_tellWordTo 35 = .ok (.iload_n 2, 1) := by decide +kernel
theorem dX11_tellWordTo_36 : decode cX11_tellWordTo 36 = .ok (.ireturn, 1) := by decide +kernel
theorem dX12_init_0 : decode cX12_init 0 = .ok (.aload_n 0, 1) := by decide +kernel
theorem dX12_init_1 : decode cX12_init 1 = .ok (.invokespecial 1, 3) := by decide +kernel
theorem dX12_init_4 : decode cX12_init 4 = .ok (.aload_n 0, 1) := by decide +kernel
theorem dX12_init_5 : decode cX12_init 5 = .ok (.bipush 6, 2) := by decide +kernel
theorem dX12_init_7 : decode cX12_init 7 = .ok (.newarray .int, 2) := by decide +kernel
theorem dX12_init_9 : decode cX12_init 9 = .ok (.putfield 7, 3) := by decide +kernel
theorem dX12_init_12 : decode cX12_init 12 = .ok (.aload_n 0, 1) := by decide +kernel
theorem dX12_init_13 : decode cX12_init 13 = .ok (.bipush 6, 2) := by decide +kernel
theorem dX12_init_15 : decode cX12_init 15 = .ok (.newarray .int, 2) := by decide +kernel
theorem dX12_init_17 : decode cX12_init 17 = .ok (.putfield 13, 3) := by decide +kernel
theorem dX12_init_20 : decode cX12_init 20 = .ok (.aload_n 0, 1) := by decide +kernel
theorem dX12_init_21 : decode cX12_init 21 = .ok (.sipush 288, 3) := by decide +kernel
theorem dX12_init_24 : decode cX12_init 24 = .ok (.newarray .int, 2) := by decide +kernel
theorem dX12_init_26 : decode cX12_init 26 = .ok (.putfield 16, 3) := by decide +kernel
theorem dX12_init_29 : decode cX12_init 29 = .ok (.aload_n 0, 1) := by decide +kernel
theorem dX12_init_30 : decode cX12_init 30 = .ok (.bipush 72, 2) := by decide +kernel
theorem dX12_init_32 : decode cX12_init 32 = .ok (.newarray .int, 2) := by decide +kernel
theorem dX12_init_34 : decode cX12_init 34 = .ok (.putfield 19, 3) := by decide +kernel
theorem dX12_init_37 : decode cX12_init 37 = .ok (.aload_n 0, 1) := by decide +kernel
theorem dX12_init_38 : decode cX12_init 38 = .ok (.bipush 24, 2) := by decide +kernel
theorem dX12_init_40 : decode cX12_init 40 = .ok (.newarray .int, 2) := by decide +kernel
theorem dX12_init_42 : decode cX12_init 42 = .ok (.putfield 22, 3) := by decide +kernel
theorem dX12_init_45 : decode cX12_init 45 = .ok (.aload_n 0, 1) := by decide +kernel
theorem dX12_init_46 : decode cX12_init 46 = .ok (.bipush 24, 2) := by decide +kernel
theorem dX12_init_48 : decode cX12_init 48 = .ok (.newarray .int, 2) := by decide +kernel
theorem dX12_init_50 : decode cX12_init 50 = .ok (.putfield 25, 3) := by decide +kernel
theorem dX12_init_53 : decode cX12_init 53 = .ok (.aload_n 0, 1) := by decide +kernel
theorem dX12_init_54 : decode cX12_init 54 = .ok (.sipush 600, 3) := by decide +kernel
theorem dX12_init_57 : decode cX12_init 57 = .ok (.newarray .int, 2) := by decide +kernel
theorem dX12_init_59 : decode cX12_init 59 = .ok (.putfield 28, 3) := by decide +kernel
theorem dX12_init_62 : decode cX12_init 62 = .ok (.aload_n 0, 1) := by decide +kernel
theorem dX12_init_63 : decode cX12_init 63 = .ok (.sipush 4096, 3) := by decide +kernel
theorem dX12_init_66 : decode cX12_init 66 = .ok (.newarray .int, 2) := by decide +kernel
theorem dX12_init_68 : decode cX12_init 68 = .ok (.putfield 31, 3) := by decide +kernel
theorem dX12_init_71 : decode cX12_init 71 = .ok (.aload_n 0, 1) := by decide +kernel
theorem dX12_init_72 : decode cX12_init 72 = .ok (.sipush 4096, 3) := by decide +kernel
theorem dX12_init_75 : decode cX12_init 75 = .ok (.newarray .int, 2) := by decide +kernel
theorem dX12_init_77 : decode cX12_init 77 = .ok (.putfield 34, 3) := by decide +kernel
theorem dX12_init_80 : decode cX12_init 80 = .ok (.aload_n 0, 1) := by decide +kernel
theorem dX12_init_81 : decode cX12_init 81 = .ok (.sipush 4096, 3) := by decide +kernel
theorem dX12_init_84 : decode cX12_init 84 = .ok (.newarray .int, 2) := by decide +kernel
theorem dX12_init_86 : decode cX12_init 86 = .ok (.putfield 37, 3) := by decide +kernel
theorem dX12_init_89 : decode cX12_init 89 = .ok (.aload_n 0, 1) := by decide +kernel
theorem dX12_init_90 : decode cX12_init 90 = .ok (.sipush 4096, 3) := by decide +kernel
theorem dX12_init_93 : decode cX12_init 93 = .ok (.newarray .boolean, 2) := by decide +kernel
theorem dX12_init_95 : decode cX12_init 95 = .ok (.putfield 40, 3) := by decide +kernel
theorem dX12_init_98 : decode cX12_init 98 = .ok (.aload_n 0, 1) := by decide +kernel
theorem dX12_init_99 : decode cX12_init 99 = .ok (.sipush 144, 3) := by decide +kernel
theorem dX12_init_102 : decode cX12_init 102 = .ok (.newarray .boolean, 2) := by decide +kernel
theorem dX12_init_104 : decode cX12_init 104 = .ok (.putfield 44, 3) := by decide +kernel
theorem dX12_init_107 : decode cX12_init 107 = .ok (.aload_n 0, 1) := by decide +kernel
theorem dX12_init_108 : decode cX12_init 108 = .ok (.sipush 600, 3) := by decide +kernel
theorem dX12_init_111 : decode cX12_init 111 = .ok (.newarray .int, 2) := by decide +kernel
theorem dX12_init_113 : decode cX12_init 113 = .ok (.putfield 47, 3) := by decide +kernel
theorem dX12_init_116 : decode cX12_init 116 = .ok (.aload_n 0, 1) := by decide +kernel
theorem dX12_init_117 : decode cX12_init 117 = .ok (.bipush 100, 2) := by decide +kernel
theorem dX12_init_119 : decode cX12_init 119 = .ok (.newarray .int, 2) := by decide +kernel
theorem dX12_init_121 : decode cX12_init 121 = .ok (.putfield 50, 3) := by decide +kernel
theorem dX12_init_124 : decode cX12_init 124 = .ok (.aload_n 0, 1) := by decide +kernel
theorem dX12_init_125 : decode cX12_init 125 = .ok (.bipush 100, 2) := by decide +kernel
theorem dX12_init_127 : decode cX12_init 127 = .ok (.newarray .int, 2) := by decide +kernel
theorem dX12_init_129 : decode cX12_init 129 = .ok (.putfield 53, 3) := by decide +kernel
theorem dX12_init_132 : decode cX12_init 132 = .ok (.aload_n 0, 1) := by decide +kernel
theorem dX12_init_133 : decode cX12_init 133 = .ok (.sipush 4096, 3) := by decide +kernel
theorem dX12_init_136 : decode cX12_init 136 = .ok (.newarray .int, 2) := by decide +kernel
theorem dX12_init_138 : decode cX12_init 138 = .ok (.putfield 56, 3) := by decide +kernel
theorem dX12_init_141 : decode cX12_init 141 = .ok (.aload_n 0, 1) := by decide +kernel
theorem dX12_init_142 : decode cX12_init 142 = .ok (.sipush 4096, 3) := by decide +kernel
theorem dX12_init_145 : decode cX12_init 145 = .ok (.newarray .boolean, 2) := by decide +kernel
theorem dX12_init_147 : decode cX12_init 147 = .ok (.putfield 59, 3) := by decide +kernel
theorem dX12_init_150 : decode cX12_init 150 = .ok (.aload_n 0, 1) := by decide +kernel
theorem dX12_init_151 : decode cX12_init 151 = .ok (.sipush 17000, 3) := by decide +kernel
theorem dX12_init_154 : decode cX12_init 154 = .ok (.newarray .int, 2) := by decide +kernel
theorem dX12_init_156 : decode cX12_init 156 = .ok (.putfield 62, 3) := by decide +kernel
theorem dX12_init_159 : decode cX12_init 159 = .ok (.aload_n 0, 1) := by decide +kernel
theorem dX12_init_160 : decode cX12_init 160 = .ok (.sipush 17000, 3) := by decide +kernel
theorem dX12_init_163 : decode cX12_init 163 = .ok (.newarray .int, 2) := by decide +kernel
theorem dX12_init_165 : decode cX12_init 165 = .ok (.putfield 65, 3) := by decide +kernel
theorem dX12_init_168 : decode cX12_init 168 = .ok (.aload_n 0, 1) := by decide +kernel
theorem dX12_init_169 : decode cX12_init 169 = .ok (.sipush 4096, 3) := by decide +kernel
theorem dX12_init_172 : decode cX12_init 172 = .ok (.newarray .long, 2) := by decide +kernel
theorem dX12_init_174 : decode cX12_init 174 = .ok (.putfield 68, 3) := by decide +kernel
theorem dX12_init_177 : decode cX12_init 177 = .ok (.aload_n 0, 1) := by decide +kernel
theorem dX12_init_178 : decode cX12_init 178 = .ok (.sipush 4096, 3) := by decide +kernel
theorem dX12_init_181 : decode cX12_init 181 = .ok (.newarray .long, 2) := by decide +kernel
theorem dX12_init_183 : decode cX12_init 183 = .ok (.putfield 72, 3) := by decide +kernel
theorem dX12_init_186 : decode cX12_init 186 = .ok (.aload_n 0, 1) := by decide +kernel
theorem dX12_init_187 : decode cX12_init 187 = .ok (.bipush 12, 2) := by decide +kernel
theorem dX12_init_189 : decode cX12_init 189 = .ok (.newarray .int, 2) := by decide +kernel
theorem dX12_init_191 : decode cX12_init 191 = .ok (.putfield 75, 3) := by decide +kernel
theorem dX12_init_194 : decode cX12_init 194 = .ok (.aload_n 0, 1) := by decide +kernel
theorem dX12_init_195 : decode cX12_init 195 = .ok (.bipush 48, 2) := by decide +kernel
theorem dX12_init_197 : decode cX12_init 197 = .ok (.newarray .int, 2) := by decide +kernel
theorem dX12_init_199 : decode cX12_init 199 = .ok (.putfield 78, 3) := by decide +kernel
theorem dX12_init_202 : decode cX12_init 202 = .ok (.aload_n 0, 1) := by decide +kernel
theorem dX12_init_203 : decode cX12_init 203 = .ok (.iconst 4, 1) := by decide +kernel
theorem dX12_init_204 : decode cX12_init 204 = .ok (.newarray .int, 2) := by decide +kernel
theorem dX12_init_206 : decode cX12_init 206 = .ok (.putfield 81, 3) := by decide +kernel
theorem dX12_init_209 : decode cX12_init 209 = .ok (.aload_n 0, 1) := by decide +kernel
theorem dX12_init_210 : decode cX12_init 210 = .ok (.sipush 144, 3) := by decide +kernel
theorem dX12_init_213 : decode cX12_init 213 = .ok (.newarray .int, 2) := by decide +kernel
theorem dX12_init_215 : decode cX12_init 215 = .ok (.putfield 84, 3) := by decide +kernel
theorem dX12_init_218 : decode cX12_init 218 = .ok (.aload_n 0, 1) := by decide +kernel
theorem dX12_init_219 : decode cX12_init 219 = .ok (.sipush 144, 3) := by decide +kernel
theorem dX12_init_222 : decode cX12_init 222 = .ok (.newarray .int, 2) := by decide +kernel
theorem dX12_init_224 : decode cX12_init 224 = .ok (.putfield 87, 3) := by decide +kernel
theorem dX12_init_227 : decode cX12_init 227 = .ok (.return_, 1) := by decide +kernel
theorem dX12_in_0 : decode cX12_in 0 = .ok (.iload_n 0, 1) := by decide +kernel
theorem dX12_in_1 : decode cX12_in 1 = .ok (.iload_n 1, 1) := by decide +kernel
theorem dX12_in_2 : decode cX12_in 2 = .ok (.if_icmp .lt 12, 3) := by decide +kernel
theorem dX12_in_5 : decode cX12_in 5 = .ok (.iload_n 0, 1) := by decide +kernel
theorem dX12_in_6 : decode cX12_in 6 = .ok (.iload_n 2, 1) := by decide +kernel
theorem dX12_in_7 : decode cX12_in 7 = .ok (.if_icmp .gt 7, 3) := by decide +kernel
theorem dX12_in_10 : decode cX12_in 10 = .ok (.iconst 1, 1) := by decide +kernel
theorem dX12_in_11 : decode cX12_in 11 = .ok (.goto 4, 3) := by decide +kernel
theorem dX12_in_14 : decode cX12_in 14 = .ok (.iconst 0, 1) := by decide +kernel
theorem dX12_in_15 : decode cX12_in 15 = .ok (.ireturn, 1) := by decide +kernel
theorem dX12_begins_0 : decode cX12_begins 0 = .ok (.aload_n 0, 1) := by decide +kernel
theorem dX12_begins_1 : decode cX12_begins 1 = .ok (.getfield 90, 3) := by decide +kernel
theorem dX12_begins_4 : decode cX12_begins 4 = .ok (.bipush 6, 2) := by decide +kernel
theorem dX12_begins_6 : decode cX12_begins 6 = .ok (.if_icmp .ne 6, 3) := by decide +kernel
theorem dX12_begins_9 : decode cX12_begins 9 = .ok (.bipush (-4), 2) := by decide +kernel
theorem dX12_begins_11 : decode cX12_begins 11 = .ok (.ireturn, 1) := by decide +kernel
theorem dX12_begins_12 : decode cX12_begins 12 = .ok (.aload_n 0, 1) := by decide +kernel
theorem dX12_begins_13 : decode cX12_begins 13 = .ok (.getfield 90, 3) := by decide +kernel
theorem dX12_begins_16 : decode cX12_begins 16 = .ok (.istore_n 3, 1) := by decide +kernel
theorem dX12_begins_17 : decode cX12_begins 17 = .ok (.aload_n 0, 1) := by decide +kernel
theorem dX12_begins_18 : decode cX12_begins 18 = .ok (.getfield 7, 3) := by decide +kernel
theorem dX12_begins_21 : decode cX12_begins 21 = .ok (.iload_n 3, 1) := by decide +kernel
theorem dX12_begins_22 : decode cX12_begins 22 = .ok (.iload_n 1, 1) := by decide +kernel
theorem dX12_begins_23 : decode cX12_begins 23 = .ok (.iastore, 1) := by decide +kernel
theorem dX12_begins_24 : decode cX12_begins 24 = .ok (.aload_n 0, 1) := by decide +kernel
theorem dX12_begins_25 : decode cX12_begins 25 = .ok (.getfield 13, 3) := by decide +kernel
theorem dX12_begins_28 : decode cX12_begins 28 = .ok (.iload_n 3, 1) := by decide +kernel
theorem dX12_begins_29 : decode cX12_begins 29 = .ok (.iload_n 2, 1) := by decide +kernel
theorem dX12_begins_30 : decode cX12_begins 30 = .ok (.iastore, 1) := by decide +kernel
theorem dX12_begins_31 : decode cX12_begins 31 = .ok (.iconst 0, 1) := by decide +kernel
theorem dX12_begins_32 : decode cX12_begins 32 = .ok (.istore 4, 2) := by decide +kernel
theorem dX12_begins_34 : decode cX12_begins 34 = .ok (.iload 4, 2) := by decide +kernel
theorem dX12_begins_36 : decode cX12_begins 36 = .ok (.bipush 48, 2) := by decide +kernel
theorem dX12_begins_38 : decode cX12_begins 38 = .ok (.if_icmp .ge 22, 3) := by decide +kernel
theorem dX12_begins_41 : decode cX12_begins 41 = .ok (.aload_n 0, 1) := by decide +kernel
theorem dX12_begins_42 : decode cX12_begins 42 = .ok (.getfield 16, 3) := by decide +kernel
theorem dX12_begins_45 : decode cX12_begins 45 = .ok (.bipush 48, 2) := by decide +kernel
theorem dX12_begins_47 : decode cX12_begins 47 = .ok (.iload_n 3, 1) := by decide +kernel
theorem dX12_begins_48 : decode cX12_begins 48 = .ok (.imul, 1) := by decide +kernel
theorem dX12_begins_49 : decode cX12_begins 49 = .ok (.iload 4, 2) := by decide +kernel
theorem dX12_begins_51 : decode cX12_begins 51 = .ok (.iadd, 1) := by decide +kernel
theorem dX12_begins_52 : decode cX12_begins 52 = .ok (.iconst (-1), 1) := by decide +kernel
theorem dX12_begins_53 : decode cX12_begins 53 = .ok (.iastore, 1) := by decide +kernel
theorem dX12_begins_54 : decode cX12_begins 54 = .ok (.iinc 4 1, 3) := by decide +kernel
theorem dX12_begins_57 : decode cX12_begins 57 = .ok (.goto (-23), 3) := by decide +kernel
theorem dX12_begins_60 : decode cX12_begins 60 = .ok (.iconst 0, 1) := by decide +kernel
theorem dX12_begins_61 : decode cX12_begins 61 = .ok (.istore 4, 2) := by decide +kernel
theorem dX12_begins_63 : decode cX12_begins 63 = .ok (.iload 4, 2) := by decide +kernel
theorem dX12_begins_65 : decode cX12_begins 65 = .ok (.bipush 12, 2) := by decide +kernel
theorem dX12_begins_67 : decode cX12_begins 67 = .ok (.if_icmp .ge 22, 3) := by decide +kernel
theorem dX12_begins_70 : decode cX12_begins 70 = .ok (.aload_n 0, 1) := by decide +kernel
theorem dX12_begins_71 : decode cX12_begins 71 = .ok (.getfield 19, 3) := by decide +kernel
theorem dX12_begins_74 : decode cX12_begins 74 = .ok (.bipush 12, 2) := by decide +kernel
theorem dX12_begins_76 : decode cX12_begins 76 = .ok (.iload_n 3, 1) := by decide +kernel
theorem dX12_begins_77 : decode cX12_begins 77 = .ok (.imul, 1) := by decide +kernel
theorem dX12_begins_78 : decode cX12_begins 78 = .ok (.iload 4, 2) := by decide +kernel
theorem dX12_begins_80 : decode cX12_begins 80 = .ok (.iadd, 1) := by decide +kernel
theorem dX12_begins_81 : decode cX12_begins 81 = .ok (.iconst 0, 1) := by decide +kernel
theorem dX12_begins_82 : decode cX12_begins 82 = .ok (.iastore, 1) := by decide +kernel
theorem dX12_begins_83 : decode cX12_begins 83 = .ok (.iinc 4 1, 3) := by decide +kernel
theorem dX12_begins_86 : decode cX12_begins 86 = .ok (.goto (-23), 3) := by decide +kernel
theorem dX12_begins_89 : decode cX12_begins 89 = .ok (.iconst 0, 1) := by decide +kernel
theorem dX12_begins_90 : decode cX12_begins 90 = .ok (.istore 4, 2) := by decide +kernel
theorem dX12_begins_92 : decode cX12_begins 92 = .ok (.iload 4, 2) := by decide +kernel
theorem dX12_begins_94 : decode cX12_begins 94 = .ok (.iconst 4, 1) := by decide +kernel
theorem dX12_begins_95 : decode cX12_begins 95 = .ok (.if_icmp .ge 33, 3) := by decide +kernel
theorem dX12_begins_98 : decode cX12_begins 98 = .ok (.aload_n 0, 1) := by decide +kernel
theorem dX12_begins_99 : decode cX12_begins 99 = .ok (.getfield 22, 3) := by decide +kernel
theorem dX12_begins_102 : decode cX12_begins 102 = .ok (.iconst 4, 1) := by decide +kernel
theorem dX12_begins_103 : decode cX12_begins 103 = .ok (.iload_n 3, 1) := by decide +kernel
theorem dX12_begins_104 : decode cX12_begins 104 = .ok (.imul, 1) := by decide +kernel
theorem dX12_begins_105 : decode cX12_begins 105 = .ok (.iload 4, 2) := by decide +kernel
theorem dX12_begins_107 : decode cX12_begins 107 = .ok (.iadd, 1) := by decide +kernel
theorem dX12_begins_108 : decode cX12_begins 108 = .ok (.iconst 1, 1) := by decide +kernel
theorem dX12_begins_109 : decode cX12_begins 109 = .ok (.iastore, 1) := by decide +kernel
theorem dX12_begins_110 : decode cX12_begins 110 = .ok (.aload_n 0, 1) := by decide +kernel
theorem dX12_begins_111 : decode cX12_begins 111 = .ok (.getfield 25, 3) := by decide +kernel
theorem dX12_begins_114 : decode cX12_begins 114 = .ok (.iconst 4, 1) := by decide +kernel
theorem dX12_begins_115 : decode cX12_begins 115 = .ok (.iload_n 3, 1) := by decide +kernel
theorem dX12_begins_116 : decode cX12_begins 116 = .ok (.imul, 1) := by decide +kernel
theorem dX12_begins_117 : decode cX12_begins 117 = .ok (.iload 4, 2) := by decide +kernel
theorem dX12_begins_119 : decode cX12_begins 119 = .ok (.iadd, 1) := by decide +kernel
theorem dX12_begins_120 : decode cX12_begins 120 = .ok (.iconst 1, 1) := by decide +kernel
theorem dX12_begins_121 : decode cX12_begins 121 = .ok (.iastore, 1) := by decide +kernel
theorem dX12_begins_122 : decode cX12_begins 122 = .ok (.iinc 4 1, 3) := by decide +kernel
theorem dX12_begins_125 : decode cX12_begins 125 = .ok (.goto (-33), 3) := by decide +kernel
theorem dX12_begins_128 : decode cX12_begins 128 = .ok (.aload_n 0, 1) := by decide +kernel
theorem dX12_begins_129 : decode cX12_begins 129 = .ok (.dup, 1) := by decide +kernel
theorem dX12_begins_130 : decode cX12_begins 130 = .ok (.getfield 90, 3) := by decide +kernel
theorem dX12_begins_133 : decode cX12_begins 133 = .ok (.iconst 1, 1) := by decide +kernel
theorem dX12_begins_134 : decode cX12_begins 134 = .ok (.iadd, 1) := by decide +kernel
theorem dX12_begins_135 : decode cX12_begins 135 = .ok (.putfield 90, 3) := by decide +kernel
theorem dX12_begins_138 : decode cX12_begins 138 = .ok (.iload_n 3, 1) := by decide +kernel
theorem dX12_begins_139 : decode cX12_begins 139 = .ok (.ireturn, 1) := by decide +kernel
set_option maxRecDepth 20000 in
theorem ggX12_machine_X12_in : GoodIn wsX12_machine wsX12_in := goodIn_r _ [4] (by decide +kernel) (by decide +kernel)
set_option maxRecDepth 20000 in
theorem gX12_machine_X12_in : GoodIn wsX12_machine (va_wsS RX12 94 yX12_in wsX12_in) := goodIn_app (goodIn_of _ (by decide +kernel)) ggX12_machine_X12_in
set_option maxRecDepth 20000 in
theorem ggX12_machine_X12_begins : GoodIn wsX12_machine wsX12_begins := goodIn_r _ [8, 9, 10, 11, 12, 13, 14, 15, 16, 17, 18, 19, 20, 21, 22, 23, 24, 25, 26, 27, 28, 29, 30, 31, 32, 33, 34, 35, 36, 37, 38, 39, 40, 41, 42, 43, 44, 45] (by decide +kernel) (by decide +kernel)
set_option maxRecDepth 20000 in
theorem gX12_machine_X12_begins : GoodIn wsX12_machine (wsV RX12 98 RX12 yX12_begins wsX12_begins) := goodIn_app (goodIn_of _ (by decide +kernel)) ggX12_machine_X12_begins
theorem dX12_machine_0 : decode cX12_machine 0 = .ok (.iload_n 1, 1) := by decide +kernel
theorem dX12_machine_1 : decode cX12_machine 1 = .ok (.iconst 1, 1) := by decide +kernel
theorem dX12_machine_2 : decode cX12_machine 2 = .ok (.bipush 12, 2) := by decide +kernel
theorem dX12_machine_4 : decode cX12_machine 4 = .ok (.invokestatic 94, 3) := by decide +kernel
theorem dX12_machine_7 : decode cX12_machine 7 = .ok (.ifCond .eq 12, 3) := by decide +kernel
theorem dX12_machine_10 : decode cX12_machine 10 = .ok (.iload_n 2, 1) := by decide +kernel
theorem dX12_machine_11 : decode cX12_machine 11 = .ok (.iconst 1, 1) := by decide +kernel
theorem dX12_machine_12 : decode cX12_machine 12 = .ok (.iconst 4, 1) := by decide +kernel
theorem dX12_machine_13 : decode cX12_machine 13 = .ok (.invokestatic 94, 3) := by decide +kernel
theorem dX12_machine_16 : decode cX12_machine 16 = .ok (.ifCond .ne 8, 3) := by decide +kernel
theorem dX12_machine_19 : decode cX12_machine 19 = .ok (.bipush (-2), 2) := by decide +kernel
theorem dX12_machine_21 : decode cX12_machine 21 = .ok (.goto 9, 3) := by decide +kernel
theorem dX12_machine_24 : decode cX12_machine 24 = .ok (.aload_n 0, 1) := by decide +kernel
theorem dX12_machine_25 : decode cX12_machine 25 = .ok (.iload_n 1, 1) := by decide +kernel
theorem dX12_machine_26 : decode cX12_machine 26 = .ok (.iload_n 2, 1) := by decide +kernel
theorem dX12_machine_27 : decode cX12_machine 27 = .ok (.invokevirtual 98, 3) := by decide +kernel
theorem dX12_machine_30 : decode cX12_machine 30 = .ok (.ireturn, 1) := by decide +kernel
theorem dX12_at_0 : decode cX12_at 0 = .ok (.bipush 48, 2) := by decide +kernel
theorem dX12_at_2 : decode cX12_at 2 = .ok (.iload_n 0, 1) := by decide +kernel
theorem dX12_at_3 : decode cX12_at 3 = .ok (.imul, 1) := by decide +kernel
theorem dX12_at_4 : decode cX12_at 4 = .ok (.iconst 4, 1) := by decide +kernel
theorem dX12_at_5 : decode cX12_at 5 = .ok (.iload_n 1, 1) := by decide +kernel
theorem dX12_at_6 : decode cX12_at 6 = .ok (.imul, 1) := by decide +kernel
theorem dX12_at_7 : decode cX12_at 7 = .ok (.iadd, 1) := by decide +kernel
theorem dX12_at_8 : decode cX12_at 8 = .ok (.iload_n 2, 1) := by decide +kernel
theorem dX12_at_9 : decode cX12_at 9 = .ok (.iadd, 1) := by decide +kernel
theorem dX12_at_10 : decode cX12_at 10 = .ok (.ireturn, 1) := by decide +kernel
set_option maxRecDepth 20000 in
theorem ggX12_ring_X12_in : GoodIn wsX12_ring wsX12_in := goodIn_r _ [5] (by decide +kernel) (by decide +kernel)
set_option maxRecDepth 20000 in
theorem gX12_ring_X12_in : GoodIn wsX12_ring (va_wsS RX12 94 yX12_in wsX12_in) := goodIn_app (goodIn_of _ (by decide +kernel)) ggX12_ring_X12_in
set_option maxRecDepth 20000 in
theorem ggX12_ring_X12_begins : GoodIn wsX12_ring wsX12_begins := goodIn_r _ [9, 10, 11, 12, 1, 13, 14, 15, 19, 20, 21, 22, 23, 24, 25, 26, 27, 28, 29, 30, 31, 32, 33, 34, 35, 36, 37, 38, 39, 40, 41, 42, 43, 44, 45, 46, 47, 48] (by decide +kernel) (by decide +kernel)
set_option maxRecDepth 20000 in
theorem gX12_ring_X12_begins : GoodIn wsX12_ring (wsV RX12 98 RX12 yX12_begins wsX12_begins) := goodIn_app (goodIn_of _ (by decide +kernel)) ggX12_ring_X12_begins
set_option maxRecDepth 20000 in
theorem ggX12_ring_X12_at : GoodIn wsX12_ring wsX12_at := goodIn_r _ [18] (by decide +kernel) (by decide +kernel)
set_option maxRecDepth 20000 in
theorem gX12_ring_X12_at : GoodIn wsX12_ring (va_wsS RX12 102 yX12_at wsX12_at) := goodIn_app (goodIn_of _ (by decide +kernel)) ggX12_ring_X12_at
theorem dX12_ring_0 : decode cX12_ring 0 = .ok (.iload_n 1, 1) := by decide +kernel
theorem dX12_ring_1 : decode cX12_ring 1 = .ok (.iconst 2, 1) := by decide +kernel
theorem dX12_ring_2 : decode cX12_ring 2 = .ok (.bipush 12, 2) := by decide +kernel
theorem dX12_ring_4 : decode cX12_ring 4 = .ok (.invokestatic 94, 3) := by decide +kernel
theorem dX12_ring_7 : decode cX12_ring 7 = .ok (.ifCond .ne 6, 3) := by decide +kernel
theorem dX12_ring_10 : decode cX12_ring 10 = .ok (.bipush (-2), 2) := by decide +kernel
theorem dX12_ring_12 : decode cX12_ring 12 = .ok (.ireturn, 1) := by decide +kernel
theorem dX12_ring_13 : decode cX12_ring 13 = .ok (.aload_n 0, 1) := by decide +kernel
theorem dX12_ring_14 : decode cX12_ring 14 = .ok (.iload_n 1, 1) := by decide +kernel
theorem dX12_ring_15 : decode cX12_ring 15 = .ok (.iconst 2, 1) := by decide +kernel
theorem dX12_ring_16 : decode cX12_ring 16 = .ok (.invokevirtual 98, 3) := by decide +kernel
theorem dX12_ring_19 : decode cX12_ring 19 = .ok (.istore_n 2, 1) := by decide +kernel
theorem dX12_ring_20 : decode cX12_ring 20 = .ok (.iconst 0, 1) := by decide +kernel
theorem dX12_ring_21 : decode cX12_ring 21 = .ok (.istore_n 3, 1) := by decide +kernel
theorem dX12_ring_22 : decode cX12_ring 22 = .ok (.iload_n 3, 1) := by decide +kernel
theorem dX12_ring_23 : decode cX12_ring 23 = .ok (.iload_n 1, 1) := by decide +kernel
theorem dX12_ring_24 : decode cX12_ring 24 = .ok (.if_icmp .ge 52, 3) := by decide +kernel
theorem dX12_ring_27 : decode cX12_ring 27 = .ok (.iload_n 2, 1) := by decide +kernel
theorem dX12_ring_28 : decode cX12_ring 28 = .ok (.ifCond .lt 48, 3) := by decide +kernel
theorem dX12_ring_31 : decode cX12_ring 31 = .ok (.aload_n 0, 1) := by decide +kernel
theorem dX12_ring_32 : decode cX12_ring 32 = .ok (.getfield 16, 3) := by decide +kernel
theorem dX12_ring_35 : decode cX12_ring 35 = .ok (.iload_n 2, 1) := by decide +kernel
theorem dX12_ring_36 : decode cX12_ring 36 = .ok (.iload_n 3, 1) := by decide +kernel
theorem dX12_ring_37 : decode cX12_ring 37 = .ok (.iconst 0, 1) := by decide +kernel
theorem dX12_ring_38 : decode cX12_ring 38 = .ok (.invokestatic 102, 3) := by decide +kernel
theorem dX12_ring_41 : decode cX12_ring 41 = .ok (.iload_n 3, 1) := by decide +kernel
theorem dX12_ring_42 : decode cX12_ring 42 = .ok (.iconst 1, 1) := by decide +kernel
theorem dX12_ring_43 : decode cX12_ring 43 = .ok (.iadd, 1) := by decide +kernel
theorem dX12_ring_44 : decode cX12_ring 44 = .ok (.iload_n 1, 1) := by decide +kernel
theorem dX12_ring_45 : decode cX12_ring 45 = .ok (.irem, 1) := by decide +kernel
theorem dX12_ring_46 : decode cX12_ring 46 = .ok (.iastore, 1) := by decide +kernel
theorem dX12_ring_47 : decode cX12_ring 47 = .ok (.aload_n 0, 1) := by decide +kernel
theorem dX12_ring_48 : decode cX12_ring 48 = .ok (.getfield 16, 3) := by decide +kernel
theorem dX12_ring_51 : decode cX12_ring 51 = .ok (.iload_n 2, 1) := by decide +kernel
theorem dX12_ring_52 : decode cX12_ring 52 = .ok (.iload_n 3, 1) := by decide +kernel
theorem dX12_ring_53 : decode cX12_ring 53 = .ok (.iconst 1, 1) := by decide +kernel
theorem dX12_ring_54 : decode cX12_ring 54 = .ok (.invokestatic 102, 3) := by decide +kernel
theorem dX12_ring_57 : decode cX12_ring 57 = .ok (.iload_n 3, 1) := by decide +kernel
theorem dX12_ring_58 : decode cX12_ring 58 = .ok (.iload_n 1, 1) := by decide +kernel
theorem dX12_ring_59 : decode cX12_ring 59 = .ok (.iconst 1, 1) := by decide +kernel
theorem dX12_ring_60 : decode cX12_ring 60 = .ok (.isub, 1) := by decide +kernel
theorem dX12_ring_61 : decode cX12_ring 61 = .ok (.if_icmp .ne 7, 3) := by decide +kernel
theorem dX12_ring_64 : decode cX12_ring 64 = .ok (.iconst 0, 1) := by decide +kernel
theorem dX12_ring_65 : decode cX12_ring 65 = .ok (.goto 4, 3) := by decide +kernel
theorem dX12_ring_68 : decode cX12_ring 68 = .ok (.iload_n 3, 1) := by decide +kernel
theorem dX12_ring_69 : decode cX12_ring 69 = .ok (.iastore, 1) := by decide +kernel
theorem dX12_ring_70 : decode cX12_ring 70 = .ok (.iinc 3 1, 3) := by decide +kernel
theorem dX12_ring_73 : decode cX12_ring 73 = .ok (.goto (-51), 3) := by decide +kernel
theorem dX12_ring_76 : decode cX12_ring 76 = .ok (.iload_n 2, 1) := by decide +kernel
theorem dX12_ring_77 : decode cX12_ring 77 = .ok (.ireturn, 1) := by decide +kernel
set_option maxRecDepth 20000 in
theorem ggX12_isMachine_X12_in : GoodIn wsX12_isMachine wsX12_in := goodIn_r _ [5] (by decide +kernel) (by decide +kernel)
set_option maxRecDepth 20000 in
theorem gX12_isMachine_X12_in : GoodIn wsX12_isMachine (va_wsS RX12 94 yX12_in wsX12_in) := goodIn_app (goodIn_of _ (by decide +kernel)) ggX12_isMachine_X12_in
theorem dX12_isMachine_0 : decode cX12_isMachine 0 = .ok (.iload_n 1, 1) := by decide +kernel
theorem dX12_isMachine_1 : decode cX12_isMachine 1 = .ok (.iconst 0, 1) := by decide +kernel
theorem dX12_isMachine_2 : decode cX12_isMachine 2 = .ok (.aload_n 0, 1) := by decide +kernel
theorem dX12_isMachine_3 : decode cX12_isMachine 3 = .ok (.getfield 90, 3) := by decide +kernel
theorem dX12_isMachine_6 : decode cX12_isMachine 6 = .ok (.iconst 1, 1) := by decide +kernel
theorem dX12_isMachine_7 : decode cX12_isMachine 7 = .ok (.isub, 1) := by decide +kernel
theorem dX12_isMachine_8 : decode cX12_isMachine 8 = .ok (.invokestatic 94, 3) := by decide +kernel
theorem dX12_isMachine_11 : decode cX12_isMachine 11 = .ok (.ireturn, 1) := by decide +kernel
set_option maxRecDepth 20000 in
theorem ggX12_isState_X12_isMachine : GoodIn wsX12_isState wsX12_isMachine := goodIn_r _ [6, 7, 8, 9, 5, 10, 11, 12, 13, 14, 15, 16, 17, 18, 19, 20, 21, 22, 23, 24, 25, 26, 27, 28, 29, 30, 31, 32, 33, 34, 35, 36, 37, 38, 39, 40] (by decide +kernel) (by decide +kernel)
set_option maxRecDepth 20000 in
theorem gX12_isState_X12_isMachine : GoodIn wsX12_isState (wsV RX12 106 RX12 yX12_isMachine wsX12_isMachine) := goodIn_app (goodIn_of _ (by decide +kernel)) ggX12_isState_X12_isMachine
set_option maxRecDepth 20000 in
theorem ggX12_isState_X12_in : GoodIn wsX12_isState wsX12_in := goodIn_r _ [10] (by decide +kernel) (by decide +kernel)
set_option maxRecDepth 20000 in
theorem gX12_isState_X12_in : GoodIn wsX12_isState (va_wsS RX12 94 yX12_in wsX12_in) := goodIn_app (goodIn_of _ (by decide +kernel)) ggX12_isState_X12_in
theorem dX12_isState_0 : decode cX12_isState 0 = .ok (.aload_n 0, 1) := by decide +kernel
theorem dX12_isState_1 : decode cX12_isState 1 = .ok (.iload_n 1, 1) := by decide +kernel
theorem dX12_isState_2 : decode cX12_isState 2 = .ok (.invokevirtual 106, 3) := by decide +kernel
theorem dX12_isState_5 : decode cX12_isState 5 = .ok (.ifCond .eq 23, 3) := by decide +kernel
theorem dX12_isState_8 : decode cX12_isState 8 = .ok (.iload_n 2, 1) := by decide +kernel
theorem dX12_isState_9 : decode cX12_isState 9 = .ok (.iconst 0, 1) := by decide +kernel
theorem dX12_isState_10 : decode cX12_isState 10 = .ok (.aload_n 0, 1) := by decide +kernel
theorem dX12_isState_11 : decode cX12_isState 11 = .ok (.getfield 7, 3) := by decide +kernel
theorem dX12_isState_14 : decode cX12_isState 14 = .ok (.iload_n 1, 1) := by decide +kernel
theorem dX12_isState_15 : decode cX12_isState 15 = .ok (.iaload, 1) := by decide +kernel
theorem dX12_isState_16 : decode cX12_isState 16 = .ok (.iconst 1, 1) := by decide +kernel
theorem dX12_isState_17 : decode cX12_isState 17 = .ok (.isub, 1) := by decide +kernel
theorem dX12_isState_18 : decode cX12_isState 18 = .ok (.invokestatic 94, 3) := by decide +kernel
theorem dX12_isState_21 : decode cX12_isState 21 = .ok (.ifCond .eq 7, 3) := by decide +kernel
theorem dX12_isState_24 : decode cX12_isState 24 = .ok (.iconst 1, 1) := by decide +kernel
theorem dX12_isState_25 : decode cX12_isState 25 = .ok (.goto 4, 3) := by decide +kernel
theorem dX12_isState_28 : decode cX12_isState 28 = .ok (.iconst 0, 1) := by decide +kernel
theorem dX12_isState_29 : decode cX12_isState 29 = .ok (.ireturn, 1) := by decide +kernel
set_option maxRecDepth 20000 in
theorem ggX12_isLetter_X12_isMachine : GoodIn wsX12_isLetter wsX12_isMachine := goodIn_r _ [6, 7, 8, 9, 5, 10, 11, 12, 13, 14, 15, 16, 17, 18, 19, 20, 21, 22, 23, 24, 25, 26, 27, 28, 29, 30, 31, 32, 33, 34, 35, 36, 37, 38, 39, 40] (by decide +kernel) (by decide +kernel)
set_option maxRecDepth 20000 in
theorem gX12_isLetter_X12_isMachine : GoodIn wsX12_isLetter (wsV RX12 106 RX12 yX12_isMachine wsX12_isMachine) := goodIn_app (goodIn_of _ (by decide +kernel)) ggX12_isLetter_X12_isMachine
set_option maxRecDepth 20000 in
theorem ggX12_isLetter_X12_in : GoodIn wsX12_isLetter wsX12_in := goodIn_r _ [10] (by decide +kernel) (by decide +kernel)
set_option maxRecDepth 20000 in
theorem gX12_isLetter_X12_in : GoodIn wsX12_isLetter (va_wsS RX12 94 yX12_in wsX12_in) := goodIn_app (goodIn_of _ (by decide +kernel)) ggX12_isLetter_X12_in
theorem dX12_isLetter_0 : decode cX12_isLetter 0 = .ok (.aload_n 0, 1) := by decide +kernel
theorem dX12_isLetter_1 : decode cX12_isLetter 1 = .ok (.iload_n 1, 1) := by decide +kernel
theorem dX12_isLetter_2 : decode cX12_isLetter 2 = .ok (.invokevirtual 106, 3) := by decide +kernel
theorem dX12_isLetter_5 : decode cX12_isLetter 5 = .ok (.ifCond .eq 23, 3) := by decide +kernel
theorem dX12_isLetter_8 : decode cX12_isLetter 8 = .ok (.iload_n 2, 1) := by decide +kernel
theorem dX12_isLetter_9 : decode cX12_isLetter 9 = .ok (.iconst 0, 1) := by decide +kernel
theorem dX12_isLetter_10 : decode cX12_isLetter 10 = .ok (.aload_n 0, 1) := by decide +kernel
theorem dX12_isLetter_11 : decode cX12_isLetter 11 = .ok (.getfield 13, 3) := by decide +kernel
theorem dX12_isLetter_14 : decode cX12_isLetter 14 = .ok (.iload_n 1, 1) := by decide +kernel
theorem dX12_isLetter_15 : decode cX12_isLetter 15 = .ok (.iaload, 1) := by decide +kernel
theorem dX12_isLetter_16 : decode cX12_isLetter 16 = .ok (.iconst 1, 1) := by decide +kernel
theorem dX12_isLetter_17 : decode cX12_isLetter 17 = .ok (.isub, 1) := by decide +kernel
theorem dX12_isLetter_18 : decode cX12_isLetter 18 = .ok (.invokestatic 94, 3) := by decide +kernel
theorem dX12_isLetter_21 : decode cX12_isLetter 21 = .ok (.ifCond .eq 7, 3) := by decide +kernel
theorem dX12_isLetter_24 : decode cX12_isLetter 24 = .ok (.iconst 1, 1) := by decide +kernel
theorem dX12_isLetter_25 : decode cX12_isLetter 25 = .ok (.goto 4, 3) := by decide +kernel
theorem dX12_isLetter_28 : decode cX12_isLetter 28 = .ok (.iconst 0, 1) := by decide +kernel
theorem dX12_isLetter_29 : decode cX12_isLetter 29 = .ok (.ireturn, 1) := by decide +kernel
set_option maxRecDepth 20000 in
theorem ggX12_isSet_X12_isMachine : GoodIn wsX12_isSet wsX12_isMachine := goodIn_r _ [6, 7, 8, 9, 5, 10, 11, 12, 13, 14, 15, 16, 17, 18, 19, 20, 21, 22, 23, 24, 25, 26, 27, 28, 29, 30, 31, 32, 33, 34, 35, 36, 37, 38, 39, 40] (by decide +kernel) (by decide +kernel)
set_option maxRecDepth 20000 in
theorem gX12_isSet_X12_isMachine : GoodIn wsX12_isSet (wsV RX12 106 RX12 yX12_isMachine wsX12_isMachine) := goodIn_app (goodIn_of _ (by decide +kernel)) ggX12_isSet_X12_isMachine
set_option maxRecDepth 20000 in
theorem ggX12_isSet_X12_in : GoodIn wsX12_isSet wsX12_in := goodIn_r _ [10] (by decide +kernel) (by decide +kernel)
set_option maxRecDepth 20000 in
theorem gX12_isSet_X12_in : GoodIn wsX12_isSet (va_wsS RX12 94 yX12_in wsX12_in) := goodIn_app (goodIn_of _ (by decide +kernel)) ggX12_isSet_X12_in
theorem dX12_isSet_0 : decode cX12_isSet 0 = .ok (.aload_n 0, 1) := by decide +kernel
theorem dX12_isSet_1 : decode cX12_isSet 1 = .ok (.iload_n 1, 1) := by decide +kernel
theorem dX12_isSet_2 : decode cX12_isSet 2 = .ok (.invokevirtual 106, 3) := by decide +kernel
theorem dX12_isSet_5 : decode cX12_isSet 5 = .ok (.ifCond .eq 25, 3) := by decide +kernel
theorem dX12_isSet_8 : decode cX12_isSet 8 = .ok (.iload_n 2, 1) := by decide +kernel
theorem dX12_isSet_9 : decode cX12_isSet 9 = .ok (.iconst 1, 1) := by decide +kernel
theorem dX12_isSet_10 : decode cX12_isSet 10 = .ok (.iconst 1, 1) := by decide +kernel
theorem dX12_isSet_11 : decode cX12_isSet 11 = .ok (.aload_n 0, 1) := by decide +kernel
theorem dX12_isSet_12 : decode cX12_isSet 12 = .ok (.getfield 7, 3) := by decide +kernel
theorem dX12_isSet_15 : decode cX12_isSet 15 = .ok (.iload_n 1, 1) := by decide +kernel
theorem dX12_isSet_16 : decode cX12_isSet 16 = .ok (.iaload, 1) := by decide +kernel
theorem dX12_isSet_17 : decode cX12_isSet 17 = .ok (.ishl, 1) := by decide +kernel
theorem dX12_isSet_18 : decode cX12_isSet 18 = .ok (.iconst 1, 1) := by decide +kernel
theorem dX12_isSet_19 : decode cX12_isSet 19 = .ok (.isub, 1) := by decide +kernel
theorem dX12_isSet_20 : decode cX12_isSet 20 = .ok (.invokestatic 94, 3) := by decide +kernel
theorem dX12_isSet_23 : decode cX12_isSet 23 = .ok (.ifCond .eq 7, 3) := by decide +kernel
theorem dX12_isSet_26 : decode cX12_isSet 26 = .ok (.iconst 1, 1) := by decide +kernel
theorem dX12_isSet_27 : decode cX12_isSet 27 = .ok (.goto 4, 3) := by decide +kernel
theorem dX12_isSet_30 : decode cX12_isSet 30 = .ok (.iconst 0, 1) := by decide +kernel
theorem dX12_isSet_31 : decode cX12_isSet 31 = .ok (.ireturn, 1) := by decide +kernel
set_option maxRecDepth 20000 in
theorem ggX12_move_X12_isState : GoodIn wsX12_move wsX12_isState := goodIn_r _ [6, 7, 8, 9, 10, 5, 11, 12, 13, 14, 15, 24, 25, 26, 27, 28, 29, 30, 31, 32, 33, 34, 35, 36, 37, 38, 39, 40, 41, 42, 43, 44, 45, 46, 47, 48, 49, 50, 51, 52, 53] (by decide +kernel) (by decide +kernel)
set_option maxRecDepth 20000 in
theorem gX12_move_X12_isState : GoodIn wsX12_move (wsV RX12 110 RX12 yX12_isState wsX12_isState) := goodIn_app (goodIn_of _ (by decide +kernel)) ggX12_move_X12_isState
set_option maxRecDepth 20000 in
theorem ggX12_move_X12_isLetter : GoodIn wsX12_move wsX12_isLetter := goodIn_r _ [19, 20, 8, 9, 10, 5, 11, 12, 13, 14, 15, 24, 25, 26, 27, 28, 29, 30, 31, 32, 33, 34, 35, 36, 37, 38, 39, 40, 41, 42, 43, 44, 45, 46, 47, 48, 49, 50, 51, 52, 53] (by decide +kernel) (by decide +kernel)
set_option maxRecDepth 20000 in
theorem gX12_move_X12_isLetter : GoodIn wsX12_move (wsV RX12 114 RX12 yX12_isLetter wsX12_isLetter) := goodIn_app (goodIn_of _ (by decide +kernel)) ggX12_move_X12_isLetter
set_option maxRecDepth 20000 in
theorem ggX12_move_X12_at : GoodIn wsX12_move wsX12_at := goodIn_r _ [23] (by decide +kernel) (by decide +kernel)
set_option maxRecDepth 20000 in
theorem gX12_move_X12_at : GoodIn wsX12_move (va_wsS RX12 102 yX12_at wsX12_at) := goodIn_app (goodIn_of _ (by decide +kernel)) ggX12_move_X12_at
theorem dX12_move_0 : decode cX12_move 0 = .ok (.aload_n 0, 1) := by decide +kernel
theorem dX12_move_1 : decode cX12_move 1 = .ok (.iload_n 1, 1) := by decide +kernel
theorem dX12_move_2 : decode cX12_move 2 = .ok (.iload_n 2, 1) := by decide +kernel
theorem dX12_move_3 : decode cX12_move 3 = .ok (.invokevirtual 110, 3) := by decide +kernel
theorem dX12_move_6 : decode cX12_move 6 = .ok (.ifCond .eq 28, 3) := by decide +kernel
theorem dX12_move_9 : decode cX12_move 9 = .ok (.aload_n 0, 1) := by decide +kernel
theorem dX12_move_10 : decode cX12_move 10 = .ok (.iload_n 1, 1) := by decide +kernel
theorem dX12_move_11 : decode cX12_move 11 = .ok (.iload_n 3, 1) := by decide +kernel
theorem dX12_move_12 : decode cX12_move 12 = .ok (.invokevirtual 114, 3) := by decide +kernel
theorem dX12_move_15 : decode cX12_move 15 = .ok (.ifCond .eq 19, 3) := by decide +kernel
theorem dX12_move_18 : decode cX12_move 18 = .ok (.iload 4, 2) := by decide +kernel
theorem dX12_move_20 : decode cX12_move 20 = .ok (.iconst (-1), 1) := by decide +kernel
theorem dX12_move_21 : decode cX12_move 21 = .ok (.if_icmp .eq 16, 3) := by decide +kernel
theorem dX12_move_24 : decode cX12_move 24 = .ok (.aload_n 0, 1) := by decide +kernel
theorem dX12_move_25 : decode cX12_move 25 = .ok (.iload_n 1, 1) := by decide +kernel
theorem dX12_move_26 : decode cX12_move 26 = .ok (.iload 4, 2) := by decide +kernel
theorem dX12_move_28 : decode cX12_move 28 = .ok (.invokevirtual 110, 3) := by decide +kernel
theorem dX12_move_31 : decode cX12_move 31 = .ok (.ifCond .ne 6, 3) := by decide +kernel
theorem dX12_move_34 : decode cX12_move 34 = .ok (.bipush (-2), 2) := by decide +kernel
theorem dX12_move_36 : decode cX12_move 36 = .ok (.ireturn, 1) := by decide +kernel
theorem dX12_move_37 : decode cX12_move 37 = .ok (.aload_n 0, 1) := by decide +kernel
theorem dX12_move_38 : decode cX12_move 38 = .ok (.getfield 16, 3) := by decide +kernel
theorem dX12_move_41 : decode cX12_move 41 = .ok (.iload_n 1, 1) := by decide +kernel
theorem dX12_move_42 : decode cX12_move 42 = .ok (.iload_n 2, 1) := by decide +kernel
theorem dX12_move_43 : decode cX12_move 43 = .ok (.iload_n 3, 1) := by decide +kernel
theorem dX12_move_44 : decode cX12_move 44 = .ok (.invokestatic 102, 3) := by decide +kernel
theorem dX12_move_47 : decode cX12_move 47 = .ok (.iaload, 1) := by decide +kernel
theorem dX12_move_48 : decode cX12_move 48 = .ok (.istore 5, 2) := by decide +kernel
theorem dX12_move_50 : decode cX12_move 50 = .ok (.aload_n 0, 1) := by decide +kernel
theorem dX12_move_51 : decode cX12_move 51 = .ok (.getfield 16, 3) := by decide +kernel
theorem dX12_move_54 : decode cX12_move 54 = .ok (.iload_n 1, 1) := by decide +kernel
theorem dX12_move_55 : decode cX12_move 55 = .ok (.iload_n 2, 1) := by decide +kernel
theorem dX12_move_56 : decode cX12_move 56 = .ok (.iload_n 3, 1) := by decide +kernel
theorem dX12_move_57 : decode cX12_move 57 = .ok (.invokestatic 102, 3) := by decide +kernel
theorem dX12_move_60 : decode cX12_move 60 = .ok (.iload 4, 2) := by decide +kernel
theorem dX12_move_62 : decode cX12_move 62 = .ok (.iastore, 1) := by decide +kernel
theorem dX12_move_63 : decode cX12_move 63 = .ok (.iload 5, 2) := by decide +kernel
theorem dX12_move_65 : decode cX12_move 65 = .ok (.ireturn, 1) := by decide +kernel
set_option maxRecDepth 20000 in
theorem ggX12_light_X12_isState : GoodIn wsX12_light wsX12_isState := goodIn_r _ [6, 7, 8, 9, 10, 5, 11, 12, 13, 14, 15, 16, 17, 18, 19, 20, 21, 22, 23, 24, 25, 26, 27, 28, 29, 30, 31, 32, 33, 34, 35, 36, 37, 38, 39, 40, 41, 42, 43, 44, 45] (by decide +kernel) (by decide +kernel)
set_option maxRecDepth 20000 in
theorem gX12_light_X12_isState : GoodIn wsX12_light (wsV RX12 110 RX12 yX12_isState wsX12_isState) := goodIn_app (goodIn_of _ (by decide +kernel)) ggX12_light_X12_isState
set_option maxRecDepth 20000 in
theorem ggX12_light_X12_in : GoodIn wsX12_light wsX12_in := goodIn_r _ [15] (by decide +kernel) (by decide +kernel)
set_option maxRecDepth 20000 in
theorem gX12_light_X12_in : GoodIn wsX12_light (va_wsS RX12 94 yX12_in wsX12_in) := goodIn_app (goodIn_of _ (by decide +kernel)) ggX12_light_X12_in
theorem dX12_light_0 : decode cX12_light 0 = .ok (.aload_n 0, 1) := by decide +kernel
theorem dX12_light_1 : decode cX12_light 1 = .ok (.iload_n 1, 1) := by decide +kernel
theorem dX12_light_2 : decode cX12_light 2 = .ok (.iload_n 2, 1) := by decide +kernel
theorem dX12_light_3 : decode cX12_light 3 = .ok (.invokevirtual 110, 3) := by decide +kernel
theorem dX12_light_6 : decode cX12_light 6 = .ok (.ifCond .eq 12, 3) := by decide +kernel
theorem dX12_light_9 : decode cX12_light 9 = .ok (.iload_n 3, 1) := by decide +kernel
theorem dX12_light_10 : decode cX12_light 10 = .ok (.iconst 0, 1) := by decide +kernel
theorem dX12_light_11 : decode cX12_light 11 = .ok (.iconst 3, 1) := by decide +kernel
theorem dX12_light_12 : decode cX12_light 12 = .ok (.invokestatic 94, 3) := by decide +kernel
theorem dX12_light_15 : decode cX12_light 15 = .ok (.ifCond .ne 6, 3) := by decide +kernel
theorem dX12_light_18 : decode cX12_light 18 = .ok (.bipush (-2), 2) := by decide +kernel
theorem dX12_light_20 : decode cX12_light 20 = .ok (.ireturn, 1) := by decide +kernel
theorem dX12_light_21 : decode cX12_light 21 = .ok (.aload_n 0, 1) := by decide +kernel
theorem dX12_light_22 : decode cX12_light 22 = .ok (.getfield 19, 3) := by decide +kernel
theorem dX12_light_25 : decode cX12_light 25 = .ok (.bipush 12, 2) := by decide +kernel
theorem dX12_light_27 : decode cX12_light 27 = .ok (.iload_n 1, 1) := by decide +kernel
theorem dX12_light_28 : decode cX12_light 28 = .ok (.imul, 1) := by decide +kernel
theorem dX12_light_29 : decode cX12_light 29 = .ok (.iload_n 2, 1) := by decide +kernel
theorem dX12_light_30 : decode cX12_light 30 = .ok (.iadd, 1) := by decide +kernel
theorem dX12_light_31 : decode cX12_light 31 = .ok (.iaload, 1) := by decide +kernel
theorem dX12_light_32 : decode cX12_light 32 = .ok (.istore 4, 2) := by decide +kernel
theorem dX12_light_34 : decode cX12_light 34 = .ok (.aload_n 0, 1) := by decide +kernel
theorem dX12_light_35 : decode cX12_light 35 = .ok (.getfield 19, 3) := by decide +kernel
theorem dX12_light_38 : decode cX12_light 38 = .ok (.bipush 12, 2) := by decide +kernel
theorem dX12_light_40 : decode cX12_light 40 = .ok (.iload_n 1, 1) := by decide +kernel
theorem dX12_light_41 : decode cX12_light 41 = .ok (.imul, 1) := by decide +kernel
theorem dX12_light_42 : decode cX12_light 42 = .ok (.iload_n 2, 1) := by decide +kernel
theorem dX12_light_43 : decode cX12_light 43 = .ok (.iadd, 1) := by decide +kernel
theorem dX12_light_44 : decode cX12_light 44 = .ok (.iload_n 3, 1) := by decide +kernel
theorem dX12_light_45 : decode cX12_light 45 = .ok (.iastore, 1) := by decide +kernel
theorem dX12_light_46 : decode cX12_light 46 = .ok (.iload 4, 2) := by decide +kernel
theorem dX12_light_48 : decode cX12_light 48 = .ok (.ireturn, 1) := by decide +kernel
set_option maxRecDepth 20000 in
theorem ggX12_price_X12_isLetter : GoodIn wsX12_price wsX12_isLetter := goodIn_r _ [6, 7, 8, 9, 10, 5, 11, 12, 13, 14, 15, 16, 17, 18, 19, 20, 21, 22, 23, 24, 25, 26, 27, 28, 29, 30, 31, 32, 33, 34, 35, 36, 37, 38, 39, 40, 41, 42, 43, 44, 45] (by decide +kernel) (by decide +kernel)
set_option maxRecDepth 20000 in
theorem gX12_price_X12_isLetter : GoodIn wsX12_price (wsV RX12 114 RX12 yX12_isLetter wsX12_isLetter) := goodIn_app (goodIn_of _ (by decide +kernel)) ggX12_price_X12_isLetter
set_option maxRecDepth 20000 in
theorem ggX12_price_X12_in : GoodIn wsX12_price wsX12_in := goodIn_r _ [15] (by decide +kernel) (by decide +kernel)
set_option maxRecDepth 20000 in
theorem gX12_price_X12_in : GoodIn wsX12_price (va_wsS RX12 94 yX12_in wsX12_in) := goodIn_app (goodIn_of _ (by decide +kernel)) ggX12_price_X12_in
theorem dX12_price_0 : decode cX12_price 0 = .ok (.aload_n 0, 1) := by decide +kernel
theorem dX12_price_1 : decode cX12_price 1 = .ok (.iload_n 1, 1) := by decide +kernel
theorem dX12_price_2 : decode cX12_price 2 = .ok (.iload_n 2, 1) := by decide +kernel
theorem dX12_price_3 : decode cX12_price 3 = .ok (.invokevirtual 114, 3) := by decide +kernel
theorem dX12_price_6 : decode cX12_price 6 = .ok (.ifCond .eq 13, 3) := by decide +kernel
theorem dX12_price_9 : decode cX12_price 9 = .ok (.iload_n 3, 1) := by decide +kernel
theorem dX12_price_10 : decode cX12_price 10 = .ok (.iconst 1, 1) := by decide +kernel
theorem dX12_price_11 : decode cX12_price 11 = .ok (.bipush 20, 2) := by decide +kernel
theorem dX12_price_13 : decode cX12_price 13 = .ok (.invokestatic 94, 3) := by decide +kernel
theorem dX12_price_16 : decode cX12_price 16 = .ok (.ifCond .ne 6, 3) := by decide +kernel
theorem dX12_price_19 : decode cX12_price 19 = .ok (.bipush (-2), 2) := by decide +kernel
theorem dX12_price_21 : decode cX12_price 21 = .ok (.ireturn, 1) := by decide +kernel
theorem dX12_price_22 : decode cX12_price 22 = .ok (.aload_n 0, 1) := by decide +kernel
theorem dX12_price_23 : decode cX12_price 23 = .ok (.getfield 22, 3) := by decide +kernel
theorem dX12_price_26 : decode cX12_price 26 = .ok (.iconst 4, 1) := by decide +kernel
theorem dX12_price_27 : decode cX12_price 27 = .ok (.iload_n 1, 1) := by decide +kernel
theorem dX12_price_28 : decode cX12_price 28 = .ok (.imul, 1) := by decide +kernel
theorem dX12_price_29 : decode cX12_price 29 = .ok (.iload_n 2, 1) := by decide +kernel
theorem dX12_price_30 : decode cX12_price 30 = .ok (.iadd, 1) := by decide +kernel
theorem dX12_price_31 : decode cX12_price 31 = .ok (.iaload, 1) := by decide +kernel
theorem dX12_price_32 : decode cX12_price 32 = .ok (.istore 4, 2) := by decide +kernel
theorem dX12_price_34 : decode cX12_price 34 = .ok (.aload_n 0, 1) := by decide +kernel
theorem dX12_price_35 : decode cX12_price 35 = .ok (.getfield 22, 3) := by decide +kernel
theorem dX12_price_38 : decode cX12_price 38 = .ok (.iconst 4, 1) := by decide +kernel
theorem dX12_price_39 : decode cX12_price 39 = .ok (.iload_n 1, 1) := by decide +kernel
theorem dX12_price_40 : decode cX12_price 40 = .ok (.imul, 1) := by decide +kernel
theorem dX12_price_41 : decode cX12_price 41 = .ok (.iload_n 2, 1) := by decide +kernel
theorem dX12_price_42 : decode cX12_price 42 = .ok (.iadd, 1) := by decide +kernel
theorem dX12_price_43 : decode cX12_price 43 = .ok (.iload_n 3, 1) := by decide +kernel
theorem dX12_price_44 : decode cX12_price 44 = .ok (.iastore, 1) := by decide +kernel
theorem dX12_price_45 : decode cX12_price 45 = .ok (.iload 4, 2) := by decide +kernel
theorem dX12_price_47 : decode cX12_price 47 = .ok (.ireturn, 1) := by decide +kernel
set_option maxRecDepth 20000 in
theorem ggX12_share_X12_isLetter : GoodIn wsX12_share wsX12_isLetter := goodIn_r _ [6, 7, 8, 9, 10, 5, 11, 12, 13, 14, 15, 16, 17, 18, 19, 20, 21, 22, 23, 24, 25, 26, 27, 28, 29, 30, 31, 32, 33, 34, 35, 36, 37, 38, 39, 40, 41, 42, 43, 44, 45] (by decide +kernel) (by decide +kernel)
set_option maxRecDepth 20000 in
theorem gX12_share_X12_isLetter : GoodIn wsX12_share (wsV RX12 114 RX12 yX12_isLetter wsX12_isLetter) := goodIn_app (goodIn_of _ (by decide +kernel)) ggX12_share_X12_isLetter
set_option maxRecDepth 20000 in
theorem ggX12_share_X12_in : GoodIn wsX12_share wsX12_in := goodIn_r _ [15] (by decide +kernel) (by decide +kernel)
set_option maxRecDepth 20000 in
theorem gX12_share_X12_in : GoodIn wsX12_share (va_wsS RX12 94 yX12_in wsX12_in) := goodIn_app (goodIn_of _ (by decide +kernel)) ggX12_share_X12_in
theorem dX12_share_0 : decode cX12_share 0 = .ok (.aload_n 0, 1) := by decide +kernel
theorem dX12_share_1 : decode cX12_share 1 = .ok (.iload_n 1, 1) := by decide +kernel
theorem dX12_share_2 : decode cX12_share 2 = .ok (.iload_n 2, 1) := by decide +kernel
theorem dX12_share_3 : decode cX12_share 3 = .ok (.invokevirtual 114, 3) := by decide +kernel
theorem dX12_share_6 : decode cX12_share 6 = .ok (.ifCond .eq 12, 3) := by decide +kernel
theorem dX12_share_9 : decode cX12_share 9 = .ok (.iload_n 3, 1) := by decide +kernel
theorem dX12_share_10 : decode cX12_share 10 = .ok (.iconst 0, 1) := by decide +kernel
theorem dX12_share_11 : decode cX12_share 11 = .ok (.iconst 5, 1) := by decide +kernel
theorem dX12_share_12 : decode cX12_share 12 = .ok (.invokestatic 94, 3) := by decide +kernel
theorem dX12_share_15 : decode cX12_share 15 = .ok (.ifCond .ne 6, 3) := by decide +kernel
theorem dX12_share_18 : decode cX12_share 18 = .ok (.bipush (-2), 2) := by decide +kernel
theorem dX12_share_20 : decode cX12_share 20 = .ok (.ireturn, 1) := by decide +kernel
theorem dX12_share_21 : decode cX12_share 21 = .ok (.aload_n 0, 1) := by decide +kernel
theorem dX12_share_22 : decode cX12_share 22 = .ok (.getfield 25, 3) := by decide +kernel
theorem dX12_share_25 : decode cX12_share 25 = .ok (.iconst 4, 1) := by decide +kernel
theorem dX12_share_26 : decode cX12_share 26 = .ok (.iload_n 1, 1) := by decide +kernel
theorem dX12_share_27 : decode cX12_share 27 = .ok (.imul, 1) := by decide +kernel
theorem dX12_share_28 : decode cX12_share 28 = .ok (.iload_n 2, 1) := by decide +kernel
theorem dX12_share_29 : decode cX12_share 29 = .ok (.iadd, 1) := by decide +kernel
theorem dX12_share_30 : decode cX12_share 30 = .ok (.iaload, 1) := by decide +kernel
theorem dX12_share_31 : decode cX12_share 31 = .ok (.istore 4, 2) := by decide +kernel
theorem dX12_share_33 : decode cX12_share 33 = .ok (.aload_n 0, 1) := by decide +kernel
theorem dX12_share_34 : decode cX12_share 34 = .ok (.getfield 25, 3) := by decide +kernel
theorem dX12_share_37 : decode cX12_share 37 = .ok (.iconst 4, 1) := by decide +kernel
theorem dX12_share_38 : decode cX12_share 38 = .ok (.iload_n 1, 1) := by decide +kernel
theorem dX12_share_39 : decode cX12_share 39 = .ok (.imul, 1) := by decide +kernel
theorem dX12_share_40 : decode cX12_share 40 = .ok (.iload_n 2, 1) := by decide +kernel
theorem dX12_share_41 : decode cX12_share 41 = .ok (.iadd, 1) := by decide +kernel
theorem dX12_share_42 : decode cX12_share 42 = .ok (.iload_n 3, 1) := by decide +kernel
theorem dX12_share_43 : decode cX12_share 43 = .ok (.iastore, 1) := by decide +kernel
theorem dX12_share_44 : decode cX12_share 44 = .ok (.iload 4, 2) := by decide +kernel
theorem dX12_share_46 : decode cX12_share 46 = .ok (.ireturn, 1) := by decide +kernel
set_option maxRecDepth 20000 in
theorem ggX12_isWhole_X12_at : GoodIn wsX12_isWhole wsX12_at := goodIn_r _ [7] (by decide +kernel) (by decide +kernel)
set_option maxRecDepth 20000 in
theorem gX12_isWhole_X12_at : GoodIn wsX12_isWhole (va_wsS RX12 102 yX12_at wsX12_at) := goodIn_app (goodIn_of _ (by decide +kernel)) ggX12_isWhole_X12_at
theorem dX12_isWhole_0 : decode cX12_isWhole 0 = .ok (.iconst 1, 1) := by decide +kernel
theorem dX12_isWhole_1 : decode cX12_isWhole 1 = .ok (.istore_n 2, 1) := by decide +kernel
theorem dX12_isWhole_2 : decode cX12_isWhole 2 = .ok (.iconst 0, 1) := by decide +kernel
theorem dX12_isWhole_3 : decode cX12_isWhole 3 = .ok (.istore_n 3, 1) := by decide +kernel
theorem dX12_isWhole_4 : decode cX12_isWhole 4 = .ok (.iload_n 3, 1) := by decide +kernel
theorem dX12_isWhole_5 : decode cX12_isWhole 5 = .ok (.aload_n 0, 1) := by decide +kernel
theorem dX12_isWhole_6 : decode cX12_isWhole 6 = .ok (.getfield 7, 3) := by decide +kernel
theorem dX12_isWhole_9 : decode cX12_isWhole 9 = .ok (.iload_n 1, 1) := by decide +kernel
theorem dX12_isWhole_10 : decode cX12_isWhole 10 = .ok (.iaload, 1) := by decide +kernel
theorem dX12_isWhole_11 : decode cX12_isWhole 11 = .ok (.if_icmp .ge 55, 3) := by decide +kernel
theorem dX12_isWhole_14 : decode cX12_isWhole 14 = .ok (.iconst 0, 1) := by decide +kernel
theorem dX12_isWhole_15 : decode cX12_isWhole 15 = .ok (.istore 4, 2) := by decide +kernel
theorem dX12_isWhole_17 : decode cX12_isWhole 17 = .ok (.iload 4, 2) := by decide +kernel
theorem dX12_isWhole_19 : decode cX12_isWhole 19 = .ok (.aload_n 0, 1) := by decide +kernel
theorem dX12_isWhole_20 : decode cX12_isWhole 20 = .ok (.getfield 13, 3) := by decide +kernel
theorem dX12_isWhole_23 : decode cX12_isWhole 23 = .ok (.iload_n 1, 1) := by decide +kernel
theorem dX12_isWhole_24 : decode cX12_isWhole 24 = .ok (.iaload, 1) := by decide +kernel
theorem dX12_isWhole_25 : decode cX12_isWhole 25 = .ok (.if_icmp .ge 35, 3) := by decide +kernel
theorem dX12_isWhole_28 : decode cX12_isWhole 28 = .ok (.iload_n 2, 1) := by decide +kernel
theorem dX12_isWhole_29 : decode cX12_isWhole 29 = .ok (.ifCond .eq 23, 3) := by decide +kernel
theorem dX12_isWhole_32 : decode cX12_isWhole 32 = .ok (.aload_n 0, 1) := by decide +kernel
theorem dX12_isWhole_33 : decode cX12_isWhole 33 = .ok (.getfield 16, 3) := by decide +kernel
theorem dX12_isWhole_36 : decode cX12_isWhole 36 = .ok (.iload_n 1, 1) := by decide +kernel
theorem dX12_isWhole_37 : decode cX12_isWhole 37 = .ok (.iload_n 3, 1) := by decide +kernel
theorem dX12_isWhole_38 : decode cX12_isWhole 38 = .ok (.iload 4, 2) := by decide +kernel
theorem dX12_isWhole_40 : decode cX12_isWhole 40 = .ok (.invokestatic 102, 3) := by decide +kernel
theorem dX12_isWhole_43 : decode cX12_isWhole 43 = .ok (.iaload, 1) := by decide +kernel
theorem dX12_isWhole_44 : decode cX12_isWhole 44 = .ok (.iconst (-1), 1) := by decide +kernel
theorem dX12_isWhole_45 : decode cX12_isWhole 45 = .ok (.if_icmp .eq 7, 3) := by decide +kernel
theorem dX12_isWhole_48 : decode cX12_isWhole 48 = .ok (.iconst 1, 1) := by decide +kernel
theorem dX12_isWhole_49 : decode cX12_isWhole 49 = .ok (.goto 4, 3) := by decide +kernel
theorem dX12_isWhole_52 : decode cX12_isWhole 52 = .ok (.iconst 0, 1) := by decide +kernel
theorem dX12_isWhole_53 : decode cX12_isWhole 53 = .ok (.istore_n 2, 1) := by decide +kernel
theorem dX12_isWhole_54 : decode cX12_isWhole 54 = .ok (.iinc 4 1, 3) := by decide +kernel
theorem dX12_isWhole_57 : decode cX12_isWhole 57 = .ok (.goto (-40), 3) := by decide +kernel
theorem dX12_isWhole_60 : decode cX12_isWhole 60 = .ok (.iinc 3 1, 3) := by decide +kernel
theorem dX12_isWhole_63 : decode cX12_isWhole 63 = .ok (.goto (-59), 3) := by decide +kernel
theorem dX12_isWhole_66 : decode cX12_isWhole 66 = .ok (.iload_n 2, 1) := by decide +kernel
theorem dX12_isWhole_67 : decode cX12_isWhole 67 = .ok (.ireturn, 1) := by decide +kernel
set_option maxRecDepth 20000 in
theorem ggX12_aboutOf_X12_isWhole : GoodIn wsX12_aboutOf wsX12_isWhole := goodIn_r _ [7, 1, 2, 8, 9, 10, 6, 11, 12, 13, 14, 15, 16, 17, 18, 19, 20, 21, 22, 23, 24, 25, 26, 27, 28, 29, 30, 31, 32, 33, 34, 35, 36, 37, 38, 39, 40, 41] (by decide +kernel) (by decide +kernel)
set_option maxRecDepth 20000 in
theorem gX12_aboutOf_X12_isWhole : GoodIn wsX12_aboutOf (wsV RX12 117 RX12 yX12_isWhole wsX12_isWhole) := goodIn_app (goodIn_of _ (by decide +kernel)) ggX12_aboutOf_X12_isWhole
theorem dX12_aboutOf_0 : decode cX12_aboutOf 0 = .ok (.iload_n 2, 1) := by decide +kernel
theorem dX12_aboutOf_1 : decode cX12_aboutOf 1 = .ok (.ifCond .ne 12, 3) := by decide +kernel
theorem dX12_aboutOf_4 : decode cX12_aboutOf 4 = .ok (.aload_n 0, 1) := by decide +kernel
theorem dX12_aboutOf_5 : decode cX12_aboutOf 5 = .ok (.getfield 7, 3) := by decide +kernel
theorem dX12_aboutOf_8 : decode cX12_aboutOf 8 = .ok (.iload_n 1, 1) := by decide +kernel
theorem dX12_aboutOf_9 : decode cX12_aboutOf 9 = .ok (.iaload, 1) := by decide +kernel
theorem dX12_aboutOf_10 : decode cX12_aboutOf 10 = .ok (.goto 30, 3) := by decide +kernel
theorem dX12_aboutOf_13 : decode cX12_aboutOf 13 = .ok (.iload_n 2, 1) := by decide +kernel
theorem dX12_aboutOf_14 : decode cX12_aboutOf 14 = .ok (.iconst 1, 1) := by decide +kernel
theorem dX12_aboutOf_15 : decode cX12_aboutOf 15 = .ok (.if_icmp .ne 12, 3) := by decide +kernel
theorem dX12_aboutOf_18 : decode cX12_aboutOf 18 = .ok (.aload_n 0, 1) := by decide +kernel
theorem dX12_aboutOf_19 : decode cX12_aboutOf 19 = .ok (.getfield 13, 3) := by decide +kernel
theorem dX12_aboutOf_22 : decode cX12_aboutOf 22 = .ok (.iload_n 1, 1) := by decide +kernel
theorem dX12_aboutOf_23 : decode cX12_aboutOf 23 = .ok (.iaload, 1) := by decide +kernel
theorem dX12_aboutOf_24 : decode cX12_aboutOf 24 = .ok (.goto 16, 3) := by decide +kernel
theorem dX12_aboutOf_27 : decode cX12_aboutOf 27 = .ok (.aload_n 0, 1) := by decide +kernel
theorem dX12_aboutOf_28 : decode cX12_aboutOf 28 = .ok (.iload_n 1, 1) := by decide +kernel
theorem dX12_aboutOf_29 : decode cX12_aboutOf 29 = .ok (.invokevirtual 117, 3) := by decide +kernel
theorem dX12_aboutOf_32 : decode cX12_aboutOf 32 = .ok (.ifCond .eq 7, 3) := by decide +kernel
theorem dX12_aboutOf_35 : decode cX12_aboutOf 35 = .ok (.iconst 1, 1) := by decide +kernel
theorem dX12_aboutOf_36 : decode cX12_aboutOf 36 = .ok (.goto 4, 3) := by decide +kernel
theorem dX12_aboutOf_39 : decode cX12_aboutOf 39 = .ok (.iconst 0, 1) := by decide +kernel
theorem dX12_aboutOf_40 : decode cX12_aboutOf 40 = .ok (.ireturn, 1) := by decide +kernel
set_option maxRecDepth 20000 in
theorem ggX12_about_X12_isMachine : GoodIn wsX12_about wsX12_isMachine := goodIn_r _ [5, 6, 7, 8, 4, 9, 24, 25, 26, 27, 28, 29, 30, 31, 32, 33, 34, 35, 36, 37, 38, 39, 40, 41, 42, 43, 44, 45, 46, 47, 48, 49, 50, 51, 52, 53] (by decide +kernel) (by decide +kernel)
set_option maxRecDepth 20000 in
theorem gX12_about_X12_isMachine : GoodIn wsX12_about (wsV RX12 106 RX12 yX12_isMachine wsX12_isMachine) := goodIn_app (goodIn_of _ (by decide +kernel)) ggX12_about_X12_isMachine
set_option maxRecDepth 20000 in
theorem ggX12_about_X12_in : GoodIn wsX12_about wsX12_in := goodIn_r _ [9] (by decide +kernel) (by decide +kernel)
set_option maxRecDepth 20000 in
theorem gX12_about_X12_in : GoodIn wsX12_about (va_wsS RX12 94 yX12_in wsX12_in) := goodIn_app (goodIn_of _ (by decide +kernel)) ggX12_about_X12_in
set_option maxRecDepth 20000 in
theorem ggX12_about_X12_aboutOf : GoodIn wsX12_about wsX12_aboutOf := goodIn_r _ [13, 14, 15, 16, 17, 18, 4, 19, 20, 21, 22, 23, 24, 25, 26, 27, 28, 29, 30, 31, 32, 33, 34, 35, 36, 37, 38, 39, 40, 41, 42, 43, 44, 45, 46, 47, 48, 49, 50, 51, 52, 53] (by decide +kernel) (by decide +kernel)
set_option maxRecDepth 20000 in
theorem gX12_about_X12_aboutOf : GoodIn wsX12_about (wsV RX12 120 RX12 yX12_aboutOf wsX12_aboutOf) := goodIn_app (goodIn_of _ (by decide +kernel)) ggX12_about_X12_aboutOf
theorem dX12_about_0 : decode cX12_about 0 = .ok (.aload_n 0, 1) := by decide +kernel
theorem dX12_about_1 : decode cX12_about 1 = .ok (.iload_n 1, 1) := by decide +kernel
theorem dX12_about_2 : decode cX12_about 2 = .ok (.invokevirtual 106, 3) := by decide +kernel
theorem dX12_about_5 : decode cX12_about 5 = .ok (.ifCond .eq 21, 3) := by decide +kernel
theorem dX12_about_8 : decode cX12_about 8 = .ok (.iload_n 2, 1) := by decide +kernel
theorem dX12_about_9 : decode cX12_about 9 = .ok (.iconst 0, 1) := by decide +kernel
theorem dX12_about_10 : decode cX12_about 10 = .ok (.iconst 2, 1) := by decide +kernel
theorem dX12_about_11 : decode cX12_about 11 = .ok (.invokestatic 94, 3) := by decide +kernel
theorem dX12_about_14 : decode cX12_about 14 = .ok (.ifCond .eq 12, 3) := by decide +kernel
theorem dX12_about_17 : decode cX12_about 17 = .ok (.aload_n 0, 1) := by decide +kernel
theorem dX12_about_18 : decode cX12_about 18 = .ok (.iload_n 1, 1) := by decide +kernel
theorem dX12_about_19 : decode cX12_about 19 = .ok (.iload_n 2, 1) := by decide +kernel
theorem dX12_about_20 : decode cX12_about 20 = .ok (.invokevirtual 120, 3) := by decide +kernel
theorem dX12_about_23 : decode cX12_about 23 = .ok (.goto 5, 3) := by decide +kernel
theorem dX12_about_26 : decode cX12_about 26 = .ok (.bipush (-2), 2) := by decide +kernel
theorem dX12_about_28 : decode cX12_about 28 = .ok (.ireturn, 1) := by decide +kernel
set_option maxRecDepth 20000 in
theorem ggX12_moveOf_X12_isState : GoodIn wsX12_moveOf wsX12_isState := goodIn_r _ [6, 7, 8, 9, 10, 5, 11, 12, 13, 14, 15, 24, 25, 26, 27, 28, 29, 30, 31, 32, 33, 34, 35, 36, 37, 38, 39, 40, 41, 42, 43, 44, 45, 46, 47, 48, 49, 50, 51, 52, 53] (by decide +kernel) (by decide +kernel)
set_option maxRecDepth 20000 in
theorem gX12_moveOf_X12_isState : GoodIn wsX12_moveOf (wsV RX12 110 RX12 yX12_isState wsX12_isState) := goodIn_app (goodIn_of _ (by decide +kernel)) ggX12_moveOf_X12_isState
set_option maxRecDepth 20000 in
theorem ggX12_moveOf_X12_isLetter : GoodIn wsX12_moveOf wsX12_isLetter := goodIn_r _ [19, 20, 8, 9, 10, 5, 11, 12, 13, 14, 15, 24, 25, 26, 27, 28, 29, 30, 31, 32, 33, 34, 35, 36, 37, 38, 39, 40, 41, 42, 43, 44, 45, 46, 47, 48, 49, 50, 51, 52, 53] (by decide +kernel) (by decide +kernel)
set_option maxRecDepth 20000 in
theorem gX12_moveOf_X12_isLetter : GoodIn wsX12_moveOf (wsV RX12 114 RX12 yX12_isLetter wsX12_isLetter) := goodIn_app (goodIn_of _ (by decide +kernel)) ggX12_moveOf_X12_isLetter
set_option maxRecDepth 20000 in
theorem ggX12_moveOf_X12_at : GoodIn wsX12_moveOf wsX12_at := goodIn_r _ [23] (by decide +kernel) (by decide +kernel)
set_option maxRecDepth 20000 in
theorem gX12_moveOf_X12_at : GoodIn wsX12_moveOf (va_wsS RX12 102 yX12_at wsX12_at) := goodIn_app (goodIn_of _ (by decide +kernel)) ggX12_moveOf_X12_at
theorem dX12_moveOf_0 : decode cX12_moveOf 0 = .ok (.aload_n 0, 1) := by decide +kernel
theorem dX12_moveOf_1 : decode cX12_moveOf 1 = .ok (.iload_n 1, 1) := by decide +kernel
theorem dX12_moveOf_2 : decode cX12_moveOf 2 = .ok (.iload_n 2, 1) := by decide +kernel
theorem dX12_moveOf_3 : decode cX12_moveOf 3 = .ok (.invokevirtual 110, 3) := by decide +kernel
theorem dX12_moveOf_6 : decode cX12_moveOf 6 = .ok (.ifCond .eq 26, 3) := by decide +kernel
theorem dX12_moveOf_9 : decode cX12_moveOf 9 = .ok (.aload_n 0, 1) := by decide +kernel
theorem dX12_moveOf_10 : decode cX12_moveOf 10 = .ok (.iload_n 1, 1) := by decide +kernel
theorem dX12_moveOf_11 : decode cX12_moveOf 11 = .ok (.iload_n 3, 1) := by decide +kernel
theorem dX12_moveOf_12 : decode cX12_moveOf 12 = .ok (.invokevirtual 114, 3) := by decide +kernel
theorem dX12_moveOf_15 : decode cX12_moveOf 15 = .ok (.ifCond .eq 17, 3) := by decide +kernel
theorem dX12_moveOf_18 : decode cX12_moveOf 18 = .ok (.aload_n 0, 1) := by decide +kernel
theorem dX12_moveOf_19 : decode cX12_moveOf 19 = .ok (.getfield 16, 3) := by decide +kernel
theorem dX12_moveOf_22 : decode cX12_moveOf 22 = .ok (.iload_n 1, 1) := by decide +kernel
theorem dX12_moveOf_23 : decode cX12_moveOf 23 = .ok (.iload_n 2, 1) := by decide +kernel
theorem dX12_moveOf_24 : decode cX12_moveOf 24 = .ok (.iload_n 3, 1) := by decide +kernel
theorem dX12_moveOf_25 : decode cX12_moveOf 25 = .ok (.invokestatic 102, 3) := by decide +kernel
theorem dX12_moveOf_28 : decode cX12_moveOf 28 = .ok (.iaload, 1) := by decide +kernel
theorem dX12_moveOf_29 : decode cX12_moveOf 29 = .ok (.goto 5, 3) := by decide +kernel
theorem dX12_moveOf_32 : decode cX12_moveOf 32 = .ok (.bipush (-2), 2) := by decide +kernel
theorem dX12_moveOf_34 : decode cX12_moveOf 34 = .ok (.ireturn, 1) := by decide +kernel
theorem dX12_empty_0 : decode cX12_empty 0 = .ok (.aload_n 0, 1) := by decide +kernel
theorem dX12_empty_1 : decode cX12_empty 1 = .ok (.getfield 123, 3) := by decide +kernel
theorem dX12_empty_4 : decode cX12_empty 4 = .ok (.istore_n 1, 1) := by decide +kernel
theorem dX12_empty_5 : decode cX12_empty 5 = .ok (.aload_n 0, 1) := by decide +kernel
theorem dX12_empty_6 : decode cX12_empty 6 = .ok (.iconst 0, 1) := by decide +kernel
theorem dX12_empty_7 : decode cX12_empty 7 = .ok (.putfield 123, 3) := by decide +kernel
theorem dX12_empty_10 : decode cX12_empty 10 = .ok (.iload_n 1, 1) := by decide +kernel
theorem dX12_empty_11 : decode cX12_empty 11 = .ok (.ireturn, 1) := by decide +kernel
set_option maxRecDepth 20000 in
theorem ggX12_letter_X12_in : GoodIn wsX12_letter wsX12_in := goodIn_r _ [6] (by decide +kernel) (by decide +kernel)
set_option maxRecDepth 20000 in
theorem gX12_letter_X12_in : GoodIn wsX12_letter (va_wsS RX12 94 yX12_in wsX12_in) := goodIn_app (goodIn_of _ (by decide +kernel)) ggX12_letter_X12_in
theorem dX12_letter_0 : decode cX12_letter 0 = .ok (.iload_n 1, 1) := by decide +kernel
theorem dX12_letter_1 : decode cX12_letter 1 = .ok (.iconst 0, 1) := by decide +kernel
theorem dX12_letter_2 : decode cX12_letter 2 = .ok (.iconst 3, 1) := by decide +kernel
theorem dX12_letter_3 : decode cX12_letter 3 = .ok (.invokestatic 94, 3) := by decide +kernel
theorem dX12_letter_6 : decode cX12_letter 6 = .ok (.ifCond .ne 6, 3) := by decide +kernel
theorem dX12_letter_9 : decode cX12_letter 9 = .ok (.bipush (-2), 2) := by decide +kernel
theorem dX12_letter_11 : decode cX12_letter 11 = .ok (.ireturn, 1) := by decide +kernel
theorem dX12_letter_12 : decode cX12_letter 12 = .ok (.aload_n 0, 1) := by decide +kernel
theorem dX12_letter_13 : decode cX12_letter 13 = .ok (.getfield 123, 3) := by decide +kernel
theorem dX12_letter_16 : decode cX12_letter 16 = .ok (.sipush 600, 3) := by decide +kernel
theorem dX12_letter_19 : decode cX12_letter 19 = .ok (.if_icmp .ne 6, 3) := by decide +kernel
theorem dX12_letter_22 : decode cX12_letter 22 = .ok (.bipush (-4), 2) := by decide +kernel
theorem dX12_letter_24 : decode cX12_letter 24 = .ok (.ireturn, 1) := by decide +kernel
theorem dX12_letter_25 : decode cX12_letter 25 = .ok (.aload_n 0, 1) := by decide +kernel
theorem dX12_letter_26 : decode cX12_letter 26 = .ok (.getfield 28, 3) := by decide +kernel
theorem dX12_letter_29 : decode cX12_letter 29 = .ok (.aload_n 0, 1) := by decide +kernel
theorem dX12_letter_30 : decode cX12_letter 30 = .ok (.getfield 123, 3) := by decide +kernel
theorem dX12_letter_33 : decode cX12_letter 33 = .ok (.iload_n 1, 1) := by decide +kernel
theorem dX12_letter_34 : decode cX12_letter 34 = .ok (.iastore, 1) := by decide +kernel
theorem dX12_letter_35 : decode cX12_letter 35 = .ok (.aload_n 0, 1) := by decide +kernel
theorem dX12_letter_36 : decode cX12_letter 36 = .ok (.dup, 1) := by decide +kernel
theorem dX12_letter_37 : decode cX12_letter 37 = .ok (.getfield 123, 3) := by decide +kernel
theorem dX12_letter_40 : decode cX12_letter 40 = .ok (.iconst 1, 1) := by decide +kernel
theorem dX12_letter_41 : decode cX12_letter 41 = .ok (.iadd, 1) := by decide +kernel
theorem dX12_letter_42 : decode cX12_letter 42 = .ok (.putfield 123, 3) := by decide +kernel
theorem dX12_letter_45 : decode cX12_letter 45 = .ok (.aload_n 0, 1) := by decide +kernel
theorem dX12_letter_46 : decode cX12_letter 46 = .ok (.getfield 123, 3) := by decide +kernel
theorem dX12_letter_49 : decode cX12_letter 49 = .ok (.ireturn, 1) := by decide +kernel
set_option maxRecDepth 20000 in
theorem ggX12_letterAt_X12_in : GoodIn wsX12_letterAt wsX12_in := goodIn_r _ [6] (by decide +kernel) (by decide +kernel)
set_option maxRecDepth 20000 in
theorem gX12_letterAt_X12_in : GoodIn wsX12_letterAt (va_wsS RX12 94 yX12_in wsX12_in) := goodIn_app (goodIn_of _ (by decide +kernel)) ggX12_letterAt_X12_in
theorem dX12_letterAt_0 : decode cX12_letterAt 0 = .ok (.iload_n 1, 1) := by decide +kernel
theorem dX12_letterAt_1 : decode cX12_letterAt 1 = .ok (.iconst 0, 1) := by decide +kernel
theorem dX12_letterAt_2 : decode cX12_letterAt 2 = .ok (.aload_n 0, 1) := by decide +kernel
theorem dX12_letterAt_3 : decode cX12_letterAt 3 = .ok (.getfield 123, 3) := by decide +kernel
theorem dX12_letterAt_6 : decode cX12_letterAt 6 = .ok (.iconst 1, 1) := by decide +kernel
theorem dX12_letterAt_7 : decode cX12_letterAt 7 = .ok (.isub, 1) := by decide +kernel
theorem dX12_letterAt_8 : decode cX12_letterAt 8 = .ok (.invokestatic 94, 3) := by decide +kernel
theorem dX12_letterAt_11 : decode cX12_letterAt 11 = .ok (.ifCond .eq 12, 3) := by decide +kernel
theorem dX12_letterAt_14 : decode cX12_letterAt 14 = .ok (.aload_n 0, 1) := by decide +kernel
theorem dX12_letterAt_15 : decode cX12_letterAt 15 = .ok (.getfield 28, 3) := by decide +kernel
theorem dX12_letterAt_18 : decode cX12_letterAt 18 = .ok (.iload_n 1, 1) := by decide +kernel
theorem dX12_letterAt_19 : decode cX12_letterAt 19 = .ok (.iaload, 1) := by decide +kernel
theorem dX12_letterAt_20 : decode cX12_letterAt 20 = .ok (.goto 4, 3) := by decide +kernel
theorem dX12_letterAt_23 : decode cX12_letterAt 23 = .ok (.iconst (-1), 1) := by decide +kernel
theorem dX12_letterAt_24 : decode cX12_letterAt 24 = .ok (.ireturn, 1) := by decide +kernel
set_option maxRecDepth 20000 in
theorem ggX12_next_X12_at : GoodIn wsX12_next wsX12_at := goodIn_r _ [6] (by decide +kernel) (by decide +kernel)
set_option maxRecDepth 20000 in
theorem gX12_next_X12_at : GoodIn wsX12_next (va_wsS RX12 102 yX12_at wsX12_at) := goodIn_app (goodIn_of _ (by decide +kernel)) ggX12_next_X12_at
theorem dX12_next_0 : decode cX12_next 0 = .ok (.iconst 0, 1) := by decide +kernel
theorem dX12_next_1 : decode cX12_next 1 = .ok (.istore 4, 2) := by decide +kernel
theorem dX12_next_3 : decode cX12_next 3 = .ok (.iconst 0, 1) := by decide +kernel
theorem dX12_next_4 : decode cX12_next 4 = .ok (.istore 5, 2) := by decide +kernel
theorem dX12_next_6 : decode cX12_next 6 = .ok (.iload 5, 2) := by decide +kernel
theorem dX12_next_8 : decode cX12_next 8 = .ok (.aload_n 0, 1) := by decide +kernel
theorem dX12_next_9 : decode cX12_next 9 = .ok (.getfield 7, 3) := by decide +kernel
theorem dX12_next_12 : decode cX12_next 12 = .ok (.iload_n 1, 1) := by decide +kernel
theorem dX12_next_13 : decode cX12_next 13 = .ok (.iaload, 1) := by decide +kernel
theorem dX12_next_14 : decode cX12_next 14 = .ok (.if_icmp .ge 50, 3) := by decide +kernel
theorem dX12_next_17 : decode cX12_next 17 = .ok (.iload_n 2, 1) := by decide +kernel
theorem dX12_next_18 : decode cX12_next 18 = .ok (.iload 5, 2) := by decide +kernel
theorem dX12_next_20 : decode cX12_next 20 = .ok (.ishr, 1) := by decide +kernel
theorem dX12_next_21 : decode cX12_next 21 = .ok (.iconst 1, 1) := by decide +kernel
theorem dX12_next_22 : decode cX12_next 22 = .ok (.iand, 1) := by decide +kernel
theorem dX12_next_23 : decode cX12_next 23 = .ok (.iconst 1, 1) := by decide +kernel
theorem dX12_next_24 : decode cX12_next 24 = .ok (.if_icmp .ne 34, 3) := by decide +kernel
theorem dX12_next_27 : decode cX12_next 27 = .ok (.aload_n 0, 1) := by decide +kernel
theorem dX12_next_28 : decode cX12_next 28 = .ok (.getfield 16, 3) := by decide +kernel
theorem dX12_next_31 : decode cX12_next 31 = .ok (.iload_n 1, 1) := by decide +kernel
theorem dX12_next_32 : decode cX12_next 32 = .ok (.iload 5, 2) := by decide +kernel
theorem dX12_next_34 : decode cX12_next 34 = .ok (.iload_n 3, 1) := by decide +kernel
theorem dX12_next_35 : decode cX12_next 35 = .ok (.invokestatic 102, 3) := by decide +kernel
theorem dX12_next_38 : decode cX12_next 38 = .ok (.iaload, 1) := by decide +kernel
theorem dX12_next_39 : decode cX12_next 39 = .ok (.istore 6, 2) := by decide +kernel
theorem dX12_next_41 : decode cX12_next 41 = .ok (.iload 6, 2) := by decide +kernel
theorem dX12_next_43 : decode cX12_next 43 = .ok (.iconst (-1), 1) := by decide +kernel
theorem dX12_next_44 : decode cX12_next 44 = .ok (.if_icmp .ne 5, 3) := by decide +kernel
theorem dX12_next_47 : decode cX12_next 47 = .ok (.iconst 0, 1) := by decide +kernel
theorem dX12_next_48 : decode cX12_next 48 = .ok (.ireturn, 1) := by decide +kernel
theorem dX12_next_49 : decode cX12_next 49 = .ok (.iload 4, 2) := by decide +kernel
theorem dX12_next_51 : decode cX12_next 51 = .ok (.iconst 1, 1) := by decide +kernel
theorem dX12_next_52 : decode cX12_next 52 = .ok (.iload 6, 2) := by decide +kernel
theorem dX12_next_54 : decode cX12_next 54 = .ok (.ishl, 1) := by decide +kernel
theorem dX12_next_55 : decode cX12_next 55 = .ok (.ior, 1) := by decide +kernel
theorem dX12_next_56 : decode cX12_next 56 = .ok (.istore 4, 2) := by decide +kernel
theorem dX12_next_58 : decode cX12_next 58 = .ok (.iinc 5 1, 3) := by decide +kernel
theorem dX12_next_61 : decode cX12_next 61 = .ok (.goto (-55), 3) := by decide +kernel
theorem dX12_next_64 : decode cX12_next 64 = .ok (.iload 4, 2) := by decide +kernel
theorem dX12_next_66 : decode cX12_next 66 = .ok (.ireturn, 1) := by decide +kernel
set_option maxRecDepth 20000 in
theorem ggX12_goes_X12_isSet : GoodIn wsX12_goes wsX12_isSet := goodIn_r _ [8, 9, 10, 11, 12, 7, 13, 14, 15, 16, 17, 26, 27, 28, 29, 30, 31, 32, 33, 34, 35, 36, 37, 38, 39, 40, 41, 42, 43, 44, 45, 46, 47, 48, 49, 50, 51, 52, 53, 54, 55] (by decide +kernel) (by decide +kernel)
set_option maxRecDepth 20000 in
theorem gX12_goes_X12_isSet : GoodIn wsX12_goes (wsV RX12 126 RX12 yX12_isSet wsX12_isSet) := goodIn_app (goodIn_of _ (by decide +kernel)) ggX12_goes_X12_isSet
set_option maxRecDepth 20000 in
theorem ggX12_goes_X12_next : GoodIn wsX12_goes wsX12_next := goodIn_r _ [21, 9, 22, 23, 24, 7, 25, 26, 27, 28, 29, 30, 31, 32, 33, 34, 35, 36, 37, 38, 39, 40, 41, 42, 43, 44, 45, 46, 47, 48, 49, 50, 51, 52, 53, 54, 55] (by decide +kernel) (by decide +kernel)
set_option maxRecDepth 20000 in
theorem gX12_goes_X12_next : GoodIn wsX12_goes (wsV RX12 129 RX12 yX12_next wsX12_next) := goodIn_app (goodIn_of _ (by decide +kernel)) ggX12_goes_X12_next
theorem dX12_goes_0 : decode cX12_goes 0 = .ok (.aload_n 0, 1) := by decide +kernel
theorem dX12_goes_1 : decode cX12_goes 1 = .ok (.iload_n 1, 1) := by decide +kernel
theorem dX12_goes_2 : decode cX12_goes 2 = .ok (.iload_n 2, 1) := by decide +kernel
theorem dX12_goes_3 : decode cX12_goes 3 = .ok (.invokevirtual 126, 3) := by decide +kernel
theorem dX12_goes_6 : decode cX12_goes 6 = .ok (.ifCond .ne 6, 3) := by decide +kernel
theorem dX12_goes_9 : decode cX12_goes 9 = .ok (.bipush (-2), 2) := by decide +kernel
theorem dX12_goes_11 : decode cX12_goes 11 = .ok (.ireturn, 1) := by decide +kernel
theorem dX12_goes_12 : decode cX12_goes 12 = .ok (.iconst 0, 1) := by decide +kernel
theorem dX12_goes_13 : decode cX12_goes 13 = .ok (.istore_n 3, 1) := by decide +kernel
theorem dX12_goes_14 : decode cX12_goes 14 = .ok (.iload_n 3, 1) := by decide +kernel
theorem dX12_goes_15 : decode cX12_goes 15 = .ok (.aload_n 0, 1) := by decide +kernel
theorem dX12_goes_16 : decode cX12_goes 16 = .ok (.getfield 123, 3) := by decide +kernel
theorem dX12_goes_19 : decode cX12_goes 19 = .ok (.if_icmp .ge 27, 3) := by decide +kernel
theorem dX12_goes_22 : decode cX12_goes 22 = .ok (.aload_n 0, 1) := by decide +kernel
theorem dX12_goes_23 : decode cX12_goes 23 = .ok (.getfield 28, 3) := by decide +kernel
theorem dX12_goes_26 : decode cX12_goes 26 = .ok (.iload_n 3, 1) := by decide +kernel
theorem dX12_goes_27 : decode cX12_goes 27 = .ok (.iaload, 1) := by decide +kernel
theorem dX12_goes_28 : decode cX12_goes 28 = .ok (.aload_n 0, 1) := by decide +kernel
theorem dX12_goes_29 : decode cX12_goes 29 = .ok (.getfield 13, 3) := by decide +kernel
theorem dX12_goes_32 : decode cX12_goes 32 = .ok (.iload_n 1, 1) := by decide +kernel
theorem dX12_goes_33 : decode cX12_goes 33 = .ok (.iaload, 1) := by decide +kernel
theorem dX12_goes_34 : decode cX12_goes 34 = .ok (.if_icmp .lt 6, 3) := by decide +kernel
theorem dX12_goes_37 : decode cX12_goes 37 = .ok (.bipush (-2), 2) := by decide +kernel
theorem dX12_goes_39 : decode cX12_goes 39 = .ok (.ireturn, 1) := by decide +kernel
theorem dX12_goes_40 : decode cX12_goes 40 = .ok (.iinc 3 1, 3) := by decide +kernel
theorem dX12_goes_43 : decode cX12_goes 43 = .ok (.goto (-29), 3) := by decide +kernel
theorem dX12_goes_46 : decode cX12_goes 46 = .ok (.iload_n 2, 1) := by decide +kernel
theorem dX12_goes_47 : decode cX12_goes 47 = .ok (.istore_n 3, 1) := by decide +kernel
theorem dX12_goes_48 : decode cX12_goes 48 = .ok (.iconst 0, 1) := by decide +kernel
theorem dX12_goes_49 : decode cX12_goes 49 = .ok (.istore 4, 2) := by decide +kernel
theorem dX12_goes_51 : decode cX12_goes 51 = .ok (.iload 4, 2) := by decide +kernel
theorem dX12_goes_53 : decode cX12_goes 53 = .ok (.aload_n 0, 1) := by decide +kernel
theorem dX12_goes_54 : decode cX12_goes 54 = .ok (.getfield 123, 3) := by decide +kernel
theorem dX12_goes_57 : decode cX12_goes 57 = .ok (.if_icmp .ge 27, 3) := by decide +kernel
theorem dX12_goes_60 : decode cX12_goes 60 = .ok (.iload_n 3, 1) := by decide +kernel
theorem dX12_goes_61 : decode cX12_goes 61 = .ok (.ifCond .le 23, 3) := by decide +kernel
theorem dX12_goes_64 : decode cX12_goes 64 = .ok (.aload_n 0, 1) := by decide +kernel
theorem dX12_goes_65 : decode cX12_goes 65 = .ok (.iload_n 1, 1) := by decide +kernel
theorem dX12_goes_66 : decode cX12_goes 66 = .ok (.iload_n 3, 1) := by decide +kernel
theorem dX12_goes_67 : decode cX12_goes 67 = .ok (.aload_n 0, 1) := by decide +kernel
theorem dX12_goes_68 : decode cX12_goes 68 = .ok (.getfield 28, 3) := by decide +kernel
theorem dX12_goes_71 : decode cX12_goes 71 = .ok (.iload 4, 2) := by decide +kernel
theorem dX12_goes_73 : decode cX12_goes 73 = .ok (.iaload, 1) := by decide +kernel
theorem dX12_goes_74 : decode cX12_goes 74 = .ok (.invokevirtual 129, 3) := by decide +kernel
theorem dX12_goes_77 : decode cX12_goes 77 = .ok (.istore_n 3, 1) := by decide +kernel
theorem dX12_goes_78 : decode cX12_goes 78 = .ok (.iinc 4 1, 3) := by decide +kernel
theorem dX12_goes_81 : decode cX12_goes 81 = .ok (.goto (-30), 3) := by decide +kernel
theorem dX12_goes_84 : decode cX12_goes 84 = .ok (.iload_n 3, 1) := by decide +kernel
theorem dX12_goes_85 : decode cX12_goes 85 = .ok (.ifCond .ne 7, 3) := by decide +kernel
theorem dX12_goes_88 : decode cX12_goes 88 = .ok (.iconst (-1), 1) := by decide +kernel
theorem dX12_goes_89 : decode cX12_goes 89 = .ok (.goto 4, 3) := by decide +kernel
theorem dX12_goes_92 : decode cX12_goes 92 = .ok (.iload_n 3, 1) := by decide +kernel
theorem dX12_goes_93 : decode cX12_goes 93 = .ok (.ireturn, 1) := by decide +kernel
theorem dX12_many_0 : decode cX12_many 0 = .ok (.iconst 0, 1) := by decide +kernel
theorem dX12_many_1 : decode cX12_many 1 = .ok (.istore_n 1, 1) := by decide +kernel
theorem dX12_many_2 : decode cX12_many 2 = .ok (.iload_n 0, 1) := by decide +kernel
theorem dX12_many_3 : decode cX12_many 3 = .ok (.istore_n 2, 1) := by decide +kernel
theorem dX12_many_4 : decode cX12_many 4 = .ok (.iload_n 2, 1) := by decide +kernel
theorem dX12_many_5 : decode cX12_many 5 = .ok (.ifCond .le 16, 3) := by decide +kernel
theorem dX12_many_8 : decode cX12_many 8 = .ok (.iload_n 1, 1) := by decide +kernel
theorem dX12_many_9 : decode cX12_many 9 = .ok (.iload_n 2, 1) := by decide +kernel
theorem dX12_many_10 : decode cX12_many 10 = .ok (.iconst 1, 1) := by decide +kernel
theorem dX12_many_11 : decode cX12_many 11 = .ok (.iand, 1) := by decide +kernel
theorem dX12_many_12 : decode cX12_many 12 = .ok (.iadd, 1) := by decide +kernel
theorem dX12_many_13 : decode cX12_many 13 = .ok (.istore_n 1, 1) := by decide +kernel
theorem dX12_many_14 : decode cX12_many 14 = .ok (.iload_n 2, 1) := by decide +kernel
theorem dX12_many_15 : decode cX12_many 15 = .ok (.iconst 1, 1) := by decide +kernel
theorem dX12_many_16 : decode cX12_many 16 = .ok (.ishr, 1) := by decide +kernel
theorem dX12_many_17 : decode cX12_many 17 = .ok (.istore_n 2, 1) := by decide +kernel
theorem dX12_many_18 : decode cX12_many 18 = .ok (.goto (-14), 3) := by decide +kernel
theorem dX12_many_21 : decode cX12_many 21 = .ok (.iload_n 1, 1) := by decide +kernel
theorem dX12_many_22 : decode cX12_many 22 = .ok (.ireturn, 1) := by decide +kernel
set_option maxRecDepth 20000 in
theorem ggX12_isWanted_X12_many : GoodIn wsX12_isWanted wsX12_many := goodIn_r _ [4] (by decide +kernel) (by decide +kernel)
set_option maxRecDepth 20000 in
theorem gX12_isWanted_X12_many : GoodIn wsX12_isWanted (va_wsS RX12 132 yX12_many wsX12_many) := goodIn_app (goodIn_of _ (by decide +kernel)) ggX12_isWanted_X12_many
theorem dX12_isWanted_0 : decode cX12_isWanted 0 = .ok (.iload_n 2, 1) := by decide +kernel
theorem dX12_isWanted_1 : decode cX12_isWanted 1 = .ok (.ifCond .ne 19, 3) := by decide +kernel
theorem dX12_isWanted_4 : decode cX12_isWanted 4 = .ok (.iload_n 1, 1) := by decide +kernel
theorem dX12_isWanted_5 : decode cX12_isWanted 5 = .ok (.invokestatic 132, 3) := by decide +kernel
theorem dX12_isWanted_8 : decode cX12_isWanted 8 = .ok (.iconst 1, 1) := by decide +kernel
theorem dX12_isWanted_9 : decode cX12_isWanted 9 = .ok (.if_icmp .ne 7, 3) := by decide +kernel
theorem dX12_isWanted_12 : decode cX12_isWanted 12 = .ok (.iconst 1, 1) := by decide +kernel
theorem dX12_isWanted_13 : decode cX12_isWanted 13 = .ok (.goto 17, 3) := by decide +kernel
theorem dX12_isWanted_16 : decode cX12_isWanted 16 = .ok (.iconst 0, 1) := by decide +kernel
theorem dX12_isWanted_17 : decode cX12_isWanted 17 = .ok (.goto 13, 3) := by decide +kernel
theorem dX12_isWanted_20 : decode cX12_isWanted 20 = .ok (.iload_n 1, 1) := by decide +kernel
theorem dX12_isWanted_21 : decode cX12_isWanted 21 = .ok (.iload_n 2, 1) := by decide +kernel
theorem dX12_isWanted_22 : decode cX12_isWanted 22 = .ok (.if_icmp .ne 7, 3) := by decide +kernel
theorem dX12_isWanted_25 : decode cX12_isWanted 25 = .ok (.iconst 1, 1) := by decide +kernel
theorem dX12_isWanted_26 : decode cX12_isWanted 26 = .ok (.goto 4, 3) := by decide +kernel
theorem dX12_isWanted_29 : decode cX12_isWanted 29 = .ok (.iconst 0, 1) := by decide +kernel
theorem dX12_isWanted_30 : decode cX12_isWanted 30 = .ok (.ireturn, 1) := by decide +kernel
set_option maxRecDepth 20000 in
theorem ggX12_looks_X12_isWanted : GoodIn wsX12_looks wsX12_isWanted := goodIn_r _ [11, 12, 13, 10, 14] (by decide +kernel) (by decide +kernel)
set_option maxRecDepth 20000 in
theorem gX12_looks_X12_isWanted : GoodIn wsX12_looks (wsV RX12 139 RX12 yX12_isWanted wsX12_isWanted) := goodIn_app (goodIn_of _ (by decide +kernel)) ggX12_looks_X12_isWanted
set_option maxRecDepth 20000 in
theorem ggX12_looks_X12_next : GoodIn wsX12_looks wsX12_next := goodIn_r _ [18, 19, 20, 21, 22, 10, 23, 24, 25, 26, 27, 28, 29, 30, 31, 32, 33, 34, 35, 36, 37, 38, 39, 40, 41, 42, 43, 44, 45, 46, 47, 48, 49, 50, 51, 52, 53] (by decide +kernel) (by decide +kernel)
set_option maxRecDepth 20000 in
theorem gX12_looks_X12_next : GoodIn wsX12_looks (wsV RX12 129 RX12 yX12_next wsX12_next) := goodIn_app (goodIn_of _ (by decide +kernel)) ggX12_looks_X12_next
theorem dX12_looks_0 : decode cX12_looks 0 = .ok (.iconst 0, 1) := by decide +kernel
theorem dX12_looks_1 : decode cX12_looks 1 = .ok (.istore 4, 2) := by decide +kernel
theorem dX12_looks_3 : decode cX12_looks 3 = .ok (.iload 4, 2) := by decide +kernel
theorem dX12_looks_5 : decode cX12_looks 5 = .ok (.sipush 4096, 3) := by decide +kernel
theorem dX12_looks_8 : decode cX12_looks 8 = .ok (.if_icmp .ge 17, 3) := by decide +kernel
theorem dX12_looks_11 : decode cX12_looks 11 = .ok (.aload_n 0, 1) := by decide +kernel
theorem dX12_looks_12 : decode cX12_looks 12 = .ok (.getfield 40, 3) := by decide +kernel
theorem dX12_looks_15 : decode cX12_looks 15 = .ok (.iload 4, 2) := by decide +kernel
theorem dX12_looks_17 : decode cX12_looks 17 = .ok (.iconst 0, 1) := by decide +kernel
theorem dX12_looks_18 : decode cX12_looks 18 = .ok (.bastore, 1) := by decide +kernel
theorem dX12_looks_19 : decode cX12_looks 19 = .ok (.iinc 4 1, 3) := by decide +kernel
theorem dX12_looks_22 : decode cX12_looks 22 = .ok (.goto (-19), 3) := by decide +kernel
theorem dX12_looks_25 : decode cX12_looks 25 = .ok (.aload_n 0, 1) := by decide +kernel
theorem dX12_looks_26 : decode cX12_looks 26 = .ok (.iconst 1, 1) := by decide +kernel
theorem dX12_looks_27 : decode cX12_looks 27 = .ok (.putfield 136, 3) := by decide +kernel
theorem dX12_looks_30 : decode cX12_looks 30 = .ok (.aload_n 0, 1) := by decide +kernel
theorem dX12_looks_31 : decode cX12_looks 31 = .ok (.getfield 31, 3) := by decide +kernel
theorem dX12_looks_34 : decode cX12_looks 34 = .ok (.iconst 0, 1) := by decide +kernel
theorem dX12_looks_35 : decode cX12_looks 35 = .ok (.iload_n 2, 1) := by decide +kernel
theorem dX12_looks_36 : decode cX12_looks 36 = .ok (.iastore, 1) := by decide +kernel
theorem dX12_looks_37 : decode cX12_looks 37 = .ok (.aload_n 0, 1) := by decide +kernel
theorem dX12_looks_38 : decode cX12_looks 38 = .ok (.getfield 40, 3) := by decide +kernel
theorem dX12_looks_41 : decode cX12_looks 41 = .ok (.iload_n 2, 1) := by decide +kernel
theorem dX12_looks_42 : decode cX12_looks 42 = .ok (.iconst 1, 1) := by decide +kernel
theorem dX12_looks_43 : decode cX12_looks 43 = .ok (.bastore, 1) := by decide +kernel
theorem dX12_looks_44 : decode cX12_looks 44 = .ok (.aload_n 0, 1) := by decide +kernel
theorem dX12_looks_45 : decode cX12_looks 45 = .ok (.getfield 34, 3) := by decide +kernel
theorem dX12_looks_48 : decode cX12_looks 48 = .ok (.iload_n 2, 1) := by decide +kernel
theorem dX12_looks_49 : decode cX12_looks 49 = .ok (.iconst 0, 1) := by decide +kernel
theorem dX12_looks_50 : decode cX12_looks 50 = .ok (.iastore, 1) := by decide +kernel
theorem dX12_looks_51 : decode cX12_looks 51 = .ok (.iload_n 3, 1) := by decide +kernel
theorem dX12_looks_52 : decode cX12_looks 52 = .ok (.ifCond .lt 14, 3) := by decide +kernel
theorem dX12_looks_55 : decode cX12_looks 55 = .ok (.aload_n 0, 1) := by decide +kernel
theorem dX12_looks_56 : decode cX12_looks 56 = .ok (.iload_n 2, 1) := by decide +kernel
theorem dX12_looks_57 : decode cX12_looks 57 = .ok (.iload_n 3, 1) := by decide +kernel
theorem dX12_looks_58 : decode cX12_looks 58 = .ok (.invokevirtual 139, 3) := by decide +kernel
theorem dX12_looks_61 : decode cX12_looks 61 = .ok (.ifCond .eq 5, 3) := by decide +kernel
theorem dX12_looks_64 : decode cX12_looks 64 = .ok (.iload_n 2, 1) := by decide +kernel
theorem dX12_looks_65 : decode cX12_looks 65 = .ok (.ireturn, 1) := by decide +kernel
theorem dX12_looks_66 : decode cX12_looks 66 = .ok (.iconst 0, 1) := by decide +kernel
theorem dX12_looks_67 : decode cX12_looks 67 = .ok (.istore 4, 2) := by decide +kernel
theorem dX12_looks_69 : decode cX12_looks 69 = .ok (.iload 4, 2) := by decide +kernel
theorem dX12_looks_71 : decode cX12_looks 71 = .ok (.aload_n 0, 1) := by decide +kernel
theorem dX12_looks_72 : decode cX12_looks 72 = .ok (.getfield 136, 3) := by decide +kernel
theorem dX12_looks_75 : decode cX12_looks 75 = .ok (.if_icmp .ge 129, 3) := by decide +kernel
theorem dX12_looks_78 : decode cX12_looks 78 = .ok (.iconst 0, 1) := by decide +kernel
theorem dX12_looks_79 : decode cX12_looks 79 = .ok (.istore 5, 2) := by decide +kernel
theorem dX12_looks_81 : decode cX12_looks 81 = .ok (.iload 5, 2) := by decide +kernel
theorem dX12_looks_83 : decode cX12_looks 83 = .ok (.aload_n 0, 1) := by decide +kernel
theorem dX12_looks_84 : decode cX12_looks 84 = .ok (.getfield 13, 3) := by decide +kernel
theorem dX12_looks_87 : decode cX12_looks 87 = .ok (.iload_n 1, 1) := by decide +kernel
theorem dX12_looks_88 : decode cX12_looks 88 = .ok (.iaload, 1) := by decide +kernel
theorem dX12_looks_89 : decode cX12_looks 89 = .ok (.if_icmp .ge 109, 3) := by decide +kernel
theorem dX12_looks_92 : decode cX12_looks 92 = .ok (.aload_n 0, 1) := by decide +kernel
theorem dX12_looks_93 : decode cX12_looks 93 = .ok (.iload_n 1, 1) := by decide +kernel
theorem dX12_looks_94 : decode cX12_looks 94 = .ok (.aload_n 0, 1) := by decide +kernel
theorem dX12_looks_95 : decode cX12_looks 95 = .ok (.getfield 31, 3) := by decide +kernel
theorem dX12_looks_98 : decode cX12_looks 98 = .ok (.iload 4, 2) := by decide +kernel
theorem dX12_looks_100 : decode cX12_looks 100 = .ok (.iaload, 1) := by decide +kernel
theorem dX12_looks_101 : decode cX12_looks 101 = .ok (.iload 5, 2) := by decide +kernel
theorem dX12_looks_103 : decode cX12_looks 103 = .ok (.invokevirtual 129, 3) := by decide +kernel
theorem dX12_looks_106 : decode cX12_looks 106 = .ok (.istore 6, 2) := by decide +kernel
theorem dX12_looks_108 : decode cX12_looks 108 = .ok (.iload 6, 2) := by decide +kernel
theorem dX12_looks_110 : decode cX12_looks 110 = .ok (.ifCond .le 82, 3) := by decide +kernel
theorem dX12_looks_113 : decode cX12_looks 113 = .ok (.aload_n 0, 1) := by decide +kernel
theorem dX12_looks_114 : decode cX12_looks 114 = .ok (.getfield 40, 3) := by decide +kernel
theorem dX12_looks_117 : decode cX12_looks 117 = .ok (.iload 6, 2) := by decide +kernel
theorem dX12_looks_119 : decode cX12_looks 119 = .ok (.baload, 1) := by decide +kernel
theorem dX12_looks_120 : decode cX12_looks 120 = .ok (.ifCond .ne 72, 3) := by decide +kernel
theorem dX12_looks_123 : decode cX12_looks 123 = .ok (.aload_n 0, 1) := by decide +kernel
theorem dX12_looks_124 : decode cX12_looks 124 = .ok (.getfield 40, 3) := by decide +kernel
theorem dX12_looks_127 : decode cX12_looks 127 = .ok (.iload 6, 2) := by decide +kernel
theorem dX12_looks_129 : decode cX12_looks 129 = .ok (.iconst 1, 1) := by decide +kernel
theorem dX12_looks_130 : decode cX12_looks 130 = .ok (.bastore, 1) := by decide +kernel
theorem dX12_looks_131 : decode cX12_looks 131 = .ok (.aload_n 0, 1) := by decide +kernel
theorem dX12_looks_132 : decode cX12_looks 132 = .ok (.getfield 34, 3) := by decide +kernel
theorem dX12_looks_135 : decode cX12_looks 135 = .ok (.iload 6, 2) := by decide +kernel
theorem dX12_looks_137 : decode cX12_looks 137 = .ok (.aload_n 0, 1) := by decide +kernel
theorem dX12_looks_138 : decode cX12_looks 138 = .ok (.getfield 31, 3) := by decide +kernel
theorem dX12_looks_141 : decode cX12_looks 141 = .ok (.iload 4, 2) := by decide +kernel
theorem dX12_looks_143 : decode cX12_looks 143 = .ok (.iaload, 1) := by decide +kernel
theorem dX12_looks_144 : decode cX12_looks 144 = .ok (.iastore, 1) := by decide +kernel
theorem dX12_looks_145 : decode cX12_looks 145 = .ok (.aload_n 0, 1) := by decide +kernel
theorem dX12_looks_146 : decode cX12_looks 146 = .ok (.getfield 37, 3) := by decide +kernel
theorem dX12_looks_149 : decode cX12_looks 149 = .ok (.iload 6, 2) := by decide +kernel
theorem dX12_looks_151 : decode cX12_looks 151 = .ok (.iload 5, 2) := by decide +kernel
theorem dX12_looks_153 : decode cX12_looks 153 = .ok (.iastore, 1) := by decide +kernel
theorem dX12_looks_154 : decode cX12_looks 154 = .ok (.aload_n 0, 1) := by decide +kernel
theorem dX12_looks_155 : decode cX12_looks 155 = .ok (.getfield 31, 3) := by decide +kernel
theorem dX12_looks_158 : decode cX12_looks 158 = .ok (.aload_n 0, 1) := by decide +kernel
theorem dX12_looks_159 : decode cX12_looks 159 = .ok (.getfield 136, 3) := by decide +kernel
theorem dX12_looks_162 : decode cX12_looks 162 = .ok (.iload 6, 2) := by decide +kernel
theorem dX12_looks_164 : decode cX12_looks 164 = .ok (.iastore, 1) := by decide +kernel
theorem dX12_looks_165 : decode cX12_looks 165 = .ok (.aload_n 0, 1) := by decide +kernel
theorem dX12_looks_166 : decode cX12_looks 166 = .ok (.dup, 1) := by decide +kernel
theorem dX12_looks_167 : decode cX12_looks 167 = .ok (.getfield 136, 3) := by decide +kernel
theorem dX12_looks_170 : decode cX12_looks 170 = .ok (.iconst 1, 1) := by decide +kernel
theorem dX12_looks_171 : decode cX12_looks 171 = .ok (.iadd, 1) := by decide +kernel
theorem dX12_looks_172 : decode cX12_looks 172 = .ok (.putfield 136, 3) := by decide +kernel
theorem dX12_looks_175 : decode cX12_looks 175 = .ok (.iload_n 3, 1) := by decide +kernel
theorem dX12_looks_176 : decode cX12_looks 176 = .ok (.ifCond .lt 16, 3) := by decide +kernel
theorem dX12_looks_179 : decode cX12_looks 179 = .ok (.aload_n 0, 1) := by decide +kernel
theorem dX12_looks_180 : decode cX12_looks 180 = .ok (.iload 6, 2) := by decide +kernel
theorem dX12_looks_182 : decode cX12_looks 182 = .ok (.iload_n 3, 1) := by decide +kernel
theorem dX12_looks_183 : decode cX12_looks 183 = .ok (.invokevirtual 139, 3) := by decide +kernel
theorem dX12_looks_186 : decode cX12_looks 186 = .ok (.ifCond .eq 6, 3) := by decide +kernel
theorem dX12_looks_189 : decode cX12_looks 189 = .ok (.iload 6, 2) := by decide +kernel
theorem dX12_looks_191 : decode cX12_looks 191 = .ok (.ireturn, 1) := by decide +kernel
theorem dX12_looks_192 : decode cX12_looks 192 = .ok (.iinc 5 1, 3) := by decide +kernel
theorem dX12_looks_195 : decode cX12_looks 195 = .ok (.goto (-114), 3) := by decide +kernel
theorem dX12_looks_198 : decode cX12_looks 198 = .ok (.iinc 4 1, 3) := by decide +kernel
theorem dX12_looks_201 : decode cX12_looks 201 = .ok (.goto (-132), 3) := by decide +kernel
theorem dX12_looks_204 : decode cX12_looks 204 = .ok (.iconst 0, 1) := by decide +kernel
theorem dX12_looks_205 : decode cX12_looks 205 = .ok (.ireturn, 1) := by decide +kernel
theorem dX12_longTo_0 : decode cX12_longTo 0 = .ok (.iconst 0, 1) := by decide +kernel
theorem dX12_longTo_1 : decode cX12_longTo 1 = .ok (.istore_n 2, 1) := by decide +kernel
theorem dX12_longTo_2 : decode cX12_longTo 2 = .ok (.aload_n 0, 1) := by decide +kernel
theorem dX12_longTo_3 : decode cX12_longTo 3 = .ok (.getfield 34, 3) := by decide +kernel
theorem dX12_longTo_6 : decode cX12_longTo 6 = .ok (.iload_n 1, 1) := by decide +kernel
theorem dX12_longTo_7 : decode cX12_longTo 7 = .ok (.iaload, 1) := by decide +kernel
theorem dX12_longTo_8 : decode cX12_longTo 8 = .ok (.istore_n 3, 1) := by decide +kernel
theorem dX12_longTo_9 : decode cX12_longTo 9 = .ok (.iload_n 3, 1) := by decide +kernel
theorem dX12_longTo_10 : decode cX12_longTo 10 = .ok (.ifCond .le 16, 3) := by decide +kernel
theorem dX12_longTo_13 : decode cX12_longTo 13 = .ok (.iinc 2 1, 3) := by decide +kernel
theorem dX12_longTo_16 : decode cX12_longTo 16 = .ok (.aload_n 0, 1) := by decide +kernel
theorem dX12_longTo_17 : decode cX12_longTo 17 = .ok (.getfield 34, 3) := by decide +kernel
theorem dX12_longTo_20 : decode cX12_longTo 20 = .ok (.iload_n 3, 1) := by decide +kernel
theorem dX12_longTo_21 : decode cX12_longTo 21 = .ok (.iaload, 1) := by decide +kernel
theorem dX12_longTo_22 : decode cX12_longTo 22 = .ok (.istore_n 3, 1) := by decide +kernel
theorem dX12_longTo_23 : decode cX12_longTo 23 = .ok (.goto (-14), 3) := by decide +kernel
theorem dX12_longTo_26 : decode cX12_longTo 26 = .ok (.iload_n 2, 1) := by decide +kernel
theorem dX12_longTo_27 : decode cX12_longTo 27 = .ok (.ireturn, 1) := by decide +kernel
set_option maxRecDepth 20000 in
theorem ggX12_becomesWord_X12_longTo : GoodIn wsX12_becomesWord wsX12_longTo := goodIn_r _ [9, 4, 10, 11, 12, 13, 14, 15, 16, 17, 18, 19, 20, 21, 22, 23, 24, 25, 26, 27, 28, 29, 30, 31, 32, 33, 34, 35, 36, 37, 38, 39] (by decide +kernel) (by decide +kernel)
set_option maxRecDepth 20000 in
theorem gX12_becomesWord_X12_longTo : GoodIn wsX12_becomesWord (wsV RX12 142 RX12 yX12_longTo wsX12_longTo) := goodIn_app (goodIn_of _ (by decide +kernel)) ggX12_becomesWord_X12_longTo
theorem dX12_becomesWord_0 : decode cX12_becomesWord 0 = .ok (.aload_n 0, 1) := by decide +kernel
theorem dX12_becomesWord_1 : decode cX12_becomesWord 1 = .ok (.iload_n 1, 1) := by decide +kernel
theorem dX12_becomesWord_2 : decode cX12_becomesWord 2 = .ok (.invokevirtual 142, 3) := by decide +kernel
theorem dX12_becomesWord_5 : decode cX12_becomesWord 5 = .ok (.istore_n 2, 1) := by decide +kernel
theorem dX12_becomesWord_6 : decode cX12_becomesWord 6 = .ok (.iload_n 2, 1) := by decide +kernel
theorem dX12_becomesWord_7 : decode cX12_becomesWord 7 = .ok (.sipush 600, 3) := by decide +kernel
theorem dX12_becomesWord_10 : decode cX12_becomesWord 10 = .ok (.if_icmp .gt 46, 3) := by decide +kernel
theorem dX12_becomesWord_13 : decode cX12_becomesWord 13 = .ok (.aload_n 0, 1) := by decide +kernel
theorem dX12_becomesWord_14 : decode cX12_becomesWord 14 = .ok (.iload_n 2, 1) := by decide +kernel
theorem dX12_becomesWord_15 : decode cX12_becomesWord 15 = .ok (.putfield 123, 3) := by decide +kernel
theorem dX12_becomesWord_18 : decode cX12_becomesWord 18 = .ok (.iload_n 1, 1) := by decide +kernel
theorem dX12_becomesWord_19 : decode cX12_becomesWord 19 = .ok (.istore_n 3, 1) := by decide +kernel
theorem dX12_becomesWord_20 : decode cX12_becomesWord 20 = .ok (.iload_n 2, 1) := by decide +kernel
theorem dX12_becomesWord_21 : decode cX12_becomesWord 21 = .ok (.iconst 1, 1) := by decide +kernel
theorem dX12_becomesWord_22 : decode cX12_becomesWord 22 = .ok (.isub, 1) := by decide +kernel
theorem dX12_becomesWord_23 : decode cX12_becomesWord 23 = .ok (.istore 4, 2) := by decide +kernel
theorem dX12_becomesWord_25 : decode cX12_becomesWord 25 = .ok (.iload 4, 2) := by decide +kernel
theorem dX12_becomesWord_27 : decode cX12_becomesWord 27 = .ok (.ifCond .lt 29, 3) := by decide +kernel
theorem dX12_becomesWord_30 : decode cX12_becomesWord 30 = .ok (.aload_n 0, 1) := by decide +kernel
theorem dX12_becomesWord_31 : decode cX12_becomesWord 31 = .ok (.getfield 28, 3) := by decide +kernel
theorem dX12_becomesWord_34 : decode cX12_becomesWord 34 = .ok (.iload 4, 2) := by decide +kernel
theorem dX12_becomesWord_36 : decode cX12_becomesWord 36 = .ok (.aload_n 0, 1) := by decide +kernel
theorem dX12_becomesWord_37 : decode cX12_becomesWord 37 = .ok (.getfield 37, 3) := by decide +kernel
theorem dX12_becomesWord_40 : decode cX12_becomesWord 40 = .ok (.iload_n 3, 1) := by decide +kernel
theorem dX12_becomesWord_41 : decode cX12_becomesWord 41 = .ok (.iaload, 1) := by decide +kernel
theorem dX12_becomesWord_42 : decode cX12_becomesWord 42 = .ok (.iastore, 1) := by decide +kernel
theorem dX12_becomesWord_43 : decode cX12_becomesWord 43 = .ok (.aload_n 0, 1) := by decide +kernel
theorem dX12_becomesWord_44 : decode cX12_becomesWord 44 = .ok (.getfield 34, 3) := by decide +kernel
theorem dX12_becomesWord_47 : decode cX12_becomesWord 47 = .ok (.iload_n 3, 1) := by decide +kernel
theorem dX12_becomesWord_48 : decode cX12_becomesWord 48 = .ok (.iaload, 1) := by decide +kernel
theorem dX12_becomesWord_49 : decode cX12_becomesWord 49 = .ok (.istore_n 3, 1) := by decide +kernel
theorem dX12_becomesWord_50 : decode cX12_becomesWord 50 = .ok (.iinc 4 (-1), 3) := by decide +kernel
theorem dX12_becomesWord_53 : decode cX12_becomesWord 53 = .ok (.goto (-28), 3) := by decide +kernel
theorem dX12_becomesWord_56 : decode cX12_becomesWord 56 = .ok (.iload_n 2, 1) := by decide +kernel
theorem dX12_becomesWord_57 : decode cX12_becomesWord 57 = .ok (.ireturn, 1) := by decide +kernel
set_option maxRecDepth 20000 in
theorem ggX12_shortest_X12_isSet : GoodIn wsX12_shortest wsX12_isSet := goodIn_r _ [5, 6, 7, 8, 9, 4, 10, 11, 12, 13, 14, 50, 51, 52, 53, 54, 55, 56, 57, 58, 59, 60, 61, 62, 63, 64, 65, 66, 67, 68, 69, 70, 71, 72, 73, 74, 75, 76, 77, 78, 79] (by decide +kernel) (by decide +kernel)
set_option maxRecDepth 20000 in
theorem gX12_shortest_X12_isSet : GoodIn wsX12_shortest (wsV RX12 126 RX12 yX12_isSet wsX12_isSet) := goodIn_app (goodIn_of _ (by decide +kernel)) ggX12_shortest_X12_isSet
set_option maxRecDepth 20000 in
theorem ggX12_shortest_X12_looks : GoodIn wsX12_shortest wsX12_looks := goodIn_r _ [18, 19, 20, 21, 22, 23, 24, 25, 26, 27, 4, 28, 29, 30, 31, 32, 33, 34, 35, 6, 36, 37, 38, 39, 50, 51, 52, 53, 54, 55, 56, 57, 58, 59, 60, 61, 62, 63, 64, 65, 66, 67, 68, 69, 70, 71, 72, 73, 74, 75, 76, 77, 78, 79] (by decide +kernel) (by decide +kernel)
set_option maxRecDepth 20000 in
theorem gX12_shortest_X12_looks : GoodIn wsX12_shortest (wsV RX12 145 RX12 yX12_looks wsX12_looks) := goodIn_app (goodIn_of _ (by decide +kernel)) ggX12_shortest_X12_looks
set_option maxRecDepth 20000 in
theorem ggX12_shortest_X12_becomesWord : GoodIn wsX12_shortest wsX12_becomesWord := goodIn_r _ [43, 44, 45, 24, 22, 46, 47, 48, 4, 49, 50, 51, 52, 53, 54, 55, 56, 57, 58, 59, 60, 61, 62, 63, 64, 65, 66, 67, 68, 69, 70, 71, 72, 73, 74, 75, 76, 77, 78, 79] (by decide +kernel) (by decide +kernel)
set_option maxRecDepth 20000 in
theorem gX12_shortest_X12_becomesWord : GoodIn wsX12_shortest (wsV RX12 148 RX12 yX12_becomesWord wsX12_becomesWord) := goodIn_app (goodIn_of _ (by decide +kernel)) ggX12_shortest_X12_becomesWord
theorem dX12_shortest_0 : decode cX12_shortest 0 = .ok (.aload_n 0, 1) := by decide +kernel
theorem dX12_shortest_1 : decode cX12_shortest 1 = .ok (.iload_n 1, 1) := by decide +kernel
theorem dX12_shortest_2 : decode cX12_shortest 2 = .ok (.iload_n 2, 1) := by decide +kernel
theorem dX12_shortest_3 : decode cX12_shortest 3 = .ok (.invokevirtual 126, 3) := by decide +kernel
theorem dX12_shortest_6 : decode cX12_shortest 6 = .ok (.ifCond .ne 6, 3) := by decide +kernel
theorem dX12_shortest_9 : decode cX12_shortest 9 = .ok (.bipush (-2), 2) := by decide +kernel
theorem dX12_shortest_11 : decode cX12_shortest 11 = .ok (.ireturn, 1) := by decide +kernel
theorem dX12_shortest_12 : decode cX12_shortest 12 = .ok (.aload_n 0, 1) := by decide +kernel
theorem dX12_shortest_13 : decode cX12_shortest 13 = .ok (.iload_n 1, 1) := by decide +kernel
theorem dX12_shortest_14 : decode cX12_shortest 14 = .ok (.iload_n 2, 1) := by decide +kernel
theorem dX12_shortest_15 : decode cX12_shortest 15 = .ok (.iconst 0, 1) := by decide +kernel
theorem dX12_shortest_16 : decode cX12_shortest 16 = .ok (.invokevirtual 145, 3) := by decide +kernel
theorem dX12_shortest_19 : decode cX12_shortest 19 = .ok (.istore_n 3, 1) := by decide +kernel
theorem dX12_shortest_20 : decode cX12_shortest 20 = .ok (.iload_n 3, 1) := by decide +kernel
theorem dX12_shortest_21 : decode cX12_shortest 21 = .ok (.ifCond .ne 7, 3) := by decide +kernel
theorem dX12_shortest_24 : decode cX12_shortest 24 = .ok (.iconst (-1), 1) := by decide +kernel
theorem dX12_shortest_25 : decode cX12_shortest 25 = .ok (.goto 8, 3) := by decide +kernel
theorem dX12_shortest_28 : decode cX12_shortest 28 = .ok (.aload_n 0, 1) := by decide +kernel
theorem dX12_shortest_29 : decode cX12_shortest 29 = .ok (.iload_n 3, 1) := by decide +kernel
theorem dX12_shortest_30 : decode cX12_shortest 30 = .ok (.invokevirtual 148, 3) := by decide +kernel
theorem dX12_shortest_33 : decode cX12_shortest 33 = .ok (.ireturn, 1) := by decide +kernel
set_option maxRecDepth 20000 in
theorem ggX12_shortestTo_X12_isSet : GoodIn wsX12_shortestTo wsX12_isSet := goodIn_r _ [5, 6, 7, 8, 9, 4, 10, 11, 12, 13, 14, 54, 55, 56, 57, 58, 59, 60, 61, 62, 63, 64, 65, 66, 67, 68, 69, 70, 71, 72, 73, 74, 75, 76, 77, 78, 79, 80, 81, 82, 83] (by decide +kernel) (by decide +kernel)
set_option maxRecDepth 20000 in
theorem gX12_shortestTo_X12_isSet : GoodIn wsX12_shortestTo (wsV RX12 126 RX12 yX12_isSet wsX12_isSet) := goodIn_app (goodIn_of _ (by decide +kernel)) ggX12_shortestTo_X12_isSet
set_option maxRecDepth 20000 in
theorem ggX12_shortestTo_X12_isState : GoodIn wsX12_shortestTo wsX12_isState := goodIn_r _ [18, 6, 7, 8, 9, 4, 10, 11, 12, 13, 14, 54, 55, 56, 57, 58, 59, 60, 61, 62, 63, 64, 65, 66, 67, 68, 69, 70, 71, 72, 73, 74, 75, 76, 77, 78, 79, 80, 81, 82, 83] (by decide +kernel) (by decide +kernel)
set_option maxRecDepth 20000 in
theorem gX12_shortestTo_X12_isState : GoodIn wsX12_shortestTo (wsV RX12 110 RX12 yX12_isState wsX12_isState) := goodIn_app (goodIn_of _ (by decide +kernel)) ggX12_shortestTo_X12_isState
set_option maxRecDepth 20000 in
theorem ggX12_shortestTo_X12_looks : GoodIn wsX12_shortestTo wsX12_looks := goodIn_r _ [22, 23, 24, 25, 26, 27, 28, 29, 30, 31, 4, 32, 33, 34, 35, 36, 37, 38, 39, 6, 40, 41, 42, 43, 54, 55, 56, 57, 58, 59, 60, 61, 62, 63, 64, 65, 66, 67, 68, 69, 70, 71, 72, 73, 74, 75, 76, 77, 78, 79, 80, 81, 82, 83] (by decide +kernel) (by decide +kernel)
set_option maxRecDepth 20000 in
theorem gX12_shortestTo_X12_looks : GoodIn wsX12_shortestTo (wsV RX12 145 RX12 yX12_looks wsX12_looks) := goodIn_app (goodIn_of _ (by decide +kernel)) ggX12_shortestTo_X12_looks
set_option maxRecDepth 20000 in
theorem ggX12_shortestTo_X12_becomesWord : GoodIn wsX12_shortestTo wsX12_becomesWord := goodIn_r _ [47, 48, 49, 28, 26, 50, 51, 52, 4, 53, 54, 55, 56, 57, 58, 59, 60, 61, 62, 63, 64, 65, 66, 67, 68, 69, 70, 71, 72, 73, 74, 75, 76, 77, 78, 79, 80, 81, 82, 83] (by decide +kernel) (by decide +kernel)
set_option maxRecDepth 20000 in
theorem gX12_shortestTo_X12_becomesWord : GoodIn wsX12_shortestTo (wsV RX12 148 RX12 yX12_becomesWord wsX12_becomesWord) := goodIn_app (goodIn_of _ (by decide +kernel)) ggX12_shortestTo_X12_becomesWord
theorem dX12_shortestTo_0 : decode cX12_shortestTo 0 = .ok (.aload_n 0, 1) := by decide +kernel
theorem dX12_shortestTo_1 : decode cX12_shortestTo 1 = .ok (.iload_n 1, 1) := by decide +kernel
theorem dX12_shortestTo_2 : decode cX12_shortestTo 2 = .ok (.iload_n 2, 1) := by decide +kernel
theorem dX12_shortestTo_3 : decode cX12_shortestTo 3 = .ok (.invokevirtual 126, 3) := by decide +kernel
theorem dX12_shortestTo_6 : decode cX12_shortestTo 6 = .ok (.ifCond .eq 12, 3) := by decide +kernel
theorem dX12_shortestTo_9 : decode cX12_shortestTo 9 = .ok (.aload_n 0, 1) := by decide +kernel
theorem dX12_shortestTo_10 : decode cX12_shortestTo 10 = .ok (.iload_n 1, 1) := by decide +kernel
theorem dX12_shortestTo_11 : decode cX12_shortestTo 11 = .ok (.iload_n 3, 1) := by decide +kernel
theorem dX12_shortestTo_12 : decode cX12_shortestTo 12 = .ok (.invokevirtual 110, 3) := by decide +kernel
theorem dX12_shortestTo_15 : decode cX12_shortestTo 15 = .ok (.ifCond .ne 6, 3) := by decide +kernel
theorem dX12_shortestTo_18 : decode cX12_shortestTo 18 = .ok (.bipush (-2), 2) := by decide +kernel
theorem dX12_shortestTo_20 : decode cX12_shortestTo 20 = .ok (.ireturn, 1) := by decide +kernel
theorem dX12_shortestTo_21 : decode cX12_shortestTo 21 = .ok (.aload_n 0, 1) := by decide +kernel
theorem dX12_shortestTo_22 : decode cX12_shortestTo 22 = .ok (.iload_n 1, 1) := by decide +kernel
theorem dX12_shortestTo_23 : decode cX12_shortestTo 23 = .ok (.iload_n 2, 1) := by decide +kernel
theorem dX12_shortestTo_24 : decode cX12_shortestTo 24 = .ok (.iconst 1, 1) := by decide +kernel
theorem dX12_shortestTo_25 : decode cX12_shortestTo 25 = .ok (.iload_n 3, 1) := by decide +kernel
theorem dX12_shortestTo_26 : decode cX12_shortestTo 26 = .ok (.ishl, 1) := by decide +kernel
theorem dX12_shortestTo_27 : decode cX12_shortestTo 27 = .ok (.invokevirtual 145, 3) := by decide +kernel
theorem dX12_shortestTo_30 : decode cX12_shortestTo 30 = .ok (.istore 4, 2) := by decide +kernel
theorem dX12_shortestTo_32 : decode cX12_shortestTo 32 = .ok (.iload 4, 2) := by decide +kernel
theorem dX12_shortestTo_34 : decode cX12_shortestTo 34 = .ok (.ifCond .ne 7, 3) := by decide +kernel
theorem dX12_shortestTo_37 : decode cX12_shortestTo 37 = .ok (.iconst (-1), 1) := by decide +kernel
theorem dX12_shortestTo_38 : decode cX12_shortestTo 38 = .ok (.goto 9, 3) := by decide +kernel
theorem dX12_shortestTo_41 : decode cX12_shortestTo 41 = .ok (.aload_n 0, 1) := by decide +kernel
theorem dX12_shortestTo_42 : decode cX12_shortestTo 42 = .ok (.iload 4, 2) := by decide +kernel
theorem dX12_shortestTo_44 : decode cX12_shortestTo 44 = .ok (.invokevirtual 148, 3) := by decide +kernel
theorem dX12_shortestTo_47 : decode cX12_shortestTo 47 = .ok (.ireturn, 1) := by decide +kernel
set_option maxRecDepth 20000 in
theorem ggX12_rank_X12_isSet : GoodIn wsX12_rank wsX12_isSet := goodIn_r _ [7, 8, 9, 10, 11, 6, 12, 13, 14, 15, 16, 50, 51, 52, 53, 54, 55, 56, 57, 58, 59, 60, 61, 62, 63, 64, 65, 66, 67, 68, 69, 70, 71, 72, 73, 74, 75, 76, 77, 78, 79] (by decide +kernel) (by decide +kernel)
set_option maxRecDepth 20000 in
theorem gX12_rank_X12_isSet : GoodIn wsX12_rank (wsV RX12 126 RX12 yX12_isSet wsX12_isSet) := goodIn_app (goodIn_of _ (by decide +kernel)) ggX12_rank_X12_isSet
set_option maxRecDepth 20000 in
theorem ggX12_rank_X12_looks : GoodIn wsX12_rank wsX12_looks := goodIn_r _ [20, 21, 1, 2, 22, 23, 24, 25, 26, 27, 6, 28, 29, 30, 31, 32, 33, 34, 35, 8, 36, 37, 38, 39, 50, 51, 52, 53, 54, 55, 56, 57, 58, 59, 60, 61, 62, 63, 64, 65, 66, 67, 68, 69, 70, 71, 72, 73, 74, 75, 76, 77, 78, 79] (by decide +kernel) (by decide +kernel)
set_option maxRecDepth 20000 in
theorem gX12_rank_X12_looks : GoodIn wsX12_rank (wsV RX12 145 RX12 yX12_looks wsX12_looks) := goodIn_app (goodIn_of _ (by decide +kernel)) ggX12_rank_X12_looks
set_option maxRecDepth 20000 in
theorem ggX12_rank_X12_many : GoodIn wsX12_rank wsX12_many := goodIn_r _ [31] (by decide +kernel) (by decide +kernel)
set_option maxRecDepth 20000 in
theorem gX12_rank_X12_many : GoodIn wsX12_rank (va_wsS RX12 132 yX12_many wsX12_many) := goodIn_app (goodIn_of _ (by decide +kernel)) ggX12_rank_X12_many
set_option maxRecDepth 20000 in
theorem ggX12_rank_X12_becomesWord : GoodIn wsX12_rank wsX12_becomesWord := goodIn_r _ [43, 44, 45, 24, 22, 46, 47, 48, 6, 49, 50, 51, 52, 53, 54, 55, 56, 57, 58, 59, 60, 61, 62, 63, 64, 65, 66, 67, 68, 69, 70, 71, 72, 73, 74, 75, 76, 77, 78, 79] (by decide +kernel) (by decide +kernel)
set_option maxRecDepth 20000 in
theorem gX12_rank_X12_becomesWord : GoodIn wsX12_rank (wsV RX12 148 RX12 yX12_becomesWord wsX12_becomesWord) := goodIn_app (goodIn_of _ (by decide +kernel)) ggX12_rank_X12_becomesWord
theorem dX12_rank_0 : decode cX12_rank 0 = .ok (.aload_n 0, 1) := by decide +kernel
theorem dX12_rank_1 : decode cX12_rank 1 = .ok (.iload_n 1, 1) := by decide +kernel
theorem dX12_rank_2 : decode cX12_rank 2 = .ok (.iload_n 2, 1) := by decide +kernel
theorem dX12_rank_3 : decode cX12_rank 3 = .ok (.invokevirtual 126, 3) := by decide +kernel
theorem dX12_rank_6 : decode cX12_rank 6 = .ok (.ifCond .ne 6, 3) := by decide +kernel
theorem dX12_rank_9 : decode cX12_rank 9 = .ok (.bipush (-2), 2) := by decide +kernel
theorem dX12_rank_11 : decode cX12_rank 11 = .ok (.ireturn, 1) := by decide +kernel
theorem dX12_rank_12 : decode cX12_rank 12 = .ok (.aload_n 0, 1) := by decide +kernel
theorem dX12_rank_13 : decode cX12_rank 13 = .ok (.iload_n 1, 1) := by decide +kernel
theorem dX12_rank_14 : decode cX12_rank 14 = .ok (.iload_n 2, 1) := by decide +kernel
theorem dX12_rank_15 : decode cX12_rank 15 = .ok (.iconst (-1), 1) := by decide +kernel
theorem dX12_rank_16 : decode cX12_rank 16 = .ok (.invokevirtual 145, 3) := by decide +kernel
theorem dX12_rank_19 : decode cX12_rank 19 = .ok (.pop, 1) := by decide +kernel
theorem dX12_rank_20 : decode cX12_rank 20 = .ok (.iload_n 2, 1) := by decide +kernel
theorem dX12_rank_21 : decode cX12_rank 21 = .ok (.istore_n 3, 1) := by decide +kernel
theorem dX12_rank_22 : decode cX12_rank 22 = .ok (.iconst 1, 1) := by decide +kernel
theorem dX12_rank_23 : decode cX12_rank 23 = .ok (.istore 4, 2) := by decide +kernel
theorem dX12_rank_25 : decode cX12_rank 25 = .ok (.iload 4, 2) := by decide +kernel
theorem dX12_rank_27 : decode cX12_rank 27 = .ok (.aload_n 0, 1) := by decide +kernel
theorem dX12_rank_28 : decode cX12_rank 28 = .ok (.getfield 136, 3) := by decide +kernel
theorem dX12_rank_31 : decode cX12_rank 31 = .ok (.if_icmp .ge 38, 3) := by decide +kernel
theorem dX12_rank_34 : decode cX12_rank 34 = .ok (.aload_n 0, 1) := by decide +kernel
theorem dX12_rank_35 : decode cX12_rank 35 = .ok (.getfield 31, 3) := by decide +kernel
theorem dX12_rank_38 : decode cX12_rank 38 = .ok (.iload 4, 2) := by decide +kernel
theorem dX12_rank_40 : decode cX12_rank 40 = .ok (.iaload, 1) := by decide +kernel
theorem dX12_rank_41 : decode cX12_rank 41 = .ok (.invokestatic 132, 3) := by decide +kernel
theorem dX12_rank_44 : decode cX12_rank 44 = .ok (.iload_n 3, 1) := by decide +kernel
theorem dX12_rank_45 : decode cX12_rank 45 = .ok (.invokestatic 132, 3) := by decide +kernel
theorem dX12_rank_48 : decode cX12_rank 48 = .ok (.if_icmp .ge 13, 3) := by decide +kernel
theorem dX12_rank_51 : decode cX12_rank 51 = .ok (.aload_n 0, 1) := by decide +kernel
theorem dX12_rank_52 : decode cX12_rank 52 = .ok (.getfield 31, 3) := by decide +kernel
theorem dX12_rank_55 : decode cX12_rank 55 = .ok (.iload 4, 2) := by decide +kernel
theorem dX12_rank_57 : decode cX12_rank 57 = .ok (.iaload, 1) := by decide +kernel
theorem dX12_rank_58 : decode cX12_rank 58 = .ok (.goto 4, 3) := by decide +kernel
theorem dX12_rank_61 : decode cX12_rank 61 = .ok (.iload_n 3, 1) := by decide +kernel
theorem dX12_rank_62 : decode cX12_rank 62 = .ok (.istore_n 3, 1) := by decide +kernel
theorem dX12_rank_63 : decode cX12_rank 63 = .ok (.iinc 4 1, 3) := by decide +kernel
theorem dX12_rank_66 : decode cX12_rank 66 = .ok (.goto (-41), 3) := by decide +kernel
theorem dX12_rank_69 : decode cX12_rank 69 = .ok (.aload_n 0, 1) := by decide +kernel
theorem dX12_rank_70 : decode cX12_rank 70 = .ok (.iload_n 3, 1) := by decide +kernel
theorem dX12_rank_71 : decode cX12_rank 71 = .ok (.invokevirtual 148, 3) := by decide +kernel
theorem dX12_rank_74 : decode cX12_rank 74 = .ok (.pop, 1) := by decide +kernel
theorem dX12_rank_75 : decode cX12_rank 75 = .ok (.iload_n 3, 1) := by decide +kernel
theorem dX12_rank_76 : decode cX12_rank 76 = .ok (.invokestatic 132, 3) := by decide +kernel
theorem dX12_rank_79 : decode cX12_rank 79 = .ok (.ireturn, 1) := by decide +kernel
set_option maxRecDepth 20000 in
theorem ggX12_merge_X12_isState : GoodIn wsX12_merge wsX12_isState := goodIn_r _ [5, 6, 7, 8, 9, 4, 10, 11, 12, 13, 14, 44, 45, 46, 47, 48, 49, 50, 51, 52, 53, 54, 55, 56, 57, 58, 59, 60, 61, 62, 63, 64, 65, 66, 67, 68, 69, 70, 71, 72, 73] (by decide +kernel) (by decide +kernel)
set_option maxRecDepth 20000 in
theorem gX12_merge_X12_isState : GoodIn wsX12_merge (wsV RX12 110 RX12 yX12_isState wsX12_isState) := goodIn_app (goodIn_of _ (by decide +kernel)) ggX12_merge_X12_isState
set_option maxRecDepth 20000 in
theorem ggX12_merge_X12_looks : GoodIn wsX12_merge wsX12_looks := goodIn_r _ [18, 19, 20, 21, 22, 23, 24, 25, 26, 27, 4, 28, 29, 30, 31, 32, 33, 34, 35, 6, 36, 37, 38, 39, 44, 45, 46, 47, 48, 49, 50, 51, 52, 53, 54, 55, 56, 57, 58, 59, 60, 61, 62, 63, 64, 65, 66, 67, 68, 69, 70, 71, 72, 73] (by decide +kernel) (by decide +kernel)
set_option maxRecDepth 20000 in
theorem gX12_merge_X12_looks : GoodIn wsX12_merge (wsV RX12 145 RX12 yX12_looks wsX12_looks) := goodIn_app (goodIn_of _ (by decide +kernel)) ggX12_merge_X12_looks
set_option maxRecDepth 20000 in
theorem ggX12_merge_X12_longTo : GoodIn wsX12_merge wsX12_longTo := goodIn_r _ [43, 22, 44, 45, 46, 47, 48, 49, 50, 51, 52, 53, 54, 55, 56, 57, 58, 59, 60, 61, 62, 63, 64, 65, 66, 67, 68, 69, 70, 71, 72, 73] (by decide +kernel) (by decide +kernel)
set_option maxRecDepth 20000 in
theorem gX12_merge_X12_longTo : GoodIn wsX12_merge (wsV RX12 142 RX12 yX12_longTo wsX12_longTo) := goodIn_app (goodIn_of _ (by decide +kernel)) ggX12_merge_X12_longTo
theorem dX12_merge_0 : decode cX12_merge 0 = .ok (.aload_n 0, 1) := by decide +kernel
theorem dX12_merge_1 : decode cX12_merge 1 = .ok (.iload_n 1, 1) := by decide +kernel
theorem dX12_merge_2 : decode cX12_merge 2 = .ok (.iload_n 2, 1) := by decide +kernel
theorem dX12_merge_3 : decode cX12_merge 3 = .ok (.invokevirtual 110, 3) := by decide +kernel
theorem dX12_merge_6 : decode cX12_merge 6 = .ok (.ifCond .eq 17, 3) := by decide +kernel
theorem dX12_merge_9 : decode cX12_merge 9 = .ok (.aload_n 0, 1) := by decide +kernel
theorem dX12_merge_10 : decode cX12_merge 10 = .ok (.iload_n 1, 1) := by decide +kernel
theorem dX12_merge_11 : decode cX12_merge 11 = .ok (.iload_n 3, 1) := by decide +kernel
theorem dX12_merge_12 : decode cX12_merge 12 = .ok (.invokevirtual 110, 3) := by decide +kernel
theorem dX12_merge_15 : decode cX12_merge 15 = .ok (.ifCond .eq 8, 3) := by decide +kernel
theorem dX12_merge_18 : decode cX12_merge 18 = .ok (.iload_n 2, 1) := by decide +kernel
theorem dX12_merge_19 : decode cX12_merge 19 = .ok (.iload_n 3, 1) := by decide +kernel
theorem dX12_merge_20 : decode cX12_merge 20 = .ok (.if_icmp .ne 6, 3) := by decide +kernel
theorem dX12_merge_23 : decode cX12_merge 23 = .ok (.bipush (-2), 2) := by decide +kernel
theorem dX12_merge_25 : decode cX12_merge 25 = .ok (.ireturn, 1) := by decide +kernel
theorem dX12_merge_26 : decode cX12_merge 26 = .ok (.aload_n 0, 1) := by decide +kernel
theorem dX12_merge_27 : decode cX12_merge 27 = .ok (.iload_n 1, 1) := by decide +kernel
theorem dX12_merge_28 : decode cX12_merge 28 = .ok (.iconst 1, 1) := by decide +kernel
theorem dX12_merge_29 : decode cX12_merge 29 = .ok (.iload_n 2, 1) := by decide +kernel
theorem dX12_merge_30 : decode cX12_merge 30 = .ok (.ishl, 1) := by decide +kernel
theorem dX12_merge_31 : decode cX12_merge 31 = .ok (.iconst 1, 1) := by decide +kernel
theorem dX12_merge_32 : decode cX12_merge 32 = .ok (.iload_n 3, 1) := by decide +kernel
theorem dX12_merge_33 : decode cX12_merge 33 = .ok (.ishl, 1) := by decide +kernel
theorem dX12_merge_34 : decode cX12_merge 34 = .ok (.ior, 1) := by decide +kernel
theorem dX12_merge_35 : decode cX12_merge 35 = .ok (.iconst 0, 1) := by decide +kernel
theorem dX12_merge_36 : decode cX12_merge 36 = .ok (.invokevirtual 145, 3) := by decide +kernel
theorem dX12_merge_39 : decode cX12_merge 39 = .ok (.istore 4, 2) := by decide +kernel
theorem dX12_merge_41 : decode cX12_merge 41 = .ok (.iload 4, 2) := by decide +kernel
theorem dX12_merge_43 : decode cX12_merge 43 = .ok (.ifCond .ne 7, 3) := by decide +kernel
theorem dX12_merge_46 : decode cX12_merge 46 = .ok (.iconst (-1), 1) := by decide +kernel
theorem dX12_merge_47 : decode cX12_merge 47 = .ok (.goto 9, 3) := by decide +kernel
theorem dX12_merge_50 : decode cX12_merge 50 = .ok (.aload_n 0, 1) := by decide +kernel
theorem dX12_merge_51 : decode cX12_merge 51 = .ok (.iload 4, 2) := by decide +kernel
theorem dX12_merge_53 : decode cX12_merge 53 = .ok (.invokevirtual 142, 3) := by decide +kernel
theorem dX12_merge_56 : decode cX12_merge 56 = .ok (.ireturn, 1) := by decide +kernel
theorem dX12_isOne_0 : decode cX12_isOne 0 = .ok (.iload_n 1, 1) := by decide +kernel
theorem dX12_isOne_1 : decode cX12_isOne 1 = .ok (.iload_n 2, 1) := by decide +kernel
theorem dX12_isOne_2 : decode cX12_isOne 2 = .ok (.if_icmp .eq 17, 3) := by decide +kernel
theorem dX12_isOne_5 : decode cX12_isOne 5 = .ok (.aload_n 0, 1) := by decide +kernel
theorem dX12_isOne_6 : decode cX12_isOne 6 = .ok (.getfield 44, 3) := by decide +kernel
theorem dX12_isOne_9 : decode cX12_isOne 9 = .ok (.bipush 12, 2) := by decide +kernel
theorem dX12_isOne_11 : decode cX12_isOne 11 = .ok (.iload_n 1, 1) := by decide +kernel
theorem dX12_isOne_12 : decode cX12_isOne 12 = .ok (.imul, 1) := by decide +kernel
theorem dX12_isOne_13 : decode cX12_isOne 13 = .ok (.iload_n 2, 1) := by decide +kernel
theorem dX12_isOne_14 : decode cX12_isOne 14 = .ok (.iadd, 1) := by decide +kernel
theorem dX12_isOne_15 : decode cX12_isOne 15 = .ok (.baload, 1) := by decide +kernel
theorem dX12_isOne_16 : decode cX12_isOne 16 = .ok (.ifCond .eq 7, 3) := by decide +kernel
theorem dX12_isOne_19 : decode cX12_isOne 19 = .ok (.iconst 1, 1) := by decide +kernel
theorem dX12_isOne_20 : decode cX12_isOne 20 = .ok (.goto 4, 3) := by decide +kernel
theorem dX12_isOne_23 : decode cX12_isOne 23 = .ok (.iconst 0, 1) := by decide +kernel
theorem dX12_isOne_24 : decode cX12_isOne 24 = .ok (.ireturn, 1) := by decide +kernel
set_option maxRecDepth 20000 in
theorem ggX12_apartPairs_X12_at : GoodIn wsX12_apartPairs wsX12_at := goodIn_r _ [8] (by decide +kernel) (by decide +kernel)
set_option maxRecDepth 20000 in
theorem gX12_apartPairs_X12_at : GoodIn wsX12_apartPairs (va_wsS RX12 102 yX12_at wsX12_at) := goodIn_app (goodIn_of _ (by decide +kernel)) ggX12_apartPairs_X12_at
set_option maxRecDepth 20000 in
theorem ggX12_apartPairs_X12_isOne : GoodIn wsX12_apartPairs wsX12_isOne := goodIn_r _ [12, 2, 13, 14, 15, 16, 17, 18, 19, 20, 21, 22, 23, 24, 25, 26, 27, 28, 29, 30, 31, 32, 33, 34, 35, 36, 37, 38, 39, 40, 41, 42] (by decide +kernel) (by decide +kernel)
set_option maxRecDepth 20000 in
theorem gX12_apartPairs_X12_isOne : GoodIn wsX12_apartPairs (wsV RX12 151 RX12 yX12_isOne wsX12_isOne) := goodIn_app (goodIn_of _ (by decide +kernel)) ggX12_apartPairs_X12_isOne
theorem dX12_apartPairs_0 : decode cX12_apartPairs 0 = .ok (.aload_n 0, 1) := by decide +kernel
theorem dX12_apartPairs_1 : decode cX12_apartPairs 1 = .ok (.getfield 7, 3) := by decide +kernel
theorem dX12_apartPairs_4 : decode cX12_apartPairs 4 = .ok (.iload_n 1, 1) := by decide +kernel
theorem dX12_apartPairs_5 : decode cX12_apartPairs 5 = .ok (.iaload, 1) := by decide +kernel
theorem dX12_apartPairs_6 : decode cX12_apartPairs 6 = .ok (.istore_n 2, 1) := by decide +kernel
theorem dX12_apartPairs_7 : decode cX12_apartPairs 7 = .ok (.iconst 0, 1) := by decide +kernel
theorem dX12_apartPairs_8 : decode cX12_apartPairs 8 = .ok (.istore_n 3, 1) := by decide +kernel
theorem dX12_apartPairs_9 : decode cX12_apartPairs 9 = .ok (.iload_n 3, 1) := by decide +kernel
theorem dX12_apartPairs_10 : decode cX12_apartPairs 10 = .ok (.sipush 144, 3) := by decide +kernel
theorem dX12_apartPairs_13 : decode cX12_apartPairs 13 = .ok (.if_icmp .ge 16, 3) := by decide +kernel
theorem dX12_apartPairs_16 : decode cX12_apartPairs 16 = .ok (.aload_n 0, 1) := by decide +kernel
theorem dX12_apartPairs_17 : decode cX12_apartPairs 17 = .ok (.getfield 44, 3) := by decide +kernel
theorem dX12_apartPairs_20 : decode cX12_apartPairs 20 = .ok (.iload_n 3, 1) := by decide +kernel
theorem dX12_apartPairs_21 : decode cX12_apartPairs 21 = .ok (.iconst 0, 1) := by decide +kernel
theorem dX12_apartPairs_22 : decode cX12_apartPairs 22 = .ok (.bastore, 1) := by decide +kernel
theorem dX12_apartPairs_23 : decode cX12_apartPairs 23 = .ok (.iinc 3 1, 3) := by decide +kernel
theorem dX12_apartPairs_26 : decode cX12_apartPairs 26 = .ok (.goto (-17), 3) := by decide +kernel
theorem dX12_apartPairs_29 : decode cX12_apartPairs 29 = .ok (.iload_n 2, 1) := by decide +kernel
theorem dX12_apartPairs_30 : decode cX12_apartPairs 30 = .ok (.iload_n 2, 1) := by decide +kernel
theorem dX12_apartPairs_31 : decode cX12_apartPairs 31 = .ok (.iconst 1, 1) := by decide +kernel
theorem dX12_apartPairs_32 : decode cX12_apartPairs 32 = .ok (.isub, 1) := by decide +kernel
theorem dX12_apartPairs_33 : decode cX12_apartPairs 33 = .ok (.imul, 1) := by decide +kernel
theorem dX12_apartPairs_34 : decode cX12_apartPairs 34 = .ok (.iconst 2, 1) := by decide +kernel
theorem dX12_apartPairs_35 : decode cX12_apartPairs 35 = .ok (.idiv, 1) := by decide +kernel
theorem dX12_apartPairs_36 : decode cX12_apartPairs 36 = .ok (.istore_n 3, 1) := by decide +kernel
theorem dX12_apartPairs_37 : decode cX12_apartPairs 37 = .ok (.iconst 1, 1) := by decide +kernel
theorem dX12_apartPairs_38 : decode cX12_apartPairs 38 = .ok (.istore 4, 2) := by decide +kernel
theorem dX12_apartPairs_40 : decode cX12_apartPairs 40 = .ok (.iload 4, 2) := by decide +kernel
theorem dX12_apartPairs_42 : decode cX12_apartPairs 42 = .ok (.ifCond .eq 165, 3) := by decide +kernel
theorem dX12_apartPairs_45 : decode cX12_apartPairs 45 = .ok (.iconst 0, 1) := by decide +kernel
theorem dX12_apartPairs_46 : decode cX12_apartPairs 46 = .ok (.istore 4, 2) := by decide +kernel
theorem dX12_apartPairs_48 : decode cX12_apartPairs 48 = .ok (.iconst 0, 1) := by decide +kernel
theorem dX12_apartPairs_49 : decode cX12_apartPairs 49 = .ok (.istore 5, 2) := by decide +kernel
theorem dX12_apartPairs_51 : decode cX12_apartPairs 51 = .ok (.iload 5, 2) := by decide +kernel
theorem dX12_apartPairs_53 : decode cX12_apartPairs 53 = .ok (.iload_n 2, 1) := by decide +kernel
theorem dX12_apartPairs_54 : decode cX12_apartPairs 54 = .ok (.if_icmp .ge 150, 3) := by decide +kernel
theorem dX12_apartPairs_57 : decode cX12_apartPairs 57 = .ok (.iload 5, 2) := by decide +kernel
theorem dX12_apartPairs_59 : decode cX12_apartPairs 59 = .ok (.iconst 1, 1) := by decide +kernel
theorem dX12_apartPairs_60 : decode cX12_apartPairs 60 = .ok (.iadd, 1) := by decide +kernel
theorem dX12_apartPairs_61 : decode cX12_apartPairs 61 = .ok (.istore 6, 2) := by decide +kernel
theorem dX12_apartPairs_63 : decode cX12_apartPairs 63 = .ok (.iload 6, 2) := by decide +kernel
theorem dX12_apartPairs_65 : decode cX12_apartPairs 65 = .ok (.iload_n 2, 1) := by decide +kernel
theorem dX12_apartPairs_66 : decode cX12_apartPairs 66 = .ok (.if_icmp .ge 132, 3) := by decide +kernel
theorem dX12_apartPairs_69 : decode cX12_apartPairs 69 = .ok (.iconst 0, 1) := by decide +kernel
theorem dX12_apartPairs_70 : decode cX12_apartPairs 70 = .ok (.istore 7, 2) := by decide +kernel
theorem dX12_apartPairs_72 : decode cX12_apartPairs 72 = .ok (.iload 7, 2) := by decide +kernel
theorem dX12_apartPairs_74 : decode cX12_apartPairs 74 = .ok (.aload_n 0, 1) := by decide +kernel
theorem dX12_apartPairs_75 : decode cX12_apartPairs 75 = .ok (.getfield 13, 3) := by decide +kernel
theorem dX12_apartPairs_78 : decode cX12_apartPairs 78 = .ok (.iload_n 1, 1) := by decide +kernel
theorem dX12_apartPairs_79 : decode cX12_apartPairs 79 = .ok (.iaload, 1) := by decide +kernel
theorem dX12_apartPairs_80 : decode cX12_apartPairs 80 = .ok (.if_icmp .ge 112, 3) := by decide +kernel
theorem dX12_apartPairs_83 : decode cX12_apartPairs 83 = .ok (.aload_n 0, 1) := by decide +kernel
theorem dX12_apartPairs_84 : decode cX12_apartPairs 84 = .ok (.getfield 44, 3) := by decide +kernel
theorem dX12_apartPairs_87 : decode cX12_apartPairs 87 = .ok (.bipush 12, 2) := by decide +kernel
theorem dX12_apartPairs_89 : decode cX12_apartPairs 89 = .ok (.iload 5, 2) := by decide +kernel
theorem dX12_apartPairs_91 : decode cX12_apartPairs 91 = .ok (.imul, 1) := by decide +kernel
theorem dX12_apartPairs_92 : decode cX12_apartPairs 92 = .ok (.iload 6, 2) := by decide +kernel
theorem dX12_apartPairs_94 : decode cX12_apartPairs 94 = .ok (.iadd, 1) := by decide +kernel
theorem dX12_apartPairs_95 : decode cX12_apartPairs 95 = .ok (.baload, 1) := by decide +kernel
theorem dX12_apartPairs_96 : decode cX12_apartPairs 96 = .ok (.ifCond .ne 96, 3) := by decide +kernel
theorem dX12_apartPairs_99 : decode cX12_apartPairs 99 = .ok (.aload_n 0, 1) := by decide +kernel
theorem dX12_apartPairs_100 : decode cX12_apartPairs 100 = .ok (.getfield 16, 3) := by decide +kernel
theorem dX12_apartPairs_103 : decode cX12_apartPairs 103 = .ok (.iload_n 1, 1) := by decide +kernel
theorem dX12_apartPairs_104 : decode cX12_apartPairs 104 = .ok (.iload 5, 2) := by decide +kernel
theorem dX12_apartPairs_106 : decode cX12_apartPairs 106 = .ok (.iload 7, 2) := by decide +kernel
