theorem dX12_colour_28 : decode cX12_colour 28 = .ok (.istore_n 2, 1) := by decide +kernel
theorem dX12_colour_29 : decode cX12_colour 29 = .ok (.iconst 1, 1) := by decide +kernel
theorem dX12_colour_30 : decode cX12_colour 30 = .ok (.istore_n 3, 1) := by decide +kernel
theorem dX12_colour_31 : decode cX12_colour 31 = .ok (.iconst 2, 1) := by decide +kernel
theorem dX12_colour_32 : decode cX12_colour 32 = .ok (.istore 4, 2) := by decide +kernel
theorem dX12_colour_34 : decode cX12_colour 34 = .ok (.iload 4, 2) := by decide +kernel
theorem dX12_colour_36 : decode cX12_colour 36 = .ok (.aload_n 0, 1) := by decide +kernel
theorem dX12_colour_37 : decode cX12_colour 37 = .ok (.getfield 13, 3) := by decide +kernel
theorem dX12_colour_40 : decode cX12_colour 40 = .ok (.iload_n 1, 1) := by decide +kernel
theorem dX12_colour_41 : decode cX12_colour 41 = .ok (.iaload, 1) := by decide +kernel
theorem dX12_colour_42 : decode cX12_colour 42 = .ok (.if_icmp .gt 14, 3) := by decide +kernel
theorem dX12_colour_45 : decode cX12_colour 45 = .ok (.iload_n 3, 1) := by decide +kernel
theorem dX12_colour_46 : decode cX12_colour 46 = .ok (.iload 4, 2) := by decide +kernel
theorem dX12_colour_48 : decode cX12_colour 48 = .ok (.imul, 1) := by decide +kernel
theorem dX12_colour_49 : decode cX12_colour 49 = .ok (.istore_n 3, 1) := by decide +kernel
theorem dX12_colour_50 : decode cX12_colour 50 = .ok (.iinc 4 1, 3) := by decide +kernel
theorem dX12_colour_53 : decode cX12_colour 53 = .ok (.goto (-19), 3) := by decide +kernel
theorem dX12_colour_56 : decode cX12_colour 56 = .ok (.iconst 0, 1) := by decide +kernel
theorem dX12_colour_57 : decode cX12_colour 57 = .ok (.istore 4, 2) := by decide +kernel
theorem dX12_colour_59 : decode cX12_colour 59 = .ok (.iload 4, 2) := by decide +kernel
theorem dX12_colour_61 : decode cX12_colour 61 = .ok (.iload_n 2, 1) := by decide +kernel
theorem dX12_colour_62 : decode cX12_colour 62 = .ok (.if_icmp .ge 62, 3) := by decide +kernel
theorem dX12_colour_65 : decode cX12_colour 65 = .ok (.aload_n 0, 1) := by decide +kernel
theorem dX12_colour_66 : decode cX12_colour 66 = .ok (.getfield 75, 3) := by decide +kernel
theorem dX12_colour_69 : decode cX12_colour 69 = .ok (.iload 4, 2) := by decide +kernel
theorem dX12_colour_71 : decode cX12_colour 71 = .ok (.iconst 0, 1) := by decide +kernel
theorem dX12_colour_72 : decode cX12_colour 72 = .ok (.iastore, 1) := by decide +kernel
theorem dX12_colour_73 : decode cX12_colour 73 = .ok (.iconst 0, 1) := by decide +kernel
theorem dX12_colour_74 : decode cX12_colour 74 = .ok (.istore 5, 2) := by decide +kernel
theorem dX12_colour_76 : decode cX12_colour 76 = .ok (.iload 5, 2) := by decide +kernel
theorem dX12_colour_78 : decode cX12_colour 78 = .ok (.aload_n 0, 1) := by decide +kernel
theorem dX12_colour_79 : decode cX12_colour 79 = .ok (.getfield 13, 3) := by decide +kernel
theorem dX12_colour_82 : decode cX12_colour 82 = .ok (.iload_n 1, 1) := by decide +kernel
theorem dX12_colour_83 : decode cX12_colour 83 = .ok (.iaload, 1) := by decide +kernel
theorem dX12_colour_84 : decode cX12_colour 84 = .ok (.if_icmp .ge 34, 3) := by decide +kernel
theorem dX12_colour_87 : decode cX12_colour 87 = .ok (.aload_n 0, 1) := by decide +kernel
theorem dX12_colour_88 : decode cX12_colour 88 = .ok (.getfield 78, 3) := by decide +kernel
theorem dX12_colour_91 : decode cX12_colour 91 = .ok (.iconst 4, 1) := by decide +kernel
theorem dX12_colour_92 : decode cX12_colour 92 = .ok (.iload 4, 2) := by decide +kernel
theorem dX12_colour_94 : decode cX12_colour 94 = .ok (.imul, 1) := by decide +kernel
theorem dX12_colour_95 : decode cX12_colour 95 = .ok (.iload 5, 2) := by decide +kernel
theorem dX12_colour_97 : decode cX12_colour 97 = .ok (.iadd, 1) := by decide +kernel
theorem dX12_colour_98 : decode cX12_colour 98 = .ok (.aload_n 0, 1) := by decide +kernel
theorem dX12_colour_99 : decode cX12_colour 99 = .ok (.getfield 16, 3) := by decide +kernel
theorem dX12_colour_102 : decode cX12_colour 102 = .ok (.iload_n 1, 1) := by decide +kernel
theorem dX12_colour_103 : decode cX12_colour 103 = .ok (.iload 4, 2) := by decide +kernel
theorem dX12_colour_105 : decode cX12_colour 105 = .ok (.iload 5, 2) := by decide +kernel
theorem dX12_colour_107 : decode cX12_colour 107 = .ok (.invokestatic 102, 3) := by decide +kernel
theorem dX12_colour_110 : decode cX12_colour 110 = .ok (.iaload, 1) := by decide +kernel
theorem dX12_colour_111 : decode cX12_colour 111 = .ok (.iastore, 1) := by decide +kernel
theorem dX12_colour_112 : decode cX12_colour 112 = .ok (.iinc 5 1, 3) := by decide +kernel
theorem dX12_colour_115 : decode cX12_colour 115 = .ok (.goto (-39), 3) := by decide +kernel
theorem dX12_colour_118 : decode cX12_colour 118 = .ok (.iinc 4 1, 3) := by decide +kernel
theorem dX12_colour_121 : decode cX12_colour 121 = .ok (.goto (-62), 3) := by decide +kernel
theorem dX12_colour_124 : decode cX12_colour 124 = .ok (.iconst 0, 1) := by decide +kernel
theorem dX12_colour_125 : decode cX12_colour 125 = .ok (.istore 4, 2) := by decide +kernel
theorem dX12_colour_127 : decode cX12_colour 127 = .ok (.iconst 0, 1) := by decide +kernel
theorem dX12_colour_128 : decode cX12_colour 128 = .ok (.istore 5, 2) := by decide +kernel
theorem dX12_colour_130 : decode cX12_colour 130 = .ok (.iload 4, 2) := by decide +kernel
theorem dX12_colour_132 : decode cX12_colour 132 = .ok (.sipush 1500, 3) := by decide +kernel
theorem dX12_colour_135 : decode cX12_colour 135 = .ok (.if_icmp .ge 92, 3) := by decide +kernel
theorem dX12_colour_138 : decode cX12_colour 138 = .ok (.iload 5, 2) := by decide +kernel
theorem dX12_colour_140 : decode cX12_colour 140 = .ok (.ifCond .lt 87, 3) := by decide +kernel
theorem dX12_colour_143 : decode cX12_colour 143 = .ok (.aload_n 0, 1) := by decide +kernel
theorem dX12_colour_144 : decode cX12_colour 144 = .ok (.iload_n 1, 1) := by decide +kernel
theorem dX12_colour_145 : decode cX12_colour 145 = .ok (.invokevirtual 154, 3) := by decide +kernel
theorem dX12_colour_148 : decode cX12_colour 148 = .ok (.ifCond .ne 6, 3) := by decide +kernel
theorem dX12_colour_151 : decode cX12_colour 151 = .ok (.iload 4, 2) := by decide +kernel
theorem dX12_colour_153 : decode cX12_colour 153 = .ok (.ireturn, 1) := by decide +kernel
theorem dX12_colour_154 : decode cX12_colour 154 = .ok (.iload_n 2, 1) := by decide +kernel
theorem dX12_colour_155 : decode cX12_colour 155 = .ok (.iconst 1, 1) := by decide +kernel
theorem dX12_colour_156 : decode cX12_colour 156 = .ok (.isub, 1) := by decide +kernel
theorem dX12_colour_157 : decode cX12_colour 157 = .ok (.istore 5, 2) := by decide +kernel
theorem dX12_colour_159 : decode cX12_colour 159 = .ok (.iload 5, 2) := by decide +kernel
theorem dX12_colour_161 : decode cX12_colour 161 = .ok (.ifCond .lt 37, 3) := by decide +kernel
theorem dX12_colour_164 : decode cX12_colour 164 = .ok (.aload_n 0, 1) := by decide +kernel
theorem dX12_colour_165 : decode cX12_colour 165 = .ok (.getfield 75, 3) := by decide +kernel
theorem dX12_colour_168 : decode cX12_colour 168 = .ok (.iload 5, 2) := by decide +kernel
theorem dX12_colour_170 : decode cX12_colour 170 = .ok (.iaload, 1) := by decide +kernel
theorem dX12_colour_171 : decode cX12_colour 171 = .ok (.iload_n 3, 1) := by decide +kernel
theorem dX12_colour_172 : decode cX12_colour 172 = .ok (.iconst 1, 1) := by decide +kernel
theorem dX12_colour_173 : decode cX12_colour 173 = .ok (.isub, 1) := by decide +kernel
theorem dX12_colour_174 : decode cX12_colour 174 = .ok (.if_icmp .ne 24, 3) := by decide +kernel
theorem dX12_colour_177 : decode cX12_colour 177 = .ok (.aload_n 0, 1) := by decide +kernel
theorem dX12_colour_178 : decode cX12_colour 178 = .ok (.getfield 75, 3) := by decide +kernel
theorem dX12_colour_181 : decode cX12_colour 181 = .ok (.iload 5, 2) := by decide +kernel
theorem dX12_colour_183 : decode cX12_colour 183 = .ok (.iconst 0, 1) := by decide +kernel
theorem dX12_colour_184 : decode cX12_colour 184 = .ok (.iastore, 1) := by decide +kernel
theorem dX12_colour_185 : decode cX12_colour 185 = .ok (.aload_n 0, 1) := by decide +kernel
theorem dX12_colour_186 : decode cX12_colour 186 = .ok (.iload_n 1, 1) := by decide +kernel
theorem dX12_colour_187 : decode cX12_colour 187 = .ok (.iload 5, 2) := by decide +kernel
theorem dX12_colour_189 : decode cX12_colour 189 = .ok (.invokevirtual 200, 3) := by decide +kernel
theorem dX12_colour_192 : decode cX12_colour 192 = .ok (.iinc 5 (-1), 3) := by decide +kernel
theorem dX12_colour_195 : decode cX12_colour 195 = .ok (.goto (-36), 3) := by decide +kernel
theorem dX12_colour_198 : decode cX12_colour 198 = .ok (.iload 5, 2) := by decide +kernel
theorem dX12_colour_200 : decode cX12_colour 200 = .ok (.ifCond .lt 21, 3) := by decide +kernel
theorem dX12_colour_203 : decode cX12_colour 203 = .ok (.aload_n 0, 1) := by decide +kernel
theorem dX12_colour_204 : decode cX12_colour 204 = .ok (.getfield 75, 3) := by decide +kernel
theorem dX12_colour_207 : decode cX12_colour 207 = .ok (.iload 5, 2) := by decide +kernel
theorem dX12_colour_209 : decode cX12_colour 209 = .ok (.dup2, 1) := by decide +kernel
theorem dX12_colour_210 : decode cX12_colour 210 = .ok (.iaload, 1) := by decide +kernel
theorem dX12_colour_211 : decode cX12_colour 211 = .ok (.iconst 1, 1) := by decide +kernel
theorem dX12_colour_212 : decode cX12_colour 212 = .ok (.iadd, 1) := by decide +kernel
theorem dX12_colour_213 : decode cX12_colour 213 = .ok (.iastore, 1) := by decide +kernel
theorem dX12_colour_214 : decode cX12_colour 214 = .ok (.aload_n 0, 1) := by decide +kernel
theorem dX12_colour_215 : decode cX12_colour 215 = .ok (.iload_n 1, 1) := by decide +kernel
theorem dX12_colour_216 : decode cX12_colour 216 = .ok (.iload 5, 2) := by decide +kernel
theorem dX12_colour_218 : decode cX12_colour 218 = .ok (.invokevirtual 200, 3) := by decide +kernel
theorem dX12_colour_221 : decode cX12_colour 221 = .ok (.iinc 4 1, 3) := by decide +kernel
theorem dX12_colour_224 : decode cX12_colour 224 = .ok (.goto (-94), 3) := by decide +kernel
theorem dX12_colour_227 : decode cX12_colour 227 = .ok (.iconst 0, 1) := by decide +kernel
theorem dX12_colour_228 : decode cX12_colour 228 = .ok (.istore 6, 2) := by decide +kernel
theorem dX12_colour_230 : decode cX12_colour 230 = .ok (.iload 6, 2) := by decide +kernel
theorem dX12_colour_232 : decode cX12_colour 232 = .ok (.iload_n 2, 1) := by decide +kernel
theorem dX12_colour_233 : decode cX12_colour 233 = .ok (.if_icmp .ge 24, 3) := by decide +kernel
theorem dX12_colour_236 : decode cX12_colour 236 = .ok (.aload_n 0, 1) := by decide +kernel
theorem dX12_colour_237 : decode cX12_colour 237 = .ok (.getfield 75, 3) := by decide +kernel
theorem dX12_colour_240 : decode cX12_colour 240 = .ok (.iload 6, 2) := by decide +kernel
theorem dX12_colour_242 : decode cX12_colour 242 = .ok (.iconst 0, 1) := by decide +kernel
theorem dX12_colour_243 : decode cX12_colour 243 = .ok (.iastore, 1) := by decide +kernel
theorem dX12_colour_244 : decode cX12_colour 244 = .ok (.aload_n 0, 1) := by decide +kernel
theorem dX12_colour_245 : decode cX12_colour 245 = .ok (.iload_n 1, 1) := by decide +kernel
theorem dX12_colour_246 : decode cX12_colour 246 = .ok (.iload 6, 2) := by decide +kernel
theorem dX12_colour_248 : decode cX12_colour 248 = .ok (.invokevirtual 200, 3) := by decide +kernel
theorem dX12_colour_251 : decode cX12_colour 251 = .ok (.iinc 6 1, 3) := by decide +kernel
theorem dX12_colour_254 : decode cX12_colour 254 = .ok (.goto (-24), 3) := by decide +kernel
theorem dX12_colour_257 : decode cX12_colour 257 = .ok (.iconst (-1), 1) := by decide +kernel
theorem dX12_colour_258 : decode cX12_colour 258 = .ok (.ireturn, 1) := by decide +kernel
set_option maxRecDepth 20000 in
theorem ggX12_apart_X12_isState : GoodIn wsX12_apart wsX12_isState := goodIn_r _ [10, 11, 12, 13, 14, 9, 15, 16, 17, 18, 19, 23, 24, 25, 26, 27, 28, 29, 30, 31, 32, 33, 34, 35, 36, 37, 38, 39, 40, 41, 42, 43, 44, 45, 46, 47, 48, 49, 50, 51, 52] (by decide +kernel) (by decide +kernel)
set_option maxRecDepth 20000 in
theorem gX12_apart_X12_isState : GoodIn wsX12_apart (wsV RX12 110 RX12 yX12_isState wsX12_isState) := goodIn_app (goodIn_of _ (by decide +kernel)) ggX12_apart_X12_isState
set_option maxRecDepth 20000 in
theorem ggX12_apart_X12_at : GoodIn wsX12_apart wsX12_at := goodIn_r _ [22] (by decide +kernel) (by decide +kernel)
set_option maxRecDepth 20000 in
theorem gX12_apart_X12_at : GoodIn wsX12_apart (va_wsS RX12 102 yX12_at wsX12_at) := goodIn_app (goodIn_of _ (by decide +kernel)) ggX12_apart_X12_at
theorem dX12_apart_0 : decode cX12_apart 0 = .ok (.aload_n 0, 1) := by decide +kernel
theorem dX12_apart_1 : decode cX12_apart 1 = .ok (.iload_n 1, 1) := by decide +kernel
theorem dX12_apart_2 : decode cX12_apart 2 = .ok (.iload_n 2, 1) := by decide +kernel
theorem dX12_apart_3 : decode cX12_apart 3 = .ok (.invokevirtual 110, 3) := by decide +kernel
theorem dX12_apart_6 : decode cX12_apart 6 = .ok (.ifCond .eq 12, 3) := by decide +kernel
theorem dX12_apart_9 : decode cX12_apart 9 = .ok (.aload_n 0, 1) := by decide +kernel
theorem dX12_apart_10 : decode cX12_apart 10 = .ok (.iload_n 1, 1) := by decide +kernel
theorem dX12_apart_11 : decode cX12_apart 11 = .ok (.iload_n 3, 1) := by decide +kernel
theorem dX12_apart_12 : decode cX12_apart 12 = .ok (.invokevirtual 110, 3) := by decide +kernel
theorem dX12_apart_15 : decode cX12_apart 15 = .ok (.ifCond .ne 6, 3) := by decide +kernel
theorem dX12_apart_18 : decode cX12_apart 18 = .ok (.bipush (-2), 2) := by decide +kernel
theorem dX12_apart_20 : decode cX12_apart 20 = .ok (.ireturn, 1) := by decide +kernel
theorem dX12_apart_21 : decode cX12_apart 21 = .ok (.iconst 0, 1) := by decide +kernel
theorem dX12_apart_22 : decode cX12_apart 22 = .ok (.istore 4, 2) := by decide +kernel
theorem dX12_apart_24 : decode cX12_apart 24 = .ok (.iload 4, 2) := by decide +kernel
theorem dX12_apart_26 : decode cX12_apart 26 = .ok (.sipush 144, 3) := by decide +kernel
theorem dX12_apart_29 : decode cX12_apart 29 = .ok (.if_icmp .ge 17, 3) := by decide +kernel
theorem dX12_apart_32 : decode cX12_apart 32 = .ok (.aload_n 0, 1) := by decide +kernel
theorem dX12_apart_33 : decode cX12_apart 33 = .ok (.getfield 87, 3) := by decide +kernel
theorem dX12_apart_36 : decode cX12_apart 36 = .ok (.iload 4, 2) := by decide +kernel
theorem dX12_apart_38 : decode cX12_apart 38 = .ok (.iconst (-1), 1) := by decide +kernel
theorem dX12_apart_39 : decode cX12_apart 39 = .ok (.iastore, 1) := by decide +kernel
theorem dX12_apart_40 : decode cX12_apart 40 = .ok (.iinc 4 1, 3) := by decide +kernel
theorem dX12_apart_43 : decode cX12_apart 43 = .ok (.goto (-19), 3) := by decide +kernel
theorem dX12_apart_46 : decode cX12_apart 46 = .ok (.iconst 1, 1) := by decide +kernel
theorem dX12_apart_47 : decode cX12_apart 47 = .ok (.istore 4, 2) := by decide +kernel
theorem dX12_apart_49 : decode cX12_apart 49 = .ok (.aload_n 0, 1) := by decide +kernel
theorem dX12_apart_50 : decode cX12_apart 50 = .ok (.getfield 84, 3) := by decide +kernel
theorem dX12_apart_53 : decode cX12_apart 53 = .ok (.iconst 0, 1) := by decide +kernel
theorem dX12_apart_54 : decode cX12_apart 54 = .ok (.bipush 12, 2) := by decide +kernel
theorem dX12_apart_56 : decode cX12_apart 56 = .ok (.iload_n 2, 1) := by decide +kernel
theorem dX12_apart_57 : decode cX12_apart 57 = .ok (.imul, 1) := by decide +kernel
theorem dX12_apart_58 : decode cX12_apart 58 = .ok (.iload_n 3, 1) := by decide +kernel
theorem dX12_apart_59 : decode cX12_apart 59 = .ok (.iadd, 1) := by decide +kernel
theorem dX12_apart_60 : decode cX12_apart 60 = .ok (.iastore, 1) := by decide +kernel
theorem dX12_apart_61 : decode cX12_apart 61 = .ok (.aload_n 0, 1) := by decide +kernel
theorem dX12_apart_62 : decode cX12_apart 62 = .ok (.getfield 87, 3) := by decide +kernel
theorem dX12_apart_65 : decode cX12_apart 65 = .ok (.aload_n 0, 1) := by decide +kernel
theorem dX12_apart_66 : decode cX12_apart 66 = .ok (.getfield 84, 3) := by decide +kernel
theorem dX12_apart_69 : decode cX12_apart 69 = .ok (.iconst 0, 1) := by decide +kernel
theorem dX12_apart_70 : decode cX12_apart 70 = .ok (.iaload, 1) := by decide +kernel
theorem dX12_apart_71 : decode cX12_apart 71 = .ok (.iconst 0, 1) := by decide +kernel
theorem dX12_apart_72 : decode cX12_apart 72 = .ok (.iastore, 1) := by decide +kernel
theorem dX12_apart_73 : decode cX12_apart 73 = .ok (.iconst 0, 1) := by decide +kernel
theorem dX12_apart_74 : decode cX12_apart 74 = .ok (.istore 5, 2) := by decide +kernel
theorem dX12_apart_76 : decode cX12_apart 76 = .ok (.iload 5, 2) := by decide +kernel
theorem dX12_apart_78 : decode cX12_apart 78 = .ok (.iload 4, 2) := by decide +kernel
theorem dX12_apart_80 : decode cX12_apart 80 = .ok (.if_icmp .ge 197, 3) := by decide +kernel
theorem dX12_apart_83 : decode cX12_apart 83 = .ok (.aload_n 0, 1) := by decide +kernel
theorem dX12_apart_84 : decode cX12_apart 84 = .ok (.getfield 84, 3) := by decide +kernel
theorem dX12_apart_87 : decode cX12_apart 87 = .ok (.iload 5, 2) := by decide +kernel
theorem dX12_apart_89 : decode cX12_apart 89 = .ok (.iaload, 1) := by decide +kernel
theorem dX12_apart_90 : decode cX12_apart 90 = .ok (.bipush 12, 2) := by decide +kernel
theorem dX12_apart_92 : decode cX12_apart 92 = .ok (.idiv, 1) := by decide +kernel
theorem dX12_apart_93 : decode cX12_apart 93 = .ok (.istore 6, 2) := by decide +kernel
theorem dX12_apart_95 : decode cX12_apart 95 = .ok (.aload_n 0, 1) := by decide +kernel
theorem dX12_apart_96 : decode cX12_apart 96 = .ok (.getfield 84, 3) := by decide +kernel
theorem dX12_apart_99 : decode cX12_apart 99 = .ok (.iload 5, 2) := by decide +kernel
theorem dX12_apart_101 : decode cX12_apart 101 = .ok (.iaload, 1) := by decide +kernel
theorem dX12_apart_102 : decode cX12_apart 102 = .ok (.bipush 12, 2) := by decide +kernel
theorem dX12_apart_104 : decode cX12_apart 104 = .ok (.irem, 1) := by decide +kernel
theorem dX12_apart_105 : decode cX12_apart 105 = .ok (.istore 7, 2) := by decide +kernel
theorem dX12_apart_107 : decode cX12_apart 107 = .ok (.aload_n 0, 1) := by decide +kernel
theorem dX12_apart_108 : decode cX12_apart 108 = .ok (.getfield 19, 3) := by decide +kernel
theorem dX12_apart_111 : decode cX12_apart 111 = .ok (.bipush 12, 2) := by decide +kernel
theorem dX12_apart_113 : decode cX12_apart 113 = .ok (.iload_n 1, 1) := by decide +kernel
theorem dX12_apart_114 : decode cX12_apart 114 = .ok (.imul, 1) := by decide +kernel
theorem dX12_apart_115 : decode cX12_apart 115 = .ok (.iload 6, 2) := by decide +kernel
theorem dX12_apart_117 : decode cX12_apart 117 = .ok (.iadd, 1) := by decide +kernel
theorem dX12_apart_118 : decode cX12_apart 118 = .ok (.iaload, 1) := by decide +kernel
theorem dX12_apart_119 : decode cX12_apart 119 = .ok (.aload_n 0, 1) := by decide +kernel
theorem dX12_apart_120 : decode cX12_apart 120 = .ok (.getfield 19, 3) := by decide +kernel
theorem dX12_apart_123 : decode cX12_apart 123 = .ok (.bipush 12, 2) := by decide +kernel
theorem dX12_apart_125 : decode cX12_apart 125 = .ok (.iload_n 1, 1) := by decide +kernel
theorem dX12_apart_126 : decode cX12_apart 126 = .ok (.imul, 1) := by decide +kernel
theorem dX12_apart_127 : decode cX12_apart 127 = .ok (.iload 7, 2) := by decide +kernel
theorem dX12_apart_129 : decode cX12_apart 129 = .ok (.iadd, 1) := by decide +kernel
theorem dX12_apart_130 : decode cX12_apart 130 = .ok (.iaload, 1) := by decide +kernel
theorem dX12_apart_131 : decode cX12_apart 131 = .ok (.if_icmp .eq 16, 3) := by decide +kernel
theorem dX12_apart_134 : decode cX12_apart 134 = .ok (.aload_n 0, 1) := by decide +kernel
theorem dX12_apart_135 : decode cX12_apart 135 = .ok (.getfield 87, 3) := by decide +kernel
theorem dX12_apart_138 : decode cX12_apart 138 = .ok (.aload_n 0, 1) := by decide +kernel
theorem dX12_apart_139 : decode cX12_apart 139 = .ok (.getfield 84, 3) := by decide +kernel
theorem dX12_apart_142 : decode cX12_apart 142 = .ok (.iload 5, 2) := by decide +kernel
theorem dX12_apart_144 : decode cX12_apart 144 = .ok (.iaload, 1) := by decide +kernel
theorem dX12_apart_145 : decode cX12_apart 145 = .ok (.iaload, 1) := by decide +kernel
theorem dX12_apart_146 : decode cX12_apart 146 = .ok (.ireturn, 1) := by decide +kernel
theorem dX12_apart_147 : decode cX12_apart 147 = .ok (.iconst 0, 1) := by decide +kernel
theorem dX12_apart_148 : decode cX12_apart 148 = .ok (.istore 8, 2) := by decide +kernel
theorem dX12_apart_150 : decode cX12_apart 150 = .ok (.iload 8, 2) := by decide +kernel
theorem dX12_apart_152 : decode cX12_apart 152 = .ok (.aload_n 0, 1) := by decide +kernel
theorem dX12_apart_153 : decode cX12_apart 153 = .ok (.getfield 13, 3) := by decide +kernel
theorem dX12_apart_156 : decode cX12_apart 156 = .ok (.iload_n 1, 1) := by decide +kernel
theorem dX12_apart_157 : decode cX12_apart 157 = .ok (.iaload, 1) := by decide +kernel
theorem dX12_apart_158 : decode cX12_apart 158 = .ok (.if_icmp .ge 113, 3) := by decide +kernel
theorem dX12_apart_161 : decode cX12_apart 161 = .ok (.aload_n 0, 1) := by decide +kernel
theorem dX12_apart_162 : decode cX12_apart 162 = .ok (.getfield 16, 3) := by decide +kernel
theorem dX12_apart_165 : decode cX12_apart 165 = .ok (.iload_n 1, 1) := by decide +kernel
theorem dX12_apart_166 : decode cX12_apart 166 = .ok (.iload 6, 2) := by decide +kernel
theorem dX12_apart_168 : decode cX12_apart 168 = .ok (.iload 8, 2) := by decide +kernel
theorem dX12_apart_170 : decode cX12_apart 170 = .ok (.invokestatic 102, 3) := by decide +kernel
theorem dX12_apart_173 : decode cX12_apart 173 = .ok (.iaload, 1) := by decide +kernel
theorem dX12_apart_174 : decode cX12_apart 174 = .ok (.istore 9, 2) := by decide +kernel
theorem dX12_apart_176 : decode cX12_apart 176 = .ok (.aload_n 0, 1) := by decide +kernel
theorem dX12_apart_177 : decode cX12_apart 177 = .ok (.getfield 16, 3) := by decide +kernel
theorem dX12_apart_180 : decode cX12_apart 180 = .ok (.iload_n 1, 1) := by decide +kernel
theorem dX12_apart_181 : decode cX12_apart 181 = .ok (.iload 7, 2) := by decide +kernel
theorem dX12_apart_183 : decode cX12_apart 183 = .ok (.iload 8, 2) := by decide +kernel
theorem dX12_apart_185 : decode cX12_apart 185 = .ok (.invokestatic 102, 3) := by decide +kernel
theorem dX12_apart_188 : decode cX12_apart 188 = .ok (.iaload, 1) := by decide +kernel
theorem dX12_apart_189 : decode cX12_apart 189 = .ok (.istore 10, 2) := by decide +kernel
theorem dX12_apart_191 : decode cX12_apart 191 = .ok (.iload 9, 2) := by decide +kernel
theorem dX12_apart_193 : decode cX12_apart 193 = .ok (.iconst (-1), 1) := by decide +kernel
theorem dX12_apart_194 : decode cX12_apart 194 = .ok (.if_icmp .eq 71, 3) := by decide +kernel
theorem dX12_apart_197 : decode cX12_apart 197 = .ok (.iload 10, 2) := by decide +kernel
theorem dX12_apart_199 : decode cX12_apart 199 = .ok (.iconst (-1), 1) := by decide +kernel
theorem dX12_apart_200 : decode cX12_apart 200 = .ok (.if_icmp .eq 65, 3) := by decide +kernel
theorem dX12_apart_203 : decode cX12_apart 203 = .ok (.aload_n 0, 1) := by decide +kernel
theorem dX12_apart_204 : decode cX12_apart 204 = .ok (.getfield 87, 3) := by decide +kernel
theorem dX12_apart_207 : decode cX12_apart 207 = .ok (.bipush 12, 2) := by decide +kernel
theorem dX12_apart_209 : decode cX12_apart 209 = .ok (.iload 9, 2) := by decide +kernel
theorem dX12_apart_211 : decode cX12_apart 211 = .ok (.imul, 1) := by decide +kernel
theorem dX12_apart_212 : decode cX12_apart 212 = .ok (.iload 10, 2) := by decide +kernel
theorem dX12_apart_214 : decode cX12_apart 214 = .ok (.iadd, 1) := by decide +kernel
theorem dX12_apart_215 : decode cX12_apart 215 = .ok (.iaload, 1) := by decide +kernel
theorem dX12_apart_216 : decode cX12_apart 216 = .ok (.iconst (-1), 1) := by decide +kernel
theorem dX12_apart_217 : decode cX12_apart 217 = .ok (.if_icmp .ne 48, 3) := by decide +kernel
theorem dX12_apart_220 : decode cX12_apart 220 = .ok (.aload_n 0, 1) := by decide +kernel
theorem dX12_apart_221 : decode cX12_apart 221 = .ok (.getfield 87, 3) := by decide +kernel
theorem dX12_apart_224 : decode cX12_apart 224 = .ok (.bipush 12, 2) := by decide +kernel
theorem dX12_apart_226 : decode cX12_apart 226 = .ok (.iload 9, 2) := by decide +kernel
theorem dX12_apart_228 : decode cX12_apart 228 = .ok (.imul, 1) := by decide +kernel
theorem dX12_apart_229 : decode cX12_apart 229 = .ok (.iload 10, 2) := by decide +kernel
theorem dX12_apart_231 : decode cX12_apart 231 = .ok (.iadd, 1) := by decide +kernel
theorem dX12_apart_232 : decode cX12_apart 232 = .ok (.aload_n 0, 1) := by decide +kernel
theorem dX12_apart_233 : decode cX12_apart 233 = .ok (.getfield 87, 3) := by decide +kernel
theorem dX12_apart_236 : decode cX12_apart 236 = .ok (.aload_n 0, 1) := by decide +kernel
theorem dX12_apart_237 : decode cX12_apart 237 = .ok (.getfield 84, 3) := by decide +kernel
theorem dX12_apart_240 : decode cX12_apart 240 = .ok (.iload 5, 2) := by decide +kernel
theorem dX12_apart_242 : decode cX12_apart 242 = .ok (.iaload, 1) := by decide +kernel
theorem dX12_apart_243 : decode cX12_apart 243 = .ok (.iaload, 1) := by decide +kernel
theorem dX12_apart_244 : decode cX12_apart 244 = .ok (.iconst 1, 1) := by decide +kernel
theorem dX12_apart_245 : decode cX12_apart 245 = .ok (.iadd, 1) := by decide +kernel
theorem dX12_apart_246 : decode cX12_apart 246 = .ok (.iastore, 1) := by decide +kernel
theorem dX12_apart_247 : decode cX12_apart 247 = .ok (.aload_n 0, 1) := by decide +kernel
theorem dX12_apart_248 : decode cX12_apart 248 = .ok (.getfield 84, 3) := by decide +kernel
theorem dX12_apart_251 : decode cX12_apart 251 = .ok (.iload 4, 2) := by decide +kernel
theorem dX12_apart_253 : decode cX12_apart 253 = .ok (.bipush 12, 2) := by decide +kernel
theorem dX12_apart_255 : decode cX12_apart 255 = .ok (.iload 9, 2) := by decide +kernel
theorem dX12_apart_257 : decode cX12_apart 257 = .ok (.imul, 1) := by decide +kernel
theorem dX12_apart_258 : decode cX12_apart 258 = .ok (.iload 10, 2) := by decide +kernel
theorem dX12_apart_260 : decode cX12_apart 260 = .ok (.iadd, 1) := by decide +kernel
theorem dX12_apart_261 : decode cX12_apart 261 = .ok (.iastore, 1) := by decide +kernel
theorem dX12_apart_262 : decode cX12_apart 262 = .ok (.iinc 4 1, 3) := by decide +kernel
theorem dX12_apart_265 : decode cX12_apart 265 = .ok (.iinc 8 1, 3) := by decide +kernel
theorem dX12_apart_268 : decode cX12_apart 268 = .ok (.goto (-118), 3) := by decide +kernel
theorem dX12_apart_271 : decode cX12_apart 271 = .ok (.iinc 5 1, 3) := by decide +kernel
theorem dX12_apart_274 : decode cX12_apart 274 = .ok (.goto (-198), 3) := by decide +kernel
theorem dX12_apart_277 : decode cX12_apart 277 = .ok (.iconst (-1), 1) := by decide +kernel
theorem dX12_apart_278 : decode cX12_apart 278 = .ok (.ireturn, 1) := by decide +kernel
theorem dX12_count_0 : decode cX12_count 0 = .ok (.iload_n 1, 1) := by decide +kernel
theorem dX12_count_1 : decode cX12_count 1 = .ok (.ifCond .ne 10, 3) := by decide +kernel
theorem dX12_count_4 : decode cX12_count 4 = .ok (.aload_n 0, 1) := by decide +kernel
theorem dX12_count_5 : decode cX12_count 5 = .ok (.getfield 90, 3) := by decide +kernel
theorem dX12_count_8 : decode cX12_count 8 = .ok (.goto 17, 3) := by decide +kernel
theorem dX12_count_11 : decode cX12_count 11 = .ok (.iload_n 1, 1) := by decide +kernel
theorem dX12_count_12 : decode cX12_count 12 = .ok (.iconst 1, 1) := by decide +kernel
theorem dX12_count_13 : decode cX12_count 13 = .ok (.if_icmp .ne 10, 3) := by decide +kernel
theorem dX12_count_16 : decode cX12_count 16 = .ok (.aload_n 0, 1) := by decide +kernel
theorem dX12_count_17 : decode cX12_count 17 = .ok (.getfield 123, 3) := by decide +kernel
theorem dX12_count_20 : decode cX12_count 20 = .ok (.goto 5, 3) := by decide +kernel
theorem dX12_count_23 : decode cX12_count 23 = .ok (.bipush (-2), 2) := by decide +kernel
theorem dX12_count_25 : decode cX12_count 25 = .ok (.ireturn, 1) := by decide +kernel
set_option maxRecDepth 20000 in
theorem ggX12_digest_X12_aboutOf : GoodIn wsX12_digest wsX12_aboutOf := goodIn_r _ [16, 4, 5, 17, 18, 19, 15, 20, 6, 21, 22, 23, 24, 25, 26, 27, 28, 29, 30, 31, 32, 33, 34, 35, 36, 37, 38, 39, 40, 41, 42, 43, 44, 45, 46, 47, 48, 49, 50, 51, 52, 53] (by decide +kernel) (by decide +kernel)
set_option maxRecDepth 20000 in
theorem gX12_digest_X12_aboutOf : GoodIn wsX12_digest (wsV RX12 120 RX12 yX12_aboutOf wsX12_aboutOf) := goodIn_app (goodIn_of _ (by decide +kernel)) ggX12_digest_X12_aboutOf
set_option maxRecDepth 20000 in
theorem ggX12_digest_X12_at : GoodIn wsX12_digest wsX12_at := goodIn_r _ [23] (by decide +kernel) (by decide +kernel)
set_option maxRecDepth 20000 in
theorem gX12_digest_X12_at : GoodIn wsX12_digest (va_wsS RX12 102 yX12_at wsX12_at) := goodIn_app (goodIn_of _ (by decide +kernel)) ggX12_digest_X12_at
theorem dX12_digest_0 : decode cX12_digest 0 = .ok (.ldc2_w 203, 3) := by decide +kernel
theorem dX12_digest_3 : decode cX12_digest 3 = .ok (.lstore_n 1, 1) := by decide +kernel
theorem dX12_digest_4 : decode cX12_digest 4 = .ok (.iconst 0, 1) := by decide +kernel
theorem dX12_digest_5 : decode cX12_digest 5 = .ok (.istore_n 3, 1) := by decide +kernel
theorem dX12_digest_6 : decode cX12_digest 6 = .ok (.iload_n 3, 1) := by decide +kernel
theorem dX12_digest_7 : decode cX12_digest 7 = .ok (.aload_n 0, 1) := by decide +kernel
theorem dX12_digest_8 : decode cX12_digest 8 = .ok (.getfield 90, 3) := by decide +kernel
theorem dX12_digest_11 : decode cX12_digest 11 = .ok (.if_icmp .ge 176, 3) := by decide +kernel
theorem dX12_digest_14 : decode cX12_digest 14 = .ok (.iconst 0, 1) := by decide +kernel
theorem dX12_digest_15 : decode cX12_digest 15 = .ok (.istore 4, 2) := by decide +kernel
theorem dX12_digest_17 : decode cX12_digest 17 = .ok (.iload 4, 2) := by decide +kernel
theorem dX12_digest_19 : decode cX12_digest 19 = .ok (.iconst 3, 1) := by decide +kernel
theorem dX12_digest_20 : decode cX12_digest 20 = .ok (.if_icmp .ge 24, 3) := by decide +kernel
theorem dX12_digest_23 : decode cX12_digest 23 = .ok (.ldc2_w 205, 3) := by decide +kernel
theorem dX12_digest_26 : decode cX12_digest 26 = .ok (.lload_n 1, 1) := by decide +kernel
theorem dX12_digest_27 : decode cX12_digest 27 = .ok (.lmul, 1) := by decide +kernel
theorem dX12_digest_28 : decode cX12_digest 28 = .ok (.aload_n 0, 1) := by decide +kernel
theorem dX12_digest_29 : decode cX12_digest 29 = .ok (.iload_n 3, 1) := by decide +kernel
theorem dX12_digest_30 : decode cX12_digest 30 = .ok (.iload 4, 2) := by decide +kernel
theorem dX12_digest_32 : decode cX12_digest 32 = .ok (.invokevirtual 120, 3) := by decide +kernel
theorem dX12_digest_35 : decode cX12_digest 35 = .ok (.i2l, 1) := by decide +kernel
theorem dX12_digest_36 : decode cX12_digest 36 = .ok (.ladd, 1) := by decide +kernel
theorem dX12_digest_37 : decode cX12_digest 37 = .ok (.lstore_n 1, 1) := by decide +kernel
theorem dX12_digest_38 : decode cX12_digest 38 = .ok (.iinc 4 1, 3) := by decide +kernel
theorem dX12_digest_41 : decode cX12_digest 41 = .ok (.goto (-24), 3) := by decide +kernel
theorem dX12_digest_44 : decode cX12_digest 44 = .ok (.iconst 0, 1) := by decide +kernel
theorem dX12_digest_45 : decode cX12_digest 45 = .ok (.istore 4, 2) := by decide +kernel
theorem dX12_digest_47 : decode cX12_digest 47 = .ok (.iload 4, 2) := by decide +kernel
theorem dX12_digest_49 : decode cX12_digest 49 = .ok (.aload_n 0, 1) := by decide +kernel
theorem dX12_digest_50 : decode cX12_digest 50 = .ok (.getfield 7, 3) := by decide +kernel
theorem dX12_digest_53 : decode cX12_digest 53 = .ok (.iload_n 3, 1) := by decide +kernel
theorem dX12_digest_54 : decode cX12_digest 54 = .ok (.iaload, 1) := by decide +kernel
theorem dX12_digest_55 : decode cX12_digest 55 = .ok (.if_icmp .ge 70, 3) := by decide +kernel
theorem dX12_digest_58 : decode cX12_digest 58 = .ok (.iconst 0, 1) := by decide +kernel
theorem dX12_digest_59 : decode cX12_digest 59 = .ok (.istore 5, 2) := by decide +kernel
theorem dX12_digest_61 : decode cX12_digest 61 = .ok (.iload 5, 2) := by decide +kernel
theorem dX12_digest_63 : decode cX12_digest 63 = .ok (.aload_n 0, 1) := by decide +kernel
theorem dX12_digest_64 : decode cX12_digest 64 = .ok (.getfield 13, 3) := by decide +kernel
theorem dX12_digest_67 : decode cX12_digest 67 = .ok (.iload_n 3, 1) := by decide +kernel
theorem dX12_digest_68 : decode cX12_digest 68 = .ok (.iaload, 1) := by decide +kernel
theorem dX12_digest_69 : decode cX12_digest 69 = .ok (.if_icmp .ge 30, 3) := by decide +kernel
theorem dX12_digest_72 : decode cX12_digest 72 = .ok (.ldc2_w 205, 3) := by decide +kernel
theorem dX12_digest_75 : decode cX12_digest 75 = .ok (.lload_n 1, 1) := by decide +kernel
theorem dX12_digest_76 : decode cX12_digest 76 = .ok (.lmul, 1) := by decide +kernel
theorem dX12_digest_77 : decode cX12_digest 77 = .ok (.aload_n 0, 1) := by decide +kernel
theorem dX12_digest_78 : decode cX12_digest 78 = .ok (.getfield 16, 3) := by decide +kernel
theorem dX12_digest_81 : decode cX12_digest 81 = .ok (.iload_n 3, 1) := by decide +kernel
theorem dX12_digest_82 : decode cX12_digest 82 = .ok (.iload 4, 2) := by decide +kernel
theorem dX12_digest_84 : decode cX12_digest 84 = .ok (.iload 5, 2) := by decide +kernel
theorem dX12_digest_86 : decode cX12_digest 86 = .ok (.invokestatic 102, 3) := by decide +kernel
theorem dX12_digest_89 : decode cX12_digest 89 = .ok (.iaload, 1) := by decide +kernel
theorem dX12_digest_90 : decode cX12_digest 90 = .ok (.i2l, 1) := by decide +kernel
theorem dX12_digest_91 : decode cX12_digest 91 = .ok (.ladd, 1) := by decide +kernel
theorem dX12_digest_92 : decode cX12_digest 92 = .ok (.lstore_n 1, 1) := by decide +kernel
theorem dX12_digest_93 : decode cX12_digest 93 = .ok (.iinc 5 1, 3) := by decide +kernel
theorem dX12_digest_96 : decode cX12_digest 96 = .ok (.goto (-35), 3) := by decide +kernel
theorem dX12_digest_99 : decode cX12_digest 99 = .ok (.ldc2_w 205, 3) := by decide +kernel
theorem dX12_digest_102 : decode cX12_digest 102 = .ok (.lload_n 1, 1) := by decide +kernel
theorem dX12_digest_103 : decode cX12_digest 103 = .ok (.lmul, 1) := by decide +kernel
theorem dX12_digest_104 : decode cX12_digest 104 = .ok (.aload_n 0, 1) := by decide +kernel
theorem dX12_digest_105 : decode cX12_digest 105 = .ok (.getfield 19, 3) := by decide +kernel
theorem dX12_digest_108 : decode cX12_digest 108 = .ok (.bipush 12, 2) := by decide +kernel
theorem dX12_digest_110 : decode cX12_digest 110 = .ok (.iload_n 3, 1) := by decide +kernel
theorem dX12_digest_111 : decode cX12_digest 111 = .ok (.imul, 1) := by decide +kernel
theorem dX12_digest_112 : decode cX12_digest 112 = .ok (.iload 4, 2) := by decide +kernel
theorem dX12_digest_114 : decode cX12_digest 114 = .ok (.iadd, 1) := by decide +kernel
theorem dX12_digest_115 : decode cX12_digest 115 = .ok (.iaload, 1) := by decide +kernel
theorem dX12_digest_116 : decode cX12_digest 116 = .ok (.i2l, 1) := by decide +kernel
theorem dX12_digest_117 : decode cX12_digest 117 = .ok (.ladd, 1) := by decide +kernel
theorem dX12_digest_118 : decode cX12_digest 118 = .ok (.lstore_n 1, 1) := by decide +kernel
theorem dX12_digest_119 : decode cX12_digest 119 = .ok (.iinc 4 1, 3) := by decide +kernel
theorem dX12_digest_122 : decode cX12_digest 122 = .ok (.goto (-75), 3) := by decide +kernel
theorem dX12_digest_125 : decode cX12_digest 125 = .ok (.iconst 0, 1) := by decide +kernel
theorem dX12_digest_126 : decode cX12_digest 126 = .ok (.istore 4, 2) := by decide +kernel
theorem dX12_digest_128 : decode cX12_digest 128 = .ok (.iload 4, 2) := by decide +kernel
theorem dX12_digest_130 : decode cX12_digest 130 = .ok (.aload_n 0, 1) := by decide +kernel
theorem dX12_digest_131 : decode cX12_digest 131 = .ok (.getfield 13, 3) := by decide +kernel
theorem dX12_digest_134 : decode cX12_digest 134 = .ok (.iload_n 3, 1) := by decide +kernel
theorem dX12_digest_135 : decode cX12_digest 135 = .ok (.iaload, 1) := by decide +kernel
theorem dX12_digest_136 : decode cX12_digest 136 = .ok (.if_icmp .ge 45, 3) := by decide +kernel
theorem dX12_digest_139 : decode cX12_digest 139 = .ok (.ldc2_w 205, 3) := by decide +kernel
theorem dX12_digest_142 : decode cX12_digest 142 = .ok (.ldc2_w 205, 3) := by decide +kernel
theorem dX12_digest_145 : decode cX12_digest 145 = .ok (.lload_n 1, 1) := by decide +kernel
theorem dX12_digest_146 : decode cX12_digest 146 = .ok (.lmul, 1) := by decide +kernel
theorem dX12_digest_147 : decode cX12_digest 147 = .ok (.aload_n 0, 1) := by decide +kernel
theorem dX12_digest_148 : decode cX12_digest 148 = .ok (.getfield 22, 3) := by decide +kernel
theorem dX12_digest_151 : decode cX12_digest 151 = .ok (.iconst 4, 1) := by decide +kernel
theorem dX12_digest_152 : decode cX12_digest 152 = .ok (.iload_n 3, 1) := by decide +kernel
theorem dX12_digest_153 : decode cX12_digest 153 = .ok (.imul, 1) := by decide +kernel
theorem dX12_digest_154 : decode cX12_digest 154 = .ok (.iload 4, 2) := by decide +kernel
theorem dX12_digest_156 : decode cX12_digest 156 = .ok (.iadd, 1) := by decide +kernel
theorem dX12_digest_157 : decode cX12_digest 157 = .ok (.iaload, 1) := by decide +kernel
theorem dX12_digest_158 : decode cX12_digest 158 = .ok (.i2l, 1) := by decide +kernel
theorem dX12_digest_159 : decode cX12_digest 159 = .ok (.ladd, 1) := by decide +kernel
theorem dX12_digest_160 : decode cX12_digest 160 = .ok (.lmul, 1) := by decide +kernel
theorem dX12_digest_161 : decode cX12_digest 161 = .ok (.aload_n 0, 1) := by decide +kernel
theorem dX12_digest_162 : decode cX12_digest 162 = .ok (.getfield 25, 3) := by decide +kernel
theorem dX12_digest_165 : decode cX12_digest 165 = .ok (.iconst 4, 1) := by decide +kernel
theorem dX12_digest_166 : decode cX12_digest 166 = .ok (.iload_n 3, 1) := by decide +kernel
theorem dX12_digest_167 : decode cX12_digest 167 = .ok (.imul, 1) := by decide +kernel
theorem dX12_digest_168 : decode cX12_digest 168 = .ok (.iload 4, 2) := by decide +kernel
theorem dX12_digest_170 : decode cX12_digest 170 = .ok (.iadd, 1) := by decide +kernel
theorem dX12_digest_171 : decode cX12_digest 171 = .ok (.iaload, 1) := by decide +kernel
theorem dX12_digest_172 : decode cX12_digest 172 = .ok (.i2l, 1) := by decide +kernel
theorem dX12_digest_173 : decode cX12_digest 173 = .ok (.ladd, 1) := by decide +kernel
theorem dX12_digest_174 : decode cX12_digest 174 = .ok (.lstore_n 1, 1) := by decide +kernel
theorem dX12_digest_175 : decode cX12_digest 175 = .ok (.iinc 4 1, 3) := by decide +kernel
theorem dX12_digest_178 : decode cX12_digest 178 = .ok (.goto (-50), 3) := by decide +kernel
theorem dX12_digest_181 : decode cX12_digest 181 = .ok (.iinc 3 1, 3) := by decide +kernel
theorem dX12_digest_184 : decode cX12_digest 184 = .ok (.goto (-178), 3) := by decide +kernel
theorem dX12_digest_187 : decode cX12_digest 187 = .ok (.ldc2_w 205, 3) := by decide +kernel
theorem dX12_digest_190 : decode cX12_digest 190 = .ok (.lload_n 1, 1) := by decide +kernel
theorem dX12_digest_191 : decode cX12_digest 191 = .ok (.lmul, 1) := by decide +kernel
theorem dX12_digest_192 : decode cX12_digest 192 = .ok (.aload_n 0, 1) := by decide +kernel
theorem dX12_digest_193 : decode cX12_digest 193 = .ok (.getfield 123, 3) := by decide +kernel
theorem dX12_digest_196 : decode cX12_digest 196 = .ok (.i2l, 1) := by decide +kernel
theorem dX12_digest_197 : decode cX12_digest 197 = .ok (.ladd, 1) := by decide +kernel
theorem dX12_digest_198 : decode cX12_digest 198 = .ok (.lstore_n 1, 1) := by decide +kernel
theorem dX12_digest_199 : decode cX12_digest 199 = .ok (.iconst 0, 1) := by decide +kernel
theorem dX12_digest_200 : decode cX12_digest 200 = .ok (.istore_n 3, 1) := by decide +kernel
theorem dX12_digest_201 : decode cX12_digest 201 = .ok (.iload_n 3, 1) := by decide +kernel
theorem dX12_digest_202 : decode cX12_digest 202 = .ok (.aload_n 0, 1) := by decide +kernel
theorem dX12_digest_203 : decode cX12_digest 203 = .ok (.getfield 123, 3) := by decide +kernel
theorem dX12_digest_206 : decode cX12_digest 206 = .ok (.if_icmp .ge 23, 3) := by decide +kernel
theorem dX12_digest_209 : decode cX12_digest 209 = .ok (.ldc2_w 205, 3) := by decide +kernel
theorem dX12_digest_212 : decode cX12_digest 212 = .ok (.lload_n 1, 1) := by decide +kernel
theorem dX12_digest_213 : decode cX12_digest 213 = .ok (.lmul, 1) := by decide +kernel
theorem dX12_digest_214 : decode cX12_digest 214 = .ok (.aload_n 0, 1) := by decide +kernel
theorem dX12_digest_215 : decode cX12_digest 215 = .ok (.getfield 28, 3) := by decide +kernel
theorem dX12_digest_218 : decode cX12_digest 218 = .ok (.iload_n 3, 1) := by decide +kernel
theorem dX12_digest_219 : decode cX12_digest 219 = .ok (.iaload, 1) := by decide +kernel
theorem dX12_digest_220 : decode cX12_digest 220 = .ok (.i2l, 1) := by decide +kernel
theorem dX12_digest_221 : decode cX12_digest 221 = .ok (.ladd, 1) := by decide +kernel
theorem dX12_digest_222 : decode cX12_digest 222 = .ok (.lstore_n 1, 1) := by decide +kernel
theorem dX12_digest_223 : decode cX12_digest 223 = .ok (.iinc 3 1, 3) := by decide +kernel
theorem dX12_digest_226 : decode cX12_digest 226 = .ok (.goto (-25), 3) := by decide +kernel
theorem dX12_digest_229 : decode cX12_digest 229 = .ok (.lload_n 1, 1) := by decide +kernel
theorem dX12_digest_230 : decode cX12_digest 230 = .ok (.lreturn, 1) := by decide +kernel
theorem dJ6_bitCount_0f7a4_0 : decode cJ6_bitCount_0f7a4 0 = .ok (.iload_n 0, 1) := by decide +kernel
theorem dJ6_bitCount_0f7a4_1 : decode cJ6_bitCount_0f7a4 1 = .ok (.iload_n 0, 1) := by decide +kernel
theorem dJ6_bitCount_0f7a4_2 : decode cJ6_bitCount_0f7a4 2 = .ok (.iconst 1, 1) := by decide +kernel
theorem dJ6_bitCount_0f7a4_3 : decode cJ6_bitCount_0f7a4 3 = .ok (.iushr, 1) := by decide +kernel
theorem dJ6_bitCount_0f7a4_4 : decode cJ6_bitCount_0f7a4 4 = .ok (.ldc_w 265, 3) := by decide +kernel
theorem dJ6_bitCount_0f7a4_7 : decode cJ6_bitCount_0f7a4 7 = .ok (.iand, 1) := by decide +kernel
theorem dJ6_bitCount_0f7a4_8 : decode cJ6_bitCount_0f7a4 8 = .ok (.isub, 1) := by decide +kernel
theorem dJ6_bitCount_0f7a4_9 : decode cJ6_bitCount_0f7a4 9 = .ok (.istore_n 0, 1) := by decide +kernel
theorem dJ6_bitCount_0f7a4_10 : decode cJ6_bitCount_0f7a4 10 = .ok (.iload_n 0, 1) := by decide +kernel
theorem dJ6_bitCount_0f7a4_11 : decode cJ6_bitCount_0f7a4 11 = .ok (.ldc_w 266, 3) := by decide +kernel
theorem dJ6_bitCount_0f7a4_14 : decode cJ6_bitCount_0f7a4 14 = .ok (.iand, 1) := by decide +kernel
theorem dJ6_bitCount_0f7a4_15 : decode cJ6_bitCount_0f7a4 15 = .ok (.iload_n 0, 1) := by decide +kernel
theorem dJ6_bitCount_0f7a4_16 : decode cJ6_bitCount_0f7a4 16 = .ok (.iconst 2, 1) := by decide +kernel
theorem dJ6_bitCount_0f7a4_17 : decode cJ6_bitCount_0f7a4 17 = .ok (.iushr, 1) := by decide +kernel
theorem dJ6_bitCount_0f7a4_18 : decode cJ6_bitCount_0f7a4 18 = .ok (.ldc_w 266, 3) := by decide +kernel
theorem dJ6_bitCount_0f7a4_21 : decode cJ6_bitCount_0f7a4 21 = .ok (.iand, 1) := by decide +kernel
theorem dJ6_bitCount_0f7a4_22 : decode cJ6_bitCount_0f7a4 22 = .ok (.iadd, 1) := by decide +kernel
theorem dJ6_bitCount_0f7a4_23 : decode cJ6_bitCount_0f7a4 23 = .ok (.istore_n 0, 1) := by decide +kernel
theorem dJ6_bitCount_0f7a4_24 : decode cJ6_bitCount_0f7a4 24 = .ok (.iload_n 0, 1) := by decide +kernel
theorem dJ6_bitCount_0f7a4_25 : decode cJ6_bitCount_0f7a4 25 = .ok (.iload_n 0, 1) := by decide +kernel
theorem dJ6_bitCount_0f7a4_26 : decode cJ6_bitCount_0f7a4 26 = .ok (.iconst 4, 1) := by decide +kernel
theorem dJ6_bitCount_0f7a4_27 : decode cJ6_bitCount_0f7a4 27 = .ok (.iushr, 1) := by decide +kernel
theorem dJ6_bitCount_0f7a4_28 : decode cJ6_bitCount_0f7a4 28 = .ok (.iadd, 1) := by decide +kernel
theorem dJ6_bitCount_0f7a4_29 : decode cJ6_bitCount_0f7a4 29 = .ok (.ldc_w 267, 3) := by decide +kernel
theorem dJ6_bitCount_0f7a4_32 : decode cJ6_bitCount_0f7a4 32 = .ok (.iand, 1) := by decide +kernel
theorem dJ6_bitCount_0f7a4_33 : decode cJ6_bitCount_0f7a4 33 = .ok (.istore_n 0, 1) := by decide +kernel
theorem dJ6_bitCount_0f7a4_34 : decode cJ6_bitCount_0f7a4 34 = .ok (.iload_n 0, 1) := by decide +kernel
theorem dJ6_bitCount_0f7a4_35 : decode cJ6_bitCount_0f7a4 35 = .ok (.iload_n 0, 1) := by decide +kernel
theorem dJ6_bitCount_0f7a4_36 : decode cJ6_bitCount_0f7a4 36 = .ok (.bipush 8, 2) := by decide +kernel
theorem dJ6_bitCount_0f7a4_38 : decode cJ6_bitCount_0f7a4 38 = .ok (.iushr, 1) := by decide +kernel
theorem dJ6_bitCount_0f7a4_39 : decode cJ6_bitCount_0f7a4 39 = .ok (.iadd, 1) := by decide +kernel
theorem dJ6_bitCount_0f7a4_40 : decode cJ6_bitCount_0f7a4 40 = .ok (.istore_n 0, 1) := by decide +kernel
theorem dJ6_bitCount_0f7a4_41 : decode cJ6_bitCount_0f7a4 41 = .ok (.iload_n 0, 1) := by decide +kernel
theorem dJ6_bitCount_0f7a4_42 : decode cJ6_bitCount_0f7a4 42 = .ok (.iload_n 0, 1) := by decide +kernel
theorem dJ6_bitCount_0f7a4_43 : decode cJ6_bitCount_0f7a4 43 = .ok (.bipush 16, 2) := by decide +kernel
theorem dJ6_bitCount_0f7a4_45 : decode cJ6_bitCount_0f7a4 45 = .ok (.iushr, 1) := by decide +kernel
theorem dJ6_bitCount_0f7a4_46 : decode cJ6_bitCount_0f7a4 46 = .ok (.iadd, 1) := by decide +kernel
theorem dJ6_bitCount_0f7a4_47 : decode cJ6_bitCount_0f7a4 47 = .ok (.istore_n 0, 1) := by decide +kernel
theorem dJ6_bitCount_0f7a4_48 : decode cJ6_bitCount_0f7a4 48 = .ok (.iload_n 0, 1) := by decide +kernel
theorem dJ6_bitCount_0f7a4_49 : decode cJ6_bitCount_0f7a4 49 = .ok (.bipush 63, 2) := by decide +kernel
theorem dJ6_bitCount_0f7a4_51 : decode cJ6_bitCount_0f7a4 51 = .ok (.iand, 1) := by decide +kernel
theorem dJ6_bitCount_0f7a4_52 : decode cJ6_bitCount_0f7a4 52 = .ok (.ireturn, 1) := by decide +kernel
theorem dJ9_min_7cf53_0 : decode cJ9_min_7cf53 0 = .ok (.iload_n 0, 1) := by decide +kernel
theorem dJ9_min_7cf53_1 : decode cJ9_min_7cf53 1 = .ok (.iload_n 1, 1) := by decide +kernel
theorem dJ9_min_7cf53_2 : decode cJ9_min_7cf53 2 = .ok (.if_icmp .gt 7, 3) := by decide +kernel
theorem dJ9_min_7cf53_5 : decode cJ9_min_7cf53 5 = .ok (.iload_n 0, 1) := by decide +kernel
theorem dJ9_min_7cf53_6 : decode cJ9_min_7cf53 6 = .ok (.goto 4, 3) := by decide +kernel
theorem dJ9_min_7cf53_9 : decode cJ9_min_7cf53 9 = .ok (.iload_n 1, 1) := by decide +kernel
theorem dJ9_min_7cf53_10 : decode cJ9_min_7cf53 10 = .ok (.ireturn, 1) := by decide +kernel
theorem dJ7_fill_d0a16_0 : decode cJ7_fill_d0a16 0 = .ok (.iconst 0, 1) := by decide +kernel
theorem dJ7_fill_d0a16_1 : decode cJ7_fill_d0a16 1 = .ok (.istore_n 3, 1) := by decide +kernel
theorem dJ7_fill_d0a16_2 : decode cJ7_fill_d0a16 2 = .ok (.aload_n 0, 1) := by decide +kernel
theorem dJ7_fill_d0a16_3 : decode cJ7_fill_d0a16 3 = .ok (.arraylength, 1) := by decide +kernel
theorem dJ7_fill_d0a16_4 : decode cJ7_fill_d0a16 4 = .ok (.istore 4, 2) := by decide +kernel
theorem dJ7_fill_d0a16_6 : decode cJ7_fill_d0a16 6 = .ok (.iload_n 3, 1) := by decide +kernel
theorem dJ7_fill_d0a16_7 : decode cJ7_fill_d0a16 7 = .ok (.iload 4, 2) := by decide +kernel
theorem dJ7_fill_d0a16_9 : decode cJ7_fill_d0a16 9 = .ok (.if_icmp .ge 13, 3) := by decide +kernel
theorem dJ7_fill_d0a16_12 : decode cJ7_fill_d0a16 12 = .ok (.aload_n 0, 1) := by decide +kernel
theorem dJ7_fill_d0a16_13 : decode cJ7_fill_d0a16 13 = .ok (.iload_n 3, 1) := by decide +kernel
theorem dJ7_fill_d0a16_14 : decode cJ7_fill_d0a16 14 = .ok (.lload_n 1, 1) := by decide +kernel
theorem dJ7_fill_d0a16_15 : decode cJ7_fill_d0a16 15 = .ok (.lastore, 1) := by decide +kernel
theorem dJ7_fill_d0a16_16 : decode cJ7_fill_d0a16 16 = .ok (.iinc 3 1, 3) := by decide +kernel
theorem dJ7_fill_d0a16_19 : decode cJ7_fill_d0a16 19 = .ok (.goto (-13), 3) := by decide +kernel
theorem dJ7_fill_d0a16_22 : decode cJ7_fill_d0a16 22 = .ok (.return_, 1) := by decide +kernel
theorem dJ7_fill_53178_0 : decode cJ7_fill_53178 0 = .ok (.iconst 0, 1) := by decide +kernel
theorem dJ7_fill_53178_1 : decode cJ7_fill_53178 1 = .ok (.istore_n 2, 1) := by decide +kernel
theorem dJ7_fill_53178_2 : decode cJ7_fill_53178 2 = .ok (.aload_n 0, 1) := by decide +kernel
theorem dJ7_fill_53178_3 : decode cJ7_fill_53178 3 = .ok (.arraylength, 1) := by decide +kernel
theorem dJ7_fill_53178_4 : decode cJ7_fill_53178 4 = .ok (.istore_n 3, 1) := by decide +kernel
theorem dJ7_fill_53178_5 : decode cJ7_fill_53178 5 = .ok (.iload_n 2, 1) := by decide +kernel
theorem dJ7_fill_53178_6 : decode cJ7_fill_53178 6 = .ok (.iload_n 3, 1) := by decide +kernel
theorem dJ7_fill_53178_7 : decode cJ7_fill_53178 7 = .ok (.if_icmp .ge 13, 3) := by decide +kernel
theorem dJ7_fill_53178_10 : decode cJ7_fill_53178 10 = .ok (.aload_n 0, 1) := by decide +kernel
theorem dJ7_fill_53178_11 : decode cJ7_fill_53178 11 = .ok (.iload_n 2, 1) := by decide +kernel
theorem dJ7_fill_53178_12 : decode cJ7_fill_53178 12 = .ok (.iload_n 1, 1) := by decide +kernel
theorem dJ7_fill_53178_13 : decode cJ7_fill_53178 13 = .ok (.iastore, 1) := by decide +kernel
theorem dJ7_fill_53178_14 : decode cJ7_fill_53178 14 = .ok (.iinc 2 1, 3) := by decide +kernel
theorem dJ7_fill_53178_17 : decode cJ7_fill_53178 17 = .ok (.goto (-12), 3) := by decide +kernel
theorem dJ7_fill_53178_20 : decode cJ7_fill_53178 20 = .ok (.return_, 1) := by decide +kernel
abbrev vwCl : List vw_C := [(RX0, TX0, 4), (RX1, TX1, 3), (RX2, TX2, 6), (RX4, TX4, 6), (RX5, TX5, 3), (RX6, TX6, 5), (RX7, TX7, 4), (RX8, TX8, 3), (RX9, TX9, 1), (RX10, TX10, 2), (RX11, TX11, 11), (RX12, TX12, 30)]
