theorem dX12_colour_28 : decode cX12_colour 28 = .ok (.istore_n 2, 1) := by decide +kernel
theorem dX12_colour_29 : decode cX12_colour 29 = .ok (.iconst 1, 1) := by decide +kernel
theorem dX12_colour_30 : decode cX12_colour 30 = .ok (.istore_n 3, 1) := by decide +kernel
theorem dX12_colour_31 : decode cX12_colour 31 = .ok (.iconst 2, 1) := by decide +kernel
theorem dX12_colour_32 : decode cX12_colour 32 = .ok (.istore 4, 2) := by decide +kernel
theorem dX12_colour_34 : decode cX12_colour 34 = .ok (.iload 4, 2) := by decide +kernel
theorem dX12_colour_36 : decode cX12_colour 36 = .ok (.aload_n 0, 1) := by decide +kernel
theorem dX12_colour_37 : decode cX12_colour 37 = .ok (.getfield 13, 3) := by decide +kernel
theorem dX12_colour_40 : decode cX12_colour 40 = .ok (.iload_n 1, 1) := by decide +kernel
theorem dX12_colour_41 : decode cX12_colour 41 = .ok (.iaload, 1) := by decide +kernel
theorem dX12_colour_42 : decode cX12_colour 42 = .ok (.if_icmp .gt 14, 3) := by decide +kernel
theorem dX12_colour_45 : decode cX12_colour 45 = .ok (.iload_n 3, 1) := by decide +kernel
theorem dX12_colour_46 : decode cX12_colour 46 = .ok (.iload 4, 2) := by decide +kernel
theorem dX12_colour_48 : decode cX12_colour 48 = .ok (.imul, 1) := by decide +kernel
theorem dX12_colour_49 : decode cX12_colour 49 = .ok (.istore_n 3, 1) := by decide +kernel
theorem dX12_colour_50 : decode cX12_colour 50 = .ok (.iinc 4 1, 3) := by decide +kernel
theorem dX12_colour_53 : decode cX12_colour 53 = .ok (.goto (-19), 3) := by decide +kernel
theorem dX12_colour_56 : decode cX12_colour 56 = .ok (.iconst 0, 1) := by decide +kernel
theorem dX12_colour_57 : decode cX12_colour 57 = .ok (.istore 4, 2) := by decide +kernel
theorem dX12_colour_59 : decode cX12_colour 59 = .ok (.iload 4, 2) := by decide +kernel
theorem dX12_colour_61 : decode cX12_colour 61 = .ok (.iload_n 2, 1) := by decide +kernel
theorem dX12_colour_62 : decode cX12_colour 62 = .ok (.if_icmp .ge 62, 3) := by decide +kernel
theorem dX12_colour_65 : decode cX12_colour 65 = .ok (.aload_n 0, 1) := by decide +kernel
theorem dX12_colour_66 : decode cX12_colour 66 = .ok (.getfield 75, 3) := by decide +kernel
theorem dX12_colour_69 : decode cX12_colour 69 = .ok (.iload 4, 2) := by decide +kernel
theorem dX12_colour_71 : decode cX12_colour 71 = .ok (.iconst 0, 1) := by decide +kernel
theorem dX12_colour_72 : decode cX12_colour 72 = .ok (.iastore, 1) := by decide +kernel
theorem dX12_colour_73 : decode cX12_colour 73 = .ok (.iconst 0, 1) := by decide +kernel
theorem dX12_colour_74 : decode cX12_colour 74 = .ok (.istore 5, 2) := by decide +kernel
theorem dX12_colour_76 : decode cX12_colour 76 = .ok (.iload 5, 2) := by decide +kernel
theorem dX12_colour_78 : decode cX12_colour 78 = .ok (.aload_n 0, 1) := by decide +kernel
theorem dX12_colour_79 : decode cX12_colour 79 = .ok (.getfield 13, 3) := by decide +kernel
theorem dX12_colour_82 : decode cX12_colour 82 = .ok (.iload_n 1, 1) := by decide +kernel
theorem dX12_colour_83 : decode cX12_colour 83 = .ok (.iaload, 1) := by decide +kernel
theorem dX12_colour_84 : decode cX12_colour 84 = .ok (.if_icmp .ge 34, 3) := by decide +kernel
theorem dX12_colour_87 : decode cX12_colour 87 = .ok (.aload_n 0, 1) := by decide +kernel
theorem dX12_colour_88 : decode cX12_colour 88 = .ok (.getfield 78, 3) := by decide +kernel
theorem dX12_colour_91 : decode cX12_colour 91 = .ok (.iconst 4, 1) := by decide +kernel
theorem dX12_colour_92 : decode cX12_colour 92 = .ok (.iload 4, 2) := by decide +kernel
theorem dX12_colour_94 : decode cX12_colour 94 = .ok (.imul, 1) := by decide +kernel
theorem dX12_colour_95 : decode cX12_colour 95 = .ok (.iload 5, 2) := by decide +kernel
theorem dX12_colour_97 : decode cX12_colour 97 = .ok (.iadd, 1) := by decide +kernel
theorem dX12_colour_98 : decode cX12_colour 98 = .ok (.aload_n 0, 1) := by decide +kernel
theorem dX12_colour_99 : decode cX12_colour 99 = .ok (.getfield 16, 3) := by decide +kernel
theorem dX12_colour_102 : decode cX12_colour 102 = .ok (.iload_n 1, 1) := by decide +kernel
theorem dX12_colour_103 : decode cX12_colour 103 = .ok (.iload 4, 2) := by decide +kernel
theorem dX12_colour_105 : decode cX12_colour 105 = .ok (.iload 5, 2) := by decide +kernel
theorem dX12_colour_107 : decode cX12_colour 107 = .ok (.invokestatic 102, 3) := by decide +kernel
theorem dX12_colour_110 : decode cX12_colour 110 = .ok (.iaload, 1) := by decide +kernel
theorem dX12_colour_111 : decode cX12_colour 111 = .ok (.iastore, 1) := by decide +kernel
theorem dX12_colour_112 : decode cX12_colour 112 = .ok (.iinc 5 1, 3) := by decide +kernel
theorem dX12_colour_115 : decode cX12_colour 115 = .ok (.goto (-39), 3) := by decide +kernel
theorem dX12_colour_118 : decode cX12_colour 118 = .ok (.iinc 4 1, 3) := by decide +kernel
theorem dX12_colour_121 : decode cX12_colour 121 = .ok (.goto (-62), 3) := by decide +kernel
theorem dX12_colour_124 : decode cX12_colour 124 = .ok (.iconst 0, 1) := by decide +kernel
theorem dX12_colour_125 : decode cX12_colour 125 = .ok (.istore 4, 2) := by decide +kernel
theorem dX12_colour_127 : decode cX12_colour 127 = .ok (.iconst 0, 1) := by decide +kernel
theorem dX12_colour_128 : decode cX12_colour 128 = .ok (.istore 5, 2) := by decide +kernel
theorem dX12_colour_130 : decode cX12_colour 130 = .ok (.iload 4, 2) := by decide +kernel
theorem dX12_colour_132 : decode cX12_colour 132 = .ok (.sipush 1500, 3) := by decide +kernel
theorem dX12_colour_135 : decode cX12_colour 135 = .ok (.if_icmp .ge 92, 3) := by decide +kernel
theorem dX12_colour_138 : decode cX12_colour 138 = .ok (.iload 5, 2) := by decide +kernel
theorem dX12_colour_140 : decode cX12_colour 140 = .ok (.ifCond .lt 87, 3) := by decide +kernel
theorem dX12_colour_143 : decode cX12_colour 143 = .ok (.aload_n 0, 1) := by decide +kernel
theorem dX12_colour_144 : decode cX12_colour 144 = .ok (.iload_n 1, 1) := by decide +kernel
theorem dX12_colour_145 : decode cX12_colour 145 = .ok (.invokevirtual 154, 3) := by decide +kernel
theorem dX12_colour_148 : decode cX12_colour 148 = .ok (.ifCond .ne 6, 3) := by decide +kernel
theorem dX12_colour_151 : decode cX12_colour 151 = .ok (.iload 4, 2) := by decide +kernel
theorem dX12_colour_153 : decode cX12_colour 153 = .ok (.ireturn, 1) := by decide +kernel
theorem dX12_colour_154 : decode cX12_colour 154 = .ok (.iload_n 2, 1) := by decide +kernel
theorem dX12_colour_155 : decode cX12_colour 155 = .ok (.iconst 1, 1) := by decide +kernel
theorem dX12_colour_156 : decode cX12_colour 156 = .ok (.isub, 1) := by decide +kernel
theorem dX12_colour_157 : decode cX12_colour 157 = .ok (.istore 5, 2) := by decide +kernel
theorem dX12_colour_159 : decode cX12_colour 159 = .ok (.iload 5, 2) := by decide +kernel
theorem dX12_colour_161 : decode cX12_colour 161 = .ok (.ifCond .lt 37, 3) := by decide +kernel
theorem dX12_colour_164 : decode cX12_colour 164 = .ok (.aload_n 0, 1) := by decide +kernel
theorem dX12_colour_165 : decode cX12_colour 165 = .ok (.getfield 75, 3) := by decide +kernel
theorem dX12_colour_168 : decode cX12_colour 168 = .ok (.iload 5, 2) := by decide +kernel
theorem dX12_colour_170 : decode cX12_colour 170 = .ok (.iaload, 1) := by decide +kernel
theorem dX12_colour_171 : decode cX12_colour 171 = .ok (.iload_n 3, 1) := by decide +kernel
theorem dX12_colour_172 : decode cX12_colour 172 = .ok (.iconst 1, 1) := by decide +kernel
theorem dX12_colour_173 : decode cX12_colour 173 = .ok (.isub, 1) := by decide +kernel
theorem dX12_colour_174 : decode cX12_colour 174 = .ok (.if_icmp .ne 24, 3) := by decide +kernel
theorem dX12_colour_177 : decode cX12_colour 177 = .ok (.aload_n 0, 1) := by decide +kernel
theorem dX12_colour_178 : decode cX12_colour 178 = .ok (.getfield 75, 3) := by decide +kernel
theorem dX12_colour_181 : decode cX12_colour 181 = .ok (.iload 5, 2) := by decide +kernel
theorem dX12_colour_183 : decode cX12_colour 183 = .ok (.iconst 0, 1) := by decide +kernel
theorem dX12_colour_184 : decode cX12_colour 184 = .ok (.iastore, 1) := by decide +kernel
theorem dX12_colour_185 : decode cX12_colour 185 = .ok (.aload_n 0, 1) := by decide +kernel
theorem dX12_colour_186 : decode cX12_colour 186 = .ok (.iload_n 1, 1) := by decide +kernel
theorem dX12_colour_187 : decode cX12_colour 187 = .ok (.iload 5, 2) := by decide +kernel
theorem dX12_colour_189 : decode cX12_colour 189 = .ok (.invokevirtual 200, 3) := by decide +kernel
theorem dX12_colour_192 : decode cX12_colour 192 = .ok (.iinc 5 (-1), 3) := by decide +kernel
theorem dX12_colour_195 : decode cX12_colour 195 = .ok (.goto (-36), 3) := by decide +kernel
theorem dX12_colour_198 : decode cX12_colour 198 = .ok (.iload 5, 2) := by decide +kernel
theorem dX12_colour_200 : decode cX12_colour 200 = .ok (.ifCond .lt 21, 3) := by decide +kernel
theorem dX12_colour_203 : decode cX12_colour 203 = .ok (.aload_n 0, 1) := by decide +kernel
theorem dX12_colour_204 : decode cX12_colour 204 = .ok (.getfield 75, 3) := by decide +kernel
theorem dX12_colour_207 : decode cX12_colour 207 = .ok (.iload 5, 2) := by decide +kernel
theorem dX12_colour_209 : decode cX12_colour 209 = .ok (.dup2, 1) := by decide +kernel
theorem dX12_colour_210 : decode cX12_colour 210 = .ok (.iaload, 1) := by decide +kernel
theorem dX12_colour_211 : decode cX12_colour 211 = .ok (.iconst 1, 1) := by decide +kernel
theorem dX12_colour_212 : decode cX12_colour 212 = .ok (.iadd, 1) := by decide +kernel
theorem dX12_colour_213 : decode cX12_colour 213 = .ok (.iastore, 1) := by decide +kernel
theorem dX12_colour_214 : decode cX12_colour 214 = .ok (.aload_n 0, 1) := by decide +kernel
theorem dX12_colour_215 : decode cX12_colour 215 = .ok (.iload_n 1, 1) := by decide +kernel
theorem dX12_colour_216 : decode cX12_colour 216 = .ok (.iload 5, 2) := by decide +kernel
theorem dX12_colour_218 : decode cX12_colour 218 = .ok (.invokevirtual 200, 3) := by decide +kernel
theorem dX12_colour_221 : decode cX12_colour 221 = .ok (.iinc 4 1, 3) := by decide +kernel
theorem dX12_colour_224 : decode cX12_colour 224 = .ok (.goto (-94), 3) := by decide +kernel
theorem dX12_colour_227 : decode cX12_colour 227 = .ok (.iconst 0, 1) := by decide +kernel
theorem dX12_colour_228 : decode cX12_colour 228 = .ok (.istore 6, 2) := by decide +kernel
theorem dX12_colour_230 : decode cX12_colour 230 = .ok (.iload 6, 2) := by decide +kernel
theorem dX12_colour_232 : decode cX12_colour 232 = .ok (.iload_n 2, 1) := by decide +kernel
theorem dX12_colour_233 : decode cX12_colour 233 = .ok (.if_icmp .ge 24, 3) := by decide +kernel
theorem dX12_colour_236 : decode cX12_colour 236 = .ok (.aload_n 0, 1) := by decide +kernel
theorem dX12_colour_237 : decode cX12_colour 237 = .ok (.getfield 75, 3) := by decide +kernel
theorem dX12_colour_240 : decode cX12_colour 240 = .ok (.iload 6, 2) := by decide +kernel
theorem dX12_colour_242 : decode cX12_colour 242 = .ok (.iconst 0, 1) := by decide +kernel
theorem dX12_colour_243 : decode cX12_colour 243 = .ok (.iastore, 1) := by decide +kernel
theorem dX12_colour_244 : decode cX12_colour 244 = .ok (.aload_n 0, 1) := by decide +kernel
theorem dX12_colour_245 : decode cX12_colour 245 = .ok (.iload_n 1, 1) := by decide +kernel
theorem dX12_colour_246 : decode cX12_colour 246 = .ok (.iload 6, 2) := by decide +kernel
theorem dX12_colour_248 : decode cX12_colour 248 = .ok (.invokevirtual 200, 3) := by decide +kernel
theorem dX12_colour_251 : decode cX12_colour 251 = .ok (.iinc 6 1, 3) := by decide +kernel
theorem dX12_colour_254 : decode cX12_colour 254 = .ok (.goto (-24), 3) := by decide +kernel
theorem dX12_colour_257 : decode cX12_colour 257 = .ok (.iconst (-1), 1) := by decide +kernel
theorem dX12_colour_258 : decode cX12_colour 258 = .ok (.ireturn, 1) := by decide +kernel
set_option maxRecDepth 20000 in
theorem ggX12_apart_X12_isState : GoodIn wsX12_apart wsX12_isState := goodIn_r _ [10, 11, 12, 13, 14, 9, 15, 16, 17, 18, 19, 23, 24, 25, 26, 27, 28, 29, 30, 31, 32, 33, 34, 35, 36, 37, 38, 39, 40, 41, 42, 43, 44, 45, 46, 47, 48, 49, 50, 51, 52] (by decide +kernel) (by decide +kernel)
set_option maxRecDepth 20000 in
theorem gX12_apart_X12_isState : GoodIn wsX12_apart (wsV RX12 110 RX12 yX12_isState wsX12_isState) := goodIn_app (goodIn_of _ (by decide +kernel)) ggX12_apart_X12_isState
set_option maxRecDepth 20000 in
theorem ggX12_apart_X12_at : GoodIn wsX12_apart wsX12_at := goodIn_r _ [22] (by decide +kernel) (by decide +kernel)
set_option maxRecDepth 20000 in
theorem gX12_apart_X12_at : GoodIn wsX12_apart (va_wsS RX12 102 yX12_at wsX12_at) := goodIn_app (goodIn_of _ (by decide +kernel)) ggX12_apart_X12_at
theorem dX12_apart_0 : decode cX12_apart 0 = .ok (.aload_n 0, 1) := by decide +kernel
theorem dX12_apart_1 : decode cX12_apart 1 = .ok (.iload_n 1, 1) := by decide +kernel
theorem dX12_apart_2 : decode cX12_apart 2 = .ok (.iload_n 2, 1) := by decide +kernel
theorem dX12_apart_3 : decode cX12_apart 3 = .ok (.invokevirtual 110, 3) := by decide +kernel
theorem dX12_apart_6 : decode cX12_apart 6 = .ok (.ifCond .eq 12, 3) := by decide +kernel
theorem dX12_apart_9 : decode cX12_apart 9 = .ok (.aload_n 0, 1) := by decide +kernel
theorem dX12_apart_10 : decode cX12_apart 10 = .ok (.iload_n 1, 1) := by decide +kernel
theorem dX12_apart_11 : decode cX12_apart 11 = .ok (.iload_n 3, 1) := by decide +kernel
theorem dX12_apart_12 : decode cX12_apart 12 = .ok (.invokevirtual 110, 3) := by decide +kernel
theorem dX12_apart_15 : decode cX12_apart 15 = .ok (.ifCond .ne 6, 3) := by decide +kernel
theorem dX12_apart_18 : decode cX12_apart 18 = .ok (.bipush (-2), 2) := by decide +kernel
theorem dX12_apart_20 : decode cX12_apart 20 = .ok (.ireturn, 1) := by decide +kernel
theorem dX12_apart_21 : decode cX12_apart 21 = .ok (.iconst 0, 1) := by decide +kernel
theorem dX12_apart_22 : decode cX12_apart 22 = .ok (.istore 4, 2) := by decide +kernel
theorem dX12_apart_24 : decode cX12_apart 24 = .ok (.iload 4, 2) := by decide +kernel
theorem dX12_apart_26 : decode cX12_apart 26 = .ok (.sipush 144, 3) := by decide +kernel
theorem dX12_apart_29 : decode cX12_apart 29 = .ok (.if_icmp .ge 17, 3) := by decide +kernel
theorem dX12_apart_32 : decode cX12_apart 32 = .ok (.aload_n 0, 1) := by decide +kernel
theorem dX12_apart_33 : decode cX12_apart 33 = .ok (.getfield 87, 3) := by decide +kernel
theorem dX12_apart_36 : decode cX12_apart 36 = .ok (.iload 4, 2) := by decide +kernel
theorem dX12_apart_38 : decode cX12_apart 38 = .ok (.iconst (-1), 1) := by decide +kernel
theorem dX12_apart_39 : decode cX12_apart 39 = .ok (.iastore, 1) := by decide +kernel
theorem dX12_apart_40 : decode cX12_apart 40 = .ok (.iinc 4 1, 3) := by decide +kernel
theorem dX12_apart_43 : decode cX12_apart 43 = .ok (.goto (-19), 3) := by decide +kernel
theorem dX12_apart_46 : decode cX12_apart 46 = .ok (.iconst 1, 1) := by decide +kernel
theorem dX12_apart_47 : decode cX12_apart 47 = .ok (.istore 4, 2) := by decide +kernel
theorem dX12_apart_49 : decode cX12_apart 49 = .ok (.aload_n 0, 1) := by decide +kernel
theorem dX12_apart_50 : decode cX12_apart 50 = .ok (.getfield 84, 3) := by decide +kernel
theorem dX12_apart_53 : decode cX12_apart 53 = .ok (.iconst 0, 1) := by decide +kernel
theorem dX12_apart_54 : decode cX12_apart 54 = .ok (.bipush 12, 2) := by decide +kernel
theorem dX12_apart_56 : decode cX12_apart 56 = .ok (.iload_n 2, 1) := by decide +kernel
theorem dX12_apart_57 : decode cX12_apart 57 = .ok (.imul, 1) := by decide +kernel
theorem dX12_apart_58 : decode cX12_apart 58 = .ok (.iload_n 3, 1) := by decide +kernel
theorem dX12_apart_59 : decode cX12_apart 59 = .ok (.iadd, 1) := by decide +kernel
theorem dX12_apart_60 : decode cX12_apart 60 = .ok (.iastore, 1) := by decide +kernel
theorem dX12_apart_61 : decode cX12_apart 61 = .ok (.aload_n 0, 1) := by decide +kernel
theorem dX12_apart_62 : decode cX12_apart 62 = .ok (.getfield 87, 3) := by decide +kernel
theorem dX12_apart_65 : decode cX12_apart 65 = .ok (.aload_n 0, 1) := by decide +kernel
theorem dX12_apart_66 : decode cX12_apart 66 = .ok (.getfield 84, 3) := by decide +kernel
theorem dX12_apart_69 : decode cX12_apart 69 = .ok (.iconst 0, 1) := by decide +kernel
theorem dX12_apart_70 : decode cX12_apart 70 = .ok (.iaload, 1) := by decide +kernel
theorem dX12_apart_71 : decode cX12_apart 71 = .ok (.iconst 0, 1) := by decide +kernel
theorem dX12_apart_72 : decode cX12_apart 72 = .ok (.iastore, 1) := by decide +kernel
theorem dX12_apart_73 : decode cX12_apart 73 = .ok (.iconst 0, 1) := by decide +kernel
theorem dX12_apart_74 : decode cX12_apart 74 = .ok (.istore 5, 2) := by decide +kernel
theorem dX12_apart_76 : decode cX12_apart 76 = .ok (.iload 5, 2) := by decide +kernel
theorem dX12_apart_78 : decode cX12_apart 78 = .ok (.iload 4, 2) := by decide +kernel
theorem dX12_apart_80 : decode cX12_apart 80 = .ok (.if_icmp .ge 197, 3) := by decide +kernel
theorem dX12_apart_83 : decode cX12_apart 83 = .ok (.aload_n 0, 1) := by decide +kernel
theorem dX12_apart_84 : decode cX12_apart 84 = .ok (.getfield 84, 3) := by decide +kernel
theorem dX12_apart_87 : decode cX12_apart 87 = .ok (.iload 5, 2) := by decide +kernel
theorem dX12_apart_89 : decode cX12_apart 89 = .ok (.iaload, 1) := by decide +kernel
theorem dX12_apart_90 : decode cX12_apart 90 = .ok (.bipush 12, 2) := by decide +kernel
theorem dX12_apart_92 : decode cX12_apart 92 = .ok (.idiv, 1) := by decide +kernel
theorem dX12_apart_93 : decode cX12_apart 93 = .ok (.istore 6, 2) := by decide +kernel
theorem dX12_apart_95 : decode cX12_apart 95 = .ok (.aload_n 0, 1) := by decide +kernel
theorem dX12_apart_96 : decode cX12_apart 96 = .ok (.getfield 84, 3) := by decide +kernel
theorem dX12_apart_99 : decode cX12_apart 99 = .ok (.iload 5, 2) := by decide +kernel
theorem dX12_apart_101 : decode cX12_apart 101 = .ok (.iaload, 1) := by decide +kernel
theorem dX12_apart_102 : decode cX12_apart 102 = .ok (.bipush 12, 2) := by decide +kernel
theorem dX12_apart_104 : decode cX12_apart 104 = .ok (.irem, 1) := by decide +kernel
theorem dX12_apart_105 : decode cX12_apart 105 = .ok (.istore 7, 2) := by decide +kernel
theorem dX12_apart_107 : decode cX12_apart 107 = .ok (.aload_n 0, 1) := by decide +kernel
theorem dX12_apart_108 : decode cX12_apart 108 = .ok (.getfield 19, 3) := by decide +kernel
theorem dX12_apart_111 : decode cX12_apart 111 = .ok (.bipush 12, 2) := by decide +kernel
theorem dX12_apart_113 : decode cX12_apart 113 = .ok (.iload_n 1, 1) := by decide +kernel
theorem dX12_apart_114 : decode cX12_apart 114 = .ok (.imul, 1) := by decide +kernel
theorem dX12_apart_115 : decode cX12_apart 115 = .ok (.iload 6, 2) := by decide +kernel
theorem dX12_apart_117 : decode cX12_apart 117 = .ok (.iadd, 1) := by decide +kernel
theorem dX12_apart_118 : decode cX12_apart 118 = .ok (.iaload, 1) := by decide +kernel
theorem dX12_apart_119 : decode cX12_apart 119 = .ok (.aload_n 0, 1) := by decide +kernel
theorem dX12_apart_120 : decode cX12_apart 120 = .ok (.getfield 19, 3) := by decide +kernel
theorem dX12_apart_123 : decode cX12_apart 123 = .ok (.bipush 12, 2) := by decide +kernel
theorem dX12_apart_125 : decode cX12_apart 125 = .ok (.iload_n 1, 1) := by decide +kernel
theorem dX12_apart_126 : decode cX12_apart 126 = .ok (.imul, 1) := by decide +kernel
theorem dX12_apart_127 : decode cX12_apart 127 = .ok (.iload 7, 2) := by decide +kernel
theorem dX12_apart_129 : decode cX12_apart 129 = .ok (.iadd, 1) := by decide +kernel
theorem dX12_apart_130 : decode cX12_apart 130 = .ok (.iaload, 1) := by decide +kernel
theorem dX12_apart_131 : decode cX12_apart 131 = .ok (.if_icmp .eq 16, 3) := by decide +kernel
theorem dX12_apart_134 : decode cX12_apart 134 = .ok (.aload_n 0, 1) := by decide +kernel
theorem dX12_apart_135 : decode cX12_apart 135 = .ok (.getfield 87, 3) := by decide +kernel
theorem dX12_apart_138 : decode cX12_apart 138 = .ok (.aload_n 0, 1) := by decide +kernel
theorem dX12_apart_139 : decode cX12_apart 139 = .ok (.getfield 84, 3) := by decide +kernel
theorem dX12_apart_142 : decode cX12_apart 142 = .ok (.iload 5, 2) := by decide +kernel
theorem dX12_apart_144 : decode cX12_apart 144 = .ok (.iaload, 1) := by decide +kernel
theorem dX12_apart_145 : decode cX12_apart 145 = .ok (.iaload, 1) := by decide +kernel
theorem dX12_apart_146 : decode cX12_apart 146 = .ok (.ireturn, 1) := by decide +kernel
theorem dX12_apart_147 : decode cX12_apart 147 = .ok (.iconst 0, 1) := by decide +kernel
theorem dX12_apart_148 : decode cX12_apart 148 = .ok (.istore 8, 2) := by decide +kernel
theorem dX12_apart_150 : decode cX12_apart 150 = .ok (.iload 8, 2) := by decide +kernel
theorem dX12_apart_152 : decode cX12_apart 152 = .ok (.aload_n 0, 1) := by decide +kernel
theorem dX12_apart_153 : decode cX12_apart 153 = .ok (.getfield 13, 3) := by decide +kernel
theorem dX12_apart_156 : decode cX12_apart 156 = .ok (.iload_n 1, 1) := by decide +kernel
theorem dX12_apart_157 : decode cX12_apart 157 = .ok (.iaload, 1) := by decide +kernel
theorem dX12_apart_158 : decode cX12_apart 158 = .ok (.if_icmp .ge 113, 3) := by decide +kernel
theorem dX12_apart_161 : decode cX12_apart 161 = .ok (.aload_n 0, 1) := by decide +kernel
theorem dX12_apart_162 : decode cX12_apart 162 = .ok (.getfield 16, 3) := by decide +kernel
theorem dX12_apart_165 : decode cX12_apart 165 = .ok (.iload_n 1, 1) := by decide +kernel
theorem dX12_apart_166 : decode cX12_apart 166 = .ok (.iload 6, 2) := by decide +kernel
theorem dX12_apart_168 : decode cX12_apart 168 = .ok (.iload 8, 2) := by decide +kernel
theorem dX12_apart_170 : decode cX12_apart 170 = .ok (.invokestatic 102, 3) := by decide +kernel
theorem dX12_apart_173 : decode cX12_apart 173 = .ok (.iaload, 1) := by decide +kernel
theorem dX12_apart_174 : decode cX12_apart 174 = .ok (.istore 9, 2) := by decide +kernel
theorem dX12_apart_176 : decode cX12_apart 176 = .ok (.aload_n 0, 1) := by decide +kernel
theorem dX12_apart_177 : decode cX12_apart 177 = .ok (.getfield 16, 3) := by decide +kernel
theorem dX12_apart_180 : decode cX12_apart 180 = .ok (.iload_n 1, 1) := by decide +kernel
theorem dX12_apart_181 : decode cX12_apart 181 = .ok (.iload 7, 2) := by decide +kernel
theorem dX12_apart_183 : decode cX12_apart 183 = .ok (.iload 8, 2) := by decide +kernel
theorem dX12_apart_185 : decode cX12_apart 185 = .ok (.invokestatic 102, 3) := by decide +kernel
theorem dX12_apart_188 : decode cX12_apart 188 = .ok (.iaload, 1) := by decide +kernel
theorem dX12_apart_189 : decode cX12_apart 189 = .ok (.istore 10, 2) := by decide +kernel
theorem dX12_apart_191 : decode cX12_apart 191 = .ok (.iload 9, 2) := by decide +kernel
theorem dX12_apart_193 : decode cX12_apart 193 = .ok (.iconst (-1), 1) := by decide +kernel
theorem dX12_apart_194 : decode cX12_apart 194 = .ok (.if_icmp .eq 71, 3) := by decide +kernel
theorem dX12_apart_197 : decode cX12_apart 197 = .ok (.iload 10, 2) := by decide +kernel
theorem dX12_apart_199 : decode cX12_apart 199 = .ok (.iconst (-1), 1) := by decide +kernel
theorem dX12_apart_200 : decode cX12_apart 200 = .ok (.if_icmp .eq 65, 3) := by decide +kernel
theorem dX12_apart_203 : decode cX12_apart 203 = .ok (.aload_n 0, 1) := by decide +kernel
theorem dX12_apart_204 : decode cX12_apart 204 = .ok (.getfield 87, 3) := by decide +kernel
theorem dX12_apart_207 : decode cX12_apart 207 = .ok (.bipush 12, 2) := by decide +kernel
theorem dX12_apart_209 : decode cX12_apart 209 = .ok (.iload 9, 2) := by decide +kernel
theorem dX12_apart_211 : decode cX12_apart 211 = .ok (.imul, 1) := by decide +kernel
theorem dX12_apart_212 : decode cX12_apart 212 = .ok (.iload 10, 2) := by decide +kernel
theorem dX12_apart_214 : decode cX12_apart 214 = .ok (.iadd, 1) := by decide +kernel
theorem dX12_apart_215 : decode cX12_apart 215 = .ok (.iaload, 1) := by decide +kernel
theorem dX12_apart_216 : decode cX12_apart 216 = .ok (.iconst (-1), 1) := by decide +kernel
theorem dX12_apart_217 : decode cX12_apart 217 = .ok (.if_icmp .ne 48, 3) := by decide +kernel
theorem dX12_apart_220 : decode cX12_apart 220 = .ok (.aload_n 0, 1) := by decide +kernel
theorem dX12_apart_221 : decode cX12_apart 221 = .ok (.getfield 87, 3) := by decide +kernel
theorem dX12_apart_224 : decode cX12_apart 224 = .ok (.bipush 12, 2) := by decide +kernel
theorem dX12_apart_226 : decode cX12_apart 226 = .ok (.iload 9, 2) := by decide +kernel
theorem dX12_apart_228 : decode cX12_apart 228 = .ok (.imul, 1) := by decide +kernel
theorem dX12_apart_229 : decode cX12_apart 229 = .ok (.iload 10, 2) := by decide +kernel
theorem dX12_apart_231 : decode cX12_apart 231 = .ok (.iadd, 1) := by decide +kernel
theorem dX12_apart_232 : decode cX12_apart 232 = .ok (.aload_n 0, 1) := by decide +kernel
theorem dX12_apart_233 : decode cX12_apart 233 = .ok (.getfield 87, 3) := by decide +kernel
theorem dX12_apart_236 : decode cX12_apart 236 = .ok (.aload_n 0, 1) := by decide +kernel
theorem dX12_apart_237 : decode cX12_apart 237 = .ok (.getfield 84, 3) := by decide +kernel
theorem dX12_apart_240 : decode cX12_apart 240 = .ok (.iload 5, 2) := by decide +kernel
theorem dX12_apart_242 : decode cX12_apart 242 = .ok (.iaload, 1) := by decide +kernel
theorem dX12_apart_243 : decode cX12_apart 243 = .ok (.iaload, 1) := by decide +kernel
theorem dX12_apart_244 : decode cX12_apart 244 = .ok (.iconst 1, 1) := by decide +kernel
theorem dX12_apart_245 : decode cX12_apart 245 = .ok (.iadd, 1) := by decide +kernel
theorem dX12_apart_246 : decode cX12_apart 246 = .ok (.iastore, 1) := by decide +kernel
theorem dX12_apart_247 : decode cX12_apart 247 = .ok (.aload_n 0, 1) := by decide +kernel
theorem dX12_apart_248 : decode cX12_apart 248 = .ok (.getfield 84, 3) := by decide +kernel
theorem dX12_apart_251 : decode cX12_apart 251 = .ok (.iload 4, 2) := by decide +kernel
theorem dX12_apart_253 : decode cX12_apart 253 = .ok (.bipush 12, 2) := by decide +kernel
theorem dX12_apart_255 : decode cX12_apart 255 = .ok (.iload 9, 2) := by decide +kernel
theorem dX12_apart_257 : decode cX12_apart 257 = .ok (.imul, 1) := by decide +kernel
theorem dX12_apart_258 : decode cX12_apart 258 = .ok (.iload 10, 2) := by decide +kernel
theorem dX12_apart_260 : decode cX12_apart 260 = .ok (.iadd, 1) := by decide +kernel
theorem dX12_apart_261 : decode cX12_apart 261 = .ok (.iastore, 1) := by decide +kernel
theorem dX12_apart_262 : decode cX12_apart 262 = .ok (.iinc 4 1, 3) := by decide +kernel
theorem dX12_apart_265 : decode cX12_apart 265 = .ok (.iinc 8 1, 3) := by decide +kernel
theorem dX12_apart_268 : decode cX12_apart 268 = .ok (.goto (-118), 3) := by decide +kernel
theorem dX12_apart_271 : decode cX12_apart 271 = .ok (.iinc 5 1, 3) := by decide +kernel
theorem dX12_apart_274 : decode cX12_apart 274 = .ok (.goto (-198), 3) := by decide +kernel
theorem dX12_apart_277 : decode cX12_apart 277 = .ok (.iconst (-1), 1) := by decide +kernel
theorem dX12_apart_278 : decode cX12_apart 278 = .ok (.ireturn, 1) := by decide +kernel
theorem dX12_count_0 : decode cX12_count 0 = .ok (.iload_n 1, 1) := by decide +kernel
theorem dX12_count_1 : decode cX12_count 1 = .ok (.ifCond .ne 10, 3) := by decide +kernel
theorem dX12_count_4 : decode cX12_count 4 = .ok (.aload_n 0, 1) := by decide +kernel
theorem dX12_count_5 : decode cX12_count 5 = .ok (.getfield 90, 3) := by decide +kernel
theorem dX12_count_8 : decode cX12_count 8 = .ok (.goto 17, 3) := by decide +kernel
theorem dX12_count_11 : decode cX12_count 11 = .ok (.iload_n 1, 1) := by decide +kernel
theorem dX12_count_12 : decode cX12_count 12 = .ok (.iconst 1, 1) := by decide +kernel
theorem dX12_count_13 : decode cX12_count 13 = .ok (.if_icmp .ne 10, 3) := by decide +kernel
theorem dX12_count_16 : decode cX12_count 16 = .ok (.aload_n 0, 1) := by decide +kernel
theorem dX12_count_17 : decode cX12_count 17 = .ok (.getfield 123, 3) := by decide +kernel
theorem dX12_count_20 : decode cX12_count 20 = .ok (.goto 5, 3) := by decide +kernel
theorem dX12_count_23 : decode cX12_count 23 = .ok (.bipush (-2), 2) := by decide +kernel
theorem dX12_count_25 : decode cX12_count 25 = .ok (.ireturn, 1) := by decide +kernel
set_option maxRecDepth 20000 in
theorem ggX12_digest_X12_aboutOf : GoodIn wsX12_digest wsX12_aboutOf := goodIn_r _ [16, 4, 5, 17, 18, 19, 15, 20, 6, 21, 22, 23, 24, 25, 26, 27, 28, 29, 30, 31, 32, 33, 34, 35, 36, 37, 38, 39, 40, 41, 42, 43, 44, 45, 46, 47, 48, 49, 50, 51, 52, 53] (by decide +kernel) (by decide +kernel)
set_option maxRecDepth 20000 in
theorem gX12_digest_X12_aboutOf : GoodIn wsX12_digest (wsV RX12 120 RX12 yX12_aboutOf wsX12_aboutOf) := goodIn_app (goodIn_of _ (by decide +kernel)) ggX12_digest_X12_aboutOf
set_option maxRecDepth 20000 in
theorem ggX12_digest_X12_at : GoodIn wsX12_digest wsX12_at := goodIn_r _ [23] (by decide +kernel) (by decide +kernel)
set_option maxRecDepth 20000 in
theorem gX12_digest_X12_at : GoodIn wsX12_digest (va_wsS RX12 102 yX12_at wsX12_at) := goodIn_app (goodIn_of _ (by decide +kernel)) ggX12_digest_X12_at
theorem dX12_digest_0 : decode cX12_digest 0 = .ok (.ldc2_w 203, 3) := by decide +kernel
theorem dX12_digest_3 : decode cX12_digest 3 = .ok (.lstore_n 1, 1) := by decide +kernel
theorem dX12_digest_4 : decode cX12_digest 4 = .ok (.iconst 0, 1) := by decide +kernel
theorem dX12_digest_5 : decode cX12_digest 5 = .ok (.istore_n 3, 1) := by decide +kernel
theorem dX12_digest_6 : decode cX12_digest 6 = .ok (.iload_n 3, 1) := by decide +kernel
theorem dX12_digest_7 : decode cX12_digest 7 = .ok (.aload_n 0, 1) := by decide +kernel
theorem dX12_digest_8 : decode cX12_digest 8 = .ok (.getfield 90, 3) := by decide +kernel
theorem dX12_digest_11 : decode cX12_digest 11 = .ok (.if_icmp .ge 176, 3) := by decide +kernel
theorem dX12_digest_14 : decode cX12_digest 14 = .ok (.iconst 0, 1) := by decide +kernel
theorem dX12_digest_15 : decode cX12_digest 15 = .ok (.istore 4, 2) := by decide +kernel
theorem dX12_digest_17 : decode cX12_digest 17 = .ok (.iload 4, 2) := by decide +kernel
theorem dX12_digest_19 : decode cX12_digest 19 = .ok (.iconst 3, 1) := by decide +kernel
theorem dX12_digest_20 : decode cX12_digest 20 = .ok (.if_icmp .ge 24, 3) := by decide +kernel
theorem dX12_digest_23 : decode cX12_digest 23 = .ok (.ldc2_w 205, 3) := by decide +kernel
theorem dX12_digest_26 : decode cX12_digest 26 = .ok (.lload_n 1, 1) := by decide +kernel
theorem dX12_digest_27 : decode cX12_digest 27 = .ok (.lmul, 1) := by decide +kernel
theorem dX12_digest_28 : decode cX12_digest 28 = .ok (.aload_n 0, 1) := by decide +kernel
theorem dX12_digest_29 : decode cX12_digest 29 = .ok (.iload_n 3, 1) := by decide +kernel
theorem dX12_digest_30 : decode cX12_digest 30 = .ok (.iload 4, 2) := by decide +kernel
theorem dX12_digest_32 : decode cX12_digest 32 = .ok (.invokevirtual 120, 3) := by decide +kernel
theorem dX12_digest_35 : decode cX12_digest 35 = .ok (.i2l, 1) := by decide +kernel
theorem dX12_digest_36 : decode cX12_digest 36 = .ok (.ladd, 1) := by decide +kernel
theorem dX12_digest_37 : decode cX12_digest 37 = .ok (.lstore_n 1, 1) := by decide +kernel
theorem dX12_digest_38 : decode cX12_digest 38 = .ok (.iinc 4 1, 3) := by decide +kernel
theorem dX12_digest_41 : decode cX12_digest 41 = .ok (.goto (-24), 3) := by decide +kernel
theorem dX12_digest_44 : decode cX12_digest 44 = .ok (.iconst 0, 1) := by decide +kernel
theorem dX12_digest_45 : decode cX12_digest 45 = .ok (.istore 4, 2) := by decide +kernel
theorem dX12_digest_47 : decode cX12_digest 47 = .ok (.iload 4, 2) := by decide +kernel
theorem dX12_digest_49 : decode cX12_digest 49 = .ok (.aload_n 0, 1) := by decide +kernel
theorem dX12_digest_50 : decode cX12_digest 50 = .ok (.getfield 7, 3) := by decide +kernel
theorem dX12_digest_53 : decode cX12_digest 53 = .ok (.iload_n 3, 1) := by decide +kernel
theorem dX12_digest_54 : decode cX12_digest 54 = .ok (.iaload, 1) := by decide +kernel
theorem dX12_digest_55 : decode cX12_digest 55 = .ok (.if_icmp .ge 70, 3) := by decide +kernel
theorem dX12_digest_58 : decode cX12_digest 58 = .ok (.iconst 0, 1) := by decide +kernel
theorem dX12_digest_59 : decode cX12_digest 59 = .ok (.istore 5, 2) := by decide +kernel
theorem dX12_digest_61 : decode cX12_digest 61 = .ok (.iload 5, 2) := by decide +kernel
theorem dX12_digest_63 : decode cX12_digest 63 = .ok (.aload_n 0, 1) := by decide +kernel
theorem dX12_digest_64 : decode cX12_digest 64 = .ok (.getfield 13, 3) := by decide +kernel
theorem dX12_digest_67 : decode cX12_digest 67 = .ok (.iload_n 3, 1) := by decide +kernel
theorem dX12_digest_68 : decode cX12_digest 68 = .ok (.iaload, 1) := by decide +kernel
theorem dX12_digest_69 : decode cX12_digest 69 = .ok (.if_icmp .ge 30, 3) := by decide +kernel
theorem dX12_digest_72 : decode cX12_digest 72 = .ok (.ldc2_w 205, 3) := by decide +kernel
theorem dX12_digest_75 : decode cX12_digest 75 = .ok (.lload_n 1, 1) := by decide +kernel
theorem dX12_digest_76 : decode cX12_digest 76 = .ok (.lmul, 1) := by decide +kernel
theorem dX12_digest_77 : decode cX12_digest 77 = .ok (.aload_n 0, 1) := by decide +kernel
theorem dX12_digest_78 : decode cX12_digest 78 = .ok (.getfield 16, 3) := by decide +kernel
theorem dX12_digest_81 : decode cX12_digest 81 = .ok (.iload_n 3, 1) := by decide +kernel
theorem dX12_digest_82 : decode cX12_digest 82 = .ok (.iload 4, 2) := by decide +kernel
theorem dX12_digest_84 : decode cX12_digest 84 = .ok (.iload 5, 2) := by decide +kernel
theorem dX12_digest_86 : decode cX12_digest 86 = .ok (.invokestatic 102, 3) := by decide +kernel
theorem dX12_digest_89 : decode cX12_digest 89 = .ok (.iaload, 1) := by decide +kernel
theorem dX12_digest_90 : decode cX12_digest 90 = .ok (.i2l, 1) := by decide +kernel
theorem dX12_digest_91 : decode cX12_digest 91 = .ok (.ladd, 1) := by decide +kernel
theorem dX12_digest_92 : decode cX12_digest 92 = .ok (.lstore_n 1, 1) := by decide +kernel
theorem dX12_digest_93 : decode cX12_digest 93 = .ok (.iinc 5 1, 3) := by decide +kernel
theorem dX12_digest_96 : decode cX12_digest 96 = .ok (.goto (-35), 3) := by decide +kernel
theorem dX12_digest_99 : decode cX12_digest 99 = .ok (.ldc2_w 205, 3) := by decide +kernel
theorem dX12_digest_102 : decode cX12_digest 102 = .ok (.lload_n 1, 1) := by decide +kernel
theorem dX12_digest_103 : decode cX12_digest 103 = .ok (.lmul, 1) := by decide +kernel
theorem dX12_digest_104 : decode cX12_digest 104 = .ok (.aload_n 0, 1) := by decide +kernel
theorem dX12_digest_105 : decode cX12_digest 105 = .ok (.getfield 19, 3) := by decide +kernel
theorem dX12_digest_108 : decode cX12_digest 108 = .ok (.bipush 12, 2) := by decide +kernel
theorem dX12_digest_110 : decode cX12_digest 110 = .ok (.iload_n 3, 1) := by decide +kernel
theorem dX12_digest_111 : decode cX12_digest 111 = .ok (.imul, 1) := by decide +kernel
theorem dX12_digest_112 : decode cX12_digest 112 = .ok (.iload 4, 2) := by decide +kernel
theorem dX12_digest_114 : decode cX12_digest 114 = .ok (.iadd, 1) := by decide +kernel
theorem dX12_digest_115 : decode cX12_digest 115 = .ok (.iaload, 1) := by decide +kernel
theorem dX12_digest_116 : decode cX12_digest 116 = .ok (.i2l, 1) := by decide +kernel
theorem dX12_digest_117 : decode cX12_digest 117 = .ok (.ladd, 1) := by decide +kernel
theorem dX12_digest_118 : decode cX12_digest 118 = .ok (.lstore_n 1, 1) := by decide +kernel
theorem dX12_digest_119 : decode cX12_digest 119 = .ok (.iinc 4 1, 3) := by decide +kernel
theorem dX12_digest_122 : decode cX12_digest 122 = .ok (.goto (-75), 3) := by decide +kernel
theorem dX12_digest_125 : decode cX12_digest 125 = .ok (.iconst 0, 1) := by decide +kernel
theorem dX12_digest_126 : decode cX12_digest 126 = .ok (.istore 4, 2) := by decide +kernel
theorem dX12_digest_128 : decode cX12_digest 128 = .ok (.iload 4, 2) := by decide +kernel
theorem dX12_digest_130 : decode cX12_digest 130 = .ok (.aload_n 0, 1) := by decide +kernel
theorem dX12_digest_131 : decode cX12_digest 131 = .ok (.getfield 13, 3) := by decide +kernel
theorem dX12_digest_134 : decode cX12_digest 134 = .ok (.iload_n 3, 1) := by decide +kernel
theorem dX12_digest_135 : decode cX12_digest 135 = .ok (.iaload, 1) := by decide +kernel
theorem dX12_digest_136 : decode cX12_digest 136 = .ok (.if_icmp .ge 45, 3) := by decide +kernel
theorem dX12_digest_139 : decode cX12_digest 139 = .ok (.ldc2_w 205, 3) := by decide +kernel
theorem dX12_digest_142 : decode cX12_digest 142 = .ok (.ldc2_w 205, 3) := by decide +kernel
theorem dX12_digest_145 : decode cX12_digest 145 = .ok (.lload_n 1, 1) := by decide +kernel
theorem dX12_digest_146 : decode cX12_digest 146 = .ok (.lmul, 1) := by decide +kernel
theorem dX12_digest_147 : decode cX12_digest 147 = .ok (.aload_n 0, 1) := by decide +kernel
theorem dX12_digest_148 : decode cX12_digest 148 = .ok (.getfield 22, 3) := by decide +kernel
theorem dX12_digest_151 : decode cX12_digest 151 = .ok (.iconst 4, 1) := by decide +kernel
theorem dX12_digest_152 : decode cX12_digest 152 = .ok (.iload_n 3, 1) := by decide +kernel
theorem dX12_digest_153 : decode cX12_digest 153 = .ok (.imul, 1) := by decide +kernel
theorem dX12_digest_154 : decode cX12_digest 154 = .ok (.iload 4, 2) := by decide +kernel
theorem dX12_digest_156 : decode cX12_digest 156 = .ok (.iadd, 1) := by decide +kernel
theorem dX12_digest_157 : decode cX12_digest 157 = .ok (.iaload, 1) := by decide +kernel
theorem dX12_digest_158 : decode cX12_digest 158 = .ok (.i2l, 1) := by decide +kernel
theorem dX12_digest_159 : decode cX12_digest 159 = .ok (.ladd, 1) := by decide +kernel
theorem dX12_digest_160 : decode cX12_digest 160 = .ok (.lmul, 1) := by decide +kernel
theorem dX12_digest_161 : decode cX12_digest 161 = .ok (.aload_n 0, 1) := by decide +kernel
theorem dX12_digest_162 : decode cX12_digest 162 = .ok (.getfield 25, 3) := by decide +kernel
theorem dX12_digest_165 : decode cX12_digest 165 = .ok (.iconst 4, 1) := by decide +kernel
theorem dX12_digest_166 : decode cX12_digest 166 = .ok (.iload_n 3, 1) := by decide +kernel
theorem dX12_digest_167 : decode cX12_digest 167 = .ok (.imul, 1) := by decide +kernel
theorem dX12_digest_168 : decode cX12_digest 168 = .ok (.iload 4, 2) := by decide +kernel
theorem dX12_digest_170 : decode cX12_digest 170 = .ok (.iadd, 1) := by decide +kernel
theorem dX12_digest_171 : decode cX12_digest 171 = .ok (.iaload, 1) := by decide +kernel
theorem dX12_digest_172 : decode cX12_digest 172 = .ok (.i2l, 1) := by decide +kernel
theorem dX12_digest_173 : decode cX12_digest 173 = .ok (.ladd, 1) := by decide +kernel
theorem dX12_digest_174 : decode cX12_digest 174 = .ok (.lstore_n 1, 1) := by decide +kernel
theorem dX12_digest_175 : decode cX12_digest 175 = .ok (.iinc 4 1, 3) := by decide +kernel
theorem dX12_digest_178 : decode cX12_digest 178 = .ok (.goto (-50), 3) := by decide +kernel
theorem dX12_digest_181 : decode cX12_digest 181 = .ok (.iinc 3 1, 3) := by decide +kernel
theorem dX12_digest_184 : decode cX12_digest 184 = .ok (.goto (-178), 3) := by decide +kernel
theorem dX12_digest_187 : decode cX12_digest 187 = .ok (.ldc2_w 205, 3) := by decide +kernel
theorem dX12_digest_190 : decode cX12_digest 190 = .ok (.lload_n 1, 1) := by decide +kernel
theorem dX12_digest_191 : decode cX12_digest 191 = .ok (.lmul, 1) := by decide +kernel
theorem dX12_digest_192 : decode cX12_digest 192 = .ok (.aload_n 0, 1) := by decide +kernel
theorem dX12_digest_193 : decode cX12_digest 193 = .ok (.getfield 123, 3) := by decide +kernel
theorem dX12_digest_196 : decode cX12_digest 196 = .ok (.i2l, 1) := by decide +kernel
theorem dX12_digest_197 : decode cX12_digest 197 = .ok (.ladd, 1) := by decide +kernel
theorem dX12_digest_198 : decode cX12_digest 198 = .ok (.lstore_n 1, 1) := by decide +kernel
theorem dX12_digest_199 : decode cX12_digest 199 = .ok (.iconst 0, 1) := by decide +kernel
theorem dX12_digest_200 : decode cX12_digest 200 = .ok (.istore_n 3, 1) := by decide +kernel
theorem dX12_digest_201 : decode cX12_digest 201 = .ok (.iload_n 3, 1) := by decide +kernel
theorem dX12_digest_202 : decode cX12_digest 202 = .ok (.aload_n 0, 1) := by decide +kernel
theorem dX12_digest_203 : decode cX12_digest 203 = .ok (.getfield 123, 3) := by decide +kernel
theorem dX12_digest_206 : decode cX12_digest 206 = .ok (.if_icmp .ge 23, 3) := by decide +kernel
theorem dX12_digest_209 : decode cX12_digest 209 = .ok (.ldc2_w 205, 3) := by decide +kernel
theorem dX12_digest_212 : decode cX12_digest 212 = .ok (.lload_n 1, 1) := by decide +kernel
theorem dX12_digest_213 : decode cX12_digest 213 = .ok (.lmul, 1) := by decide +kernel
theorem dX12_digest_214 : decode cX12_digest 214 = .ok (.aload_n 0, 1) := by decide +kernel
theorem dX12_digest_215 : decode cX12_digest 215 = .ok (.getfield 28, 3) := by decide +kernel
theorem dX12_digest_218 : decode cX12_digest 218 = .ok (.iload_n 3, 1) := by decide +kernel
theorem dX12_digest_219 : decode cX12_digest 219 = .ok (.iaload, 1) := by decide +kernel
theorem dX12_digest_220 : decode cX12_digest 220 = .ok (.i2l, 1) := by decide +kernel
theorem dX12_digest_221 : decode cX12_digest 221 = .ok (.ladd, 1) := by decide +kernel
theorem dX12_digest_222 : decode cX12_digest 222 = .ok (.lstore_n 1, 1) := by decide +kernel
theorem dX12_digest_223 : decode cX12_digest 223 = .ok (.iinc 3 1, 3) := by decide +kernel
theorem dX12_digest_226 : decode cX12_digest 226 = .ok (.goto (-25), 3) := by decide +kernel
theorem dX12_digest_229 : decode cX12_digest 229 = .ok (.lload_n 1, 1) := by decide +kernel
theorem dX12_digest_230 : decode cX12_digest 230 = .ok (.lreturn, 1) := by decide +kernel
theorem dJ6_bitCount_0f7a4_0 : decode cJ6_bitCount_0f7a4 0 = .ok (.iload_n 0, 1) := by decide +kernel
theorem dJ6_bitCount_0f7a4_1 : decode cJ6_bitCount_0f7a4 1 = .ok (.iload_n 0, 1) := by decide +kernel
theorem dJ6_bitCount_0f7a4_2 : decode cJ6_bitCount_0f7a4 2 = .ok (.iconst 1, 1) := by decide +kernel
theorem dJ6_bitCount_0f7a4_3 : decode cJ6_bitCount_0f7a4 3 = .ok (.iushr, 1) := by decide +kernel
theorem dJ6_bitCount_0f7a4_4 : decode cJ6_bitCount_0f7a4 4 = .ok (.ldc_w 265, 3) := by decide +kernel
theorem dJ6_bitCount_0f7a4_7 : decode cJ6_bitCount_0f7a4 7 = .ok (.iand, 1) := by decide +kernel
theorem dJ6_bitCount_0f7a4_8 : decode cJ6_bitCount_0f7a4 8 = .ok (.isub, 1) := by decide +kernel
theorem dJ6_bitCount_0f7a4_9 : decode cJ6_bitCount_0f7a4 9 = .ok (.istore_n 0, 1) := by decide +kernel
theorem dJ6_bitCount_0f7a4_10 : decode cJ6_bitCount_0f7a4 10 = .ok (.iload_n 0, 1) := by decide +kernel
theorem dJ6_bitCount_0f7a4_11 : decode cJ6_bitCount_0f7a4 11 = .ok (.ldc_w 266, 3) := by decide +kernel
theorem dJ6_bitCount_0f7a4_14 : decode cJ6_bitCount_0f7a4 14 = .ok (.iand, 1) := by decide +kernel
theorem dJ6_bitCount_0f7a4_15 : decode cJ6_bitCount_0f7a4 15 = .ok (.iload_n 0, 1) := by decide +kernel
theorem dJ6_bitCount_0f7a4_16 : decode cJ6_bitCount_0f7a4 16 = .ok (.iconst 2, 1) := by decide +kernel
theorem dJ6_bitCount_0f7a4_17 : decode cJ6_bitCount_0f7a4 17 = .ok (.iushr, 1) := by decide +kernel
theorem dJ6_bitCount_0f7a4_18 : decode cJ6_bitCount_0f7a4 18 = .ok (.ldc_w 266, 3) := by decide +kernel
theorem dJ6_bitCount_0f7a4_21 : decode cJ6_bitCount_0f7a4 21 = .ok (.iand, 1) := by decide +kernel
theorem dJ6_bitCount_0f7a4_22 : decode cJ6_bitCount_0f7a4 22 = .ok (.iadd, 1) := by decide +kernel
theorem dJ6_bitCount_0f7a4_23 : decode cJ6_bitCount_0f7a4 23 = .ok (.istore_n 0, 1) := by decide +kernel
theorem dJ6_bitCount_0f7a4_24 : decode cJ6_bitCount_0f7a4 24 = .ok (.iload_n 0, 1) := by decide +kernel
theorem dJ6_bitCount_0f7a4_25 : decode cJ6_bitCount_0f7a4 25 = .ok (.iload_n 0, 1) := by decide +kernel
theorem dJ6_bitCount_0f7a4_26 : decode cJ6_bitCount_0f7a4 26 = .ok (.iconst 4, 1) := by decide +kernel
theorem dJ6_bitCount_0f7a4_27 : decode cJ6_bitCount_0f7a4 27 = .ok (.iushr, 1) := by decide +kernel
theorem dJ6_bitCount_0f7a4_28 : decode cJ6_bitCount_0f7a4 28 = .ok (.iadd, 1) := by decide +kernel
theorem dJ6_bitCount_0f7a4_29 : decode cJ6_bitCount_0f7a4 29 = .ok (.ldc_w 267, 3) := by decide +kernel
theorem dJ6_bitCount_0f7a4_32 : decode cJ6_bitCount_0f7a4 32 = .ok (.iand, 1) := by decide +kernel
theorem dJ6_bitCount_0f7a4_33 : decode cJ6_bitCount_0f7a4 33 = .ok (.istore_n 0, 1) := by decide +kernel
theorem dJ6_bitCount_0f7a4_34 : decode cJ6_bitCount_0f7a4 34 = .ok (.iload_n 0, 1) := by decide +kernel
theorem dJ6_bitCount_0f7a4_35 : decode cJ6_bitCount_0f7a4 35 = .ok (.iload_n 0, 1) := by decide +kernel
theorem dJ6_bitCount_0f7a4_36 : decode cJ6_bitCount_0f7a4 36 = .ok (.bipush 8, 2) := by decide +kernel
theorem dJ6_bitCount_0f7a4_38 : decode cJ6_bitCount_0f7a4 38 = .ok (.iushr, 1) := by decide +kernel
theorem dJ6_bitCount_0f7a4_39 : decode cJ6_bitCount_0f7a4 39 = .ok (.iadd, 1) := by decide +kernel
theorem dJ6_bitCount_0f7a4_40 : decode cJ6_bitCount_0f7a4 40 = .ok (.istore_n 0, 1) := by decide +kernel
theorem dJ6_bitCount_0f7a4_41 : decode cJ6_bitCount_0f7a4 41 = .ok (.iload_n 0, 1) := by decide +kernel
theorem dJ6_bitCount_0f7a4_42 : decode cJ6_bitCount_0f7a4 42 = .ok (.iload_n 0, 1) := by decide +kernel
theorem dJ6_bitCount_0f7a4_43 : decode cJ6_bitCount_0f7a4 43 = .ok (.bipush 16, 2) := by decide +kernel
theorem dJ6_bitCount_0f7a4_45 : decode cJ6_bitCount_0f7a4 45 = .ok (.iushr, 1) := by decide +kernel
theorem dJ6_bitCount_0f7a4_46 : decode cJ6_bitCount_0f7a4 46 = .ok (.iadd, 1) := by decide +kernel
theorem dJ6_bitCount_0f7a4_47 : decode cJ6_bitCount_0f7a4 47 = .ok (.istore_n 0, 1) := by decide +kernel
theorem dJ6_bitCount_0f7a4_48 : decode cJ6_bitCount_0f7a4 48 = .ok (.iload_n 0, 1) := by decide +kernel
theorem dJ6_bitCount_0f7a4_49 : decode cJ6_bitCount_0f7a4 49 = .ok (.bipush 63, 2) := by decide +kernel
theorem dJ6_bitCount_0f7a4_51 : decode cJ6_bitCount_0f7a4 51 = .ok (.iand, 1) := by decide +kernel
theorem dJ6_bitCount_0f7a4_52 : decode cJ6_bitCount_0f7a4 52 = .ok (.ireturn, 1) := by decide +kernel
theorem dJ9_min_7cf53_0 : decode cJ9_min_7cf53 0 = .ok (.iload_n 0, 1) := by decide +kernel
theorem dJ9_min_7cf53_1 : decode cJ9_min_7cf53 1 = .ok (.iload_n 1, 1) := by decide +kernel
theorem dJ9_min_7cf53_2 : decode cJ9_min_7cf53 2 = .ok (.if_icmp .gt 7, 3) := by decide +kernel
theorem dJ9_min_7cf53_5 : decode cJ9_min_7cf53 5 = .ok (.iload_n 0, 1) := by decide +kernel
theorem dJ9_min_7cf53_6 : decode cJ9_min_7cf53 6 = .ok (.goto 4, 3) := by decide +kernel
theorem dJ9_min_7cf53_9 : decode cJ9_min_7cf53 9 = .ok (.iload_n 1, 1) := by decide +kernel
theorem dJ9_min_7cf53_10 : decode cJ9_min_7cf53 10 = .ok (.ireturn, 1) := by decide +kernel
theorem dJ7_fill_d0a16_0 : decode cJ7_fill_d0a16 0 = .ok (.iconst 0, 1) := by decide +kernel
theorem dJ7_fill_d0a16_1 : decode cJ7_fill_d0a16 1 = .ok (.istore_n 3, 1) := by decide +kernel
theorem dJ7_fill_d0a16_2 : decode cJ7_fill_d0a16 2 = .ok (.aload_n 0, 1) := by decide +kernel
theorem dJ7_fill_d0a16_3 : decode cJ7_fill_d0a16 3 = .ok (.arraylength, 1) := by decide +kernel
theorem dJ7_fill_d0a16_4 : decode cJ7_fill_d0a16 4 = .ok (.istore 4, 2) := by decide +kernel
theorem dJ7_fill_d0a16_6 : decode cJ7_fill_d0a16 6 = .ok (.iload_n 3, 1) := by decide +kernel
theorem dJ7_fill_d0a16_7 : decode cJ7_fill_d0a16 7 = .ok (.iload 4, 2) := by decide +kernel
theorem dJ7_fill_d0a16_9 : decode cJ7_fill_d0a16 9 = .ok (.if_icmp .ge 13, 3) := by decide +kernel
theorem dJ7_fill_d0a16_12 : decode cJ7_fill_d0a16 12 = .ok (.aload_n 0, 1) := by decide +kernel
theorem dJ7_fill_d0a16_13 : decode cJ7_fill_d0a16 13 = .ok (.iload_n 3, 1) := by decide +kernel
theorem dJ7_fill_d0a16_14 : decode cJ7_fill_d0a16 14 = .ok (.lload_n 1, 1) := by decide +kernel
theorem dJ7_fill_d0a16_15 : decode cJ7_fill_d0a16 15 = .ok (.lastore, 1) := by decide +kernel
theorem dJ7_fill_d0a16_16 : decode cJ7_fill_d0a16 16 = .ok (.iinc 3 1, 3) := by decide +kernel
theorem dJ7_fill_d0a16_19 : decode cJ7_fill_d0a16 19 = .ok (.goto (-13), 3) := by decide +kernel
theorem dJ7_fill_d0a16_22 : decode cJ7_fill_d0a16 22 = .ok (.return_, 1) := by decide +kernel
theorem dJ7_fill_53178_0 : decode cJ7_fill_53178 0 = .ok (.iconst 0, 1) := by decide +kernel
theorem dJ7_fill_53178_1 : decode cJ7_fill_53178 1 = .ok (.istore_n 2, 1) := by decide +kernel
theorem dJ7_fill_53178_2 : decode cJ7_fill_53178 2 = .ok (.aload_n 0, 1) := by decide +kernel
theorem dJ7_fill_53178_3 : decode cJ7_fill_53178 3 = .ok (.arraylength, 1) := by decide +kernel
theorem dJ7_fill_53178_4 : decode cJ7_fill_53178 4 = .ok (.istore_n 3, 1) := by decide +kernel
theorem dJ7_fill_53178_5 : decode cJ7_fill_53178 5 = .ok (.iload_n 2, 1) := by decide +kernel
theorem dJ7_fill_53178_6 : decode cJ7_fill_53178 6 = .ok (.iload_n 3, 1) := by decide +kernel
theorem dJ7_fill_53178_7 : decode cJ7_fill_53178 7 = .ok (.if_icmp .ge 13, 3) := by decide +kernel
theorem dJ7_fill_53178_10 : decode cJ7_fill_53178 10 = .ok (.aload_n 0, 1) := by decide +kernel
theorem dJ7_fill_53178_11 : decode cJ7_fill_53178 11 = .ok (.iload_n 2, 1) := by decide +kernel
theorem dJ7_fill_53178_12 : decode cJ7_fill_53178 12 = .ok (.iload_n 1, 1) := by decide +kernel
theorem dJ7_fill_53178_13 : decode cJ7_fill_53178 13 = .ok (.iastore, 1) := by decide +kernel
theorem dJ7_fill_53178_14 : decode cJ7_fill_53178 14 = .ok (.iinc 2 1, 3) := by decide +kernel
theorem dJ7_fill_53178_17 : decode cJ7_fill_53178 17 = .ok (.goto (-12), 3) := by decide +kernel
theorem dJ7_fill_53178_20 : decode cJ7_fill_53178 20 = .ok (.return_, 1) := by decide +kernel
set_option maxRecDepth 20000 in
theorem ggL_law_X11_init : GoodIn wsL_law wsX11_init := goodIn_r _ [8, 9, 10, 11, 12, 13, 14, 15, 16, 17, 18, 19, 20, 21, 22, 23, 24, 25, 26, 27, 28, 29, 30, 31, 32, 33, 34, 35, 36, 37, 38, 39, 40, 41, 42, 43, 44, 45, 46, 47, 48, 49, 50, 51, 52, 53, 54, 55, 56, 57, 58, 59, 60, 61, 62, 63, 64, 65, 66, 67, 68, 69, 70, 71, 72, 73, 74, 75, 76, 77, 78, 79, 80, 81, 82, 83, 84, 85, 86, 87, 88, 89, 90, 91, 92, 93, 94, 95, 96, 97, 98, 99, 100, 101, 102, 103, 104, 105, 106, 107, 108, 109, 110, 111, 112, 113, 114, 115, 116, 117, 118, 119, 120, 121, 122, 123, 124, 125, 910, 911, 912, 913, 914, 915, 916, 917, 918, 919, 920, 951, 952, 953, 954, 955, 956, 957, 958, 959, 960, 961, 962, 963, 964, 965, 966, 967, 968, 969, 970, 971, 972, 973, 974, 975, 976, 977, 978, 979, 980, 981, 982, 983, 984, 985, 986, 987] (by decide +kernel) (by decide +kernel)
set_option maxRecDepth 20000 in
theorem gL_law_X11_init : GoodIn wsL_law (wsX11_init) := ggL_law_X11_init
set_option maxRecDepth 20000 in
theorem ggL_law_X12_init : GoodIn wsL_law wsX12_init := goodIn_r _ [128, 129, 10, 11, 53, 130, 131, 132, 133, 134, 135, 136, 137, 138, 139, 140, 141, 142, 143, 144, 145, 146, 147, 148, 149, 83, 150, 151, 152, 153, 154, 155, 156, 921, 922, 923, 924, 925, 926, 927, 928, 929, 930, 931, 932, 933, 934, 935, 936, 937, 938, 939, 940, 941, 942, 943, 944, 945, 946, 947, 948, 949, 950] (by decide +kernel) (by decide +kernel)
set_option maxRecDepth 20000 in
theorem gL_law_X12_init : GoodIn wsL_law (wsX12_init) := ggL_law_X12_init
set_option maxRecDepth 20000 in
theorem ggL_law_X11_machine : GoodIn wsL_law wsX11_machine := goodIn_r _ [160, 161, 12, 109, 110, 162, 113, 114, 115, 10, 11, 53, 116, 117, 118, 119, 120, 121, 122, 123, 124, 125, 163, 164, 165, 2, 166, 13, 910, 911, 912, 913, 914, 915, 916, 917, 918, 919, 920, 982, 983, 984, 985, 986, 987] (by decide +kernel) (by decide +kernel)
set_option maxRecDepth 20000 in
theorem gL_law_X11_machine : GoodIn wsL_law (wsV RL 13 RX11 yX11_machine wsX11_machine) := goodIn_app (goodIn_of _ (by decide +kernel)) ggL_law_X11_machine
set_option maxRecDepth 20000 in
theorem ggL_law_X12_machine : GoodIn wsL_law wsX12_machine := goodIn_r _ [170, 171, 172, 5, 173, 174, 175, 176, 177, 178, 130, 131, 132, 133, 134, 135, 921, 922, 923, 924, 925, 926, 927, 928, 929, 930, 931, 932, 933, 934, 935, 936, 937, 938, 939, 940, 941, 942, 943, 944, 945, 946, 947, 948, 949, 950] (by decide +kernel) (by decide +kernel)
set_option maxRecDepth 20000 in
theorem gL_law_X12_machine : GoodIn wsL_law (wsV RL 17 RX12 yX12_machine wsX12_machine) := goodIn_app (goodIn_of _ (by decide +kernel)) ggL_law_X12_machine
set_option maxRecDepth 20000 in
theorem ggL_law_X11_ring : GoodIn wsL_law wsX11_ring := goodIn_r _ [182, 161, 12, 109, 110, 162, 113, 114, 115, 10, 11, 53, 116, 117, 118, 119, 120, 121, 122, 123, 124, 125, 183, 184, 185, 186, 187, 188, 189, 190, 191, 192, 193, 194, 163, 164, 165, 2, 166, 13, 910, 911, 912, 913, 914, 915, 916, 917, 918, 919, 920, 982, 983, 984, 985, 986, 987] (by decide +kernel) (by decide +kernel)
set_option maxRecDepth 20000 in
theorem gL_law_X11_ring : GoodIn wsL_law (wsV RL 18 RX11 yX11_ring wsX11_ring) := goodIn_app (goodIn_of _ (by decide +kernel)) ggL_law_X11_ring
set_option maxRecDepth 20000 in
theorem ggL_law_X12_ring : GoodIn wsL_law wsX12_ring := goodIn_r _ [198, 132, 171, 172, 5, 173, 174, 175, 176, 177, 178, 130, 131, 133, 134, 135, 199, 200, 201, 921, 922, 923, 924, 925, 926, 927, 928, 929, 930, 931, 932, 933, 934, 935, 936, 937, 938, 939, 940, 941, 942, 943, 944, 945, 946, 947, 948, 949, 950] (by decide +kernel) (by decide +kernel)
set_option maxRecDepth 20000 in
theorem gL_law_X12_ring : GoodIn wsL_law (wsV RL 22 RX12 yX12_ring wsX12_ring) := goodIn_app (goodIn_of _ (by decide +kernel)) ggL_law_X12_ring
set_option maxRecDepth 20000 in
theorem ggL_law_X11_move : GoodIn wsL_law wsX11_move := goodIn_r _ [205, 206, 207, 208, 2, 209, 161, 13, 210, 188, 189, 110, 190, 120, 211, 192, 193, 194, 121, 212, 213, 214, 215, 116, 183, 184, 185, 186, 187, 191, 910, 911, 912, 913, 914, 915, 916, 917, 918, 919, 920, 982, 983, 984, 985, 986, 987] (by decide +kernel) (by decide +kernel)
set_option maxRecDepth 20000 in
theorem gL_law_X11_move : GoodIn wsL_law (wsV RL 23 RX11 yX11_move wsX11_move) := goodIn_app (goodIn_of _ (by decide +kernel)) ggL_law_X11_move
set_option maxRecDepth 20000 in
theorem ggL_law_X12_move : GoodIn wsL_law wsX12_move := goodIn_r _ [219, 132, 220, 221, 222, 5, 223, 130, 224, 225, 226, 227, 178, 171, 172, 173, 228, 229, 230, 231, 131, 199, 200, 201, 921, 922, 923, 924, 925, 926, 927, 928, 929, 930, 931, 932, 933, 934, 935, 936, 937, 938, 939, 940, 941, 942, 943, 944, 945, 946, 947, 948, 949, 950] (by decide +kernel) (by decide +kernel)
set_option maxRecDepth 20000 in
theorem gL_law_X12_move : GoodIn wsL_law (wsV RL 27 RX12 yX12_move wsX12_move) := goodIn_app (goodIn_of _ (by decide +kernel)) ggL_law_X12_move
set_option maxRecDepth 20000 in
theorem ggL_law_X11_light : GoodIn wsL_law wsX11_light := goodIn_r _ [235, 206, 207, 208, 2, 209, 161, 13, 210, 188, 189, 110, 190, 120, 236, 237, 238, 239, 117, 240, 241, 242, 243, 187, 910, 911, 912, 913, 914, 915, 916, 917, 918, 919, 920, 982, 983, 984, 985, 986, 987] (by decide +kernel) (by decide +kernel)
set_option maxRecDepth 20000 in
theorem gL_law_X11_light : GoodIn wsL_law (wsV RL 28 RX11 yX11_light wsX11_light) := goodIn_app (goodIn_of _ (by decide +kernel)) ggL_law_X11_light
set_option maxRecDepth 20000 in
theorem ggL_law_X12_light : GoodIn wsL_law wsX12_light := goodIn_r _ [247, 133, 220, 221, 222, 5, 223, 130, 224, 225, 226, 227, 178, 171, 172, 173, 921, 922, 923, 924, 925, 926, 927, 928, 929, 930, 931, 932, 933, 934, 935, 936, 937, 938, 939, 940, 941, 942, 943, 944, 945, 946, 947, 948, 949, 950] (by decide +kernel) (by decide +kernel)
set_option maxRecDepth 20000 in
theorem gL_law_X12_light : GoodIn wsL_law (wsV RL 32 RX12 yX12_light wsX12_light) := goodIn_app (goodIn_of _ (by decide +kernel)) ggL_law_X12_light
set_option maxRecDepth 20000 in
theorem ggL_law_X11_price : GoodIn wsL_law wsX11_price := goodIn_r _ [251, 206, 207, 208, 2, 209, 161, 13, 211, 192, 193, 110, 194, 121, 252, 253, 254, 255, 118, 256, 257, 258, 259, 191, 910, 911, 912, 913, 914, 915, 916, 917, 918, 919, 920, 982, 983, 984, 985, 986, 987] (by decide +kernel) (by decide +kernel)
set_option maxRecDepth 20000 in
theorem gL_law_X11_price : GoodIn wsL_law (wsV RL 33 RX11 yX11_price wsX11_price) := goodIn_app (goodIn_of _ (by decide +kernel)) ggL_law_X11_price
set_option maxRecDepth 20000 in
theorem ggL_law_X12_price : GoodIn wsL_law wsX12_price := goodIn_r _ [263, 134, 228, 229, 230, 5, 231, 131, 224, 225, 226, 227, 178, 171, 172, 173, 921, 922, 923, 924, 925, 926, 927, 928, 929, 930, 931, 932, 933, 934, 935, 936, 937, 938, 939, 940, 941, 942, 943, 944, 945, 946, 947, 948, 949, 950] (by decide +kernel) (by decide +kernel)
set_option maxRecDepth 20000 in
theorem gL_law_X12_price : GoodIn wsL_law (wsV RL 36 RX12 yX12_price wsX12_price) := goodIn_app (goodIn_of _ (by decide +kernel)) ggL_law_X12_price
set_option maxRecDepth 20000 in
theorem ggL_law_X11_share : GoodIn wsL_law wsX11_share := goodIn_r _ [267, 206, 207, 208, 2, 209, 161, 13, 211, 192, 193, 110, 194, 121, 268, 269, 270, 271, 119, 272, 273, 274, 275, 191, 910, 911, 912, 913, 914, 915, 916, 917, 918, 919, 920, 982, 983, 984, 985, 986, 987] (by decide +kernel) (by decide +kernel)
set_option maxRecDepth 20000 in
theorem gL_law_X11_share : GoodIn wsL_law (wsV RL 37 RX11 yX11_share wsX11_share) := goodIn_app (goodIn_of _ (by decide +kernel)) ggL_law_X11_share
set_option maxRecDepth 20000 in
theorem ggL_law_X12_share : GoodIn wsL_law wsX12_share := goodIn_r _ [279, 135, 228, 229, 230, 5, 231, 131, 224, 225, 226, 227, 178, 171, 172, 173, 921, 922, 923, 924, 925, 926, 927, 928, 929, 930, 931, 932, 933, 934, 935, 936, 937, 938, 939, 940, 941, 942, 943, 944, 945, 946, 947, 948, 949, 950] (by decide +kernel) (by decide +kernel)
set_option maxRecDepth 20000 in
theorem gL_law_X12_share : GoodIn wsL_law (wsV RL 40 RX12 yX12_share wsX12_share) := goodIn_app (goodIn_of _ (by decide +kernel)) ggL_law_X12_share
set_option maxRecDepth 20000 in
theorem ggL_law_X11_about : GoodIn wsL_law wsX11_about := goodIn_r _ [283, 206, 207, 208, 2, 209, 161, 13, 284, 285, 286, 287, 288, 289, 110, 290, 120, 291, 292, 293, 294, 121, 295, 296, 297, 298, 299, 213, 214, 215, 116, 910, 911, 912, 913, 914, 915, 916, 917, 918, 919, 920, 982, 983, 984, 985, 986, 987] (by decide +kernel) (by decide +kernel)
set_option maxRecDepth 20000 in
theorem gL_law_X11_about : GoodIn wsL_law (wsV RL 41 RX11 yX11_about wsX11_about) := goodIn_app (goodIn_of _ (by decide +kernel)) ggL_law_X11_about
set_option maxRecDepth 20000 in
theorem ggL_law_X12_about : GoodIn wsL_law wsX12_about := goodIn_r _ [303, 224, 225, 226, 5, 227, 178, 171, 172, 173, 304, 305, 306, 307, 130, 131, 308, 309, 310, 311, 132, 199, 200, 201, 921, 922, 923, 924, 925, 926, 927, 928, 929, 930, 931, 932, 933, 934, 935, 936, 937, 938, 939, 940, 941, 942, 943, 944, 945, 946, 947, 948, 949, 950] (by decide +kernel) (by decide +kernel)
set_option maxRecDepth 20000 in
theorem gL_law_X12_about : GoodIn wsL_law (wsV RL 44 RX12 yX12_about wsX12_about) := goodIn_app (goodIn_of _ (by decide +kernel)) ggL_law_X12_about
set_option maxRecDepth 20000 in
theorem ggL_law_X11_moveOf : GoodIn wsL_law wsX11_moveOf := goodIn_r _ [315, 206, 207, 208, 2, 209, 161, 13, 210, 188, 189, 110, 190, 120, 211, 192, 193, 194, 121, 212, 213, 214, 215, 116, 910, 911, 912, 913, 914, 915, 916, 917, 918, 919, 920, 982, 983, 984, 985, 986, 987] (by decide +kernel) (by decide +kernel)
set_option maxRecDepth 20000 in
theorem gL_law_X11_moveOf : GoodIn wsL_law (wsV RL 45 RX11 yX11_moveOf wsX11_moveOf) := goodIn_app (goodIn_of _ (by decide +kernel)) ggL_law_X11_moveOf
set_option maxRecDepth 20000 in
theorem ggL_law_X12_moveOf : GoodIn wsL_law wsX12_moveOf := goodIn_r _ [319, 132, 220, 221, 222, 5, 223, 130, 224, 225, 226, 227, 178, 171, 172, 173, 228, 229, 230, 231, 131, 199, 200, 201, 921, 922, 923, 924, 925, 926, 927, 928, 929, 930, 931, 932, 933, 934, 935, 936, 937, 938, 939, 940, 941, 942, 943, 944, 945, 946, 947, 948, 949, 950] (by decide +kernel) (by decide +kernel)
set_option maxRecDepth 20000 in
theorem gL_law_X12_moveOf : GoodIn wsL_law (wsV RL 48 RX12 yX12_moveOf wsX12_moveOf) := goodIn_app (goodIn_of _ (by decide +kernel)) ggL_law_X12_moveOf
set_option maxRecDepth 20000 in
theorem ggL_law_X11_empty : GoodIn wsL_law wsX11_empty := goodIn_r _ [323, 17, 324, 325, 326, 16, 327, 328, 329, 330, 331, 332, 910, 911, 912, 913, 914, 915, 916, 917, 918, 919, 920, 951, 952] (by decide +kernel) (by decide +kernel)
set_option maxRecDepth 20000 in
theorem gL_law_X11_empty : GoodIn wsL_law (wsV RL 49 RX11 yX11_empty wsX11_empty) := goodIn_app (goodIn_of _ (by decide +kernel)) ggL_law_X11_empty
set_option maxRecDepth 20000 in
theorem ggL_law_X12_empty : GoodIn wsL_law wsX12_empty := goodIn_r _ [336, 337, 921, 922, 923, 924, 925, 926, 927, 928, 929, 930, 931, 932, 933, 934, 935, 936, 937, 938, 939, 940, 941, 942, 943, 944, 945, 946, 947, 948, 949, 950] (by decide +kernel) (by decide +kernel)
set_option maxRecDepth 20000 in
theorem gL_law_X12_empty : GoodIn wsL_law (wsV RL 53 RX12 yX12_empty wsX12_empty) := goodIn_app (goodIn_of _ (by decide +kernel)) ggL_law_X12_empty
set_option maxRecDepth 20000 in
theorem ggL_law_X11_letter : GoodIn wsL_law wsX11_letter := goodIn_r _ [341, 17, 342, 343, 344, 16, 345, 328, 54, 324, 325, 326, 327, 910, 911, 912, 913, 914, 915, 916, 917, 918, 919, 920, 951, 952] (by decide +kernel) (by decide +kernel)
set_option maxRecDepth 20000 in
theorem gL_law_X11_letter : GoodIn wsL_law (wsV RL 54 RX11 yX11_letter wsX11_letter) := goodIn_app (goodIn_of _ (by decide +kernel)) ggL_law_X11_letter
set_option maxRecDepth 20000 in
theorem ggL_law_X12_letter : GoodIn wsL_law wsX12_letter := goodIn_r _ [349, 337, 136, 171, 172, 5, 173, 921, 922, 923, 924, 925, 926, 927, 928, 929, 930, 931, 932, 933, 934, 935, 936, 937, 938, 939, 940, 941, 942, 943, 944, 945, 946, 947, 948, 949, 950] (by decide +kernel) (by decide +kernel)
set_option maxRecDepth 20000 in
theorem gL_law_X12_letter : GoodIn wsL_law (wsV RL 57 RX12 yX12_letter wsX12_letter) := goodIn_app (goodIn_of _ (by decide +kernel)) ggL_law_X12_letter
set_option maxRecDepth 20000 in
theorem ggL_law_X11_letterAt : GoodIn wsL_law wsX11_letterAt := goodIn_r _ [353, 17, 354, 355, 356, 16, 357, 328, 54, 910, 911, 912, 913, 914, 915, 916, 917, 918, 919, 920, 951, 952] (by decide +kernel) (by decide +kernel)
set_option maxRecDepth 20000 in
theorem gL_law_X11_letterAt : GoodIn wsL_law (wsV RL 58 RX11 yX11_letterAt wsX11_letterAt) := goodIn_app (goodIn_of _ (by decide +kernel)) ggL_law_X11_letterAt
set_option maxRecDepth 20000 in
theorem ggL_law_X12_letterAt : GoodIn wsL_law wsX12_letterAt := goodIn_r _ [361, 337, 136, 171, 172, 5, 173, 921, 922, 923, 924, 925, 926, 927, 928, 929, 930, 931, 932, 933, 934, 935, 936, 937, 938, 939, 940, 941, 942, 943, 944, 945, 946, 947, 948, 949, 950] (by decide +kernel) (by decide +kernel)
set_option maxRecDepth 20000 in
theorem gL_law_X12_letterAt : GoodIn wsL_law (wsV RL 61 RX12 yX12_letterAt wsX12_letterAt) := goodIn_app (goodIn_of _ (by decide +kernel)) ggL_law_X12_letterAt
set_option maxRecDepth 20000 in
theorem ggL_law_X11_goes : GoodIn wsL_law wsX11_goes := goodIn_r _ [365, 17, 21, 206, 207, 208, 2, 209, 161, 13, 366, 367, 368, 110, 369, 120, 370, 371, 372, 16, 373, 328, 54, 374, 192, 193, 194, 121, 375, 376, 377, 20, 378, 379, 58, 59, 380, 292, 293, 294, 381, 382, 383, 384, 188, 189, 190, 385, 213, 214, 215, 116, 386, 387, 388, 389, 390, 325, 326, 327, 391, 355, 356, 357, 392, 393, 394, 395, 910, 911, 912, 913, 914, 915, 916, 917, 918, 919, 920, 982, 983, 984, 985, 986, 987, 951, 952, 953, 954, 955] (by decide +kernel) (by decide +kernel)
set_option maxRecDepth 20000 in
theorem gL_law_X11_goes : GoodIn wsL_law (wsV RL 62 RX11 yX11_goes wsX11_goes) := goodIn_app (goodIn_of _ (by decide +kernel)) ggL_law_X11_goes
set_option maxRecDepth 20000 in
theorem ggL_law_X12_goes : GoodIn wsL_law wsX12_goes := goodIn_r _ [399, 337, 136, 131, 400, 401, 402, 5, 403, 130, 224, 225, 226, 227, 178, 171, 172, 173, 404, 405, 406, 407, 132, 199, 200, 201, 921, 922, 923, 924, 925, 926, 927, 928, 929, 930, 931, 932, 933, 934, 935, 936, 937, 938, 939, 940, 941, 942, 943, 944, 945, 946, 947, 948, 949, 950] (by decide +kernel) (by decide +kernel)
set_option maxRecDepth 20000 in
theorem gL_law_X12_goes : GoodIn wsL_law (wsV RL 65 RX12 yX12_goes wsX12_goes) := goodIn_app (goodIn_of _ (by decide +kernel)) ggL_law_X12_goes
set_option maxRecDepth 20000 in
theorem ggL_law_X11_shortest : GoodIn wsL_law wsX11_shortest := goodIn_r _ [411, 29, 206, 207, 208, 2, 209, 161, 13, 366, 367, 368, 110, 369, 120, 412, 413, 414, 28, 415, 69, 70, 68, 416, 417, 376, 377, 20, 378, 379, 58, 59, 380, 292, 293, 294, 121, 381, 382, 383, 384, 188, 189, 190, 385, 213, 214, 215, 116, 418, 419, 420, 24, 421, 63, 422, 123, 124, 125, 423, 424, 425, 426, 427, 428, 429, 430, 431, 432, 433, 434, 435, 436, 437, 393, 394, 395, 438, 439, 440, 441, 442, 443, 444, 445, 446, 447, 448, 449, 25, 17, 450, 451, 452, 453, 454, 455, 456, 457, 458, 459, 460, 461, 462, 463, 464, 465, 16, 466, 467, 468, 469, 470, 328, 471, 472, 473, 474, 54, 910, 911, 912, 913, 914, 915, 916, 917, 918, 919, 920, 982, 983, 984, 985, 986, 987, 957, 958, 959, 960, 953, 954, 955, 956, 951, 952] (by decide +kernel) (by decide +kernel)
set_option maxRecDepth 20000 in
theorem gL_law_X11_shortest : GoodIn wsL_law (wsV RL 66 RX11 yX11_shortest wsX11_shortest) := goodIn_app (goodIn_of _ (by decide +kernel)) ggL_law_X11_shortest
set_option maxRecDepth 20000 in
theorem ggL_law_X12_shortest : GoodIn wsL_law wsX12_shortest := goodIn_r _ [478, 400, 401, 402, 5, 403, 130, 224, 225, 226, 227, 178, 171, 172, 173, 479, 480, 481, 482, 141, 483, 137, 138, 131, 139, 484, 485, 486, 487, 488, 489, 490, 404, 405, 406, 407, 132, 199, 200, 201, 491, 492, 493, 494, 337, 136, 495, 496, 497, 498, 921, 922, 923, 924, 925, 926, 927, 928, 929, 930, 931, 932, 933, 934, 935, 936, 937, 938, 939, 940, 941, 942, 943, 944, 945, 946, 947, 948, 949, 950] (by decide +kernel) (by decide +kernel)
set_option maxRecDepth 20000 in
theorem gL_law_X12_shortest : GoodIn wsL_law (wsV RL 69 RX12 yX12_shortest wsX12_shortest) := goodIn_app (goodIn_of _ (by decide +kernel)) ggL_law_X12_shortest
set_option maxRecDepth 20000 in
theorem ggL_law_X11_shortestTo : GoodIn wsL_law wsX11_shortestTo := goodIn_r _ [502, 29, 206, 207, 208, 2, 209, 161, 13, 366, 367, 368, 110, 369, 120, 210, 188, 189, 190, 412, 413, 414, 28, 415, 69, 70, 68, 416, 417, 376, 377, 20, 378, 379, 58, 59, 380, 292, 293, 294, 121, 381, 382, 383, 384, 385, 213, 214, 215, 116, 418, 419, 420, 24, 421, 63, 422, 123, 124, 125, 423, 424, 425, 426, 427, 428, 429, 430, 431, 432, 433, 434, 435, 436, 437, 393, 394, 395, 438, 439, 440, 441, 442, 443, 444, 445, 446, 447, 448, 449, 25, 17, 450, 451, 452, 453, 454, 455, 456, 457, 458, 459, 460, 461, 462, 463, 464, 465, 16, 466, 467, 468, 469, 470, 328, 471, 472, 473, 474, 54, 910, 911, 912, 913, 914, 915, 916, 917, 918, 919, 920, 982, 983, 984, 985, 986, 987, 957, 958, 959, 960, 953, 954, 955, 956, 951, 952] (by decide +kernel) (by decide +kernel)
set_option maxRecDepth 20000 in
theorem gL_law_X11_shortestTo : GoodIn wsL_law (wsV RL 70 RX11 yX11_shortestTo wsX11_shortestTo) := goodIn_app (goodIn_of _ (by decide +kernel)) ggL_law_X11_shortestTo
set_option maxRecDepth 20000 in
theorem ggL_law_X12_shortestTo : GoodIn wsL_law wsX12_shortestTo := goodIn_r _ [506, 400, 401, 402, 5, 403, 130, 224, 225, 226, 227, 178, 171, 172, 173, 220, 221, 222, 223, 479, 480, 481, 482, 141, 483, 137, 138, 131, 139, 484, 485, 486, 487, 488, 489, 490, 404, 405, 406, 407, 132, 199, 200, 201, 491, 492, 493, 494, 337, 136, 495, 496, 497, 498, 921, 922, 923, 924, 925, 926, 927, 928, 929, 930, 931, 932, 933, 934, 935, 936, 937, 938, 939, 940, 941, 942, 943, 944, 945, 946, 947, 948, 949, 950] (by decide +kernel) (by decide +kernel)
set_option maxRecDepth 20000 in
theorem gL_law_X12_shortestTo : GoodIn wsL_law (wsV RL 73 RX12 yX12_shortestTo wsX12_shortestTo) := goodIn_app (goodIn_of _ (by decide +kernel)) ggL_law_X12_shortestTo
set_option maxRecDepth 20000 in
theorem ggL_law_X11_rank : GoodIn wsL_law wsX11_rank := goodIn_r _ [510, 29, 206, 207, 208, 2, 209, 161, 13, 366, 367, 368, 110, 369, 120, 412, 413, 414, 28, 415, 69, 70, 68, 416, 417, 376, 377, 20, 378, 379, 58, 59, 380, 292, 293, 294, 121, 381, 382, 383, 384, 188, 189, 190, 385, 213, 214, 215, 116, 418, 419, 420, 24, 421, 63, 422, 123, 124, 125, 423, 424, 425, 426, 427, 428, 429, 430, 431, 432, 433, 434, 435, 436, 437, 393, 394, 395, 438, 439, 440, 441, 442, 443, 444, 445, 511, 512, 513, 514, 515, 516, 517, 518, 519, 520, 521, 522, 523, 524, 525, 446, 447, 448, 449, 25, 17, 450, 451, 452, 453, 454, 455, 456, 457, 458, 459, 460, 461, 462, 463, 464, 465, 16, 466, 467, 468, 469, 470, 328, 471, 472, 473, 474, 54, 526, 910, 911, 912, 913, 914, 915, 916, 917, 918, 919, 920, 982, 983, 984, 985, 986, 987, 957, 958, 959, 960, 953, 954, 955, 956, 951, 952] (by decide +kernel) (by decide +kernel)
set_option maxRecDepth 20000 in
theorem gL_law_X11_rank : GoodIn wsL_law (wsV RL 74 RX11 yX11_rank wsX11_rank) := goodIn_app (goodIn_of _ (by decide +kernel)) ggL_law_X11_rank
set_option maxRecDepth 20000 in
theorem ggL_law_X12_rank : GoodIn wsL_law wsX12_rank := goodIn_r _ [530, 483, 137, 400, 401, 402, 5, 403, 130, 224, 225, 226, 227, 178, 171, 172, 173, 479, 480, 481, 482, 141, 138, 131, 139, 484, 485, 486, 487, 488, 489, 490, 404, 405, 406, 407, 132, 199, 200, 201, 491, 492, 493, 494, 337, 136, 495, 496, 497, 498, 921, 922, 923, 924, 925, 926, 927, 928, 929, 930, 931, 932, 933, 934, 935, 936, 937, 938, 939, 940, 941, 942, 943, 944, 945, 946, 947, 948, 949, 950] (by decide +kernel) (by decide +kernel)
set_option maxRecDepth 20000 in
theorem gL_law_X12_rank : GoodIn wsL_law (wsV RL 77 RX12 yX12_rank wsX12_rank) := goodIn_app (goodIn_of _ (by decide +kernel)) ggL_law_X12_rank
set_option maxRecDepth 20000 in
theorem ggL_law_X11_merge : GoodIn wsL_law wsX11_merge := goodIn_r _ [534, 41, 206, 207, 208, 2, 209, 161, 13, 210, 188, 189, 110, 190, 120, 535, 536, 537, 40, 538, 91, 539, 540, 123, 124, 125, 541, 288, 289, 290, 542, 543, 544, 545, 546, 547, 548, 549, 550, 551, 552, 553, 554, 555, 556, 557, 558, 292, 293, 294, 121, 559, 213, 214, 215, 116, 560, 910, 911, 912, 913, 914, 915, 916, 917, 918, 919, 920, 982, 983, 984, 985, 986, 987, 970, 971, 972] (by decide +kernel) (by decide +kernel)
set_option maxRecDepth 20000 in
theorem gL_law_X11_merge : GoodIn wsL_law (wsV RL 78 RX11 yX11_merge wsX11_merge) := goodIn_app (goodIn_of _ (by decide +kernel)) ggL_law_X11_merge
set_option maxRecDepth 20000 in
theorem ggL_law_X12_merge : GoodIn wsL_law wsX12_merge := goodIn_r _ [564, 220, 221, 222, 5, 223, 130, 224, 225, 226, 227, 178, 171, 172, 173, 479, 480, 481, 482, 141, 483, 137, 138, 131, 139, 484, 485, 486, 487, 488, 489, 490, 404, 405, 406, 407, 132, 199, 200, 201, 495, 496, 497, 498, 921, 922, 923, 924, 925, 926, 927, 928, 929, 930, 931, 932, 933, 934, 935, 936, 937, 938, 939, 940, 941, 942, 943, 944, 945, 946, 947, 948, 949, 950] (by decide +kernel) (by decide +kernel)
set_option maxRecDepth 20000 in
theorem gL_law_X12_merge : GoodIn wsL_law (wsV RL 81 RX12 yX12_merge wsX12_merge) := goodIn_app (goodIn_of _ (by decide +kernel)) ggL_law_X12_merge
set_option maxRecDepth 20000 in
theorem ggL_law_X11_unmerged : GoodIn wsL_law wsX11_unmerged := goodIn_r _ [568, 41, 206, 207, 208, 2, 209, 161, 13, 535, 536, 537, 40, 538, 91, 539, 540, 123, 124, 125, 541, 288, 289, 110, 290, 120, 542, 543, 544, 545, 546, 547, 548, 549, 550, 551, 552, 553, 554, 555, 556, 557, 558, 292, 293, 294, 121, 559, 213, 214, 215, 116, 569, 570, 571, 572, 910, 911, 912, 913, 914, 915, 916, 917, 918, 919, 920, 970, 971, 972, 982, 983, 984, 985, 986, 987] (by decide +kernel) (by decide +kernel)
set_option maxRecDepth 20000 in
theorem gL_law_X11_unmerged : GoodIn wsL_law (wsV RL 82 RX11 yX11_unmerged wsX11_unmerged) := goodIn_app (goodIn_of _ (by decide +kernel)) ggL_law_X11_unmerged
set_option maxRecDepth 20000 in
theorem ggL_law_X12_unmerged : GoodIn wsL_law wsX12_unmerged := goodIn_r _ [576, 224, 225, 226, 5, 227, 178, 171, 172, 173, 577, 578, 579, 580, 130, 142, 131, 132, 199, 200, 201, 581, 582, 583, 584, 921, 922, 923, 924, 925, 926, 927, 928, 929, 930, 931, 932, 933, 934, 935, 936, 937, 938, 939, 940, 941, 942, 943, 944, 945, 946, 947, 948, 949, 950] (by decide +kernel) (by decide +kernel)
set_option maxRecDepth 20000 in
theorem gL_law_X12_unmerged : GoodIn wsL_law (wsV RL 85 RX12 yX12_unmerged wsX12_unmerged) := goodIn_app (goodIn_of _ (by decide +kernel)) ggL_law_X12_unmerged
set_option maxRecDepth 20000 in
theorem ggL_law_X11_greedy : GoodIn wsL_law wsX11_greedy := goodIn_r _ [588, 45, 17, 206, 207, 208, 2, 209, 161, 13, 366, 367, 368, 110, 369, 120, 589, 590, 591, 44, 592, 101, 102, 98, 593, 99, 594, 376, 377, 20, 378, 379, 58, 59, 380, 292, 293, 294, 121, 381, 382, 383, 384, 188, 189, 190, 385, 213, 214, 215, 116, 595, 536, 537, 40, 538, 91, 539, 540, 123, 124, 125, 541, 288, 289, 290, 542, 543, 544, 545, 546, 547, 548, 549, 550, 551, 552, 553, 554, 555, 556, 557, 558, 559, 596, 330, 331, 16, 332, 328, 597, 427, 28, 428, 598, 599, 600, 601, 602, 603, 604, 605, 100, 606, 607, 325, 326, 327, 608, 609, 610, 611, 612, 464, 465, 466, 467, 468, 469, 470, 613, 472, 473, 474, 54, 614, 615, 616, 617, 618, 619, 355, 356, 357, 620, 387, 388, 389, 390, 391, 392, 393, 394, 395, 621, 622, 623, 624, 625, 626, 627, 628, 343, 344, 345, 910, 911, 912, 913, 914, 915, 916, 917, 918, 919, 920, 982, 983, 984, 985, 986, 987, 973, 974, 975, 976, 977, 978, 953, 954, 955, 970, 971, 972, 951, 952] (by decide +kernel) (by decide +kernel)
set_option maxRecDepth 20000 in
theorem gL_law_X11_greedy : GoodIn wsL_law (wsV RL 86 RX11 yX11_greedy wsX11_greedy) := goodIn_app (goodIn_of _ (by decide +kernel)) ggL_law_X11_greedy
set_option maxRecDepth 20000 in
theorem ggL_law_X12_greedy : GoodIn wsL_law wsX12_greedy := goodIn_r _ [632, 143, 145, 337, 136, 400, 401, 402, 5, 403, 130, 224, 225, 226, 227, 178, 171, 172, 173, 488, 489, 490, 633, 634, 635, 636, 144, 479, 480, 481, 482, 141, 483, 137, 138, 131, 139, 484, 485, 486, 487, 404, 405, 406, 407, 132, 199, 200, 201, 637, 638, 639, 640, 495, 496, 497, 498, 641, 642, 643, 644, 645, 646, 647, 648, 921, 922, 923, 924, 925, 926, 927, 928, 929, 930, 931, 932, 933, 934, 935, 936, 937, 938, 939, 940, 941, 942, 943, 944, 945, 946, 947, 948, 949, 950] (by decide +kernel) (by decide +kernel)
set_option maxRecDepth 20000 in
theorem gL_law_X12_greedy : GoodIn wsL_law (wsV RL 89 RX12 yX12_greedy wsX12_greedy) := goodIn_app (goodIn_of _ (by decide +kernel)) ggL_law_X12_greedy
set_option maxRecDepth 20000 in
theorem ggL_law_X11_cheapest : GoodIn wsL_law wsX11_cheapest := goodIn_r _ [652, 33, 206, 207, 208, 2, 209, 161, 13, 366, 367, 368, 110, 369, 120, 653, 654, 655, 32, 656, 77, 78, 75, 657, 658, 376, 377, 20, 378, 379, 58, 59, 380, 292, 293, 294, 121, 381, 382, 383, 384, 188, 189, 190, 385, 213, 214, 215, 116, 659, 419, 420, 24, 421, 63, 422, 123, 124, 125, 660, 661, 662, 663, 664, 665, 666, 667, 668, 76, 669, 670, 671, 672, 673, 674, 675, 676, 677, 678, 679, 680, 681, 427, 28, 428, 682, 683, 684, 685, 686, 434, 435, 436, 687, 393, 394, 395, 688, 257, 258, 259, 118, 191, 192, 193, 194, 689, 443, 444, 445, 446, 447, 448, 449, 25, 17, 450, 451, 452, 453, 454, 455, 456, 457, 458, 439, 440, 441, 459, 460, 461, 462, 463, 464, 465, 16, 466, 467, 468, 469, 470, 328, 471, 472, 473, 474, 54, 690, 910, 911, 912, 913, 914, 915, 916, 917, 918, 919, 920, 982, 983, 984, 985, 986, 987, 961, 962, 963, 964, 965, 953, 954, 955, 956, 951, 952] (by decide +kernel) (by decide +kernel)
set_option maxRecDepth 20000 in
theorem gL_law_X11_cheapest : GoodIn wsL_law (wsV RL 90 RX11 yX11_cheapest wsX11_cheapest) := goodIn_app (goodIn_of _ (by decide +kernel)) ggL_law_X11_cheapest
set_option maxRecDepth 20000 in
theorem ggL_law_X12_cheapest : GoodIn wsL_law wsX12_cheapest := goodIn_r _ [694, 146, 147, 695, 138, 131, 134, 139, 400, 401, 402, 5, 403, 130, 224, 225, 226, 227, 178, 171, 172, 173, 696, 697, 698, 699, 148, 149, 700, 701, 702, 703, 704, 705, 706, 707, 708, 709, 710, 711, 488, 489, 490, 491, 492, 493, 494, 337, 136, 495, 496, 497, 498, 404, 405, 406, 407, 132, 199, 200, 201, 921, 922, 923, 924, 925, 926, 927, 928, 929, 930, 931, 932, 933, 934, 935, 936, 937, 938, 939, 940, 941, 942, 943, 944, 945, 946, 947, 948, 949, 950] (by decide +kernel) (by decide +kernel)
set_option maxRecDepth 20000 in
theorem gL_law_X12_cheapest : GoodIn wsL_law (wsV RL 93 RX12 yX12_cheapest wsX12_cheapest) := goodIn_app (goodIn_of _ (by decide +kernel)) ggL_law_X12_cheapest
set_option maxRecDepth 20000 in
theorem ggL_law_X11_chance : GoodIn wsL_law wsX11_chance := goodIn_r _ [715, 716, 37, 206, 207, 208, 2, 209, 161, 13, 366, 367, 368, 110, 369, 120, 717, 718, 719, 36, 720, 87, 84, 85, 721, 413, 414, 28, 415, 69, 70, 68, 416, 417, 376, 377, 20, 378, 379, 58, 59, 380, 292, 293, 294, 121, 381, 382, 383, 384, 188, 189, 190, 385, 213, 214, 215, 116, 418, 419, 420, 24, 421, 63, 422, 123, 124, 125, 423, 424, 425, 426, 427, 428, 429, 430, 431, 432, 433, 434, 435, 436, 437, 393, 394, 395, 438, 439, 440, 441, 442, 443, 444, 445, 722, 723, 724, 725, 726, 727, 728, 86, 729, 730, 731, 732, 733, 516, 517, 518, 734, 735, 736, 273, 274, 275, 119, 191, 192, 193, 194, 737, 910, 911, 912, 913, 914, 915, 916, 917, 918, 919, 920, 982, 983, 984, 985, 986, 987, 966, 967, 968, 969, 957, 958, 959, 960, 953, 954, 955, 956] (by decide +kernel) (by decide +kernel)
set_option maxRecDepth 20000 in
theorem gL_law_X11_chance : GoodIn wsL_law (wsV RL 94 RX11 yX11_chance wsX11_chance) := goodIn_app (goodIn_of _ (by decide +kernel)) ggL_law_X11_chance
set_option maxRecDepth 20000 in
theorem ggL_law_X12_chance : GoodIn wsL_law wsX12_chance := goodIn_r _ [741, 742, 130, 150, 151, 131, 135, 400, 401, 402, 5, 403, 224, 225, 226, 227, 178, 171, 172, 173, 743, 744, 745, 404, 405, 406, 407, 132, 199, 200, 201, 921, 922, 923, 924, 925, 926, 927, 928, 929, 930, 931, 932, 933, 934, 935, 936, 937, 938, 939, 940, 941, 942, 943, 944, 945, 946, 947, 948, 949, 950] (by decide +kernel) (by decide +kernel)
set_option maxRecDepth 20000 in
theorem gL_law_X12_chance : GoodIn wsL_law (wsV RL 98 RX12 yX12_chance wsX12_chance) := goodIn_app (goodIn_of _ (by decide +kernel)) ggL_law_X12_chance
set_option maxRecDepth 20000 in
theorem ggL_law_X11_chances : GoodIn wsL_law wsX11_chances := goodIn_r _ [749, 716, 37, 206, 207, 208, 2, 209, 161, 13, 750, 751, 752, 36, 753, 754, 292, 293, 110, 294, 121, 736, 273, 274, 275, 119, 191, 192, 193, 194, 910, 911, 912, 913, 914, 915, 916, 917, 918, 919, 920, 982, 983, 984, 985, 986, 987] (by decide +kernel) (by decide +kernel)
set_option maxRecDepth 20000 in
theorem gL_law_X11_chances : GoodIn wsL_law (wsV RL 99 RX11 yX11_chances wsX11_chances) := goodIn_app (goodIn_of _ (by decide +kernel)) ggL_law_X11_chances
set_option maxRecDepth 20000 in
theorem ggL_law_X12_chances : GoodIn wsL_law wsX12_chances := goodIn_r _ [758, 742, 131, 135, 224, 225, 226, 5, 227, 178, 171, 172, 173, 743, 744, 745, 921, 922, 923, 924, 925, 926, 927, 928, 929, 930, 931, 932, 933, 934, 935, 936, 937, 938, 939, 940, 941, 942, 943, 944, 945, 946, 947, 948, 949, 950] (by decide +kernel) (by decide +kernel)
set_option maxRecDepth 20000 in
theorem gL_law_X12_chances : GoodIn wsL_law (wsV RL 103 RX12 yX12_chances wsX12_chances) := goodIn_app (goodIn_of _ (by decide +kernel)) ggL_law_X12_chances
set_option maxRecDepth 20000 in
theorem ggL_law_X11_kinds : GoodIn wsL_law wsX11_kinds := goodIn_r _ [762, 206, 207, 208, 2, 209, 161, 13, 295, 296, 297, 110, 298, 120, 121, 299, 213, 214, 215, 116, 763, 764, 765, 766, 767, 768, 769, 770, 288, 289, 290, 771, 772, 773, 774, 292, 293, 294, 775, 776, 777, 778, 779, 780, 781, 782, 783, 784, 785, 520, 521, 522, 523, 524, 525, 786, 787, 788, 789, 790, 791, 910, 911, 912, 913, 914, 915, 916, 917, 918, 919, 920, 982, 983, 984, 985, 986, 987] (by decide +kernel) (by decide +kernel)
set_option maxRecDepth 20000 in
theorem gL_law_X11_kinds : GoodIn wsL_law (wsV RL 104 RX11 yX11_kinds wsX11_kinds) := goodIn_app (goodIn_of _ (by decide +kernel)) ggL_law_X11_kinds
set_option maxRecDepth 20000 in
theorem ggL_law_X12_kinds : GoodIn wsL_law wsX12_kinds := goodIn_r _ [795, 130, 131, 132, 224, 225, 226, 5, 227, 178, 171, 172, 173, 308, 309, 310, 311, 199, 200, 201, 796, 797, 798, 799, 404, 405, 406, 407, 800, 801, 802, 803, 921, 922, 923, 924, 925, 926, 927, 928, 929, 930, 931, 932, 933, 934, 935, 936, 937, 938, 939, 940, 941, 942, 943, 944, 945, 946, 947, 948, 949, 950] (by decide +kernel) (by decide +kernel)
set_option maxRecDepth 20000 in
theorem gL_law_X12_kinds : GoodIn wsL_law (wsV RL 107 RX12 yX12_kinds wsX12_kinds) := goodIn_app (goodIn_of _ (by decide +kernel)) ggL_law_X12_kinds
set_option maxRecDepth 20000 in
theorem ggL_law_X11_colour : GoodIn wsL_law wsX11_colour := goodIn_r _ [807, 49, 206, 207, 208, 2, 209, 161, 13, 295, 296, 297, 110, 298, 120, 121, 299, 213, 214, 215, 116, 808, 809, 810, 48, 811, 106, 812, 123, 124, 125, 813, 288, 289, 290, 814, 815, 816, 817, 111, 818, 292, 293, 294, 819, 820, 821, 822, 823, 824, 825, 826, 827, 828, 184, 185, 186, 187, 188, 189, 190, 191, 192, 193, 194, 829, 830, 831, 832, 107, 833, 834, 835, 836, 837, 838, 839, 840, 841, 842, 843, 844, 845, 846, 847, 848, 849, 850, 851, 852, 853, 854, 910, 911, 912, 913, 914, 915, 916, 917, 918, 919, 920, 982, 983, 984, 985, 986, 987, 979, 980, 981] (by decide +kernel) (by decide +kernel)
set_option maxRecDepth 20000 in
theorem gL_law_X11_colour : GoodIn wsL_law (wsV RL 108 RX11 yX11_colour wsX11_colour) := goodIn_app (goodIn_of _ (by decide +kernel)) ggL_law_X11_colour
set_option maxRecDepth 20000 in
theorem ggL_law_X12_colour : GoodIn wsL_law wsX12_colour := goodIn_r _ [858, 130, 131, 152, 153, 132, 224, 225, 226, 5, 227, 178, 171, 172, 173, 308, 309, 310, 311, 199, 200, 201, 577, 578, 579, 580, 142, 581, 582, 583, 584, 859, 860, 861, 862, 154, 863, 864, 865, 866, 921, 922, 923, 924, 925, 926, 927, 928, 929, 930, 931, 932, 933, 934, 935, 936, 937, 938, 939, 940, 941, 942, 943, 944, 945, 946, 947, 948, 949, 950] (by decide +kernel) (by decide +kernel)
set_option maxRecDepth 20000 in
theorem gL_law_X12_colour : GoodIn wsL_law (wsV RL 111 RX12 yX12_colour wsX12_colour) := goodIn_app (goodIn_of _ (by decide +kernel)) ggL_law_X12_colour
set_option maxRecDepth 20000 in
theorem ggL_law_X11_apart : GoodIn wsL_law wsX11_apart := goodIn_r _ [870, 41, 206, 207, 208, 2, 209, 161, 13, 210, 188, 189, 110, 190, 120, 871, 872, 873, 40, 874, 91, 92, 540, 123, 124, 125, 542, 543, 544, 545, 875, 241, 242, 243, 117, 187, 550, 551, 552, 553, 876, 877, 878, 879, 558, 292, 293, 294, 121, 559, 213, 214, 215, 116, 910, 911, 912, 913, 914, 915, 916, 917, 918, 919, 920, 982, 983, 984, 985, 986, 987, 970, 971, 972] (by decide +kernel) (by decide +kernel)
set_option maxRecDepth 20000 in
theorem gL_law_X11_apart : GoodIn wsL_law (wsV RL 112 RX11 yX11_apart wsX11_apart) := goodIn_app (goodIn_of _ (by decide +kernel)) ggL_law_X11_apart
set_option maxRecDepth 20000 in
theorem ggL_law_X12_apart : GoodIn wsL_law wsX12_apart := goodIn_r _ [883, 156, 155, 133, 131, 132, 220, 221, 222, 5, 223, 130, 224, 225, 226, 227, 178, 171, 172, 173, 199, 200, 201, 921, 922, 923, 924, 925, 926, 927, 928, 929, 930, 931, 932, 933, 934, 935, 936, 937, 938, 939, 940, 941, 942, 943, 944, 945, 946, 947, 948, 949, 950] (by decide +kernel) (by decide +kernel)
set_option maxRecDepth 20000 in
theorem gL_law_X12_apart : GoodIn wsL_law (wsV RL 115 RX12 yX12_apart wsX12_apart) := goodIn_app (goodIn_of _ (by decide +kernel)) ggL_law_X12_apart
set_option maxRecDepth 20000 in
theorem ggL_law_X11_count : GoodIn wsL_law wsX11_count := goodIn_r _ [887, 161, 17, 324, 325, 326, 16, 327, 328, 910, 911, 912, 913, 914, 915, 916, 917, 918, 919, 920, 951, 952] (by decide +kernel) (by decide +kernel)
set_option maxRecDepth 20000 in
theorem gL_law_X11_count : GoodIn wsL_law (wsV RL 116 RX11 yX11_count wsX11_count) := goodIn_app (goodIn_of _ (by decide +kernel)) ggL_law_X11_count
set_option maxRecDepth 20000 in
theorem ggL_law_X12_count : GoodIn wsL_law wsX12_count := goodIn_r _ [891, 178, 337, 921, 922, 923, 924, 925, 926, 927, 928, 929, 930, 931, 932, 933, 934, 935, 936, 937, 938, 939, 940, 941, 942, 943, 944, 945, 946, 947, 948, 949, 950] (by decide +kernel) (by decide +kernel)
set_option maxRecDepth 20000 in
theorem gL_law_X12_count : GoodIn wsL_law (wsV RL 119 RX12 yX12_count wsX12_count) := goodIn_app (goodIn_of _ (by decide +kernel)) ggL_law_X12_count
set_option maxRecDepth 20000 in
theorem ggL_law_X11_digest : GoodIn wsL_law wsX11_digest := goodIn_r _ [895, 896, 161, 13, 897, 17, 898, 899, 2, 900, 284, 285, 286, 287, 288, 289, 110, 290, 120, 291, 292, 293, 294, 121, 295, 296, 297, 298, 299, 213, 214, 215, 116, 212, 901, 241, 242, 243, 117, 187, 188, 189, 190, 902, 257, 258, 259, 118, 191, 192, 193, 194, 903, 273, 274, 275, 119, 324, 325, 326, 16, 327, 328, 354, 355, 356, 357, 54, 910, 911, 912, 913, 914, 915, 916, 917, 918, 919, 920, 982, 983, 984, 985, 986, 987, 951, 952] (by decide +kernel) (by decide +kernel)
set_option maxRecDepth 20000 in
theorem gL_law_X11_digest : GoodIn wsL_law (wsV RL 120 RX11 yX11_digest wsX11_digest) := goodIn_app (goodIn_of _ (by decide +kernel)) ggL_law_X11_digest
set_option maxRecDepth 20000 in
theorem ggL_law_X12_digest : GoodIn wsL_law wsX12_digest := goodIn_r _ [907, 908, 178, 909, 130, 131, 132, 133, 134, 135, 337, 136, 304, 305, 306, 5, 307, 308, 309, 310, 311, 199, 200, 201, 921, 922, 923, 924, 925, 926, 927, 928, 929, 930, 931, 932, 933, 934, 935, 936, 937, 938, 939, 940, 941, 942, 943, 944, 945, 946, 947, 948, 949, 950] (by decide +kernel) (by decide +kernel)
set_option maxRecDepth 20000 in
theorem gL_law_X12_digest : GoodIn wsL_law (wsV RL 124 RX12 yX12_digest wsX12_digest) := goodIn_app (goodIn_of _ (by decide +kernel)) ggL_law_X12_digest
theorem dL_law_0 : decode cL_law 0 = .ok (.new 7, 3) := by decide +kernel
theorem dL_law_3 : decode cL_law 3 = .ok (.dup, 1) := by decide +kernel
theorem dL_law_4 : decode cL_law 4 = .ok (.invokespecial 9, 3) := by decide +kernel
theorem dL_law_7 : decode cL_law 7 = .ok (.astore_n 1, 1) := by decide +kernel
theorem dL_law_8 : decode cL_law 8 = .ok (.new 10, 3) := by decide +kernel
theorem dL_law_11 : decode cL_law 11 = .ok (.dup, 1) := by decide +kernel
theorem dL_law_12 : decode cL_law 12 = .ok (.invokespecial 12, 3) := by decide +kernel
theorem dL_law_15 : decode cL_law 15 = .ok (.astore_n 2, 1) := by decide +kernel
theorem dL_law_16 : decode cL_law 16 = .ok (.iconst 0, 1) := by decide +kernel
theorem dL_law_17 : decode cL_law 17 = .ok (.istore_n 3, 1) := by decide +kernel
theorem dL_law_18 : decode cL_law 18 = .ok (.iload_n 3, 1) := by decide +kernel
theorem dL_law_19 : decode cL_law 19 = .ok (.aload_n 0, 1) := by decide +kernel
theorem dL_law_20 : decode cL_law 20 = .ok (.arraylength, 1) := by decide +kernel
theorem dL_law_21 : decode cL_law 21 = .ok (.iconst 5, 1) := by decide +kernel
theorem dL_law_22 : decode cL_law 22 = .ok (.isub, 1) := by decide +kernel
theorem dL_law_23 : decode cL_law 23 = .ok (.if_icmp .gt 986, 3) := by decide +kernel
theorem dL_law_26 : decode cL_law 26 = .ok (.aload_n 0, 1) := by decide +kernel
theorem dL_law_27 : decode cL_law 27 = .ok (.iload_n 3, 1) := by decide +kernel
theorem dL_law_28 : decode cL_law 28 = .ok (.iaload, 1) := by decide +kernel
theorem dL_law_29 : decode cL_law 29 = .ok (.bipush 31, 2) := by decide +kernel
theorem dL_law_31 : decode cL_law 31 = .ok (.iand, 1) := by decide +kernel
theorem dL_law_32 : decode cL_law 32 = .ok (.tableswitch 971 0 25 #[120, 153, 176, 229, 272, 315, 358, 391, 434, 447, 470, 493, 526, 559, 602, 635, 678, 701, 734, 767, 811, 845, 868, 891, 934, 957], 120) := by decide +kernel
theorem dL_law_152 : decode cL_law 152 = .ok (.aload_n 1, 1) := by decide +kernel
theorem dL_law_153 : decode cL_law 153 = .ok (.aload_n 0, 1) := by decide +kernel
theorem dL_law_154 : decode cL_law 154 = .ok (.iload_n 3, 1) := by decide +kernel
theorem dL_law_155 : decode cL_law 155 = .ok (.iconst 1, 1) := by decide +kernel
theorem dL_law_156 : decode cL_law 156 = .ok (.iadd, 1) := by decide +kernel
theorem dL_law_157 : decode cL_law 157 = .ok (.iaload, 1) := by decide +kernel
theorem dL_law_158 : decode cL_law 158 = .ok (.aload_n 0, 1) := by decide +kernel
theorem dL_law_159 : decode cL_law 159 = .ok (.iload_n 3, 1) := by decide +kernel
theorem dL_law_160 : decode cL_law 160 = .ok (.iconst 2, 1) := by decide +kernel
theorem dL_law_161 : decode cL_law 161 = .ok (.iadd, 1) := by decide +kernel
theorem dL_law_162 : decode cL_law 162 = .ok (.iaload, 1) := by decide +kernel
theorem dL_law_163 : decode cL_law 163 = .ok (.invokevirtual 13, 3) := by decide +kernel
theorem dL_law_166 : decode cL_law 166 = .ok (.aload_n 2, 1) := by decide +kernel
theorem dL_law_167 : decode cL_law 167 = .ok (.aload_n 0, 1) := by decide +kernel
theorem dL_law_168 : decode cL_law 168 = .ok (.iload_n 3, 1) := by decide +kernel
theorem dL_law_169 : decode cL_law 169 = .ok (.iconst 1, 1) := by decide +kernel
theorem dL_law_170 : decode cL_law 170 = .ok (.iadd, 1) := by decide +kernel
theorem dL_law_171 : decode cL_law 171 = .ok (.iaload, 1) := by decide +kernel
theorem dL_law_172 : decode cL_law 172 = .ok (.aload_n 0, 1) := by decide +kernel
theorem dL_law_173 : decode cL_law 173 = .ok (.iload_n 3, 1) := by decide +kernel
theorem dL_law_174 : decode cL_law 174 = .ok (.iconst 2, 1) := by decide +kernel
theorem dL_law_175 : decode cL_law 175 = .ok (.iadd, 1) := by decide +kernel
theorem dL_law_176 : decode cL_law 176 = .ok (.iaload, 1) := by decide +kernel
theorem dL_law_177 : decode cL_law 177 = .ok (.invokevirtual 17, 3) := by decide +kernel
theorem dL_law_180 : decode cL_law 180 = .ok (.if_icmp .eq 823, 3) := by decide +kernel
theorem dL_law_183 : decode cL_law 183 = .ok (.iconst 0, 1) := by decide +kernel
theorem dL_law_184 : decode cL_law 184 = .ok (.ireturn, 1) := by decide +kernel
theorem dL_law_185 : decode cL_law 185 = .ok (.aload_n 1, 1) := by decide +kernel
theorem dL_law_186 : decode cL_law 186 = .ok (.aload_n 0, 1) := by decide +kernel
theorem dL_law_187 : decode cL_law 187 = .ok (.iload_n 3, 1) := by decide +kernel
theorem dL_law_188 : decode cL_law 188 = .ok (.iconst 1, 1) := by decide +kernel
theorem dL_law_189 : decode cL_law 189 = .ok (.iadd, 1) := by decide +kernel
theorem dL_law_190 : decode cL_law 190 = .ok (.iaload, 1) := by decide +kernel
theorem dL_law_191 : decode cL_law 191 = .ok (.invokevirtual 18, 3) := by decide +kernel
theorem dL_law_194 : decode cL_law 194 = .ok (.aload_n 2, 1) := by decide +kernel
theorem dL_law_195 : decode cL_law 195 = .ok (.aload_n 0, 1) := by decide +kernel
theorem dL_law_196 : decode cL_law 196 = .ok (.iload_n 3, 1) := by decide +kernel
theorem dL_law_197 : decode cL_law 197 = .ok (.iconst 1, 1) := by decide +kernel
theorem dL_law_198 : decode cL_law 198 = .ok (.iadd, 1) := by decide +kernel
theorem dL_law_199 : decode cL_law 199 = .ok (.iaload, 1) := by decide +kernel
theorem dL_law_200 : decode cL_law 200 = .ok (.invokevirtual 22, 3) := by decide +kernel
theorem dL_law_203 : decode cL_law 203 = .ok (.if_icmp .eq 800, 3) := by decide +kernel
theorem dL_law_206 : decode cL_law 206 = .ok (.iconst 0, 1) := by decide +kernel
theorem dL_law_207 : decode cL_law 207 = .ok (.ireturn, 1) := by decide +kernel
theorem dL_law_208 : decode cL_law 208 = .ok (.aload_n 1, 1) := by decide +kernel
theorem dL_law_209 : decode cL_law 209 = .ok (.aload_n 0, 1) := by decide +kernel
theorem dL_law_210 : decode cL_law 210 = .ok (.iload_n 3, 1) := by decide +kernel
theorem dL_law_211 : decode cL_law 211 = .ok (.iconst 1, 1) := by decide +kernel
theorem dL_law_212 : decode cL_law 212 = .ok (.iadd, 1) := by decide +kernel
theorem dL_law_213 : decode cL_law 213 = .ok (.iaload, 1) := by decide +kernel
theorem dL_law_214 : decode cL_law 214 = .ok (.aload_n 0, 1) := by decide +kernel
theorem dL_law_215 : decode cL_law 215 = .ok (.iload_n 3, 1) := by decide +kernel
theorem dL_law_216 : decode cL_law 216 = .ok (.iconst 2, 1) := by decide +kernel
theorem dL_law_217 : decode cL_law 217 = .ok (.iadd, 1) := by decide +kernel
theorem dL_law_218 : decode cL_law 218 = .ok (.iaload, 1) := by decide +kernel
theorem dL_law_219 : decode cL_law 219 = .ok (.aload_n 0, 1) := by decide +kernel
theorem dL_law_220 : decode cL_law 220 = .ok (.iload_n 3, 1) := by decide +kernel
theorem dL_law_221 : decode cL_law 221 = .ok (.iconst 3, 1) := by decide +kernel
theorem dL_law_222 : decode cL_law 222 = .ok (.iadd, 1) := by decide +kernel
theorem dL_law_223 : decode cL_law 223 = .ok (.iaload, 1) := by decide +kernel
theorem dL_law_224 : decode cL_law 224 = .ok (.aload_n 0, 1) := by decide +kernel
theorem dL_law_225 : decode cL_law 225 = .ok (.iload_n 3, 1) := by decide +kernel
theorem dL_law_226 : decode cL_law 226 = .ok (.iconst 4, 1) := by decide +kernel
theorem dL_law_227 : decode cL_law 227 = .ok (.iadd, 1) := by decide +kernel
theorem dL_law_228 : decode cL_law 228 = .ok (.iaload, 1) := by decide +kernel
theorem dL_law_229 : decode cL_law 229 = .ok (.invokevirtual 23, 3) := by decide +kernel
theorem dL_law_232 : decode cL_law 232 = .ok (.aload_n 2, 1) := by decide +kernel
theorem dL_law_233 : decode cL_law 233 = .ok (.aload_n 0, 1) := by decide +kernel
theorem dL_law_234 : decode cL_law 234 = .ok (.iload_n 3, 1) := by decide +kernel
theorem dL_law_235 : decode cL_law 235 = .ok (.iconst 1, 1) := by decide +kernel
theorem dL_law_236 : decode cL_law 236 = .ok (.iadd, 1) := by decide +kernel
theorem dL_law_237 : decode cL_law 237 = .ok (.iaload, 1) := by decide +kernel
theorem dL_law_238 : decode cL_law 238 = .ok (.aload_n 0, 1) := by decide +kernel
theorem dL_law_239 : decode cL_law 239 = .ok (.iload_n 3, 1) := by decide +kernel
theorem dL_law_240 : decode cL_law 240 = .ok (.iconst 2, 1) := by decide +kernel
theorem dL_law_241 : decode cL_law 241 = .ok (.iadd, 1) := by decide +kernel
theorem dL_law_242 : decode cL_law 242 = .ok (.iaload, 1) := by decide +kernel
theorem dL_law_243 : decode cL_law 243 = .ok (.aload_n 0, 1) := by decide +kernel
theorem dL_law_244 : decode cL_law 244 = .ok (.iload_n 3, 1) := by decide +kernel
theorem dL_law_245 : decode cL_law 245 = .ok (.iconst 3, 1) := by decide +kernel
theorem dL_law_246 : decode cL_law 246 = .ok (.iadd, 1) := by decide +kernel
theorem dL_law_247 : decode cL_law 247 = .ok (.iaload, 1) := by decide +kernel
theorem dL_law_248 : decode cL_law 248 = .ok (.aload_n 0, 1) := by decide +kernel
theorem dL_law_249 : decode cL_law 249 = .ok (.iload_n 3, 1) := by decide +kernel
theorem dL_law_250 : decode cL_law 250 = .ok (.iconst 4, 1) := by decide +kernel
theorem dL_law_251 : decode cL_law 251 = .ok (.iadd, 1) := by decide +kernel
theorem dL_law_252 : decode cL_law 252 = .ok (.iaload, 1) := by decide +kernel
theorem dL_law_253 : decode cL_law 253 = .ok (.invokevirtual 27, 3) := by decide +kernel
theorem dL_law_256 : decode cL_law 256 = .ok (.if_icmp .eq 747, 3) := by decide +kernel
theorem dL_law_259 : decode cL_law 259 = .ok (.iconst 0, 1) := by decide +kernel
theorem dL_law_260 : decode cL_law 260 = .ok (.ireturn, 1) := by decide +kernel
theorem dL_law_261 : decode cL_law 261 = .ok (.aload_n 1, 1) := by decide +kernel
theorem dL_law_262 : decode cL_law 262 = .ok (.aload_n 0, 1) := by decide +kernel
theorem dL_law_263 : decode cL_law 263 = .ok (.iload_n 3, 1) := by decide +kernel
theorem dL_law_264 : decode cL_law 264 = .ok (.iconst 1, 1) := by decide +kernel
theorem dL_law_265 : decode cL_law 265 = .ok (.iadd, 1) := by decide +kernel
theorem dL_law_266 : decode cL_law 266 = .ok (.iaload, 1) := by decide +kernel
theorem dL_law_267 : decode cL_law 267 = .ok (.aload_n 0, 1) := by decide +kernel
theorem dL_law_268 : decode cL_law 268 = .ok (.iload_n 3, 1) := by decide +kernel
theorem dL_law_269 : decode cL_law 269 = .ok (.iconst 2, 1) := by decide +kernel
theorem dL_law_270 : decode cL_law 270 = .ok (.iadd, 1) := by decide +kernel
theorem dL_law_271 : decode cL_law 271 = .ok (.iaload, 1) := by decide +kernel
theorem dL_law_272 : decode cL_law 272 = .ok (.aload_n 0, 1) := by decide +kernel
theorem dL_law_273 : decode cL_law 273 = .ok (.iload_n 3, 1) := by decide +kernel
theorem dL_law_274 : decode cL_law 274 = .ok (.iconst 3, 1) := by decide +kernel
theorem dL_law_275 : decode cL_law 275 = .ok (.iadd, 1) := by decide +kernel
theorem dL_law_276 : decode cL_law 276 = .ok (.iaload, 1) := by decide +kernel
theorem dL_law_277 : decode cL_law 277 = .ok (.invokevirtual 28, 3) := by decide +kernel
theorem dL_law_280 : decode cL_law 280 = .ok (.aload_n 2, 1) := by decide +kernel
theorem dL_law_281 : decode cL_law 281 = .ok (.aload_n 0, 1) := by decide +kernel
theorem dL_law_282 : decode cL_law 282 = .ok (.iload_n 3, 1) := by decide +kernel
theorem dL_law_283 : decode cL_law 283 = .ok (.iconst 1, 1) := by decide +kernel
theorem dL_law_284 : decode cL_law 284 = .ok (.iadd, 1) := by decide +kernel
theorem dL_law_285 : decode cL_law 285 = .ok (.iaload, 1) := by decide +kernel
theorem dL_law_286 : decode cL_law 286 = .ok (.aload_n 0, 1) := by decide +kernel
theorem dL_law_287 : decode cL_law 287 = .ok (.iload_n 3, 1) := by decide +kernel
theorem dL_law_288 : decode cL_law 288 = .ok (.iconst 2, 1) := by decide +kernel
theorem dL_law_289 : decode cL_law 289 = .ok (.iadd, 1) := by decide +kernel
theorem dL_law_290 : decode cL_law 290 = .ok (.iaload, 1) := by decide +kernel
theorem dL_law_291 : decode cL_law 291 = .ok (.aload_n 0, 1) := by decide +kernel
theorem dL_law_292 : decode cL_law 292 = .ok (.iload_n 3, 1) := by decide +kernel
theorem dL_law_293 : decode cL_law 293 = .ok (.iconst 3, 1) := by decide +kernel
theorem dL_law_294 : decode cL_law 294 = .ok (.iadd, 1) := by decide +kernel
theorem dL_law_295 : decode cL_law 295 = .ok (.iaload, 1) := by decide +kernel
theorem dL_law_296 : decode cL_law 296 = .ok (.invokevirtual 32, 3) := by decide +kernel
theorem dL_law_299 : decode cL_law 299 = .ok (.if_icmp .eq 704, 3) := by decide +kernel
theorem dL_law_302 : decode cL_law 302 = .ok (.iconst 0, 1) := by decide +kernel
theorem dL_law_303 : decode cL_law 303 = .ok (.ireturn, 1) := by decide +kernel
theorem dL_law_304 : decode cL_law 304 = .ok (.aload_n 1, 1) := by decide +kernel
theorem dL_law_305 : decode cL_law 305 = .ok (.aload_n 0, 1) := by decide +kernel
theorem dL_law_306 : decode cL_law 306 = .ok (.iload_n 3, 1) := by decide +kernel
theorem dL_law_307 : decode cL_law 307 = .ok (.iconst 1, 1) := by decide +kernel
theorem dL_law_308 : decode cL_law 308 = .ok (.iadd, 1) := by decide +kernel
theorem dL_law_309 : decode cL_law 309 = .ok (.iaload, 1) := by decide +kernel
theorem dL_law_310 : decode cL_law 310 = .ok (.aload_n 0, 1) := by decide +kernel
theorem dL_law_311 : decode cL_law 311 = .ok (.iload_n 3, 1) := by decide +kernel
theorem dL_law_312 : decode cL_law 312 = .ok (.iconst 2, 1) := by decide +kernel
theorem dL_law_313 : decode cL_law 313 = .ok (.iadd, 1) := by decide +kernel
theorem dL_law_314 : decode cL_law 314 = .ok (.iaload, 1) := by decide +kernel
theorem dL_law_315 : decode cL_law 315 = .ok (.aload_n 0, 1) := by decide +kernel
theorem dL_law_316 : decode cL_law 316 = .ok (.iload_n 3, 1) := by decide +kernel
theorem dL_law_317 : decode cL_law 317 = .ok (.iconst 3, 1) := by decide +kernel
theorem dL_law_318 : decode cL_law 318 = .ok (.iadd, 1) := by decide +kernel
theorem dL_law_319 : decode cL_law 319 = .ok (.iaload, 1) := by decide +kernel
theorem dL_law_320 : decode cL_law 320 = .ok (.invokevirtual 33, 3) := by decide +kernel
theorem dL_law_323 : decode cL_law 323 = .ok (.aload_n 2, 1) := by decide +kernel
theorem dL_law_324 : decode cL_law 324 = .ok (.aload_n 0, 1) := by decide +kernel
theorem dL_law_325 : decode cL_law 325 = .ok (.iload_n 3, 1) := by decide +kernel
theorem dL_law_326 : decode cL_law 326 = .ok (.iconst 1, 1) := by decide +kernel
theorem dL_law_327 : decode cL_law 327 = .ok (.iadd, 1) := by decide +kernel
theorem dL_law_328 : decode cL_law 328 = .ok (.iaload, 1) := by decide +kernel
theorem dL_law_329 : decode cL_law 329 = .ok (.aload_n 0, 1) := by decide +kernel
theorem dL_law_330 : decode cL_law 330 = .ok (.iload_n 3, 1) := by decide +kernel
theorem dL_law_331 : decode cL_law 331 = .ok (.iconst 2, 1) := by decide +kernel
theorem dL_law_332 : decode cL_law 332 = .ok (.iadd, 1) := by decide +kernel
theorem dL_law_333 : decode cL_law 333 = .ok (.iaload, 1) := by decide +kernel
theorem dL_law_334 : decode cL_law 334 = .ok (.aload_n 0, 1) := by decide +kernel
theorem dL_law_335 : decode cL_law 335 = .ok (.iload_n 3, 1) := by decide +kernel
theorem dL_law_336 : decode cL_law 336 = .ok (.iconst 3, 1) := by decide +kernel
theorem dL_law_337 : decode cL_law 337 = .ok (.iadd, 1) := by decide +kernel
theorem dL_law_338 : decode cL_law 338 = .ok (.iaload, 1) := by decide +kernel
theorem dL_law_339 : decode cL_law 339 = .ok (.invokevirtual 36, 3) := by decide +kernel
theorem dL_law_342 : decode cL_law 342 = .ok (.if_icmp .eq 661, 3) := by decide +kernel
theorem dL_law_345 : decode cL_law 345 = .ok (.iconst 0, 1) := by decide +kernel
theorem dL_law_346 : decode cL_law 346 = .ok (.ireturn, 1) := by decide +kernel
theorem dL_law_347 : decode cL_law 347 = .ok (.aload_n 1, 1) := by decide +kernel
theorem dL_law_348 : decode cL_law 348 = .ok (.aload_n 0, 1) := by decide +kernel
theorem dL_law_349 : decode cL_law 349 = .ok (.iload_n 3, 1) := by decide +kernel
theorem dL_law_350 : decode cL_law 350 = .ok (.iconst 1, 1) := by decide +kernel
theorem dL_law_351 : decode cL_law 351 = .ok (.iadd, 1) := by decide +kernel
theorem dL_law_352 : decode cL_law 352 = .ok (.iaload, 1) := by decide +kernel
theorem dL_law_353 : decode cL_law 353 = .ok (.aload_n 0, 1) := by decide +kernel
theorem dL_law_354 : decode cL_law 354 = .ok (.iload_n 3, 1) := by decide +kernel
theorem dL_law_355 : decode cL_law 355 = .ok (.iconst 2, 1) := by decide +kernel
theorem dL_law_356 : decode cL_law 356 = .ok (.iadd, 1) := by decide +kernel
theorem dL_law_357 : decode cL_law 357 = .ok (.iaload, 1) := by decide +kernel
theorem dL_law_358 : decode cL_law 358 = .ok (.aload_n 0, 1) := by decide +kernel
theorem dL_law_359 : decode cL_law 359 = .ok (.iload_n 3, 1) := by decide +kernel
theorem dL_law_360 : decode cL_law 360 = .ok (.iconst 3, 1) := by decide +kernel
theorem dL_law_361 : decode cL_law 361 = .ok (.iadd, 1) := by decide +kernel
theorem dL_law_362 : decode cL_law 362 = .ok (.iaload, 1) := by decide +kernel
theorem dL_law_363 : decode cL_law 363 = .ok (.invokevirtual 37, 3) := by decide +kernel
theorem dL_law_366 : decode cL_law 366 = .ok (.aload_n 2, 1) := by decide +kernel
theorem dL_law_367 : decode cL_law 367 = .ok (.aload_n 0, 1) := by decide +kernel
theorem dL_law_368 : decode cL_law 368 = .ok (.iload_n 3, 1) := by decide +kernel
theorem dL_law_369 : decode cL_law 369 = .ok (.iconst 1, 1) := by decide +kernel
theorem dL_law_370 : decode cL_law 370 = .ok (.iadd, 1) := by decide +kernel
theorem dL_law_371 : decode cL_law 371 = .ok (.iaload, 1) := by decide +kernel
theorem dL_law_372 : decode cL_law 372 = .ok (.aload_n 0, 1) := by decide +kernel
theorem dL_law_373 : decode cL_law 373 = .ok (.iload_n 3, 1) := by decide +kernel
theorem dL_law_374 : decode cL_law 374 = .ok (.iconst 2, 1) := by decide +kernel
theorem dL_law_375 : decode cL_law 375 = .ok (.iadd, 1) := by decide +kernel
theorem dL_law_376 : decode cL_law 376 = .ok (.iaload, 1) := by decide +kernel
theorem dL_law_377 : decode cL_law 377 = .ok (.aload_n 0, 1) := by decide +kernel
theorem dL_law_378 : decode cL_law 378 = .ok (.iload_n 3, 1) := by decide +kernel
theorem dL_law_379 : decode cL_law 379 = .ok (.iconst 3, 1) := by decide +kernel
theorem dL_law_380 : decode cL_law 380 = .ok (.iadd, 1) := by decide +kernel
theorem dL_law_381 : decode cL_law 381 = .ok (.iaload, 1) := by decide +kernel
theorem dL_law_382 : decode cL_law 382 = .ok (.invokevirtual 40, 3) := by decide +kernel
theorem dL_law_385 : decode cL_law 385 = .ok (.if_icmp .eq 618, 3) := by decide +kernel
theorem dL_law_388 : decode cL_law 388 = .ok (.iconst 0, 1) := by decide +kernel
theorem dL_law_389 : decode cL_law 389 = .ok (.ireturn, 1) := by decide +kernel
theorem dL_law_390 : decode cL_law 390 = .ok (.aload_n 1, 1) := by decide +kernel
theorem dL_law_391 : decode cL_law 391 = .ok (.aload_n 0, 1) := by decide +kernel
theorem dL_law_392 : decode cL_law 392 = .ok (.iload_n 3, 1) := by decide +kernel
theorem dL_law_393 : decode cL_law 393 = .ok (.iconst 1, 1) := by decide +kernel
theorem dL_law_394 : decode cL_law 394 = .ok (.iadd, 1) := by decide +kernel
theorem dL_law_395 : decode cL_law 395 = .ok (.iaload, 1) := by decide +kernel
theorem dL_law_396 : decode cL_law 396 = .ok (.aload_n 0, 1) := by decide +kernel
theorem dL_law_397 : decode cL_law 397 = .ok (.iload_n 3, 1) := by decide +kernel
theorem dL_law_398 : decode cL_law 398 = .ok (.iconst 2, 1) := by decide +kernel
theorem dL_law_399 : decode cL_law 399 = .ok (.iadd, 1) := by decide +kernel
theorem dL_law_400 : decode cL_law 400 = .ok (.iaload, 1) := by decide +kernel
theorem dL_law_401 : decode cL_law 401 = .ok (.invokevirtual 41, 3) := by decide +kernel
theorem dL_law_404 : decode cL_law 404 = .ok (.aload_n 2, 1) := by decide +kernel
theorem dL_law_405 : decode cL_law 405 = .ok (.aload_n 0, 1) := by decide +kernel
theorem dL_law_406 : decode cL_law 406 = .ok (.iload_n 3, 1) := by decide +kernel
theorem dL_law_407 : decode cL_law 407 = .ok (.iconst 1, 1) := by decide +kernel
theorem dL_law_408 : decode cL_law 408 = .ok (.iadd, 1) := by decide +kernel
theorem dL_law_409 : decode cL_law 409 = .ok (.iaload, 1) := by decide +kernel
theorem dL_law_410 : decode cL_law 410 = .ok (.aload_n 0, 1) := by decide +kernel
theorem dL_law_411 : decode cL_law 411 = .ok (.iload_n 3, 1) := by decide +kernel
theorem dL_law_412 : decode cL_law 412 = .ok (.iconst 2, 1) := by decide +kernel
theorem dL_law_413 : decode cL_law 413 = .ok (.iadd, 1) := by decide +kernel
theorem dL_law_414 : decode cL_law 414 = .ok (.iaload, 1) := by decide +kernel
theorem dL_law_415 : decode cL_law 415 = .ok (.invokevirtual 44, 3) := by decide +kernel
theorem dL_law_418 : decode cL_law 418 = .ok (.if_icmp .eq 585, 3) := by decide +kernel
theorem dL_law_421 : decode cL_law 421 = .ok (.iconst 0, 1) := by decide +kernel
theorem dL_law_422 : decode cL_law 422 = .ok (.ireturn, 1) := by decide +kernel
theorem dL_law_423 : decode cL_law 423 = .ok (.aload_n 1, 1) := by decide +kernel
theorem dL_law_424 : decode cL_law 424 = .ok (.aload_n 0, 1) := by decide +kernel
theorem dL_law_425 : decode cL_law 425 = .ok (.iload_n 3, 1) := by decide +kernel
theorem dL_law_426 : decode cL_law 426 = .ok (.iconst 1, 1) := by decide +kernel
theorem dL_law_427 : decode cL_law 427 = .ok (.iadd, 1) := by decide +kernel
theorem dL_law_428 : decode cL_law 428 = .ok (.iaload, 1) := by decide +kernel
theorem dL_law_429 : decode cL_law 429 = .ok (.aload_n 0, 1) := by decide +kernel
theorem dL_law_430 : decode cL_law 430 = .ok (.iload_n 3, 1) := by decide +kernel
theorem dL_law_431 : decode cL_law 431 = .ok (.iconst 2, 1) := by decide +kernel
theorem dL_law_432 : decode cL_law 432 = .ok (.iadd, 1) := by decide +kernel
theorem dL_law_433 : decode cL_law 433 = .ok (.iaload, 1) := by decide +kernel
theorem dL_law_434 : decode cL_law 434 = .ok (.aload_n 0, 1) := by decide +kernel
theorem dL_law_435 : decode cL_law 435 = .ok (.iload_n 3, 1) := by decide +kernel
theorem dL_law_436 : decode cL_law 436 = .ok (.iconst 3, 1) := by decide +kernel
theorem dL_law_437 : decode cL_law 437 = .ok (.iadd, 1) := by decide +kernel
theorem dL_law_438 : decode cL_law 438 = .ok (.iaload, 1) := by decide +kernel
theorem dL_law_439 : decode cL_law 439 = .ok (.invokevirtual 45, 3) := by decide +kernel
theorem dL_law_442 : decode cL_law 442 = .ok (.aload_n 2, 1) := by decide +kernel
theorem dL_law_443 : decode cL_law 443 = .ok (.aload_n 0, 1) := by decide +kernel
theorem dL_law_444 : decode cL_law 444 = .ok (.iload_n 3, 1) := by decide +kernel
theorem dL_law_445 : decode cL_law 445 = .ok (.iconst 1, 1) := by decide +kernel
theorem dL_law_446 : decode cL_law 446 = .ok (.iadd, 1) := by decide +kernel
theorem dL_law_447 : decode cL_law 447 = .ok (.iaload, 1) := by decide +kernel
theorem dL_law_448 : decode cL_law 448 = .ok (.aload_n 0, 1) := by decide +kernel
theorem dL_law_449 : decode cL_law 449 = .ok (.iload_n 3, 1) := by decide +kernel
theorem dL_law_450 : decode cL_law 450 = .ok (.iconst 2, 1) := by decide +kernel
theorem dL_law_451 : decode cL_law 451 = .ok (.iadd, 1) := by decide +kernel
theorem dL_law_452 : decode cL_law 452 = .ok (.iaload, 1) := by decide +kernel
theorem dL_law_453 : decode cL_law 453 = .ok (.aload_n 0, 1) := by decide +kernel
theorem dL_law_454 : decode cL_law 454 = .ok (.iload_n 3, 1) := by decide +kernel
theorem dL_law_455 : decode cL_law 455 = .ok (.iconst 3, 1) := by decide +kernel
theorem dL_law_456 : decode cL_law 456 = .ok (.iadd, 1) := by decide +kernel
theorem dL_law_457 : decode cL_law 457 = .ok (.iaload, 1) := by decide +kernel
theorem dL_law_458 : decode cL_law 458 = .ok (.invokevirtual 48, 3) := by decide +kernel
theorem dL_law_461 : decode cL_law 461 = .ok (.if_icmp .eq 542, 3) := by decide +kernel
theorem dL_law_464 : decode cL_law 464 = .ok (.iconst 0, 1) := by decide +kernel
theorem dL_law_465 : decode cL_law 465 = .ok (.ireturn, 1) := by decide +kernel
theorem dL_law_466 : decode cL_law 466 = .ok (.aload_n 1, 1) := by decide +kernel
theorem dL_law_467 : decode cL_law 467 = .ok (.invokevirtual 49, 3) := by decide +kernel
theorem dL_law_470 : decode cL_law 470 = .ok (.aload_n 2, 1) := by decide +kernel
theorem dL_law_471 : decode cL_law 471 = .ok (.invokevirtual 53, 3) := by decide +kernel
theorem dL_law_474 : decode cL_law 474 = .ok (.if_icmp .eq 529, 3) := by decide +kernel
theorem dL_law_477 : decode cL_law 477 = .ok (.iconst 0, 1) := by decide +kernel
theorem dL_law_478 : decode cL_law 478 = .ok (.ireturn, 1) := by decide +kernel
theorem dL_law_479 : decode cL_law 479 = .ok (.aload_n 1, 1) := by decide +kernel
theorem dL_law_480 : decode cL_law 480 = .ok (.aload_n 0, 1) := by decide +kernel
theorem dL_law_481 : decode cL_law 481 = .ok (.iload_n 3, 1) := by decide +kernel
theorem dL_law_482 : decode cL_law 482 = .ok (.iconst 1, 1) := by decide +kernel
theorem dL_law_483 : decode cL_law 483 = .ok (.iadd, 1) := by decide +kernel
theorem dL_law_484 : decode cL_law 484 = .ok (.iaload, 1) := by decide +kernel
theorem dL_law_485 : decode cL_law 485 = .ok (.invokevirtual 54, 3) := by decide +kernel
theorem dL_law_488 : decode cL_law 488 = .ok (.aload_n 2, 1) := by decide +kernel
theorem dL_law_489 : decode cL_law 489 = .ok (.aload_n 0, 1) := by decide +kernel
theorem dL_law_490 : decode cL_law 490 = .ok (.iload_n 3, 1) := by decide +kernel
theorem dL_law_491 : decode cL_law 491 = .ok (.iconst 1, 1) := by decide +kernel
theorem dL_law_492 : decode cL_law 492 = .ok (.iadd, 1) := by decide +kernel
theorem dL_law_493 : decode cL_law 493 = .ok (.iaload, 1) := by decide +kernel
theorem dL_law_494 : decode cL_law 494 = .ok (.invokevirtual 57, 3) := by decide +kernel
theorem dL_law_497 : decode cL_law 497 = .ok (.if_icmp .eq 506, 3) := by decide +kernel
theorem dL_law_500 : decode cL_law 500 = .ok (.iconst 0, 1) := by decide +kernel
theorem dL_law_501 : decode cL_law 501 = .ok (.ireturn, 1) := by decide +kernel
theorem dL_law_502 : decode cL_law 502 = .ok (.aload_n 1, 1) := by decide +kernel
theorem dL_law_503 : decode cL_law 503 = .ok (.aload_n 0, 1) := by decide +kernel
theorem dL_law_504 : decode cL_law 504 = .ok (.iload_n 3, 1) := by decide +kernel
theorem dL_law_505 : decode cL_law 505 = .ok (.iconst 1, 1) := by decide +kernel
theorem dL_law_506 : decode cL_law 506 = .ok (.iadd, 1) := by decide +kernel
theorem dL_law_507 : decode cL_law 507 = .ok (.iaload, 1) := by decide +kernel
theorem dL_law_508 : decode cL_law 508 = .ok (.invokevirtual 58, 3) := by decide +kernel
theorem dL_law_511 : decode cL_law 511 = .ok (.aload_n 2, 1) := by decide +kernel
theorem dL_law_512 : decode cL_law 512 = .ok (.aload_n 0, 1) := by decide +kernel
theorem dL_law_513 : decode cL_law 513 = .ok (.iload_n 3, 1) := by decide +kernel
theorem dL_law_514 : decode cL_law 514 = .ok (.iconst 1, 1) := by decide +kernel
theorem dL_law_515 : decode cL_law 515 = .ok (.iadd, 1) := by decide +kernel
theorem dL_law_516 : decode cL_law 516 = .ok (.iaload, 1) := by decide +kernel
theorem dL_law_517 : decode cL_law 517 = .ok (.invokevirtual 61, 3) := by decide +kernel
theorem dL_law_520 : decode cL_law 520 = .ok (.if_icmp .eq 483, 3) := by decide +kernel
theorem dL_law_523 : decode cL_law 523 = .ok (.iconst 0, 1) := by decide +kernel
theorem dL_law_524 : decode cL_law 524 = .ok (.ireturn, 1) := by decide +kernel
theorem dL_law_525 : decode cL_law 525 = .ok (.aload_n 1, 1) := by decide +kernel
theorem dL_law_526 : decode cL_law 526 = .ok (.aload_n 0, 1) := by decide +kernel
theorem dL_law_527 : decode cL_law 527 = .ok (.iload_n 3, 1) := by decide +kernel
theorem dL_law_528 : decode cL_law 528 = .ok (.iconst 1, 1) := by decide +kernel
theorem dL_law_529 : decode cL_law 529 = .ok (.iadd, 1) := by decide +kernel
theorem dL_law_530 : decode cL_law 530 = .ok (.iaload, 1) := by decide +kernel
theorem dL_law_531 : decode cL_law 531 = .ok (.aload_n 0, 1) := by decide +kernel
theorem dL_law_532 : decode cL_law 532 = .ok (.iload_n 3, 1) := by decide +kernel
theorem dL_law_533 : decode cL_law 533 = .ok (.iconst 2, 1) := by decide +kernel
theorem dL_law_534 : decode cL_law 534 = .ok (.iadd, 1) := by decide +kernel
theorem dL_law_535 : decode cL_law 535 = .ok (.iaload, 1) := by decide +kernel
theorem dL_law_536 : decode cL_law 536 = .ok (.invokevirtual 62, 3) := by decide +kernel
theorem dL_law_539 : decode cL_law 539 = .ok (.aload_n 2, 1) := by decide +kernel
theorem dL_law_540 : decode cL_law 540 = .ok (.aload_n 0, 1) := by decide +kernel
theorem dL_law_541 : decode cL_law 541 = .ok (.iload_n 3, 1) := by decide +kernel
theorem dL_law_542 : decode cL_law 542 = .ok (.iconst 1, 1) := by decide +kernel
theorem dL_law_543 : decode cL_law 543 = .ok (.iadd, 1) := by decide +kernel
theorem dL_law_544 : decode cL_law 544 = .ok (.iaload, 1) := by decide +kernel
theorem dL_law_545 : decode cL_law 545 = .ok (.aload_n 0, 1) := by decide +kernel
theorem dL_law_546 : decode cL_law 546 = .ok (.iload_n 3, 1) := by decide +kernel
theorem dL_law_547 : decode cL_law 547 = .ok (.iconst 2, 1) := by decide +kernel
theorem dL_law_548 : decode cL_law 548 = .ok (.iadd, 1) := by decide +kernel
theorem dL_law_549 : decode cL_law 549 = .ok (.iaload, 1) := by decide +kernel
theorem dL_law_550 : decode cL_law 550 = .ok (.invokevirtual 65, 3) := by decide +kernel
theorem dL_law_553 : decode cL_law 553 = .ok (.if_icmp .eq 450, 3) := by decide +kernel
theorem dL_law_556 : decode cL_law 556 = .ok (.iconst 0, 1) := by decide +kernel
theorem dL_law_557 : decode cL_law 557 = .ok (.ireturn, 1) := by decide +kernel
theorem dL_law_558 : decode cL_law 558 = .ok (.aload_n 1, 1) := by decide +kernel
theorem dL_law_559 : decode cL_law 559 = .ok (.aload_n 0, 1) := by decide +kernel
theorem dL_law_560 : decode cL_law 560 = .ok (.iload_n 3, 1) := by decide +kernel
theorem dL_law_561 : decode cL_law 561 = .ok (.iconst 1, 1) := by decide +kernel
theorem dL_law_562 : decode cL_law 562 = .ok (.iadd, 1) := by decide +kernel
theorem dL_law_563 : decode cL_law 563 = .ok (.iaload, 1) := by decide +kernel
theorem dL_law_564 : decode cL_law 564 = .ok (.aload_n 0, 1) := by decide +kernel
theorem dL_law_565 : decode cL_law 565 = .ok (.iload_n 3, 1) := by decide +kernel
theorem dL_law_566 : decode cL_law 566 = .ok (.iconst 2, 1) := by decide +kernel
theorem dL_law_567 : decode cL_law 567 = .ok (.iadd, 1) := by decide +kernel
theorem dL_law_568 : decode cL_law 568 = .ok (.iaload, 1) := by decide +kernel
theorem dL_law_569 : decode cL_law 569 = .ok (.invokevirtual 66, 3) := by decide +kernel
theorem dL_law_572 : decode cL_law 572 = .ok (.aload_n 2, 1) := by decide +kernel
theorem dL_law_573 : decode cL_law 573 = .ok (.aload_n 0, 1) := by decide +kernel
theorem dL_law_574 : decode cL_law 574 = .ok (.iload_n 3, 1) := by decide +kernel
theorem dL_law_575 : decode cL_law 575 = .ok (.iconst 1, 1) := by decide +kernel
theorem dL_law_576 : decode cL_law 576 = .ok (.iadd, 1) := by decide +kernel
theorem dL_law_577 : decode cL_law 577 = .ok (.iaload, 1) := by decide +kernel
theorem dL_law_578 : decode cL_law 578 = .ok (.aload_n 0, 1) := by decide +kernel
theorem dL_law_579 : decode cL_law 579 = .ok (.iload_n 3, 1) := by decide +kernel
theorem dL_law_580 : decode cL_law 580 = .ok (.iconst 2, 1) := by decide +kernel
theorem dL_law_581 : decode cL_law 581 = .ok (.iadd, 1) := by decide +kernel
theorem dL_law_582 : decode cL_law 582 = .ok (.iaload, 1) := by decide +kernel
theorem dL_law_583 : decode cL_law 583 = .ok (.invokevirtual 69, 3) := by decide +kernel
theorem dL_law_586 : decode cL_law 586 = .ok (.if_icmp .eq 417, 3) := by decide +kernel
theorem dL_law_589 : decode cL_law 589 = .ok (.iconst 0, 1) := by decide +kernel
theorem dL_law_590 : decode cL_law 590 = .ok (.ireturn, 1) := by decide +kernel
theorem dL_law_591 : decode cL_law 591 = .ok (.aload_n 1, 1) := by decide +kernel
theorem dL_law_592 : decode cL_law 592 = .ok (.aload_n 0, 1) := by decide +kernel
theorem dL_law_593 : decode cL_law 593 = .ok (.iload_n 3, 1) := by decide +kernel
theorem dL_law_594 : decode cL_law 594 = .ok (.iconst 1, 1) := by decide +kernel
theorem dL_law_595 : decode cL_law 595 = .ok (.iadd, 1) := by decide +kernel
theorem dL_law_596 : decode cL_law 596 = .ok (.iaload, 1) := by decide +kernel
theorem dL_law_597 : decode cL_law 597 = .ok (.aload_n 0, 1) := by decide +kernel
theorem dL_law_598 : decode cL_law 598 = .ok (.iload_n 3, 1) := by decide +kernel
theorem dL_law_599 : decode cL_law 599 = .ok (.iconst 2, 1) := by decide +kernel
theorem dL_law_600 : decode cL_law 600 = .ok (.iadd, 1) := by decide +kernel
theorem dL_law_601 : decode cL_law 601 = .ok (.iaload, 1) := by decide +kernel
theorem dL_law_602 : decode cL_law 602 = .ok (.aload_n 0, 1) := by decide +kernel
theorem dL_law_603 : decode cL_law 603 = .ok (.iload_n 3, 1) := by decide +kernel
theorem dL_law_604 : decode cL_law 604 = .ok (.iconst 3, 1) := by decide +kernel
theorem dL_law_605 : decode cL_law 605 = .ok (.iadd, 1) := by decide +kernel
theorem dL_law_606 : decode cL_law 606 = .ok (.iaload, 1) := by decide +kernel
theorem dL_law_607 : decode cL_law 607 = .ok (.invokevirtual 70, 3) := by decide +kernel
theorem dL_law_610 : decode cL_law 610 = .ok (.aload_n 2, 1) := by decide +kernel
theorem dL_law_611 : decode cL_law 611 = .ok (.aload_n 0, 1) := by decide +kernel
theorem dL_law_612 : decode cL_law 612 = .ok (.iload_n 3, 1) := by decide +kernel
theorem dL_law_613 : decode cL_law 613 = .ok (.iconst 1, 1) := by decide +kernel
theorem dL_law_614 : decode cL_law 614 = .ok (.iadd, 1) := by decide +kernel
theorem dL_law_615 : decode cL_law 615 = .ok (.iaload, 1) := by decide +kernel
theorem dL_law_616 : decode cL_law 616 = .ok (.aload_n 0, 1) := by decide +kernel
theorem dL_law_617 : decode cL_law 617 = .ok (.iload_n 3, 1) := by decide +kernel
theorem dL_law_618 : decode cL_law 618 = .ok (.iconst 2, 1) := by decide +kernel
theorem dL_law_619 : decode cL_law 619 = .ok (.iadd, 1) := by decide +kernel
theorem dL_law_620 : decode cL_law 620 = .ok (.iaload, 1) := by decide +kernel
theorem dL_law_621 : decode cL_law 621 = .ok (.aload_n 0, 1) := by decide +kernel
theorem dL_law_622 : decode cL_law 622 = .ok (.iload_n 3, 1) := by decide +kernel
theorem dL_law_623 : decode cL_law 623 = .ok (.iconst 3, 1) := by decide +kernel
theorem dL_law_624 : decode cL_law 624 = .ok (.iadd, 1) := by decide +kernel
theorem dL_law_625 : decode cL_law 625 = .ok (.iaload, 1) := by decide +kernel
theorem dL_law_626 : decode cL_law 626 = .ok (.invokevirtual 73, 3) := by decide +kernel
theorem dL_law_629 : decode cL_law 629 = .ok (.if_icmp .eq 374, 3) := by decide +kernel
theorem dL_law_632 : decode cL_law 632 = .ok (.iconst 0, 1) := by decide +kernel
theorem dL_law_633 : decode cL_law 633 = .ok (.ireturn, 1) := by decide +kernel
theorem dL_law_634 : decode cL_law 634 = .ok (.aload_n 1, 1) := by decide +kernel
theorem dL_law_635 : decode cL_law 635 = .ok (.aload_n 0, 1) := by decide +kernel
theorem dL_law_636 : decode cL_law 636 = .ok (.iload_n 3, 1) := by decide +kernel
theorem dL_law_637 : decode cL_law 637 = .ok (.iconst 1, 1) := by decide +kernel
theorem dL_law_638 : decode cL_law 638 = .ok (.iadd, 1) := by decide +kernel
theorem dL_law_639 : decode cL_law 639 = .ok (.iaload, 1) := by decide +kernel
theorem dL_law_640 : decode cL_law 640 = .ok (.aload_n 0, 1) := by decide +kernel
theorem dL_law_641 : decode cL_law 641 = .ok (.iload_n 3, 1) := by decide +kernel
theorem dL_law_642 : decode cL_law 642 = .ok (.iconst 2, 1) := by decide +kernel
theorem dL_law_643 : decode cL_law 643 = .ok (.iadd, 1) := by decide +kernel
theorem dL_law_644 : decode cL_law 644 = .ok (.iaload, 1) := by decide +kernel
theorem dL_law_645 : decode cL_law 645 = .ok (.invokevirtual 74, 3) := by decide +kernel
theorem dL_law_648 : decode cL_law 648 = .ok (.aload_n 2, 1) := by decide +kernel
theorem dL_law_649 : decode cL_law 649 = .ok (.aload_n 0, 1) := by decide +kernel
theorem dL_law_650 : decode cL_law 650 = .ok (.iload_n 3, 1) := by decide +kernel
theorem dL_law_651 : decode cL_law 651 = .ok (.iconst 1, 1) := by decide +kernel
theorem dL_law_652 : decode cL_law 652 = .ok (.iadd, 1) := by decide +kernel
theorem dL_law_653 : decode cL_law 653 = .ok (.iaload, 1) := by decide +kernel
theorem dL_law_654 : decode cL_law 654 = .ok (.aload_n 0, 1) := by decide +kernel
theorem dL_law_655 : decode cL_law 655 = .ok (.iload_n 3, 1) := by decide +kernel
theorem dL_law_656 : decode cL_law 656 = .ok (.iconst 2, 1) := by decide +kernel
theorem dL_law_657 : decode cL_law 657 = .ok (.iadd, 1) := by decide +kernel
theorem dL_law_658 : decode cL_law 658 = .ok (.iaload, 1) := by decide +kernel
theorem dL_law_659 : decode cL_law 659 = .ok (.invokevirtual 77, 3) := by decide +kernel
theorem dL_law_662 : decode cL_law 662 = .ok (.if_icmp .eq 341, 3) := by decide +kernel
theorem dL_law_665 : decode cL_law 665 = .ok (.iconst 0, 1) := by decide +kernel
theorem dL_law_666 : decode cL_law 666 = .ok (.ireturn, 1) := by decide +kernel
theorem dL_law_667 : decode cL_law 667 = .ok (.aload_n 1, 1) := by decide +kernel
theorem dL_law_668 : decode cL_law 668 = .ok (.aload_n 0, 1) := by decide +kernel
theorem dL_law_669 : decode cL_law 669 = .ok (.iload_n 3, 1) := by decide +kernel
theorem dL_law_670 : decode cL_law 670 = .ok (.iconst 1, 1) := by decide +kernel
theorem dL_law_671 : decode cL_law 671 = .ok (.iadd, 1) := by decide +kernel
theorem dL_law_672 : decode cL_law 672 = .ok (.iaload, 1) := by decide +kernel
theorem dL_law_673 : decode cL_law 673 = .ok (.aload_n 0, 1) := by decide +kernel
theorem dL_law_674 : decode cL_law 674 = .ok (.iload_n 3, 1) := by decide +kernel
theorem dL_law_675 : decode cL_law 675 = .ok (.iconst 2, 1) := by decide +kernel
theorem dL_law_676 : decode cL_law 676 = .ok (.iadd, 1) := by decide +kernel
theorem dL_law_677 : decode cL_law 677 = .ok (.iaload, 1) := by decide +kernel
theorem dL_law_678 : decode cL_law 678 = .ok (.aload_n 0, 1) := by decide +kernel
theorem dL_law_679 : decode cL_law 679 = .ok (.iload_n 3, 1) := by decide +kernel
theorem dL_law_680 : decode cL_law 680 = .ok (.iconst 3, 1) := by decide +kernel
theorem dL_law_681 : decode cL_law 681 = .ok (.iadd, 1) := by decide +kernel
theorem dL_law_682 : decode cL_law 682 = .ok (.iaload, 1) := by decide +kernel
theorem dL_law_683 : decode cL_law 683 = .ok (.invokevirtual 78, 3) := by decide +kernel
theorem dL_law_686 : decode cL_law 686 = .ok (.aload_n 2, 1) := by decide +kernel
theorem dL_law_687 : decode cL_law 687 = .ok (.aload_n 0, 1) := by decide +kernel
theorem dL_law_688 : decode cL_law 688 = .ok (.iload_n 3, 1) := by decide +kernel
theorem dL_law_689 : decode cL_law 689 = .ok (.iconst 1, 1) := by decide +kernel
theorem dL_law_690 : decode cL_law 690 = .ok (.iadd, 1) := by decide +kernel
theorem dL_law_691 : decode cL_law 691 = .ok (.iaload, 1) := by decide +kernel
theorem dL_law_692 : decode cL_law 692 = .ok (.aload_n 0, 1) := by decide +kernel
theorem dL_law_693 : decode cL_law 693 = .ok (.iload_n 3, 1) := by decide +kernel
theorem dL_law_694 : decode cL_law 694 = .ok (.iconst 2, 1) := by decide +kernel
theorem dL_law_695 : decode cL_law 695 = .ok (.iadd, 1) := by decide +kernel
theorem dL_law_696 : decode cL_law 696 = .ok (.iaload, 1) := by decide +kernel
theorem dL_law_697 : decode cL_law 697 = .ok (.aload_n 0, 1) := by decide +kernel
theorem dL_law_698 : decode cL_law 698 = .ok (.iload_n 3, 1) := by decide +kernel
theorem dL_law_699 : decode cL_law 699 = .ok (.iconst 3, 1) := by decide +kernel
theorem dL_law_700 : decode cL_law 700 = .ok (.iadd, 1) := by decide +kernel
theorem dL_law_701 : decode cL_law 701 = .ok (.iaload, 1) := by decide +kernel
theorem dL_law_702 : decode cL_law 702 = .ok (.invokevirtual 81, 3) := by decide +kernel
theorem dL_law_705 : decode cL_law 705 = .ok (.if_icmp .eq 298, 3) := by decide +kernel
theorem dL_law_708 : decode cL_law 708 = .ok (.iconst 0, 1) := by decide +kernel
theorem dL_law_709 : decode cL_law 709 = .ok (.ireturn, 1) := by decide +kernel
theorem dL_law_710 : decode cL_law 710 = .ok (.aload_n 1, 1) := by decide +kernel
theorem dL_law_711 : decode cL_law 711 = .ok (.aload_n 0, 1) := by decide +kernel
theorem dL_law_712 : decode cL_law 712 = .ok (.iload_n 3, 1) := by decide +kernel
theorem dL_law_713 : decode cL_law 713 = .ok (.iconst 1, 1) := by decide +kernel
theorem dL_law_714 : decode cL_law 714 = .ok (.iadd, 1) := by decide +kernel
theorem dL_law_715 : decode cL_law 715 = .ok (.iaload, 1) := by decide +kernel
theorem dL_law_716 : decode cL_law 716 = .ok (.invokevirtual 82, 3) := by decide +kernel
theorem dL_law_719 : decode cL_law 719 = .ok (.aload_n 2, 1) := by decide +kernel
theorem dL_law_720 : decode cL_law 720 = .ok (.aload_n 0, 1) := by decide +kernel
theorem dL_law_721 : decode cL_law 721 = .ok (.iload_n 3, 1) := by decide +kernel
theorem dL_law_722 : decode cL_law 722 = .ok (.iconst 1, 1) := by decide +kernel
theorem dL_law_723 : decode cL_law 723 = .ok (.iadd, 1) := by decide +kernel
theorem dL_law_724 : decode cL_law 724 = .ok (.iaload, 1) := by decide +kernel
theorem dL_law_725 : decode cL_law 725 = .ok (.invokevirtual 85, 3) := by decide +kernel
theorem dL_law_728 : decode cL_law 728 = .ok (.if_icmp .eq 275, 3) := by decide +kernel
theorem dL_law_731 : decode cL_law 731 = .ok (.iconst 0, 1) := by decide +kernel
theorem dL_law_732 : decode cL_law 732 = .ok (.ireturn, 1) := by decide +kernel
theorem dL_law_733 : decode cL_law 733 = .ok (.aload_n 1, 1) := by decide +kernel
theorem dL_law_734 : decode cL_law 734 = .ok (.aload_n 0, 1) := by decide +kernel
theorem dL_law_735 : decode cL_law 735 = .ok (.iload_n 3, 1) := by decide +kernel
theorem dL_law_736 : decode cL_law 736 = .ok (.iconst 1, 1) := by decide +kernel
theorem dL_law_737 : decode cL_law 737 = .ok (.iadd, 1) := by decide +kernel
theorem dL_law_738 : decode cL_law 738 = .ok (.iaload, 1) := by decide +kernel
theorem dL_law_739 : decode cL_law 739 = .ok (.aload_n 0, 1) := by decide +kernel
theorem dL_law_740 : decode cL_law 740 = .ok (.iload_n 3, 1) := by decide +kernel
theorem dL_law_741 : decode cL_law 741 = .ok (.iconst 2, 1) := by decide +kernel
theorem dL_law_742 : decode cL_law 742 = .ok (.iadd, 1) := by decide +kernel
theorem dL_law_743 : decode cL_law 743 = .ok (.iaload, 1) := by decide +kernel
theorem dL_law_744 : decode cL_law 744 = .ok (.invokevirtual 86, 3) := by decide +kernel
theorem dL_law_747 : decode cL_law 747 = .ok (.aload_n 2, 1) := by decide +kernel
theorem dL_law_748 : decode cL_law 748 = .ok (.aload_n 0, 1) := by decide +kernel
theorem dL_law_749 : decode cL_law 749 = .ok (.iload_n 3, 1) := by decide +kernel
theorem dL_law_750 : decode cL_law 750 = .ok (.iconst 1, 1) := by decide +kernel
theorem dL_law_751 : decode cL_law 751 = .ok (.iadd, 1) := by decide +kernel
theorem dL_law_752 : decode cL_law 752 = .ok (.iaload, 1) := by decide +kernel
theorem dL_law_753 : decode cL_law 753 = .ok (.aload_n 0, 1) := by decide +kernel
theorem dL_law_754 : decode cL_law 754 = .ok (.iload_n 3, 1) := by decide +kernel
theorem dL_law_755 : decode cL_law 755 = .ok (.iconst 2, 1) := by decide +kernel
theorem dL_law_756 : decode cL_law 756 = .ok (.iadd, 1) := by decide +kernel
theorem dL_law_757 : decode cL_law 757 = .ok (.iaload, 1) := by decide +kernel
theorem dL_law_758 : decode cL_law 758 = .ok (.invokevirtual 89, 3) := by decide +kernel
theorem dL_law_761 : decode cL_law 761 = .ok (.if_icmp .eq 242, 3) := by decide +kernel
theorem dL_law_764 : decode cL_law 764 = .ok (.iconst 0, 1) := by decide +kernel
theorem dL_law_765 : decode cL_law 765 = .ok (.ireturn, 1) := by decide +kernel
theorem dL_law_766 : decode cL_law 766 = .ok (.aload_n 1, 1) := by decide +kernel
theorem dL_law_767 : decode cL_law 767 = .ok (.aload_n 0, 1) := by decide +kernel
theorem dL_law_768 : decode cL_law 768 = .ok (.iload_n 3, 1) := by decide +kernel
theorem dL_law_769 : decode cL_law 769 = .ok (.iconst 1, 1) := by decide +kernel
theorem dL_law_770 : decode cL_law 770 = .ok (.iadd, 1) := by decide +kernel
theorem dL_law_771 : decode cL_law 771 = .ok (.iaload, 1) := by decide +kernel
theorem dL_law_772 : decode cL_law 772 = .ok (.aload_n 0, 1) := by decide +kernel
theorem dL_law_773 : decode cL_law 773 = .ok (.iload_n 3, 1) := by decide +kernel
theorem dL_law_774 : decode cL_law 774 = .ok (.iconst 2, 1) := by decide +kernel
theorem dL_law_775 : decode cL_law 775 = .ok (.iadd, 1) := by decide +kernel
theorem dL_law_776 : decode cL_law 776 = .ok (.iaload, 1) := by decide +kernel
theorem dL_law_777 : decode cL_law 777 = .ok (.invokevirtual 90, 3) := by decide +kernel
theorem dL_law_780 : decode cL_law 780 = .ok (.aload_n 2, 1) := by decide +kernel
theorem dL_law_781 : decode cL_law 781 = .ok (.aload_n 0, 1) := by decide +kernel
theorem dL_law_782 : decode cL_law 782 = .ok (.iload_n 3, 1) := by decide +kernel
theorem dL_law_783 : decode cL_law 783 = .ok (.iconst 1, 1) := by decide +kernel
theorem dL_law_784 : decode cL_law 784 = .ok (.iadd, 1) := by decide +kernel
theorem dL_law_785 : decode cL_law 785 = .ok (.iaload, 1) := by decide +kernel
theorem dL_law_786 : decode cL_law 786 = .ok (.aload_n 0, 1) := by decide +kernel
theorem dL_law_787 : decode cL_law 787 = .ok (.iload_n 3, 1) := by decide +kernel
theorem dL_law_788 : decode cL_law 788 = .ok (.iconst 2, 1) := by decide +kernel
theorem dL_law_789 : decode cL_law 789 = .ok (.iadd, 1) := by decide +kernel
theorem dL_law_790 : decode cL_law 790 = .ok (.iaload, 1) := by decide +kernel
theorem dL_law_791 : decode cL_law 791 = .ok (.invokevirtual 93, 3) := by decide +kernel
theorem dL_law_794 : decode cL_law 794 = .ok (.if_icmp .eq 209, 3) := by decide +kernel
theorem dL_law_797 : decode cL_law 797 = .ok (.iconst 0, 1) := by decide +kernel
theorem dL_law_798 : decode cL_law 798 = .ok (.ireturn, 1) := by decide +kernel
theorem dL_law_799 : decode cL_law 799 = .ok (.aload_n 1, 1) := by decide +kernel
theorem dL_law_800 : decode cL_law 800 = .ok (.aload_n 0, 1) := by decide +kernel
theorem dL_law_801 : decode cL_law 801 = .ok (.iload_n 3, 1) := by decide +kernel
theorem dL_law_802 : decode cL_law 802 = .ok (.iconst 1, 1) := by decide +kernel
theorem dL_law_803 : decode cL_law 803 = .ok (.iadd, 1) := by decide +kernel
theorem dL_law_804 : decode cL_law 804 = .ok (.iaload, 1) := by decide +kernel
theorem dL_law_805 : decode cL_law 805 = .ok (.aload_n 0, 1) := by decide +kernel
theorem dL_law_806 : decode cL_law 806 = .ok (.iload_n 3, 1) := by decide +kernel
theorem dL_law_807 : decode cL_law 807 = .ok (.iconst 2, 1) := by decide +kernel
theorem dL_law_808 : decode cL_law 808 = .ok (.iadd, 1) := by decide +kernel
theorem dL_law_809 : decode cL_law 809 = .ok (.iaload, 1) := by decide +kernel
theorem dL_law_810 : decode cL_law 810 = .ok (.aload_n 0, 1) := by decide +kernel
theorem dL_law_811 : decode cL_law 811 = .ok (.iload_n 3, 1) := by decide +kernel
theorem dL_law_812 : decode cL_law 812 = .ok (.iconst 3, 1) := by decide +kernel
theorem dL_law_813 : decode cL_law 813 = .ok (.iadd, 1) := by decide +kernel
theorem dL_law_814 : decode cL_law 814 = .ok (.iaload, 1) := by decide +kernel
theorem dL_law_815 : decode cL_law 815 = .ok (.invokevirtual 94, 3) := by decide +kernel
theorem dL_law_818 : decode cL_law 818 = .ok (.aload_n 2, 1) := by decide +kernel
theorem dL_law_819 : decode cL_law 819 = .ok (.aload_n 0, 1) := by decide +kernel
theorem dL_law_820 : decode cL_law 820 = .ok (.iload_n 3, 1) := by decide +kernel
theorem dL_law_821 : decode cL_law 821 = .ok (.iconst 1, 1) := by decide +kernel
theorem dL_law_822 : decode cL_law 822 = .ok (.iadd, 1) := by decide +kernel
theorem dL_law_823 : decode cL_law 823 = .ok (.iaload, 1) := by decide +kernel
theorem dL_law_824 : decode cL_law 824 = .ok (.aload_n 0, 1) := by decide +kernel
theorem dL_law_825 : decode cL_law 825 = .ok (.iload_n 3, 1) := by decide +kernel
theorem dL_law_826 : decode cL_law 826 = .ok (.iconst 2, 1) := by decide +kernel
theorem dL_law_827 : decode cL_law 827 = .ok (.iadd, 1) := by decide +kernel
theorem dL_law_828 : decode cL_law 828 = .ok (.iaload, 1) := by decide +kernel
theorem dL_law_829 : decode cL_law 829 = .ok (.aload_n 0, 1) := by decide +kernel
theorem dL_law_830 : decode cL_law 830 = .ok (.iload_n 3, 1) := by decide +kernel
theorem dL_law_831 : decode cL_law 831 = .ok (.iconst 3, 1) := by decide +kernel
theorem dL_law_832 : decode cL_law 832 = .ok (.iadd, 1) := by decide +kernel
theorem dL_law_833 : decode cL_law 833 = .ok (.iaload, 1) := by decide +kernel
theorem dL_law_834 : decode cL_law 834 = .ok (.invokevirtual 98, 3) := by decide +kernel
theorem dL_law_837 : decode cL_law 837 = .ok (.lcmp, 1) := by decide +kernel
theorem dL_law_838 : decode cL_law 838 = .ok (.ifCond .eq 165, 3) := by decide +kernel
theorem dL_law_841 : decode cL_law 841 = .ok (.iconst 0, 1) := by decide +kernel
theorem dL_law_842 : decode cL_law 842 = .ok (.ireturn, 1) := by decide +kernel
theorem dL_law_843 : decode cL_law 843 = .ok (.aload_n 1, 1) := by decide +kernel
theorem dL_law_844 : decode cL_law 844 = .ok (.aload_n 0, 1) := by decide +kernel
theorem dL_law_845 : decode cL_law 845 = .ok (.iload_n 3, 1) := by decide +kernel
theorem dL_law_846 : decode cL_law 846 = .ok (.iconst 1, 1) := by decide +kernel
theorem dL_law_847 : decode cL_law 847 = .ok (.iadd, 1) := by decide +kernel
theorem dL_law_848 : decode cL_law 848 = .ok (.iaload, 1) := by decide +kernel
theorem dL_law_849 : decode cL_law 849 = .ok (.aload_n 0, 1) := by decide +kernel
theorem dL_law_850 : decode cL_law 850 = .ok (.iload_n 3, 1) := by decide +kernel
theorem dL_law_851 : decode cL_law 851 = .ok (.iconst 2, 1) := by decide +kernel
theorem dL_law_852 : decode cL_law 852 = .ok (.iadd, 1) := by decide +kernel
theorem dL_law_853 : decode cL_law 853 = .ok (.iaload, 1) := by decide +kernel
theorem dL_law_854 : decode cL_law 854 = .ok (.invokevirtual 99, 3) := by decide +kernel
theorem dL_law_857 : decode cL_law 857 = .ok (.aload_n 2, 1) := by decide +kernel
theorem dL_law_858 : decode cL_law 858 = .ok (.aload_n 0, 1) := by decide +kernel
theorem dL_law_859 : decode cL_law 859 = .ok (.iload_n 3, 1) := by decide +kernel
theorem dL_law_860 : decode cL_law 860 = .ok (.iconst 1, 1) := by decide +kernel
theorem dL_law_861 : decode cL_law 861 = .ok (.iadd, 1) := by decide +kernel
theorem dL_law_862 : decode cL_law 862 = .ok (.iaload, 1) := by decide +kernel
theorem dL_law_863 : decode cL_law 863 = .ok (.aload_n 0, 1) := by decide +kernel
theorem dL_law_864 : decode cL_law 864 = .ok (.iload_n 3, 1) := by decide +kernel
theorem dL_law_865 : decode cL_law 865 = .ok (.iconst 2, 1) := by decide +kernel
theorem dL_law_866 : decode cL_law 866 = .ok (.iadd, 1) := by decide +kernel
theorem dL_law_867 : decode cL_law 867 = .ok (.iaload, 1) := by decide +kernel
theorem dL_law_868 : decode cL_law 868 = .ok (.invokevirtual 103, 3) := by decide +kernel
theorem dL_law_871 : decode cL_law 871 = .ok (.lcmp, 1) := by decide +kernel
theorem dL_law_872 : decode cL_law 872 = .ok (.ifCond .eq 131, 3) := by decide +kernel
theorem dL_law_875 : decode cL_law 875 = .ok (.iconst 0, 1) := by decide +kernel
theorem dL_law_876 : decode cL_law 876 = .ok (.ireturn, 1) := by decide +kernel
theorem dL_law_877 : decode cL_law 877 = .ok (.aload_n 1, 1) := by decide +kernel
theorem dL_law_878 : decode cL_law 878 = .ok (.aload_n 0, 1) := by decide +kernel
theorem dL_law_879 : decode cL_law 879 = .ok (.iload_n 3, 1) := by decide +kernel
theorem dL_law_880 : decode cL_law 880 = .ok (.iconst 1, 1) := by decide +kernel
theorem dL_law_881 : decode cL_law 881 = .ok (.iadd, 1) := by decide +kernel
theorem dL_law_882 : decode cL_law 882 = .ok (.iaload, 1) := by decide +kernel
theorem dL_law_883 : decode cL_law 883 = .ok (.invokevirtual 104, 3) := by decide +kernel
theorem dL_law_886 : decode cL_law 886 = .ok (.aload_n 2, 1) := by decide +kernel
theorem dL_law_887 : decode cL_law 887 = .ok (.aload_n 0, 1) := by decide +kernel
theorem dL_law_888 : decode cL_law 888 = .ok (.iload_n 3, 1) := by decide +kernel
theorem dL_law_889 : decode cL_law 889 = .ok (.iconst 1, 1) := by decide +kernel
theorem dL_law_890 : decode cL_law 890 = .ok (.iadd, 1) := by decide +kernel
theorem dL_law_891 : decode cL_law 891 = .ok (.iaload, 1) := by decide +kernel
theorem dL_law_892 : decode cL_law 892 = .ok (.invokevirtual 107, 3) := by decide +kernel
theorem dL_law_895 : decode cL_law 895 = .ok (.if_icmp .eq 108, 3) := by decide +kernel
theorem dL_law_898 : decode cL_law 898 = .ok (.iconst 0, 1) := by decide +kernel
theorem dL_law_899 : decode cL_law 899 = .ok (.ireturn, 1) := by decide +kernel
theorem dL_law_900 : decode cL_law 900 = .ok (.aload_n 1, 1) := by decide +kernel
theorem dL_law_901 : decode cL_law 901 = .ok (.aload_n 0, 1) := by decide +kernel
theorem dL_law_902 : decode cL_law 902 = .ok (.iload_n 3, 1) := by decide +kernel
theorem dL_law_903 : decode cL_law 903 = .ok (.iconst 1, 1) := by decide +kernel
theorem dL_law_904 : decode cL_law 904 = .ok (.iadd, 1) := by decide +kernel
theorem dL_law_905 : decode cL_law 905 = .ok (.iaload, 1) := by decide +kernel
theorem dL_law_906 : decode cL_law 906 = .ok (.invokevirtual 108, 3) := by decide +kernel
theorem dL_law_909 : decode cL_law 909 = .ok (.aload_n 2, 1) := by decide +kernel
theorem dL_law_910 : decode cL_law 910 = .ok (.aload_n 0, 1) := by decide +kernel
theorem dL_law_911 : decode cL_law 911 = .ok (.iload_n 3, 1) := by decide +kernel
theorem dL_law_912 : decode cL_law 912 = .ok (.iconst 1, 1) := by decide +kernel
theorem dL_law_913 : decode cL_law 913 = .ok (.iadd, 1) := by decide +kernel
theorem dL_law_914 : decode cL_law 914 = .ok (.iaload, 1) := by decide +kernel
theorem dL_law_915 : decode cL_law 915 = .ok (.invokevirtual 111, 3) := by decide +kernel
theorem dL_law_918 : decode cL_law 918 = .ok (.if_icmp .eq 85, 3) := by decide +kernel
theorem dL_law_921 : decode cL_law 921 = .ok (.iconst 0, 1) := by decide +kernel
theorem dL_law_922 : decode cL_law 922 = .ok (.ireturn, 1) := by decide +kernel
theorem dL_law_923 : decode cL_law 923 = .ok (.aload_n 1, 1) := by decide +kernel
theorem dL_law_924 : decode cL_law 924 = .ok (.aload_n 0, 1) := by decide +kernel
theorem dL_law_925 : decode cL_law 925 = .ok (.iload_n 3, 1) := by decide +kernel
theorem dL_law_926 : decode cL_law 926 = .ok (.iconst 1, 1) := by decide +kernel
theorem dL_law_927 : decode cL_law 927 = .ok (.iadd, 1) := by decide +kernel
theorem dL_law_928 : decode cL_law 928 = .ok (.iaload, 1) := by decide +kernel
theorem dL_law_929 : decode cL_law 929 = .ok (.aload_n 0, 1) := by decide +kernel
theorem dL_law_930 : decode cL_law 930 = .ok (.iload_n 3, 1) := by decide +kernel
theorem dL_law_931 : decode cL_law 931 = .ok (.iconst 2, 1) := by decide +kernel
theorem dL_law_932 : decode cL_law 932 = .ok (.iadd, 1) := by decide +kernel
theorem dL_law_933 : decode cL_law 933 = .ok (.iaload, 1) := by decide +kernel
theorem dL_law_934 : decode cL_law 934 = .ok (.aload_n 0, 1) := by decide +kernel
theorem dL_law_935 : decode cL_law 935 = .ok (.iload_n 3, 1) := by decide +kernel
theorem dL_law_936 : decode cL_law 936 = .ok (.iconst 3, 1) := by decide +kernel
theorem dL_law_937 : decode cL_law 937 = .ok (.iadd, 1) := by decide +kernel
theorem dL_law_938 : decode cL_law 938 = .ok (.iaload, 1) := by decide +kernel
theorem dL_law_939 : decode cL_law 939 = .ok (.invokevirtual 112, 3) := by decide +kernel
theorem dL_law_942 : decode cL_law 942 = .ok (.aload_n 2, 1) := by decide +kernel
theorem dL_law_943 : decode cL_law 943 = .ok (.aload_n 0, 1) := by decide +kernel
theorem dL_law_944 : decode cL_law 944 = .ok (.iload_n 3, 1) := by decide +kernel
theorem dL_law_945 : decode cL_law 945 = .ok (.iconst 1, 1) := by decide +kernel
theorem dL_law_946 : decode cL_law 946 = .ok (.iadd, 1) := by decide +kernel
theorem dL_law_947 : decode cL_law 947 = .ok (.iaload, 1) := by decide +kernel
theorem dL_law_948 : decode cL_law 948 = .ok (.aload_n 0, 1) := by decide +kernel
theorem dL_law_949 : decode cL_law 949 = .ok (.iload_n 3, 1) := by decide +kernel
theorem dL_law_950 : decode cL_law 950 = .ok (.iconst 2, 1) := by decide +kernel
theorem dL_law_951 : decode cL_law 951 = .ok (.iadd, 1) := by decide +kernel
theorem dL_law_952 : decode cL_law 952 = .ok (.iaload, 1) := by decide +kernel
theorem dL_law_953 : decode cL_law 953 = .ok (.aload_n 0, 1) := by decide +kernel
theorem dL_law_954 : decode cL_law 954 = .ok (.iload_n 3, 1) := by decide +kernel
theorem dL_law_955 : decode cL_law 955 = .ok (.iconst 3, 1) := by decide +kernel
theorem dL_law_956 : decode cL_law 956 = .ok (.iadd, 1) := by decide +kernel
theorem dL_law_957 : decode cL_law 957 = .ok (.iaload, 1) := by decide +kernel
theorem dL_law_958 : decode cL_law 958 = .ok (.invokevirtual 115, 3) := by decide +kernel
theorem dL_law_961 : decode cL_law 961 = .ok (.if_icmp .eq 42, 3) := by decide +kernel
theorem dL_law_964 : decode cL_law 964 = .ok (.iconst 0, 1) := by decide +kernel
theorem dL_law_965 : decode cL_law 965 = .ok (.ireturn, 1) := by decide +kernel
theorem dL_law_966 : decode cL_law 966 = .ok (.aload_n 1, 1) := by decide +kernel
theorem dL_law_967 : decode cL_law 967 = .ok (.aload_n 0, 1) := by decide +kernel
theorem dL_law_968 : decode cL_law 968 = .ok (.iload_n 3, 1) := by decide +kernel
theorem dL_law_969 : decode cL_law 969 = .ok (.iconst 1, 1) := by decide +kernel
theorem dL_law_970 : decode cL_law 970 = .ok (.iadd, 1) := by decide +kernel
theorem dL_law_971 : decode cL_law 971 = .ok (.iaload, 1) := by decide +kernel
theorem dL_law_972 : decode cL_law 972 = .ok (.invokevirtual 116, 3) := by decide +kernel
theorem dL_law_975 : decode cL_law 975 = .ok (.aload_n 2, 1) := by decide +kernel
theorem dL_law_976 : decode cL_law 976 = .ok (.aload_n 0, 1) := by decide +kernel
theorem dL_law_977 : decode cL_law 977 = .ok (.iload_n 3, 1) := by decide +kernel
theorem dL_law_978 : decode cL_law 978 = .ok (.iconst 1, 1) := by decide +kernel
theorem dL_law_979 : decode cL_law 979 = .ok (.iadd, 1) := by decide +kernel
theorem dL_law_980 : decode cL_law 980 = .ok (.iaload, 1) := by decide +kernel
theorem dL_law_981 : decode cL_law 981 = .ok (.invokevirtual 119, 3) := by decide +kernel
theorem dL_law_984 : decode cL_law 984 = .ok (.if_icmp .eq 19, 3) := by decide +kernel
theorem dL_law_987 : decode cL_law 987 = .ok (.iconst 0, 1) := by decide +kernel
theorem dL_law_988 : decode cL_law 988 = .ok (.ireturn, 1) := by decide +kernel
theorem dL_law_989 : decode cL_law 989 = .ok (.aload_n 1, 1) := by decide +kernel
theorem dL_law_990 : decode cL_law 990 = .ok (.invokevirtual 120, 3) := by decide +kernel
theorem dL_law_993 : decode cL_law 993 = .ok (.aload_n 2, 1) := by decide +kernel
theorem dL_law_994 : decode cL_law 994 = .ok (.invokevirtual 124, 3) := by decide +kernel
theorem dL_law_997 : decode cL_law 997 = .ok (.lcmp, 1) := by decide +kernel
theorem dL_law_998 : decode cL_law 998 = .ok (.ifCond .eq 5, 3) := by decide +kernel
theorem dL_law_1001 : decode cL_law 1001 = .ok (.iconst 0, 1) := by decide +kernel
theorem dL_law_1002 : decode cL_law 1002 = .ok (.ireturn, 1) := by decide +kernel
theorem dL_law_1003 : decode cL_law 1003 = .ok (.iinc 3 5, 3) := by decide +kernel
theorem dL_law_1006 : decode cL_law 1006 = .ok (.goto (-988), 3) := by decide +kernel
theorem dL_law_1009 : decode cL_law 1009 = .ok (.iconst 1, 1) := by decide +kernel
theorem dL_law_1010 : decode cL_law 1010 = .ok (.ireturn, 1) := by decide +kernel
abbrev vwCl : List vw_C := [(RX0, TX0, 4), (RX1, TX1, 3), (RX2, TX2, 6), (RX4, TX4, 6), (RX5, TX5, 3), (RX6, TX6, 5), (RX7, TX7, 4), (RX8, TX8, 3), (RX9, TX9, 1), (RX10, TX10, 2), (RX11, TX11, 11), (RX12, TX12, 30)]
