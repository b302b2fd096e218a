theorem ggX6_predictRegion_X9_pieceX : GoodIn wsX6_predictRegion wsX9_pieceX := goodIn_r _ [10] (by decide +kernel) (by decide +kernel)
set_option maxRecDepth 20000 in
theorem gX6_predictRegion_X9_pieceX : GoodIn wsX6_predictRegion (va_wsS RX6 76 yX9_pieceX wsX9_pieceX) := goodIn_app (goodIn_of _ (by decide +kernel)) ggX6_predictRegion_X9_pieceX
set_option maxRecDepth 20000 in
theorem ggX6_predictRegion_X9_pieceY : GoodIn wsX6_predictRegion wsX9_pieceY := goodIn_r _ [13] (by decide +kernel) (by decide +kernel)
set_option maxRecDepth 20000 in
theorem gX6_predictRegion_X9_pieceY : GoodIn wsX6_predictRegion (va_wsS RX6 80 yX9_pieceY wsX9_pieceY) := goodIn_app (goodIn_of _ (by decide +kernel)) ggX6_predictRegion_X9_pieceY
set_option maxRecDepth 20000 in
theorem ggX6_predictRegion_X6_chooseWeights : GoodIn wsX6_predictRegion wsX6_chooseWeights := goodIn_r _ [46, 47, 3, 48, 49, 4, 50, 51, 1, 52, 53, 54, 55, 56, 57, 58, 59, 9, 60, 61, 62, 63, 64, 65, 66, 67, 68, 69, 70, 71, 80, 81, 82, 83, 84, 85, 86, 87, 88, 89, 90, 91, 92, 93, 94, 95, 96, 97, 98, 99, 118, 119, 120, 121, 122, 123, 124, 125, 126, 127, 128, 129, 130, 131, 132, 133, 134, 135, 100, 101, 102, 103, 104, 105, 106, 107, 108, 109, 110, 111, 112, 113, 114, 115, 116, 117] (by decide +kernel) (by decide +kernel)
set_option maxRecDepth 20000 in
theorem gX6_predictRegion_X6_chooseWeights : GoodIn wsX6_predictRegion (wsV RX6 98 RX6 yX6_chooseWeights wsX6_chooseWeights) := goodIn_app (goodIn_of _ (by decide +kernel)) ggX6_predictRegion_X6_chooseWeights
set_option maxRecDepth 20000 in
theorem ggX6_predictRegion_X6_blend : GoodIn wsX6_predictRegion wsX6_blend := goodIn_r _ [75, 6, 5, 52, 53, 55, 54, 76, 56, 77, 78, 79, 118, 119, 120, 121, 122, 123, 124, 125, 126, 127, 128, 129, 130, 131] (by decide +kernel) (by decide +kernel)
set_option maxRecDepth 20000 in
theorem gX6_predictRegion_X6_blend : GoodIn wsX6_predictRegion (wsV RX6 102 RX6 yX6_blend wsX6_blend) := goodIn_app (goodIn_of _ (by decide +kernel)) ggX6_predictRegion_X6_blend
theorem ggX6_predictRegion_X6_predictLuma : GoodIn wsX6_predictRegion wsX6_predictLuma := goodIn_r _ [18, 19, 20, 21, 22, 17, 23, 24, 2, 25, 26, 27, 28, 29, 30, 31, 32, 33, 34, 35, 36, 37, 38, 118, 119, 120, 121, 122, 123, 124, 125, 126, 127, 128, 129, 130, 131, 100, 101, 102, 103, 104, 105, 106, 107, 108, 109, 110, 111, 112, 113, 114, 115, 116, 117] (by decide +kernel) (by decide +kernel)
set_option maxRecDepth 20000 in
theorem gX6_predictRegion_X6_predictLuma : GoodIn wsX6_predictRegion (wsV RX6 91 RX6 yX6_predictLuma wsX6_predictLuma) := goodIn_app (goodIn_of _ (by decide +kernel)) ggX6_predictRegion_X6_predictLuma
set_option maxRecDepth 20000 in
theorem ggX6_predictRegion_X6_predictColours : GoodIn wsX6_predictRegion wsX6_predictColours := goodIn_r _ [42, 2, 25, 24, 100, 101, 102, 103, 104, 105, 106, 107, 108, 109, 110, 111, 112, 113, 114, 115, 116, 117] (by decide +kernel) (by decide +kernel)
set_option maxRecDepth 20000 in
theorem gX6_predictRegion_X6_predictColours : GoodIn wsX6_predictRegion (wsV RX6 95 RX6 yX6_predictColours wsX6_predictColours) := goodIn_app (goodIn_of _ (by decide +kernel)) ggX6_predictRegion_X6_predictColours
set_option maxRecDepth 20000 in
theorem dX6_predictRegion_0 : decode cX6_predictRegion 0 = .ok (.iload_n 3, 1) := by decide +kernel
theorem dX6_predictRegion_1 : decode cX6_predictRegion 1 = .ok (.invokestatic 76, 3) := by decide +kernel
theorem dX6_predictRegion_4 : decode cX6_predictRegion 4 = .ok (.istore 6, 2) := by decide +kernel
theorem dX6_predictRegion_6 : decode cX6_predictRegion 6 = .ok (.iload_n 3, 1) := by decide +kernel
theorem dX6_predictRegion_7 : decode cX6_predictRegion 7 = .ok (.invokestatic 80, 3) := by decide +kernel
theorem dX6_predictRegion_10 : decode cX6_predictRegion 10 = .ok (.istore 7, 2) := by decide +kernel
theorem dX6_predictRegion_12 : decode cX6_predictRegion 12 = .ok (.bipush 16, 2) := by decide +kernel
theorem dX6_predictRegion_14 : decode cX6_predictRegion 14 = .ok (.iload_n 2, 1) := by decide +kernel
theorem dX6_predictRegion_15 : decode cX6_predictRegion 15 = .ok (.aload_n 1, 1) := by decide +kernel
theorem dX6_predictRegion_16 : decode cX6_predictRegion 16 = .ok (.getfield 46, 3) := by decide +kernel
theorem dX6_predictRegion_19 : decode cX6_predictRegion 19 = .ok (.getfield 83, 3) := by decide +kernel
theorem dX6_predictRegion_22 : decode cX6_predictRegion 22 = .ok (.irem, 1) := by decide +kernel
theorem dX6_predictRegion_23 : decode cX6_predictRegion 23 = .ok (.imul, 1) := by decide +kernel
theorem dX6_predictRegion_24 : decode cX6_predictRegion 24 = .ok (.iload 6, 2) := by decide +kernel
theorem dX6_predictRegion_26 : decode cX6_predictRegion 26 = .ok (.iadd, 1) := by decide +kernel
theorem dX6_predictRegion_27 : decode cX6_predictRegion 27 = .ok (.istore 8, 2) := by decide +kernel
theorem dX6_predictRegion_29 : decode cX6_predictRegion 29 = .ok (.bipush 16, 2) := by decide +kernel
theorem dX6_predictRegion_31 : decode cX6_predictRegion 31 = .ok (.iload_n 2, 1) := by decide +kernel
theorem dX6_predictRegion_32 : decode cX6_predictRegion 32 = .ok (.aload_n 1, 1) := by decide +kernel
theorem dX6_predictRegion_33 : decode cX6_predictRegion 33 = .ok (.getfield 46, 3) := by decide +kernel
theorem dX6_predictRegion_36 : decode cX6_predictRegion 36 = .ok (.getfield 83, 3) := by decide +kernel
theorem dX6_predictRegion_39 : decode cX6_predictRegion 39 = .ok (.idiv, 1) := by decide +kernel
theorem dX6_predictRegion_40 : decode cX6_predictRegion 40 = .ok (.imul, 1) := by decide +kernel
theorem dX6_predictRegion_41 : decode cX6_predictRegion 41 = .ok (.iload 7, 2) := by decide +kernel
theorem dX6_predictRegion_43 : decode cX6_predictRegion 43 = .ok (.iadd, 1) := by decide +kernel
theorem dX6_predictRegion_44 : decode cX6_predictRegion 44 = .ok (.istore 9, 2) := by decide +kernel
theorem dX6_predictRegion_46 : decode cX6_predictRegion 46 = .ok (.bipush 16, 2) := by decide +kernel
theorem dX6_predictRegion_48 : decode cX6_predictRegion 48 = .ok (.iload 7, 2) := by decide +kernel
theorem dX6_predictRegion_50 : decode cX6_predictRegion 50 = .ok (.imul, 1) := by decide +kernel
theorem dX6_predictRegion_51 : decode cX6_predictRegion 51 = .ok (.iload 6, 2) := by decide +kernel
theorem dX6_predictRegion_53 : decode cX6_predictRegion 53 = .ok (.iadd, 1) := by decide +kernel
theorem dX6_predictRegion_54 : decode cX6_predictRegion 54 = .ok (.istore 10, 2) := by decide +kernel
theorem dX6_predictRegion_56 : decode cX6_predictRegion 56 = .ok (.sipush 256, 3) := by decide +kernel
theorem dX6_predictRegion_59 : decode cX6_predictRegion 59 = .ok (.iconst 4, 1) := by decide +kernel
theorem dX6_predictRegion_60 : decode cX6_predictRegion 60 = .ok (.iload 7, 2) := by decide +kernel
theorem dX6_predictRegion_62 : decode cX6_predictRegion 62 = .ok (.imul, 1) := by decide +kernel
theorem dX6_predictRegion_63 : decode cX6_predictRegion 63 = .ok (.iadd, 1) := by decide +kernel
theorem dX6_predictRegion_64 : decode cX6_predictRegion 64 = .ok (.iload 6, 2) := by decide +kernel
theorem dX6_predictRegion_66 : decode cX6_predictRegion 66 = .ok (.iconst 2, 1) := by decide +kernel
theorem dX6_predictRegion_67 : decode cX6_predictRegion 67 = .ok (.idiv, 1) := by decide +kernel
theorem dX6_predictRegion_68 : decode cX6_predictRegion 68 = .ok (.iadd, 1) := by decide +kernel
theorem dX6_predictRegion_69 : decode cX6_predictRegion 69 = .ok (.istore 11, 2) := by decide +kernel
theorem dX6_predictRegion_71 : decode cX6_predictRegion 71 = .ok (.iconst 0, 1) := by decide +kernel
theorem dX6_predictRegion_72 : decode cX6_predictRegion 72 = .ok (.istore 12, 2) := by decide +kernel
theorem dX6_predictRegion_74 : decode cX6_predictRegion 74 = .ok (.iload 12, 2) := by decide +kernel
theorem dX6_predictRegion_76 : decode cX6_predictRegion 76 = .ok (.iconst 2, 1) := by decide +kernel
theorem dX6_predictRegion_77 : decode cX6_predictRegion 77 = .ok (.if_icmp .ge 162, 3) := by decide +kernel
theorem dX6_predictRegion_80 : decode cX6_predictRegion 80 = .ok (.aload_n 0, 1) := by decide +kernel
theorem dX6_predictRegion_81 : decode cX6_predictRegion 81 = .ok (.getfield 27, 3) := by decide +kernel
theorem dX6_predictRegion_84 : decode cX6_predictRegion 84 = .ok (.iconst 3, 1) := by decide +kernel
theorem dX6_predictRegion_85 : decode cX6_predictRegion 85 = .ok (.iload 12, 2) := by decide +kernel
theorem dX6_predictRegion_87 : decode cX6_predictRegion 87 = .ok (.imul, 1) := by decide +kernel
theorem dX6_predictRegion_88 : decode cX6_predictRegion 88 = .ok (.iaload, 1) := by decide +kernel
theorem dX6_predictRegion_89 : decode cX6_predictRegion 89 = .ok (.istore 13, 2) := by decide +kernel
theorem dX6_predictRegion_91 : decode cX6_predictRegion 91 = .ok (.iload 13, 2) := by decide +kernel
theorem dX6_predictRegion_93 : decode cX6_predictRegion 93 = .ok (.ifCond .lt 10, 3) := by decide +kernel
theorem dX6_predictRegion_96 : decode cX6_predictRegion 96 = .ok (.iload 13, 2) := by decide +kernel
theorem dX6_predictRegion_98 : decode cX6_predictRegion 98 = .ok (.bipush 8, 2) := by decide +kernel
theorem dX6_predictRegion_100 : decode cX6_predictRegion 100 = .ok (.if_icmp .le 7, 3) := by decide +kernel
theorem dX6_predictRegion_103 : decode cX6_predictRegion 103 = .ok (.aconst_null, 1) := by decide +kernel
theorem dX6_predictRegion_104 : decode cX6_predictRegion 104 = .ok (.goto 16, 3) := by decide +kernel
theorem dX6_predictRegion_107 : decode cX6_predictRegion 107 = .ok (.aload_n 1, 1) := by decide +kernel
theorem dX6_predictRegion_108 : decode cX6_predictRegion 108 = .ok (.getfield 87, 3) := by decide +kernel
theorem dX6_predictRegion_111 : decode cX6_predictRegion 111 = .ok (.bipush 9, 2) := by decide +kernel
theorem dX6_predictRegion_113 : decode cX6_predictRegion 113 = .ok (.iload 12, 2) := by decide +kernel
theorem dX6_predictRegion_115 : decode cX6_predictRegion 115 = .ok (.imul, 1) := by decide +kernel
theorem dX6_predictRegion_116 : decode cX6_predictRegion 116 = .ok (.iload 13, 2) := by decide +kernel
theorem dX6_predictRegion_118 : decode cX6_predictRegion 118 = .ok (.iadd, 1) := by decide +kernel
theorem dX6_predictRegion_119 : decode cX6_predictRegion 119 = .ok (.aaload, 1) := by decide +kernel
theorem dX6_predictRegion_120 : decode cX6_predictRegion 120 = .ok (.astore 14, 2) := by decide +kernel
theorem dX6_predictRegion_122 : decode cX6_predictRegion 122 = .ok (.aload 14, 2) := by decide +kernel
theorem dX6_predictRegion_124 : decode cX6_predictRegion 124 = .ok (.ifnonnull 6, 3) := by decide +kernel
theorem dX6_predictRegion_127 : decode cX6_predictRegion 127 = .ok (.goto 106, 3) := by decide +kernel
theorem dX6_predictRegion_130 : decode cX6_predictRegion 130 = .ok (.iconst 4, 1) := by decide +kernel
theorem dX6_predictRegion_131 : decode cX6_predictRegion 131 = .ok (.iload 8, 2) := by decide +kernel
theorem dX6_predictRegion_133 : decode cX6_predictRegion 133 = .ok (.imul, 1) := by decide +kernel
theorem dX6_predictRegion_134 : decode cX6_predictRegion 134 = .ok (.aload_n 0, 1) := by decide +kernel
theorem dX6_predictRegion_135 : decode cX6_predictRegion 135 = .ok (.getfield 27, 3) := by decide +kernel
theorem dX6_predictRegion_138 : decode cX6_predictRegion 138 = .ok (.iconst 3, 1) := by decide +kernel
theorem dX6_predictRegion_139 : decode cX6_predictRegion 139 = .ok (.iload 12, 2) := by decide +kernel
theorem dX6_predictRegion_141 : decode cX6_predictRegion 141 = .ok (.imul, 1) := by decide +kernel
theorem dX6_predictRegion_142 : decode cX6_predictRegion 142 = .ok (.iconst 1, 1) := by decide +kernel
theorem dX6_predictRegion_143 : decode cX6_predictRegion 143 = .ok (.iadd, 1) := by decide +kernel
theorem dX6_predictRegion_144 : decode cX6_predictRegion 144 = .ok (.iaload, 1) := by decide +kernel
theorem dX6_predictRegion_145 : decode cX6_predictRegion 145 = .ok (.iadd, 1) := by decide +kernel
theorem dX6_predictRegion_146 : decode cX6_predictRegion 146 = .ok (.istore 15, 2) := by decide +kernel
theorem dX6_predictRegion_148 : decode cX6_predictRegion 148 = .ok (.iconst 4, 1) := by decide +kernel
theorem dX6_predictRegion_149 : decode cX6_predictRegion 149 = .ok (.iload 9, 2) := by decide +kernel
theorem dX6_predictRegion_151 : decode cX6_predictRegion 151 = .ok (.imul, 1) := by decide +kernel
theorem dX6_predictRegion_152 : decode cX6_predictRegion 152 = .ok (.aload_n 0, 1) := by decide +kernel
theorem dX6_predictRegion_153 : decode cX6_predictRegion 153 = .ok (.getfield 27, 3) := by decide +kernel
theorem dX6_predictRegion_156 : decode cX6_predictRegion 156 = .ok (.iconst 3, 1) := by decide +kernel
theorem dX6_predictRegion_157 : decode cX6_predictRegion 157 = .ok (.iload 12, 2) := by decide +kernel
theorem dX6_predictRegion_159 : decode cX6_predictRegion 159 = .ok (.imul, 1) := by decide +kernel
theorem dX6_predictRegion_160 : decode cX6_predictRegion 160 = .ok (.iconst 2, 1) := by decide +kernel
theorem dX6_predictRegion_161 : decode cX6_predictRegion 161 = .ok (.iadd, 1) := by decide +kernel
theorem dX6_predictRegion_162 : decode cX6_predictRegion 162 = .ok (.iaload, 1) := by decide +kernel
theorem dX6_predictRegion_163 : decode cX6_predictRegion 163 = .ok (.iadd, 1) := by decide +kernel
theorem dX6_predictRegion_164 : decode cX6_predictRegion 164 = .ok (.istore 16, 2) := by decide +kernel
theorem dX6_predictRegion_166 : decode cX6_predictRegion 166 = .ok (.aload_n 0, 1) := by decide +kernel
theorem dX6_predictRegion_167 : decode cX6_predictRegion 167 = .ok (.aload 14, 2) := by decide +kernel
theorem dX6_predictRegion_169 : decode cX6_predictRegion 169 = .ok (.iload 15, 2) := by decide +kernel
theorem dX6_predictRegion_171 : decode cX6_predictRegion 171 = .ok (.iload 16, 2) := by decide +kernel
theorem dX6_predictRegion_173 : decode cX6_predictRegion 173 = .ok (.iload 4, 2) := by decide +kernel
theorem dX6_predictRegion_175 : decode cX6_predictRegion 175 = .ok (.iload 12, 2) := by decide +kernel
theorem dX6_predictRegion_177 : decode cX6_predictRegion 177 = .ok (.ifCond .ne 10, 3) := by decide +kernel
theorem dX6_predictRegion_180 : decode cX6_predictRegion 180 = .ok (.aload_n 0, 1) := by decide +kernel
theorem dX6_predictRegion_181 : decode cX6_predictRegion 181 = .ok (.getfield 15, 3) := by decide +kernel
theorem dX6_predictRegion_184 : decode cX6_predictRegion 184 = .ok (.goto 7, 3) := by decide +kernel
theorem dX6_predictRegion_187 : decode cX6_predictRegion 187 = .ok (.aload_n 0, 1) := by decide +kernel
theorem dX6_predictRegion_188 : decode cX6_predictRegion 188 = .ok (.getfield 18, 3) := by decide +kernel
theorem dX6_predictRegion_191 : decode cX6_predictRegion 191 = .ok (.iload 10, 2) := by decide +kernel
theorem dX6_predictRegion_193 : decode cX6_predictRegion 193 = .ok (.invokevirtual 91, 3) := by decide +kernel
theorem dX6_predictRegion_196 : decode cX6_predictRegion 196 = .ok (.iload 5, 2) := by decide +kernel
theorem dX6_predictRegion_198 : decode cX6_predictRegion 198 = .ok (.ifCond .eq 35, 3) := by decide +kernel
theorem dX6_predictRegion_201 : decode cX6_predictRegion 201 = .ok (.aload_n 0, 1) := by decide +kernel
theorem dX6_predictRegion_202 : decode cX6_predictRegion 202 = .ok (.aload 14, 2) := by decide +kernel
theorem dX6_predictRegion_204 : decode cX6_predictRegion 204 = .ok (.iload 15, 2) := by decide +kernel
theorem dX6_predictRegion_206 : decode cX6_predictRegion 206 = .ok (.iload 16, 2) := by decide +kernel
theorem dX6_predictRegion_208 : decode cX6_predictRegion 208 = .ok (.iload 4, 2) := by decide +kernel
theorem dX6_predictRegion_210 : decode cX6_predictRegion 210 = .ok (.iconst 2, 1) := by decide +kernel
theorem dX6_predictRegion_211 : decode cX6_predictRegion 211 = .ok (.idiv, 1) := by decide +kernel
theorem dX6_predictRegion_212 : decode cX6_predictRegion 212 = .ok (.iload 12, 2) := by decide +kernel
theorem dX6_predictRegion_214 : decode cX6_predictRegion 214 = .ok (.ifCond .ne 10, 3) := by decide +kernel
theorem dX6_predictRegion_217 : decode cX6_predictRegion 217 = .ok (.aload_n 0, 1) := by decide +kernel
theorem dX6_predictRegion_218 : decode cX6_predictRegion 218 = .ok (.getfield 15, 3) := by decide +kernel
theorem dX6_predictRegion_221 : decode cX6_predictRegion 221 = .ok (.goto 7, 3) := by decide +kernel
theorem dX6_predictRegion_224 : decode cX6_predictRegion 224 = .ok (.aload_n 0, 1) := by decide +kernel
theorem dX6_predictRegion_225 : decode cX6_predictRegion 225 = .ok (.getfield 18, 3) := by decide +kernel
theorem dX6_predictRegion_228 : decode cX6_predictRegion 228 = .ok (.iload 11, 2) := by decide +kernel
theorem dX6_predictRegion_230 : decode cX6_predictRegion 230 = .ok (.invokevirtual 95, 3) := by decide +kernel
theorem dX6_predictRegion_233 : decode cX6_predictRegion 233 = .ok (.iinc 12 1, 3) := by decide +kernel
theorem dX6_predictRegion_236 : decode cX6_predictRegion 236 = .ok (.goto (-162), 3) := by decide +kernel
theorem dX6_predictRegion_239 : decode cX6_predictRegion 239 = .ok (.iconst 0, 1) := by decide +kernel
theorem dX6_predictRegion_240 : decode cX6_predictRegion 240 = .ok (.istore 12, 2) := by decide +kernel
theorem dX6_predictRegion_242 : decode cX6_predictRegion 242 = .ok (.iload 12, 2) := by decide +kernel
theorem dX6_predictRegion_244 : decode cX6_predictRegion 244 = .ok (.iload 5, 2) := by decide +kernel
theorem dX6_predictRegion_246 : decode cX6_predictRegion 246 = .ok (.ifCond .eq 7, 3) := by decide +kernel
theorem dX6_predictRegion_249 : decode cX6_predictRegion 249 = .ok (.iconst 3, 1) := by decide +kernel
theorem dX6_predictRegion_250 : decode cX6_predictRegion 250 = .ok (.goto 4, 3) := by decide +kernel
theorem dX6_predictRegion_253 : decode cX6_predictRegion 253 = .ok (.iconst 1, 1) := by decide +kernel
theorem dX6_predictRegion_254 : decode cX6_predictRegion 254 = .ok (.if_icmp .ge 60, 3) := by decide +kernel
theorem dX6_predictRegion_257 : decode cX6_predictRegion 257 = .ok (.aload_n 0, 1) := by decide +kernel
theorem dX6_predictRegion_258 : decode cX6_predictRegion 258 = .ok (.aload_n 1, 1) := by decide +kernel
theorem dX6_predictRegion_259 : decode cX6_predictRegion 259 = .ok (.iload 12, 2) := by decide +kernel
theorem dX6_predictRegion_261 : decode cX6_predictRegion 261 = .ok (.invokevirtual 98, 3) := by decide +kernel
theorem dX6_predictRegion_264 : decode cX6_predictRegion 264 = .ok (.istore 13, 2) := by decide +kernel
theorem dX6_predictRegion_266 : decode cX6_predictRegion 266 = .ok (.iload 12, 2) := by decide +kernel
theorem dX6_predictRegion_268 : decode cX6_predictRegion 268 = .ok (.ifCond .ne 18, 3) := by decide +kernel
theorem dX6_predictRegion_271 : decode cX6_predictRegion 271 = .ok (.aload_n 0, 1) := by decide +kernel
theorem dX6_predictRegion_272 : decode cX6_predictRegion 272 = .ok (.iload 13, 2) := by decide +kernel
theorem dX6_predictRegion_274 : decode cX6_predictRegion 274 = .ok (.iload 10, 2) := by decide +kernel
theorem dX6_predictRegion_276 : decode cX6_predictRegion 276 = .ok (.bipush 16, 2) := by decide +kernel
theorem dX6_predictRegion_278 : decode cX6_predictRegion 278 = .ok (.iload 4, 2) := by decide +kernel
theorem dX6_predictRegion_280 : decode cX6_predictRegion 280 = .ok (.invokevirtual 102, 3) := by decide +kernel
theorem dX6_predictRegion_283 : decode cX6_predictRegion 283 = .ok (.goto 25, 3) := by decide +kernel
theorem dX6_predictRegion_286 : decode cX6_predictRegion 286 = .ok (.aload_n 0, 1) := by decide +kernel
theorem dX6_predictRegion_287 : decode cX6_predictRegion 287 = .ok (.iload 13, 2) := by decide +kernel
theorem dX6_predictRegion_289 : decode cX6_predictRegion 289 = .ok (.iload 11, 2) := by decide +kernel
theorem dX6_predictRegion_291 : decode cX6_predictRegion 291 = .ok (.bipush 64, 2) := by decide +kernel
theorem dX6_predictRegion_293 : decode cX6_predictRegion 293 = .ok (.iload 12, 2) := by decide +kernel
theorem dX6_predictRegion_295 : decode cX6_predictRegion 295 = .ok (.iconst 1, 1) := by decide +kernel
theorem dX6_predictRegion_296 : decode cX6_predictRegion 296 = .ok (.isub, 1) := by decide +kernel
theorem dX6_predictRegion_297 : decode cX6_predictRegion 297 = .ok (.imul, 1) := by decide +kernel
theorem dX6_predictRegion_298 : decode cX6_predictRegion 298 = .ok (.iadd, 1) := by decide +kernel
theorem dX6_predictRegion_299 : decode cX6_predictRegion 299 = .ok (.bipush 8, 2) := by decide +kernel
theorem dX6_predictRegion_301 : decode cX6_predictRegion 301 = .ok (.iload 4, 2) := by decide +kernel
theorem dX6_predictRegion_303 : decode cX6_predictRegion 303 = .ok (.iconst 2, 1) := by decide +kernel
theorem dX6_predictRegion_304 : decode cX6_predictRegion 304 = .ok (.idiv, 1) := by decide +kernel
theorem dX6_predictRegion_305 : decode cX6_predictRegion 305 = .ok (.invokevirtual 102, 3) := by decide +kernel
theorem dX6_predictRegion_308 : decode cX6_predictRegion 308 = .ok (.iinc 12 1, 3) := by decide +kernel
theorem dX6_predictRegion_311 : decode cX6_predictRegion 311 = .ok (.goto (-69), 3) := by decide +kernel
theorem dX6_predictRegion_314 : decode cX6_predictRegion 314 = .ok (.return_, 1) := by decide +kernel
def FX6_predictRegion (G : GG) (M : DD) (a : Nat) (p0 : Option Nat) (p1 : Int32) (p2 : Int32) (p3 : Int32) (p4 : Int32) : Option (DD) :=
  bnd (FX9_pieceX G M p2) fun y1 =>
  bnd (FX9_pieceY G y1.1 p2) fun y2 =>
  dr G 9 p0 fun b3 =>
  dr G 4 ((y2.1.2 b3 0)) fun b4 =>
  ltt (y2.1.1 b4 1) fun x5 =>
  chk (¬ x5 = 0) <|
  ltt (p1 - p1 / x5 * x5) fun x6 =>
  ltt ((((16 : Int32)) * x6)) fun x7 =>
  ltt ((x7 + y1.2)) fun x8 =>
  ltt (y2.1.1 b4 1) fun x9 =>
  chk (¬ x9 = 0) <|
  ltt (p1 / x9) fun x10 =>
  ltt ((((16 : Int32)) * x10)) fun x11 =>
  ltt ((x11 + y2.2)) fun x12 =>
  ltt ((((16 : Int32)) * y2.2)) fun x13 =>
  ltt ((x13 + y1.2)) fun x14 =>
  ltt ((((4 : Int32)) * y2.2)) fun x15 =>
  ltt ((((256 : Int32)) + x15)) fun x16 =>
  ltt (y1.2 / ((2 : Int32))) fun x17 =>
  ltt ((x16 + x17)) fun x18 =>
  bnd (itr (fun (s20 : Int32 × DD) => ((if ((2 : Int32)) ≤ s20.1 then (some (.inr (s20.1, s20.2))) else
  (ltt ((((3 : Int32)) * s20.1)) fun x41 =>
  dr G 13 ((s20.2.2 a 5)) fun b42 =>
  chk (¬ (x41 < 0 ∨ G.2.2 b42 ≤ x41.toNatClampNeg)) <|
  ltt (s20.2.1 b42 x41.toNatClampNeg) fun x43 =>
  bnd (if x43 < ((0 : Int32)) then (some (none)) else
  (bnd (if x43 ≤ ((8 : Int32)) then (ltt ((((9 : Int32)) * s20.1)) fun x70 =>
  ltt ((x70 + x43)) fun x71 =>
  dr G 14 ((s20.2.2 b3 3)) fun b72 =>
  chk (¬ (x71 < 0 ∨ G.2.2 b72 ≤ x71.toNatClampNeg)) <|
  some ((s20.2.2 b72 x71.toNatClampNeg))) else
  (some (none))) fun (y68 : Option Nat) =>
  some (y68))) fun (y44 : Option Nat) =>
  bnd (if y44 = none then (some (s20.2)) else
  (ltt ((((4 : Int32)) * x8)) fun x48 =>
  ltt ((((3 : Int32)) * s20.1)) fun x49 =>
  ltt ((x49 + ((1 : Int32)))) fun x50 =>
  chk (¬ (x50 < 0 ∨ G.2.2 b42 ≤ x50.toNatClampNeg)) <|
  ltt (s20.2.1 b42 x50.toNatClampNeg) fun x51 =>
  ltt ((x48 + x51)) fun x52 =>
  ltt ((((4 : Int32)) * x12)) fun x53 =>
  ltt ((((3 : Int32)) * s20.1)) fun x54 =>
  ltt ((x54 + ((2 : Int32)))) fun x55 =>
  chk (¬ (x55 < 0 ∨ G.2.2 b42 ≤ x55.toNatClampNeg)) <|
  ltt (s20.2.1 b42 x55.toNatClampNeg) fun x56 =>
  ltt ((x53 + x56)) fun x57 =>
  bnd (if s20.1 = ((0 : Int32)) then (some ((s20.2.2 a 1))) else
  (some ((s20.2.2 a 2)))) fun (y58 : Option Nat) =>
  bnd (FX6_predictLuma G s20.2 a y44 x52 x57 p3 y58 x14) fun y59 =>
  bnd (if p4 = ((0 : Int32)) then (some (y59)) else
  (ltt (p3 / ((2 : Int32))) fun x62 =>
  bnd (if s20.1 = ((0 : Int32)) then (some ((y59.2 a 1))) else
  (some ((y59.2 a 2)))) fun (y63 : Option Nat) =>
  bnd (FX6_predictColours G y59 a y44 x52 x57 x62 y63 x18) fun y64 =>
  some (y64))) fun (y60 : DD) =>
  some (y60))) fun (y45 : DD) =>
  ltt (s20.1 + (1 : Int32)) fun x46 =>
  some (.inl (x46, y45)))) : Option ((Int32 × DD) ⊕ (Int32 × DD)))) 1000000 ((0 : Int32), y2.1)) fun (y19 : Int32 × DD) =>
  bnd (itr (fun (s23 : Int32 × DD) => ((bnd (if p4 = ((0 : Int32)) then (some ((1 : Int32))) else
  (some ((3 : Int32)))) fun (y26 : Int32) =>
  if y26 ≤ s23.1 then (some (.inr (s23.1, s23.2))) else
  (bnd (FX6_chooseWeights G s23.2 a p0 s23.1) fun y28 =>
  bnd (if s23.1 = ((0 : Int32)) then (bnd (FX6_blend G y28.1 a y28.2 x14 ((16 : Int32)) p3) fun y37 =>
  some (y37)) else
  (ltt ((s23.1 - ((1 : Int32)))) fun x32 =>
  ltt ((((64 : Int32)) * x32)) fun x33 =>
  ltt ((x18 + x33)) fun x34 =>
  ltt (p3 / ((2 : Int32))) fun x35 =>
  bnd (FX6_blend G y28.1 a y28.2 x34 ((8 : Int32)) x35) fun y36 =>
  some (y36))) fun (y29 : DD) =>
  ltt (s23.1 + (1 : Int32)) fun x30 =>
  some (.inl (x30, y29)))) : Option ((Int32 × DD) ⊕ (Int32 × DD)))) 1000000 ((0 : Int32), y19.2)) fun (y22 : Int32 × DD) =>
  some y22.2
set_option maxHeartbeats 4000000 in
set_option maxRecDepth 100000 in
theorem kX6_predictRegion (l : Launch) (D : va_G) (ct : CT) (ad : Nat → Nat) (Z : Nat → Nat) (G : GG) (M : DD) (sz : Nat) (a : Nat) (p0 : Option Nat) (p1 : Int32) (p2 : Int32) (p3 : Int32) (p4 : Int32) (y : DD) (hc : a < G.1) (hk : G.2.1 a = 6) (hF : FX6_predictRegion G M a p0 p1 p2 p3 p4 = some y) : Met l yX6_predictRegion wsX6_predictRegion ({ frames := 3, cells := 0, slots := 0, locals := 77 }) (va_Pc [.ref (ad a), va_re ad p0, .int p1, .int p2, .int p3, .int p4] (kB D ct ad Z G M sz)) (va_Qv (fun (_ : Unit) => True) (fun _ t => kE D ct ad G (wA ad G sz) y t) (wA ad G sz)) 0 0 (wA ad G sz) := by
  refine Met.ofW (cc := cX6_predictRegion) (maxL := 17) (ret := none) (by decide) rfl ?_
  intro p e s m args below meth c s₁ B hml hv
  obtain ⟨rfl, hsz, hP, hK, hD0, hZ, hN⟩ := hv
  have hx := B.exec
  have hb := B.bytes
  have hr := B.returns
  have hts := atoms_spec (ws := wsX6_predictRegion) B.pre
  have hown : s.vm.findClass RX6 = some m.cls := findClass_of_methodNamed B.named
  have hlocks := B.notSynchronized
  subst hsz
  have hD := wD_self (sz := s.heap.size) hD0
  have hA9 : ∀ q, s.heap.size ≤ q → wA ad G s.heap.size q := fun q h => Or.inr h
  generalize hAe : wA ad G s.heap.size = A at hD hA9 hZ ⊢
  have hS : va_S A s.heap s.heap [] := va_S.rf
  have hl := lv_entry ([.ref (ad a), va_re ad p0, .int p1, .int p2, .int p3, .int p4]) (n := 17) (by cases p0 <;> exact Nat.le_of_ble_eq_true rfl)
  rw [lg_entry_eq]
  generalize (lg_sl ([.ref (ad a), va_re ad p0, .int p1, .int p2, .int p3, .int p4]) ++ List.replicate (17 - (lg_sl ([.ref (ad a), va_re ad p0, .int p1, .int p2, .int p3, .int p4])).length) Slot.unset).toArray = ls at hl ⊢
  have hl : lv_has ls 17 [(0, .ref (ad a)), (1, va_re ad p0), (2, .int p1), (3, .int p2), (4, .int p3), (5, .int p4)] := by have e9 : lv_args 0 [.ref (ad a), va_re ad p0, .int p1, .int p2, .int p3, .int p4] = [(0, .ref (ad a)), (1, va_re ad p0), (2, .int p1), (3, .int p2), (4, .int p3), (5, .int p4)] := (by cases p0 <;> rfl); rw [e9] at hl; exact hl
  unfold FX6_predictRegion at hF
  refine lv_iload_n hx hb dX6_predictRegion_0 rfl (lv_at hl 3 rfl) ?_
  obtain ⟨y1, hy1, hF⟩ := bnd_some hF
  have hf9 := wA_in hD hA9 hS
  refine va_calli (va_runS (As := [.int p2]) (rest := []) ⟨hx, hb, hml, hown, hts⟩ (kX9_pieceX l D ct ad Z G M s.heap.size p2 y1 hy1) (va_cwS 1 hts gX6_predictRegion_X9_pieceX rfl rfl rfl (by decide +kernel) ⟨Nat.le_of_ble_eq_true rfl, Nat.le_of_ble_eq_true rfl⟩) ⟨fun a U g mk q => by obtain ⟨q0, q1, qP, qK, qD, qZ, qN⟩ := q; exact ⟨q0, q1, qP, va_K.moved (u := U) (U := U.calling g mk a) (Vm.Alike.refl U.vm) qK, qD, sF.moved (u := U) (U := U.calling g mk a) (Vm.Alike.refl U.vm) qZ, nF.same rfl qN⟩, fun U hU hW => ⟨rfl, by rw [hU], by rw [hU]; exact hP, va_K.moved hW.alike hK, hD.weaken (fun _ _ _ _ => trivial), by rw [hU]; exact ((hZ.kept hS.2.1).narrow hf9).moved hW.alike, hN.warm hW⟩⟩ rfl rfl hl.1 rfl (lv_room (Nat.le_of_ble_eq_true rfl)) dX6_predictRegion_1 ⟨(Nat.zero_le _), (Nat.zero_le _)⟩) hS (fun q _ h => hf9 q h) hf9 (fun r u t H locs ht hvm hw hB hz1 hk1 hS => ?_)
  obtain ⟨hP, hK9, hD9⟩ := hB
  rw [ht] at hP
  try dsimp only at hw
  subst hw
  have hD := hD9.weaken (fun _ q _ h => hf9 q.1 h)
  refine lv_istore (lv' := [(6, .int y1.2), (0, .ref (ad a)), (1, va_re ad p0), (2, .int p1), (3, .int p2), (4, .int p3), (5, .int p4)]) hx hb dX6_predictRegion_4 hl (by decide) rfl (fun ls hl => ?_)
  refine lv_iload_n hx hb dX6_predictRegion_6 rfl (lv_at hl 4 rfl) ?_
  obtain ⟨y2, hy2, hF⟩ := bnd_some hF
  have hf9 := wA_in hD hA9 hS
  refine va_calli (va_runS (As := [.int p2]) (rest := []) ⟨hx, hb, hml, hown, hts⟩ (kX9_pieceY l D ct ad Z G y1.1 H.size p2 y2 hy2) (va_cwS 1 hts gX6_predictRegion_X9_pieceY rfl rfl rfl (by decide +kernel) ⟨Nat.le_of_ble_eq_true rfl, Nat.le_of_ble_eq_true rfl⟩) ⟨fun a U g mk q => by obtain ⟨q0, q1, qP, qK, qD, qZ, qN⟩ := q; exact ⟨q0, q1, qP, va_K.moved (u := U) (U := U.calling g mk a) (Vm.Alike.refl U.vm) qK, qD, sF.moved (u := U) (U := U.calling g mk a) (Vm.Alike.refl U.vm) qZ, nF.same rfl qN⟩, fun U hU hW => ⟨rfl, by rw [hU], by rw [hU]; exact hP, va_K.moved hW.alike hK, hD.weaken (fun _ _ _ _ => trivial), by rw [hU]; exact ((hZ.kept hS.2.1).narrow hf9).moved hW.alike, hN.warm hW⟩⟩ rfl rfl hl.1 rfl (lv_room (Nat.le_of_ble_eq_true rfl)) dX6_predictRegion_7 ⟨(Nat.zero_le _), (Nat.zero_le _)⟩) hS (fun q _ h => hf9 q h) hf9 (fun r u t H locs ht hvm hw hB hz1 hk1 hS => ?_)
  obtain ⟨hP, hK9, hD9⟩ := hB
  rw [ht] at hP
  try dsimp only at hw
  subst hw
  have hD := hD9.weaken (fun _ q _ h => hf9 q.1 h)
  refine lv_istore (lv' := [(7, .int y2.2), (6, .int y1.2), (0, .ref (ad a)), (1, va_re ad p0), (2, .int p1), (3, .int p2), (4, .int p3), (5, .int p4)]) hx hb dX6_predictRegion_10 hl (by decide) rfl (fun ls hl => ?_)
  refine lv_bipush (v := (16 : Int32)) hx hb dX6_predictRegion_12 (by decide) ?_
  refine lv_iload_n hx hb dX6_predictRegion_14 rfl (lv_at hl 4 rfl) ?_
  refine lv_aloadq_n hx hb dX6_predictRegion_15 rfl (lv_at hl 3 rfl) ?_
  obtain ⟨b3, ho3, hc3, hk3, hF⟩ := dr_some hF
  refine W_st (st' := [.ref (ad b3), .int p1, .int (16 : Int32)]) (by rw [va_some ho3]) ?_
  refine va_get (D := D) (ci := 9) (v := va_re ad (y2.1.2 b3 0)) (C := RX9) (T := TX9) (N := 20) hx hb hts (by decide +kernel) hown hK hP b3 (wld_o ct ad G y2.1 hc3 hk3 (by decide)) rfl 0 (by decide) (hts (.fieldLink RX6 46 "VideoSuite$Work" "pic" "LVideoSuite$Picture;") (by decide +kernel)) (fun _ h9 => h9) rfl dX6_predictRegion_16 ?_
  obtain ⟨b4, ho4, hc4, hk4, hF⟩ := dr_some hF
  refine W_st (st' := [.ref (ad b4), .int p1, .int (16 : Int32)]) (by rw [va_some ho4]) ?_
  refine va_get (D := D) (ci := 4) (v := .int (y2.1.1 b4 1)) (C := RX4) (T := TX4) (N := 18) hx hb hts (by decide +kernel) hown hK hP b4 (wld_o ct ad G y2.1 hc4 hk4 (by decide)) rfl 1 (by decide) (hts (.fieldLink RX6 83 "VideoSuite$Picture" "width" "I") (by decide +kernel)) (fun _ h9 => h9) rfl dX6_predictRegion_19 ?_
  obtain ⟨x5, ex5, hF⟩ := ltt_some hF
  refine lv_topi (fun zx5 ezx5 => ?_)
  obtain rfl : x5 = zx5 := ex5.trans ezx5.symm
  obtain ⟨hne, hF⟩ := chk_some hF
  refine lv_irem hx hb dX6_predictRegion_22 hne ?_
  obtain ⟨x6, ex6, hF⟩ := ltt_some hF
  refine lv_topi (fun zx6 ezx6 => ?_)
  obtain rfl : x6 = zx6 := ex6.trans ezx6.symm
  refine lv_imul hx hb dX6_predictRegion_23 ?_
  obtain ⟨x7, ex7, hF⟩ := ltt_some hF
  refine lv_topi (fun zx7 ezx7 => ?_)
  obtain rfl : x7 = zx7 := ex7.trans ezx7.symm
  refine lv_iload hx hb dX6_predictRegion_24 (lv_at hl 1 rfl) ?_
  refine lv_iadd hx hb dX6_predictRegion_26 ?_
  obtain ⟨x8, ex8, hF⟩ := ltt_some hF
  refine lv_topi (fun zx8 ezx8 => ?_)
  obtain rfl : x8 = zx8 := ex8.trans ezx8.symm
  refine lv_istore (lv' := [(8, .int x8), (7, .int y2.2), (6, .int y1.2), (0, .ref (ad a)), (1, va_re ad p0), (2, .int p1), (3, .int p2), (4, .int p3), (5, .int p4)]) hx hb dX6_predictRegion_27 hl (by decide) rfl (fun ls hl => ?_)
  refine lv_bipush (v := (16 : Int32)) hx hb dX6_predictRegion_29 (by decide) ?_
  refine lv_iload_n hx hb dX6_predictRegion_31 rfl (lv_at hl 5 rfl) ?_
  refine lv_aloadq_n hx hb dX6_predictRegion_32 rfl (lv_at hl 4 rfl) ?_
  refine W_st (st' := [.ref (ad b3), .int p1, .int (16 : Int32)]) (by rw [va_some ho3]) ?_
  refine va_get (D := D) (ci := 9) (v := va_re ad (y2.1.2 b3 0)) (C := RX9) (T := TX9) (N := 20) hx hb hts (by decide +kernel) hown hK hP b3 (wld_o ct ad G y2.1 hc3 hk3 (by decide)) rfl 0 (by decide) (hts (.fieldLink RX6 46 "VideoSuite$Work" "pic" "LVideoSuite$Picture;") (by decide +kernel)) (fun _ h9 => h9) rfl dX6_predictRegion_33 ?_
  refine W_st (st' := [.ref (ad b4), .int p1, .int (16 : Int32)]) (by rw [va_some ho4]) ?_
  refine va_get (D := D) (ci := 4) (v := .int (y2.1.1 b4 1)) (C := RX4) (T := TX4) (N := 18) hx hb hts (by decide +kernel) hown hK hP b4 (wld_o ct ad G y2.1 hc4 hk4 (by decide)) rfl 1 (by decide) (hts (.fieldLink RX6 83 "VideoSuite$Picture" "width" "I") (by decide +kernel)) (fun _ h9 => h9) rfl dX6_predictRegion_36 ?_
  obtain ⟨x9, ex9, hF⟩ := ltt_some hF
  refine lv_topi (fun zx9 ezx9 => ?_)
  obtain rfl : x9 = zx9 := ex9.trans ezx9.symm
  obtain ⟨hne, hF⟩ := chk_some hF
  refine lv_idiv hx hb dX6_predictRegion_39 hne ?_
  obtain ⟨x10, ex10, hF⟩ := ltt_some hF
  refine lv_topi (fun zx10 ezx10 => ?_)
  obtain rfl : x10 = zx10 := ex10.trans ezx10.symm
  refine lv_imul hx hb dX6_predictRegion_40 ?_
  obtain ⟨x11, ex11, hF⟩ := ltt_some hF
  refine lv_topi (fun zx11 ezx11 => ?_)
  obtain rfl : x11 = zx11 := ex11.trans ezx11.symm
  refine lv_iload hx hb dX6_predictRegion_41 (lv_at hl 1 rfl) ?_
  refine lv_iadd hx hb dX6_predictRegion_43 ?_
  obtain ⟨x12, ex12, hF⟩ := ltt_some hF
  refine lv_topi (fun zx12 ezx12 => ?_)
  obtain rfl : x12 = zx12 := ex12.trans ezx12.symm
  refine lv_istore (lv' := [(9, .int x12), (8, .int x8), (7, .int y2.2), (6, .int y1.2), (0, .ref (ad a)), (1, va_re ad p0), (2, .int p1), (3, .int p2), (4, .int p3), (5, .int p4)]) hx hb dX6_predictRegion_44 hl (by decide) rfl (fun ls hl => ?_)
  refine lv_bipush (v := (16 : Int32)) hx hb dX6_predictRegion_46 (by decide) ?_
  refine lv_iload hx hb dX6_predictRegion_48 (lv_at hl 2 rfl) ?_
  refine lv_imul hx hb dX6_predictRegion_50 ?_
  obtain ⟨x13, ex13, hF⟩ := ltt_some hF
  refine lv_topi (fun zx13 ezx13 => ?_)
  obtain rfl : x13 = zx13 := ex13.trans ezx13.symm
  refine lv_iload hx hb dX6_predictRegion_51 (lv_at hl 3 rfl) ?_
  refine lv_iadd hx hb dX6_predictRegion_53 ?_
  obtain ⟨x14, ex14, hF⟩ := ltt_some hF
  refine lv_topi (fun zx14 ezx14 => ?_)
  obtain rfl : x14 = zx14 := ex14.trans ezx14.symm
  refine lv_istore (lv' := [(10, .int x14), (9, .int x12), (8, .int x8), (7, .int y2.2), (6, .int y1.2), (0, .ref (ad a)), (1, va_re ad p0), (2, .int p1), (3, .int p2), (4, .int p3), (5, .int p4)]) hx hb dX6_predictRegion_54 hl (by decide) rfl (fun ls hl => ?_)
  refine lv_sipush (v := (256 : Int32)) hx hb dX6_predictRegion_56 (by decide) ?_
  refine lv_iconst (v := (4 : Int32)) hx hb dX6_predictRegion_59 (by decide) ?_
  refine lv_iload hx hb dX6_predictRegion_60 (lv_at hl 3 rfl) ?_
  refine lv_imul hx hb dX6_predictRegion_62 ?_
  obtain ⟨x15, ex15, hF⟩ := ltt_some hF
  refine lv_topi (fun zx15 ezx15 => ?_)
  obtain rfl : x15 = zx15 := ex15.trans ezx15.symm
  refine lv_iadd hx hb dX6_predictRegion_63 ?_
  obtain ⟨x16, ex16, hF⟩ := ltt_some hF
  refine lv_topi (fun zx16 ezx16 => ?_)
  obtain rfl : x16 = zx16 := ex16.trans ezx16.symm
  refine lv_iload hx hb dX6_predictRegion_64 (lv_at hl 4 rfl) ?_
  refine lv_iconst (v := (2 : Int32)) hx hb dX6_predictRegion_66 (by decide) ?_
  refine lv_idiv hx hb dX6_predictRegion_67 (by decide) ?_
  obtain ⟨x17, ex17, hF⟩ := ltt_some hF
  refine lv_topi (fun zx17 ezx17 => ?_)
  obtain rfl : x17 = zx17 := ex17.trans ezx17.symm
  refine lv_iadd hx hb dX6_predictRegion_68 ?_
  obtain ⟨x18, ex18, hF⟩ := ltt_some hF
  refine lv_topi (fun zx18 ezx18 => ?_)
  obtain rfl : x18 = zx18 := ex18.trans ezx18.symm
  refine lv_istore (lv' := [(11, .int x18), (10, .int x14), (9, .int x12), (8, .int x8), (7, .int y2.2), (6, .int y1.2), (0, .ref (ad a)), (1, va_re ad p0), (2, .int p1), (3, .int p2), (4, .int p3), (5, .int p4)]) hx hb dX6_predictRegion_69 hl (by decide) rfl (fun ls hl => ?_)
  refine lv_iconst (v := (0 : Int32)) hx hb dX6_predictRegion_71 (by decide) ?_
  refine lv_istore (lv' := [(12, .int (0 : Int32)), (11, .int x18), (10, .int x14), (9, .int x12), (8, .int x8), (7, .int y2.2), (6, .int y1.2), (0, .ref (ad a)), (1, va_re ad p0), (2, .int p1), (3, .int p2), (4, .int p3), (5, .int p4)]) hx hb dX6_predictRegion_72 hl (by decide) rfl (fun ls hl => ?_)
  obtain ⟨y19, hy19, hF⟩ := bnd_some hF
  have K19 : ∀ (H : Heap) (locs : List Loc) (ls : Array Slot), va_P D classes (wld ct ad G y19.2) H → va_D A (wld ct ad G y19.2) → va_S A s.heap H locs → lv_has ls 17 [(12, .int y19.1), (11, .int x18), (10, .int x14), (9, .int x12), (8, .int x8), (7, .int y2.2), (6, .int y1.2), (0, .ref (ad a)), (1, va_re ad p0), (2, .int p1), (3, .int p2), (4, .int p3), (5, .int p4)] → W p l e (headSpec wsX6_predictRegion ({ frames := 3, cells := 0, slots := 0, locals := 77 })).room s m ([.ref (ad a), va_re ad p0, .int p1, .int p2, .int p3, .int p4] : List Value).toArray below meth c H locs 0 0 (MQ below (va_Qv (fun (_ : Unit) => True) (fun _ t => kE D ct ad G A y t) A) ([.ref (ad a), va_re ad p0, .int p1, .int p2, .int p3, .int p4] : List Value).toArray s 0 0 A) (F0 m 239 ls []) := by
    intro H locs ls hP hD hS hl
    refine lv_iconst (v := (0 : Int32)) hx hb dX6_predictRegion_239 (by decide) ?_
    refine lv_istore (lv' := [(12, .int (0 : Int32)), (11, .int x18), (10, .int x14), (9, .int x12), (8, .int x8), (7, .int y2.2), (6, .int y1.2), (0, .ref (ad a)), (1, va_re ad p0), (2, .int p1), (3, .int p2), (4, .int p3), (5, .int p4)]) hx hb dX6_predictRegion_240 hl (by decide) rfl (fun ls hl => ?_)
    obtain ⟨y22, hy22, hF⟩ := bnd_some hF
    have K22 : ∀ (H : Heap) (locs : List Loc) (ls : Array Slot), va_P D classes (wld ct ad G y22.2) H → va_D A (wld ct ad G y22.2) → va_S A s.heap H locs → lv_has ls 17 [(12, .int y22.1), (11, .int x18), (10, .int x14), (9, .int x12), (8, .int x8), (7, .int y2.2), (6, .int y1.2), (0, .ref (ad a)), (1, va_re ad p0), (2, .int p1), (3, .int p2), (4, .int p3), (5, .int p4)] → W p l e (headSpec wsX6_predictRegion ({ frames := 3, cells := 0, slots := 0, locals := 77 })).room s m ([.ref (ad a), va_re ad p0, .int p1, .int p2, .int p3, .int p4] : List Value).toArray below meth c H locs 0 0 (MQ below (va_Qv (fun (_ : Unit) => True) (fun _ t => kE D ct ad G A y t) A) ([.ref (ad a), va_re ad p0, .int p1, .int p2, .int p3, .int p4] : List Value).toArray s 0 0 A) (F0 m 314 ls []) := by
      intro H locs ls hP hD hS hl
      obtain rfl := Option.some.inj hF
      exact W.vret hx hb hr (fun t ht hW => ⟨⟨(), rfl, trivial, ⟨by rw [ht]; exact hP, va_K.moved hW.alike hK, hD⟩⟩, hS.F ht⟩) hS.2.2 dX6_predictRegion_314
    clear hF
    refine itr_rule (fun (s23 : Int32 × DD) => ∀ (H : Heap) (locs : List Loc) (ls : Array Slot), va_P D classes (wld ct ad G s23.2) H → va_D A (wld ct ad G s23.2) → va_S A s.heap H locs → lv_has ls 17 [(12, .int s23.1), (11, .int x18), (10, .int x14), (9, .int x12), (8, .int x8), (7, .int y2.2), (6, .int y1.2), (0, .ref (ad a)), (1, va_re ad p0), (2, .int p1), (3, .int p2), (4, .int p3), (5, .int p4)] → W p l e (headSpec wsX6_predictRegion ({ frames := 3, cells := 0, slots := 0, locals := 77 })).room s m ([.ref (ad a), va_re ad p0, .int p1, .int p2, .int p3, .int p4] : List Value).toArray below meth c H locs 0 0 (MQ below (va_Qv (fun (_ : Unit) => True) (fun _ t => kE D ct ad G A y t) A) ([.ref (ad a), va_re ad p0, .int p1, .int p2, .int p3, .int p4] : List Value).toArray s 0 0 A) (F0 m 242 ls [])) ?_ _ _ hy22 _ _ _ hP hD hS (lv_sub hl [0, 1, 2, 3, 4, 5, 6, 7, 8, 9, 10, 11, 12] rfl)
    rintro s23 ⟨z25, hF, hwz25⟩ H locs ls hP hD hS hl
    try dsimp only at hF
    refine lv_iload hx hb dX6_predictRegion_242 (lv_at hl 0 rfl) ?_
    refine lv_iload hx hb dX6_predictRegion_244 (lv_at hl 12 rfl) ?_
    obtain ⟨y26, hy26, hF⟩ := bnd_some hF
    have J26 : ∀ (H : Heap) (locs : List Loc) (ls : Array Slot), va_P D classes (wld ct ad G s23.2) H → va_D A (wld ct ad G s23.2) → va_S A s.heap H locs → lv_has ls 17 [(12, .int s23.1), (11, .int x18), (10, .int x14), (9, .int x12), (8, .int x8), (7, .int y2.2), (6, .int y1.2), (0, .ref (ad a)), (1, va_re ad p0), (2, .int p1), (3, .int p2), (4, .int p3), (5, .int p4)] → W p l e (headSpec wsX6_predictRegion ({ frames := 3, cells := 0, slots := 0, locals := 77 })).room s m ([.ref (ad a), va_re ad p0, .int p1, .int p2, .int p3, .int p4] : List Value).toArray below meth c H locs 0 0 (MQ below (va_Qv (fun (_ : Unit) => True) (fun _ t => kE D ct ad G A y t) A) ([.ref (ad a), va_re ad p0, .int p1, .int p2, .int p3, .int p4] : List Value).toArray s 0 0 A) (F0 m 254 ls [.int y26, .int s23.1]) := by
      intro H locs ls hP hD hS hl
      refine lv_icmp_ge (tgt := 314) hx hb dX6_predictRegion_254 (by decide) (fun c27 => ?_) (fun c27 => ?_)
      · rw [if_pos c27] at hF
        obtain rfl := Option.some.inj hF
        subst hwz25
        exact K22 _ _ _ hP hD hS (lv_sub hl [0, 1, 2, 3, 4, 5, 6, 7, 8, 9, 10, 11, 12] rfl)
      · rw [if_neg c27] at hF
        refine lv_aload_n hx hb dX6_predictRegion_257 rfl (lv_at hl 7 rfl) ?_
        refine lv_aloadq_n hx hb dX6_predictRegion_258 rfl (lv_at hl 8 rfl) ?_
        refine lv_iload hx hb dX6_predictRegion_259 (lv_at hl 0 rfl) ?_
        obtain ⟨y28, hy28, hF⟩ := bnd_some hF
        have hf9 := wA_in hD hA9 hS
        refine va_calli (va_runV (As := [va_re ad p0, .int s23.1]) (rest := []) ⟨hx, hb, hml, hown, hts⟩ (kX6_chooseWeights l D ct ad Z G s23.2 H.size a p0 s23.1 y28 hc hk hy28) (cwV 2 hts gX6_predictRegion_X6_chooseWeights rfl rfl rfl (by decide +kernel) ⟨Nat.le_of_ble_eq_true rfl, Nat.le_of_ble_eq_true rfl⟩) ⟨fun a U g mk q => by obtain ⟨q0, q1, qP, qK, qD, qZ, qN⟩ := q; exact ⟨q0, q1, qP, va_K.moved (u := U) (U := U.calling g mk a) (Vm.Alike.refl U.vm) qK, qD, sF.moved (u := U) (U := U.calling g mk a) (Vm.Alike.refl U.vm) qZ, nF.same rfl qN⟩, va_recv hK hP (ci := 6) (q0 := a) rfl (wld_o ct ad G s23.2 hc hk (by decide)), fun U hU hW => ⟨rfl, by rw [hU], by rw [hU]; exact hP, va_K.moved hW.alike hK, hD.weaken (fun _ _ _ _ => trivial), by rw [hU]; exact ((hZ.kept hS.2.1).narrow hf9).moved hW.alike, hN.warm hW⟩⟩ rfl rfl hl.1 rfl (lv_room (Nat.le_of_ble_eq_true rfl)) dX6_predictRegion_261 ⟨(Nat.zero_le _), (Nat.zero_le _)⟩) hS (fun q _ h => hf9 q h) hf9 (fun r u t H locs ht hvm hw hB hz1 hk1 hS => ?_)
        obtain ⟨hP, hK9, hD9⟩ := hB
        rw [ht] at hP
        try dsimp only at hw
        subst hw
        have hD := hD9.weaken (fun _ q _ h => hf9 q.1 h)
        refine lv_istore (lv' := [(13, .int y28.2), (12, .int s23.1), (11, .int x18), (10, .int x14), (9, .int x12), (8, .int x8), (7, .int y2.2), (6, .int y1.2), (0, .ref (ad a)), (1, va_re ad p0), (2, .int p1), (3, .int p2), (4, .int p3), (5, .int p4)]) hx hb dX6_predictRegion_264 hl (by decide) rfl (fun ls hl => ?_)
        refine lv_iload hx hb dX6_predictRegion_266 (lv_at hl 1 rfl) ?_
        obtain ⟨y29, hy29, hF⟩ := bnd_some hF
        have J29 : ∀ (H : Heap) (locs : List Loc) (ls : Array Slot), va_P D classes (wld ct ad G y29) H → va_D A (wld ct ad G y29) → va_S A s.heap H locs → lv_has ls 17 [(13, .int y28.2), (12, .int s23.1), (11, .int x18), (10, .int x14), (9, .int x12), (8, .int x8), (7, .int y2.2), (6, .int y1.2), (0, .ref (ad a)), (1, va_re ad p0), (2, .int p1), (3, .int p2), (4, .int p3), (5, .int p4)] → W p l e (headSpec wsX6_predictRegion ({ frames := 3, cells := 0, slots := 0, locals := 77 })).room s m ([.ref (ad a), va_re ad p0, .int p1, .int p2, .int p3, .int p4] : List Value).toArray below meth c H locs 0 0 (MQ below (va_Qv (fun (_ : Unit) => True) (fun _ t => kE D ct ad G A y t) A) ([.ref (ad a), va_re ad p0, .int p1, .int p2, .int p3, .int p4] : List Value).toArray s 0 0 A) (F0 m 308 ls []) := by
          intro H locs ls hP hD hS hl
          obtain ⟨x30, ex30, hF⟩ := ltt_some hF
          refine lv_iinc (v := x30) (lv' := [(12, .int x30), (13, .int y28.2), (11, .int x18), (10, .int x14), (9, .int x12), (8, .int x8), (7, .int y2.2), (6, .int y1.2), (0, .ref (ad a)), (1, va_re ad p0), (2, .int p1), (3, .int p2), (4, .int p3), (5, .int p4)]) hx hb dX6_predictRegion_308 hl (k := 1) rfl (by rw [ex30]; rfl) (by decide) rfl (fun ls hl => ?_)
          refine lv_goto (tgt := 242) hx hb dX6_predictRegion_311 (by decide) ?_
          obtain rfl := Option.some.inj hF
          exact hwz25 _ _ _ hP hD hS (lv_sub hl [0, 2, 3, 4, 5, 6, 7, 8, 9, 10, 11, 12, 13] rfl)
        clear hF
        have hF := hy29
        clear hy29
        refine lv_if_ne (tgt := 286) hx hb dX6_predictRegion_268 (by decide) (fun c31 => ?_) (fun c31 => ?_)
        · rw [if_neg c31] at hF
          refine lv_aload_n hx hb dX6_predictRegion_286 rfl (lv_at hl 8 rfl) ?_
          refine lv_iload hx hb dX6_predictRegion_287 (lv_at hl 0 rfl) ?_
          refine lv_iload hx hb dX6_predictRegion_289 (lv_at hl 2 rfl) ?_
          refine lv_bipush (v := (64 : Int32)) hx hb dX6_predictRegion_291 (by decide) ?_
          refine lv_iload hx hb dX6_predictRegion_293 (lv_at hl 1 rfl) ?_
          refine lv_iconst (v := (1 : Int32)) hx hb dX6_predictRegion_295 (by decide) ?_
          refine lv_isub hx hb dX6_predictRegion_296 ?_
          obtain ⟨x32, ex32, hF⟩ := ltt_some hF
          refine lv_topi (fun zx32 ezx32 => ?_)
          obtain rfl : x32 = zx32 := ex32.trans ezx32.symm
          refine lv_imul hx hb dX6_predictRegion_297 ?_
          obtain ⟨x33, ex33, hF⟩ := ltt_some hF
          refine lv_topi (fun zx33 ezx33 => ?_)
          obtain rfl : x33 = zx33 := ex33.trans ezx33.symm
          refine lv_iadd hx hb dX6_predictRegion_298 ?_
          obtain ⟨x34, ex34, hF⟩ := ltt_some hF
          refine lv_topi (fun zx34 ezx34 => ?_)
          obtain rfl : x34 = zx34 := ex34.trans ezx34.symm
          refine lv_bipush (v := (8 : Int32)) hx hb dX6_predictRegion_299 (by decide) ?_
          refine lv_iload hx hb dX6_predictRegion_301 (lv_at hl 12 rfl) ?_
          refine lv_iconst (v := (2 : Int32)) hx hb dX6_predictRegion_303 (by decide) ?_
          refine lv_idiv hx hb dX6_predictRegion_304 (by decide) ?_
          obtain ⟨x35, ex35, hF⟩ := ltt_some hF
          refine lv_topi (fun zx35 ezx35 => ?_)
          obtain rfl : x35 = zx35 := ex35.trans ezx35.symm
          obtain ⟨y36, hy36, hF⟩ := bnd_some hF
          have hf9 := wA_in hD hA9 hS
          refine va_callv (va_runV (As := [.int y28.2, .int x34, .int (8 : Int32), .int x35]) (rest := []) ⟨hx, hb, hml, hown, hts⟩ (kX6_blend l D ct ad Z G y28.1 H.size a y28.2 x34 ((8 : Int32)) x35 y36 hc hk hy36) (cwV 4 hts gX6_predictRegion_X6_blend rfl rfl rfl (by decide +kernel) ⟨Nat.le_of_ble_eq_true rfl, Nat.le_of_ble_eq_true rfl⟩) ⟨fun a U g mk q => by obtain ⟨q0, q1, qP, qK, qD, qZ, qN⟩ := q; exact ⟨q0, q1, qP, va_K.moved (u := U) (U := U.calling g mk a) (Vm.Alike.refl U.vm) qK, qD, sF.moved (u := U) (U := U.calling g mk a) (Vm.Alike.refl U.vm) qZ, nF.same rfl qN⟩, va_recv hK hP (ci := 6) (q0 := a) rfl (wld_o ct ad G y28.1 hc hk (by decide)), fun U hU hW => ⟨rfl, by rw [hU], by rw [hU]; exact hP, va_K.moved hW.alike hK, hD.weaken (fun _ _ _ _ => trivial), by rw [hU]; exact ((hZ.kept hS.2.1).narrow hf9).moved hW.alike, hN.warm hW⟩⟩ rfl rfl hl.1 rfl (lv_room (Nat.le_of_ble_eq_true rfl)) dX6_predictRegion_305 ⟨(Nat.zero_le _), (Nat.zero_le _)⟩) hS (fun q _ h => hf9 q h) hf9 (fun u t H locs ht hvm hw hB hz1 hk1 hS => ?_)
          obtain ⟨hP, hK9, hD9⟩ := hB
          rw [ht] at hP
          have hD := hD9.weaken (fun _ q _ h => hf9 q.1 h)
          obtain rfl := Option.some.inj hF
          exact J29 _ _ _ hP hD hS (lv_sub hl [0, 1, 2, 3, 4, 5, 6, 7, 8, 9, 10, 11, 12, 13] rfl)
        · rw [if_pos c31] at hF
          refine lv_aload_n hx hb dX6_predictRegion_271 rfl (lv_at hl 8 rfl) ?_
          refine lv_iload hx hb dX6_predictRegion_272 (lv_at hl 0 rfl) ?_
          refine lv_iload hx hb dX6_predictRegion_274 (lv_at hl 3 rfl) ?_
          refine lv_bipush (v := (16 : Int32)) hx hb dX6_predictRegion_276 (by decide) ?_
          refine lv_iload hx hb dX6_predictRegion_278 (lv_at hl 12 rfl) ?_
          obtain ⟨y37, hy37, hF⟩ := bnd_some hF
          have hf9 := wA_in hD hA9 hS
          refine va_callv (va_runV (As := [.int y28.2, .int x14, .int (16 : Int32), .int p3]) (rest := []) ⟨hx, hb, hml, hown, hts⟩ (kX6_blend l D ct ad Z G y28.1 H.size a y28.2 x14 ((16 : Int32)) p3 y37 hc hk hy37) (cwV 4 hts gX6_predictRegion_X6_blend rfl rfl rfl (by decide +kernel) ⟨Nat.le_of_ble_eq_true rfl, Nat.le_of_ble_eq_true rfl⟩) ⟨fun a U g mk q => by obtain ⟨q0, q1, qP, qK, qD, qZ, qN⟩ := q; exact ⟨q0, q1, qP, va_K.moved (u := U) (U := U.calling g mk a) (Vm.Alike.refl U.vm) qK, qD, sF.moved (u := U) (U := U.calling g mk a) (Vm.Alike.refl U.vm) qZ, nF.same rfl qN⟩, va_recv hK hP (ci := 6) (q0 := a) rfl (wld_o ct ad G y28.1 hc hk (by decide)), fun U hU hW => ⟨rfl, by rw [hU], by rw [hU]; exact hP, va_K.moved hW.alike hK, hD.weaken (fun _ _ _ _ => trivial), by rw [hU]; exact ((hZ.kept hS.2.1).narrow hf9).moved hW.alike, hN.warm hW⟩⟩ rfl rfl hl.1 rfl (lv_room (Nat.le_of_ble_eq_true rfl)) dX6_predictRegion_280 ⟨(Nat.zero_le _), (Nat.zero_le _)⟩) hS (fun q _ h => hf9 q h) hf9 (fun u t H locs ht hvm hw hB hz1 hk1 hS => ?_)
          obtain ⟨hP, hK9, hD9⟩ := hB
          rw [ht] at hP
          have hD := hD9.weaken (fun _ q _ h => hf9 q.1 h)
          refine lv_goto (tgt := 308) hx hb dX6_predictRegion_283 (by decide) ?_
          obtain rfl := Option.some.inj hF
          exact J29 _ _ _ hP hD hS (lv_sub hl [0, 1, 2, 3, 4, 5, 6, 7, 8, 9, 10, 11, 12, 13] rfl)
    clear hF
    have hF := hy26
    clear hy26
    refine lv_if_eq (tgt := 253) hx hb dX6_predictRegion_246 (by decide) (fun c38 => ?_) (fun c38 => ?_)
    · rw [if_pos c38] at hF
      refine lv_iconst (v := (1 : Int32)) hx hb dX6_predictRegion_253 (by decide) ?_
      obtain rfl := Option.some.inj hF
      exact J26 _ _ _ hP hD hS (lv_sub hl [0, 1, 2, 3, 4, 5, 6, 7, 8, 9, 10, 11, 12] rfl)
    · rw [if_neg c38] at hF
      refine lv_iconst (v := (3 : Int32)) hx hb dX6_predictRegion_249 (by decide) ?_
      refine lv_goto (tgt := 254) hx hb dX6_predictRegion_250 (by decide) ?_
      obtain rfl := Option.some.inj hF
      exact J26 _ _ _ hP hD hS (lv_sub hl [0, 1, 2, 3, 4, 5, 6, 7, 8, 9, 10, 11, 12] rfl)
  clear hF
  refine itr_rule (fun (s20 : Int32 × DD) => ∀ (H : Heap) (locs : List Loc) (ls : Array Slot), va_P D classes (wld ct ad G s20.2) H → va_D A (wld ct ad G s20.2) → va_S A s.heap H locs → lv_has ls 17 [(12, .int s20.1), (11, .int x18), (10, .int x14), (9, .int x12), (8, .int x8), (7, .int y2.2), (6, .int y1.2), (0, .ref (ad a)), (1, va_re ad p0), (2, .int p1), (3, .int p2), (4, .int p3), (5, .int p4)] → W p l e (headSpec wsX6_predictRegion ({ frames := 3, cells := 0, slots := 0, locals := 77 })).room s m ([.ref (ad a), va_re ad p0, .int p1, .int p2, .int p3, .int p4] : List Value).toArray below meth c H locs 0 0 (MQ below (va_Qv (fun (_ : Unit) => True) (fun _ t => kE D ct ad G A y t) A) ([.ref (ad a), va_re ad p0, .int p1, .int p2, .int p3, .int p4] : List Value).toArray s 0 0 A) (F0 m 74 ls [])) ?_ _ _ hy19 _ _ _ hP hD hS (lv_sub hl [0, 1, 2, 3, 4, 5, 6, 7, 8, 9, 10, 11, 12] rfl)
  rintro s20 ⟨z39, hF, hwz39⟩ H locs ls hP hD hS hl
  try dsimp only at hF
  refine lv_iload hx hb dX6_predictRegion_74 (lv_at hl 0 rfl) ?_
  refine lv_iconst (v := (2 : Int32)) hx hb dX6_predictRegion_76 (by decide) ?_
  refine lv_icmp_ge (tgt := 239) hx hb dX6_predictRegion_77 (by decide) (fun c40 => ?_) (fun c40 => ?_)
  · rw [if_pos c40] at hF
    obtain rfl := Option.some.inj hF
    subst hwz39
    exact K19 _ _ _ hP hD hS (lv_sub hl [0, 1, 2, 3, 4, 5, 6, 7, 8, 9, 10, 11, 12] rfl)
  · rw [if_neg c40] at hF
    refine lv_aload_n hx hb dX6_predictRegion_80 rfl (lv_at hl 7 rfl) ?_
    refine va_get (D := D) (ci := 6) (v := va_re ad (s20.2.2 a 5)) (C := RX6) (T := TX6) (N := 14) hx hb hts (by decide +kernel) hown hK hP a (wld_o ct ad G s20.2 hc hk (by decide)) rfl 5 (by decide) (hts (.fieldLink RX6 27 "VideoSuite$Samples" "motion" "[I") (by decide +kernel)) (fun _ h9 => h9) rfl dX6_predictRegion_81 ?_
    refine lv_iconst (v := (3 : Int32)) hx hb dX6_predictRegion_84 (by decide) ?_
    refine lv_iload hx hb dX6_predictRegion_85 (lv_at hl 0 rfl) ?_
    refine lv_imul hx hb dX6_predictRegion_87 ?_
    obtain ⟨x41, ex41, hF⟩ := ltt_some hF
    refine lv_topi (fun zx41 ezx41 => ?_)
    obtain rfl : x41 = zx41 := ex41.trans ezx41.symm
    obtain ⟨b42, ho42, hc42, hk42, hF⟩ := dr_some hF
    refine W_st (st' := [.int x41, .ref (ad b42)]) (by rw [va_some ho42]) ?_
    obtain ⟨hvc, hF⟩ := chk_some hF
    refine va_iald hx hb hK hP b42 1 (wld_i ct ad G s20.2 hc42 hk42) rfl hvc dX6_predictRegion_88 ?_
    obtain ⟨x43, ex43, hF⟩ := ltt_some hF
    refine lv_topi (fun zx43 ezx43 => ?_)
    obtain rfl : x43 = zx43 := ex43.trans ezx43.symm
    refine lv_istore (lv' := [(13, .int x43), (12, .int s20.1), (11, .int x18), (10, .int x14), (9, .int x12), (8, .int x8), (7, .int y2.2), (6, .int y1.2), (0, .ref (ad a)), (1, va_re ad p0), (2, .int p1), (3, .int p2), (4, .int p3), (5, .int p4)]) hx hb dX6_predictRegion_89 hl (by decide) rfl (fun ls hl => ?_)
    refine lv_iload hx hb dX6_predictRegion_91 (lv_at hl 0 rfl) ?_
    obtain ⟨y44, hy44, hF⟩ := bnd_some hF
    have J44 : ∀ (H : Heap) (locs : List Loc) (ls : Array Slot), va_P D classes (wld ct ad G s20.2) H → va_D A (wld ct ad G s20.2) → va_S A s.heap H locs → lv_has ls 17 [(13, .int x43), (12, .int s20.1), (11, .int x18), (10, .int x14), (9, .int x12), (8, .int x8), (7, .int y2.2), (6, .int y1.2), (0, .ref (ad a)), (1, va_re ad p0), (2, .int p1), (3, .int p2), (4, .int p3), (5, .int p4)] → W p l e (headSpec wsX6_predictRegion ({ frames := 3, cells := 0, slots := 0, locals := 77 })).room s m ([.ref (ad a), va_re ad p0, .int p1, .int p2, .int p3, .int p4] : List Value).toArray below meth c H locs 0 0 (MQ below (va_Qv (fun (_ : Unit) => True) (fun _ t => kE D ct ad G A y t) A) ([.ref (ad a), va_re ad p0, .int p1, .int p2, .int p3, .int p4] : List Value).toArray s 0 0 A) (F0 m 120 ls [va_re ad y44]) := by
      intro H locs ls hP hD hS hl
      refine lv_astoreq (lv' := [(14, va_re ad y44), (13, .int x43), (12, .int s20.1), (11, .int x18), (10, .int x14), (9, .int x12), (8, .int x8), (7, .int y2.2), (6, .int y1.2), (0, .ref (ad a)), (1, va_re ad p0), (2, .int p1), (3, .int p2), (4, .int p3), (5, .int p4)]) hx hb dX6_predictRegion_120 hl (by decide) rfl (fun ls hl => ?_)
      refine lv_aloadq hx hb dX6_predictRegion_122 (lv_at hl 0 rfl) ?_
      obtain ⟨y45, hy45, hF⟩ := bnd_some hF
      have J45 : ∀ (H : Heap) (locs : List Loc) (ls : Array Slot), va_P D classes (wld ct ad G y45) H → va_D A (wld ct ad G y45) → va_S A s.heap H locs → lv_has ls 17 [(14, va_re ad y44), (13, .int x43), (12, .int s20.1), (11, .int x18), (10, .int x14), (9, .int x12), (8, .int x8), (7, .int y2.2), (6, .int y1.2), (0, .ref (ad a)), (1, va_re ad p0), (2, .int p1), (3, .int p2), (4, .int p3), (5, .int p4)] → W p l e (headSpec wsX6_predictRegion ({ frames := 3, cells := 0, slots := 0, locals := 77 })).room s m ([.ref (ad a), va_re ad p0, .int p1, .int p2, .int p3, .int p4] : List Value).toArray below meth c H locs 0 0 (MQ below (va_Qv (fun (_ : Unit) => True) (fun _ t => kE D ct ad G A y t) A) ([.ref (ad a), va_re ad p0, .int p1, .int p2, .int p3, .int p4] : List Value).toArray s 0 0 A) (F0 m 233 ls []) := by
        intro H locs ls hP hD hS hl
        obtain ⟨x46, ex46, hF⟩ := ltt_some hF
        refine lv_iinc (v := x46) (lv' := [(12, .int x46), (14, va_re ad y44), (13, .int x43), (11, .int x18), (10, .int x14), (9, .int x12), (8, .int x8), (7, .int y2.2), (6, .int y1.2), (0, .ref (ad a)), (1, va_re ad p0), (2, .int p1), (3, .int p2), (4, .int p3), (5, .int p4)]) hx hb dX6_predictRegion_233 hl (k := 2) rfl (by rw [ex46]; rfl) (by decide) rfl (fun ls hl => ?_)
        refine lv_goto (tgt := 74) hx hb dX6_predictRegion_236 (by decide) ?_
        obtain rfl := Option.some.inj hF
        exact hwz39 _ _ _ hP hD hS (lv_sub hl [0, 3, 4, 5, 6, 7, 8, 9, 10, 11, 12, 13, 14] rfl)
      clear hF
      have hF := hy45
      clear hy45
      refine lv_ifnonnullq (tgt := 130) hx hb dX6_predictRegion_124 (by decide) (fun c47 => ?_) (fun c47 => ?_)
      · rw [if_neg c47] at hF
        refine lv_iconst (v := (4 : Int32)) hx hb dX6_predictRegion_130 (by decide) ?_
        refine lv_iload hx hb dX6_predictRegion_131 (lv_at hl 6 rfl) ?_
        refine lv_imul hx hb dX6_predictRegion_133 ?_
        obtain ⟨x48, ex48, hF⟩ := ltt_some hF
        refine lv_topi (fun zx48 ezx48 => ?_)
        obtain rfl : x48 = zx48 := ex48.trans ezx48.symm
        refine lv_aload_n hx hb dX6_predictRegion_134 rfl (lv_at hl 9 rfl) ?_
        refine va_get (D := D) (ci := 6) (v := va_re ad (s20.2.2 a 5)) (C := RX6) (T := TX6) (N := 14) hx hb hts (by decide +kernel) hown hK hP a (wld_o ct ad G s20.2 hc hk (by decide)) rfl 5 (by decide) (hts (.fieldLink RX6 27 "VideoSuite$Samples" "motion" "[I") (by decide +kernel)) (fun _ h9 => h9) rfl dX6_predictRegion_135 ?_
        refine lv_iconst (v := (3 : Int32)) hx hb dX6_predictRegion_138 (by decide) ?_
        refine lv_iload hx hb dX6_predictRegion_139 (lv_at hl 2 rfl) ?_
        refine lv_imul hx hb dX6_predictRegion_141 ?_
        obtain ⟨x49, ex49, hF⟩ := ltt_some hF
        refine lv_topi (fun zx49 ezx49 => ?_)
        obtain rfl : x49 = zx49 := ex49.trans ezx49.symm
        refine lv_iconst (v := (1 : Int32)) hx hb dX6_predictRegion_142 (by decide) ?_
        refine lv_iadd hx hb dX6_predictRegion_143 ?_
        obtain ⟨x50, ex50, hF⟩ := ltt_some hF
        refine lv_topi (fun zx50 ezx50 => ?_)
        obtain rfl : x50 = zx50 := ex50.trans ezx50.symm
        refine W_st (st' := [.int x50, .ref (ad b42), .int x48]) (by rw [va_some ho42]) ?_
        obtain ⟨hvc, hF⟩ := chk_some hF
        refine va_iald hx hb hK hP b42 1 (wld_i ct ad G s20.2 hc42 hk42) rfl hvc dX6_predictRegion_144 ?_
        obtain ⟨x51, ex51, hF⟩ := ltt_some hF
        refine lv_topi (fun zx51 ezx51 => ?_)
        obtain rfl : x51 = zx51 := ex51.trans ezx51.symm
        refine lv_iadd hx hb dX6_predictRegion_145 ?_
        obtain ⟨x52, ex52, hF⟩ := ltt_some hF
        refine lv_topi (fun zx52 ezx52 => ?_)
        obtain rfl : x52 = zx52 := ex52.trans ezx52.symm
        refine lv_istore (lv' := [(15, .int x52), (14, va_re ad y44), (13, .int x43), (12, .int s20.1), (11, .int x18), (10, .int x14), (9, .int x12), (8, .int x8), (7, .int y2.2), (6, .int y1.2), (0, .ref (ad a)), (1, va_re ad p0), (2, .int p1), (3, .int p2), (4, .int p3), (5, .int p4)]) hx hb dX6_predictRegion_146 hl (by decide) (by generalize y44 = o9; cases o9 <;> rfl) (fun ls hl => ?_)
        refine lv_iconst (v := (4 : Int32)) hx hb dX6_predictRegion_148 (by decide) ?_
        refine lv_iload hx hb dX6_predictRegion_149 (lv_at hl 6 rfl) ?_
        refine lv_imul hx hb dX6_predictRegion_151 ?_
        obtain ⟨x53, ex53, hF⟩ := ltt_some hF
        refine lv_topi (fun zx53 ezx53 => ?_)
        obtain rfl : x53 = zx53 := ex53.trans ezx53.symm
        refine lv_aload_n hx hb dX6_predictRegion_152 rfl (lv_at hl 10 rfl) ?_
        refine va_get (D := D) (ci := 6) (v := va_re ad (s20.2.2 a 5)) (C := RX6) (T := TX6) (N := 14) hx hb hts (by decide +kernel) hown hK hP a (wld_o ct ad G s20.2 hc hk (by decide)) rfl 5 (by decide) (hts (.fieldLink RX6 27 "VideoSuite$Samples" "motion" "[I") (by decide +kernel)) (fun _ h9 => h9) rfl dX6_predictRegion_153 ?_
        refine lv_iconst (v := (3 : Int32)) hx hb dX6_predictRegion_156 (by decide) ?_
        refine lv_iload hx hb dX6_predictRegion_157 (lv_at hl 3 rfl) ?_
        refine lv_imul hx hb dX6_predictRegion_159 ?_
        obtain ⟨x54, ex54, hF⟩ := ltt_some hF
        refine lv_topi (fun zx54 ezx54 => ?_)
        obtain rfl : x54 = zx54 := ex54.trans ezx54.symm
        refine lv_iconst (v := (2 : Int32)) hx hb dX6_predictRegion_160 (by decide) ?_
        refine lv_iadd hx hb dX6_predictRegion_161 ?_
        obtain ⟨x55, ex55, hF⟩ := ltt_some hF
        refine lv_topi (fun zx55 ezx55 => ?_)
        obtain rfl : x55 = zx55 := ex55.trans ezx55.symm
        refine W_st (st' := [.int x55, .ref (ad b42), .int x53]) (by rw [va_some ho42]) ?_
        obtain ⟨hvc, hF⟩ := chk_some hF
        refine va_iald hx hb hK hP b42 1 (wld_i ct ad G s20.2 hc42 hk42) rfl hvc dX6_predictRegion_162 ?_
        obtain ⟨x56, ex56, hF⟩ := ltt_some hF
        refine lv_topi (fun zx56 ezx56 => ?_)
        obtain rfl : x56 = zx56 := ex56.trans ezx56.symm
        refine lv_iadd hx hb dX6_predictRegion_163 ?_
        obtain ⟨x57, ex57, hF⟩ := ltt_some hF
        refine lv_topi (fun zx57 ezx57 => ?_)
        obtain rfl : x57 = zx57 := ex57.trans ezx57.symm
        refine lv_istore (lv' := [(16, .int x57), (15, .int x52), (14, va_re ad y44), (13, .int x43), (12, .int s20.1), (11, .int x18), (10, .int x14), (9, .int x12), (8, .int x8), (7, .int y2.2), (6, .int y1.2), (0, .ref (ad a)), (1, va_re ad p0), (2, .int p1), (3, .int p2), (4, .int p3), (5, .int p4)]) hx hb dX6_predictRegion_164 hl (by decide) rfl (fun ls hl => ?_)
        refine lv_aload_n hx hb dX6_predictRegion_166 rfl (lv_at hl 11 rfl) ?_
        refine lv_aloadq hx hb dX6_predictRegion_167 (lv_at hl 2 rfl) ?_
        refine lv_iload hx hb dX6_predictRegion_169 (lv_at hl 1 rfl) ?_
        refine lv_iload hx hb dX6_predictRegion_171 (lv_at hl 0 rfl) ?_
        refine lv_iload hx hb dX6_predictRegion_173 (lv_at hl 15 rfl) ?_
        refine lv_iload hx hb dX6_predictRegion_175 (lv_at hl 4 rfl) ?_
        obtain ⟨y58, hy58, hF⟩ := bnd_some hF
        have J58 : ∀ (H : Heap) (locs : List Loc) (ls : Array Slot), va_P D classes (wld ct ad G s20.2) H → va_D A (wld ct ad G s20.2) → va_S A s.heap H locs → lv_has ls 17 [(16, .int x57), (15, .int x52), (14, va_re ad y44), (13, .int x43), (12, .int s20.1), (11, .int x18), (10, .int x14), (9, .int x12), (8, .int x8), (7, .int y2.2), (6, .int y1.2), (0, .ref (ad a)), (1, va_re ad p0), (2, .int p1), (3, .int p2), (4, .int p3), (5, .int p4)] → W p l e (headSpec wsX6_predictRegion ({ frames := 3, cells := 0, slots := 0, locals := 77 })).room s m ([.ref (ad a), va_re ad p0, .int p1, .int p2, .int p3, .int p4] : List Value).toArray below meth c H locs 0 0 (MQ below (va_Qv (fun (_ : Unit) => True) (fun _ t => kE D ct ad G A y t) A) ([.ref (ad a), va_re ad p0, .int p1, .int p2, .int p3, .int p4] : List Value).toArray s 0 0 A) (F0 m 191 ls [va_re ad y58, .int p3, .int x57, .int x52, va_re ad y44, .ref (ad a)]) := by
          intro H locs ls hP hD hS hl
          refine lv_iload hx hb dX6_predictRegion_191 (lv_at hl 6 rfl) ?_
          obtain ⟨y59, hy59, hF⟩ := bnd_some hF
          have hf9 := wA_in hD hA9 hS
          refine va_callv (va_runV (As := [va_re ad y44, .int x52, .int x57, .int p3, va_re ad y58, .int x14]) (rest := []) ⟨hx, hb, hml, hown, hts⟩ (kX6_predictLuma l D ct ad Z G s20.2 H.size a y44 x52 x57 p3 y58 x14 y59 hc hk hy59) (cwV 6 hts gX6_predictRegion_X6_predictLuma rfl rfl rfl (by decide +kernel) ⟨Nat.le_of_ble_eq_true rfl, Nat.le_of_ble_eq_true rfl⟩) ⟨fun a U g mk q => by obtain ⟨q0, q1, qP, qK, qD, qZ, qN⟩ := q; exact ⟨q0, q1, qP, va_K.moved (u := U) (U := U.calling g mk a) (Vm.Alike.refl U.vm) qK, qD, sF.moved (u := U) (U := U.calling g mk a) (Vm.Alike.refl U.vm) qZ, nF.same rfl qN⟩, va_recv hK hP (ci := 6) (q0 := a) rfl (wld_o ct ad G s20.2 hc hk (by decide)), fun U hU hW => ⟨rfl, by rw [hU], by rw [hU]; exact hP, va_K.moved hW.alike hK, hD.weaken (fun _ _ _ _ => trivial), by rw [hU]; exact ((hZ.kept hS.2.1).narrow hf9).moved hW.alike, hN.warm hW⟩⟩ rfl rfl hl.1 rfl (lv_room (Nat.le_of_ble_eq_true rfl)) dX6_predictRegion_193 ⟨(Nat.zero_le _), (Nat.zero_le _)⟩) hS (fun q _ h => hf9 q h) hf9 (fun u t H locs ht hvm hw hB hz1 hk1 hS => ?_)
          obtain ⟨hP, hK9, hD9⟩ := hB
          rw [ht] at hP
          have hD := hD9.weaken (fun _ q _ h => hf9 q.1 h)
          refine lv_iload hx hb dX6_predictRegion_196 (lv_at hl 16 rfl) ?_
          obtain ⟨y60, hy60, hF⟩ := bnd_some hF
          have J60 : ∀ (H : Heap) (locs : List Loc) (ls : Array Slot), va_P D classes (wld ct ad G y60) H → va_D A (wld ct ad G y60) → va_S A s.heap H locs → lv_has ls 17 [(16, .int x57), (15, .int x52), (14, va_re ad y44), (13, .int x43), (12, .int s20.1), (11, .int x18), (10, .int x14), (9, .int x12), (8, .int x8), (7, .int y2.2), (6, .int y1.2), (0, .ref (ad a)), (1, va_re ad p0), (2, .int p1), (3, .int p2), (4, .int p3), (5, .int p4)] → W p l e (headSpec wsX6_predictRegion ({ frames := 3, cells := 0, slots := 0, locals := 77 })).room s m ([.ref (ad a), va_re ad p0, .int p1, .int p2, .int p3, .int p4] : List Value).toArray below meth c H locs 0 0 (MQ below (va_Qv (fun (_ : Unit) => True) (fun _ t => kE D ct ad G A y t) A) ([.ref (ad a), va_re ad p0, .int p1, .int p2, .int p3, .int p4] : List Value).toArray s 0 0 A) (F0 m 233 ls []) := by
            intro H locs ls hP hD hS hl
            obtain rfl := Option.some.inj hF
            exact J45 _ _ _ hP hD hS (lv_sub hl [2, 3, 4, 5, 6, 7, 8, 9, 10, 11, 12, 13, 14, 15, 16] rfl)
          clear hF
          have hF := hy60
          clear hy60
          refine lv_if_eq (tgt := 233) hx hb dX6_predictRegion_198 (by decide) (fun c61 => ?_) (fun c61 => ?_)
          · rw [if_pos c61] at hF
            obtain rfl := Option.some.inj hF
            exact J60 _ _ _ hP hD hS (lv_sub hl [0, 1, 2, 3, 4, 5, 6, 7, 8, 9, 10, 11, 12, 13, 14, 15, 16] rfl)
          · rw [if_neg c61] at hF
            refine lv_aload_n hx hb dX6_predictRegion_201 rfl (lv_at hl 11 rfl) ?_
            refine lv_aloadq hx hb dX6_predictRegion_202 (lv_at hl 2 rfl) ?_
            refine lv_iload hx hb dX6_predictRegion_204 (lv_at hl 1 rfl) ?_
            refine lv_iload hx hb dX6_predictRegion_206 (lv_at hl 0 rfl) ?_
            refine lv_iload hx hb dX6_predictRegion_208 (lv_at hl 15 rfl) ?_
            refine lv_iconst (v := (2 : Int32)) hx hb dX6_predictRegion_210 (by decide) ?_
            refine lv_idiv hx hb dX6_predictRegion_211 (by decide) ?_
            obtain ⟨x62, ex62, hF⟩ := ltt_some hF
            refine lv_topi (fun zx62 ezx62 => ?_)
            obtain rfl : x62 = zx62 := ex62.trans ezx62.symm
            refine lv_iload hx hb dX6_predictRegion_212 (lv_at hl 4 rfl) ?_
            obtain ⟨y63, hy63, hF⟩ := bnd_some hF
            have J63 : ∀ (H : Heap) (locs : List Loc) (ls : Array Slot), va_P D classes (wld ct ad G y59) H → va_D A (wld ct ad G y59) → va_S A s.heap H locs → lv_has ls 17 [(16, .int x57), (15, .int x52), (14, va_re ad y44), (13, .int x43), (12, .int s20.1), (11, .int x18), (10, .int x14), (9, .int x12), (8, .int x8), (7, .int y2.2), (6, .int y1.2), (0, .ref (ad a)), (1, va_re ad p0), (2, .int p1), (3, .int p2), (4, .int p3), (5, .int p4)] → W p l e (headSpec wsX6_predictRegion ({ frames := 3, cells := 0, slots := 0, locals := 77 })).room s m ([.ref (ad a), va_re ad p0, .int p1, .int p2, .int p3, .int p4] : List Value).toArray below meth c H locs 0 0 (MQ below (va_Qv (fun (_ : Unit) => True) (fun _ t => kE D ct ad G A y t) A) ([.ref (ad a), va_re ad p0, .int p1, .int p2, .int p3, .int p4] : List Value).toArray s 0 0 A) (F0 m 228 ls [va_re ad y63, .int x62, .int x57, .int x52, va_re ad y44, .ref (ad a)]) := by
              intro H locs ls hP hD hS hl
              refine lv_iload hx hb dX6_predictRegion_228 (lv_at hl 5 rfl) ?_
              obtain ⟨y64, hy64, hF⟩ := bnd_some hF
              have hf9 := wA_in hD hA9 hS
              refine va_callv (va_runV (As := [va_re ad y44, .int x52, .int x57, .int x62, va_re ad y63, .int x18]) (rest := []) ⟨hx, hb, hml, hown, hts⟩ (kX6_predictColours l D ct ad Z G y59 H.size a y44 x52 x57 x62 y63 x18 y64 hc hk hy64) (cwV 6 hts gX6_predictRegion_X6_predictColours rfl rfl rfl (by decide +kernel) ⟨Nat.le_of_ble_eq_true rfl, Nat.le_of_ble_eq_true rfl⟩) ⟨fun a U g mk q => by obtain ⟨q0, q1, qP, qK, qD, qZ, qN⟩ := q; exact ⟨q0, q1, qP, va_K.moved (u := U) (U := U.calling g mk a) (Vm.Alike.refl U.vm) qK, qD, sF.moved (u := U) (U := U.calling g mk a) (Vm.Alike.refl U.vm) qZ, nF.same rfl qN⟩, va_recv hK hP (ci := 6) (q0 := a) rfl (wld_o ct ad G y59 hc hk (by decide)), fun U hU hW => ⟨rfl, by rw [hU], by rw [hU]; exact hP, va_K.moved hW.alike hK, hD.weaken (fun _ _ _ _ => trivial), by rw [hU]; exact ((hZ.kept hS.2.1).narrow hf9).moved hW.alike, hN.warm hW⟩⟩ rfl rfl hl.1 rfl (lv_room (Nat.le_of_ble_eq_true rfl)) dX6_predictRegion_230 ⟨(Nat.zero_le _), (Nat.zero_le _)⟩) hS (fun q _ h => hf9 q h) hf9 (fun u t H locs ht hvm hw hB hz1 hk1 hS => ?_)
              obtain ⟨hP, hK9, hD9⟩ := hB
              rw [ht] at hP
              have hD := hD9.weaken (fun _ q _ h => hf9 q.1 h)
              obtain rfl := Option.some.inj hF
              exact J60 _ _ _ hP hD hS (lv_sub hl [0, 1, 2, 3, 4, 5, 6, 7, 8, 9, 10, 11, 12, 13, 14, 15, 16] rfl)
            clear hF
            have hF := hy63
            clear hy63
            refine lv_if_ne (tgt := 224) hx hb dX6_predictRegion_214 (by decide) (fun c65 => ?_) (fun c65 => ?_)
            · rw [if_neg c65] at hF
              refine lv_aload_n hx hb dX6_predictRegion_224 rfl (lv_at hl 11 rfl) ?_
              refine va_get (D := D) (ci := 6) (v := va_re ad (y59.2 a 2)) (C := RX6) (T := TX6) (N := 14) hx hb hts (by decide +kernel) hown hK hP a (wld_o ct ad G y59 hc hk (by decide)) rfl 2 (by decide) (hts (.fieldLink RX6 18 "VideoSuite$Samples" "second" "[I") (by decide +kernel)) (fun _ h9 => h9) rfl dX6_predictRegion_225 ?_
              obtain rfl := Option.some.inj hF
              exact J63 _ _ _ hP hD hS (lv_sub hl [0, 1, 2, 3, 4, 5, 6, 7, 8, 9, 10, 11, 12, 13, 14, 15, 16] rfl)
            · rw [if_pos c65] at hF
              refine lv_aload_n hx hb dX6_predictRegion_217 rfl (lv_at hl 11 rfl) ?_
              refine va_get (D := D) (ci := 6) (v := va_re ad (y59.2 a 1)) (C := RX6) (T := TX6) (N := 14) hx hb hts (by decide +kernel) hown hK hP a (wld_o ct ad G y59 hc hk (by decide)) rfl 1 (by decide) (hts (.fieldLink RX6 15 "VideoSuite$Samples" "first" "[I") (by decide +kernel)) (fun _ h9 => h9) rfl dX6_predictRegion_218 ?_
              refine lv_goto (tgt := 228) hx hb dX6_predictRegion_221 (by decide) ?_
              obtain rfl := Option.some.inj hF
              exact J63 _ _ _ hP hD hS (lv_sub hl [0, 1, 2, 3, 4, 5, 6, 7, 8, 9, 10, 11, 12, 13, 14, 15, 16] rfl)
        clear hF
        have hF := hy58
        clear hy58
        refine lv_if_ne (tgt := 187) hx hb dX6_predictRegion_177 (by decide) (fun c66 => ?_) (fun c66 => ?_)
        · rw [if_neg c66] at hF
          refine lv_aload_n hx hb dX6_predictRegion_187 rfl (lv_at hl 11 rfl) ?_
          refine va_get (D := D) (ci := 6) (v := va_re ad (s20.2.2 a 2)) (C := RX6) (T := TX6) (N := 14) hx hb hts (by decide +kernel) hown hK hP a (wld_o ct ad G s20.2 hc hk (by decide)) rfl 2 (by decide) (hts (.fieldLink RX6 18 "VideoSuite$Samples" "second" "[I") (by decide +kernel)) (fun _ h9 => h9) rfl dX6_predictRegion_188 ?_
          obtain rfl := Option.some.inj hF
          exact J58 _ _ _ hP hD hS (lv_sub hl [0, 1, 2, 3, 4, 5, 6, 7, 8, 9, 10, 11, 12, 13, 14, 15, 16] rfl)
        · rw [if_pos c66] at hF
          refine lv_aload_n hx hb dX6_predictRegion_180 rfl (lv_at hl 11 rfl) ?_
          refine va_get (D := D) (ci := 6) (v := va_re ad (s20.2.2 a 1)) (C := RX6) (T := TX6) (N := 14) hx hb hts (by decide +kernel) hown hK hP a (wld_o ct ad G s20.2 hc hk (by decide)) rfl 1 (by decide) (hts (.fieldLink RX6 15 "VideoSuite$Samples" "first" "[I") (by decide +kernel)) (fun _ h9 => h9) rfl dX6_predictRegion_181 ?_
          refine lv_goto (tgt := 191) hx hb dX6_predictRegion_184 (by decide) ?_
          obtain rfl := Option.some.inj hF
          exact J58 _ _ _ hP hD hS (lv_sub hl [0, 1, 2, 3, 4, 5, 6, 7, 8, 9, 10, 11, 12, 13, 14, 15, 16] rfl)
      · rw [if_pos c47] at hF
        refine lv_goto (tgt := 233) hx hb dX6_predictRegion_127 (by decide) ?_
        obtain rfl := Option.some.inj hF
        exact J45 _ _ _ hP hD hS (lv_sub hl [0, 1, 2, 3, 4, 5, 6, 7, 8, 9, 10, 11, 12, 13, 14] rfl)
    clear hF
    have hF := hy44
    clear hy44
    refine lv_if_lt (tgt := 103) hx hb dX6_predictRegion_93 (by decide) (fun c67 => ?_) (fun c67 => ?_)
    · rw [if_pos c67] at hF
      refine lv_nullq (ad := ad) hx hb dX6_predictRegion_103 ?_
      refine lv_goto (tgt := 120) hx hb dX6_predictRegion_104 (by decide) ?_
      obtain rfl := Option.some.inj hF
      exact J44 _ _ _ hP hD hS (lv_sub hl [0, 1, 2, 3, 4, 5, 6, 7, 8, 9, 10, 11, 12, 13] rfl)
    · rw [if_neg c67] at hF
      refine lv_iload hx hb dX6_predictRegion_96 (lv_at hl 0 rfl) ?_
      refine lv_bipush (v := (8 : Int32)) hx hb dX6_predictRegion_98 (by decide) ?_
      obtain ⟨y68, hy68, hF⟩ := bnd_some hF
      have J68 : ∀ (H : Heap) (locs : List Loc) (ls : Array Slot), va_P D classes (wld ct ad G s20.2) H → va_D A (wld ct ad G s20.2) → va_S A s.heap H locs → lv_has ls 17 [(13, .int x43), (12, .int s20.1), (11, .int x18), (10, .int x14), (9, .int x12), (8, .int x8), (7, .int y2.2), (6, .int y1.2), (0, .ref (ad a)), (1, va_re ad p0), (2, .int p1), (3, .int p2), (4, .int p3), (5, .int p4)] → W p l e (headSpec wsX6_predictRegion ({ frames := 3, cells := 0, slots := 0, locals := 77 })).room s m ([.ref (ad a), va_re ad p0, .int p1, .int p2, .int p3, .int p4] : List Value).toArray below meth c H locs 0 0 (MQ below (va_Qv (fun (_ : Unit) => True) (fun _ t => kE D ct ad G A y t) A) ([.ref (ad a), va_re ad p0, .int p1, .int p2, .int p3, .int p4] : List Value).toArray s 0 0 A) (F0 m 120 ls [va_re ad y68]) := by
        intro H locs ls hP hD hS hl
        obtain rfl := Option.some.inj hF
        exact J44 _ _ _ hP hD hS (lv_sub hl [0, 1, 2, 3, 4, 5, 6, 7, 8, 9, 10, 11, 12, 13] rfl)
      clear hF
      have hF := hy68
      clear hy68
      refine lv_icmp_le (tgt := 107) hx hb dX6_predictRegion_100 (by decide) (fun c69 => ?_) (fun c69 => ?_)
      · rw [if_pos c69] at hF
        refine lv_aloadq_n hx hb dX6_predictRegion_107 rfl (lv_at hl 9 rfl) ?_
        refine W_st (st' := [.ref (ad b3)]) (by rw [va_some ho3]) ?_
        refine va_get (D := D) (ci := 9) (v := va_re ad (s20.2.2 b3 3)) (C := RX9) (T := TX9) (N := 20) hx hb hts (by decide +kernel) hown hK hP b3 (wld_o ct ad G s20.2 hc3 hk3 (by decide)) rfl 3 (by decide) (hts (.fieldLink RX6 87 "VideoSuite$Work" "lists" "[LVideoSuite$Picture;") (by decide +kernel)) (fun _ h9 => h9) rfl dX6_predictRegion_108 ?_
        refine lv_bipush (v := (9 : Int32)) hx hb dX6_predictRegion_111 (by decide) ?_
        refine lv_iload hx hb dX6_predictRegion_113 (lv_at hl 1 rfl) ?_
        refine lv_imul hx hb dX6_predictRegion_115 ?_
        obtain ⟨x70, ex70, hF⟩ := ltt_some hF
        refine lv_topi (fun zx70 ezx70 => ?_)
        obtain rfl : x70 = zx70 := ex70.trans ezx70.symm
        refine lv_iload hx hb dX6_predictRegion_116 (lv_at hl 0 rfl) ?_
        refine lv_iadd hx hb dX6_predictRegion_118 ?_
        obtain ⟨x71, ex71, hF⟩ := ltt_some hF
        refine lv_topi (fun zx71 ezx71 => ?_)
        obtain rfl : x71 = zx71 := ex71.trans ezx71.symm
        obtain ⟨b72, ho72, hc72, hk72, hF⟩ := dr_some hF
        refine W_st (st' := [.int x71, .ref (ad b72)]) (by rw [va_some ho72]) ?_
        obtain ⟨hvc, hF⟩ := chk_some hF
        refine ld_q hx hb hK hP hc72 hk72 hvc dX6_predictRegion_119 ?_
        obtain rfl := Option.some.inj hF
        exact J68 _ _ _ hP hD hS (lv_sub hl [0, 1, 2, 3, 4, 5, 6, 7, 8, 9, 10, 11, 12, 13] rfl)
      · rw [if_neg c69] at hF
        refine lv_nullq (ad := ad) hx hb dX6_predictRegion_103 ?_
        refine lv_goto (tgt := 120) hx hb dX6_predictRegion_104 (by decide) ?_
        obtain rfl := Option.some.inj hF
        exact J68 _ _ _ hP hD hS (lv_sub hl [0, 1, 2, 3, 4, 5, 6, 7, 8, 9, 10, 11, 12, 13] rfl)
theorem ggX6_predictSixteen_X6_lumaAt : GoodIn wsX6_predictSixteen wsX6_lumaAt := goodIn_r _ [9, 3, 42, 43, 44, 45, 46, 47, 48, 49, 50, 51, 52, 53, 54, 55, 56, 57, 58, 59] (by decide +kernel) (by decide +kernel)
set_option maxRecDepth 20000 in
theorem gX6_predictSixteen_X6_lumaAt : GoodIn wsX6_predictSixteen (va_wsS RX6 175 yX6_lumaAt wsX6_lumaAt) := goodIn_app (goodIn_of _ (by decide +kernel)) ggX6_predictSixteen_X6_lumaAt
set_option maxRecDepth 20000 in
theorem ggX6_predictSixteen_X6_takeSides : GoodIn wsX6_predictSixteen wsX6_takeSides := goodIn_r _ [13, 5, 60, 61, 62, 63, 64, 65, 66, 67, 68, 69, 70, 71, 72, 73] (by decide +kernel) (by decide +kernel)
set_option maxRecDepth 20000 in
theorem gX6_predictSixteen_X6_takeSides : GoodIn wsX6_predictSixteen (wsV RX6 195 RX6 yX6_takeSides wsX6_takeSides) := goodIn_app (goodIn_of _ (by decide +kernel)) ggX6_predictSixteen_X6_takeSides
set_option maxRecDepth 20000 in
theorem ggX6_predictSixteen_X6_sumAround : GoodIn wsX6_predictSixteen wsX6_sumAround := goodIn_r _ [21, 5, 60, 61, 62, 63, 64, 65, 66, 67, 68, 69, 70, 71, 72, 73] (by decide +kernel) (by decide +kernel)
set_option maxRecDepth 20000 in
theorem gX6_predictSixteen_X6_sumAround : GoodIn wsX6_predictSixteen (wsV RX6 203 RX6 yX6_sumAround wsX6_sumAround) := goodIn_app (goodIn_of _ (by decide +kernel)) ggX6_predictSixteen_X6_sumAround
theorem ggX6_predictSixteen_X6_fillPlane : GoodIn wsX6_predictSixteen wsX6_fillPlane := goodIn_r _ [17, 5, 4, 60, 61, 62, 63, 64, 65, 66, 67, 68, 69, 70, 71, 72, 73] (by decide +kernel) (by decide +kernel)
set_option maxRecDepth 20000 in
theorem gX6_predictSixteen_X6_fillPlane : GoodIn wsX6_predictSixteen (wsV RX6 199 RX6 yX6_fillPlane wsX6_fillPlane) := goodIn_app (goodIn_of _ (by decide +kernel)) ggX6_predictSixteen_X6_fillPlane
set_option maxRecDepth 20000 in
theorem dX6_predictSixteen_0 : decode cX6_predictSixteen 0 = .ok (.aload_n 0, 1) := by decide +kernel
theorem dX6_predictSixteen_1 : decode cX6_predictSixteen 1 = .ok (.aload_n 1, 1) := by decide +kernel
theorem dX6_predictSixteen_2 : decode cX6_predictSixteen 2 = .ok (.getfield 46, 3) := by decide +kernel
theorem dX6_predictSixteen_5 : decode cX6_predictSixteen 5 = .ok (.getfield 121, 3) := by decide +kernel
theorem dX6_predictSixteen_8 : decode cX6_predictSixteen 8 = .ok (.iconst 0, 1) := by decide +kernel
theorem dX6_predictSixteen_9 : decode cX6_predictSixteen 9 = .ok (.aaload, 1) := by decide +kernel
theorem dX6_predictSixteen_10 : decode cX6_predictSixteen 10 = .ok (.aload_n 1, 1) := by decide +kernel
theorem dX6_predictSixteen_11 : decode cX6_predictSixteen 11 = .ok (.getfield 46, 3) := by decide +kernel
theorem dX6_predictSixteen_14 : decode cX6_predictSixteen 14 = .ok (.iload_n 2, 1) := by decide +kernel
theorem dX6_predictSixteen_15 : decode cX6_predictSixteen 15 = .ok (.iconst 0, 1) := by decide +kernel
theorem dX6_predictSixteen_16 : decode cX6_predictSixteen 16 = .ok (.iconst 0, 1) := by decide +kernel
theorem dX6_predictSixteen_17 : decode cX6_predictSixteen 17 = .ok (.invokestatic 175, 3) := by decide +kernel
theorem dX6_predictSixteen_20 : decode cX6_predictSixteen 20 = .ok (.bipush 16, 2) := by decide +kernel
theorem dX6_predictSixteen_22 : decode cX6_predictSixteen 22 = .ok (.aload_n 1, 1) := by decide +kernel
theorem dX6_predictSixteen_23 : decode cX6_predictSixteen 23 = .ok (.getfield 46, 3) := by decide +kernel
theorem dX6_predictSixteen_26 : decode cX6_predictSixteen 26 = .ok (.getfield 83, 3) := by decide +kernel
theorem dX6_predictSixteen_29 : decode cX6_predictSixteen 29 = .ok (.imul, 1) := by decide +kernel
theorem dX6_predictSixteen_30 : decode cX6_predictSixteen 30 = .ok (.bipush 16, 2) := by decide +kernel
theorem dX6_predictSixteen_32 : decode cX6_predictSixteen 32 = .ok (.iload 4, 2) := by decide +kernel
theorem dX6_predictSixteen_34 : decode cX6_predictSixteen 34 = .ok (.invokevirtual 195, 3) := by decide +kernel
theorem dX6_predictSixteen_37 : decode cX6_predictSixteen 37 = .ok (.iload_n 3, 1) := by decide +kernel
theorem dX6_predictSixteen_38 : decode cX6_predictSixteen 38 = .ok (.iconst 3, 1) := by decide +kernel
theorem dX6_predictSixteen_39 : decode cX6_predictSixteen 39 = .ok (.if_icmp .ne 12, 3) := by decide +kernel
theorem dX6_predictSixteen_42 : decode cX6_predictSixteen 42 = .ok (.aload_n 0, 1) := by decide +kernel
theorem dX6_predictSixteen_43 : decode cX6_predictSixteen 43 = .ok (.iconst 0, 1) := by decide +kernel
theorem dX6_predictSixteen_44 : decode cX6_predictSixteen 44 = .ok (.bipush 16, 2) := by decide +kernel
theorem dX6_predictSixteen_46 : decode cX6_predictSixteen 46 = .ok (.iconst 5, 1) := by decide +kernel
theorem dX6_predictSixteen_47 : decode cX6_predictSixteen 47 = .ok (.invokevirtual 199, 3) := by decide +kernel
theorem dX6_predictSixteen_50 : decode cX6_predictSixteen 50 = .ok (.return_, 1) := by decide +kernel
theorem dX6_predictSixteen_51 : decode cX6_predictSixteen 51 = .ok (.sipush 128, 3) := by decide +kernel
theorem dX6_predictSixteen_54 : decode cX6_predictSixteen 54 = .ok (.istore 5, 2) := by decide +kernel
theorem dX6_predictSixteen_56 : decode cX6_predictSixteen 56 = .ok (.iload 4, 2) := by decide +kernel
theorem dX6_predictSixteen_58 : decode cX6_predictSixteen 58 = .ok (.iconst 1, 1) := by decide +kernel
theorem dX6_predictSixteen_59 : decode cX6_predictSixteen 59 = .ok (.iand, 1) := by decide +kernel
theorem dX6_predictSixteen_60 : decode cX6_predictSixteen 60 = .ok (.ifCond .eq 7, 3) := by decide +kernel
theorem dX6_predictSixteen_63 : decode cX6_predictSixteen 63 = .ok (.iconst 1, 1) := by decide +kernel
theorem dX6_predictSixteen_64 : decode cX6_predictSixteen 64 = .ok (.goto 4, 3) := by decide +kernel
theorem dX6_predictSixteen_67 : decode cX6_predictSixteen 67 = .ok (.iconst 0, 1) := by decide +kernel
theorem dX6_predictSixteen_68 : decode cX6_predictSixteen 68 = .ok (.istore 6, 2) := by decide +kernel
theorem dX6_predictSixteen_70 : decode cX6_predictSixteen 70 = .ok (.iload 4, 2) := by decide +kernel
theorem dX6_predictSixteen_72 : decode cX6_predictSixteen 72 = .ok (.iconst 2, 1) := by decide +kernel
theorem dX6_predictSixteen_73 : decode cX6_predictSixteen 73 = .ok (.iand, 1) := by decide +kernel
theorem dX6_predictSixteen_74 : decode cX6_predictSixteen 74 = .ok (.ifCond .eq 7, 3) := by decide +kernel
theorem dX6_predictSixteen_77 : decode cX6_predictSixteen 77 = .ok (.iconst 1, 1) := by decide +kernel
theorem dX6_predictSixteen_78 : decode cX6_predictSixteen 78 = .ok (.goto 4, 3) := by decide +kernel
theorem dX6_predictSixteen_81 : decode cX6_predictSixteen 81 = .ok (.iconst 0, 1) := by decide +kernel
theorem dX6_predictSixteen_82 : decode cX6_predictSixteen 82 = .ok (.istore 7, 2) := by decide +kernel
theorem dX6_predictSixteen_84 : decode cX6_predictSixteen 84 = .ok (.aload_n 0, 1) := by decide +kernel
theorem dX6_predictSixteen_85 : decode cX6_predictSixteen 85 = .ok (.iconst 1, 1) := by decide +kernel
theorem dX6_predictSixteen_86 : decode cX6_predictSixteen 86 = .ok (.bipush 16, 2) := by decide +kernel
theorem dX6_predictSixteen_88 : decode cX6_predictSixteen 88 = .ok (.invokevirtual 203, 3) := by decide +kernel
theorem dX6_predictSixteen_91 : decode cX6_predictSixteen 91 = .ok (.aload_n 0, 1) := by decide +kernel
theorem dX6_predictSixteen_92 : decode cX6_predictSixteen 92 = .ok (.bipush 18, 2) := by decide +kernel
theorem dX6_predictSixteen_94 : decode cX6_predictSixteen 94 = .ok (.bipush 16, 2) := by decide +kernel
theorem dX6_predictSixteen_96 : decode cX6_predictSixteen 96 = .ok (.invokevirtual 203, 3) := by decide +kernel
theorem dX6_predictSixteen_99 : decode cX6_predictSixteen 99 = .ok (.iadd, 1) := by decide +kernel
theorem dX6_predictSixteen_100 : decode cX6_predictSixteen 100 = .ok (.istore 8, 2) := by decide +kernel
theorem dX6_predictSixteen_102 : decode cX6_predictSixteen 102 = .ok (.iload 6, 2) := by decide +kernel
theorem dX6_predictSixteen_104 : decode cX6_predictSixteen 104 = .ok (.ifCond .ne 8, 3) := by decide +kernel
theorem dX6_predictSixteen_107 : decode cX6_predictSixteen 107 = .ok (.iload 7, 2) := by decide +kernel
theorem dX6_predictSixteen_109 : decode cX6_predictSixteen 109 = .ok (.ifCond .eq 32, 3) := by decide +kernel
theorem dX6_predictSixteen_112 : decode cX6_predictSixteen 112 = .ok (.iload 6, 2) := by decide +kernel
theorem dX6_predictSixteen_114 : decode cX6_predictSixteen 114 = .ok (.ifCond .eq 18, 3) := by decide +kernel
theorem dX6_predictSixteen_117 : decode cX6_predictSixteen 117 = .ok (.iload 7, 2) := by decide +kernel
theorem dX6_predictSixteen_119 : decode cX6_predictSixteen 119 = .ok (.ifCond .eq 13, 3) := by decide +kernel
theorem dX6_predictSixteen_122 : decode cX6_predictSixteen 122 = .ok (.iload 8, 2) := by decide +kernel
theorem dX6_predictSixteen_124 : decode cX6_predictSixteen 124 = .ok (.bipush 16, 2) := by decide +kernel
theorem dX6_predictSixteen_126 : decode cX6_predictSixteen 126 = .ok (.iadd, 1) := by decide +kernel
theorem dX6_predictSixteen_127 : decode cX6_predictSixteen 127 = .ok (.iconst 5, 1) := by decide +kernel
theorem dX6_predictSixteen_128 : decode cX6_predictSixteen 128 = .ok (.ishr, 1) := by decide +kernel
theorem dX6_predictSixteen_129 : decode cX6_predictSixteen 129 = .ok (.goto 10, 3) := by decide +kernel
theorem dX6_predictSixteen_132 : decode cX6_predictSixteen 132 = .ok (.iload 8, 2) := by decide +kernel
theorem dX6_predictSixteen_134 : decode cX6_predictSixteen 134 = .ok (.bipush 8, 2) := by decide +kernel
theorem dX6_predictSixteen_136 : decode cX6_predictSixteen 136 = .ok (.iadd, 1) := by decide +kernel
theorem dX6_predictSixteen_137 : decode cX6_predictSixteen 137 = .ok (.iconst 4, 1) := by decide +kernel
theorem dX6_predictSixteen_138 : decode cX6_predictSixteen 138 = .ok (.ishr, 1) := by decide +kernel
theorem dX6_predictSixteen_139 : decode cX6_predictSixteen 139 = .ok (.istore 5, 2) := by decide +kernel
theorem dX6_predictSixteen_141 : decode cX6_predictSixteen 141 = .ok (.iconst 0, 1) := by decide +kernel
theorem dX6_predictSixteen_142 : decode cX6_predictSixteen 142 = .ok (.istore 9, 2) := by decide +kernel
theorem dX6_predictSixteen_144 : decode cX6_predictSixteen 144 = .ok (.iload 9, 2) := by decide +kernel
theorem dX6_predictSixteen_146 : decode cX6_predictSixteen 146 = .ok (.sipush 256, 3) := by decide +kernel
theorem dX6_predictSixteen_149 : decode cX6_predictSixteen 149 = .ok (.if_icmp .ge 58, 3) := by decide +kernel
theorem dX6_predictSixteen_152 : decode cX6_predictSixteen 152 = .ok (.aload_n 0, 1) := by decide +kernel
theorem dX6_predictSixteen_153 : decode cX6_predictSixteen 153 = .ok (.getfield 9, 3) := by decide +kernel
theorem dX6_predictSixteen_156 : decode cX6_predictSixteen 156 = .ok (.iload 9, 2) := by decide +kernel
theorem dX6_predictSixteen_158 : decode cX6_predictSixteen 158 = .ok (.iload_n 3, 1) := by decide +kernel
theorem dX6_predictSixteen_159 : decode cX6_predictSixteen 159 = .ok (.ifCond .ne 18, 3) := by decide +kernel
theorem dX6_predictSixteen_162 : decode cX6_predictSixteen 162 = .ok (.aload_n 0, 1) := by decide +kernel
theorem dX6_predictSixteen_163 : decode cX6_predictSixteen 163 = .ok (.getfield 36, 3) := by decide +kernel
theorem dX6_predictSixteen_166 : decode cX6_predictSixteen 166 = .ok (.iconst 1, 1) := by decide +kernel
theorem dX6_predictSixteen_167 : decode cX6_predictSixteen 167 = .ok (.iload 9, 2) := by decide +kernel
theorem dX6_predictSixteen_169 : decode cX6_predictSixteen 169 = .ok (.bipush 16, 2) := by decide +kernel
theorem dX6_predictSixteen_171 : decode cX6_predictSixteen 171 = .ok (.irem, 1) := by decide +kernel
theorem dX6_predictSixteen_172 : decode cX6_predictSixteen 172 = .ok (.iadd, 1) := by decide +kernel
theorem dX6_predictSixteen_173 : decode cX6_predictSixteen 173 = .ok (.iaload, 1) := by decide +kernel
theorem dX6_predictSixteen_174 : decode cX6_predictSixteen 174 = .ok (.goto 26, 3) := by decide +kernel
theorem dX6_predictSixteen_177 : decode cX6_predictSixteen 177 = .ok (.iload_n 3, 1) := by decide +kernel
theorem dX6_predictSixteen_178 : decode cX6_predictSixteen 178 = .ok (.iconst 1, 1) := by decide +kernel
theorem dX6_predictSixteen_179 : decode cX6_predictSixteen 179 = .ok (.if_icmp .ne 19, 3) := by decide +kernel
theorem dX6_predictSixteen_182 : decode cX6_predictSixteen 182 = .ok (.aload_n 0, 1) := by decide +kernel
theorem dX6_predictSixteen_183 : decode cX6_predictSixteen 183 = .ok (.getfield 36, 3) := by decide +kernel
theorem dX6_predictSixteen_186 : decode cX6_predictSixteen 186 = .ok (.bipush 18, 2) := by decide +kernel
theorem dX6_predictSixteen_188 : decode cX6_predictSixteen 188 = .ok (.iload 9, 2) := by decide +kernel
theorem dX6_predictSixteen_190 : decode cX6_predictSixteen 190 = .ok (.bipush 16, 2) := by decide +kernel
theorem dX6_predictSixteen_192 : decode cX6_predictSixteen 192 = .ok (.idiv, 1) := by decide +kernel
theorem dX6_predictSixteen_193 : decode cX6_predictSixteen 193 = .ok (.iadd, 1) := by decide +kernel
theorem dX6_predictSixteen_194 : decode cX6_predictSixteen 194 = .ok (.iaload, 1) := by decide +kernel
theorem dX6_predictSixteen_195 : decode cX6_predictSixteen 195 = .ok (.goto 5, 3) := by decide +kernel
theorem dX6_predictSixteen_198 : decode cX6_predictSixteen 198 = .ok (.iload 5, 2) := by decide +kernel
theorem dX6_predictSixteen_200 : decode cX6_predictSixteen 200 = .ok (.iastore, 1) := by decide +kernel
theorem dX6_predictSixteen_201 : decode cX6_predictSixteen 201 = .ok (.iinc 9 1, 3) := by decide +kernel
theorem dX6_predictSixteen_204 : decode cX6_predictSixteen 204 = .ok (.goto (-60), 3) := by decide +kernel
theorem dX6_predictSixteen_207 : decode cX6_predictSixteen 207 = .ok (.return_, 1) := by decide +kernel
def FX6_predictSixteen (G : GG) (M : DD) (a : Nat) (p0 : Option Nat) (p1 : Int32) (p2 : Int32) (p3 : Int32) : Option (DD) :=
  dr G 9 p0 fun b2 =>
  dr G 4 ((M.2 b2 0)) fun b3 =>
  dr G 15 ((M.2 b3 4)) fun b4 =>
  chk (¬ (((0 : Int32)) < 0 ∨ G.2.2 b4 ≤ ((0 : Int32)).toNatClampNeg)) <|
  bnd (FX6_lumaAt G M ((M.2 b2 0)) p1 ((0 : Int32)) ((0 : Int32))) fun y5 =>
  dr G 4 ((y5.1.2 b2 0)) fun b6 =>
  ltt (y5.1.1 b6 1) fun x7 =>
  ltt ((((16 : Int32)) * x7)) fun x8 =>
  bnd (FX6_takeSides G y5.1 a ((M.2 b4 ((0 : Int32)).toNatClampNeg)) y5.2 x8 ((16 : Int32)) p3) fun y9 =>
  if p2 = ((3 : Int32)) then (bnd (FX6_fillPlane G y9 a ((0 : Int32)) ((16 : Int32)) ((5 : Int32))) fun y64 =>
  some y64) else
  (ltt ((p3 &&& ((1 : Int32)))) fun x11 =>
  bnd (if x11 = ((0 : Int32)) then (some ((0 : Int32))) else
  (some ((1 : Int32)))) fun (y12 : Int32) =>
  ltt ((p3 &&& ((2 : Int32)))) fun x13 =>
  bnd (if x13 = ((0 : Int32)) then (some ((0 : Int32))) else
  (some ((1 : Int32)))) fun (y14 : Int32) =>
  bnd (FX6_sumAround G y9 a ((1 : Int32)) ((16 : Int32))) fun y15 =>
  bnd (FX6_sumAround G y15.1 a ((18 : Int32)) ((16 : Int32))) fun y16 =>
  ltt ((y15.2 + y16.2)) fun x17 =>
  bnd (if y12 = ((0 : Int32)) then (bnd (if y14 = ((0 : Int32)) then (some ((128 : Int32))) else
  (bnd (if y12 = ((0 : Int32)) then (ltt ((x17 + ((8 : Int32)))) fun x54 =>
  ltt ((x54 >>> (((4 : Int32)) &&& 31))) fun x55 =>
  some (x55)) else
  (bnd (if y14 = ((0 : Int32)) then (ltt ((x17 + ((8 : Int32)))) fun x58 =>
  ltt ((x58 >>> (((4 : Int32)) &&& 31))) fun x59 =>
  some (x59)) else
  (ltt ((x17 + ((16 : Int32)))) fun x60 =>
  ltt ((x60 >>> (((5 : Int32)) &&& 31))) fun x61 =>
  some (x61))) fun (y56 : Int32) =>
  some (y56))) fun (y52 : Int32) =>
  some (y52))) fun (y50 : Int32) =>
  some (y50)) else
  (bnd (if y12 = ((0 : Int32)) then (ltt ((x17 + ((8 : Int32)))) fun x42 =>
  ltt ((x42 >>> (((4 : Int32)) &&& 31))) fun x43 =>
  some (x43)) else
  (bnd (if y14 = ((0 : Int32)) then (ltt ((x17 + ((8 : Int32)))) fun x46 =>
  ltt ((x46 >>> (((4 : Int32)) &&& 31))) fun x47 =>
  some (x47)) else
  (ltt ((x17 + ((16 : Int32)))) fun x48 =>
  ltt ((x48 >>> (((5 : Int32)) &&& 31))) fun x49 =>
  some (x49))) fun (y44 : Int32) =>
  some (y44))) fun (y40 : Int32) =>
  some (y40))) fun (y18 : Int32) =>
  bnd (itr (fun (s20 : Int32 × DD) => ((if ((256 : Int32)) ≤ s20.1 then (some (.inr (s20.1, s20.2))) else
  (bnd (if p2 = ((0 : Int32)) then (ltt (s20.1 - s20.1 / ((16 : Int32)) * ((16 : Int32))) fun x35 =>
  ltt ((((1 : Int32)) + x35)) fun x36 =>
  dr G 13 ((s20.2.2 a 8)) fun b37 =>
  chk (¬ (x36 < 0 ∨ G.2.2 b37 ≤ x36.toNatClampNeg)) <|
  ltt (s20.2.1 b37 x36.toNatClampNeg) fun x38 =>
  some (x38)) else
  (bnd (if p2 = ((1 : Int32)) then (ltt (s20.1 / ((16 : Int32))) fun x31 =>
  ltt ((((18 : Int32)) + x31)) fun x32 =>
  dr G 13 ((s20.2.2 a 8)) fun b33 =>
  chk (¬ (x32 < 0 ∨ G.2.2 b33 ≤ x32.toNatClampNeg)) <|
  ltt (s20.2.1 b33 x32.toNatClampNeg) fun x34 =>
  some (x34)) else
  (some (y18))) fun (y29 : Int32) =>
  some (y29))) fun (y24 : Int32) =>
  dr G 13 ((s20.2.2 a 0)) fun b25 =>
  chk (¬ (s20.1 < 0 ∨ G.2.2 b25 ≤ s20.1.toNatClampNeg)) <|
  ltt (uI s20.2 b25 s20.1.toNatClampNeg y24) fun M26 =>
  ltt (s20.1 + (1 : Int32)) fun x27 =>
  some (.inl (x27, M26)))) : Option ((Int32 × DD) ⊕ (Int32 × DD)))) 1000000 ((0 : Int32), y16.1)) fun (y19 : Int32 × DD) =>
  some y19.2)
set_option maxHeartbeats 4000000 in
set_option maxRecDepth 100000 in
theorem kX6_predictSixteen (l : Launch) (D : va_G) (ct : CT) (ad : Nat → Nat) (Z : Nat → Nat) (G : GG) (M : DD) (sz : Nat) (a : Nat) (p0 : Option Nat) (p1 : Int32) (p2 : Int32) (p3 : Int32) (y : DD) (hc : a < G.1) (hk : G.2.1 a = 6) (hF : FX6_predictSixteen G M a p0 p1 p2 p3 = some y) : Met l yX6_predictSixteen wsX6_predictSixteen ({ frames := 1, cells := 0, slots := 0, locals := 33 }) (va_Pc [.ref (ad a), va_re ad p0, .int p1, .int p2, .int p3] (kB D ct ad Z G M sz)) (va_Qv (fun (_ : Unit) => True) (fun _ t => kE D ct ad G (wA ad G sz) y t) (wA ad G sz)) 0 0 (wA ad G sz) := by
  refine Met.ofW (cc := cX6_predictSixteen) (maxL := 10) (ret := none) (by decide) rfl ?_
  intro p e s m args below meth c s₁ B hml hv
  obtain ⟨rfl, hsz, hP, hK, hD0, hZ, hN⟩ := hv
  have hx := B.exec
  have hb := B.bytes
  have hr := B.returns
  have hts := atoms_spec (ws := wsX6_predictSixteen) B.pre
  have hown : s.vm.findClass RX6 = some m.cls := findClass_of_methodNamed B.named
  have hlocks := B.notSynchronized
  subst hsz
  have hD := wD_self (sz := s.heap.size) hD0
  have hA9 : ∀ q, s.heap.size ≤ q → wA ad G s.heap.size q := fun q h => Or.inr h
  generalize hAe : wA ad G s.heap.size = A at hD hA9 hZ ⊢
  have hS : va_S A s.heap s.heap [] := va_S.rf
  have hl := lv_entry ([.ref (ad a), va_re ad p0, .int p1, .int p2, .int p3]) (n := 10) (by cases p0 <;> exact Nat.le_of_ble_eq_true rfl)
  rw [lg_entry_eq]
  generalize (lg_sl ([.ref (ad a), va_re ad p0, .int p1, .int p2, .int p3]) ++ List.replicate (10 - (lg_sl ([.ref (ad a), va_re ad p0, .int p1, .int p2, .int p3])).length) Slot.unset).toArray = ls at hl ⊢
  have hl : lv_has ls 10 [(0, .ref (ad a)), (1, va_re ad p0), (2, .int p1), (3, .int p2), (4, .int p3)] := by have e9 : lv_args 0 [.ref (ad a), va_re ad p0, .int p1, .int p2, .int p3] = [(0, .ref (ad a)), (1, va_re ad p0), (2, .int p1), (3, .int p2), (4, .int p3)] := (by cases p0 <;> rfl); rw [e9] at hl; exact hl
  unfold FX6_predictSixteen at hF
  refine lv_aload_n hx hb dX6_predictSixteen_0 rfl (lv_at hl 0 rfl) ?_
  refine lv_aloadq_n hx hb dX6_predictSixteen_1 rfl (lv_at hl 1 rfl) ?_
  obtain ⟨b2, ho2, hc2, hk2, hF⟩ := dr_some hF
  refine W_st (st' := [.ref (ad b2), .ref (ad a)]) (by rw [va_some ho2]) ?_
  refine va_get (D := D) (ci := 9) (v := va_re ad (M.2 b2 0)) (C := RX9) (T := TX9) (N := 20) hx hb hts (by decide +kernel) hown hK hP b2 (wld_o ct ad G M hc2 hk2 (by decide)) rfl 0 (by decide) (hts (.fieldLink RX6 46 "VideoSuite$Work" "pic" "LVideoSuite$Picture;") (by decide +kernel)) (fun _ h9 => h9) rfl dX6_predictSixteen_2 ?_
  obtain ⟨b3, ho3, hc3, hk3, hF⟩ := dr_some hF
  refine W_st (st' := [.ref (ad b3), .ref (ad a)]) (by rw [va_some ho3]) ?_
  refine va_get (D := D) (ci := 4) (v := va_re ad (M.2 b3 4)) (C := RX4) (T := TX4) (N := 18) hx hb hts (by decide +kernel) hown hK hP b3 (wld_o ct ad G M hc3 hk3 (by decide)) rfl 4 (by decide) (hts (.fieldLink RX6 121 "VideoSuite$Picture" "plane" "[[I") (by decide +kernel)) (fun _ h9 => h9) rfl dX6_predictSixteen_5 ?_
  refine lv_iconst (v := (0 : Int32)) hx hb dX6_predictSixteen_8 (by decide) ?_
  obtain ⟨b4, ho4, hc4, hk4, hF⟩ := dr_some hF
  refine W_st (st' := [.int (0 : Int32), .ref (ad b4), .ref (ad a)]) (by rw [va_some ho4]) ?_
  obtain ⟨hvc, hF⟩ := chk_some hF
  refine ld_g hx hb hK hP hc4 hk4 hvc dX6_predictSixteen_9 ?_
  refine lv_aloadq_n hx hb dX6_predictSixteen_10 rfl (lv_at hl 1 rfl) ?_
  refine W_st (st' := [.ref (ad b2), va_re ad (M.2 b4 ((0 : Int32)).toNatClampNeg), .ref (ad a)]) (by rw [va_some ho2]) ?_
  refine va_get (D := D) (ci := 9) (v := va_re ad (M.2 b2 0)) (C := RX9) (T := TX9) (N := 20) hx hb hts (by decide +kernel) hown hK hP b2 (wld_o ct ad G M hc2 hk2 (by decide)) rfl 0 (by decide) (hts (.fieldLink RX6 46 "VideoSuite$Work" "pic" "LVideoSuite$Picture;") (by decide +kernel)) (fun _ h9 => h9) rfl dX6_predictSixteen_11 ?_
  refine lv_iload_n hx hb dX6_predictSixteen_14 rfl (lv_at hl 2 rfl) ?_
  refine lv_iconst (v := (0 : Int32)) hx hb dX6_predictSixteen_15 (by decide) ?_
  refine lv_iconst (v := (0 : Int32)) hx hb dX6_predictSixteen_16 (by decide) ?_
  obtain ⟨y5, hy5, hF⟩ := bnd_some hF
  have hf9 := wA_in hD hA9 hS
  refine va_calli (va_runS (As := [va_re ad (M.2 b2 0), .int p1, .int (0 : Int32), .int (0 : Int32)]) (rest := [va_re ad (M.2 b4 ((0 : Int32)).toNatClampNeg), .ref (ad a)]) ⟨hx, hb, hml, hown, hts⟩ (kX6_lumaAt l D ct ad Z G M s.heap.size ((M.2 b2 0)) p1 ((0 : Int32)) ((0 : Int32)) y5 hy5) (va_cwS 4 hts gX6_predictSixteen_X6_lumaAt rfl rfl rfl (by decide +kernel) ⟨Nat.le_of_ble_eq_true rfl, Nat.le_of_ble_eq_true rfl⟩) ⟨fun a U g mk q => by obtain ⟨q0, q1, qP, qK, qD, qZ, qN⟩ := q; exact ⟨q0, q1, qP, va_K.moved (u := U) (U := U.calling g mk a) (Vm.Alike.refl U.vm) qK, qD, sF.moved (u := U) (U := U.calling g mk a) (Vm.Alike.refl U.vm) qZ, nF.same rfl qN⟩, fun U hU hW => ⟨rfl, by rw [hU], by rw [hU]; exact hP, va_K.moved hW.alike hK, hD.weaken (fun _ _ _ _ => trivial), by rw [hU]; exact ((hZ.kept hS.2.1).narrow hf9).moved hW.alike, hN.warm hW⟩⟩ rfl rfl hl.1 rfl (lv_room (by simp only [List.map, va_re_cat]; exact Nat.le_of_ble_eq_true rfl)) dX6_predictSixteen_17 ⟨(Nat.zero_le _), (Nat.zero_le _)⟩) hS (fun q _ h => hf9 q h) hf9 (fun r u t H locs ht hvm hw hB hz1 hk1 hS => ?_)
  obtain ⟨hP, hK9, hD9⟩ := hB
  rw [ht] at hP
  try dsimp only at hw
  subst hw
  have hD := hD9.weaken (fun _ q _ h => hf9 q.1 h)
  refine lv_bipush (v := (16 : Int32)) hx hb dX6_predictSixteen_20 (by decide) ?_
  refine lv_aloadq_n hx hb dX6_predictSixteen_22 rfl (lv_at hl 1 rfl) ?_
  refine W_st (st' := [.ref (ad b2), .int (16 : Int32), .int y5.2, va_re ad (M.2 b4 ((0 : Int32)).toNatClampNeg), .ref (ad a)]) (by rw [va_some ho2]) ?_
  refine va_get (D := D) (ci := 9) (v := va_re ad (y5.1.2 b2 0)) (C := RX9) (T := TX9) (N := 20) hx hb hts (by decide +kernel) hown hK hP b2 (wld_o ct ad G y5.1 hc2 hk2 (by decide)) rfl 0 (by decide) (hts (.fieldLink RX6 46 "VideoSuite$Work" "pic" "LVideoSuite$Picture;") (by decide +kernel)) (fun _ h9 => h9) rfl dX6_predictSixteen_23 ?_
  obtain ⟨b6, ho6, hc6, hk6, hF⟩ := dr_some hF
  refine W_st (st' := [.ref (ad b6), .int (16 : Int32), .int y5.2, va_re ad (M.2 b4 ((0 : Int32)).toNatClampNeg), .ref (ad a)]) (by rw [va_some ho6]) ?_
  refine va_get (D := D) (ci := 4) (v := .int (y5.1.1 b6 1)) (C := RX4) (T := TX4) (N := 18) hx hb hts (by decide +kernel) hown hK hP b6 (wld_o ct ad G y5.1 hc6 hk6 (by decide)) rfl 1 (by decide) (hts (.fieldLink RX6 83 "VideoSuite$Picture" "width" "I") (by decide +kernel)) (fun _ h9 => h9) rfl dX6_predictSixteen_26 ?_
  obtain ⟨x7, ex7, hF⟩ := ltt_some hF
  refine lv_topi (fun zx7 ezx7 => ?_)
  obtain rfl : x7 = zx7 := ex7.trans ezx7.symm
  refine lv_imul hx hb dX6_predictSixteen_29 ?_
  obtain ⟨x8, ex8, hF⟩ := ltt_some hF
  refine lv_topi (fun zx8 ezx8 => ?_)
  obtain rfl : x8 = zx8 := ex8.trans ezx8.symm
  refine lv_bipush (v := (16 : Int32)) hx hb dX6_predictSixteen_30 (by decide) ?_
  refine lv_iload hx hb dX6_predictSixteen_32 (lv_at hl 4 rfl) ?_
  obtain ⟨y9, hy9, hF⟩ := bnd_some hF
  have hf9 := wA_in hD hA9 hS
  refine va_callv (va_runV (As := [va_re ad (M.2 b4 ((0 : Int32)).toNatClampNeg), .int y5.2, .int x8, .int (16 : Int32), .int p3]) (rest := []) ⟨hx, hb, hml, hown, hts⟩ (kX6_takeSides l D ct ad Z G y5.1 H.size a ((M.2 b4 ((0 : Int32)).toNatClampNeg)) y5.2 x8 ((16 : Int32)) p3 y9 hc hk hy9) (cwV 5 hts gX6_predictSixteen_X6_takeSides rfl rfl rfl (by decide +kernel) ⟨Nat.le_of_ble_eq_true rfl, Nat.le_of_ble_eq_true rfl⟩) ⟨fun a U g mk q => by obtain ⟨q0, q1, qP, qK, qD, qZ, qN⟩ := q; exact ⟨q0, q1, qP, va_K.moved (u := U) (U := U.calling g mk a) (Vm.Alike.refl U.vm) qK, qD, sF.moved (u := U) (U := U.calling g mk a) (Vm.Alike.refl U.vm) qZ, nF.same rfl qN⟩, va_recv hK hP (ci := 6) (q0 := a) rfl (wld_o ct ad G y5.1 hc hk (by decide)), fun U hU hW => ⟨rfl, by rw [hU], by rw [hU]; exact hP, va_K.moved hW.alike hK, hD.weaken (fun _ _ _ _ => trivial), by rw [hU]; exact ((hZ.kept hS.2.1).narrow hf9).moved hW.alike, hN.warm hW⟩⟩ rfl rfl hl.1 rfl (lv_room (Nat.le_of_ble_eq_true rfl)) dX6_predictSixteen_34 ⟨(Nat.zero_le _), (Nat.zero_le _)⟩) hS (fun q _ h => hf9 q h) hf9 (fun u t H locs ht hvm hw hB hz1 hk1 hS => ?_)
  obtain ⟨hP, hK9, hD9⟩ := hB
  rw [ht] at hP
  have hD := hD9.weaken (fun _ q _ h => hf9 q.1 h)
  refine lv_iload_n hx hb dX6_predictSixteen_37 rfl (lv_at hl 3 rfl) ?_
  refine lv_iconst (v := (3 : Int32)) hx hb dX6_predictSixteen_38 (by decide) ?_
  refine lv_icmp_ne (tgt := 51) hx hb dX6_predictSixteen_39 (by decide) (fun c10 => ?_) (fun c10 => ?_)
  · rw [if_neg c10] at hF
    refine lv_sipush (v := (128 : Int32)) hx hb dX6_predictSixteen_51 (by decide) ?_
    refine lv_istore (lv' := [(5, .int (128 : Int32)), (0, .ref (ad a)), (1, va_re ad p0), (2, .int p1), (3, .int p2), (4, .int p3)]) hx hb dX6_predictSixteen_54 hl (by decide) rfl (fun ls hl => ?_)
    refine lv_iload hx hb dX6_predictSixteen_56 (lv_at hl 5 rfl) ?_
    refine lv_iconst (v := (1 : Int32)) hx hb dX6_predictSixteen_58 (by decide) ?_
    refine lv_iand hx hb dX6_predictSixteen_59 ?_
    obtain ⟨x11, ex11, hF⟩ := ltt_some hF
    refine lv_topi (fun zx11 ezx11 => ?_)
    obtain rfl : x11 = zx11 := ex11.trans ezx11.symm
    obtain ⟨y12, hy12, hF⟩ := bnd_some hF
    have J12 : ∀ (H : Heap) (locs : List Loc) (ls : Array Slot), va_P D classes (wld ct ad G y9) H → va_D A (wld ct ad G y9) → va_S A s.heap H locs → lv_has ls 10 [(5, .int (128 : Int32)), (0, .ref (ad a)), (1, va_re ad p0), (2, .int p1), (3, .int p2), (4, .int p3)] → W p l e (headSpec wsX6_predictSixteen ({ frames := 1, cells := 0, slots := 0, locals := 33 })).room s m ([.ref (ad a), va_re ad p0, .int p1, .int p2, .int p3] : List Value).toArray below meth c H locs 0 0 (MQ below (va_Qv (fun (_ : Unit) => True) (fun _ t => kE D ct ad G A y t) A) ([.ref (ad a), va_re ad p0, .int p1, .int p2, .int p3] : List Value).toArray s 0 0 A) (F0 m 68 ls [.int y12]) := by
      intro H locs ls hP hD hS hl
      refine lv_istore (lv' := [(6, .int y12), (5, .int (128 : Int32)), (0, .ref (ad a)), (1, va_re ad p0), (2, .int p1), (3, .int p2), (4, .int p3)]) hx hb dX6_predictSixteen_68 hl (by decide) rfl (fun ls hl => ?_)
      refine lv_iload hx hb dX6_predictSixteen_70 (lv_at hl 6 rfl) ?_
      refine lv_iconst (v := (2 : Int32)) hx hb dX6_predictSixteen_72 (by decide) ?_
      refine lv_iand hx hb dX6_predictSixteen_73 ?_
      obtain ⟨x13, ex13, hF⟩ := ltt_some hF
      refine lv_topi (fun zx13 ezx13 => ?_)
      obtain rfl : x13 = zx13 := ex13.trans ezx13.symm
      obtain ⟨y14, hy14, hF⟩ := bnd_some hF
      have J14 : ∀ (H : Heap) (locs : List Loc) (ls : Array Slot), va_P D classes (wld ct ad G y9) H → va_D A (wld ct ad G y9) → va_S A s.heap H locs → lv_has ls 10 [(6, .int y12), (5, .int (128 : Int32)), (0, .ref (ad a)), (1, va_re ad p0), (2, .int p1), (3, .int p2), (4, .int p3)] → W p l e (headSpec wsX6_predictSixteen ({ frames := 1, cells := 0, slots := 0, locals := 33 })).room s m ([.ref (ad a), va_re ad p0, .int p1, .int p2, .int p3] : List Value).toArray below meth c H locs 0 0 (MQ below (va_Qv (fun (_ : Unit) => True) (fun _ t => kE D ct ad G A y t) A) ([.ref (ad a), va_re ad p0, .int p1, .int p2, .int p3] : List Value).toArray s 0 0 A) (F0 m 82 ls [.int y14]) := by
        intro H locs ls hP hD hS hl
        refine lv_istore (lv' := [(7, .int y14), (6, .int y12), (5, .int (128 : Int32)), (0, .ref (ad a)), (1, va_re ad p0), (2, .int p1), (3, .int p2), (4, .int p3)]) hx hb dX6_predictSixteen_82 hl (by decide) rfl (fun ls hl => ?_)
        refine lv_aload_n hx hb dX6_predictSixteen_84 rfl (lv_at hl 3 rfl) ?_
        refine lv_iconst (v := (1 : Int32)) hx hb dX6_predictSixteen_85 (by decide) ?_
        refine lv_bipush (v := (16 : Int32)) hx hb dX6_predictSixteen_86 (by decide) ?_
        obtain ⟨y15, hy15, hF⟩ := bnd_some hF
        have hf9 := wA_in hD hA9 hS
        refine va_calli (va_runV (As := [.int (1 : Int32), .int (16 : Int32)]) (rest := []) ⟨hx, hb, hml, hown, hts⟩ (kX6_sumAround l D ct ad Z G y9 H.size a ((1 : Int32)) ((16 : Int32)) y15 hc hk hy15) (cwV 2 hts gX6_predictSixteen_X6_sumAround rfl rfl rfl (by decide +kernel) ⟨Nat.le_of_ble_eq_true rfl, Nat.le_of_ble_eq_true rfl⟩) ⟨fun a U g mk q => by obtain ⟨q0, q1, qP, qK, qD, qZ, qN⟩ := q; exact ⟨q0, q1, qP, va_K.moved (u := U) (U := U.calling g mk a) (Vm.Alike.refl U.vm) qK, qD, sF.moved (u := U) (U := U.calling g mk a) (Vm.Alike.refl U.vm) qZ, nF.same rfl qN⟩, va_recv hK hP (ci := 6) (q0 := a) rfl (wld_o ct ad G y9 hc hk (by decide)), fun U hU hW => ⟨rfl, by rw [hU], by rw [hU]; exact hP, va_K.moved hW.alike hK, hD.weaken (fun _ _ _ _ => trivial), by rw [hU]; exact ((hZ.kept hS.2.1).narrow hf9).moved hW.alike, hN.warm hW⟩⟩ rfl rfl hl.1 rfl (lv_room (Nat.le_of_ble_eq_true rfl)) dX6_predictSixteen_88 ⟨(Nat.zero_le _), (Nat.zero_le _)⟩) hS (fun q _ h => hf9 q h) hf9 (fun r u t H locs ht hvm hw hB hz1 hk1 hS => ?_)
        obtain ⟨hP, hK9, hD9⟩ := hB
        rw [ht] at hP
        try dsimp only at hw
        subst hw
        have hD := hD9.weaken (fun _ q _ h => hf9 q.1 h)
        refine lv_aload_n hx hb dX6_predictSixteen_91 rfl (lv_at hl 3 rfl) ?_
        refine lv_bipush (v := (18 : Int32)) hx hb dX6_predictSixteen_92 (by decide) ?_
        refine lv_bipush (v := (16 : Int32)) hx hb dX6_predictSixteen_94 (by decide) ?_
        obtain ⟨y16, hy16, hF⟩ := bnd_some hF
        have hf9 := wA_in hD hA9 hS
        refine va_calli (va_runV (As := [.int (18 : Int32), .int (16 : Int32)]) (rest := [.int y15.2]) ⟨hx, hb, hml, hown, hts⟩ (kX6_sumAround l D ct ad Z G y15.1 H.size a ((18 : Int32)) ((16 : Int32)) y16 hc hk hy16) (cwV 2 hts gX6_predictSixteen_X6_sumAround rfl rfl rfl (by decide +kernel) ⟨Nat.le_of_ble_eq_true rfl, Nat.le_of_ble_eq_true rfl⟩) ⟨fun a U g mk q => by obtain ⟨q0, q1, qP, qK, qD, qZ, qN⟩ := q; exact ⟨q0, q1, qP, va_K.moved (u := U) (U := U.calling g mk a) (Vm.Alike.refl U.vm) qK, qD, sF.moved (u := U) (U := U.calling g mk a) (Vm.Alike.refl U.vm) qZ, nF.same rfl qN⟩, va_recv hK hP (ci := 6) (q0 := a) rfl (wld_o ct ad G y15.1 hc hk (by decide)), fun U hU hW => ⟨rfl, by rw [hU], by rw [hU]; exact hP, va_K.moved hW.alike hK, hD.weaken (fun _ _ _ _ => trivial), by rw [hU]; exact ((hZ.kept hS.2.1).narrow hf9).moved hW.alike, hN.warm hW⟩⟩ rfl rfl hl.1 rfl (lv_room (Nat.le_of_ble_eq_true rfl)) dX6_predictSixteen_96 ⟨(Nat.zero_le _), (Nat.zero_le _)⟩) hS (fun q _ h => hf9 q h) hf9 (fun r u t H locs ht hvm hw hB hz1 hk1 hS => ?_)
        obtain ⟨hP, hK9, hD9⟩ := hB
        rw [ht] at hP
        try dsimp only at hw
        subst hw
        have hD := hD9.weaken (fun _ q _ h => hf9 q.1 h)
        refine lv_iadd hx hb dX6_predictSixteen_99 ?_
        obtain ⟨x17, ex17, hF⟩ := ltt_some hF
        refine lv_topi (fun zx17 ezx17 => ?_)
        obtain rfl : x17 = zx17 := ex17.trans ezx17.symm
        refine lv_istore (lv' := [(8, .int x17), (7, .int y14), (6, .int y12), (5, .int (128 : Int32)), (0, .ref (ad a)), (1, va_re ad p0), (2, .int p1), (3, .int p2), (4, .int p3)]) hx hb dX6_predictSixteen_100 hl (by decide) rfl (fun ls hl => ?_)
        refine lv_iload hx hb dX6_predictSixteen_102 (lv_at hl 2 rfl) ?_
        obtain ⟨y18, hy18, hF⟩ := bnd_some hF
        have J18 : ∀ (H : Heap) (locs : List Loc) (ls : Array Slot), va_P D classes (wld ct ad G y16.1) H → va_D A (wld ct ad G y16.1) → va_S A s.heap H locs → lv_has ls 10 [(8, .int x17), (7, .int y14), (6, .int y12), (5, .int y18), (0, .ref (ad a)), (1, va_re ad p0), (2, .int p1), (3, .int p2), (4, .int p3)] → W p l e (headSpec wsX6_predictSixteen ({ frames := 1, cells := 0, slots := 0, locals := 33 })).room s m ([.ref (ad a), va_re ad p0, .int p1, .int p2, .int p3] : List Value).toArray below meth c H locs 0 0 (MQ below (va_Qv (fun (_ : Unit) => True) (fun _ t => kE D ct ad G A y t) A) ([.ref (ad a), va_re ad p0, .int p1, .int p2, .int p3] : List Value).toArray s 0 0 A) (F0 m 141 ls []) := by
          intro H locs ls hP hD hS hl
          refine lv_iconst (v := (0 : Int32)) hx hb dX6_predictSixteen_141 (by decide) ?_
          refine lv_istore (lv' := [(9, .int (0 : Int32)), (8, .int x17), (7, .int y14), (6, .int y12), (5, .int y18), (0, .ref (ad a)), (1, va_re ad p0), (2, .int p1), (3, .int p2), (4, .int p3)]) hx hb dX6_predictSixteen_142 hl (by decide) rfl (fun ls hl => ?_)
          obtain ⟨y19, hy19, hF⟩ := bnd_some hF
          have K19 : ∀ (H : Heap) (locs : List Loc) (ls : Array Slot), va_P D classes (wld ct ad G y19.2) H → va_D A (wld ct ad G y19.2) → va_S A s.heap H locs → lv_has ls 10 [(9, .int y19.1), (8, .int x17), (7, .int y14), (6, .int y12), (5, .int y18), (0, .ref (ad a)), (1, va_re ad p0), (2, .int p1), (3, .int p2), (4, .int p3)] → W p l e (headSpec wsX6_predictSixteen ({ frames := 1, cells := 0, slots := 0, locals := 33 })).room s m ([.ref (ad a), va_re ad p0, .int p1, .int p2, .int p3] : List Value).toArray below meth c H locs 0 0 (MQ below (va_Qv (fun (_ : Unit) => True) (fun _ t => kE D ct ad G A y t) A) ([.ref (ad a), va_re ad p0, .int p1, .int p2, .int p3] : List Value).toArray s 0 0 A) (F0 m 207 ls []) := by
            intro H locs ls hP hD hS hl
            obtain rfl := Option.some.inj hF
            exact W.vret hx hb hr (fun t ht hW => ⟨⟨(), rfl, trivial, ⟨by rw [ht]; exact hP, va_K.moved hW.alike hK, hD⟩⟩, hS.F ht⟩) hS.2.2 dX6_predictSixteen_207
          clear hF
          refine itr_rule (fun (s20 : Int32 × DD) => ∀ (H : Heap) (locs : List Loc) (ls : Array Slot), va_P D classes (wld ct ad G s20.2) H → va_D A (wld ct ad G s20.2) → va_S A s.heap H locs → lv_has ls 10 [(9, .int s20.1), (8, .int x17), (7, .int y14), (6, .int y12), (5, .int y18), (0, .ref (ad a)), (1, va_re ad p0), (2, .int p1), (3, .int p2), (4, .int p3)] → W p l e (headSpec wsX6_predictSixteen ({ frames := 1, cells := 0, slots := 0, locals := 33 })).room s m ([.ref (ad a), va_re ad p0, .int p1, .int p2, .int p3] : List Value).toArray below meth c H locs 0 0 (MQ below (va_Qv (fun (_ : Unit) => True) (fun _ t => kE D ct ad G A y t) A) ([.ref (ad a), va_re ad p0, .int p1, .int p2, .int p3] : List Value).toArray s 0 0 A) (F0 m 144 ls [])) ?_ _ _ hy19 _ _ _ hP hD hS (lv_sub hl [0, 1, 2, 3, 4, 5, 6, 7, 8, 9] rfl)
          rintro s20 ⟨z22, hF, hwz22⟩ H locs ls hP hD hS hl
          try dsimp only at hF
          refine lv_iload hx hb dX6_predictSixteen_144 (lv_at hl 0 rfl) ?_
          refine lv_sipush (v := (256 : Int32)) hx hb dX6_predictSixteen_146 (by decide) ?_
          refine lv_icmp_ge (tgt := 207) hx hb dX6_predictSixteen_149 (by decide) (fun c23 => ?_) (fun c23 => ?_)
          · rw [if_pos c23] at hF
            obtain rfl := Option.some.inj hF
            subst hwz22
            exact K19 _ _ _ hP hD hS (lv_sub hl [0, 1, 2, 3, 4, 5, 6, 7, 8, 9] rfl)
          · rw [if_neg c23] at hF
            refine lv_aload_n hx hb dX6_predictSixteen_152 rfl (lv_at hl 5 rfl) ?_
            refine va_get (D := D) (ci := 6) (v := va_re ad (s20.2.2 a 0)) (C := RX6) (T := TX6) (N := 14) hx hb hts (by decide +kernel) hown hK hP a (wld_o ct ad G s20.2 hc hk (by decide)) rfl 0 (by decide) (hts (.fieldLink RX6 9 "VideoSuite$Samples" "guess" "[I") (by decide +kernel)) (fun _ h9 => h9) rfl dX6_predictSixteen_153 ?_
            refine lv_iload hx hb dX6_predictSixteen_156 (lv_at hl 0 rfl) ?_
            refine lv_iload_n hx hb dX6_predictSixteen_158 rfl (lv_at hl 8 rfl) ?_
            obtain ⟨y24, hy24, hF⟩ := bnd_some hF
            have J24 : ∀ (H : Heap) (locs : List Loc) (ls : Array Slot), va_P D classes (wld ct ad G s20.2) H → va_D A (wld ct ad G s20.2) → va_S A s.heap H locs → lv_has ls 10 [(9, .int s20.1), (8, .int x17), (7, .int y14), (6, .int y12), (5, .int y18), (0, .ref (ad a)), (1, va_re ad p0), (2, .int p1), (3, .int p2), (4, .int p3)] → W p l e (headSpec wsX6_predictSixteen ({ frames := 1, cells := 0, slots := 0, locals := 33 })).room s m ([.ref (ad a), va_re ad p0, .int p1, .int p2, .int p3] : List Value).toArray below meth c H locs 0 0 (MQ below (va_Qv (fun (_ : Unit) => True) (fun _ t => kE D ct ad G A y t) A) ([.ref (ad a), va_re ad p0, .int p1, .int p2, .int p3] : List Value).toArray s 0 0 A) (F0 m 200 ls [.int y24, .int s20.1, va_re ad (s20.2.2 a 0)]) := by
              intro H locs ls hP hD hS hl
              obtain ⟨b25, ho25, hc25, hk25, hF⟩ := dr_some hF
              refine W_st (st' := [.int y24, .int s20.1, .ref (ad b25)]) (by rw [va_some ho25]) ?_
              obtain ⟨hvc, hF⟩ := chk_some hF
              refine va_iast hx hb hK hP hD hS b25 1 (wld_i ct ad G s20.2 hc25 hk25) rfl hvc dX6_predictSixteen_200 (fun H locs hP hD hS => ?_)
              obtain ⟨M26, eM26, hF⟩ := ltt_some hF
              rw [set_i ct ad G s20.2 hc25 hk25, ← eM26] at hP hD
              obtain ⟨x27, ex27, hF⟩ := ltt_some hF
              refine lv_iinc (v := x27) (lv' := [(9, .int x27), (8, .int x17), (7, .int y14), (6, .int y12), (5, .int y18), (0, .ref (ad a)), (1, va_re ad p0), (2, .int p1), (3, .int p2), (4, .int p3)]) hx hb dX6_predictSixteen_201 hl (k := 0) rfl (by rw [ex27]; rfl) (by decide) rfl (fun ls hl => ?_)
              refine lv_goto (tgt := 144) hx hb dX6_predictSixteen_204 (by decide) ?_
              obtain rfl := Option.some.inj hF
              exact hwz22 _ _ _ hP hD hS (lv_sub hl [0, 1, 2, 3, 4, 5, 6, 7, 8, 9] rfl)
            clear hF
            have hF := hy24
            clear hy24
            refine lv_if_ne (tgt := 177) hx hb dX6_predictSixteen_159 (by decide) (fun c28 => ?_) (fun c28 => ?_)
            · rw [if_neg c28] at hF
              refine lv_iload_n hx hb dX6_predictSixteen_177 rfl (lv_at hl 8 rfl) ?_
              refine lv_iconst (v := (1 : Int32)) hx hb dX6_predictSixteen_178 (by decide) ?_
              obtain ⟨y29, hy29, hF⟩ := bnd_some hF
              have J29 : ∀ (H : Heap) (locs : List Loc) (ls : Array Slot), va_P D classes (wld ct ad G s20.2) H → va_D A (wld ct ad G s20.2) → va_S A s.heap H locs → lv_has ls 10 [(9, .int s20.1), (8, .int x17), (7, .int y14), (6, .int y12), (5, .int y18), (0, .ref (ad a)), (1, va_re ad p0), (2, .int p1), (3, .int p2), (4, .int p3)] → W p l e (headSpec wsX6_predictSixteen ({ frames := 1, cells := 0, slots := 0, locals := 33 })).room s m ([.ref (ad a), va_re ad p0, .int p1, .int p2, .int p3] : List Value).toArray below meth c H locs 0 0 (MQ below (va_Qv (fun (_ : Unit) => True) (fun _ t => kE D ct ad G A y t) A) ([.ref (ad a), va_re ad p0, .int p1, .int p2, .int p3] : List Value).toArray s 0 0 A) (F0 m 200 ls [.int y29, .int s20.1, va_re ad (s20.2.2 a 0)]) := by
                intro H locs ls hP hD hS hl
                obtain rfl := Option.some.inj hF
                exact J24 _ _ _ hP hD hS (lv_sub hl [0, 1, 2, 3, 4, 5, 6, 7, 8, 9] rfl)
              clear hF
              have hF := hy29
              clear hy29
              refine lv_icmp_ne (tgt := 198) hx hb dX6_predictSixteen_179 (by decide) (fun c30 => ?_) (fun c30 => ?_)
              · rw [if_neg c30] at hF
                refine lv_iload hx hb dX6_predictSixteen_198 (lv_at hl 4 rfl) ?_
                obtain rfl := Option.some.inj hF
                exact J29 _ _ _ hP hD hS (lv_sub hl [0, 1, 2, 3, 4, 5, 6, 7, 8, 9] rfl)
              · rw [if_pos c30] at hF
                refine lv_aload_n hx hb dX6_predictSixteen_182 rfl (lv_at hl 5 rfl) ?_
                refine va_get (D := D) (ci := 6) (v := va_re ad (s20.2.2 a 8)) (C := RX6) (T := TX6) (N := 14) hx hb hts (by decide +kernel) hown hK hP a (wld_o ct ad G s20.2 hc hk (by decide)) rfl 8 (by decide) (hts (.fieldLink RX6 36 "VideoSuite$Samples" "around" "[I") (by decide +kernel)) (fun _ h9 => h9) rfl dX6_predictSixteen_183 ?_
                refine lv_bipush (v := (18 : Int32)) hx hb dX6_predictSixteen_186 (by decide) ?_
                refine lv_iload hx hb dX6_predictSixteen_188 (lv_at hl 0 rfl) ?_
                refine lv_bipush (v := (16 : Int32)) hx hb dX6_predictSixteen_190 (by decide) ?_
                refine lv_idiv hx hb dX6_predictSixteen_192 (by decide) ?_
                obtain ⟨x31, ex31, hF⟩ := ltt_some hF
                refine lv_topi (fun zx31 ezx31 => ?_)
                obtain rfl : x31 = zx31 := ex31.trans ezx31.symm
                refine lv_iadd hx hb dX6_predictSixteen_193 ?_
                obtain ⟨x32, ex32, hF⟩ := ltt_some hF
                refine lv_topi (fun zx32 ezx32 => ?_)
                obtain rfl : x32 = zx32 := ex32.trans ezx32.symm
                obtain ⟨b33, ho33, hc33, hk33, hF⟩ := dr_some hF
                refine W_st (st' := [.int x32, .ref (ad b33), .int s20.1, va_re ad (s20.2.2 a 0)]) (by rw [va_some ho33]) ?_
                obtain ⟨hvc, hF⟩ := chk_some hF
                refine va_iald hx hb hK hP b33 1 (wld_i ct ad G s20.2 hc33 hk33) rfl hvc dX6_predictSixteen_194 ?_
                obtain ⟨x34, ex34, hF⟩ := ltt_some hF
                refine lv_topi (fun zx34 ezx34 => ?_)
                obtain rfl : x34 = zx34 := ex34.trans ezx34.symm
                refine lv_goto (tgt := 200) hx hb dX6_predictSixteen_195 (by decide) ?_
                obtain rfl := Option.some.inj hF
                exact J29 _ _ _ hP hD hS (lv_sub hl [0, 1, 2, 3, 4, 5, 6, 7, 8, 9] rfl)
            · rw [if_pos c28] at hF
              refine lv_aload_n hx hb dX6_predictSixteen_162 rfl (lv_at hl 5 rfl) ?_
              refine va_get (D := D) (ci := 6) (v := va_re ad (s20.2.2 a 8)) (C := RX6) (T := TX6) (N := 14) hx hb hts (by decide +kernel) hown hK hP a (wld_o ct ad G s20.2 hc hk (by decide)) rfl 8 (by decide) (hts (.fieldLink RX6 36 "VideoSuite$Samples" "around" "[I") (by decide +kernel)) (fun _ h9 => h9) rfl dX6_predictSixteen_163 ?_
              refine lv_iconst (v := (1 : Int32)) hx hb dX6_predictSixteen_166 (by decide) ?_
              refine lv_iload hx hb dX6_predictSixteen_167 (lv_at hl 0 rfl) ?_
              refine lv_bipush (v := (16 : Int32)) hx hb dX6_predictSixteen_169 (by decide) ?_
              refine lv_irem hx hb dX6_predictSixteen_171 (by decide) ?_
              obtain ⟨x35, ex35, hF⟩ := ltt_some hF
              refine lv_topi (fun zx35 ezx35 => ?_)
              obtain rfl : x35 = zx35 := ex35.trans ezx35.symm
              refine lv_iadd hx hb dX6_predictSixteen_172 ?_
              obtain ⟨x36, ex36, hF⟩ := ltt_some hF
              refine lv_topi (fun zx36 ezx36 => ?_)
              obtain rfl : x36 = zx36 := ex36.trans ezx36.symm
              obtain ⟨b37, ho37, hc37, hk37, hF⟩ := dr_some hF
              refine W_st (st' := [.int x36, .ref (ad b37), .int s20.1, va_re ad (s20.2.2 a 0)]) (by rw [va_some ho37]) ?_
              obtain ⟨hvc, hF⟩ := chk_some hF
              refine va_iald hx hb hK hP b37 1 (wld_i ct ad G s20.2 hc37 hk37) rfl hvc dX6_predictSixteen_173 ?_
              obtain ⟨x38, ex38, hF⟩ := ltt_some hF
              refine lv_topi (fun zx38 ezx38 => ?_)
              obtain rfl : x38 = zx38 := ex38.trans ezx38.symm
              refine lv_goto (tgt := 200) hx hb dX6_predictSixteen_174 (by decide) ?_
              obtain rfl := Option.some.inj hF
              exact J24 _ _ _ hP hD hS (lv_sub hl [0, 1, 2, 3, 4, 5, 6, 7, 8, 9] rfl)
        clear hF
        have hF := hy18
        clear hy18
        refine lv_if_ne (tgt := 112) hx hb dX6_predictSixteen_104 (by decide) (fun c39 => ?_) (fun c39 => ?_)
        · rw [if_neg c39] at hF
          refine lv_iload hx hb dX6_predictSixteen_112 (lv_at hl 2 rfl) ?_
          obtain ⟨y40, hy40, hF⟩ := bnd_some hF
          have J40 : ∀ (H : Heap) (locs : List Loc) (ls : Array Slot), va_P D classes (wld ct ad G y16.1) H → va_D A (wld ct ad G y16.1) → va_S A s.heap H locs → lv_has ls 10 [(8, .int x17), (7, .int y14), (6, .int y12), (5, .int (128 : Int32)), (0, .ref (ad a)), (1, va_re ad p0), (2, .int p1), (3, .int p2), (4, .int p3)] → W p l e (headSpec wsX6_predictSixteen ({ frames := 1, cells := 0, slots := 0, locals := 33 })).room s m ([.ref (ad a), va_re ad p0, .int p1, .int p2, .int p3] : List Value).toArray below meth c H locs 0 0 (MQ below (va_Qv (fun (_ : Unit) => True) (fun _ t => kE D ct ad G A y t) A) ([.ref (ad a), va_re ad p0, .int p1, .int p2, .int p3] : List Value).toArray s 0 0 A) (F0 m 139 ls [.int y40]) := by
            intro H locs ls hP hD hS hl
            refine lv_istore (lv' := [(5, .int y40), (8, .int x17), (7, .int y14), (6, .int y12), (0, .ref (ad a)), (1, va_re ad p0), (2, .int p1), (3, .int p2), (4, .int p3)]) hx hb dX6_predictSixteen_139 hl (by decide) rfl (fun ls hl => ?_)
            obtain rfl := Option.some.inj hF
            exact J18 _ _ _ hP hD hS (lv_sub hl [1, 2, 3, 0, 4, 5, 6, 7, 8] rfl)
          clear hF
          have hF := hy40
          clear hy40
          refine lv_if_eq (tgt := 132) hx hb dX6_predictSixteen_114 (by decide) (fun c41 => ?_) (fun c41 => ?_)
          · rw [if_pos c41] at hF
            refine lv_iload hx hb dX6_predictSixteen_132 (lv_at hl 0 rfl) ?_
            refine lv_bipush (v := (8 : Int32)) hx hb dX6_predictSixteen_134 (by decide) ?_
            refine lv_iadd hx hb dX6_predictSixteen_136 ?_
            obtain ⟨x42, ex42, hF⟩ := ltt_some hF
            refine lv_topi (fun zx42 ezx42 => ?_)
            obtain rfl : x42 = zx42 := ex42.trans ezx42.symm
            refine lv_iconst (v := (4 : Int32)) hx hb dX6_predictSixteen_137 (by decide) ?_
            refine lv_ishr hx hb dX6_predictSixteen_138 ?_
            obtain ⟨x43, ex43, hF⟩ := ltt_some hF
            refine lv_topi (fun zx43 ezx43 => ?_)
            obtain rfl : x43 = zx43 := ex43.trans ezx43.symm
            obtain rfl := Option.some.inj hF
            exact J40 _ _ _ hP hD hS (lv_sub hl [0, 1, 2, 3, 4, 5, 6, 7, 8] rfl)
          · rw [if_neg c41] at hF
            refine lv_iload hx hb dX6_predictSixteen_117 (lv_at hl 1 rfl) ?_
            obtain ⟨y44, hy44, hF⟩ := bnd_some hF
            have J44 : ∀ (H : Heap) (locs : List Loc) (ls : Array Slot), va_P D classes (wld ct ad G y16.1) H → va_D A (wld ct ad G y16.1) → va_S A s.heap H locs → lv_has ls 10 [(8, .int x17), (7, .int y14), (6, .int y12), (5, .int (128 : Int32)), (0, .ref (ad a)), (1, va_re ad p0), (2, .int p1), (3, .int p2), (4, .int p3)] → W p l e (headSpec wsX6_predictSixteen ({ frames := 1, cells := 0, slots := 0, locals := 33 })).room s m ([.ref (ad a), va_re ad p0, .int p1, .int p2, .int p3] : List Value).toArray below meth c H locs 0 0 (MQ below (va_Qv (fun (_ : Unit) => True) (fun _ t => kE D ct ad G A y t) A) ([.ref (ad a), va_re ad p0, .int p1, .int p2, .int p3] : List Value).toArray s 0 0 A) (F0 m 139 ls [.int y44]) := by
              intro H locs ls hP hD hS hl
              obtain rfl := Option.some.inj hF
              exact J40 _ _ _ hP hD hS (lv_sub hl [0, 1, 2, 3, 4, 5, 6, 7, 8] rfl)
            clear hF
            have hF := hy44
            clear hy44
            refine lv_if_eq (tgt := 132) hx hb dX6_predictSixteen_119 (by decide) (fun c45 => ?_) (fun c45 => ?_)
            · rw [if_pos c45] at hF
              refine lv_iload hx hb dX6_predictSixteen_132 (lv_at hl 0 rfl) ?_
              refine lv_bipush (v := (8 : Int32)) hx hb dX6_predictSixteen_134 (by decide) ?_
              refine lv_iadd hx hb dX6_predictSixteen_136 ?_
              obtain ⟨x46, ex46, hF⟩ := ltt_some hF
              refine lv_topi (fun zx46 ezx46 => ?_)
              obtain rfl : x46 = zx46 := ex46.trans ezx46.symm
              refine lv_iconst (v := (4 : Int32)) hx hb dX6_predictSixteen_137 (by decide) ?_
              refine lv_ishr hx hb dX6_predictSixteen_138 ?_
              obtain ⟨x47, ex47, hF⟩ := ltt_some hF
              refine lv_topi (fun zx47 ezx47 => ?_)
              obtain rfl : x47 = zx47 := ex47.trans ezx47.symm
              obtain rfl := Option.some.inj hF
              exact J44 _ _ _ hP hD hS (lv_sub hl [0, 1, 2, 3, 4, 5, 6, 7, 8] rfl)
            · rw [if_neg c45] at hF
              refine lv_iload hx hb dX6_predictSixteen_122 (lv_at hl 0 rfl) ?_
              refine lv_bipush (v := (16 : Int32)) hx hb dX6_predictSixteen_124 (by decide) ?_
              refine lv_iadd hx hb dX6_predictSixteen_126 ?_
              obtain ⟨x48, ex48, hF⟩ := ltt_some hF
              refine lv_topi (fun zx48 ezx48 => ?_)
              obtain rfl : x48 = zx48 := ex48.trans ezx48.symm
              refine lv_iconst (v := (5 : Int32)) hx hb dX6_predictSixteen_127 (by decide) ?_
              refine lv_ishr hx hb dX6_predictSixteen_128 ?_
              obtain ⟨x49, ex49, hF⟩ := ltt_some hF
              refine lv_topi (fun zx49 ezx49 => ?_)
              obtain rfl : x49 = zx49 := ex49.trans ezx49.symm
              refine lv_goto (tgt := 139) hx hb dX6_predictSixteen_129 (by decide) ?_
              obtain rfl := Option.some.inj hF
              exact J44 _ _ _ hP hD hS (lv_sub hl [0, 1, 2, 3, 4, 5, 6, 7, 8] rfl)
        · rw [if_pos c39] at hF
          refine lv_iload hx hb dX6_predictSixteen_107 (lv_at hl 1 rfl) ?_
          obtain ⟨y50, hy50, hF⟩ := bnd_some hF
          have J50 : ∀ (H : Heap) (locs : List Loc) (ls : Array Slot), va_P D classes (wld ct ad G y16.1) H → va_D A (wld ct ad G y16.1) → va_S A s.heap H locs → lv_has ls 10 [(8, .int x17), (7, .int y14), (6, .int y12), (5, .int y50), (0, .ref (ad a)), (1, va_re ad p0), (2, .int p1), (3, .int p2), (4, .int p3)] → W p l e (headSpec wsX6_predictSixteen ({ frames := 1, cells := 0, slots := 0, locals := 33 })).room s m ([.ref (ad a), va_re ad p0, .int p1, .int p2, .int p3] : List Value).toArray below meth c H locs 0 0 (MQ below (va_Qv (fun (_ : Unit) => True) (fun _ t => kE D ct ad G A y t) A) ([.ref (ad a), va_re ad p0, .int p1, .int p2, .int p3] : List Value).toArray s 0 0 A) (F0 m 141 ls []) := by
            intro H locs ls hP hD hS hl
            obtain rfl := Option.some.inj hF
            exact J18 _ _ _ hP hD hS (lv_sub hl [0, 1, 2, 3, 4, 5, 6, 7, 8] rfl)
          clear hF
          have hF := hy50
          clear hy50
          refine lv_if_eq (tgt := 141) hx hb dX6_predictSixteen_109 (by decide) (fun c51 => ?_) (fun c51 => ?_)
          · rw [if_pos c51] at hF
            obtain rfl := Option.some.inj hF
            exact J50 _ _ _ hP hD hS (lv_sub hl [0, 1, 2, 3, 4, 5, 6, 7, 8] rfl)
          · rw [if_neg c51] at hF
            refine lv_iload hx hb dX6_predictSixteen_112 (lv_at hl 2 rfl) ?_
            obtain ⟨y52, hy52, hF⟩ := bnd_some hF
            have J52 : ∀ (H : Heap) (locs : List Loc) (ls : Array Slot), va_P D classes (wld ct ad G y16.1) H → va_D A (wld ct ad G y16.1) → va_S A s.heap H locs → lv_has ls 10 [(8, .int x17), (7, .int y14), (6, .int y12), (5, .int (128 : Int32)), (0, .ref (ad a)), (1, va_re ad p0), (2, .int p1), (3, .int p2), (4, .int p3)] → W p l e (headSpec wsX6_predictSixteen ({ frames := 1, cells := 0, slots := 0, locals := 33 })).room s m ([.ref (ad a), va_re ad p0, .int p1, .int p2, .int p3] : List Value).toArray below meth c H locs 0 0 (MQ below (va_Qv (fun (_ : Unit) => True) (fun _ t => kE D ct ad G A y t) A) ([.ref (ad a), va_re ad p0, .int p1, .int p2, .int p3] : List Value).toArray s 0 0 A) (F0 m 139 ls [.int y52]) := by
              intro H locs ls hP hD hS hl
              refine lv_istore (lv' := [(5, .int y52), (8, .int x17), (7, .int y14), (6, .int y12), (0, .ref (ad a)), (1, va_re ad p0), (2, .int p1), (3, .int p2), (4, .int p3)]) hx hb dX6_predictSixteen_139 hl (by decide) rfl (fun ls hl => ?_)
              obtain rfl := Option.some.inj hF
              exact J50 _ _ _ hP hD hS (lv_sub hl [1, 2, 3, 0, 4, 5, 6, 7, 8] rfl)
            clear hF
            have hF := hy52
            clear hy52
            refine lv_if_eq (tgt := 132) hx hb dX6_predictSixteen_114 (by decide) (fun c53 => ?_) (fun c53 => ?_)
            · rw [if_pos c53] at hF
              refine lv_iload hx hb dX6_predictSixteen_132 (lv_at hl 0 rfl) ?_
              refine lv_bipush (v := (8 : Int32)) hx hb dX6_predictSixteen_134 (by decide) ?_
              refine lv_iadd hx hb dX6_predictSixteen_136 ?_
              obtain ⟨x54, ex54, hF⟩ := ltt_some hF
              refine lv_topi (fun zx54 ezx54 => ?_)
              obtain rfl : x54 = zx54 := ex54.trans ezx54.symm
              refine lv_iconst (v := (4 : Int32)) hx hb dX6_predictSixteen_137 (by decide) ?_
              refine lv_ishr hx hb dX6_predictSixteen_138 ?_
              obtain ⟨x55, ex55, hF⟩ := ltt_some hF
              refine lv_topi (fun zx55 ezx55 => ?_)
              obtain rfl : x55 = zx55 := ex55.trans ezx55.symm
              obtain rfl := Option.some.inj hF
              exact J52 _ _ _ hP hD hS (lv_sub hl [0, 1, 2, 3, 4, 5, 6, 7, 8] rfl)
            · rw [if_neg c53] at hF
              refine lv_iload hx hb dX6_predictSixteen_117 (lv_at hl 1 rfl) ?_
              obtain ⟨y56, hy56, hF⟩ := bnd_some hF
              have J56 : ∀ (H : Heap) (locs : List Loc) (ls : Array Slot), va_P D classes (wld ct ad G y16.1) H → va_D A (wld ct ad G y16.1) → va_S A s.heap H locs → lv_has ls 10 [(8, .int x17), (7, .int y14), (6, .int y12), (5, .int (128 : Int32)), (0, .ref (ad a)), (1, va_re ad p0), (2, .int p1), (3, .int p2), (4, .int p3)] → W p l e (headSpec wsX6_predictSixteen ({ frames := 1, cells := 0, slots := 0, locals := 33 })).room s m ([.ref (ad a), va_re ad p0, .int p1, .int p2, .int p3] : List Value).toArray below meth c H locs 0 0 (MQ below (va_Qv (fun (_ : Unit) => True) (fun _ t => kE D ct ad G A y t) A) ([.ref (ad a), va_re ad p0, .int p1, .int p2, .int p3] : List Value).toArray s 0 0 A) (F0 m 139 ls [.int y56]) := by
                intro H locs ls hP hD hS hl
                obtain rfl := Option.some.inj hF
                exact J52 _ _ _ hP hD hS (lv_sub hl [0, 1, 2, 3, 4, 5, 6, 7, 8] rfl)
              clear hF
              have hF := hy56
              clear hy56
              refine lv_if_eq (tgt := 132) hx hb dX6_predictSixteen_119 (by decide) (fun c57 => ?_) (fun c57 => ?_)
              · rw [if_pos c57] at hF
                refine lv_iload hx hb dX6_predictSixteen_132 (lv_at hl 0 rfl) ?_
                refine lv_bipush (v := (8 : Int32)) hx hb dX6_predictSixteen_134 (by decide) ?_
                refine lv_iadd hx hb dX6_predictSixteen_136 ?_
                obtain ⟨x58, ex58, hF⟩ := ltt_some hF
                refine lv_topi (fun zx58 ezx58 => ?_)
                obtain rfl : x58 = zx58 := ex58.trans ezx58.symm
                refine lv_iconst (v := (4 : Int32)) hx hb dX6_predictSixteen_137 (by decide) ?_
                refine lv_ishr hx hb dX6_predictSixteen_138 ?_
                obtain ⟨x59, ex59, hF⟩ := ltt_some hF
                refine lv_topi (fun zx59 ezx59 => ?_)
                obtain rfl : x59 = zx59 := ex59.trans ezx59.symm
                obtain rfl := Option.some.inj hF
                exact J56 _ _ _ hP hD hS (lv_sub hl [0, 1, 2, 3, 4, 5, 6, 7, 8] rfl)
              · rw [if_neg c57] at hF
                refine lv_iload hx hb dX6_predictSixteen_122 (lv_at hl 0 rfl) ?_
                refine lv_bipush (v := (16 : Int32)) hx hb dX6_predictSixteen_124 (by decide) ?_
                refine lv_iadd hx hb dX6_predictSixteen_126 ?_
                obtain ⟨x60, ex60, hF⟩ := ltt_some hF
                refine lv_topi (fun zx60 ezx60 => ?_)
                obtain rfl : x60 = zx60 := ex60.trans ezx60.symm
                refine lv_iconst (v := (5 : Int32)) hx hb dX6_predictSixteen_127 (by decide) ?_
                refine lv_ishr hx hb dX6_predictSixteen_128 ?_
                obtain ⟨x61, ex61, hF⟩ := ltt_some hF
                refine lv_topi (fun zx61 ezx61 => ?_)
                obtain rfl : x61 = zx61 := ex61.trans ezx61.symm
                refine lv_goto (tgt := 139) hx hb dX6_predictSixteen_129 (by decide) ?_
                obtain rfl := Option.some.inj hF
                exact J56 _ _ _ hP hD hS (lv_sub hl [0, 1, 2, 3, 4, 5, 6, 7, 8] rfl)
      clear hF
      have hF := hy14
      clear hy14
      refine lv_if_eq (tgt := 81) hx hb dX6_predictSixteen_74 (by decide) (fun c62 => ?_) (fun c62 => ?_)
      · rw [if_pos c62] at hF
        refine lv_iconst (v := (0 : Int32)) hx hb dX6_predictSixteen_81 (by decide) ?_
        obtain rfl := Option.some.inj hF
        exact J14 _ _ _ hP hD hS (lv_sub hl [0, 1, 2, 3, 4, 5, 6] rfl)
      · rw [if_neg c62] at hF
        refine lv_iconst (v := (1 : Int32)) hx hb dX6_predictSixteen_77 (by decide) ?_
        refine lv_goto (tgt := 82) hx hb dX6_predictSixteen_78 (by decide) ?_
        obtain rfl := Option.some.inj hF
        exact J14 _ _ _ hP hD hS (lv_sub hl [0, 1, 2, 3, 4, 5, 6] rfl)
    clear hF
    have hF := hy12
    clear hy12
    refine lv_if_eq (tgt := 67) hx hb dX6_predictSixteen_60 (by decide) (fun c63 => ?_) (fun c63 => ?_)
    · rw [if_pos c63] at hF
      refine lv_iconst (v := (0 : Int32)) hx hb dX6_predictSixteen_67 (by decide) ?_
      obtain rfl := Option.some.inj hF
      exact J12 _ _ _ hP hD hS (lv_sub hl [0, 1, 2, 3, 4, 5] rfl)
    · rw [if_neg c63] at hF
      refine lv_iconst (v := (1 : Int32)) hx hb dX6_predictSixteen_63 (by decide) ?_
      refine lv_goto (tgt := 68) hx hb dX6_predictSixteen_64 (by decide) ?_
      obtain rfl := Option.some.inj hF
      exact J12 _ _ _ hP hD hS (lv_sub hl [0, 1, 2, 3, 4, 5] rfl)
  · rw [if_pos c10] at hF
    refine lv_aload_n hx hb dX6_predictSixteen_42 rfl (lv_at hl 0 rfl) ?_
    refine lv_iconst (v := (0 : Int32)) hx hb dX6_predictSixteen_43 (by decide) ?_
    refine lv_bipush (v := (16 : Int32)) hx hb dX6_predictSixteen_44 (by decide) ?_
    refine lv_iconst (v := (5 : Int32)) hx hb dX6_predictSixteen_46 (by decide) ?_
    obtain ⟨y64, hy64, hF⟩ := bnd_some hF
    have hf9 := wA_in hD hA9 hS
    refine va_callv (va_runV (As := [.int (0 : Int32), .int (16 : Int32), .int (5 : Int32)]) (rest := []) ⟨hx, hb, hml, hown, hts⟩ (kX6_fillPlane l D ct ad Z G y9 H.size a ((0 : Int32)) ((16 : Int32)) ((5 : Int32)) y64 hc hk hy64) (cwV 3 hts gX6_predictSixteen_X6_fillPlane rfl rfl rfl (by decide +kernel) ⟨Nat.le_of_ble_eq_true rfl, Nat.le_of_ble_eq_true rfl⟩) ⟨fun a U g mk q => by obtain ⟨q0, q1, qP, qK, qD, qZ, qN⟩ := q; exact ⟨q0, q1, qP, va_K.moved (u := U) (U := U.calling g mk a) (Vm.Alike.refl U.vm) qK, qD, sF.moved (u := U) (U := U.calling g mk a) (Vm.Alike.refl U.vm) qZ, nF.same rfl qN⟩, va_recv hK hP (ci := 6) (q0 := a) rfl (wld_o ct ad G y9 hc hk (by decide)), fun U hU hW => ⟨rfl, by rw [hU], by rw [hU]; exact hP, va_K.moved hW.alike hK, hD.weaken (fun _ _ _ _ => trivial), by rw [hU]; exact ((hZ.kept hS.2.1).narrow hf9).moved hW.alike, hN.warm hW⟩⟩ rfl rfl hl.1 rfl (lv_room (Nat.le_of_ble_eq_true rfl)) dX6_predictSixteen_47 ⟨(Nat.zero_le _), (Nat.zero_le _)⟩) hS (fun q _ h => hf9 q h) hf9 (fun u t H locs ht hvm hw hB hz1 hk1 hS => ?_)
    obtain ⟨hP, hK9, hD9⟩ := hB
    rw [ht] at hP
    have hD := hD9.weaken (fun _ q _ h => hf9 q.1 h)
    obtain rfl := Option.some.inj hF
    exact W.vret hx hb hr (fun t ht hW => ⟨⟨(), rfl, trivial, ⟨by rw [ht]; exact hP, va_K.moved hW.alike hK, hD⟩⟩, hS.F ht⟩) hS.2.2 dX6_predictSixteen_50
theorem ggX6_slant_X6_three : GoodIn wsX6_slant wsX6_three := goodIn_r _ [10, 6, 11, 12, 13, 14, 15, 16, 17, 18, 19, 20, 21, 22, 23, 24] (by decide +kernel) (by decide +kernel)
set_option maxRecDepth 20000 in
theorem gX6_slant_X6_three : GoodIn wsX6_slant (wsV RX6 186 RX6 yX6_three wsX6_three) := goodIn_app (goodIn_of _ (by decide +kernel)) ggX6_slant_X6_three
theorem ggX6_slant_X6_two : GoodIn wsX6_slant wsX6_two := goodIn_r _ [5, 6, 11, 12, 13, 14, 15, 16, 17, 18, 19, 20, 21, 22, 23, 24] (by decide +kernel) (by decide +kernel)
set_option maxRecDepth 20000 in
theorem gX6_slant_X6_two : GoodIn wsX6_slant (wsV RX6 192 RX6 yX6_two wsX6_two) := goodIn_app (goodIn_of _ (by decide +kernel)) ggX6_slant_X6_two
set_option maxRecDepth 20000 in
theorem dX6_slant_0 : decode cX6_slant 0 = .ok (.iconst 2, 1) := by decide +kernel
theorem dX6_slant_1 : decode cX6_slant 1 = .ok (.iload_n 1, 1) := by decide +kernel
theorem dX6_slant_2 : decode cX6_slant 2 = .ok (.imul, 1) := by decide +kernel
theorem dX6_slant_3 : decode cX6_slant 3 = .ok (.iload_n 2, 1) := by decide +kernel
theorem dX6_slant_4 : decode cX6_slant 4 = .ok (.isub, 1) := by decide +kernel
theorem dX6_slant_5 : decode cX6_slant 5 = .ok (.istore 4, 2) := by decide +kernel
theorem dX6_slant_7 : decode cX6_slant 7 = .ok (.iload_n 1, 1) := by decide +kernel
theorem dX6_slant_8 : decode cX6_slant 8 = .ok (.iload_n 2, 1) := by decide +kernel
theorem dX6_slant_9 : decode cX6_slant 9 = .ok (.iconst 1, 1) := by decide +kernel
theorem dX6_slant_10 : decode cX6_slant 10 = .ok (.ishr, 1) := by decide +kernel
theorem dX6_slant_11 : decode cX6_slant 11 = .ok (.isub, 1) := by decide +kernel
theorem dX6_slant_12 : decode cX6_slant 12 = .ok (.istore 5, 2) := by decide +kernel
theorem dX6_slant_14 : decode cX6_slant 14 = .ok (.iload 4, 2) := by decide +kernel
theorem dX6_slant_16 : decode cX6_slant 16 = .ok (.ifCond .lt 29, 3) := by decide +kernel
theorem dX6_slant_19 : decode cX6_slant 19 = .ok (.iload 4, 2) := by decide +kernel
theorem dX6_slant_21 : decode cX6_slant 21 = .ok (.iconst 2, 1) := by decide +kernel
theorem dX6_slant_22 : decode cX6_slant 22 = .ok (.irem, 1) := by decide +kernel
theorem dX6_slant_23 : decode cX6_slant 23 = .ok (.ifCond .ne 22, 3) := by decide +kernel
theorem dX6_slant_26 : decode cX6_slant 26 = .ok (.aload_n 0, 1) := by decide +kernel
theorem dX6_slant_27 : decode cX6_slant 27 = .ok (.iconst 4, 1) := by decide +kernel
theorem dX6_slant_28 : decode cX6_slant 28 = .ok (.iload_n 3, 1) := by decide +kernel
theorem dX6_slant_29 : decode cX6_slant 29 = .ok (.iload 5, 2) := by decide +kernel
theorem dX6_slant_31 : decode cX6_slant 31 = .ok (.imul, 1) := by decide +kernel
theorem dX6_slant_32 : decode cX6_slant 32 = .ok (.iadd, 1) := by decide +kernel
theorem dX6_slant_33 : decode cX6_slant 33 = .ok (.iconst 4, 1) := by decide +kernel
theorem dX6_slant_34 : decode cX6_slant 34 = .ok (.iload_n 3, 1) := by decide +kernel
theorem dX6_slant_35 : decode cX6_slant 35 = .ok (.iload 5, 2) := by decide +kernel
theorem dX6_slant_37 : decode cX6_slant 37 = .ok (.iconst 1, 1) := by decide +kernel
theorem dX6_slant_38 : decode cX6_slant 38 = .ok (.iadd, 1) := by decide +kernel
theorem dX6_slant_39 : decode cX6_slant 39 = .ok (.imul, 1) := by decide +kernel
theorem dX6_slant_40 : decode cX6_slant 40 = .ok (.iadd, 1) := by decide +kernel
theorem dX6_slant_41 : decode cX6_slant 41 = .ok (.invokevirtual 192, 3) := by decide +kernel
theorem dX6_slant_44 : decode cX6_slant 44 = .ok (.ireturn, 1) := by decide +kernel
theorem dX6_slant_45 : decode cX6_slant 45 = .ok (.iload 4, 2) := by decide +kernel
theorem dX6_slant_47 : decode cX6_slant 47 = .ok (.ifCond .le 8, 3) := by decide +kernel
theorem dX6_slant_50 : decode cX6_slant 50 = .ok (.iload 5, 2) := by decide +kernel
theorem dX6_slant_52 : decode cX6_slant 52 = .ok (.goto 16, 3) := by decide +kernel
theorem dX6_slant_55 : decode cX6_slant 55 = .ok (.iload 4, 2) := by decide +kernel
theorem dX6_slant_57 : decode cX6_slant 57 = .ok (.iconst (-1), 1) := by decide +kernel
theorem dX6_slant_58 : decode cX6_slant 58 = .ok (.if_icmp .ne 7, 3) := by decide +kernel
theorem dX6_slant_61 : decode cX6_slant 61 = .ok (.iconst 0, 1) := by decide +kernel
theorem dX6_slant_62 : decode cX6_slant 62 = .ok (.goto 6, 3) := by decide +kernel
theorem dX6_slant_65 : decode cX6_slant 65 = .ok (.iconst 1, 1) := by decide +kernel
theorem dX6_slant_66 : decode cX6_slant 66 = .ok (.iload_n 2, 1) := by decide +kernel
theorem dX6_slant_67 : decode cX6_slant 67 = .ok (.isub, 1) := by decide +kernel
theorem dX6_slant_68 : decode cX6_slant 68 = .ok (.istore 6, 2) := by decide +kernel
theorem dX6_slant_70 : decode cX6_slant 70 = .ok (.aload_n 0, 1) := by decide +kernel
theorem dX6_slant_71 : decode cX6_slant 71 = .ok (.iconst 4, 1) := by decide +kernel
theorem dX6_slant_72 : decode cX6_slant 72 = .ok (.iload_n 3, 1) := by decide +kernel
theorem dX6_slant_73 : decode cX6_slant 73 = .ok (.iload 6, 2) := by decide +kernel
theorem dX6_slant_75 : decode cX6_slant 75 = .ok (.iconst 1, 1) := by decide +kernel
theorem dX6_slant_76 : decode cX6_slant 76 = .ok (.isub, 1) := by decide +kernel
theorem dX6_slant_77 : decode cX6_slant 77 = .ok (.imul, 1) := by decide +kernel
theorem dX6_slant_78 : decode cX6_slant 78 = .ok (.iadd, 1) := by decide +kernel
theorem dX6_slant_79 : decode cX6_slant 79 = .ok (.iconst 4, 1) := by decide +kernel
theorem dX6_slant_80 : decode cX6_slant 80 = .ok (.iload_n 3, 1) := by decide +kernel
theorem dX6_slant_81 : decode cX6_slant 81 = .ok (.iload 6, 2) := by decide +kernel
theorem dX6_slant_83 : decode cX6_slant 83 = .ok (.imul, 1) := by decide +kernel
theorem dX6_slant_84 : decode cX6_slant 84 = .ok (.iadd, 1) := by decide +kernel
theorem dX6_slant_85 : decode cX6_slant 85 = .ok (.iconst 4, 1) := by decide +kernel
theorem dX6_slant_86 : decode cX6_slant 86 = .ok (.iload_n 3, 1) := by decide +kernel
theorem dX6_slant_87 : decode cX6_slant 87 = .ok (.iload 6, 2) := by decide +kernel
theorem dX6_slant_89 : decode cX6_slant 89 = .ok (.iconst 1, 1) := by decide +kernel
theorem dX6_slant_90 : decode cX6_slant 90 = .ok (.iadd, 1) := by decide +kernel
theorem dX6_slant_91 : decode cX6_slant 91 = .ok (.imul, 1) := by decide +kernel
theorem dX6_slant_92 : decode cX6_slant 92 = .ok (.iadd, 1) := by decide +kernel
theorem dX6_slant_93 : decode cX6_slant 93 = .ok (.invokevirtual 186, 3) := by decide +kernel
theorem dX6_slant_96 : decode cX6_slant 96 = .ok (.ireturn, 1) := by decide +kernel
def FX6_slant (G : GG) (M : DD) (a : Nat) (p0 : Int32) (p1 : Int32) (p2 : Int32) : Option (DD × Int32) :=
  ltt ((((2 : Int32)) * p0)) fun x1 =>
  ltt ((x1 - p1)) fun x2 =>
  ltt ((p1 >>> (((1 : Int32)) &&& 31))) fun x3 =>
  ltt ((p0 - x3)) fun x4 =>
  if x2 < ((0 : Int32)) then (bnd (if x2 ≤ ((0 : Int32)) then (bnd (if x2 = ((-1 : Int32)) then (some ((0 : Int32))) else
  (ltt ((((1 : Int32)) - p1)) fun x19 =>
  some (x19))) fun (y17 : Int32) =>
  some (y17)) else
  (some (x4))) fun (y6 : Int32) =>
  ltt ((y6 - ((1 : Int32)))) fun x7 =>
  ltt ((p2 * x7)) fun x8 =>
  ltt ((((4 : Int32)) + x8)) fun x9 =>
  ltt ((p2 * y6)) fun x10 =>
  ltt ((((4 : Int32)) + x10)) fun x11 =>
  ltt ((y6 + ((1 : Int32)))) fun x12 =>
  ltt ((p2 * x12)) fun x13 =>
  ltt ((((4 : Int32)) + x13)) fun x14 =>
  bnd (FX6_three G M a x9 x11 x14) fun y15 =>
  some (y15.1, y15.2)) else
  (ltt (x2 - x2 / ((2 : Int32)) * ((2 : Int32))) fun x20 =>
  if x20 = ((0 : Int32)) then (ltt ((p2 * x4)) fun x36 =>
  ltt ((((4 : Int32)) + x36)) fun x37 =>
  ltt ((x4 + ((1 : Int32)))) fun x38 =>
  ltt ((p2 * x38)) fun x39 =>
  ltt ((((4 : Int32)) + x39)) fun x40 =>
  bnd (FX6_two G M a x37 x40) fun y41 =>
  some (y41.1, y41.2)) else
  (bnd (if x2 ≤ ((0 : Int32)) then (bnd (if x2 = ((-1 : Int32)) then (some ((0 : Int32))) else
  (ltt ((((1 : Int32)) - p1)) fun x35 =>
  some (x35))) fun (y33 : Int32) =>
  some (y33)) else
  (some (x4))) fun (y22 : Int32) =>
  ltt ((y22 - ((1 : Int32)))) fun x23 =>
  ltt ((p2 * x23)) fun x24 =>
  ltt ((((4 : Int32)) + x24)) fun x25 =>
  ltt ((p2 * y22)) fun x26 =>
  ltt ((((4 : Int32)) + x26)) fun x27 =>
  ltt ((y22 + ((1 : Int32)))) fun x28 =>
  ltt ((p2 * x28)) fun x29 =>
  ltt ((((4 : Int32)) + x29)) fun x30 =>
  bnd (FX6_three G M a x25 x27 x30) fun y31 =>
  some (y31.1, y31.2)))
set_option maxHeartbeats 4000000 in
set_option maxRecDepth 100000 in
theorem kX6_slant (l : Launch) (D : va_G) (ct : CT) (ad : Nat → Nat) (Z : Nat → Nat) (G : GG) (M : DD) (sz : Nat) (a : Nat) (p0 : Int32) (p1 : Int32) (p2 : Int32) (y : DD × Int32) (hc : a < G.1) (hk : G.2.1 a = 6) (hF : FX6_slant G M a p0 p1 p2 = some y) : Met l yX6_slant wsX6_slant ({ frames := 1, cells := 0, slots := 0, locals := 23 }) (va_Pc [.ref (ad a), .int p0, .int p1, .int p2] (kB D ct ad Z G M sz)) (va_Qi (fun (q : Int32) (_ : Unit) => q = y.2) (fun _ t => kE D ct ad G (wA ad G sz) y.1 t) (wA ad G sz)) 0 0 (wA ad G sz) := by
  refine Met.ofW (cc := cX6_slant) (maxL := 7) (ret := (some .int)) (by decide) rfl ?_
  intro p e s m args below meth c s₁ B hml hv
  obtain ⟨rfl, hsz, hP, hK, hD0, hZ, hN⟩ := hv
  have hx := B.exec
  have hb := B.bytes
  have hr := B.returns
  have hts := atoms_spec (ws := wsX6_slant) B.pre
  have hown : s.vm.findClass RX6 = some m.cls := findClass_of_methodNamed B.named
  have hlocks := B.notSynchronized
  subst hsz
  have hD := wD_self (sz := s.heap.size) hD0
  have hA9 : ∀ q, s.heap.size ≤ q → wA ad G s.heap.size q := fun q h => Or.inr h
  generalize hAe : wA ad G s.heap.size = A at hD hA9 hZ ⊢
  have hS : va_S A s.heap s.heap [] := va_S.rf
  have hl := lv_entry ([.ref (ad a), .int p0, .int p1, .int p2]) (n := 7) (Nat.le_of_ble_eq_true rfl)
  rw [lg_entry_eq]
  generalize (lg_sl ([.ref (ad a), .int p0, .int p1, .int p2]) ++ List.replicate (7 - (lg_sl ([.ref (ad a), .int p0, .int p1, .int p2])).length) Slot.unset).toArray = ls at hl ⊢
  have hl : lv_has ls 7 [(0, .ref (ad a)), (1, .int p0), (2, .int p1), (3, .int p2)] := hl
  unfold FX6_slant at hF
  refine lv_iconst (v := (2 : Int32)) hx hb dX6_slant_0 (by decide) ?_
  refine lv_iload_n hx hb dX6_slant_1 rfl (lv_at hl 1 rfl) ?_
  refine lv_imul hx hb dX6_slant_2 ?_
  obtain ⟨x1, ex1, hF⟩ := ltt_some hF
  refine lv_topi (fun zx1 ezx1 => ?_)
  obtain rfl : x1 = zx1 := ex1.trans ezx1.symm
  refine lv_iload_n hx hb dX6_slant_3 rfl (lv_at hl 2 rfl) ?_
  refine lv_isub hx hb dX6_slant_4 ?_
  obtain ⟨x2, ex2, hF⟩ := ltt_some hF
  refine lv_topi (fun zx2 ezx2 => ?_)
  obtain rfl : x2 = zx2 := ex2.trans ezx2.symm
  refine lv_istore (lv' := [(4, .int x2), (0, .ref (ad a)), (1, .int p0), (2, .int p1), (3, .int p2)]) hx hb dX6_slant_5 hl (by decide) rfl (fun ls hl => ?_)
  refine lv_iload_n hx hb dX6_slant_7 rfl (lv_at hl 2 rfl) ?_
  refine lv_iload_n hx hb dX6_slant_8 rfl (lv_at hl 3 rfl) ?_
  refine lv_iconst (v := (1 : Int32)) hx hb dX6_slant_9 (by decide) ?_
  refine lv_ishr hx hb dX6_slant_10 ?_
  obtain ⟨x3, ex3, hF⟩ := ltt_some hF
  refine lv_topi (fun zx3 ezx3 => ?_)
  obtain rfl : x3 = zx3 := ex3.trans ezx3.symm
  refine lv_isub hx hb dX6_slant_11 ?_
  obtain ⟨x4, ex4, hF⟩ := ltt_some hF
  refine lv_topi (fun zx4 ezx4 => ?_)
  obtain rfl : x4 = zx4 := ex4.trans ezx4.symm
  refine lv_istore (lv' := [(5, .int x4), (4, .int x2), (0, .ref (ad a)), (1, .int p0), (2, .int p1), (3, .int p2)]) hx hb dX6_slant_12 hl (by decide) rfl (fun ls hl => ?_)
  refine lv_iload hx hb dX6_slant_14 (lv_at hl 1 rfl) ?_
  refine lv_if_lt (tgt := 45) hx hb dX6_slant_16 (by decide) (fun c5 => ?_) (fun c5 => ?_)
  · rw [if_pos c5] at hF
    refine lv_iload hx hb dX6_slant_45 (lv_at hl 1 rfl) ?_
    obtain ⟨y6, hy6, hF⟩ := bnd_some hF
    have J6 : ∀ (H : Heap) (locs : List Loc) (ls : Array Slot), va_P D classes (wld ct ad G M) H → va_D A (wld ct ad G M) → va_S A s.heap H locs → lv_has ls 7 [(5, .int x4), (4, .int x2), (0, .ref (ad a)), (1, .int p0), (2, .int p1), (3, .int p2)] → W p l e (headSpec wsX6_slant ({ frames := 1, cells := 0, slots := 0, locals := 23 })).room s m ([.ref (ad a), .int p0, .int p1, .int p2] : List Value).toArray below meth c H locs 0 0 (MQ below (va_Qi (fun (q : Int32) (_ : Unit) => q = y.2) (fun _ t => kE D ct ad G A y.1 t) A) ([.ref (ad a), .int p0, .int p1, .int p2] : List Value).toArray s 0 0 A) (F0 m 68 ls [.int y6]) := by
      intro H locs ls hP hD hS hl
      refine lv_istore (lv' := [(6, .int y6), (5, .int x4), (4, .int x2), (0, .ref (ad a)), (1, .int p0), (2, .int p1), (3, .int p2)]) hx hb dX6_slant_68 hl (by decide) rfl (fun ls hl => ?_)
      refine lv_aload_n hx hb dX6_slant_70 rfl (lv_at hl 3 rfl) ?_
      refine lv_iconst (v := (4 : Int32)) hx hb dX6_slant_71 (by decide) ?_
      refine lv_iload_n hx hb dX6_slant_72 rfl (lv_at hl 6 rfl) ?_
      refine lv_iload hx hb dX6_slant_73 (lv_at hl 0 rfl) ?_
      refine lv_iconst (v := (1 : Int32)) hx hb dX6_slant_75 (by decide) ?_
      refine lv_isub hx hb dX6_slant_76 ?_
      obtain ⟨x7, ex7, hF⟩ := ltt_some hF
      refine lv_topi (fun zx7 ezx7 => ?_)
      obtain rfl : x7 = zx7 := ex7.trans ezx7.symm
      refine lv_imul hx hb dX6_slant_77 ?_
      obtain ⟨x8, ex8, hF⟩ := ltt_some hF
      refine lv_topi (fun zx8 ezx8 => ?_)
      obtain rfl : x8 = zx8 := ex8.trans ezx8.symm
      refine lv_iadd hx hb dX6_slant_78 ?_
      obtain ⟨x9, ex9, hF⟩ := ltt_some hF
      refine lv_topi (fun zx9 ezx9 => ?_)
      obtain rfl : x9 = zx9 := ex9.trans ezx9.symm
      refine lv_iconst (v := (4 : Int32)) hx hb dX6_slant_79 (by decide) ?_
      refine lv_iload_n hx hb dX6_slant_80 rfl (lv_at hl 6 rfl) ?_
      refine lv_iload hx hb dX6_slant_81 (lv_at hl 0 rfl) ?_
      refine lv_imul hx hb dX6_slant_83 ?_
      obtain ⟨x10, ex10, hF⟩ := ltt_some hF
      refine lv_topi (fun zx10 ezx10 => ?_)
      obtain rfl : x10 = zx10 := ex10.trans ezx10.symm
      refine lv_iadd hx hb dX6_slant_84 ?_
      obtain ⟨x11, ex11, hF⟩ := ltt_some hF
      refine lv_topi (fun zx11 ezx11 => ?_)
      obtain rfl : x11 = zx11 := ex11.trans ezx11.symm
      refine lv_iconst (v := (4 : Int32)) hx hb dX6_slant_85 (by decide) ?_
      refine lv_iload_n hx hb dX6_slant_86 rfl (lv_at hl 6 rfl) ?_
      refine lv_iload hx hb dX6_slant_87 (lv_at hl 0 rfl) ?_
      refine lv_iconst (v := (1 : Int32)) hx hb dX6_slant_89 (by decide) ?_
      refine lv_iadd hx hb dX6_slant_90 ?_
      obtain ⟨x12, ex12, hF⟩ := ltt_some hF
      refine lv_topi (fun zx12 ezx12 => ?_)
      obtain rfl : x12 = zx12 := ex12.trans ezx12.symm
      refine lv_imul hx hb dX6_slant_91 ?_
      obtain ⟨x13, ex13, hF⟩ := ltt_some hF
      refine lv_topi (fun zx13 ezx13 => ?_)
      obtain rfl : x13 = zx13 := ex13.trans ezx13.symm
      refine lv_iadd hx hb dX6_slant_92 ?_
      obtain ⟨x14, ex14, hF⟩ := ltt_some hF
      refine lv_topi (fun zx14 ezx14 => ?_)
      obtain rfl : x14 = zx14 := ex14.trans ezx14.symm
      obtain ⟨y15, hy15, hF⟩ := bnd_some hF
      have hf9 := wA_in hD hA9 hS
      refine va_calli (va_runV (As := [.int x9, .int x11, .int x14]) (rest := []) ⟨hx, hb, hml, hown, hts⟩ (kX6_three l D ct ad Z G M H.size a x9 x11 x14 y15 hc hk hy15) (cwV 3 hts gX6_slant_X6_three rfl rfl rfl (by decide +kernel) ⟨Nat.le_of_ble_eq_true rfl, Nat.le_of_ble_eq_true rfl⟩) ⟨fun a U g mk q => by obtain ⟨q0, q1, qP, qK, qD, qZ, qN⟩ := q; exact ⟨q0, q1, qP, va_K.moved (u := U) (U := U.calling g mk a) (Vm.Alike.refl U.vm) qK, qD, sF.moved (u := U) (U := U.calling g mk a) (Vm.Alike.refl U.vm) qZ, nF.same rfl qN⟩, va_recv hK hP (ci := 6) (q0 := a) rfl (wld_o ct ad G M hc hk (by decide)), fun U hU hW => ⟨rfl, by rw [hU], by rw [hU]; exact hP, va_K.moved hW.alike hK, hD.weaken (fun _ _ _ _ => trivial), by rw [hU]; exact ((hZ.kept hS.2.1).narrow hf9).moved hW.alike, hN.warm hW⟩⟩ rfl rfl hl.1 rfl (lv_room (Nat.le_of_ble_eq_true rfl)) dX6_slant_93 ⟨(Nat.zero_le _), (Nat.zero_le _)⟩) hS (fun q _ h => hf9 q h) hf9 (fun r u t H locs ht hvm hw hB hz1 hk1 hS => ?_)
      obtain ⟨hP, hK9, hD9⟩ := hB
      rw [ht] at hP
      try dsimp only at hw
      subst hw
      have hD := hD9.weaken (fun _ q _ h => hf9 q.1 h)
      obtain rfl := Option.some.inj hF
      exact W.iret (v := y15.2) hx hb hr (fun t ht hW => ⟨⟨_, (), rfl, rfl, ⟨by rw [ht]; exact hP, va_K.moved hW.alike hK, hD⟩⟩, hS.F ht⟩) hS.2.2 dX6_slant_96
    clear hF
    have hF := hy6
    clear hy6
    refine lv_if_le (tgt := 55) hx hb dX6_slant_47 (by decide) (fun c16 => ?_) (fun c16 => ?_)
    · rw [if_pos c16] at hF
      refine lv_iload hx hb dX6_slant_55 (lv_at hl 1 rfl) ?_
      refine lv_iconst (v := (-1 : Int32)) hx hb dX6_slant_57 (by decide) ?_
      obtain ⟨y17, hy17, hF⟩ := bnd_some hF
      have J17 : ∀ (H : Heap) (locs : List Loc) (ls : Array Slot), va_P D classes (wld ct ad G M) H → va_D A (wld ct ad G M) → va_S A s.heap H locs → lv_has ls 7 [(5, .int x4), (4, .int x2), (0, .ref (ad a)), (1, .int p0), (2, .int p1), (3, .int p2)] → W p l e (headSpec wsX6_slant ({ frames := 1, cells := 0, slots := 0, locals := 23 })).room s m ([.ref (ad a), .int p0, .int p1, .int p2] : List Value).toArray below meth c H locs 0 0 (MQ below (va_Qi (fun (q : Int32) (_ : Unit) => q = y.2) (fun _ t => kE D ct ad G A y.1 t) A) ([.ref (ad a), .int p0, .int p1, .int p2] : List Value).toArray s 0 0 A) (F0 m 68 ls [.int y17]) := by
        intro H locs ls hP hD hS hl
        obtain rfl := Option.some.inj hF
        exact J6 _ _ _ hP hD hS (lv_sub hl [0, 1, 2, 3, 4, 5] rfl)
      clear hF
      have hF := hy17
      clear hy17
      refine lv_icmp_ne (tgt := 65) hx hb dX6_slant_58 (by decide) (fun c18 => ?_) (fun c18 => ?_)
      · rw [if_neg c18] at hF
        refine lv_iconst (v := (1 : Int32)) hx hb dX6_slant_65 (by decide) ?_
        refine lv_iload_n hx hb dX6_slant_66 rfl (lv_at hl 4 rfl) ?_
        refine lv_isub hx hb dX6_slant_67 ?_
        obtain ⟨x19, ex19, hF⟩ := ltt_some hF
        refine lv_topi (fun zx19 ezx19 => ?_)
        obtain rfl : x19 = zx19 := ex19.trans ezx19.symm
        obtain rfl := Option.some.inj hF
        exact J17 _ _ _ hP hD hS (lv_sub hl [0, 1, 2, 3, 4, 5] rfl)
      · rw [if_pos c18] at hF
        refine lv_iconst (v := (0 : Int32)) hx hb dX6_slant_61 (by decide) ?_
        refine lv_goto (tgt := 68) hx hb dX6_slant_62 (by decide) ?_
        obtain rfl := Option.some.inj hF
        exact J17 _ _ _ hP hD hS (lv_sub hl [0, 1, 2, 3, 4, 5] rfl)
    · rw [if_neg c16] at hF
      refine lv_iload hx hb dX6_slant_50 (lv_at hl 0 rfl) ?_
      refine lv_goto (tgt := 68) hx hb dX6_slant_52 (by decide) ?_
      obtain rfl := Option.some.inj hF
      exact J6 _ _ _ hP hD hS (lv_sub hl [0, 1, 2, 3, 4, 5] rfl)
  · rw [if_neg c5] at hF
    refine lv_iload hx hb dX6_slant_19 (lv_at hl 1 rfl) ?_
    refine lv_iconst (v := (2 : Int32)) hx hb dX6_slant_21 (by decide) ?_
    refine lv_irem hx hb dX6_slant_22 (by decide) ?_
    obtain ⟨x20, ex20, hF⟩ := ltt_some hF
    refine lv_topi (fun zx20 ezx20 => ?_)
    obtain rfl : x20 = zx20 := ex20.trans ezx20.symm
    refine lv_if_ne (tgt := 45) hx hb dX6_slant_23 (by decide) (fun c21 => ?_) (fun c21 => ?_)
    · rw [if_neg c21] at hF
      refine lv_iload hx hb dX6_slant_45 (lv_at hl 1 rfl) ?_
      obtain ⟨y22, hy22, hF⟩ := bnd_some hF
      have J22 : ∀ (H : Heap) (locs : List Loc) (ls : Array Slot), va_P D classes (wld ct ad G M) H → va_D A (wld ct ad G M) → va_S A s.heap H locs → lv_has ls 7 [(5, .int x4), (4, .int x2), (0, .ref (ad a)), (1, .int p0), (2, .int p1), (3, .int p2)] → W p l e (headSpec wsX6_slant ({ frames := 1, cells := 0, slots := 0, locals := 23 })).room s m ([.ref (ad a), .int p0, .int p1, .int p2] : List Value).toArray below meth c H locs 0 0 (MQ below (va_Qi (fun (q : Int32) (_ : Unit) => q = y.2) (fun _ t => kE D ct ad G A y.1 t) A) ([.ref (ad a), .int p0, .int p1, .int p2] : List Value).toArray s 0 0 A) (F0 m 68 ls [.int y22]) := by
        intro H locs ls hP hD hS hl
        refine lv_istore (lv' := [(6, .int y22), (5, .int x4), (4, .int x2), (0, .ref (ad a)), (1, .int p0), (2, .int p1), (3, .int p2)]) hx hb dX6_slant_68 hl (by decide) rfl (fun ls hl => ?_)
        refine lv_aload_n hx hb dX6_slant_70 rfl (lv_at hl 3 rfl) ?_
        refine lv_iconst (v := (4 : Int32)) hx hb dX6_slant_71 (by decide) ?_
        refine lv_iload_n hx hb dX6_slant_72 rfl (lv_at hl 6 rfl) ?_
        refine lv_iload hx hb dX6_slant_73 (lv_at hl 0 rfl) ?_
        refine lv_iconst (v := (1 : Int32)) hx hb dX6_slant_75 (by decide) ?_
        refine lv_isub hx hb dX6_slant_76 ?_
        obtain ⟨x23, ex23, hF⟩ := ltt_some hF
        refine lv_topi (fun zx23 ezx23 => ?_)
        obtain rfl : x23 = zx23 := ex23.trans ezx23.symm
        refine lv_imul hx hb dX6_slant_77 ?_
        obtain ⟨x24, ex24, hF⟩ := ltt_some hF
        refine lv_topi (fun zx24 ezx24 => ?_)
        obtain rfl : x24 = zx24 := ex24.trans ezx24.symm
        refine lv_iadd hx hb dX6_slant_78 ?_
        obtain ⟨x25, ex25, hF⟩ := ltt_some hF
        refine lv_topi (fun zx25 ezx25 => ?_)
        obtain rfl : x25 = zx25 := ex25.trans ezx25.symm
        refine lv_iconst (v := (4 : Int32)) hx hb dX6_slant_79 (by decide) ?_
        refine lv_iload_n hx hb dX6_slant_80 rfl (lv_at hl 6 rfl) ?_
        refine lv_iload hx hb dX6_slant_81 (lv_at hl 0 rfl) ?_
        refine lv_imul hx hb dX6_slant_83 ?_
        obtain ⟨x26, ex26, hF⟩ := ltt_some hF
        refine lv_topi (fun zx26 ezx26 => ?_)
        obtain rfl : x26 = zx26 := ex26.trans ezx26.symm
        refine lv_iadd hx hb dX6_slant_84 ?_
        obtain ⟨x27, ex27, hF⟩ := ltt_some hF
        refine lv_topi (fun zx27 ezx27 => ?_)
        obtain rfl : x27 = zx27 := ex27.trans ezx27.symm
        refine lv_iconst (v := (4 : Int32)) hx hb dX6_slant_85 (by decide) ?_
        refine lv_iload_n hx hb dX6_slant_86 rfl (lv_at hl 6 rfl) ?_
        refine lv_iload hx hb dX6_slant_87 (lv_at hl 0 rfl) ?_
        refine lv_iconst (v := (1 : Int32)) hx hb dX6_slant_89 (by decide) ?_
        refine lv_iadd hx hb dX6_slant_90 ?_
        obtain ⟨x28, ex28, hF⟩ := ltt_some hF
        refine lv_topi (fun zx28 ezx28 => ?_)
        obtain rfl : x28 = zx28 := ex28.trans ezx28.symm
        refine lv_imul hx hb dX6_slant_91 ?_
        obtain ⟨x29, ex29, hF⟩ := ltt_some hF
        refine lv_topi (fun zx29 ezx29 => ?_)
        obtain rfl : x29 = zx29 := ex29.trans ezx29.symm
        refine lv_iadd hx hb dX6_slant_92 ?_
        obtain ⟨x30, ex30, hF⟩ := ltt_some hF
        refine lv_topi (fun zx30 ezx30 => ?_)
        obtain rfl : x30 = zx30 := ex30.trans ezx30.symm
        obtain ⟨y31, hy31, hF⟩ := bnd_some hF
        have hf9 := wA_in hD hA9 hS
        refine va_calli (va_runV (As := [.int x25, .int x27, .int x30]) (rest := []) ⟨hx, hb, hml, hown, hts⟩ (kX6_three l D ct ad Z G M H.size a x25 x27 x30 y31 hc hk hy31) (cwV 3 hts gX6_slant_X6_three rfl rfl rfl (by decide +kernel) ⟨Nat.le_of_ble_eq_true rfl, Nat.le_of_ble_eq_true rfl⟩) ⟨fun a U g mk q => by obtain ⟨q0, q1, qP, qK, qD, qZ, qN⟩ := q; exact ⟨q0, q1, qP, va_K.moved (u := U) (U := U.calling g mk a) (Vm.Alike.refl U.vm) qK, qD, sF.moved (u := U) (U := U.calling g mk a) (Vm.Alike.refl U.vm) qZ, nF.same rfl qN⟩, va_recv hK hP (ci := 6) (q0 := a) rfl (wld_o ct ad G M hc hk (by decide)), fun U hU hW => ⟨rfl, by rw [hU], by rw [hU]; exact hP, va_K.moved hW.alike hK, hD.weaken (fun _ _ _ _ => trivial), by rw [hU]; exact ((hZ.kept hS.2.1).narrow hf9).moved hW.alike, hN.warm hW⟩⟩ rfl rfl hl.1 rfl (lv_room (Nat.le_of_ble_eq_true rfl)) dX6_slant_93 ⟨(Nat.zero_le _), (Nat.zero_le _)⟩) hS (fun q _ h => hf9 q h) hf9 (fun r u t H locs ht hvm hw hB hz1 hk1 hS => ?_)
        obtain ⟨hP, hK9, hD9⟩ := hB
        rw [ht] at hP
        try dsimp only at hw
        subst hw
        have hD := hD9.weaken (fun _ q _ h => hf9 q.1 h)
        obtain rfl := Option.some.inj hF
        exact W.iret (v := y31.2) hx hb hr (fun t ht hW => ⟨⟨_, (), rfl, rfl, ⟨by rw [ht]; exact hP, va_K.moved hW.alike hK, hD⟩⟩, hS.F ht⟩) hS.2.2 dX6_slant_96
      clear hF
      have hF := hy22
      clear hy22
      refine lv_if_le (tgt := 55) hx hb dX6_slant_47 (by decide) (fun c32 => ?_) (fun c32 => ?_)
      · rw [if_pos c32] at hF
        refine lv_iload hx hb dX6_slant_55 (lv_at hl 1 rfl) ?_
        refine lv_iconst (v := (-1 : Int32)) hx hb dX6_slant_57 (by decide) ?_
        obtain ⟨y33, hy33, hF⟩ := bnd_some hF
        have J33 : ∀ (H : Heap) (locs : List Loc) (ls : Array Slot), va_P D classes (wld ct ad G M) H → va_D A (wld ct ad G M) → va_S A s.heap H locs → lv_has ls 7 [(5, .int x4), (4, .int x2), (0, .ref (ad a)), (1, .int p0), (2, .int p1), (3, .int p2)] → W p l e (headSpec wsX6_slant ({ frames := 1, cells := 0, slots := 0, locals := 23 })).room s m ([.ref (ad a), .int p0, .int p1, .int p2] : List Value).toArray below meth c H locs 0 0 (MQ below (va_Qi (fun (q : Int32) (_ : Unit) => q = y.2) (fun _ t => kE D ct ad G A y.1 t) A) ([.ref (ad a), .int p0, .int p1, .int p2] : List Value).toArray s 0 0 A) (F0 m 68 ls [.int y33]) := by
          intro H locs ls hP hD hS hl
          obtain rfl := Option.some.inj hF
          exact J22 _ _ _ hP hD hS (lv_sub hl [0, 1, 2, 3, 4, 5] rfl)
        clear hF
        have hF := hy33
        clear hy33
        refine lv_icmp_ne (tgt := 65) hx hb dX6_slant_58 (by decide) (fun c34 => ?_) (fun c34 => ?_)
        · rw [if_neg c34] at hF
          refine lv_iconst (v := (1 : Int32)) hx hb dX6_slant_65 (by decide) ?_
          refine lv_iload_n hx hb dX6_slant_66 rfl (lv_at hl 4 rfl) ?_
          refine lv_isub hx hb dX6_slant_67 ?_
          obtain ⟨x35, ex35, hF⟩ := ltt_some hF
          refine lv_topi (fun zx35 ezx35 => ?_)
          obtain rfl : x35 = zx35 := ex35.trans ezx35.symm
          obtain rfl := Option.some.inj hF
          exact J33 _ _ _ hP hD hS (lv_sub hl [0, 1, 2, 3, 4, 5] rfl)
        · rw [if_pos c34] at hF
          refine lv_iconst (v := (0 : Int32)) hx hb dX6_slant_61 (by decide) ?_
          refine lv_goto (tgt := 68) hx hb dX6_slant_62 (by decide) ?_
          obtain rfl := Option.some.inj hF
          exact J33 _ _ _ hP hD hS (lv_sub hl [0, 1, 2, 3, 4, 5] rfl)
      · rw [if_neg c32] at hF
        refine lv_iload hx hb dX6_slant_50 (lv_at hl 0 rfl) ?_
        refine lv_goto (tgt := 68) hx hb dX6_slant_52 (by decide) ?_
        obtain rfl := Option.some.inj hF
        exact J22 _ _ _ hP hD hS (lv_sub hl [0, 1, 2, 3, 4, 5] rfl)
    · rw [if_pos c21] at hF
      refine lv_aload_n hx hb dX6_slant_26 rfl (lv_at hl 2 rfl) ?_
      refine lv_iconst (v := (4 : Int32)) hx hb dX6_slant_27 (by decide) ?_
      refine lv_iload_n hx hb dX6_slant_28 rfl (lv_at hl 5 rfl) ?_
      refine lv_iload hx hb dX6_slant_29 (lv_at hl 0 rfl) ?_
      refine lv_imul hx hb dX6_slant_31 ?_
      obtain ⟨x36, ex36, hF⟩ := ltt_some hF
      refine lv_topi (fun zx36 ezx36 => ?_)
      obtain rfl : x36 = zx36 := ex36.trans ezx36.symm
      refine lv_iadd hx hb dX6_slant_32 ?_
      obtain ⟨x37, ex37, hF⟩ := ltt_some hF
      refine lv_topi (fun zx37 ezx37 => ?_)
      obtain rfl : x37 = zx37 := ex37.trans ezx37.symm
      refine lv_iconst (v := (4 : Int32)) hx hb dX6_slant_33 (by decide) ?_
      refine lv_iload_n hx hb dX6_slant_34 rfl (lv_at hl 5 rfl) ?_
      refine lv_iload hx hb dX6_slant_35 (lv_at hl 0 rfl) ?_
      refine lv_iconst (v := (1 : Int32)) hx hb dX6_slant_37 (by decide) ?_
      refine lv_iadd hx hb dX6_slant_38 ?_
      obtain ⟨x38, ex38, hF⟩ := ltt_some hF
      refine lv_topi (fun zx38 ezx38 => ?_)
      obtain rfl : x38 = zx38 := ex38.trans ezx38.symm
      refine lv_imul hx hb dX6_slant_39 ?_
      obtain ⟨x39, ex39, hF⟩ := ltt_some hF
      refine lv_topi (fun zx39 ezx39 => ?_)
      obtain rfl : x39 = zx39 := ex39.trans ezx39.symm
      refine lv_iadd hx hb dX6_slant_40 ?_
      obtain ⟨x40, ex40, hF⟩ := ltt_some hF
      refine lv_topi (fun zx40 ezx40 => ?_)
      obtain rfl : x40 = zx40 := ex40.trans ezx40.symm
      obtain ⟨y41, hy41, hF⟩ := bnd_some hF
      have hf9 := wA_in hD hA9 hS
      refine va_calli (va_runV (As := [.int x37, .int x40]) (rest := []) ⟨hx, hb, hml, hown, hts⟩ (kX6_two l D ct ad Z G M s.heap.size a x37 x40 y41 hc hk hy41) (cwV 2 hts gX6_slant_X6_two rfl rfl rfl (by decide +kernel) ⟨Nat.le_of_ble_eq_true rfl, Nat.le_of_ble_eq_true rfl⟩) ⟨fun a U g mk q => by obtain ⟨q0, q1, qP, qK, qD, qZ, qN⟩ := q; exact ⟨q0, q1, qP, va_K.moved (u := U) (U := U.calling g mk a) (Vm.Alike.refl U.vm) qK, qD, sF.moved (u := U) (U := U.calling g mk a) (Vm.Alike.refl U.vm) qZ, nF.same rfl qN⟩, va_recv hK hP (ci := 6) (q0 := a) rfl (wld_o ct ad G M hc hk (by decide)), fun U hU hW => ⟨rfl, by rw [hU], by rw [hU]; exact hP, va_K.moved hW.alike hK, hD.weaken (fun _ _ _ _ => trivial), by rw [hU]; exact ((hZ.kept hS.2.1).narrow hf9).moved hW.alike, hN.warm hW⟩⟩ rfl rfl hl.1 rfl (lv_room (Nat.le_of_ble_eq_true rfl)) dX6_slant_41 ⟨(Nat.zero_le _), (Nat.zero_le _)⟩) hS (fun q _ h => hf9 q h) hf9 (fun r u t H locs ht hvm hw hB hz1 hk1 hS => ?_)
      obtain ⟨hP, hK9, hD9⟩ := hB
      rw [ht] at hP
      try dsimp only at hw
      subst hw
      have hD := hD9.weaken (fun _ q _ h => hf9 q.1 h)
      obtain rfl := Option.some.inj hF
      exact W.iret (v := y41.2) hx hb hr (fun t ht hW => ⟨⟨_, (), rfl, rfl, ⟨by rw [ht]; exact hP, va_K.moved hW.alike hK, hD⟩⟩, hS.F ht⟩) hS.2.2 dX6_slant_44
