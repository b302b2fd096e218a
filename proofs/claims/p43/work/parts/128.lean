set_option maxRecDepth 20000 in
theorem gX0_costOfFour_X9_clearBlock : GoodIn wuX0_costOfFour (wsV RX0 462 RX9 yX9_clearBlock wuX9_clearBlock) := gu_V mw_2578 mw_1552 mw_1553 mw_171 mw_1554
set_option maxRecDepth 20000 in
set_option maxRecDepth 20000 in
theorem gX0_costOfFour_X0_priceOfBit : GoodIn wuX0_costOfFour (wsV RX0 456 RX0 yX0_priceOfBit wuX0_priceOfBit) := gu_V mw_2543 mw_2545 mw_132 mw_175 mw_2546
set_option maxRecDepth 20000 in
theorem gX0_costOfFour_X9_sidesOf : GoodIn wuX0_costOfFour (va_wsS RX0 365 yX9_sidesOf wuX9_sidesOf) := gu_S mw_2499 mw_2108 mw_171 mw_2109
set_option maxRecDepth 20000 in
set_option maxRecDepth 20000 in
theorem gX0_costOfFour_X9_guessMode : GoodIn wuX0_costOfFour (wsV RX0 501 RX9 yX9_guessMode wuX9_guessMode) := gu_V mw_2579 mw_2185 mw_2186 mw_171 mw_2187
set_option maxRecDepth 20000 in
set_option maxRecDepth 20000 in
theorem gX0_costOfFour_X6_predictFour : GoodIn wuX0_costOfFour (wsV RX0 504 RX6 yX6_predictFour wuX6_predictFour) := gu_V mw_2580 mw_2111 mw_2112 mw_172 mw_2113
set_option maxRecDepth 20000 in
set_option maxRecDepth 20000 in
theorem gX0_costOfFour_X6_measureLuma : GoodIn wuX0_costOfFour (wsV RX0 508 RX6 yX6_measureLuma wuX6_measureLuma) := gu_V mw_2581 mw_2582 mw_2583 mw_172 mw_2584
set_option maxRecDepth 20000 in
set_option maxRecDepth 20000 in
theorem gX0_costOfFour_X6_fillLuma : GoodIn wuX0_costOfFour (wsV RX0 512 RX6 yX6_fillLuma wuX6_fillLuma) := gu_V mw_2601 mw_2135 mw_2136 mw_172 mw_2137
set_option maxRecDepth 20000 in
set_option maxRecDepth 20000 in
theorem gX0_costOfFour_X9_mayBeFour : GoodIn wuX0_costOfFour (va_wsS RX0 343 yX9_mayBeFour wuX9_mayBeFour) := gu_S mw_2496 mw_2193 mw_171 mw_2194
set_option maxRecDepth 20000 in
set_option maxRecDepth 20000 in
theorem gX0_costOfFour_X6_differences : GoodIn wuX0_costOfFour (wsV RX0 452 RX6 yX6_differences wuX6_differences) := gu_V mw_2539 mw_2540 mw_2541 mw_172 mw_2542
set_option maxRecDepth 20000 in
theorem dX0_costOfFour_0 : decode cX0_costOfFour 0 = .ok (.iconst 0, 1) := by decide +kernel
theorem dX0_costOfFour_1 : decode cX0_costOfFour 1 = .ok (.istore_n 3, 1) := by decide +kernel
theorem dX0_costOfFour_2 : decode cX0_costOfFour 2 = .ok (.bipush 8, 2) := by decide +kernel
theorem dX0_costOfFour_4 : decode cX0_costOfFour 4 = .ok (.istore 4, 2) := by decide +kernel
theorem dX0_costOfFour_6 : decode cX0_costOfFour 6 = .ok (.aload_n 0, 1) := by decide +kernel
theorem dX0_costOfFour_7 : decode cX0_costOfFour 7 = .ok (.getfield 36, 3) := by decide +kernel
theorem dX0_costOfFour_10 : decode cX0_costOfFour 10 = .ok (.getfield 81, 3) := by decide +kernel
theorem dX0_costOfFour_13 : decode cX0_costOfFour 13 = .ok (.getfield 252, 3) := by decide +kernel
theorem dX0_costOfFour_16 : decode cX0_costOfFour 16 = .ok (.bipush 12, 2) := by decide +kernel
theorem dX0_costOfFour_18 : decode cX0_costOfFour 18 = .ok (.iaload, 1) := by decide +kernel
theorem dX0_costOfFour_19 : decode cX0_costOfFour 19 = .ok (.istore 5, 2) := by decide +kernel
theorem dX0_costOfFour_21 : decode cX0_costOfFour 21 = .ok (.aload_n 0, 1) := by decide +kernel
theorem dX0_costOfFour_22 : decode cX0_costOfFour 22 = .ok (.getfield 36, 3) := by decide +kernel
theorem dX0_costOfFour_25 : decode cX0_costOfFour 25 = .ok (.iload_n 1, 1) := by decide +kernel
theorem dX0_costOfFour_26 : decode cX0_costOfFour 26 = .ok (.invokevirtual 462, 3) := by decide +kernel
theorem dX0_costOfFour_29 : decode cX0_costOfFour 29 = .ok (.aload_n 0, 1) := by decide +kernel
theorem dX0_costOfFour_30 : decode cX0_costOfFour 30 = .ok (.getfield 36, 3) := by decide +kernel
theorem dX0_costOfFour_33 : decode cX0_costOfFour 33 = .ok (.getfield 216, 3) := by decide +kernel
theorem dX0_costOfFour_36 : decode cX0_costOfFour 36 = .ok (.bipush 8, 2) := by decide +kernel
theorem dX0_costOfFour_38 : decode cX0_costOfFour 38 = .ok (.iload_n 1, 1) := by decide +kernel
theorem dX0_costOfFour_39 : decode cX0_costOfFour 39 = .ok (.imul, 1) := by decide +kernel
theorem dX0_costOfFour_40 : decode cX0_costOfFour 40 = .ok (.iconst 0, 1) := by decide +kernel
theorem dX0_costOfFour_41 : decode cX0_costOfFour 41 = .ok (.iadd, 1) := by decide +kernel
theorem dX0_costOfFour_42 : decode cX0_costOfFour 42 = .ok (.iconst 0, 1) := by decide +kernel
theorem dX0_costOfFour_43 : decode cX0_costOfFour 43 = .ok (.iastore, 1) := by decide +kernel
theorem dX0_costOfFour_44 : decode cX0_costOfFour 44 = .ok (.iconst 0, 1) := by decide +kernel
theorem dX0_costOfFour_45 : decode cX0_costOfFour 45 = .ok (.istore 6, 2) := by decide +kernel
theorem dX0_costOfFour_47 : decode cX0_costOfFour 47 = .ok (.iload 6, 2) := by decide +kernel
theorem dX0_costOfFour_49 : decode cX0_costOfFour 49 = .ok (.bipush 16, 2) := by decide +kernel
theorem dX0_costOfFour_51 : decode cX0_costOfFour 51 = .ok (.if_icmp .ge 248, 3) := by decide +kernel
theorem dX0_costOfFour_54 : decode cX0_costOfFour 54 = .ok (.iload 6, 2) := by decide +kernel
theorem dX0_costOfFour_56 : decode cX0_costOfFour 56 = .ok (.iload_n 2, 1) := by decide +kernel
theorem dX0_costOfFour_57 : decode cX0_costOfFour 57 = .ok (.invokestatic 365, 3) := by decide +kernel
theorem dX0_costOfFour_60 : decode cX0_costOfFour 60 = .ok (.istore 7, 2) := by decide +kernel
theorem dX0_costOfFour_62 : decode cX0_costOfFour 62 = .ok (.aload_n 0, 1) := by decide +kernel
theorem dX0_costOfFour_63 : decode cX0_costOfFour 63 = .ok (.getfield 36, 3) := by decide +kernel
theorem dX0_costOfFour_66 : decode cX0_costOfFour 66 = .ok (.iload_n 1, 1) := by decide +kernel
theorem dX0_costOfFour_67 : decode cX0_costOfFour 67 = .ok (.iload 6, 2) := by decide +kernel
theorem dX0_costOfFour_69 : decode cX0_costOfFour 69 = .ok (.invokevirtual 501, 3) := by decide +kernel
theorem dX0_costOfFour_72 : decode cX0_costOfFour 72 = .ok (.istore 8, 2) := by decide +kernel
theorem dX0_costOfFour_74 : decode cX0_costOfFour 74 = .ok (.ldc_w 435, 3) := by decide +kernel
theorem dX0_costOfFour_77 : decode cX0_costOfFour 77 = .ok (.istore 9, 2) := by decide +kernel
theorem dX0_costOfFour_79 : decode cX0_costOfFour 79 = .ok (.iconst 2, 1) := by decide +kernel
theorem dX0_costOfFour_80 : decode cX0_costOfFour 80 = .ok (.istore 10, 2) := by decide +kernel
theorem dX0_costOfFour_82 : decode cX0_costOfFour 82 = .ok (.iconst 0, 1) := by decide +kernel
theorem dX0_costOfFour_83 : decode cX0_costOfFour 83 = .ok (.istore 11, 2) := by decide +kernel
theorem dX0_costOfFour_85 : decode cX0_costOfFour 85 = .ok (.iload 11, 2) := by decide +kernel
theorem dX0_costOfFour_87 : decode cX0_costOfFour 87 = .ok (.bipush 9, 2) := by decide +kernel
theorem dX0_costOfFour_89 : decode cX0_costOfFour 89 = .ok (.if_icmp .ge 95, 3) := by decide +kernel
theorem dX0_costOfFour_92 : decode cX0_costOfFour 92 = .ok (.iload 11, 2) := by decide +kernel
theorem dX0_costOfFour_94 : decode cX0_costOfFour 94 = .ok (.iload 7, 2) := by decide +kernel
theorem dX0_costOfFour_96 : decode cX0_costOfFour 96 = .ok (.invokestatic 343, 3) := by decide +kernel
theorem dX0_costOfFour_99 : decode cX0_costOfFour 99 = .ok (.ifCond .ne 6, 3) := by decide +kernel
theorem dX0_costOfFour_102 : decode cX0_costOfFour 102 = .ok (.goto 76, 3) := by decide +kernel
theorem dX0_costOfFour_105 : decode cX0_costOfFour 105 = .ok (.aload_n 0, 1) := by decide +kernel
theorem dX0_costOfFour_106 : decode cX0_costOfFour 106 = .ok (.getfield 43, 3) := by decide +kernel
theorem dX0_costOfFour_109 : decode cX0_costOfFour 109 = .ok (.aload_n 0, 1) := by decide +kernel
theorem dX0_costOfFour_110 : decode cX0_costOfFour 110 = .ok (.getfield 36, 3) := by decide +kernel
theorem dX0_costOfFour_113 : decode cX0_costOfFour 113 = .ok (.iload_n 1, 1) := by decide +kernel
theorem dX0_costOfFour_114 : decode cX0_costOfFour 114 = .ok (.iload 6, 2) := by decide +kernel
theorem dX0_costOfFour_116 : decode cX0_costOfFour 116 = .ok (.iload 11, 2) := by decide +kernel
theorem dX0_costOfFour_118 : decode cX0_costOfFour 118 = .ok (.iload 7, 2) := by decide +kernel
theorem dX0_costOfFour_120 : decode cX0_costOfFour 120 = .ok (.invokevirtual 504, 3) := by decide +kernel
theorem dX0_costOfFour_123 : decode cX0_costOfFour 123 = .ok (.aload_n 0, 1) := by decide +kernel
theorem dX0_costOfFour_124 : decode cX0_costOfFour 124 = .ok (.getfield 43, 3) := by decide +kernel
theorem dX0_costOfFour_127 : decode cX0_costOfFour 127 = .ok (.aload_n 0, 1) := by decide +kernel
theorem dX0_costOfFour_128 : decode cX0_costOfFour 128 = .ok (.getfield 36, 3) := by decide +kernel
theorem dX0_costOfFour_131 : decode cX0_costOfFour 131 = .ok (.aload_n 0, 1) := by decide +kernel
theorem dX0_costOfFour_132 : decode cX0_costOfFour 132 = .ok (.getfield 69, 3) := by decide +kernel
theorem dX0_costOfFour_135 : decode cX0_costOfFour 135 = .ok (.iconst 0, 1) := by decide +kernel
theorem dX0_costOfFour_136 : decode cX0_costOfFour 136 = .ok (.aaload, 1) := by decide +kernel
theorem dX0_costOfFour_137 : decode cX0_costOfFour 137 = .ok (.iload_n 1, 1) := by decide +kernel
theorem dX0_costOfFour_138 : decode cX0_costOfFour 138 = .ok (.iload 6, 2) := by decide +kernel
theorem dX0_costOfFour_140 : decode cX0_costOfFour 140 = .ok (.iconst 4, 1) := by decide +kernel
theorem dX0_costOfFour_141 : decode cX0_costOfFour 141 = .ok (.invokevirtual 452, 3) := by decide +kernel
theorem dX0_costOfFour_144 : decode cX0_costOfFour 144 = .ok (.istore 12, 2) := by decide +kernel
theorem dX0_costOfFour_146 : decode cX0_costOfFour 146 = .ok (.iload 12, 2) := by decide +kernel
theorem dX0_costOfFour_148 : decode cX0_costOfFour 148 = .ok (.iload 9, 2) := by decide +kernel
theorem dX0_costOfFour_150 : decode cX0_costOfFour 150 = .ok (.if_icmp .ge 8, 3) := by decide +kernel
theorem dX0_costOfFour_153 : decode cX0_costOfFour 153 = .ok (.iload 11, 2) := by decide +kernel
theorem dX0_costOfFour_155 : decode cX0_costOfFour 155 = .ok (.goto 5, 3) := by decide +kernel
theorem dX0_costOfFour_158 : decode cX0_costOfFour 158 = .ok (.iload 10, 2) := by decide +kernel
theorem dX0_costOfFour_160 : decode cX0_costOfFour 160 = .ok (.istore 10, 2) := by decide +kernel
theorem dX0_costOfFour_162 : decode cX0_costOfFour 162 = .ok (.iload 12, 2) := by decide +kernel
theorem dX0_costOfFour_164 : decode cX0_costOfFour 164 = .ok (.iload 9, 2) := by decide +kernel
theorem dX0_costOfFour_166 : decode cX0_costOfFour 166 = .ok (.if_icmp .ge 8, 3) := by decide +kernel
theorem dX0_costOfFour_169 : decode cX0_costOfFour 169 = .ok (.iload 12, 2) := by decide +kernel
theorem dX0_costOfFour_171 : decode cX0_costOfFour 171 = .ok (.goto 5, 3) := by decide +kernel
theorem dX0_costOfFour_174 : decode cX0_costOfFour 174 = .ok (.iload 9, 2) := by decide +kernel
theorem dX0_costOfFour_176 : decode cX0_costOfFour 176 = .ok (.istore 9, 2) := by decide +kernel
theorem dX0_costOfFour_178 : decode cX0_costOfFour 178 = .ok (.iinc 11 1, 3) := by decide +kernel
theorem dX0_costOfFour_181 : decode cX0_costOfFour 181 = .ok (.goto (-96), 3) := by decide +kernel
theorem dX0_costOfFour_184 : decode cX0_costOfFour 184 = .ok (.iload_n 3, 1) := by decide +kernel
theorem dX0_costOfFour_185 : decode cX0_costOfFour 185 = .ok (.iload 9, 2) := by decide +kernel
theorem dX0_costOfFour_187 : decode cX0_costOfFour 187 = .ok (.iadd, 1) := by decide +kernel
theorem dX0_costOfFour_188 : decode cX0_costOfFour 188 = .ok (.istore_n 3, 1) := by decide +kernel
theorem dX0_costOfFour_189 : decode cX0_costOfFour 189 = .ok (.iload 4, 2) := by decide +kernel
theorem dX0_costOfFour_191 : decode cX0_costOfFour 191 = .ok (.iload 10, 2) := by decide +kernel
theorem dX0_costOfFour_193 : decode cX0_costOfFour 193 = .ok (.iload 8, 2) := by decide +kernel
theorem dX0_costOfFour_195 : decode cX0_costOfFour 195 = .ok (.if_icmp .ne 7, 3) := by decide +kernel
theorem dX0_costOfFour_198 : decode cX0_costOfFour 198 = .ok (.iconst 1, 1) := by decide +kernel
theorem dX0_costOfFour_199 : decode cX0_costOfFour 199 = .ok (.goto 4, 3) := by decide +kernel
theorem dX0_costOfFour_202 : decode cX0_costOfFour 202 = .ok (.iconst 4, 1) := by decide +kernel
theorem dX0_costOfFour_203 : decode cX0_costOfFour 203 = .ok (.iadd, 1) := by decide +kernel
theorem dX0_costOfFour_204 : decode cX0_costOfFour 204 = .ok (.istore 4, 2) := by decide +kernel
theorem dX0_costOfFour_206 : decode cX0_costOfFour 206 = .ok (.aload_n 0, 1) := by decide +kernel
theorem dX0_costOfFour_207 : decode cX0_costOfFour 207 = .ok (.getfield 75, 3) := by decide +kernel
theorem dX0_costOfFour_210 : decode cX0_costOfFour 210 = .ok (.bipush 13, 2) := by decide +kernel
theorem dX0_costOfFour_212 : decode cX0_costOfFour 212 = .ok (.iload 6, 2) := by decide +kernel
theorem dX0_costOfFour_214 : decode cX0_costOfFour 214 = .ok (.iadd, 1) := by decide +kernel
theorem dX0_costOfFour_215 : decode cX0_costOfFour 215 = .ok (.iload 10, 2) := by decide +kernel
theorem dX0_costOfFour_217 : decode cX0_costOfFour 217 = .ok (.iastore, 1) := by decide +kernel
theorem dX0_costOfFour_218 : decode cX0_costOfFour 218 = .ok (.aload_n 0, 1) := by decide +kernel
theorem dX0_costOfFour_219 : decode cX0_costOfFour 219 = .ok (.getfield 36, 3) := by decide +kernel
theorem dX0_costOfFour_222 : decode cX0_costOfFour 222 = .ok (.getfield 356, 3) := by decide +kernel
theorem dX0_costOfFour_225 : decode cX0_costOfFour 225 = .ok (.bipush 16, 2) := by decide +kernel
theorem dX0_costOfFour_227 : decode cX0_costOfFour 227 = .ok (.iload_n 1, 1) := by decide +kernel
theorem dX0_costOfFour_228 : decode cX0_costOfFour 228 = .ok (.imul, 1) := by decide +kernel
theorem dX0_costOfFour_229 : decode cX0_costOfFour 229 = .ok (.iload 6, 2) := by decide +kernel
theorem dX0_costOfFour_231 : decode cX0_costOfFour 231 = .ok (.iadd, 1) := by decide +kernel
theorem dX0_costOfFour_232 : decode cX0_costOfFour 232 = .ok (.iload 10, 2) := by decide +kernel
theorem dX0_costOfFour_234 : decode cX0_costOfFour 234 = .ok (.iastore, 1) := by decide +kernel
theorem dX0_costOfFour_235 : decode cX0_costOfFour 235 = .ok (.aload_n 0, 1) := by decide +kernel
theorem dX0_costOfFour_236 : decode cX0_costOfFour 236 = .ok (.getfield 43, 3) := by decide +kernel
theorem dX0_costOfFour_239 : decode cX0_costOfFour 239 = .ok (.aload_n 0, 1) := by decide +kernel
theorem dX0_costOfFour_240 : decode cX0_costOfFour 240 = .ok (.getfield 36, 3) := by decide +kernel
theorem dX0_costOfFour_243 : decode cX0_costOfFour 243 = .ok (.iload_n 1, 1) := by decide +kernel
theorem dX0_costOfFour_244 : decode cX0_costOfFour 244 = .ok (.iload 6, 2) := by decide +kernel
theorem dX0_costOfFour_246 : decode cX0_costOfFour 246 = .ok (.iload 10, 2) := by decide +kernel
theorem dX0_costOfFour_248 : decode cX0_costOfFour 248 = .ok (.iload 7, 2) := by decide +kernel
theorem dX0_costOfFour_250 : decode cX0_costOfFour 250 = .ok (.invokevirtual 504, 3) := by decide +kernel
theorem dX0_costOfFour_253 : decode cX0_costOfFour 253 = .ok (.aload_n 0, 1) := by decide +kernel
theorem dX0_costOfFour_254 : decode cX0_costOfFour 254 = .ok (.getfield 43, 3) := by decide +kernel
theorem dX0_costOfFour_257 : decode cX0_costOfFour 257 = .ok (.aload_n 0, 1) := by decide +kernel
theorem dX0_costOfFour_258 : decode cX0_costOfFour 258 = .ok (.getfield 36, 3) := by decide +kernel
theorem dX0_costOfFour_261 : decode cX0_costOfFour 261 = .ok (.aload_n 0, 1) := by decide +kernel
theorem dX0_costOfFour_262 : decode cX0_costOfFour 262 = .ok (.getfield 69, 3) := by decide +kernel
theorem dX0_costOfFour_265 : decode cX0_costOfFour 265 = .ok (.iconst 0, 1) := by decide +kernel
theorem dX0_costOfFour_266 : decode cX0_costOfFour 266 = .ok (.aaload, 1) := by decide +kernel
theorem dX0_costOfFour_267 : decode cX0_costOfFour 267 = .ok (.iload_n 1, 1) := by decide +kernel
theorem dX0_costOfFour_268 : decode cX0_costOfFour 268 = .ok (.iload 6, 2) := by decide +kernel
theorem dX0_costOfFour_270 : decode cX0_costOfFour 270 = .ok (.iload 5, 2) := by decide +kernel
theorem dX0_costOfFour_272 : decode cX0_costOfFour 272 = .ok (.iconst 1, 1) := by decide +kernel
theorem dX0_costOfFour_273 : decode cX0_costOfFour 273 = .ok (.invokevirtual 508, 3) := by decide +kernel
theorem dX0_costOfFour_276 : decode cX0_costOfFour 276 = .ok (.pop, 1) := by decide +kernel
theorem dX0_costOfFour_277 : decode cX0_costOfFour 277 = .ok (.aload_n 0, 1) := by decide +kernel
theorem dX0_costOfFour_278 : decode cX0_costOfFour 278 = .ok (.getfield 43, 3) := by decide +kernel
theorem dX0_costOfFour_281 : decode cX0_costOfFour 281 = .ok (.aload_n 0, 1) := by decide +kernel
theorem dX0_costOfFour_282 : decode cX0_costOfFour 282 = .ok (.getfield 36, 3) := by decide +kernel
theorem dX0_costOfFour_285 : decode cX0_costOfFour 285 = .ok (.iload_n 1, 1) := by decide +kernel
theorem dX0_costOfFour_286 : decode cX0_costOfFour 286 = .ok (.iload 6, 2) := by decide +kernel
theorem dX0_costOfFour_288 : decode cX0_costOfFour 288 = .ok (.iload 5, 2) := by decide +kernel
theorem dX0_costOfFour_290 : decode cX0_costOfFour 290 = .ok (.invokevirtual 512, 3) := by decide +kernel
theorem dX0_costOfFour_293 : decode cX0_costOfFour 293 = .ok (.iinc 6 1, 3) := by decide +kernel
theorem dX0_costOfFour_296 : decode cX0_costOfFour 296 = .ok (.goto (-249), 3) := by decide +kernel
theorem dX0_costOfFour_299 : decode cX0_costOfFour 299 = .ok (.iload_n 3, 1) := by decide +kernel
theorem dX0_costOfFour_300 : decode cX0_costOfFour 300 = .ok (.aload_n 0, 1) := by decide +kernel
theorem dX0_costOfFour_301 : decode cX0_costOfFour 301 = .ok (.invokevirtual 456, 3) := by decide +kernel
theorem dX0_costOfFour_304 : decode cX0_costOfFour 304 = .ok (.iload 4, 2) := by decide +kernel
theorem dX0_costOfFour_306 : decode cX0_costOfFour 306 = .ok (.imul, 1) := by decide +kernel
theorem dX0_costOfFour_307 : decode cX0_costOfFour 307 = .ok (.iadd, 1) := by decide +kernel
theorem dX0_costOfFour_308 : decode cX0_costOfFour 308 = .ok (.ireturn, 1) := by decide +kernel
def FX0_costOfFour (G : GG) (M : DD) (a : Nat) (p0 : Int32) (p1 : Int32) : Option (DD × Int32) :=
  dr G 9 ((M.2 a 3)) fun b2 =>
  dr G 3 ((M.2 b2 1)) fun b3 =>
  dr G 13 ((M.2 b3 0)) fun b4 =>
  chk (¬ (((12 : Int32)) < 0 ∨ G.2.2 b4 ≤ ((12 : Int32)).toNatClampNeg)) <|
  ltt (M.1 b4 ((12 : Int32)).toNatClampNeg) fun x5 =>
  bnd (FX9_clearBlock G M b2 p0) fun y6 =>
  dr G 9 ((y6.2 a 3)) fun b7 =>
  ltt ((((8 : Int32)) * p0)) fun x8 =>
  ltt ((x8 + ((0 : Int32)))) fun x9 =>
  dr G 13 ((y6.2 b7 6)) fun b10 =>
  chk (¬ (x9 < 0 ∨ G.2.2 b10 ≤ x9.toNatClampNeg)) <|
  ltt (uI y6 b10 x9.toNatClampNeg ((0 : Int32))) fun M11 =>
  bnd (itr (fun (s13 : Int32 × Int32 × Int32 × DD) => ((if ((16 : Int32)) ≤ s13.2.2.1 then (some (.inr (s13.1, s13.2.1, s13.2.2.1, s13.2.2.2))) else
  (bnd (FX9_sidesOf G s13.2.2.2 s13.2.2.1 p1) fun y20 =>
  dr G 9 ((y20.1.2 a 3)) fun b21 =>
  bnd (FX9_guessMode G y20.1 b21 p0 s13.2.2.1) fun y22 =>
  bnd (itr (fun (s24 : Int32 × Int32 × Int32 × DD) => ((if ((9 : Int32)) ≤ s24.2.2.1 then (some (.inr (s24.1, s24.2.1, s24.2.2.1, s24.2.2.2))) else
  (bnd (FX9_mayBeFour G s24.2.2.2 s24.2.2.1 y20.2) fun y48 =>
  bnd (if y48.2 = ((0 : Int32)) then (some (s24.1, s24.2.1, y48.1)) else
  (dr G 6 ((y48.1.2 a 4)) fun b52 =>
  bnd (FX6_predictFour G y48.1 b52 ((y48.1.2 a 3)) p0 s13.2.2.1 s24.2.2.1 y20.2) fun y53 =>
  dr G 15 ((y53.2 a 9)) fun b54 =>
  chk (¬ (((0 : Int32)) < 0 ∨ G.2.2 b54 ≤ ((0 : Int32)).toNatClampNeg)) <|
  dr G 6 ((y53.2 a 4)) fun b55 =>
  bnd (FX6_differences G y53 b55 ((y53.2 a 3)) ((y53.2 b54 ((0 : Int32)).toNatClampNeg)) p0 s13.2.2.1 ((4 : Int32))) fun y56 =>
  bnd (if s24.1 ≤ y56.2 then (some (s24.2.1)) else
  (some (s24.2.2.1))) fun (y57 : Int32) =>
  bnd (if s24.1 ≤ y56.2 then (some (s24.1)) else
  (some (y56.2))) fun (y58 : Int32) =>
  some (y58, y57, y56.1))) fun (y49 : Int32 × Int32 × DD) =>
  ltt (s24.2.2.1 + (1 : Int32)) fun x50 =>
  some (.inl (y49.1, y49.2.1, x50, y49.2.2)))) : Option ((Int32 × Int32 × Int32 × DD) ⊕ (Int32 × Int32 × Int32 × DD)))) 1000000 ((2147483647 : Int32), (2 : Int32), (0 : Int32), y22.1)) fun (y23 : Int32 × Int32 × Int32 × DD) =>
  ltt ((s13.1 + y23.1)) fun x26 =>
  bnd (if y23.2.1 = y22.2 then (some ((1 : Int32))) else
  (some ((4 : Int32)))) fun (y27 : Int32) =>
  ltt ((s13.2.1 + y27)) fun x28 =>
  ltt ((((13 : Int32)) + s13.2.2.1)) fun x29 =>
  dr G 13 ((y23.2.2.2.2 a 20)) fun b30 =>
  chk (¬ (x29 < 0 ∨ G.2.2 b30 ≤ x29.toNatClampNeg)) <|
  ltt (uI y23.2.2.2 b30 x29.toNatClampNeg y23.2.1) fun M31 =>
  dr G 9 ((M31.2 a 3)) fun b32 =>
  ltt ((((16 : Int32)) * p0)) fun x33 =>
  ltt ((x33 + s13.2.2.1)) fun x34 =>
  dr G 13 ((M31.2 b32 7)) fun b35 =>
  chk (¬ (x34 < 0 ∨ G.2.2 b35 ≤ x34.toNatClampNeg)) <|
  ltt (uI M31 b35 x34.toNatClampNeg y23.2.1) fun M36 =>
  dr G 6 ((M36.2 a 4)) fun b37 =>
  bnd (FX6_predictFour G M36 b37 ((M36.2 a 3)) p0 s13.2.2.1 y23.2.1 y20.2) fun y38 =>
  dr G 15 ((y38.2 a 9)) fun b39 =>
  chk (¬ (((0 : Int32)) < 0 ∨ G.2.2 b39 ≤ ((0 : Int32)).toNatClampNeg)) <|
  dr G 6 ((y38.2 a 4)) fun b40 =>
  bnd (FX6_measureLuma G y38 b40 ((y38.2 a 3)) ((y38.2 b39 ((0 : Int32)).toNatClampNeg)) p0 s13.2.2.1 x5 ((1 : Int32))) fun y41 =>
  dr G 6 ((y41.1.2 a 4)) fun b42 =>
  bnd (FX6_fillLuma G y41.1 b42 ((y41.1.2 a 3)) p0 s13.2.2.1 x5) fun y43 =>
  ltt (s13.2.2.1 + (1 : Int32)) fun x44 =>
  some (.inl (x26, x28, x44, y43)))) : Option ((Int32 × Int32 × Int32 × DD) ⊕ (Int32 × Int32 × Int32 × DD)))) 1000000 ((0 : Int32), (8 : Int32), (0 : Int32), M11)) fun (y12 : Int32 × Int32 × Int32 × DD) =>
  bnd (FX0_priceOfBit G y12.2.2.2 a) fun y15 =>
  ltt ((y15.2 * y12.2.1)) fun x16 =>
  ltt ((y12.1 + x16)) fun x17 =>
  some (y15.1, x17)
set_option maxHeartbeats 4000000 in
set_option maxRecDepth 100000 in
theorem kX0_costOfFour (l : Launch) (D : va_G) (ct : CT) (ad : Nat → Nat) (Z : Nat → Nat) (G : GG) (M : DD) (sz : Nat) (a : Nat) (p0 : Int32) (p1 : Int32) (y : DD × Int32) (hc : a < G.1) (hk : G.2.1 a = 0) (hF : FX0_costOfFour G M a p0 p1 = some y) : Met l yX0_costOfFour wuX0_costOfFour ({ frames := 4, cells := 0, slots := 0, locals := 90 }) (va_Pc [.ref (ad a), .int p0, .int p1] (kB D ct ad Z G M sz)) (va_Qi (fun (q : Int32) (_ : Unit) => q = y.2) (fun _ t => kE D ct ad G (wA ad G sz) y.1 t) (wA ad G sz)) 0 0 (wA ad G sz) := by
  refine Met.ofW (cc := cX0_costOfFour) (maxL := 13) (ret := (some .int)) (by decide) rfl ?_
  intro p e s m args below meth c s₁ B hml hv
  obtain ⟨rfl, hsz, hP, hK, hD0, hZ, hN⟩ := hv
  have hx := B.exec
  have hb := B.bytes
  have hr := B.returns
  have hts := atoms_spec (ws := wuX0_costOfFour) B.pre
  have hown : s.vm.findClass RX0 = some m.cls := findClass_of_methodNamed B.named
  have hlocks := B.notSynchronized
  subst hsz
  have hD := wD_self (sz := s.heap.size) hD0
  have hA9 : ∀ q, s.heap.size ≤ q → wA ad G s.heap.size q := fun q h => Or.inr h
  generalize hAe : wA ad G s.heap.size = A at hD hA9 hZ ⊢
  have hS : va_S A s.heap s.heap [] := va_S.rf
  have hl := lv_entry ([.ref (ad a), .int p0, .int p1]) (n := 13) (Nat.le_of_ble_eq_true rfl)
  rw [lg_entry_eq]
  generalize (lg_sl ([.ref (ad a), .int p0, .int p1]) ++ List.replicate (13 - (lg_sl ([.ref (ad a), .int p0, .int p1])).length) Slot.unset).toArray = ls at hl ⊢
  have hl : lv_has ls 13 [(0, .ref (ad a)), (1, .int p0), (2, .int p1)] := hl
  unfold FX0_costOfFour at hF
  refine lv_iconst (v := (0 : Int32)) hx hb dX0_costOfFour_0 (by decide) ?_
  refine lv_istore_n (lv' := [(3, .int (0 : Int32)), (0, .ref (ad a)), (1, .int p0), (2, .int p1)]) hx hb dX0_costOfFour_1 rfl hl (by decide) rfl (fun ls hl => ?_)
  refine lv_bipush (v := (8 : Int32)) hx hb dX0_costOfFour_2 (by decide) ?_
  refine lv_istore (lv' := [(4, .int (8 : Int32)), (3, .int (0 : Int32)), (0, .ref (ad a)), (1, .int p0), (2, .int p1)]) hx hb dX0_costOfFour_4 hl (by decide) rfl (fun ls hl => ?_)
  refine lv_aload_n hx hb dX0_costOfFour_6 rfl (lv_at hl 2 rfl) ?_
  refine va_get (D := D) (ci := 0) (v := va_re ad (M.2 a 3)) (C := RX0) (T := TX0) (N := 21) hx hb hts (mus hf_X0) hown hK hP a (wld_o ct ad G M hc hk (by decide)) rfl 3 (by decide) (hts (.fieldLink RX0 36 "VideoSuite$Coder" "work" "LVideoSuite$Work;") (mu mw_817)) (fun _ h9 => h9) rfl dX0_costOfFour_7 ?_
  obtain ⟨b2, ho2, hc2, hk2, hF⟩ := dr_some hF
  refine W_st (st' := [.ref (ad b2)]) (by rw [va_some ho2]) ?_
  refine va_get (D := D) (ci := 9) (v := va_re ad (M.2 b2 1)) (C := RX9) (T := TX9) (N := 20) hx hb hts (mus hf_X9) hown hK hP b2 (wld_o ct ad G M hc2 hk2 (by decide)) rfl 1 (by decide) (hts (.fieldLink RX0 81 "VideoSuite$Work" "head" "LVideoSuite$Header;") (mu mw_425)) (fun _ h9 => h9) rfl dX0_costOfFour_10 ?_
  obtain ⟨b3, ho3, hc3, hk3, hF⟩ := dr_some hF
  refine W_st (st' := [.ref (ad b3)]) (by rw [va_some ho3]) ?_
  refine va_get (D := D) (ci := 3) (v := va_re ad (M.2 b3 0)) (C := RX3) (T := TX3) (N := 4) hx hb hts (mus hf_X3) hown hK hP b3 (wld_o ct ad G M hc3 hk3 (by decide)) rfl 0 (by decide) (hts (.fieldLink RX0 252 "VideoSuite$Header" "v" "[I") (mu mw_620)) (fun _ h9 => h9) rfl dX0_costOfFour_13 ?_
  refine lv_bipush (v := (12 : Int32)) hx hb dX0_costOfFour_16 (by decide) ?_
  obtain ⟨b4, ho4, hc4, hk4, hF⟩ := dr_some hF
  refine W_st (st' := [.int (12 : Int32), .ref (ad b4)]) (by rw [va_some ho4]) ?_
  obtain ⟨hvc, hF⟩ := chk_some hF
  refine va_iald hx hb hK hP b4 1 (wld_i ct ad G M hc4 hk4) rfl hvc dX0_costOfFour_18 ?_
  obtain ⟨x5, ex5, hF⟩ := ltt_some hF
  refine lv_topi (fun zx5 ezx5 => ?_)
  obtain rfl : x5 = zx5 := ex5.trans ezx5.symm
  refine lv_istore (lv' := [(5, .int x5), (4, .int (8 : Int32)), (3, .int (0 : Int32)), (0, .ref (ad a)), (1, .int p0), (2, .int p1)]) hx hb dX0_costOfFour_19 hl (by decide) rfl (fun ls hl => ?_)
  refine lv_aload_n hx hb dX0_costOfFour_21 rfl (lv_at hl 3 rfl) ?_
  refine va_get (D := D) (ci := 0) (v := va_re ad (M.2 a 3)) (C := RX0) (T := TX0) (N := 21) hx hb hts (mus hf_X0) hown hK hP a (wld_o ct ad G M hc hk (by decide)) rfl 3 (by decide) (hts (.fieldLink RX0 36 "VideoSuite$Coder" "work" "LVideoSuite$Work;") (mu mw_817)) (fun _ h9 => h9) rfl dX0_costOfFour_22 ?_
  refine lv_iload_n hx hb dX0_costOfFour_25 rfl (lv_at hl 4 rfl) ?_
  refine W_st (st' := [.int p0, .ref (ad b2)]) (by rw [va_some ho2]) ?_
  obtain ⟨y6, hy6, hF⟩ := bnd_some hF
  have hf9 := wA_in hD hA9 hS
  refine va_callv (va_runV (As := [.int p0]) (rest := []) ⟨hx, hb, hml, hown, hts⟩ (kX9_clearBlock l D ct ad Z G M s.heap.size b2 p0 y6 hc2 hk2 hy6) (cwV 1 hts gX0_costOfFour_X9_clearBlock rfl rfl rfl (by decide +kernel) ⟨Nat.le_of_ble_eq_true rfl, Nat.le_of_ble_eq_true rfl⟩) ⟨fun a U g mk q => by obtain ⟨q0, q1, qP, qK, qD, qZ, qN⟩ := q; exact ⟨q0, q1, qP, va_K.moved (u := U) (U := U.calling g mk a) (Vm.Alike.refl U.vm) qK, qD, sF.moved (u := U) (U := U.calling g mk a) (Vm.Alike.refl U.vm) qZ, nF.same rfl qN⟩, va_recv hK hP (ci := 9) (q0 := b2) rfl (wld_o ct ad G M hc2 hk2 (by decide)), fun U hU hW => ⟨rfl, by rw [hU], by rw [hU]; exact hP, va_K.moved hW.alike hK, hD.weaken (fun _ _ _ _ => trivial), by rw [hU]; exact ((hZ.kept hS.2.1).narrow hf9).moved hW.alike, hN.warm hW⟩⟩ rfl rfl hl.1 rfl (lv_room (Nat.le_of_ble_eq_true rfl)) dX0_costOfFour_26 ⟨(Nat.zero_le _), (Nat.zero_le _)⟩) hS (fun q _ h => hf9 q h) hf9 (fun u t H locs ht hvm hw hB hz1 hk1 hS => ?_)
  obtain ⟨hP, hK9, hD9⟩ := hB
  rw [ht] at hP
  have hD := hD9.weaken (fun _ q _ h => hf9 q.1 h)
  refine lv_aload_n hx hb dX0_costOfFour_29 rfl (lv_at hl 3 rfl) ?_
  refine va_get (D := D) (ci := 0) (v := va_re ad (y6.2 a 3)) (C := RX0) (T := TX0) (N := 21) hx hb hts (mus hf_X0) hown hK hP a (wld_o ct ad G y6 hc hk (by decide)) rfl 3 (by decide) (hts (.fieldLink RX0 36 "VideoSuite$Coder" "work" "LVideoSuite$Work;") (mu mw_817)) (fun _ h9 => h9) rfl dX0_costOfFour_30 ?_
  obtain ⟨b7, ho7, hc7, hk7, hF⟩ := dr_some hF
  refine W_st (st' := [.ref (ad b7)]) (by rw [va_some ho7]) ?_
  refine va_get (D := D) (ci := 9) (v := va_re ad (y6.2 b7 6)) (C := RX9) (T := TX9) (N := 20) hx hb hts (mus hf_X9) hown hK hP b7 (wld_o ct ad G y6 hc7 hk7 (by decide)) rfl 6 (by decide) (hts (.fieldLink RX0 216 "VideoSuite$Work" "info" "[I") (mu mw_445)) (fun _ h9 => h9) rfl dX0_costOfFour_33 ?_
  refine lv_bipush (v := (8 : Int32)) hx hb dX0_costOfFour_36 (by decide) ?_
  refine lv_iload_n hx hb dX0_costOfFour_38 rfl (lv_at hl 4 rfl) ?_
  refine lv_imul hx hb dX0_costOfFour_39 ?_
  obtain ⟨x8, ex8, hF⟩ := ltt_some hF
  refine lv_topi (fun zx8 ezx8 => ?_)
  obtain rfl : x8 = zx8 := ex8.trans ezx8.symm
  refine lv_iconst (v := (0 : Int32)) hx hb dX0_costOfFour_40 (by decide) ?_
  refine lv_iadd hx hb dX0_costOfFour_41 ?_
  obtain ⟨x9, ex9, hF⟩ := ltt_some hF
  refine lv_topi (fun zx9 ezx9 => ?_)
  obtain rfl : x9 = zx9 := ex9.trans ezx9.symm
  refine lv_iconst (v := (0 : Int32)) hx hb dX0_costOfFour_42 (by decide) ?_
  obtain ⟨b10, ho10, hc10, hk10, hF⟩ := dr_some hF
  refine W_st (st' := [.int (0 : Int32), .int x9, .ref (ad b10)]) (by rw [va_some ho10]) ?_
  obtain ⟨hvc, hF⟩ := chk_some hF
  refine va_iast hx hb hK hP hD hS b10 1 (wld_i ct ad G y6 hc10 hk10) rfl hvc dX0_costOfFour_43 (fun H locs hP hD hS => ?_)
  obtain ⟨M11, eM11, hF⟩ := ltt_some hF
  rw [set_i ct ad G y6 hc10 hk10, ← eM11] at hP hD
  refine lv_iconst (v := (0 : Int32)) hx hb dX0_costOfFour_44 (by decide) ?_
  refine lv_istore (lv' := [(6, .int (0 : Int32)), (5, .int x5), (4, .int (8 : Int32)), (3, .int (0 : Int32)), (0, .ref (ad a)), (1, .int p0), (2, .int p1)]) hx hb dX0_costOfFour_45 hl (by decide) rfl (fun ls hl => ?_)
  obtain ⟨y12, hy12, hF⟩ := bnd_some hF
  have K12 : ∀ (H : Heap) (locs : List Loc) (ls : Array Slot), va_P D classes (wld ct ad G y12.2.2.2) H → va_D A (wld ct ad G y12.2.2.2) → va_S A s.heap H locs → lv_has ls 13 [(6, .int y12.2.2.1), (5, .int x5), (4, .int y12.2.1), (3, .int y12.1), (0, .ref (ad a)), (1, .int p0), (2, .int p1)] → W p l e (headSpec wuX0_costOfFour ({ frames := 4, cells := 0, slots := 0, locals := 90 })).room s m ([.ref (ad a), .int p0, .int p1] : List Value).toArray below meth c H locs 0 0 (MQ below (va_Qi (fun (q : Int32) (_ : Unit) => q = y.2) (fun _ t => kE D ct ad G A y.1 t) A) ([.ref (ad a), .int p0, .int p1] : List Value).toArray s 0 0 A) (F0 m 299 ls []) := by
    intro H locs ls hP hD hS hl
    refine lv_iload_n hx hb dX0_costOfFour_299 rfl (lv_at hl 3 rfl) ?_
    refine lv_aload_n hx hb dX0_costOfFour_300 rfl (lv_at hl 4 rfl) ?_
    obtain ⟨y15, hy15, hF⟩ := bnd_some hF
    have hf9 := wA_in hD hA9 hS
    refine va_calli (va_runV (As := []) (rest := [.int y12.1]) ⟨hx, hb, hml, hown, hts⟩ (kX0_priceOfBit l D ct ad Z G y12.2.2.2 H.size a y15 hc hk hy15) (cwV 0 hts gX0_costOfFour_X0_priceOfBit rfl rfl rfl (by decide +kernel) ⟨Nat.le_of_ble_eq_true rfl, Nat.le_of_ble_eq_true rfl⟩) ⟨fun a U g mk q => by obtain ⟨q0, q1, qP, qK, qD, qZ, qN⟩ := q; exact ⟨q0, q1, qP, va_K.moved (u := U) (U := U.calling g mk a) (Vm.Alike.refl U.vm) qK, qD, sF.moved (u := U) (U := U.calling g mk a) (Vm.Alike.refl U.vm) qZ, nF.same rfl qN⟩, va_recv hK hP (ci := 0) (q0 := a) rfl (wld_o ct ad G y12.2.2.2 hc hk (by decide)), fun U hU hW => ⟨rfl, by rw [hU], by rw [hU]; exact hP, va_K.moved hW.alike hK, hD.weaken (fun _ _ _ _ => trivial), by rw [hU]; exact ((hZ.kept hS.2.1).narrow hf9).moved hW.alike, hN.warm hW⟩⟩ rfl rfl hl.1 rfl (lv_room (Nat.le_of_ble_eq_true rfl)) dX0_costOfFour_301 ⟨(Nat.zero_le _), (Nat.zero_le _)⟩) hS (fun q _ h => hf9 q h) hf9 (fun r u t H locs ht hvm hw hB hz1 hk1 hS => ?_)
    obtain ⟨hP, hK9, hD9⟩ := hB
    rw [ht] at hP
    try dsimp only at hw
    subst hw
    have hD := hD9.weaken (fun _ q _ h => hf9 q.1 h)
    refine lv_iload hx hb dX0_costOfFour_304 (lv_at hl 2 rfl) ?_
    refine lv_imul hx hb dX0_costOfFour_306 ?_
    obtain ⟨x16, ex16, hF⟩ := ltt_some hF
    refine lv_topi (fun zx16 ezx16 => ?_)
    obtain rfl : x16 = zx16 := ex16.trans ezx16.symm
    refine lv_iadd hx hb dX0_costOfFour_307 ?_
    obtain ⟨x17, ex17, hF⟩ := ltt_some hF
    refine lv_topi (fun zx17 ezx17 => ?_)
    obtain rfl : x17 = zx17 := ex17.trans ezx17.symm
    obtain rfl := Option.some.inj hF
    exact W.iret (v := x17) hx hb hr (fun t ht hW => ⟨⟨_, (), rfl, rfl, ⟨by rw [ht]; exact hP, va_K.moved hW.alike hK, hD⟩⟩, hS.F ht⟩) hS.2.2 dX0_costOfFour_308
  clear hF
  refine itr_rule (fun (s13 : Int32 × Int32 × Int32 × DD) => ∀ (H : Heap) (locs : List Loc) (ls : Array Slot), va_P D classes (wld ct ad G s13.2.2.2) H → va_D A (wld ct ad G s13.2.2.2) → va_S A s.heap H locs → lv_has ls 13 [(6, .int s13.2.2.1), (5, .int x5), (4, .int s13.2.1), (3, .int s13.1), (0, .ref (ad a)), (1, .int p0), (2, .int p1)] → W p l e (headSpec wuX0_costOfFour ({ frames := 4, cells := 0, slots := 0, locals := 90 })).room s m ([.ref (ad a), .int p0, .int p1] : List Value).toArray below meth c H locs 0 0 (MQ below (va_Qi (fun (q : Int32) (_ : Unit) => q = y.2) (fun _ t => kE D ct ad G A y.1 t) A) ([.ref (ad a), .int p0, .int p1] : List Value).toArray s 0 0 A) (F0 m 47 ls [])) ?_ _ _ hy12 _ _ _ hP hD hS (lv_sub hl [0, 1, 2, 3, 4, 5, 6] rfl)
  rintro s13 ⟨z18, hF, hwz18⟩ H locs ls hP hD hS hl
  try dsimp only at hF
  refine lv_iload hx hb dX0_costOfFour_47 (lv_at hl 0 rfl) ?_
  refine lv_bipush (v := (16 : Int32)) hx hb dX0_costOfFour_49 (by decide) ?_
  refine lv_icmp_ge (tgt := 299) hx hb dX0_costOfFour_51 (by decide) (fun c19 => ?_) (fun c19 => ?_)
  · rw [if_pos c19] at hF
    obtain rfl := Option.some.inj hF
    subst hwz18
    exact K12 _ _ _ hP hD hS (lv_sub hl [0, 1, 2, 3, 4, 5, 6] rfl)
  · rw [if_neg c19] at hF
    refine lv_iload hx hb dX0_costOfFour_54 (lv_at hl 0 rfl) ?_
    refine lv_iload_n hx hb dX0_costOfFour_56 rfl (lv_at hl 6 rfl) ?_
    obtain ⟨y20, hy20, hF⟩ := bnd_some hF
    have hf9 := wA_in hD hA9 hS
    refine va_calli (va_runS (As := [.int s13.2.2.1, .int p1]) (rest := []) ⟨hx, hb, hml, hown, hts⟩ (kX9_sidesOf l D ct ad Z G s13.2.2.2 H.size s13.2.2.1 p1 y20 hy20) (va_cwS 2 hts gX0_costOfFour_X9_sidesOf rfl rfl rfl (by decide +kernel) ⟨Nat.le_of_ble_eq_true rfl, Nat.le_of_ble_eq_true rfl⟩) ⟨fun a U g mk q => by obtain ⟨q0, q1, qP, qK, qD, qZ, qN⟩ := q; exact ⟨q0, q1, qP, va_K.moved (u := U) (U := U.calling g mk a) (Vm.Alike.refl U.vm) qK, qD, sF.moved (u := U) (U := U.calling g mk a) (Vm.Alike.refl U.vm) qZ, nF.same rfl qN⟩, fun U hU hW => ⟨rfl, by rw [hU], by rw [hU]; exact hP, va_K.moved hW.alike hK, hD.weaken (fun _ _ _ _ => trivial), by rw [hU]; exact ((hZ.kept hS.2.1).narrow hf9).moved hW.alike, hN.warm hW⟩⟩ rfl rfl hl.1 rfl (lv_room (Nat.le_of_ble_eq_true rfl)) dX0_costOfFour_57 ⟨(Nat.zero_le _), (Nat.zero_le _)⟩) hS (fun q _ h => hf9 q h) hf9 (fun r u t H locs ht hvm hw hB hz1 hk1 hS => ?_)
    obtain ⟨hP, hK9, hD9⟩ := hB
    rw [ht] at hP
    try dsimp only at hw
    subst hw
    have hD := hD9.weaken (fun _ q _ h => hf9 q.1 h)
    refine lv_istore (lv' := [(7, .int y20.2), (6, .int s13.2.2.1), (5, .int x5), (4, .int s13.2.1), (3, .int s13.1), (0, .ref (ad a)), (1, .int p0), (2, .int p1)]) hx hb dX0_costOfFour_60 hl (by decide) rfl (fun ls hl => ?_)
    refine lv_aload_n hx hb dX0_costOfFour_62 rfl (lv_at hl 5 rfl) ?_
    refine va_get (D := D) (ci := 0) (v := va_re ad (y20.1.2 a 3)) (C := RX0) (T := TX0) (N := 21) hx hb hts (mus hf_X0) hown hK hP a (wld_o ct ad G y20.1 hc hk (by decide)) rfl 3 (by decide) (hts (.fieldLink RX0 36 "VideoSuite$Coder" "work" "LVideoSuite$Work;") (mu mw_817)) (fun _ h9 => h9) rfl dX0_costOfFour_63 ?_
    refine lv_iload_n hx hb dX0_costOfFour_66 rfl (lv_at hl 6 rfl) ?_
    refine lv_iload hx hb dX0_costOfFour_67 (lv_at hl 1 rfl) ?_
    obtain ⟨b21, ho21, hc21, hk21, hF⟩ := dr_some hF
    refine W_st (st' := [.int s13.2.2.1, .int p0, .ref (ad b21)]) (by rw [va_some ho21]) ?_
    obtain ⟨y22, hy22, hF⟩ := bnd_some hF
    have hf9 := wA_in hD hA9 hS
    refine va_calli (va_runV (As := [.int p0, .int s13.2.2.1]) (rest := []) ⟨hx, hb, hml, hown, hts⟩ (kX9_guessMode l D ct ad Z G y20.1 H.size b21 p0 s13.2.2.1 y22 hc21 hk21 hy22) (cwV 2 hts gX0_costOfFour_X9_guessMode rfl rfl rfl (by decide +kernel) ⟨Nat.le_of_ble_eq_true rfl, Nat.le_of_ble_eq_true rfl⟩) ⟨fun a U g mk q => by obtain ⟨q0, q1, qP, qK, qD, qZ, qN⟩ := q; exact ⟨q0, q1, qP, va_K.moved (u := U) (U := U.calling g mk a) (Vm.Alike.refl U.vm) qK, qD, sF.moved (u := U) (U := U.calling g mk a) (Vm.Alike.refl U.vm) qZ, nF.same rfl qN⟩, va_recv hK hP (ci := 9) (q0 := b21) rfl (wld_o ct ad G y20.1 hc21 hk21 (by decide)), fun U hU hW => ⟨rfl, by rw [hU], by rw [hU]; exact hP, va_K.moved hW.alike hK, hD.weaken (fun _ _ _ _ => trivial), by rw [hU]; exact ((hZ.kept hS.2.1).narrow hf9).moved hW.alike, hN.warm hW⟩⟩ rfl rfl hl.1 rfl (lv_room (Nat.le_of_ble_eq_true rfl)) dX0_costOfFour_69 ⟨(Nat.zero_le _), (Nat.zero_le _)⟩) hS (fun q _ h => hf9 q h) hf9 (fun r u t H locs ht hvm hw hB hz1 hk1 hS => ?_)
    obtain ⟨hP, hK9, hD9⟩ := hB
    rw [ht] at hP
    try dsimp only at hw
    subst hw
    have hD := hD9.weaken (fun _ q _ h => hf9 q.1 h)
    refine lv_istore (lv' := [(8, .int y22.2), (7, .int y20.2), (6, .int s13.2.2.1), (5, .int x5), (4, .int s13.2.1), (3, .int s13.1), (0, .ref (ad a)), (1, .int p0), (2, .int p1)]) hx hb dX0_costOfFour_72 hl (by decide) rfl (fun ls hl => ?_)
    refine lv_ldcw (v := (2147483647 : Int32)) hx hb hown (hts (.constant RX0 435 (2147483647 : Int32)) (mu mw_2529)) dX0_costOfFour_74 ?_
    refine lv_istore (lv' := [(9, .int (2147483647 : Int32)), (8, .int y22.2), (7, .int y20.2), (6, .int s13.2.2.1), (5, .int x5), (4, .int s13.2.1), (3, .int s13.1), (0, .ref (ad a)), (1, .int p0), (2, .int p1)]) hx hb dX0_costOfFour_77 hl (by decide) rfl (fun ls hl => ?_)
    refine lv_iconst (v := (2 : Int32)) hx hb dX0_costOfFour_79 (by decide) ?_
    refine lv_istore (lv' := [(10, .int (2 : Int32)), (9, .int (2147483647 : Int32)), (8, .int y22.2), (7, .int y20.2), (6, .int s13.2.2.1), (5, .int x5), (4, .int s13.2.1), (3, .int s13.1), (0, .ref (ad a)), (1, .int p0), (2, .int p1)]) hx hb dX0_costOfFour_80 hl (by decide) rfl (fun ls hl => ?_)
    refine lv_iconst (v := (0 : Int32)) hx hb dX0_costOfFour_82 (by decide) ?_
    refine lv_istore (lv' := [(11, .int (0 : Int32)), (10, .int (2 : Int32)), (9, .int (2147483647 : Int32)), (8, .int y22.2), (7, .int y20.2), (6, .int s13.2.2.1), (5, .int x5), (4, .int s13.2.1), (3, .int s13.1), (0, .ref (ad a)), (1, .int p0), (2, .int p1)]) hx hb dX0_costOfFour_83 hl (by decide) rfl (fun ls hl => ?_)
    obtain ⟨y23, hy23, hF⟩ := bnd_some hF
    have K23 : ∀ (H : Heap) (locs : List Loc) (ls : Array Slot), va_P D classes (wld ct ad G y23.2.2.2) H → va_D A (wld ct ad G y23.2.2.2) → va_S A s.heap H locs → lv_has ls 13 [(11, .int y23.2.2.1), (10, .int y23.2.1), (9, .int y23.1), (8, .int y22.2), (7, .int y20.2), (6, .int s13.2.2.1), (5, .int x5), (4, .int s13.2.1), (3, .int s13.1), (0, .ref (ad a)), (1, .int p0), (2, .int p1)] → W p l e (headSpec wuX0_costOfFour ({ frames := 4, cells := 0, slots := 0, locals := 90 })).room s m ([.ref (ad a), .int p0, .int p1] : List Value).toArray below meth c H locs 0 0 (MQ below (va_Qi (fun (q : Int32) (_ : Unit) => q = y.2) (fun _ t => kE D ct ad G A y.1 t) A) ([.ref (ad a), .int p0, .int p1] : List Value).toArray s 0 0 A) (F0 m 184 ls []) := by
      intro H locs ls hP hD hS hl
      refine lv_iload_n hx hb dX0_costOfFour_184 rfl (lv_at hl 8 rfl) ?_
      refine lv_iload hx hb dX0_costOfFour_185 (lv_at hl 2 rfl) ?_
      refine lv_iadd hx hb dX0_costOfFour_187 ?_
      obtain ⟨x26, ex26, hF⟩ := ltt_some hF
      refine lv_topi (fun zx26 ezx26 => ?_)
      obtain rfl : x26 = zx26 := ex26.trans ezx26.symm
      refine lv_istore_n (lv' := [(3, .int x26), (11, .int y23.2.2.1), (10, .int y23.2.1), (9, .int y23.1), (8, .int y22.2), (7, .int y20.2), (6, .int s13.2.2.1), (5, .int x5), (4, .int s13.2.1), (0, .ref (ad a)), (1, .int p0), (2, .int p1)]) hx hb dX0_costOfFour_188 rfl hl (by decide) rfl (fun ls hl => ?_)
      refine lv_iload hx hb dX0_costOfFour_189 (lv_at hl 8 rfl) ?_
      refine lv_iload hx hb dX0_costOfFour_191 (lv_at hl 2 rfl) ?_
      refine lv_iload hx hb dX0_costOfFour_193 (lv_at hl 4 rfl) ?_
      obtain ⟨y27, hy27, hF⟩ := bnd_some hF
      have J27 : ∀ (H : Heap) (locs : List Loc) (ls : Array Slot), va_P D classes (wld ct ad G y23.2.2.2) H → va_D A (wld ct ad G y23.2.2.2) → va_S A s.heap H locs → lv_has ls 13 [(3, .int x26), (11, .int y23.2.2.1), (10, .int y23.2.1), (9, .int y23.1), (8, .int y22.2), (7, .int y20.2), (6, .int s13.2.2.1), (5, .int x5), (4, .int s13.2.1), (0, .ref (ad a)), (1, .int p0), (2, .int p1)] → W p l e (headSpec wuX0_costOfFour ({ frames := 4, cells := 0, slots := 0, locals := 90 })).room s m ([.ref (ad a), .int p0, .int p1] : List Value).toArray below meth c H locs 0 0 (MQ below (va_Qi (fun (q : Int32) (_ : Unit) => q = y.2) (fun _ t => kE D ct ad G A y.1 t) A) ([.ref (ad a), .int p0, .int p1] : List Value).toArray s 0 0 A) (F0 m 203 ls [.int y27, .int s13.2.1]) := by
        intro H locs ls hP hD hS hl
        refine lv_iadd hx hb dX0_costOfFour_203 ?_
        obtain ⟨x28, ex28, hF⟩ := ltt_some hF
        refine lv_topi (fun zx28 ezx28 => ?_)
        obtain rfl : x28 = zx28 := ex28.trans ezx28.symm
        refine lv_istore (lv' := [(4, .int x28), (3, .int x26), (11, .int y23.2.2.1), (10, .int y23.2.1), (9, .int y23.1), (8, .int y22.2), (7, .int y20.2), (6, .int s13.2.2.1), (5, .int x5), (0, .ref (ad a)), (1, .int p0), (2, .int p1)]) hx hb dX0_costOfFour_204 hl (by decide) rfl (fun ls hl => ?_)
        refine lv_aload_n hx hb dX0_costOfFour_206 rfl (lv_at hl 9 rfl) ?_
        refine va_get (D := D) (ci := 0) (v := va_re ad (y23.2.2.2.2 a 20)) (C := RX0) (T := TX0) (N := 21) hx hb hts (mus hf_X0) hown hK hP a (wld_o ct ad G y23.2.2.2 hc hk (by decide)) rfl 20 (by decide) (hts (.fieldLink RX0 75 "VideoSuite$Coder" "choice" "[I") (mu mw_838)) (fun _ h9 => h9) rfl dX0_costOfFour_207 ?_
        refine lv_bipush (v := (13 : Int32)) hx hb dX0_costOfFour_210 (by decide) ?_
        refine lv_iload hx hb dX0_costOfFour_212 (lv_at hl 7 rfl) ?_
        refine lv_iadd hx hb dX0_costOfFour_214 ?_
        obtain ⟨x29, ex29, hF⟩ := ltt_some hF
        refine lv_topi (fun zx29 ezx29 => ?_)
        obtain rfl : x29 = zx29 := ex29.trans ezx29.symm
        refine lv_iload hx hb dX0_costOfFour_215 (lv_at hl 3 rfl) ?_
        obtain ⟨b30, ho30, hc30, hk30, hF⟩ := dr_some hF
        refine W_st (st' := [.int y23.2.1, .int x29, .ref (ad b30)]) (by rw [va_some ho30]) ?_
        obtain ⟨hvc, hF⟩ := chk_some hF
        refine va_iast hx hb hK hP hD hS b30 1 (wld_i ct ad G y23.2.2.2 hc30 hk30) rfl hvc dX0_costOfFour_217 (fun H locs hP hD hS => ?_)
        obtain ⟨M31, eM31, hF⟩ := ltt_some hF
        rw [set_i ct ad G y23.2.2.2 hc30 hk30, ← eM31] at hP hD
        refine lv_aload_n hx hb dX0_costOfFour_218 rfl (lv_at hl 9 rfl) ?_
        refine va_get (D := D) (ci := 0) (v := va_re ad (M31.2 a 3)) (C := RX0) (T := TX0) (N := 21) hx hb hts (mus hf_X0) hown hK hP a (wld_o ct ad G M31 hc hk (by decide)) rfl 3 (by decide) (hts (.fieldLink RX0 36 "VideoSuite$Coder" "work" "LVideoSuite$Work;") (mu mw_817)) (fun _ h9 => h9) rfl dX0_costOfFour_219 ?_
        obtain ⟨b32, ho32, hc32, hk32, hF⟩ := dr_some hF
        refine W_st (st' := [.ref (ad b32)]) (by rw [va_some ho32]) ?_
        refine va_get (D := D) (ci := 9) (v := va_re ad (M31.2 b32 7)) (C := RX9) (T := TX9) (N := 20) hx hb hts (mus hf_X9) hown hK hP b32 (wld_o ct ad G M31 hc32 hk32 (by decide)) rfl 7 (by decide) (hts (.fieldLink RX0 356 "VideoSuite$Work" "mode" "[I") (mu mw_448)) (fun _ h9 => h9) rfl dX0_costOfFour_222 ?_
        refine lv_bipush (v := (16 : Int32)) hx hb dX0_costOfFour_225 (by decide) ?_
        refine lv_iload_n hx hb dX0_costOfFour_227 rfl (lv_at hl 10 rfl) ?_
        refine lv_imul hx hb dX0_costOfFour_228 ?_
        obtain ⟨x33, ex33, hF⟩ := ltt_some hF
        refine lv_topi (fun zx33 ezx33 => ?_)
        obtain rfl : x33 = zx33 := ex33.trans ezx33.symm
        refine lv_iload hx hb dX0_costOfFour_229 (lv_at hl 7 rfl) ?_
        refine lv_iadd hx hb dX0_costOfFour_231 ?_
        obtain ⟨x34, ex34, hF⟩ := ltt_some hF
        refine lv_topi (fun zx34 ezx34 => ?_)
        obtain rfl : x34 = zx34 := ex34.trans ezx34.symm
        refine lv_iload hx hb dX0_costOfFour_232 (lv_at hl 3 rfl) ?_
        obtain ⟨b35, ho35, hc35, hk35, hF⟩ := dr_some hF
        refine W_st (st' := [.int y23.2.1, .int x34, .ref (ad b35)]) (by rw [va_some ho35]) ?_
        obtain ⟨hvc, hF⟩ := chk_some hF
        refine va_iast hx hb hK hP hD hS b35 1 (wld_i ct ad G M31 hc35 hk35) rfl hvc dX0_costOfFour_234 (fun H locs hP hD hS => ?_)
        obtain ⟨M36, eM36, hF⟩ := ltt_some hF
        rw [set_i ct ad G M31 hc35 hk35, ← eM36] at hP hD
        refine lv_aload_n hx hb dX0_costOfFour_235 rfl (lv_at hl 9 rfl) ?_
        refine va_get (D := D) (ci := 0) (v := va_re ad (M36.2 a 4)) (C := RX0) (T := TX0) (N := 21) hx hb hts (mus hf_X0) hown hK hP a (wld_o ct ad G M36 hc hk (by decide)) rfl 4 (by decide) (hts (.fieldLink RX0 43 "VideoSuite$Coder" "samples" "LVideoSuite$Samples;") (mu mw_818)) (fun _ h9 => h9) rfl dX0_costOfFour_236 ?_
        refine lv_aload_n hx hb dX0_costOfFour_239 rfl (lv_at hl 9 rfl) ?_
        refine va_get (D := D) (ci := 0) (v := va_re ad (M36.2 a 3)) (C := RX0) (T := TX0) (N := 21) hx hb hts (mus hf_X0) hown hK hP a (wld_o ct ad G M36 hc hk (by decide)) rfl 3 (by decide) (hts (.fieldLink RX0 36 "VideoSuite$Coder" "work" "LVideoSuite$Work;") (mu mw_817)) (fun _ h9 => h9) rfl dX0_costOfFour_240 ?_
        refine lv_iload_n hx hb dX0_costOfFour_243 rfl (lv_at hl 10 rfl) ?_
        refine lv_iload hx hb dX0_costOfFour_244 (lv_at hl 7 rfl) ?_
        refine lv_iload hx hb dX0_costOfFour_246 (lv_at hl 3 rfl) ?_
        refine lv_iload hx hb dX0_costOfFour_248 (lv_at hl 6 rfl) ?_
        obtain ⟨b37, ho37, hc37, hk37, hF⟩ := dr_some hF
        refine W_st (st' := [.int y20.2, .int y23.2.1, .int s13.2.2.1, .int p0, va_re ad (M36.2 a 3), .ref (ad b37)]) (by rw [va_some ho37]) ?_
        obtain ⟨y38, hy38, hF⟩ := bnd_some hF
        have hf9 := wA_in hD hA9 hS
        refine va_callv (va_runV (As := [va_re ad (M36.2 a 3), .int p0, .int s13.2.2.1, .int y23.2.1, .int y20.2]) (rest := []) ⟨hx, hb, hml, hown, hts⟩ (kX6_predictFour l D ct ad Z G M36 H.size b37 ((M36.2 a 3)) p0 s13.2.2.1 y23.2.1 y20.2 y38 hc37 hk37 hy38) (cwV 5 hts gX0_costOfFour_X6_predictFour rfl rfl rfl (by decide +kernel) ⟨Nat.le_of_ble_eq_true rfl, Nat.le_of_ble_eq_true rfl⟩) ⟨fun a U g mk q => by obtain ⟨q0, q1, qP, qK, qD, qZ, qN⟩ := q; exact ⟨q0, q1, qP, va_K.moved (u := U) (U := U.calling g mk a) (Vm.Alike.refl U.vm) qK, qD, sF.moved (u := U) (U := U.calling g mk a) (Vm.Alike.refl U.vm) qZ, nF.same rfl qN⟩, va_recv hK hP (ci := 6) (q0 := b37) rfl (wld_o ct ad G M36 hc37 hk37 (by decide)), fun U hU hW => ⟨rfl, by rw [hU], by rw [hU]; exact hP, va_K.moved hW.alike hK, hD.weaken (fun _ _ _ _ => trivial), by rw [hU]; exact ((hZ.kept hS.2.1).narrow hf9).moved hW.alike, hN.warm hW⟩⟩ rfl rfl hl.1 rfl (lv_room (Nat.le_of_ble_eq_true rfl)) dX0_costOfFour_250 ⟨(Nat.zero_le _), (Nat.zero_le _)⟩) hS (fun q _ h => hf9 q h) hf9 (fun u t H locs ht hvm hw hB hz1 hk1 hS => ?_)
        obtain ⟨hP, hK9, hD9⟩ := hB
        rw [ht] at hP
        have hD := hD9.weaken (fun _ q _ h => hf9 q.1 h)
        refine lv_aload_n hx hb dX0_costOfFour_253 rfl (lv_at hl 9 rfl) ?_
        refine va_get (D := D) (ci := 0) (v := va_re ad (y38.2 a 4)) (C := RX0) (T := TX0) (N := 21) hx hb hts (mus hf_X0) hown hK hP a (wld_o ct ad G y38 hc hk (by decide)) rfl 4 (by decide) (hts (.fieldLink RX0 43 "VideoSuite$Coder" "samples" "LVideoSuite$Samples;") (mu mw_818)) (fun _ h9 => h9) rfl dX0_costOfFour_254 ?_
        refine lv_aload_n hx hb dX0_costOfFour_257 rfl (lv_at hl 9 rfl) ?_
        refine va_get (D := D) (ci := 0) (v := va_re ad (y38.2 a 3)) (C := RX0) (T := TX0) (N := 21) hx hb hts (mus hf_X0) hown hK hP a (wld_o ct ad G y38 hc hk (by decide)) rfl 3 (by decide) (hts (.fieldLink RX0 36 "VideoSuite$Coder" "work" "LVideoSuite$Work;") (mu mw_817)) (fun _ h9 => h9) rfl dX0_costOfFour_258 ?_
        refine lv_aload_n hx hb dX0_costOfFour_261 rfl (lv_at hl 9 rfl) ?_
        refine va_get (D := D) (ci := 0) (v := va_re ad (y38.2 a 9)) (C := RX0) (T := TX0) (N := 21) hx hb hts (mus hf_X0) hown hK hP a (wld_o ct ad G y38 hc hk (by decide)) rfl 9 (by decide) (hts (.fieldLink RX0 69 "VideoSuite$Coder" "source" "[[I") (mu mw_823)) (fun _ h9 => h9) rfl dX0_costOfFour_262 ?_
        refine lv_iconst (v := (0 : Int32)) hx hb dX0_costOfFour_265 (by decide) ?_
        obtain ⟨b39, ho39, hc39, hk39, hF⟩ := dr_some hF
        refine W_st (st' := [.int (0 : Int32), .ref (ad b39), va_re ad (y38.2 a 3), va_re ad (y38.2 a 4)]) (by rw [va_some ho39]) ?_
        obtain ⟨hvc, hF⟩ := chk_some hF
        refine ld_g hx hb hK hP hc39 hk39 hvc dX0_costOfFour_266 ?_
        refine lv_iload_n hx hb dX0_costOfFour_267 rfl (lv_at hl 10 rfl) ?_
        refine lv_iload hx hb dX0_costOfFour_268 (lv_at hl 7 rfl) ?_
        refine lv_iload hx hb dX0_costOfFour_270 (lv_at hl 8 rfl) ?_
        refine lv_iconst (v := (1 : Int32)) hx hb dX0_costOfFour_272 (by decide) ?_
        obtain ⟨b40, ho40, hc40, hk40, hF⟩ := dr_some hF
        refine W_st (st' := [.int (1 : Int32), .int x5, .int s13.2.2.1, .int p0, va_re ad (y38.2 b39 ((0 : Int32)).toNatClampNeg), va_re ad (y38.2 a 3), .ref (ad b40)]) (by rw [va_some ho40]) ?_
        obtain ⟨y41, hy41, hF⟩ := bnd_some hF
        have hf9 := wA_in hD hA9 hS
        refine va_calli (va_runV (As := [va_re ad (y38.2 a 3), va_re ad (y38.2 b39 ((0 : Int32)).toNatClampNeg), .int p0, .int s13.2.2.1, .int x5, .int (1 : Int32)]) (rest := []) ⟨hx, hb, hml, hown, hts⟩ (kX6_measureLuma l D ct ad Z G y38 H.size b40 ((y38.2 a 3)) ((y38.2 b39 ((0 : Int32)).toNatClampNeg)) p0 s13.2.2.1 x5 ((1 : Int32)) y41 hc40 hk40 hy41) (cwV 6 hts gX0_costOfFour_X6_measureLuma rfl rfl rfl (by decide +kernel) ⟨Nat.le_of_ble_eq_true rfl, Nat.le_of_ble_eq_true rfl⟩) ⟨fun a U g mk q => by obtain ⟨q0, q1, qP, qK, qD, qZ, qN⟩ := q; exact ⟨q0, q1, qP, va_K.moved (u := U) (U := U.calling g mk a) (Vm.Alike.refl U.vm) qK, qD, sF.moved (u := U) (U := U.calling g mk a) (Vm.Alike.refl U.vm) qZ, nF.same rfl qN⟩, va_recv hK hP (ci := 6) (q0 := b40) rfl (wld_o ct ad G y38 hc40 hk40 (by decide)), fun U hU hW => ⟨rfl, by rw [hU], by rw [hU]; exact hP, va_K.moved hW.alike hK, hD.weaken (fun _ _ _ _ => trivial), by rw [hU]; exact ((hZ.kept hS.2.1).narrow hf9).moved hW.alike, hN.warm hW⟩⟩ rfl rfl hl.1 rfl (lv_room (Nat.le_of_ble_eq_true rfl)) dX0_costOfFour_273 ⟨(Nat.zero_le _), (Nat.zero_le _)⟩) hS (fun q _ h => hf9 q h) hf9 (fun r u t H locs ht hvm hw hB hz1 hk1 hS => ?_)
        obtain ⟨hP, hK9, hD9⟩ := hB
        rw [ht] at hP
        try dsimp only at hw
        subst hw
        have hD := hD9.weaken (fun _ q _ h => hf9 q.1 h)
        refine lv_pop hx hb dX0_costOfFour_276 rfl ?_
        refine lv_aload_n hx hb dX0_costOfFour_277 rfl (lv_at hl 9 rfl) ?_
        refine va_get (D := D) (ci := 0) (v := va_re ad (y41.1.2 a 4)) (C := RX0) (T := TX0) (N := 21) hx hb hts (mus hf_X0) hown hK hP a (wld_o ct ad G y41.1 hc hk (by decide)) rfl 4 (by decide) (hts (.fieldLink RX0 43 "VideoSuite$Coder" "samples" "LVideoSuite$Samples;") (mu mw_818)) (fun _ h9 => h9) rfl dX0_costOfFour_278 ?_
        refine lv_aload_n hx hb dX0_costOfFour_281 rfl (lv_at hl 9 rfl) ?_
        refine va_get (D := D) (ci := 0) (v := va_re ad (y41.1.2 a 3)) (C := RX0) (T := TX0) (N := 21) hx hb hts (mus hf_X0) hown hK hP a (wld_o ct ad G y41.1 hc hk (by decide)) rfl 3 (by decide) (hts (.fieldLink RX0 36 "VideoSuite$Coder" "work" "LVideoSuite$Work;") (mu mw_817)) (fun _ h9 => h9) rfl dX0_costOfFour_282 ?_
        refine lv_iload_n hx hb dX0_costOfFour_285 rfl (lv_at hl 10 rfl) ?_
        refine lv_iload hx hb dX0_costOfFour_286 (lv_at hl 7 rfl) ?_
        refine lv_iload hx hb dX0_costOfFour_288 (lv_at hl 8 rfl) ?_
        obtain ⟨b42, ho42, hc42, hk42, hF⟩ := dr_some hF
        refine W_st (st' := [.int x5, .int s13.2.2.1, .int p0, va_re ad (y41.1.2 a 3), .ref (ad b42)]) (by rw [va_some ho42]) ?_
        obtain ⟨y43, hy43, hF⟩ := bnd_some hF
        have hf9 := wA_in hD hA9 hS
        refine va_callv (va_runV (As := [va_re ad (y41.1.2 a 3), .int p0, .int s13.2.2.1, .int x5]) (rest := []) ⟨hx, hb, hml, hown, hts⟩ (kX6_fillLuma l D ct ad Z G y41.1 H.size b42 ((y41.1.2 a 3)) p0 s13.2.2.1 x5 y43 hc42 hk42 hy43) (cwV 4 hts gX0_costOfFour_X6_fillLuma rfl rfl rfl (by decide +kernel) ⟨Nat.le_of_ble_eq_true rfl, Nat.le_of_ble_eq_true rfl⟩) ⟨fun a U g mk q => by obtain ⟨q0, q1, qP, qK, qD, qZ, qN⟩ := q; exact ⟨q0, q1, qP, va_K.moved (u := U) (U := U.calling g mk a) (Vm.Alike.refl U.vm) qK, qD, sF.moved (u := U) (U := U.calling g mk a) (Vm.Alike.refl U.vm) qZ, nF.same rfl qN⟩, va_recv hK hP (ci := 6) (q0 := b42) rfl (wld_o ct ad G y41.1 hc42 hk42 (by decide)), fun U hU hW => ⟨rfl, by rw [hU], by rw [hU]; exact hP, va_K.moved hW.alike hK, hD.weaken (fun _ _ _ _ => trivial), by rw [hU]; exact ((hZ.kept hS.2.1).narrow hf9).moved hW.alike, hN.warm hW⟩⟩ rfl rfl hl.1 rfl (lv_room (Nat.le_of_ble_eq_true rfl)) dX0_costOfFour_290 ⟨(Nat.zero_le _), (Nat.zero_le _)⟩) hS (fun q _ h => hf9 q h) hf9 (fun u t H locs ht hvm hw hB hz1 hk1 hS => ?_)
        obtain ⟨hP, hK9, hD9⟩ := hB
        rw [ht] at hP
        have hD := hD9.weaken (fun _ q _ h => hf9 q.1 h)
        obtain ⟨x44, ex44, hF⟩ := ltt_some hF
        refine lv_iinc (v := x44) (lv' := [(6, .int x44), (4, .int x28), (3, .int x26), (11, .int y23.2.2.1), (10, .int y23.2.1), (9, .int y23.1), (8, .int y22.2), (7, .int y20.2), (5, .int x5), (0, .ref (ad a)), (1, .int p0), (2, .int p1)]) hx hb dX0_costOfFour_293 hl (k := 7) rfl (by rw [ex44]; rfl) (by decide) rfl (fun ls hl => ?_)
        refine lv_goto (tgt := 47) hx hb dX0_costOfFour_296 (by decide) ?_
        obtain rfl := Option.some.inj hF
        exact hwz18 _ _ _ hP hD hS (lv_sub hl [0, 8, 1, 2, 9, 10, 11] rfl)
      clear hF
      have hF := hy27
      clear hy27
      refine lv_icmp_ne (tgt := 202) hx hb dX0_costOfFour_195 (by decide) (fun c45 => ?_) (fun c45 => ?_)
      · rw [if_neg c45] at hF
        refine lv_iconst (v := (4 : Int32)) hx hb dX0_costOfFour_202 (by decide) ?_
        obtain rfl := Option.some.inj hF
        exact J27 _ _ _ hP hD hS (lv_sub hl [0, 1, 2, 3, 4, 5, 6, 7, 8, 9, 10, 11] rfl)
      · rw [if_pos c45] at hF
        refine lv_iconst (v := (1 : Int32)) hx hb dX0_costOfFour_198 (by decide) ?_
        refine lv_goto (tgt := 203) hx hb dX0_costOfFour_199 (by decide) ?_
        obtain rfl := Option.some.inj hF
        exact J27 _ _ _ hP hD hS (lv_sub hl [0, 1, 2, 3, 4, 5, 6, 7, 8, 9, 10, 11] rfl)
    clear hF
    refine itr_rule (fun (s24 : Int32 × Int32 × Int32 × DD) => ∀ (H : Heap) (locs : List Loc) (ls : Array Slot), va_P D classes (wld ct ad G s24.2.2.2) H → va_D A (wld ct ad G s24.2.2.2) → va_S A s.heap H locs → lv_has ls 13 [(11, .int s24.2.2.1), (10, .int s24.2.1), (9, .int s24.1), (8, .int y22.2), (7, .int y20.2), (6, .int s13.2.2.1), (5, .int x5), (4, .int s13.2.1), (3, .int s13.1), (0, .ref (ad a)), (1, .int p0), (2, .int p1)] → W p l e (headSpec wuX0_costOfFour ({ frames := 4, cells := 0, slots := 0, locals := 90 })).room s m ([.ref (ad a), .int p0, .int p1] : List Value).toArray below meth c H locs 0 0 (MQ below (va_Qi (fun (q : Int32) (_ : Unit) => q = y.2) (fun _ t => kE D ct ad G A y.1 t) A) ([.ref (ad a), .int p0, .int p1] : List Value).toArray s 0 0 A) (F0 m 85 ls [])) ?_ _ _ hy23 _ _ _ hP hD hS (lv_sub hl [0, 1, 2, 3, 4, 5, 6, 7, 8, 9, 10, 11] rfl)
    rintro s24 ⟨z46, hF, hwz46⟩ H locs ls hP hD hS hl
    try dsimp only at hF
    refine lv_iload hx hb dX0_costOfFour_85 (lv_at hl 0 rfl) ?_
    refine lv_bipush (v := (9 : Int32)) hx hb dX0_costOfFour_87 (by decide) ?_
    refine lv_icmp_ge (tgt := 184) hx hb dX0_costOfFour_89 (by decide) (fun c47 => ?_) (fun c47 => ?_)
    · rw [if_pos c47] at hF
      obtain rfl := Option.some.inj hF
      subst hwz46
      exact K23 _ _ _ hP hD hS (lv_sub hl [0, 1, 2, 3, 4, 5, 6, 7, 8, 9, 10, 11] rfl)
    · rw [if_neg c47] at hF
      refine lv_iload hx hb dX0_costOfFour_92 (lv_at hl 0 rfl) ?_
      refine lv_iload hx hb dX0_costOfFour_94 (lv_at hl 4 rfl) ?_
      obtain ⟨y48, hy48, hF⟩ := bnd_some hF
      have hf9 := wA_in hD hA9 hS
      refine va_calli (va_runS (As := [.int s24.2.2.1, .int y20.2]) (rest := []) ⟨hx, hb, hml, hown, hts⟩ (kX9_mayBeFour l D ct ad Z G s24.2.2.2 H.size s24.2.2.1 y20.2 y48 hy48) (va_cwS 2 hts gX0_costOfFour_X9_mayBeFour rfl rfl rfl (by decide +kernel) ⟨Nat.le_of_ble_eq_true rfl, Nat.le_of_ble_eq_true rfl⟩) ⟨fun a U g mk q => by obtain ⟨q0, q1, qP, qK, qD, qZ, qN⟩ := q; exact ⟨q0, q1, qP, va_K.moved (u := U) (U := U.calling g mk a) (Vm.Alike.refl U.vm) qK, qD, sF.moved (u := U) (U := U.calling g mk a) (Vm.Alike.refl U.vm) qZ, nF.same rfl qN⟩, fun U hU hW => ⟨rfl, by rw [hU], by rw [hU]; exact hP, va_K.moved hW.alike hK, hD.weaken (fun _ _ _ _ => trivial), by rw [hU]; exact ((hZ.kept hS.2.1).narrow hf9).moved hW.alike, hN.warm hW⟩⟩ rfl rfl hl.1 rfl (lv_room (Nat.le_of_ble_eq_true rfl)) dX0_costOfFour_96 ⟨(Nat.zero_le _), (Nat.zero_le _)⟩) hS (fun q _ h => hf9 q h) hf9 (fun r u t H locs ht hvm hw hB hz1 hk1 hS => ?_)
      obtain ⟨hP, hK9, hD9⟩ := hB
      rw [ht] at hP
      try dsimp only at hw
      subst hw
      have hD := hD9.weaken (fun _ q _ h => hf9 q.1 h)
      obtain ⟨y49, hy49, hF⟩ := bnd_some hF
      have J49 : ∀ (H : Heap) (locs : List Loc) (ls : Array Slot), va_P D classes (wld ct ad G y49.2.2) H → va_D A (wld ct ad G y49.2.2) → va_S A s.heap H locs → lv_has ls 13 [(11, .int s24.2.2.1), (10, .int y49.2.1), (9, .int y49.1), (8, .int y22.2), (7, .int y20.2), (6, .int s13.2.2.1), (5, .int x5), (4, .int s13.2.1), (3, .int s13.1), (0, .ref (ad a)), (1, .int p0), (2, .int p1)] → W p l e (headSpec wuX0_costOfFour ({ frames := 4, cells := 0, slots := 0, locals := 90 })).room s m ([.ref (ad a), .int p0, .int p1] : List Value).toArray below meth c H locs 0 0 (MQ below (va_Qi (fun (q : Int32) (_ : Unit) => q = y.2) (fun _ t => kE D ct ad G A y.1 t) A) ([.ref (ad a), .int p0, .int p1] : List Value).toArray s 0 0 A) (F0 m 178 ls []) := by
        intro H locs ls hP hD hS hl
        obtain ⟨x50, ex50, hF⟩ := ltt_some hF
        refine lv_iinc (v := x50) (lv' := [(11, .int x50), (10, .int y49.2.1), (9, .int y49.1), (8, .int y22.2), (7, .int y20.2), (6, .int s13.2.2.1), (5, .int x5), (4, .int s13.2.1), (3, .int s13.1), (0, .ref (ad a)), (1, .int p0), (2, .int p1)]) hx hb dX0_costOfFour_178 hl (k := 0) rfl (by rw [ex50]; rfl) (by decide) rfl (fun ls hl => ?_)
        refine lv_goto (tgt := 85) hx hb dX0_costOfFour_181 (by decide) ?_
        obtain rfl := Option.some.inj hF
        exact hwz46 _ _ _ hP hD hS (lv_sub hl [0, 1, 2, 3, 4, 5, 6, 7, 8, 9, 10, 11] rfl)
      clear hF
      have hF := hy49
      clear hy49
      refine lv_if_ne (tgt := 105) hx hb dX0_costOfFour_99 (by decide) (fun c51 => ?_) (fun c51 => ?_)
      · rw [if_neg c51] at hF
        refine lv_aload_n hx hb dX0_costOfFour_105 rfl (lv_at hl 9 rfl) ?_
        refine va_get (D := D) (ci := 0) (v := va_re ad (y48.1.2 a 4)) (C := RX0) (T := TX0) (N := 21) hx hb hts (mus hf_X0) hown hK hP a (wld_o ct ad G y48.1 hc hk (by decide)) rfl 4 (by decide) (hts (.fieldLink RX0 43 "VideoSuite$Coder" "samples" "LVideoSuite$Samples;") (mu mw_818)) (fun _ h9 => h9) rfl dX0_costOfFour_106 ?_
        refine lv_aload_n hx hb dX0_costOfFour_109 rfl (lv_at hl 9 rfl) ?_
        refine va_get (D := D) (ci := 0) (v := va_re ad (y48.1.2 a 3)) (C := RX0) (T := TX0) (N := 21) hx hb hts (mus hf_X0) hown hK hP a (wld_o ct ad G y48.1 hc hk (by decide)) rfl 3 (by decide) (hts (.fieldLink RX0 36 "VideoSuite$Coder" "work" "LVideoSuite$Work;") (mu mw_817)) (fun _ h9 => h9) rfl dX0_costOfFour_110 ?_
        refine lv_iload_n hx hb dX0_costOfFour_113 rfl (lv_at hl 10 rfl) ?_
        refine lv_iload hx hb dX0_costOfFour_114 (lv_at hl 5 rfl) ?_
        refine lv_iload hx hb dX0_costOfFour_116 (lv_at hl 0 rfl) ?_
        refine lv_iload hx hb dX0_costOfFour_118 (lv_at hl 4 rfl) ?_
        obtain ⟨b52, ho52, hc52, hk52, hF⟩ := dr_some hF
        refine W_st (st' := [.int y20.2, .int s24.2.2.1, .int s13.2.2.1, .int p0, va_re ad (y48.1.2 a 3), .ref (ad b52)]) (by rw [va_some ho52]) ?_
        obtain ⟨y53, hy53, hF⟩ := bnd_some hF
        have hf9 := wA_in hD hA9 hS
        refine va_callv (va_runV (As := [va_re ad (y48.1.2 a 3), .int p0, .int s13.2.2.1, .int s24.2.2.1, .int y20.2]) (rest := []) ⟨hx, hb, hml, hown, hts⟩ (kX6_predictFour l D ct ad Z G y48.1 H.size b52 ((y48.1.2 a 3)) p0 s13.2.2.1 s24.2.2.1 y20.2 y53 hc52 hk52 hy53) (cwV 5 hts gX0_costOfFour_X6_predictFour rfl rfl rfl (by decide +kernel) ⟨Nat.le_of_ble_eq_true rfl, Nat.le_of_ble_eq_true rfl⟩) ⟨fun a U g mk q => by obtain ⟨q0, q1, qP, qK, qD, qZ, qN⟩ := q; exact ⟨q0, q1, qP, va_K.moved (u := U) (U := U.calling g mk a) (Vm.Alike.refl U.vm) qK, qD, sF.moved (u := U) (U := U.calling g mk a) (Vm.Alike.refl U.vm) qZ, nF.same rfl qN⟩, va_recv hK hP (ci := 6) (q0 := b52) rfl (wld_o ct ad G y48.1 hc52 hk52 (by decide)), fun U hU hW => ⟨rfl, by rw [hU], by rw [hU]; exact hP, va_K.moved hW.alike hK, hD.weaken (fun _ _ _ _ => trivial), by rw [hU]; exact ((hZ.kept hS.2.1).narrow hf9).moved hW.alike, hN.warm hW⟩⟩ rfl rfl hl.1 rfl (lv_room (Nat.le_of_ble_eq_true rfl)) dX0_costOfFour_120 ⟨(Nat.zero_le _), (Nat.zero_le _)⟩) hS (fun q _ h => hf9 q h) hf9 (fun u t H locs ht hvm hw hB hz1 hk1 hS => ?_)
        obtain ⟨hP, hK9, hD9⟩ := hB
        rw [ht] at hP
        have hD := hD9.weaken (fun _ q _ h => hf9 q.1 h)
        refine lv_aload_n hx hb dX0_costOfFour_123 rfl (lv_at hl 9 rfl) ?_
        refine va_get (D := D) (ci := 0) (v := va_re ad (y53.2 a 4)) (C := RX0) (T := TX0) (N := 21) hx hb hts (mus hf_X0) hown hK hP a (wld_o ct ad G y53 hc hk (by decide)) rfl 4 (by decide) (hts (.fieldLink RX0 43 "VideoSuite$Coder" "samples" "LVideoSuite$Samples;") (mu mw_818)) (fun _ h9 => h9) rfl dX0_costOfFour_124 ?_
        refine lv_aload_n hx hb dX0_costOfFour_127 rfl (lv_at hl 9 rfl) ?_
        refine va_get (D := D) (ci := 0) (v := va_re ad (y53.2 a 3)) (C := RX0) (T := TX0) (N := 21) hx hb hts (mus hf_X0) hown hK hP a (wld_o ct ad G y53 hc hk (by decide)) rfl 3 (by decide) (hts (.fieldLink RX0 36 "VideoSuite$Coder" "work" "LVideoSuite$Work;") (mu mw_817)) (fun _ h9 => h9) rfl dX0_costOfFour_128 ?_
        refine lv_aload_n hx hb dX0_costOfFour_131 rfl (lv_at hl 9 rfl) ?_
        refine va_get (D := D) (ci := 0) (v := va_re ad (y53.2 a 9)) (C := RX0) (T := TX0) (N := 21) hx hb hts (mus hf_X0) hown hK hP a (wld_o ct ad G y53 hc hk (by decide)) rfl 9 (by decide) (hts (.fieldLink RX0 69 "VideoSuite$Coder" "source" "[[I") (mu mw_823)) (fun _ h9 => h9) rfl dX0_costOfFour_132 ?_
        refine lv_iconst (v := (0 : Int32)) hx hb dX0_costOfFour_135 (by decide) ?_
        obtain ⟨b54, ho54, hc54, hk54, hF⟩ := dr_some hF
        refine W_st (st' := [.int (0 : Int32), .ref (ad b54), va_re ad (y53.2 a 3), va_re ad (y53.2 a 4)]) (by rw [va_some ho54]) ?_
        obtain ⟨hvc, hF⟩ := chk_some hF
        refine ld_g hx hb hK hP hc54 hk54 hvc dX0_costOfFour_136 ?_
        refine lv_iload_n hx hb dX0_costOfFour_137 rfl (lv_at hl 10 rfl) ?_
        refine lv_iload hx hb dX0_costOfFour_138 (lv_at hl 5 rfl) ?_
        refine lv_iconst (v := (4 : Int32)) hx hb dX0_costOfFour_140 (by decide) ?_
        obtain ⟨b55, ho55, hc55, hk55, hF⟩ := dr_some hF
        refine W_st (st' := [.int (4 : Int32), .int s13.2.2.1, .int p0, va_re ad (y53.2 b54 ((0 : Int32)).toNatClampNeg), va_re ad (y53.2 a 3), .ref (ad b55)]) (by rw [va_some ho55]) ?_
        obtain ⟨y56, hy56, hF⟩ := bnd_some hF
        have hf9 := wA_in hD hA9 hS
        refine va_calli (va_runV (As := [va_re ad (y53.2 a 3), va_re ad (y53.2 b54 ((0 : Int32)).toNatClampNeg), .int p0, .int s13.2.2.1, .int (4 : Int32)]) (rest := []) ⟨hx, hb, hml, hown, hts⟩ (kX6_differences l D ct ad Z G y53 H.size b55 ((y53.2 a 3)) ((y53.2 b54 ((0 : Int32)).toNatClampNeg)) p0 s13.2.2.1 ((4 : Int32)) y56 hc55 hk55 hy56) (cwV 5 hts gX0_costOfFour_X6_differences rfl rfl rfl (by decide +kernel) ⟨Nat.le_of_ble_eq_true rfl, Nat.le_of_ble_eq_true rfl⟩) ⟨fun a U g mk q => by obtain ⟨q0, q1, qP, qK, qD, qZ, qN⟩ := q; exact ⟨q0, q1, qP, va_K.moved (u := U) (U := U.calling g mk a) (Vm.Alike.refl U.vm) qK, qD, sF.moved (u := U) (U := U.calling g mk a) (Vm.Alike.refl U.vm) qZ, nF.same rfl qN⟩, va_recv hK hP (ci := 6) (q0 := b55) rfl (wld_o ct ad G y53 hc55 hk55 (by decide)), fun U hU hW => ⟨rfl, by rw [hU], by rw [hU]; exact hP, va_K.moved hW.alike hK, hD.weaken (fun _ _ _ _ => trivial), by rw [hU]; exact ((hZ.kept hS.2.1).narrow hf9).moved hW.alike, hN.warm hW⟩⟩ rfl rfl hl.1 rfl (lv_room (Nat.le_of_ble_eq_true rfl)) dX0_costOfFour_141 ⟨(Nat.zero_le _), (Nat.zero_le _)⟩) hS (fun q _ h => hf9 q h) hf9 (fun r u t H locs ht hvm hw hB hz1 hk1 hS => ?_)
        obtain ⟨hP, hK9, hD9⟩ := hB
        rw [ht] at hP
        try dsimp only at hw
        subst hw
        have hD := hD9.weaken (fun _ q _ h => hf9 q.1 h)
        refine lv_istore (lv' := [(12, .int y56.2), (11, .int s24.2.2.1), (10, .int s24.2.1), (9, .int s24.1), (8, .int y22.2), (7, .int y20.2), (6, .int s13.2.2.1), (5, .int x5), (4, .int s13.2.1), (3, .int s13.1), (0, .ref (ad a)), (1, .int p0), (2, .int p1)]) hx hb dX0_costOfFour_144 hl (by decide) rfl (fun ls hl => ?_)
        refine lv_iload hx hb dX0_costOfFour_146 (lv_at hl 0 rfl) ?_
        refine lv_iload hx hb dX0_costOfFour_148 (lv_at hl 3 rfl) ?_
        obtain ⟨y57, hy57, hF⟩ := bnd_some hF
        have J57 : ∀ (H : Heap) (locs : List Loc) (ls : Array Slot), va_P D classes (wld ct ad G y56.1) H → va_D A (wld ct ad G y56.1) → va_S A s.heap H locs → lv_has ls 13 [(12, .int y56.2), (11, .int s24.2.2.1), (10, .int s24.2.1), (9, .int s24.1), (8, .int y22.2), (7, .int y20.2), (6, .int s13.2.2.1), (5, .int x5), (4, .int s13.2.1), (3, .int s13.1), (0, .ref (ad a)), (1, .int p0), (2, .int p1)] → W p l e (headSpec wuX0_costOfFour ({ frames := 4, cells := 0, slots := 0, locals := 90 })).room s m ([.ref (ad a), .int p0, .int p1] : List Value).toArray below meth c H locs 0 0 (MQ below (va_Qi (fun (q : Int32) (_ : Unit) => q = y.2) (fun _ t => kE D ct ad G A y.1 t) A) ([.ref (ad a), .int p0, .int p1] : List Value).toArray s 0 0 A) (F0 m 160 ls [.int y57]) := by
          intro H locs ls hP hD hS hl
          refine lv_istore (lv' := [(10, .int y57), (12, .int y56.2), (11, .int s24.2.2.1), (9, .int s24.1), (8, .int y22.2), (7, .int y20.2), (6, .int s13.2.2.1), (5, .int x5), (4, .int s13.2.1), (3, .int s13.1), (0, .ref (ad a)), (1, .int p0), (2, .int p1)]) hx hb dX0_costOfFour_160 hl (by decide) rfl (fun ls hl => ?_)
          refine lv_iload hx hb dX0_costOfFour_162 (lv_at hl 1 rfl) ?_
          refine lv_iload hx hb dX0_costOfFour_164 (lv_at hl 3 rfl) ?_
          obtain ⟨y58, hy58, hF⟩ := bnd_some hF
          have J58 : ∀ (H : Heap) (locs : List Loc) (ls : Array Slot), va_P D classes (wld ct ad G y56.1) H → va_D A (wld ct ad G y56.1) → va_S A s.heap H locs → lv_has ls 13 [(10, .int y57), (12, .int y56.2), (11, .int s24.2.2.1), (9, .int s24.1), (8, .int y22.2), (7, .int y20.2), (6, .int s13.2.2.1), (5, .int x5), (4, .int s13.2.1), (3, .int s13.1), (0, .ref (ad a)), (1, .int p0), (2, .int p1)] → W p l e (headSpec wuX0_costOfFour ({ frames := 4, cells := 0, slots := 0, locals := 90 })).room s m ([.ref (ad a), .int p0, .int p1] : List Value).toArray below meth c H locs 0 0 (MQ below (va_Qi (fun (q : Int32) (_ : Unit) => q = y.2) (fun _ t => kE D ct ad G A y.1 t) A) ([.ref (ad a), .int p0, .int p1] : List Value).toArray s 0 0 A) (F0 m 176 ls [.int y58]) := by
            intro H locs ls hP hD hS hl
            refine lv_istore (lv' := [(9, .int y58), (10, .int y57), (12, .int y56.2), (11, .int s24.2.2.1), (8, .int y22.2), (7, .int y20.2), (6, .int s13.2.2.1), (5, .int x5), (4, .int s13.2.1), (3, .int s13.1), (0, .ref (ad a)), (1, .int p0), (2, .int p1)]) hx hb dX0_costOfFour_176 hl (by decide) rfl (fun ls hl => ?_)
            obtain rfl := Option.some.inj hF
            exact J49 _ _ _ hP hD hS (lv_sub hl [3, 1, 0, 4, 5, 6, 7, 8, 9, 10, 11, 12] rfl)
          clear hF
          have hF := hy58
          clear hy58
          refine lv_icmp_ge (tgt := 174) hx hb dX0_costOfFour_166 (by decide) (fun c59 => ?_) (fun c59 => ?_)
          · rw [if_pos c59] at hF
            refine lv_iload hx hb dX0_costOfFour_174 (lv_at hl 3 rfl) ?_
            obtain rfl := Option.some.inj hF
            exact J58 _ _ _ hP hD hS (lv_sub hl [0, 1, 2, 3, 4, 5, 6, 7, 8, 9, 10, 11, 12] rfl)
          · rw [if_neg c59] at hF
            refine lv_iload hx hb dX0_costOfFour_169 (lv_at hl 1 rfl) ?_
            refine lv_goto (tgt := 176) hx hb dX0_costOfFour_171 (by decide) ?_
            obtain rfl := Option.some.inj hF
            exact J58 _ _ _ hP hD hS (lv_sub hl [0, 1, 2, 3, 4, 5, 6, 7, 8, 9, 10, 11, 12] rfl)
        clear hF
        have hF := hy57
        clear hy57
        refine lv_icmp_ge (tgt := 158) hx hb dX0_costOfFour_150 (by decide) (fun c60 => ?_) (fun c60 => ?_)
        · rw [if_pos c60] at hF
          refine lv_iload hx hb dX0_costOfFour_158 (lv_at hl 2 rfl) ?_
          obtain rfl := Option.some.inj hF
          exact J57 _ _ _ hP hD hS (lv_sub hl [0, 1, 2, 3, 4, 5, 6, 7, 8, 9, 10, 11, 12] rfl)
        · rw [if_neg c60] at hF
          refine lv_iload hx hb dX0_costOfFour_153 (lv_at hl 1 rfl) ?_
          refine lv_goto (tgt := 160) hx hb dX0_costOfFour_155 (by decide) ?_
          obtain rfl := Option.some.inj hF
          exact J57 _ _ _ hP hD hS (lv_sub hl [0, 1, 2, 3, 4, 5, 6, 7, 8, 9, 10, 11, 12] rfl)
      · rw [if_pos c51] at hF
        refine lv_goto (tgt := 178) hx hb dX0_costOfFour_102 (by decide) ?_
        obtain rfl := Option.some.inj hF
        exact J49 _ _ _ hP hD hS (lv_sub hl [0, 1, 2, 3, 4, 5, 6, 7, 8, 9, 10, 11] rfl)
set_option maxRecDepth 20000 in
theorem gX0_drawSubs_X0_draw : GoodIn wuX0_drawSubs (wsV RX0 334 RX0 yX0_draw wuX0_draw) := gu_V mw_2470 mw_2472 mw_121 mw_175 mw_2473
set_option maxRecDepth 20000 in
set_option maxRecDepth 20000 in
theorem gX0_drawSubs_X9_direct : GoodIn wuX0_drawSubs (wsV RX0 372 RX9 yX9_direct wuX9_direct) := gu_V mw_2504 mw_1875 mw_1876 mw_171 mw_1877
theorem dX0_drawSubs_0 : decode cX0_drawSubs 0 = .ok (.iconst 0, 1) := by decide +kernel
theorem dX0_drawSubs_1 : decode cX0_drawSubs 1 = .ok (.istore_n 3, 1) := by decide +kernel
theorem dX0_drawSubs_2 : decode cX0_drawSubs 2 = .ok (.iconst 0, 1) := by decide +kernel
theorem dX0_drawSubs_3 : decode cX0_drawSubs 3 = .ok (.istore 4, 2) := by decide +kernel
theorem dX0_drawSubs_5 : decode cX0_drawSubs 5 = .ok (.iload 4, 2) := by decide +kernel
theorem dX0_drawSubs_7 : decode cX0_drawSubs 7 = .ok (.iconst 4, 1) := by decide +kernel
theorem dX0_drawSubs_8 : decode cX0_drawSubs 8 = .ok (.if_icmp .ge 85, 3) := by decide +kernel
theorem dX0_drawSubs_11 : decode cX0_drawSubs 11 = .ok (.aload_n 0, 1) := by decide +kernel
theorem dX0_drawSubs_12 : decode cX0_drawSubs 12 = .ok (.iload_n 2, 1) := by decide +kernel
theorem dX0_drawSubs_13 : decode cX0_drawSubs 13 = .ok (.ifCond .ne 7, 3) := by decide +kernel
theorem dX0_drawSubs_16 : decode cX0_drawSubs 16 = .ok (.iconst 4, 1) := by decide +kernel
theorem dX0_drawSubs_17 : decode cX0_drawSubs 17 = .ok (.goto 5, 3) := by decide +kernel
theorem dX0_drawSubs_20 : decode cX0_drawSubs 20 = .ok (.bipush 13, 2) := by decide +kernel
theorem dX0_drawSubs_22 : decode cX0_drawSubs 22 = .ok (.invokevirtual 334, 3) := by decide +kernel
theorem dX0_drawSubs_25 : decode cX0_drawSubs 25 = .ok (.istore 5, 2) := by decide +kernel
theorem dX0_drawSubs_27 : decode cX0_drawSubs 27 = .ok (.iload_n 2, 1) := by decide +kernel
theorem dX0_drawSubs_28 : decode cX0_drawSubs 28 = .ok (.iconst 1, 1) := by decide +kernel
theorem dX0_drawSubs_29 : decode cX0_drawSubs 29 = .ok (.if_icmp .ne 46, 3) := by decide +kernel
theorem dX0_drawSubs_32 : decode cX0_drawSubs 32 = .ok (.iload 5, 2) := by decide +kernel
theorem dX0_drawSubs_34 : decode cX0_drawSubs 34 = .ok (.ifCond .ne 41, 3) := by decide +kernel
theorem dX0_drawSubs_37 : decode cX0_drawSubs 37 = .ok (.aload_n 0, 1) := by decide +kernel
theorem dX0_drawSubs_38 : decode cX0_drawSubs 38 = .ok (.getfield 36, 3) := by decide +kernel
theorem dX0_drawSubs_41 : decode cX0_drawSubs 41 = .ok (.iload_n 1, 1) := by decide +kernel
theorem dX0_drawSubs_42 : decode cX0_drawSubs 42 = .ok (.iconst 1, 1) := by decide +kernel
theorem dX0_drawSubs_43 : decode cX0_drawSubs 43 = .ok (.iload 4, 2) := by decide +kernel
theorem dX0_drawSubs_45 : decode cX0_drawSubs 45 = .ok (.ishl, 1) := by decide +kernel
theorem dX0_drawSubs_46 : decode cX0_drawSubs 46 = .ok (.invokevirtual 372, 3) := by decide +kernel
theorem dX0_drawSubs_49 : decode cX0_drawSubs 49 = .ok (.ifCond .eq 7, 3) := by decide +kernel
theorem dX0_drawSubs_52 : decode cX0_drawSubs 52 = .ok (.iconst 0, 1) := by decide +kernel
theorem dX0_drawSubs_53 : decode cX0_drawSubs 53 = .ok (.goto 4, 3) := by decide +kernel
theorem dX0_drawSubs_56 : decode cX0_drawSubs 56 = .ok (.iconst 1, 1) := by decide +kernel
theorem dX0_drawSubs_57 : decode cX0_drawSubs 57 = .ok (.istore 5, 2) := by decide +kernel
theorem dX0_drawSubs_59 : decode cX0_drawSubs 59 = .ok (.iload_n 3, 1) := by decide +kernel
theorem dX0_drawSubs_60 : decode cX0_drawSubs 60 = .ok (.iload 5, 2) := by decide +kernel
theorem dX0_drawSubs_62 : decode cX0_drawSubs 62 = .ok (.ifCond .ne 10, 3) := by decide +kernel
theorem dX0_drawSubs_65 : decode cX0_drawSubs 65 = .ok (.iconst 1, 1) := by decide +kernel
theorem dX0_drawSubs_66 : decode cX0_drawSubs 66 = .ok (.iload 4, 2) := by decide +kernel
theorem dX0_drawSubs_68 : decode cX0_drawSubs 68 = .ok (.ishl, 1) := by decide +kernel
theorem dX0_drawSubs_69 : decode cX0_drawSubs 69 = .ok (.goto 4, 3) := by decide +kernel
theorem dX0_drawSubs_72 : decode cX0_drawSubs 72 = .ok (.iconst 0, 1) := by decide +kernel
theorem dX0_drawSubs_73 : decode cX0_drawSubs 73 = .ok (.ior, 1) := by decide +kernel
theorem dX0_drawSubs_74 : decode cX0_drawSubs 74 = .ok (.istore_n 3, 1) := by decide +kernel
theorem dX0_drawSubs_75 : decode cX0_drawSubs 75 = .ok (.aload_n 0, 1) := by decide +kernel
theorem dX0_drawSubs_76 : decode cX0_drawSubs 76 = .ok (.getfield 36, 3) := by decide +kernel
theorem dX0_drawSubs_79 : decode cX0_drawSubs 79 = .ok (.getfield 400, 3) := by decide +kernel
theorem dX0_drawSubs_82 : decode cX0_drawSubs 82 = .ok (.iload 4, 2) := by decide +kernel
theorem dX0_drawSubs_84 : decode cX0_drawSubs 84 = .ok (.iload 5, 2) := by decide +kernel
theorem dX0_drawSubs_86 : decode cX0_drawSubs 86 = .ok (.iastore, 1) := by decide +kernel
theorem dX0_drawSubs_87 : decode cX0_drawSubs 87 = .ok (.iinc 4 1, 3) := by decide +kernel
theorem dX0_drawSubs_90 : decode cX0_drawSubs 90 = .ok (.goto (-85), 3) := by decide +kernel
theorem dX0_drawSubs_93 : decode cX0_drawSubs 93 = .ok (.iload_n 3, 1) := by decide +kernel
theorem dX0_drawSubs_94 : decode cX0_drawSubs 94 = .ok (.ireturn, 1) := by decide +kernel
def FX0_drawSubs (G : GG) (M : DD) (a : Nat) (p0 : Int32) (p1 : Int32) : Option (DD × Int32) :=
  bnd (itr (fun (s2 : Int32 × Int32 × DD) => ((if ((4 : Int32)) ≤ s2.2.1 then (some (.inr (s2.1, s2.2.1, s2.2.2))) else
  (bnd (if p1 = ((0 : Int32)) then (some ((4 : Int32))) else
  (some ((13 : Int32)))) fun (y6 : Int32) =>
  bnd (FX0_draw G s2.2.2 a y6) fun y7 =>
  bnd (if p1 = ((1 : Int32)) then (bnd (if y7.2 = ((0 : Int32)) then (ltt ((((1 : Int32)) <<< (s2.2.1 &&& 31))) fun x16 =>
  dr G 9 ((y7.1.2 a 3)) fun b17 =>
  bnd (FX9_direct G y7.1 b17 p0 x16) fun y18 =>
  bnd (if y18.2 = ((0 : Int32)) then (some ((1 : Int32))) else
  (some ((0 : Int32)))) fun (y19 : Int32) =>
  bnd (if y19 = ((0 : Int32)) then (ltt ((((1 : Int32)) <<< (s2.2.1 &&& 31))) fun x23 =>
  some (x23)) else
  (some ((0 : Int32)))) fun (y20 : Int32) =>
  ltt ((s2.1 ||| y20)) fun x21 =>
  some (x21, y19, y18.1)) else
  (some (s2.1, y7.2, y7.1))) fun (y14 : Int32 × Int32 × DD) =>
  some (y14.1, y14.2.1, y14.2.2)) else
  (some (s2.1, y7.2, y7.1))) fun (y8 : Int32 × Int32 × DD) =>
  dr G 9 ((y8.2.2.2 a 3)) fun b9 =>
  dr G 13 ((y8.2.2.2 b9 12)) fun b10 =>
  chk (¬ (s2.2.1 < 0 ∨ G.2.2 b10 ≤ s2.2.1.toNatClampNeg)) <|
  ltt (uI y8.2.2 b10 s2.2.1.toNatClampNeg y8.2.1) fun M11 =>
  ltt (s2.2.1 + (1 : Int32)) fun x12 =>
  some (.inl (y8.1, x12, M11)))) : Option ((Int32 × Int32 × DD) ⊕ (Int32 × Int32 × DD)))) 1000000 ((0 : Int32), (0 : Int32), M)) fun (y1 : Int32 × Int32 × DD) =>
  some (y1.2.2, y1.1)
set_option maxHeartbeats 4000000 in
set_option maxRecDepth 100000 in
theorem kX0_drawSubs (l : Launch) (D : va_G) (ct : CT) (ad : Nat → Nat) (Z : Nat → Nat) (G : GG) (M : DD) (sz : Nat) (a : Nat) (p0 : Int32) (p1 : Int32) (y : DD × Int32) (hc : a < G.1) (hk : G.2.1 a = 0) (hF : FX0_drawSubs G M a p0 p1 = some y) : Met l yX0_drawSubs wuX0_drawSubs ({ frames := 4, cells := 0, slots := 0, locals := 109 }) (va_Pc [.ref (ad a), .int p0, .int p1] (kB D ct ad Z G M sz)) (va_Qi (fun (q : Int32) (_ : Unit) => q = y.2) (fun _ t => kE D ct ad G (wA ad G sz) y.1 t) (wA ad G sz)) 0 0 (wA ad G sz) := by
  refine Met.ofW (cc := cX0_drawSubs) (maxL := 6) (ret := (some .int)) (by decide) rfl ?_
  intro p e s m args below meth c s₁ B hml hv
  obtain ⟨rfl, hsz, hP, hK, hD0, hZ, hN⟩ := hv
  have hx := B.exec
  have hb := B.bytes
  have hr := B.returns
  have hts := atoms_spec (ws := wuX0_drawSubs) B.pre
  have hown : s.vm.findClass RX0 = some m.cls := findClass_of_methodNamed B.named
  have hlocks := B.notSynchronized
  subst hsz
  have hD := wD_self (sz := s.heap.size) hD0
  have hA9 : ∀ q, s.heap.size ≤ q → wA ad G s.heap.size q := fun q h => Or.inr h
  generalize hAe : wA ad G s.heap.size = A at hD hA9 hZ ⊢
  have hS : va_S A s.heap s.heap [] := va_S.rf
  have hl := lv_entry ([.ref (ad a), .int p0, .int p1]) (n := 6) (Nat.le_of_ble_eq_true rfl)
  rw [lg_entry_eq]
  generalize (lg_sl ([.ref (ad a), .int p0, .int p1]) ++ List.replicate (6 - (lg_sl ([.ref (ad a), .int p0, .int p1])).length) Slot.unset).toArray = ls at hl ⊢
  have hl : lv_has ls 6 [(0, .ref (ad a)), (1, .int p0), (2, .int p1)] := hl
  unfold FX0_drawSubs at hF
  refine lv_iconst (v := (0 : Int32)) hx hb dX0_drawSubs_0 (by decide) ?_
  refine lv_istore_n (lv' := [(3, .int (0 : Int32)), (0, .ref (ad a)), (1, .int p0), (2, .int p1)]) hx hb dX0_drawSubs_1 rfl hl (by decide) rfl (fun ls hl => ?_)
  refine lv_iconst (v := (0 : Int32)) hx hb dX0_drawSubs_2 (by decide) ?_
  refine lv_istore (lv' := [(4, .int (0 : Int32)), (3, .int (0 : Int32)), (0, .ref (ad a)), (1, .int p0), (2, .int p1)]) hx hb dX0_drawSubs_3 hl (by decide) rfl (fun ls hl => ?_)
  obtain ⟨y1, hy1, hF⟩ := bnd_some hF
  have K1 : ∀ (H : Heap) (locs : List Loc) (ls : Array Slot), va_P D classes (wld ct ad G y1.2.2) H → va_D A (wld ct ad G y1.2.2) → va_S A s.heap H locs → lv_has ls 6 [(4, .int y1.2.1), (3, .int y1.1), (0, .ref (ad a)), (1, .int p0), (2, .int p1)] → W p l e (headSpec wuX0_drawSubs ({ frames := 4, cells := 0, slots := 0, locals := 109 })).room s m ([.ref (ad a), .int p0, .int p1] : List Value).toArray below meth c H locs 0 0 (MQ below (va_Qi (fun (q : Int32) (_ : Unit) => q = y.2) (fun _ t => kE D ct ad G A y.1 t) A) ([.ref (ad a), .int p0, .int p1] : List Value).toArray s 0 0 A) (F0 m 93 ls []) := by
    intro H locs ls hP hD hS hl
    refine lv_iload_n hx hb dX0_drawSubs_93 rfl (lv_at hl 1 rfl) ?_
    obtain rfl := Option.some.inj hF
    exact W.iret (v := y1.1) hx hb hr (fun t ht hW => ⟨⟨_, (), rfl, rfl, ⟨by rw [ht]; exact hP, va_K.moved hW.alike hK, hD⟩⟩, hS.F ht⟩) hS.2.2 dX0_drawSubs_94
  clear hF
  refine itr_rule (fun (s2 : Int32 × Int32 × DD) => ∀ (H : Heap) (locs : List Loc) (ls : Array Slot), va_P D classes (wld ct ad G s2.2.2) H → va_D A (wld ct ad G s2.2.2) → va_S A s.heap H locs → lv_has ls 6 [(4, .int s2.2.1), (3, .int s2.1), (0, .ref (ad a)), (1, .int p0), (2, .int p1)] → W p l e (headSpec wuX0_drawSubs ({ frames := 4, cells := 0, slots := 0, locals := 109 })).room s m ([.ref (ad a), .int p0, .int p1] : List Value).toArray below meth c H locs 0 0 (MQ below (va_Qi (fun (q : Int32) (_ : Unit) => q = y.2) (fun _ t => kE D ct ad G A y.1 t) A) ([.ref (ad a), .int p0, .int p1] : List Value).toArray s 0 0 A) (F0 m 5 ls [])) ?_ _ _ hy1 _ _ _ hP hD hS (lv_sub hl [0, 1, 2, 3, 4] rfl)
  rintro s2 ⟨z4, hF, hwz4⟩ H locs ls hP hD hS hl
  try dsimp only at hF
  refine lv_iload hx hb dX0_drawSubs_5 (lv_at hl 0 rfl) ?_
  refine lv_iconst (v := (4 : Int32)) hx hb dX0_drawSubs_7 (by decide) ?_
  refine lv_icmp_ge (tgt := 93) hx hb dX0_drawSubs_8 (by decide) (fun c5 => ?_) (fun c5 => ?_)
  · rw [if_pos c5] at hF
    obtain rfl := Option.some.inj hF
    subst hwz4
    exact K1 _ _ _ hP hD hS (lv_sub hl [0, 1, 2, 3, 4] rfl)
  · rw [if_neg c5] at hF
    refine lv_aload_n hx hb dX0_drawSubs_11 rfl (lv_at hl 2 rfl) ?_
    refine lv_iload_n hx hb dX0_drawSubs_12 rfl (lv_at hl 4 rfl) ?_
    obtain ⟨y6, hy6, hF⟩ := bnd_some hF
    have J6 : ∀ (H : Heap) (locs : List Loc) (ls : Array Slot), va_P D classes (wld ct ad G s2.2.2) H → va_D A (wld ct ad G s2.2.2) → va_S A s.heap H locs → lv_has ls 6 [(4, .int s2.2.1), (3, .int s2.1), (0, .ref (ad a)), (1, .int p0), (2, .int p1)] → W p l e (headSpec wuX0_drawSubs ({ frames := 4, cells := 0, slots := 0, locals := 109 })).room s m ([.ref (ad a), .int p0, .int p1] : List Value).toArray below meth c H locs 0 0 (MQ below (va_Qi (fun (q : Int32) (_ : Unit) => q = y.2) (fun _ t => kE D ct ad G A y.1 t) A) ([.ref (ad a), .int p0, .int p1] : List Value).toArray s 0 0 A) (F0 m 22 ls [.int y6, .ref (ad a)]) := by
      intro H locs ls hP hD hS hl
      obtain ⟨y7, hy7, hF⟩ := bnd_some hF
      have hf9 := wA_in hD hA9 hS
      refine va_calli (va_runV (As := [.int y6]) (rest := []) ⟨hx, hb, hml, hown, hts⟩ (kX0_draw l D ct ad Z G s2.2.2 H.size a y6 y7 hc hk hy7) (cwV 1 hts gX0_drawSubs_X0_draw rfl rfl rfl (by decide +kernel) ⟨Nat.le_of_ble_eq_true rfl, Nat.le_of_ble_eq_true rfl⟩) ⟨fun a U g mk q => by obtain ⟨q0, q1, qP, qK, qD, qZ, qN⟩ := q; exact ⟨q0, q1, qP, va_K.moved (u := U) (U := U.calling g mk a) (Vm.Alike.refl U.vm) qK, qD, sF.moved (u := U) (U := U.calling g mk a) (Vm.Alike.refl U.vm) qZ, nF.same rfl qN⟩, va_recv hK hP (ci := 0) (q0 := a) rfl (wld_o ct ad G s2.2.2 hc hk (by decide)), fun U hU hW => ⟨rfl, by rw [hU], by rw [hU]; exact hP, va_K.moved hW.alike hK, hD.weaken (fun _ _ _ _ => trivial), by rw [hU]; exact ((hZ.kept hS.2.1).narrow hf9).moved hW.alike, hN.warm hW⟩⟩ rfl rfl hl.1 rfl (lv_room (Nat.le_of_ble_eq_true rfl)) dX0_drawSubs_22 ⟨(Nat.zero_le _), (Nat.zero_le _)⟩) hS (fun q _ h => hf9 q h) hf9 (fun r u t H locs ht hvm hw hB hz1 hk1 hS => ?_)
      obtain ⟨hP, hK9, hD9⟩ := hB
      rw [ht] at hP
      try dsimp only at hw
      subst hw
      have hD := hD9.weaken (fun _ q _ h => hf9 q.1 h)
      refine lv_istore (lv' := [(5, .int y7.2), (4, .int s2.2.1), (3, .int s2.1), (0, .ref (ad a)), (1, .int p0), (2, .int p1)]) hx hb dX0_drawSubs_25 hl (by decide) rfl (fun ls hl => ?_)
      refine lv_iload_n hx hb dX0_drawSubs_27 rfl (lv_at hl 5 rfl) ?_
      refine lv_iconst (v := (1 : Int32)) hx hb dX0_drawSubs_28 (by decide) ?_
      obtain ⟨y8, hy8, hF⟩ := bnd_some hF
      have J8 : ∀ (H : Heap) (locs : List Loc) (ls : Array Slot), va_P D classes (wld ct ad G y8.2.2) H → va_D A (wld ct ad G y8.2.2) → va_S A s.heap H locs → lv_has ls 6 [(5, .int y8.2.1), (4, .int s2.2.1), (3, .int y8.1), (0, .ref (ad a)), (1, .int p0), (2, .int p1)] → W p l e (headSpec wuX0_drawSubs ({ frames := 4, cells := 0, slots := 0, locals := 109 })).room s m ([.ref (ad a), .int p0, .int p1] : List Value).toArray below meth c H locs 0 0 (MQ below (va_Qi (fun (q : Int32) (_ : Unit) => q = y.2) (fun _ t => kE D ct ad G A y.1 t) A) ([.ref (ad a), .int p0, .int p1] : List Value).toArray s 0 0 A) (F0 m 75 ls []) := by
        intro H locs ls hP hD hS hl
        refine lv_aload_n hx hb dX0_drawSubs_75 rfl (lv_at hl 3 rfl) ?_
        refine va_get (D := D) (ci := 0) (v := va_re ad (y8.2.2.2 a 3)) (C := RX0) (T := TX0) (N := 21) hx hb hts (mus hf_X0) hown hK hP a (wld_o ct ad G y8.2.2 hc hk (by decide)) rfl 3 (by decide) (hts (.fieldLink RX0 36 "VideoSuite$Coder" "work" "LVideoSuite$Work;") (mu mw_817)) (fun _ h9 => h9) rfl dX0_drawSubs_76 ?_
        obtain ⟨b9, ho9, hc9, hk9, hF⟩ := dr_some hF
        refine W_st (st' := [.ref (ad b9)]) (by rw [va_some ho9]) ?_
        refine va_get (D := D) (ci := 9) (v := va_re ad (y8.2.2.2 b9 12)) (C := RX9) (T := TX9) (N := 20) hx hb hts (mus hf_X9) hown hK hP b9 (wld_o ct ad G y8.2.2 hc9 hk9 (by decide)) rfl 12 (by decide) (hts (.fieldLink RX0 400 "VideoSuite$Work" "sub" "[I") (mu mw_465)) (fun _ h9 => h9) rfl dX0_drawSubs_79 ?_
        refine lv_iload hx hb dX0_drawSubs_82 (lv_at hl 1 rfl) ?_
        refine lv_iload hx hb dX0_drawSubs_84 (lv_at hl 0 rfl) ?_
        obtain ⟨b10, ho10, hc10, hk10, hF⟩ := dr_some hF
        refine W_st (st' := [.int y8.2.1, .int s2.2.1, .ref (ad b10)]) (by rw [va_some ho10]) ?_
        obtain ⟨hvc, hF⟩ := chk_some hF
        refine va_iast hx hb hK hP hD hS b10 1 (wld_i ct ad G y8.2.2 hc10 hk10) rfl hvc dX0_drawSubs_86 (fun H locs hP hD hS => ?_)
        obtain ⟨M11, eM11, hF⟩ := ltt_some hF
        rw [set_i ct ad G y8.2.2 hc10 hk10, ← eM11] at hP hD
        obtain ⟨x12, ex12, hF⟩ := ltt_some hF
        refine lv_iinc (v := x12) (lv' := [(4, .int x12), (5, .int y8.2.1), (3, .int y8.1), (0, .ref (ad a)), (1, .int p0), (2, .int p1)]) hx hb dX0_drawSubs_87 hl (k := 1) rfl (by rw [ex12]; rfl) (by decide) rfl (fun ls hl => ?_)
        refine lv_goto (tgt := 5) hx hb dX0_drawSubs_90 (by decide) ?_
        obtain rfl := Option.some.inj hF
        exact hwz4 _ _ _ hP hD hS (lv_sub hl [0, 2, 3, 4, 5] rfl)
      clear hF
      have hF := hy8
      clear hy8
      refine lv_icmp_ne (tgt := 75) hx hb dX0_drawSubs_29 (by decide) (fun c13 => ?_) (fun c13 => ?_)
      · rw [if_neg c13] at hF
        obtain rfl := Option.some.inj hF
        exact J8 _ _ _ hP hD hS (lv_sub hl [0, 1, 2, 3, 4, 5] rfl)
      · rw [if_pos c13] at hF
        refine lv_iload hx hb dX0_drawSubs_32 (lv_at hl 0 rfl) ?_
        obtain ⟨y14, hy14, hF⟩ := bnd_some hF
        have J14 : ∀ (H : Heap) (locs : List Loc) (ls : Array Slot), va_P D classes (wld ct ad G y14.2.2) H → va_D A (wld ct ad G y14.2.2) → va_S A s.heap H locs → lv_has ls 6 [(5, .int y14.2.1), (4, .int s2.2.1), (3, .int y14.1), (0, .ref (ad a)), (1, .int p0), (2, .int p1)] → W p l e (headSpec wuX0_drawSubs ({ frames := 4, cells := 0, slots := 0, locals := 109 })).room s m ([.ref (ad a), .int p0, .int p1] : List Value).toArray below meth c H locs 0 0 (MQ below (va_Qi (fun (q : Int32) (_ : Unit) => q = y.2) (fun _ t => kE D ct ad G A y.1 t) A) ([.ref (ad a), .int p0, .int p1] : List Value).toArray s 0 0 A) (F0 m 75 ls []) := by
          intro H locs ls hP hD hS hl
          obtain rfl := Option.some.inj hF
          exact J8 _ _ _ hP hD hS (lv_sub hl [0, 1, 2, 3, 4, 5] rfl)
        clear hF
        have hF := hy14
        clear hy14
        refine lv_if_ne (tgt := 75) hx hb dX0_drawSubs_34 (by decide) (fun c15 => ?_) (fun c15 => ?_)
        · rw [if_neg c15] at hF
          obtain rfl := Option.some.inj hF
          exact J14 _ _ _ hP hD hS (lv_sub hl [0, 1, 2, 3, 4, 5] rfl)
        · rw [if_pos c15] at hF
          refine lv_aload_n hx hb dX0_drawSubs_37 rfl (lv_at hl 3 rfl) ?_
          refine va_get (D := D) (ci := 0) (v := va_re ad (y7.1.2 a 3)) (C := RX0) (T := TX0) (N := 21) hx hb hts (mus hf_X0) hown hK hP a (wld_o ct ad G y7.1 hc hk (by decide)) rfl 3 (by decide) (hts (.fieldLink RX0 36 "VideoSuite$Coder" "work" "LVideoSuite$Work;") (mu mw_817)) (fun _ h9 => h9) rfl dX0_drawSubs_38 ?_
          refine lv_iload_n hx hb dX0_drawSubs_41 rfl (lv_at hl 4 rfl) ?_
          refine lv_iconst (v := (1 : Int32)) hx hb dX0_drawSubs_42 (by decide) ?_
          refine lv_iload hx hb dX0_drawSubs_43 (lv_at hl 1 rfl) ?_
          refine lv_ishl hx hb dX0_drawSubs_45 ?_
          obtain ⟨x16, ex16, hF⟩ := ltt_some hF
          refine lv_topi (fun zx16 ezx16 => ?_)
          obtain rfl : x16 = zx16 := ex16.trans ezx16.symm
          obtain ⟨b17, ho17, hc17, hk17, hF⟩ := dr_some hF
          refine W_st (st' := [.int x16, .int p0, .ref (ad b17)]) (by rw [va_some ho17]) ?_
          obtain ⟨y18, hy18, hF⟩ := bnd_some hF
          have hf9 := wA_in hD hA9 hS
          refine va_calli (va_runV (As := [.int p0, .int x16]) (rest := []) ⟨hx, hb, hml, hown, hts⟩ (kX9_direct l D ct ad Z G y7.1 H.size b17 p0 x16 y18 hc17 hk17 hy18) (cwV 2 hts gX0_drawSubs_X9_direct rfl rfl rfl (by decide +kernel) ⟨Nat.le_of_ble_eq_true rfl, Nat.le_of_ble_eq_true rfl⟩) ⟨fun a U g mk q => by obtain ⟨q0, q1, qP, qK, qD, qZ, qN⟩ := q; exact ⟨q0, q1, qP, va_K.moved (u := U) (U := U.calling g mk a) (Vm.Alike.refl U.vm) qK, qD, sF.moved (u := U) (U := U.calling g mk a) (Vm.Alike.refl U.vm) qZ, nF.same rfl qN⟩, va_recv hK hP (ci := 9) (q0 := b17) rfl (wld_o ct ad G y7.1 hc17 hk17 (by decide)), fun U hU hW => ⟨rfl, by rw [hU], by rw [hU]; exact hP, va_K.moved hW.alike hK, hD.weaken (fun _ _ _ _ => trivial), by rw [hU]; exact ((hZ.kept hS.2.1).narrow hf9).moved hW.alike, hN.warm hW⟩⟩ rfl rfl hl.1 rfl (lv_room (Nat.le_of_ble_eq_true rfl)) dX0_drawSubs_46 ⟨(Nat.zero_le _), (Nat.zero_le _)⟩) hS (fun q _ h => hf9 q h) hf9 (fun r u t H locs ht hvm hw hB hz1 hk1 hS => ?_)
          obtain ⟨hP, hK9, hD9⟩ := hB
          rw [ht] at hP
          try dsimp only at hw
          subst hw
          have hD := hD9.weaken (fun _ q _ h => hf9 q.1 h)
          obtain ⟨y19, hy19, hF⟩ := bnd_some hF
          have J19 : ∀ (H : Heap) (locs : List Loc) (ls : Array Slot), va_P D classes (wld ct ad G y18.1) H → va_D A (wld ct ad G y18.1) → va_S A s.heap H locs → lv_has ls 6 [(5, .int y7.2), (4, .int s2.2.1), (3, .int s2.1), (0, .ref (ad a)), (1, .int p0), (2, .int p1)] → W p l e (headSpec wuX0_drawSubs ({ frames := 4, cells := 0, slots := 0, locals := 109 })).room s m ([.ref (ad a), .int p0, .int p1] : List Value).toArray below meth c H locs 0 0 (MQ below (va_Qi (fun (q : Int32) (_ : Unit) => q = y.2) (fun _ t => kE D ct ad G A y.1 t) A) ([.ref (ad a), .int p0, .int p1] : List Value).toArray s 0 0 A) (F0 m 57 ls [.int y19]) := by
            intro H locs ls hP hD hS hl
            refine lv_istore (lv' := [(5, .int y19), (4, .int s2.2.1), (3, .int s2.1), (0, .ref (ad a)), (1, .int p0), (2, .int p1)]) hx hb dX0_drawSubs_57 hl (by decide) rfl (fun ls hl => ?_)
            refine lv_iload_n hx hb dX0_drawSubs_59 rfl (lv_at hl 2 rfl) ?_
            refine lv_iload hx hb dX0_drawSubs_60 (lv_at hl 0 rfl) ?_
            obtain ⟨y20, hy20, hF⟩ := bnd_some hF
            have J20 : ∀ (H : Heap) (locs : List Loc) (ls : Array Slot), va_P D classes (wld ct ad G y18.1) H → va_D A (wld ct ad G y18.1) → va_S A s.heap H locs → lv_has ls 6 [(5, .int y19), (4, .int s2.2.1), (3, .int s2.1), (0, .ref (ad a)), (1, .int p0), (2, .int p1)] → W p l e (headSpec wuX0_drawSubs ({ frames := 4, cells := 0, slots := 0, locals := 109 })).room s m ([.ref (ad a), .int p0, .int p1] : List Value).toArray below meth c H locs 0 0 (MQ below (va_Qi (fun (q : Int32) (_ : Unit) => q = y.2) (fun _ t => kE D ct ad G A y.1 t) A) ([.ref (ad a), .int p0, .int p1] : List Value).toArray s 0 0 A) (F0 m 73 ls [.int y20, .int s2.1]) := by
              intro H locs ls hP hD hS hl
              refine lv_ior hx hb dX0_drawSubs_73 ?_
              obtain ⟨x21, ex21, hF⟩ := ltt_some hF
              refine lv_topi (fun zx21 ezx21 => ?_)
              obtain rfl : x21 = zx21 := ex21.trans ezx21.symm
              refine lv_istore_n (lv' := [(3, .int x21), (5, .int y19), (4, .int s2.2.1), (0, .ref (ad a)), (1, .int p0), (2, .int p1)]) hx hb dX0_drawSubs_74 rfl hl (by decide) rfl (fun ls hl => ?_)
              obtain rfl := Option.some.inj hF
              exact J14 _ _ _ hP hD hS (lv_sub hl [1, 2, 0, 3, 4, 5] rfl)
            clear hF
            have hF := hy20
            clear hy20
            refine lv_if_ne (tgt := 72) hx hb dX0_drawSubs_62 (by decide) (fun c22 => ?_) (fun c22 => ?_)
            · rw [if_neg c22] at hF
              refine lv_iconst (v := (0 : Int32)) hx hb dX0_drawSubs_72 (by decide) ?_
              obtain rfl := Option.some.inj hF
              exact J20 _ _ _ hP hD hS (lv_sub hl [0, 1, 2, 3, 4, 5] rfl)
            · rw [if_pos c22] at hF
              refine lv_iconst (v := (1 : Int32)) hx hb dX0_drawSubs_65 (by decide) ?_
              refine lv_iload hx hb dX0_drawSubs_66 (lv_at hl 1 rfl) ?_
              refine lv_ishl hx hb dX0_drawSubs_68 ?_
              obtain ⟨x23, ex23, hF⟩ := ltt_some hF
              refine lv_topi (fun zx23 ezx23 => ?_)
              obtain rfl : x23 = zx23 := ex23.trans ezx23.symm
              refine lv_goto (tgt := 73) hx hb dX0_drawSubs_69 (by decide) ?_
              obtain rfl := Option.some.inj hF
              exact J20 _ _ _ hP hD hS (lv_sub hl [0, 1, 2, 3, 4, 5] rfl)
          clear hF
          have hF := hy19
          clear hy19
          refine lv_if_eq (tgt := 56) hx hb dX0_drawSubs_49 (by decide) (fun c24 => ?_) (fun c24 => ?_)
          · rw [if_pos c24] at hF
            refine lv_iconst (v := (1 : Int32)) hx hb dX0_drawSubs_56 (by decide) ?_
            obtain rfl := Option.some.inj hF
            exact J19 _ _ _ hP hD hS (lv_sub hl [0, 1, 2, 3, 4, 5] rfl)
          · rw [if_neg c24] at hF
            refine lv_iconst (v := (0 : Int32)) hx hb dX0_drawSubs_52 (by decide) ?_
            refine lv_goto (tgt := 57) hx hb dX0_drawSubs_53 (by decide) ?_
            obtain rfl := Option.some.inj hF
            exact J19 _ _ _ hP hD hS (lv_sub hl [0, 1, 2, 3, 4, 5] rfl)
    clear hF
    have hF := hy6
    clear hy6
    refine lv_if_ne (tgt := 20) hx hb dX0_drawSubs_13 (by decide) (fun c25 => ?_) (fun c25 => ?_)
    · rw [if_neg c25] at hF
      refine lv_bipush (v := (13 : Int32)) hx hb dX0_drawSubs_20 (by decide) ?_
      obtain rfl := Option.some.inj hF
      exact J6 _ _ _ hP hD hS (lv_sub hl [0, 1, 2, 3, 4] rfl)
    · rw [if_pos c25] at hF
      refine lv_iconst (v := (4 : Int32)) hx hb dX0_drawSubs_16 (by decide) ?_
      refine lv_goto (tgt := 22) hx hb dX0_drawSubs_17 (by decide) ?_
      obtain rfl := Option.some.inj hF
      exact J6 _ _ _ hP hD hS (lv_sub hl [0, 1, 2, 3, 4] rfl)
set_option maxRecDepth 20000 in
theorem gX0_endSlice_X0_isSliceEdge : GoodIn wuX0_endSlice (wsV RX0 206 RX0 yX0_isSliceEdge wuX0_isSliceEdge) := gu_V mw_2446 mw_2448 mw_116 mw_175 mw_2449
set_option maxRecDepth 20000 in
set_option maxRecDepth 20000 in
theorem gX0_endSlice_X10_endUnit : GoodIn wuX0_endSlice (wsV RX0 172 RX10 yX10_endUnit wuX10_endUnit) := gu_V mw_1188 mw_1189 mw_1190 mw_176 mw_1191
set_option maxRecDepth 20000 in
theorem gX0_endSlice_X10_ue : GoodIn wuX0_endSlice (wsV RX0 162 RX10 yX10_ue wuX10_ue) := gu_V mw_1169 mw_1170 mw_1171 mw_176 mw_1172
set_option maxRecDepth 20000 in
set_option maxRecDepth 20000 in
theorem gX0_endSlice_X10_last : GoodIn wuX0_endSlice (wsV RX0 337 RX10 yX10_last wuX10_last) := gu_V mw_2716 mw_2661 mw_2662 mw_176 mw_2663
set_option maxRecDepth 20000 in
theorem dX0_endSlice_0 : decode cX0_endSlice 0 = .ok (.aload_n 0, 1) := by decide +kernel
theorem dX0_endSlice_1 : decode cX0_endSlice 1 = .ok (.iload_n 1, 1) := by decide +kernel
theorem dX0_endSlice_2 : decode cX0_endSlice 2 = .ok (.iconst 1, 1) := by decide +kernel
theorem dX0_endSlice_3 : decode cX0_endSlice 3 = .ok (.iadd, 1) := by decide +kernel
theorem dX0_endSlice_4 : decode cX0_endSlice 4 = .ok (.invokevirtual 206, 3) := by decide +kernel
theorem dX0_endSlice_7 : decode cX0_endSlice 7 = .ok (.istore_n 2, 1) := by decide +kernel
theorem dX0_endSlice_8 : decode cX0_endSlice 8 = .ok (.aload_n 0, 1) := by decide +kernel
theorem dX0_endSlice_9 : decode cX0_endSlice 9 = .ok (.getfield 36, 3) := by decide +kernel
theorem dX0_endSlice_12 : decode cX0_endSlice 12 = .ok (.getfield 85, 3) := by decide +kernel
theorem dX0_endSlice_15 : decode cX0_endSlice 15 = .ok (.iconst 1, 1) := by decide +kernel
theorem dX0_endSlice_16 : decode cX0_endSlice 16 = .ok (.iaload, 1) := by decide +kernel
theorem dX0_endSlice_17 : decode cX0_endSlice 17 = .ok (.iconst 1, 1) := by decide +kernel
theorem dX0_endSlice_18 : decode cX0_endSlice 18 = .ok (.if_icmp .ne 7, 3) := by decide +kernel
theorem dX0_endSlice_21 : decode cX0_endSlice 21 = .ok (.iconst 1, 1) := by decide +kernel
theorem dX0_endSlice_22 : decode cX0_endSlice 22 = .ok (.goto 4, 3) := by decide +kernel
theorem dX0_endSlice_25 : decode cX0_endSlice 25 = .ok (.iconst 0, 1) := by decide +kernel
theorem dX0_endSlice_26 : decode cX0_endSlice 26 = .ok (.istore_n 3, 1) := by decide +kernel
theorem dX0_endSlice_27 : decode cX0_endSlice 27 = .ok (.iload_n 3, 1) := by decide +kernel
theorem dX0_endSlice_28 : decode cX0_endSlice 28 = .ok (.ifCond .eq 11, 3) := by decide +kernel
theorem dX0_endSlice_31 : decode cX0_endSlice 31 = .ok (.aload_n 0, 1) := by decide +kernel
theorem dX0_endSlice_32 : decode cX0_endSlice 32 = .ok (.getfield 29, 3) := by decide +kernel
theorem dX0_endSlice_35 : decode cX0_endSlice 35 = .ok (.iload_n 2, 1) := by decide +kernel
theorem dX0_endSlice_36 : decode cX0_endSlice 36 = .ok (.invokevirtual 337, 3) := by decide +kernel
theorem dX0_endSlice_39 : decode cX0_endSlice 39 = .ok (.iload_n 2, 1) := by decide +kernel
theorem dX0_endSlice_40 : decode cX0_endSlice 40 = .ok (.ifCond .ne 4, 3) := by decide +kernel
theorem dX0_endSlice_43 : decode cX0_endSlice 43 = .ok (.return_, 1) := by decide +kernel
theorem dX0_endSlice_44 : decode cX0_endSlice 44 = .ok (.iload_n 3, 1) := by decide +kernel
theorem dX0_endSlice_45 : decode cX0_endSlice 45 = .ok (.ifCond .ne 28, 3) := by decide +kernel
theorem dX0_endSlice_48 : decode cX0_endSlice 48 = .ok (.aload_n 0, 1) := by decide +kernel
theorem dX0_endSlice_49 : decode cX0_endSlice 49 = .ok (.getfield 29, 3) := by decide +kernel
theorem dX0_endSlice_52 : decode cX0_endSlice 52 = .ok (.getfield 309, 3) := by decide +kernel
theorem dX0_endSlice_55 : decode cX0_endSlice 55 = .ok (.ifCond .le 18, 3) := by decide +kernel
theorem dX0_endSlice_58 : decode cX0_endSlice 58 = .ok (.aload_n 0, 1) := by decide +kernel
theorem dX0_endSlice_59 : decode cX0_endSlice 59 = .ok (.getfield 29, 3) := by decide +kernel
theorem dX0_endSlice_62 : decode cX0_endSlice 62 = .ok (.iconst 0, 1) := by decide +kernel
theorem dX0_endSlice_63 : decode cX0_endSlice 63 = .ok (.aload_n 0, 1) := by decide +kernel
theorem dX0_endSlice_64 : decode cX0_endSlice 64 = .ok (.getfield 29, 3) := by decide +kernel
theorem dX0_endSlice_67 : decode cX0_endSlice 67 = .ok (.getfield 309, 3) := by decide +kernel
theorem dX0_endSlice_70 : decode cX0_endSlice 70 = .ok (.invokevirtual 162, 3) := by decide +kernel
theorem dX0_endSlice_73 : decode cX0_endSlice 73 = .ok (.aload_n 0, 1) := by decide +kernel
theorem dX0_endSlice_74 : decode cX0_endSlice 74 = .ok (.getfield 29, 3) := by decide +kernel
theorem dX0_endSlice_77 : decode cX0_endSlice 77 = .ok (.iload_n 3, 1) := by decide +kernel
theorem dX0_endSlice_78 : decode cX0_endSlice 78 = .ok (.invokevirtual 172, 3) := by decide +kernel
theorem dX0_endSlice_81 : decode cX0_endSlice 81 = .ok (.return_, 1) := by decide +kernel
noncomputable def FX0_endSlice (G : GG) (M : DD) (a : Nat) (p0 : Int32) : Option (NN × DD) :=
  ltt ((p0 + ((1 : Int32)))) fun x1 =>
  bnd (FX0_isSliceEdge (xt G []) M a x1) fun y2 =>
  dr (xt G []) 9 ((y2.1.2 a 3)) fun b3 =>
  dr (xt G []) 13 ((y2.1.2 b3 2)) fun b4 =>
  chk (¬ (((1 : Int32)) < 0 ∨ (xt G []).2.2 b4 ≤ ((1 : Int32)).toNatClampNeg)) <|
  ltt (y2.1.1 b4 ((1 : Int32)).toNatClampNeg) fun x5 =>
  bnd (if x5 = ((1 : Int32)) then (some ((1 : Int32))) else
  (some ((0 : Int32)))) fun (y6 : Int32) =>
  bnd (if y6 = ((0 : Int32)) then (some ([], y2.1)) else
  (dr (xt G []) 10 ((y2.1.2 a 2)) fun b40 =>
  bnd (FX10_last (xt G []) y2.1 b40 y2.2) fun y41 =>
  app y41.1 <|
  ltt ([] ++ y41.1) fun L43 =>
  some ([], y41.2))) fun (y7 : NN × DD) =>
  app y7.1 <|
  ltt ([] ++ y7.1) fun L9 =>
  if y2.2 = ((0 : Int32)) then (some ([], y7.2)) else
  (bnd (if y6 = ((0 : Int32)) then (dr (xt G L9) 10 ((y7.2.2 a 2)) fun b24 =>
  ltt (y7.2.1 b24 3) fun x25 =>
  bnd (if x25 ≤ ((0 : Int32)) then (some ([], y7.2)) else
  (ltt (y7.2.1 b24 3) fun x32 =>
  bnd (FX10_ue (xt G L9) y7.2 b24 ((0 : Int32)) x32) fun y33 =>
  app y33.1 <|
  ltt (L9 ++ y33.1) fun L35 =>
  some ([], y33.2))) fun (y26 : NN × DD) =>
  app y26.1 <|
  ltt (L9 ++ y26.1) fun L28 =>
  some ([], y26.2)) else
  (some ([], y7.2))) fun (y12 : NN × DD) =>
  app y12.1 <|
  ltt (L9 ++ y12.1) fun L14 =>
  dr (xt G L14) 10 ((y12.2.2 a 2)) fun b16 =>
  bnd (FX10_endUnit (xt G L14) y12.2 b16 y6) fun y17 =>
  app y17.1 <|
  ltt (L14 ++ y17.1) fun L19 =>
  some ([], y17.2))
set_option maxHeartbeats 4000000 in
set_option maxRecDepth 100000 in
theorem kX0_endSlice (l : Launch) (D : va_G) (ct : CT) (ad : Nat → Nat) (Z : Nat → Nat) (G : GG) (M : DD) (sz : Nat) (a : Nat) (p0 : Int32) (y : NN × DD) (hc : a < G.1) (hk : G.2.1 a = 0) (hF : FX0_endSlice G M a p0 = some y) : Met l yX0_endSlice wuX0_endSlice ({ frames := 6, cells := y.1.length, slots := wt y.1, locals := 197 }) (va_Pc [.ref (ad a), .int p0] (kB D ct ad Z G M sz)) (va_Qv (fun (u : Nat → Nat) => agr G.1 ad u) (fun u t => kE D ct u (xt G y.1) (wA ad G sz) y.2 t) (wA ad G sz)) y.1.length (wt y.1) (wA ad G sz) := by
  refine Met.ofW (cc := cX0_endSlice) (maxL := 4) (ret := none) (by decide) rfl ?_
  intro p e s m args below meth c s₁ B hml hv
  obtain ⟨rfl, hsz, hP, hK, hD0, hZ, hN⟩ := hv
  have hx := B.exec
  have hb := B.bytes
  have hr := B.returns
  have hts := atoms_spec (ws := wuX0_endSlice) B.pre
  have hown : s.vm.findClass RX0 = some m.cls := findClass_of_methodNamed B.named
  have hlocks := B.notSynchronized
  subst hsz
  have hD := wD_self (sz := s.heap.size) hD0
  have hA9 : ∀ q, s.heap.size ≤ q → wA ad G s.heap.size q := fun q h => Or.inr h
  generalize hAe : wA ad G s.heap.size = A at hD hA9 hZ ⊢
  have hS : va_S A s.heap s.heap [] := va_S.rf
  have hl := lv_entry ([.ref (ad a), .int p0]) (n := 4) (Nat.le_of_ble_eq_true rfl)
  rw [lg_entry_eq]
  generalize (lg_sl ([.ref (ad a), .int p0]) ++ List.replicate (4 - (lg_sl ([.ref (ad a), .int p0])).length) Slot.unset).toArray = ls at hl ⊢
  have hl : lv_has ls 4 [(0, .ref (ad a)), (1, .int p0)] := hl
  unfold FX0_endSlice at hF
  rw [← wld_0 ct ad G M] at hP hD
  have hk := xt_k0 hc hk
  have hc := xt_l0 hc
  have hag := agr_rf G.1 ad
  obtain ⟨w0, hw0⟩ : ∃ z, z = y := ⟨_, rfl⟩
  rw [← hw0] at hF
  have hT : y.1 = [] ++ w0.1 := by rw [hw0]; rfl
  have h2 : y.2 = w0.2 := by rw [hw0]
  have hbl : y.1.length ≤ y.1.length ∧ wt y.1 ≤ wt y.1 := ⟨Nat.le_refl _, Nat.le_refl _⟩
  refine lv_aload_n hx hb dX0_endSlice_0 rfl (lv_at hl 0 rfl) ?_
  refine lv_iload_n hx hb dX0_endSlice_1 rfl (lv_at hl 1 rfl) ?_
  refine lv_iconst (v := (1 : Int32)) hx hb dX0_endSlice_2 (by decide) ?_
  refine lv_iadd hx hb dX0_endSlice_3 ?_
  obtain ⟨x1, ex1, hF⟩ := ltt_some hF
  refine lv_topi (fun zx1 ezx1 => ?_)
  obtain rfl : x1 = zx1 := ex1.trans ezx1.symm
  obtain ⟨y2, hy2, hF⟩ := bnd_some hF
  have hf9 := wA_in hD hA9 hS
  refine va_calli (va_runV (As := [.int x1]) (rest := []) ⟨hx, hb, hml, hown, hts⟩ (kX0_isSliceEdge l D ct ad Z (xt G []) M s.heap.size a x1 y2 hc hk hy2) (cwV 1 hts gX0_endSlice_X0_isSliceEdge rfl rfl rfl (by decide +kernel) ⟨Nat.le_of_ble_eq_true rfl, Nat.le_of_ble_eq_true rfl⟩) ⟨fun a U g mk q => by obtain ⟨q0, q1, qP, qK, qD, qZ, qN⟩ := q; exact ⟨q0, q1, qP, va_K.moved (u := U) (U := U.calling g mk a) (Vm.Alike.refl U.vm) qK, qD, sF.moved (u := U) (U := U.calling g mk a) (Vm.Alike.refl U.vm) qZ, nF.same rfl qN⟩, va_recv hK hP (ci := 0) (q0 := a) rfl (wld_o ct ad (xt G []) M hc hk (by decide)), fun U hU hW => ⟨rfl, by rw [hU], by rw [hU]; exact hP, va_K.moved hW.alike hK, hD.weaken (fun _ _ _ _ => trivial), by rw [hU]; exact ((hZ.kept hS.2.1).narrow hf9).moved hW.alike, hN.warm hW⟩⟩ rfl rfl hl.1 rfl (lv_room (Nat.le_of_ble_eq_true rfl)) dX0_endSlice_4 (room_d hT hbl)) hS (fun q _ h => hf9 q h) hf9 (fun r u t H locs ht hvm hw hB hz1 hk1 hS => ?_)
  obtain ⟨hP, hK9, hD9⟩ := hB
  rw [ht] at hP
  try dsimp only at hw
  subst hw
  refine W_cs (k := ([] : NN).length) (n := wt []) rfl rfl ?_
  have hD := hD9.weaken (fun _ q _ h => hf9 q.1 h)
  refine lv_istore_n (lv' := [(2, .int y2.2), (0, .ref (ad a)), (1, .int p0)]) hx hb dX0_endSlice_7 rfl hl (by decide) rfl (fun ls hl => ?_)
  refine lv_aload_n hx hb dX0_endSlice_8 rfl (lv_at hl 1 rfl) ?_
  refine va_get (D := D) (ci := 0) (v := va_re ad (y2.1.2 a 3)) (C := RX0) (T := TX0) (N := 21) hx hb hts (mus hf_X0) hown hK hP a (wld_o ct ad (xt G []) y2.1 hc hk (by decide)) rfl 3 (by decide) (hts (.fieldLink RX0 36 "VideoSuite$Coder" "work" "LVideoSuite$Work;") (mu mw_817)) (fun _ h9 => h9) rfl dX0_endSlice_9 ?_
  obtain ⟨b3, ho3, hc3, hk3, hF⟩ := dr_some hF
  refine W_st (st' := [.ref (ad b3)]) (by rw [va_some ho3]) ?_
  refine va_get (D := D) (ci := 9) (v := va_re ad (y2.1.2 b3 2)) (C := RX9) (T := TX9) (N := 20) hx hb hts (mus hf_X9) hown hK hP b3 (wld_o ct ad (xt G []) y2.1 hc3 hk3 (by decide)) rfl 2 (by decide) (hts (.fieldLink RX0 85 "VideoSuite$Work" "par" "[I") (mu mw_430)) (fun _ h9 => h9) rfl dX0_endSlice_12 ?_
  refine lv_iconst (v := (1 : Int32)) hx hb dX0_endSlice_15 (by decide) ?_
  obtain ⟨b4, ho4, hc4, hk4, hF⟩ := dr_some hF
  refine W_st (st' := [.int (1 : Int32), .ref (ad b4)]) (by rw [va_some ho4]) ?_
  obtain ⟨hvc, hF⟩ := chk_some hF
  refine va_iald hx hb hK hP b4 1 (wld_i ct ad (xt G []) y2.1 hc4 hk4) rfl hvc dX0_endSlice_16 ?_
  obtain ⟨x5, ex5, hF⟩ := ltt_some hF
  refine lv_topi (fun zx5 ezx5 => ?_)
  obtain rfl : x5 = zx5 := ex5.trans ezx5.symm
  refine lv_iconst (v := (1 : Int32)) hx hb dX0_endSlice_17 (by decide) ?_
  obtain ⟨y6, hy6, hF⟩ := bnd_some hF
  have J6 : ∀ (H : Heap) (locs : List Loc) (ls : Array Slot), va_P D classes (wld ct ad (xt G []) y2.1) H → va_D A (wld ct ad (xt G []) y2.1) → va_S A s.heap H locs → lv_has ls 4 [(2, .int y2.2), (0, .ref (ad a)), (1, .int p0)] → W p l e (headSpec wuX0_endSlice ({ frames := 6, cells := y.1.length, slots := wt y.1, locals := 197 })).room s m ([.ref (ad a), .int p0] : List Value).toArray below meth c H locs ([] : NN).length (wt []) (MQ below (va_Qv (fun (u : Nat → Nat) => agr G.1 ad u) (fun u t => kE D ct u (xt G y.1) A y.2 t) A) ([.ref (ad a), .int p0] : List Value).toArray s y.1.length (wt y.1) A) (F0 m 26 ls [.int y6]) := by
    intro H locs ls hP hD hS hl
    refine lv_istore_n (lv' := [(3, .int y6), (2, .int y2.2), (0, .ref (ad a)), (1, .int p0)]) hx hb dX0_endSlice_26 rfl hl (by decide) rfl (fun ls hl => ?_)
    refine lv_iload_n hx hb dX0_endSlice_27 rfl (lv_at hl 0 rfl) ?_
    obtain ⟨y7, hy7, hF⟩ := bnd_some hF
    obtain ⟨w8, hF, ew8⟩ := app_some hF
    obtain ⟨L9, eL9, hF⟩ := ltt_some hF
    have hT9 : y.1 = ([] ++ y7.1) ++ w8.1 := by rw [hT, ew8]; simp only [List.append_assoc]
    have hbl9 : L9.length ≤ y.1.length ∧ wt L9 ≤ wt y.1 := by rw [eL9]; exact room_d hT9 hbl
    have J7 : ∀ (ad10 : Nat → Nat), agr G.1 ad ad10 → ∀ (H : Heap) (locs : List Loc) (ls : Array Slot), va_P D classes (wld ct ad10 (xt G L9) y7.2) H → va_D A (wld ct ad10 (xt G L9) y7.2) → va_S A s.heap H locs → lv_has ls 4 [(3, .int y6), (2, .int y2.2), (0, .ref (ad10 a))] → W p l e (headSpec wuX0_endSlice ({ frames := 6, cells := y.1.length, slots := wt y.1, locals := 197 })).room s m ([.ref (ad a), .int p0] : List Value).toArray below meth c H locs (L9 : NN).length (wt L9) (MQ below (va_Qv (fun (u : Nat → Nat) => agr G.1 ad u) (fun u t => kE D ct u (xt G y.1) A y.2 t) A) ([.ref (ad a), .int p0] : List Value).toArray s y.1.length (wt y.1) A) (F0 m 39 ls []) := by
      intro ad10 hag H locs ls hP hD hS hl
      have hT : y.1 = L9 ++ w8.1 := by rw [hT9, eL9]
      have h2 : y.2 = w8.2 := by rw [h2, ew8]
      have hk : (xt G L9).2.1 a = 0 := by rw [eL9]; exact xt_k _ hc hk
      have hc : a < (xt G L9).1 := by rw [eL9]; exact xt_l _ hc
      have hk3 : (xt G L9).2.1 b3 = 9 := by rw [eL9]; exact xt_k _ hc3 hk3
      have hc3 : b3 < (xt G L9).1 := by rw [eL9]; exact xt_l _ hc3
      have hk4 : (xt G L9).2.1 b4 = 13 := by rw [eL9]; exact xt_k _ hc4 hk4
      have hc4 : b4 < (xt G L9).1 := by rw [eL9]; exact xt_l _ hc4
      refine lv_iload_n hx hb dX0_endSlice_39 rfl (lv_at hl 1 rfl) ?_
      refine lv_if_ne (tgt := 44) hx hb dX0_endSlice_40 (by decide) (fun c11 => ?_) (fun c11 => ?_)
      · rw [if_neg c11] at hF
        refine lv_iload_n hx hb dX0_endSlice_44 rfl (lv_at hl 0 rfl) ?_
        obtain ⟨y12, hy12, hF⟩ := bnd_some hF
        obtain ⟨w13, hF, ew13⟩ := app_some hF
        obtain ⟨L14, eL14, hF⟩ := ltt_some hF
        have hT14 : y.1 = (L9 ++ y12.1) ++ w13.1 := by rw [hT, ew13]; simp only [List.append_assoc]
        have hbl14 : L14.length ≤ y.1.length ∧ wt L14 ≤ wt y.1 := by rw [eL14]; exact room_d hT14 hbl
        have J12 : ∀ (ad15 : Nat → Nat), agr G.1 ad ad15 → ∀ (H : Heap) (locs : List Loc) (ls : Array Slot), va_P D classes (wld ct ad15 (xt G L14) y12.2) H → va_D A (wld ct ad15 (xt G L14) y12.2) → va_S A s.heap H locs → lv_has ls 4 [(3, .int y6), (0, .ref (ad15 a))] → W p l e (headSpec wuX0_endSlice ({ frames := 6, cells := y.1.length, slots := wt y.1, locals := 197 })).room s m ([.ref (ad a), .int p0] : List Value).toArray below meth c H locs (L14 : NN).length (wt L14) (MQ below (va_Qv (fun (u : Nat → Nat) => agr G.1 ad u) (fun u t => kE D ct u (xt G y.1) A y.2 t) A) ([.ref (ad a), .int p0] : List Value).toArray s y.1.length (wt y.1) A) (F0 m 73 ls []) := by
          intro ad15 hag H locs ls hP hD hS hl
          have hT : y.1 = L14 ++ w13.1 := by rw [hT14, eL14]
          have h2 : y.2 = w13.2 := by rw [h2, ew13]
          have hk : (xt G L14).2.1 a = 0 := by rw [eL14]; exact xt_k _ hc hk
          have hc : a < (xt G L14).1 := by rw [eL14]; exact xt_l _ hc
          have hk3 : (xt G L14).2.1 b3 = 9 := by rw [eL14]; exact xt_k _ hc3 hk3
          have hc3 : b3 < (xt G L14).1 := by rw [eL14]; exact xt_l _ hc3
          have hk4 : (xt G L14).2.1 b4 = 13 := by rw [eL14]; exact xt_k _ hc4 hk4
          have hc4 : b4 < (xt G L14).1 := by rw [eL14]; exact xt_l _ hc4
          refine lv_aload_n hx hb dX0_endSlice_73 rfl (lv_at hl 1 rfl) ?_
          refine va_get (D := D) (ci := 0) (v := va_re ad15 (y12.2.2 a 2)) (C := RX0) (T := TX0) (N := 21) hx hb hts (mus hf_X0) hown hK hP a (wld_o ct ad15 (xt G L14) y12.2 hc hk (by decide)) rfl 2 (by decide) (hts (.fieldLink RX0 29 "VideoSuite$Coder" "writer" "LVideoSuite$Writer;") (mu mw_815)) (fun _ h9 => h9) rfl dX0_endSlice_74 ?_
          refine lv_iload_n hx hb dX0_endSlice_77 rfl (lv_at hl 0 rfl) ?_
          obtain ⟨b16, ho16, hc16, hk16, hF⟩ := dr_some hF
          refine W_st (st' := [.int y6, .ref (ad15 b16)]) (by rw [va_some ho16]) ?_
          obtain ⟨y17, hy17, hF⟩ := bnd_some hF
          obtain ⟨w18, hF, ew18⟩ := app_some hF
          obtain ⟨L19, eL19, hF⟩ := ltt_some hF
          have hT19 : y.1 = (L14 ++ y17.1) ++ w18.1 := by rw [hT, ew18]; simp only [List.append_assoc]
          have hf9 := wA_in hD hA9 hS
          refine va_callv (va_runV (As := [.int y6]) (rest := []) ⟨hx, hb, hml, hown, hts⟩ (kX10_endUnit l D ct ad15 Z (xt G L14) y12.2 _ b16 y6 y17 hc16 hk16 hy17) (cwV 1 hts gX0_endSlice_X10_endUnit rfl rfl rfl (by decide +kernel) ⟨Nat.le_of_ble_eq_true rfl, Nat.le_of_ble_eq_true rfl⟩) ⟨fun a U g mk q => by obtain ⟨q0, q1, qP, qK, qD, qZ, qN⟩ := q; exact ⟨q0, q1, qP, va_K.moved (u := U) (U := U.calling g mk a) (Vm.Alike.refl U.vm) qK, qD, sF.moved (u := U) (U := U.calling g mk a) (Vm.Alike.refl U.vm) qZ, nF.same rfl qN⟩, va_recv hK hP (ci := 10) (q0 := b16) rfl (wld_o ct ad15 (xt G L14) y12.2 hc16 hk16 (by decide)), fun U hU hW => ⟨rfl, by rw [hU], by rw [hU]; exact hP, va_K.moved hW.alike hK, hD.weaken (fun _ _ _ _ => trivial), by rw [hU]; exact ((hZ.kept hS.2.1).narrow hf9).moved hW.alike, hN.warm hW⟩⟩ rfl rfl hl.1 rfl (lv_room (Nat.le_of_ble_eq_true rfl)) dX0_endSlice_78 (room_s hT19 hbl)) hS (fun q _ h => hf9 q h) hf9 (fun ad20 t H locs ht hvm hw hB hz1 hk1 hS => ?_)
          have hn21 := hw
          obtain ⟨hP, hK9, hD9⟩ := hB
          rw [ht] at hP
          have hD := hD9.weaken (fun _ q _ h => hf9 q.1 h)
          rw [xt_xt, ← eL19] at hP hD
          refine W_cs (k := L19.length) (n := wt L19) (by rw [eL19]; exact (len_s L14 y17.1).symm) (by rw [eL19]; exact (wt_app L14 y17.1).symm) ?_
          have hT : y.1 = L19 ++ w18.1 := by rw [hT19, eL19]
          have h2 : y.2 = w18.2 := by rw [h2, ew18]
          have hl := lv_sub (l' := []) hl [] rfl
          have hk : (xt G L19).2.1 a = 0 := by rw [eL19]; exact xt_k _ hc hk
          have hc : a < (xt G L19).1 := by rw [eL19]; exact xt_l _ hc
          have hk3 : (xt G L19).2.1 b3 = 9 := by rw [eL19]; exact xt_k _ hc3 hk3
          have hc3 : b3 < (xt G L19).1 := by rw [eL19]; exact xt_l _ hc3
          have hk4 : (xt G L19).2.1 b4 = 13 := by rw [eL19]; exact xt_k _ hc4 hk4
          have hc4 : b4 < (xt G L19).1 := by rw [eL19]; exact xt_l _ hc4
          have hk16 : (xt G L19).2.1 b16 = 10 := by rw [eL19]; exact xt_k _ hc16 hk16
          have hc16 : b16 < (xt G L19).1 := by rw [eL19]; exact xt_l _ hc16
          have hag := agr_t (xt_ge _ _) hag hn21
          obtain rfl := Option.some.inj hF
          have e1 : y.1 = L19 := by rw [hT]; exact List.append_nil _
          have e2 : y.2 = y17.2 := h2
          refine W.widen (k := y.1.length) (n := wt y.1) (Nat.le_of_eq (by rw [e1])) (Nat.le_of_eq (by rw [e1])) ?_
          exact W.vret hx hb hr (fun t ht hW => ⟨⟨ad20, rfl, hag, (by unfold kE; rw [e1, e2]; exact ⟨by rw [ht]; exact hP, va_K.moved hW.alike hK, hD⟩)⟩, hS.F ht⟩) hS.2.2 dX0_endSlice_81
        clear hF
        obtain ⟨w22, hw22⟩ : ∃ z, z = y12 := ⟨_, rfl⟩
        have hF := hy12
        rw [← hw22] at hF
        clear hy12
        have hT : L14 = L9 ++ w22.1 := by rw [eL14, hw22]
        have h2 : y12.2 = w22.2 := by rw [hw22]
        have hbl := hbl14
        refine lv_if_ne (tgt := 73) hx hb dX0_endSlice_45 (by decide) (fun c23 => ?_) (fun c23 => ?_)
        · rw [if_neg c23] at hF
          obtain rfl := Option.some.inj hF
          have e1 : L14 = L9 := by rw [hT]; exact List.append_nil _
          have e2 : y12.2 = y7.2 := h2
          rw [e1] at J12
          try rw [e2] at J12
          exact J12 _ hag _ _ _ hP hD hS (lv_sub hl [0, 2] rfl)
        · rw [if_pos c23] at hF
          refine lv_aload_n hx hb dX0_endSlice_48 rfl (lv_at hl 2 rfl) ?_
          refine va_get (D := D) (ci := 0) (v := va_re ad10 (y7.2.2 a 2)) (C := RX0) (T := TX0) (N := 21) hx hb hts (mus hf_X0) hown hK hP a (wld_o ct ad10 (xt G L9) y7.2 hc hk (by decide)) rfl 2 (by decide) (hts (.fieldLink RX0 29 "VideoSuite$Coder" "writer" "LVideoSuite$Writer;") (mu mw_815)) (fun _ h9 => h9) rfl dX0_endSlice_49 ?_
          obtain ⟨b24, ho24, hc24, hk24, hF⟩ := dr_some hF
          refine W_st (st' := [.ref (ad10 b24)]) (by rw [va_some ho24]) ?_
          refine va_get (D := D) (ci := 10) (v := .int (y7.2.1 b24 3)) (C := RX10) (T := TX10) (N := 20) hx hb hts (mus hf_X10) hown hK hP b24 (wld_o ct ad10 (xt G L9) y7.2 hc24 hk24 (by decide)) rfl 3 (by decide) (hts (.fieldLink RX0 309 "VideoSuite$Writer" "run" "I") (mu mw_742)) (fun _ h9 => h9) rfl dX0_endSlice_52 ?_
          obtain ⟨x25, ex25, hF⟩ := ltt_some hF
          refine lv_topi (fun zx25 ezx25 => ?_)
          obtain rfl : x25 = zx25 := ex25.trans ezx25.symm
          obtain ⟨y26, hy26, hF⟩ := bnd_some hF
          obtain ⟨w27, hF, ew27⟩ := app_some hF
          obtain ⟨L28, eL28, hF⟩ := ltt_some hF
          have hT28 : L14 = (L9 ++ y26.1) ++ w27.1 := by rw [hT, ew27]; simp only [List.append_assoc]
          have hbl28 : L28.length ≤ y.1.length ∧ wt L28 ≤ wt y.1 := by rw [eL28]; exact room_d hT28 hbl
          have J26 : ∀ (ad29 : Nat → Nat), agr G.1 ad ad29 → ∀ (H : Heap) (locs : List Loc) (ls : Array Slot), va_P D classes (wld ct ad29 (xt G L28) y26.2) H → va_D A (wld ct ad29 (xt G L28) y26.2) → va_S A s.heap H locs → lv_has ls 4 [(3, .int y6), (0, .ref (ad29 a))] → W p l e (headSpec wuX0_endSlice ({ frames := 6, cells := y.1.length, slots := wt y.1, locals := 197 })).room s m ([.ref (ad a), .int p0] : List Value).toArray below meth c H locs (L28 : NN).length (wt L28) (MQ below (va_Qv (fun (u : Nat → Nat) => agr G.1 ad u) (fun u t => kE D ct u (xt G y.1) A y.2 t) A) ([.ref (ad a), .int p0] : List Value).toArray s y.1.length (wt y.1) A) (F0 m 73 ls []) := by
            intro ad29 hag H locs ls hP hD hS hl
            have hT : L14 = L28 ++ w27.1 := by rw [hT28, eL28]
            have h2 : y12.2 = w27.2 := by rw [h2, ew27]
            have hk : (xt G L28).2.1 a = 0 := by rw [eL28]; exact xt_k _ hc hk
            have hc : a < (xt G L28).1 := by rw [eL28]; exact xt_l _ hc
            have hk3 : (xt G L28).2.1 b3 = 9 := by rw [eL28]; exact xt_k _ hc3 hk3
            have hc3 : b3 < (xt G L28).1 := by rw [eL28]; exact xt_l _ hc3
            have hk4 : (xt G L28).2.1 b4 = 13 := by rw [eL28]; exact xt_k _ hc4 hk4
            have hc4 : b4 < (xt G L28).1 := by rw [eL28]; exact xt_l _ hc4
            have hk24 : (xt G L28).2.1 b24 = 10 := by rw [eL28]; exact xt_k _ hc24 hk24
            have hc24 : b24 < (xt G L28).1 := by rw [eL28]; exact xt_l _ hc24
            obtain rfl := Option.some.inj hF
            have e1 : L14 = L28 := by rw [hT]; exact List.append_nil _
            have e2 : y12.2 = y26.2 := h2
            rw [e1] at J12
            try rw [e2] at J12
            exact J12 _ hag _ _ _ hP hD hS (lv_sub hl [0, 1] rfl)
          clear hF
          obtain ⟨w30, hw30⟩ : ∃ z, z = y26 := ⟨_, rfl⟩
          have hF := hy26
          rw [← hw30] at hF
          clear hy26
          have hT : L28 = L9 ++ w30.1 := by rw [eL28, hw30]
          have h2 : y26.2 = w30.2 := by rw [hw30]
          have hbl := hbl28
          refine lv_if_le (tgt := 73) hx hb dX0_endSlice_55 (by decide) (fun c31 => ?_) (fun c31 => ?_)
          · rw [if_pos c31] at hF
            obtain rfl := Option.some.inj hF
            have e1 : L28 = L9 := by rw [hT]; exact List.append_nil _
            have e2 : y26.2 = y7.2 := h2
            rw [e1] at J26
            try rw [e2] at J26
            exact J26 _ hag _ _ _ hP hD hS (lv_sub hl [0, 2] rfl)
          · rw [if_neg c31] at hF
            refine lv_aload_n hx hb dX0_endSlice_58 rfl (lv_at hl 2 rfl) ?_
            refine va_get (D := D) (ci := 0) (v := va_re ad10 (y7.2.2 a 2)) (C := RX0) (T := TX0) (N := 21) hx hb hts (mus hf_X0) hown hK hP a (wld_o ct ad10 (xt G L9) y7.2 hc hk (by decide)) rfl 2 (by decide) (hts (.fieldLink RX0 29 "VideoSuite$Coder" "writer" "LVideoSuite$Writer;") (mu mw_815)) (fun _ h9 => h9) rfl dX0_endSlice_59 ?_
            refine lv_iconst (v := (0 : Int32)) hx hb dX0_endSlice_62 (by decide) ?_
            refine lv_aload_n hx hb dX0_endSlice_63 rfl (lv_at hl 2 rfl) ?_
            refine va_get (D := D) (ci := 0) (v := va_re ad10 (y7.2.2 a 2)) (C := RX0) (T := TX0) (N := 21) hx hb hts (mus hf_X0) hown hK hP a (wld_o ct ad10 (xt G L9) y7.2 hc hk (by decide)) rfl 2 (by decide) (hts (.fieldLink RX0 29 "VideoSuite$Coder" "writer" "LVideoSuite$Writer;") (mu mw_815)) (fun _ h9 => h9) rfl dX0_endSlice_64 ?_
            refine W_st (st' := [.ref (ad10 b24), .int (0 : Int32), .ref (ad10 b24)]) (by rw [va_some ho24]) ?_
            refine va_get (D := D) (ci := 10) (v := .int (y7.2.1 b24 3)) (C := RX10) (T := TX10) (N := 20) hx hb hts (mus hf_X10) hown hK hP b24 (wld_o ct ad10 (xt G L9) y7.2 hc24 hk24 (by decide)) rfl 3 (by decide) (hts (.fieldLink RX0 309 "VideoSuite$Writer" "run" "I") (mu mw_742)) (fun _ h9 => h9) rfl dX0_endSlice_67 ?_
            obtain ⟨x32, ex32, hF⟩ := ltt_some hF
            refine lv_topi (fun zx32 ezx32 => ?_)
            obtain rfl : x32 = zx32 := ex32.trans ezx32.symm
            obtain ⟨y33, hy33, hF⟩ := bnd_some hF
            obtain ⟨w34, hF, ew34⟩ := app_some hF
            obtain ⟨L35, eL35, hF⟩ := ltt_some hF
            have hT35 : L28 = (L9 ++ y33.1) ++ w34.1 := by rw [hT, ew34]; simp only [List.append_assoc]
            have hf9 := wA_in hD hA9 hS
            refine va_callv (va_runV (As := [.int (0 : Int32), .int x32]) (rest := []) ⟨hx, hb, hml, hown, hts⟩ (kX10_ue l D ct ad10 Z (xt G L9) y7.2 _ b24 ((0 : Int32)) x32 y33 hc24 hk24 hy33) (cwV 2 hts gX0_endSlice_X10_ue rfl rfl rfl (by decide +kernel) ⟨Nat.le_of_ble_eq_true rfl, Nat.le_of_ble_eq_true rfl⟩) ⟨fun a U g mk q => by obtain ⟨q0, q1, qP, qK, qD, qZ, qN⟩ := q; exact ⟨q0, q1, qP, va_K.moved (u := U) (U := U.calling g mk a) (Vm.Alike.refl U.vm) qK, qD, sF.moved (u := U) (U := U.calling g mk a) (Vm.Alike.refl U.vm) qZ, nF.same rfl qN⟩, va_recv hK hP (ci := 10) (q0 := b24) rfl (wld_o ct ad10 (xt G L9) y7.2 hc24 hk24 (by decide)), fun U hU hW => ⟨rfl, by rw [hU], by rw [hU]; exact hP, va_K.moved hW.alike hK, hD.weaken (fun _ _ _ _ => trivial), by rw [hU]; exact ((hZ.kept hS.2.1).narrow hf9).moved hW.alike, hN.warm hW⟩⟩ rfl rfl hl.1 rfl (lv_room (Nat.le_of_ble_eq_true rfl)) dX0_endSlice_70 (room_s hT35 hbl)) hS (fun q _ h => hf9 q h) hf9 (fun ad36 t H locs ht hvm hw hB hz1 hk1 hS => ?_)
            have hn37 := hw
            obtain ⟨hP, hK9, hD9⟩ := hB
            rw [ht] at hP
            have hD := hD9.weaken (fun _ q _ h => hf9 q.1 h)
            rw [xt_xt, ← eL35] at hP hD
            refine W_cs (k := L35.length) (n := wt L35) (by rw [eL35]; exact (len_s L9 y33.1).symm) (by rw [eL35]; exact (wt_app L9 y33.1).symm) ?_
            have hT : L28 = L35 ++ w34.1 := by rw [hT35, eL35]
            have h2 : y26.2 = w34.2 := by rw [h2, ew34]
            have hl := lv_sub (l' := [(3, .int y6), (0, .ref (ad10 a))]) hl [0, 2] rfl
            have e9 : ([(3, .int y6), (0, .ref (ad10 a))] : List (Nat × Value)) = [(3, .int y6), (0, .ref (ad36 a))] := (by first | rfl | simp only [hn37 a hc])
            rw [e9] at hl
            clear e9
            have hk : (xt G L35).2.1 a = 0 := by rw [eL35]; exact xt_k _ hc hk
            have hc : a < (xt G L35).1 := by rw [eL35]; exact xt_l _ hc
            have hk3 : (xt G L35).2.1 b3 = 9 := by rw [eL35]; exact xt_k _ hc3 hk3
            have hc3 : b3 < (xt G L35).1 := by rw [eL35]; exact xt_l _ hc3
            have hk4 : (xt G L35).2.1 b4 = 13 := by rw [eL35]; exact xt_k _ hc4 hk4
            have hc4 : b4 < (xt G L35).1 := by rw [eL35]; exact xt_l _ hc4
            have hk24 : (xt G L35).2.1 b24 = 10 := by rw [eL35]; exact xt_k _ hc24 hk24
            have hc24 : b24 < (xt G L35).1 := by rw [eL35]; exact xt_l _ hc24
            have hag := agr_t (xt_ge _ _) hag hn37
            obtain rfl := Option.some.inj hF
            have e1 : L28 = L35 := by rw [hT]; exact List.append_nil _
            have e2 : y26.2 = y33.2 := h2
            rw [e1] at J26
            try rw [e2] at J26
            exact J26 _ hag _ _ _ hP hD hS (lv_sub hl [0, 1] rfl)
      · rw [if_pos c11] at hF
        obtain rfl := Option.some.inj hF
        have e1 : y.1 = L9 := by rw [hT]; exact List.append_nil _
        have e2 : y.2 = y7.2 := h2
        refine W.widen (k := y.1.length) (n := wt y.1) (Nat.le_of_eq (by rw [e1])) (Nat.le_of_eq (by rw [e1])) ?_
        exact W.vret hx hb hr (fun t ht hW => ⟨⟨ad10, rfl, hag, (by unfold kE; rw [e1, e2]; exact ⟨by rw [ht]; exact hP, va_K.moved hW.alike hK, hD⟩)⟩, hS.F ht⟩) hS.2.2 dX0_endSlice_43
    clear hF
    obtain ⟨w38, hw38⟩ : ∃ z, z = y7 := ⟨_, rfl⟩
    have hF := hy7
    rw [← hw38] at hF
    clear hy7
    have hT : L9 = [] ++ w38.1 := by rw [eL9, hw38]
    have h2 : y7.2 = w38.2 := by rw [hw38]
    have hbl := hbl9
    refine lv_if_eq (tgt := 39) hx hb dX0_endSlice_28 (by decide) (fun c39 => ?_) (fun c39 => ?_)
    · rw [if_pos c39] at hF
      obtain rfl := Option.some.inj hF
      have e1 : L9 = [] := by rw [hT]; exact List.append_nil _
      have e2 : y7.2 = y2.1 := h2
      rw [e1] at J7
      try rw [e2] at J7
      exact J7 _ hag _ _ _ hP hD hS (lv_sub hl [0, 1, 2] rfl)
    · rw [if_neg c39] at hF
      refine lv_aload_n hx hb dX0_endSlice_31 rfl (lv_at hl 2 rfl) ?_
      refine va_get (D := D) (ci := 0) (v := va_re ad (y2.1.2 a 2)) (C := RX0) (T := TX0) (N := 21) hx hb hts (mus hf_X0) hown hK hP a (wld_o ct ad (xt G []) y2.1 hc hk (by decide)) rfl 2 (by decide) (hts (.fieldLink RX0 29 "VideoSuite$Coder" "writer" "LVideoSuite$Writer;") (mu mw_815)) (fun _ h9 => h9) rfl dX0_endSlice_32 ?_
      refine lv_iload_n hx hb dX0_endSlice_35 rfl (lv_at hl 1 rfl) ?_
      obtain ⟨b40, ho40, hc40, hk40, hF⟩ := dr_some hF
      refine W_st (st' := [.int y2.2, .ref (ad b40)]) (by rw [va_some ho40]) ?_
      obtain ⟨y41, hy41, hF⟩ := bnd_some hF
      obtain ⟨w42, hF, ew42⟩ := app_some hF
      obtain ⟨L43, eL43, hF⟩ := ltt_some hF
      have hT43 : L9 = ([] ++ y41.1) ++ w42.1 := by rw [hT, ew42]; simp only [List.append_assoc]
      have hf9 := wA_in hD hA9 hS
      refine va_callv (va_runV (As := [.int y2.2]) (rest := []) ⟨hx, hb, hml, hown, hts⟩ (kX10_last l D ct ad Z (xt G []) y2.1 _ b40 y2.2 y41 hc40 hk40 hy41) (cwV 1 hts gX0_endSlice_X10_last rfl rfl rfl (by decide +kernel) ⟨Nat.le_of_ble_eq_true rfl, Nat.le_of_ble_eq_true rfl⟩) ⟨fun a U g mk q => by obtain ⟨q0, q1, qP, qK, qD, qZ, qN⟩ := q; exact ⟨q0, q1, qP, va_K.moved (u := U) (U := U.calling g mk a) (Vm.Alike.refl U.vm) qK, qD, sF.moved (u := U) (U := U.calling g mk a) (Vm.Alike.refl U.vm) qZ, nF.same rfl qN⟩, va_recv hK hP (ci := 10) (q0 := b40) rfl (wld_o ct ad (xt G []) y2.1 hc40 hk40 (by decide)), fun U hU hW => ⟨rfl, by rw [hU], by rw [hU]; exact hP, va_K.moved hW.alike hK, hD.weaken (fun _ _ _ _ => trivial), by rw [hU]; exact ((hZ.kept hS.2.1).narrow hf9).moved hW.alike, hN.warm hW⟩⟩ rfl rfl hl.1 rfl (lv_room (Nat.le_of_ble_eq_true rfl)) dX0_endSlice_36 (room_s hT43 hbl)) hS (fun q _ h => hf9 q h) hf9 (fun ad44 t H locs ht hvm hw hB hz1 hk1 hS => ?_)
      have hn45 := hw
      obtain ⟨hP, hK9, hD9⟩ := hB
      rw [ht] at hP
      have hD := hD9.weaken (fun _ q _ h => hf9 q.1 h)
      rw [xt_xt, ← eL43] at hP hD
      refine W_cs (k := L43.length) (n := wt L43) (by rw [eL43]; exact (len_s [] y41.1).symm) (by rw [eL43]; exact (wt_app [] y41.1).symm) ?_
      have hT : L9 = L43 ++ w42.1 := by rw [hT43, eL43]
      have h2 : y7.2 = w42.2 := by rw [h2, ew42]
      have hl := lv_sub (l' := [(3, .int y6), (2, .int y2.2), (0, .ref (ad a))]) hl [0, 1, 2] rfl
      have e9 : ([(3, .int y6), (2, .int y2.2), (0, .ref (ad a))] : List (Nat × Value)) = [(3, .int y6), (2, .int y2.2), (0, .ref (ad44 a))] := (by first | rfl | simp only [hn45 a hc])
      rw [e9] at hl
      clear e9
      have hk : (xt G L43).2.1 a = 0 := by rw [eL43]; exact xt_k _ hc hk
      have hc : a < (xt G L43).1 := by rw [eL43]; exact xt_l _ hc
      have hk3 : (xt G L43).2.1 b3 = 9 := by rw [eL43]; exact xt_k _ hc3 hk3
      have hc3 : b3 < (xt G L43).1 := by rw [eL43]; exact xt_l _ hc3
      have hk4 : (xt G L43).2.1 b4 = 13 := by rw [eL43]; exact xt_k _ hc4 hk4
      have hc4 : b4 < (xt G L43).1 := by rw [eL43]; exact xt_l _ hc4
      have hk40 : (xt G L43).2.1 b40 = 10 := by rw [eL43]; exact xt_k _ hc40 hk40
      have hc40 : b40 < (xt G L43).1 := by rw [eL43]; exact xt_l _ hc40
      have hag := agr_t (xt_ge _ _) hag hn45
      obtain rfl := Option.some.inj hF
      have e1 : L9 = L43 := by rw [hT]; exact List.append_nil _
      have e2 : y7.2 = y41.2 := h2
      rw [e1] at J7
      try rw [e2] at J7
      exact J7 _ hag _ _ _ hP hD hS (lv_sub hl [0, 1, 2] rfl)
  clear hF
  have hF := hy6
  clear hy6
  refine lv_icmp_ne (tgt := 25) hx hb dX0_endSlice_18 (by decide) (fun c46 => ?_) (fun c46 => ?_)
  · rw [if_neg c46] at hF
    refine lv_iconst (v := (0 : Int32)) hx hb dX0_endSlice_25 (by decide) ?_
    obtain rfl := Option.some.inj hF
    exact J6 _ _ _ hP hD hS (lv_sub hl [0, 1, 2] rfl)
  · rw [if_pos c46] at hF
    refine lv_iconst (v := (1 : Int32)) hx hb dX0_endSlice_21 (by decide) ?_
    refine lv_goto (tgt := 26) hx hb dX0_endSlice_22 (by decide) ?_
    obtain rfl := Option.some.inj hF
    exact J6 _ _ _ hP hD hS (lv_sub hl [0, 1, 2] rfl)
set_option maxRecDepth 20000 in
theorem gX0_useBest_X9_plan : GoodIn wuX0_useBest (wsV RX0 384 RX9 yX9_plan wuX9_plan) := gu_V mw_2511 mw_1944 mw_1945 mw_171 mw_1946
set_option maxRecDepth 20000 in
set_option maxRecDepth 20000 in
theorem gX0_useBest_X9_guess : GoodIn wuX0_useBest (wsV RX0 415 RX9 yX9_guess wuX9_guess) := gu_V mw_2518 mw_1915 mw_1916 mw_171 mw_1917
set_option maxRecDepth 20000 in
set_option maxRecDepth 20000 in
theorem gX0_useBest_X9_setReference : GoodIn wuX0_useBest (wsV RX0 393 RX9 yX9_setReference wuX9_setReference) := gu_V mw_2512 mw_1966 mw_1967 mw_171 mw_1968
set_option maxRecDepth 20000 in
set_option maxRecDepth 20000 in
theorem gX0_useBest_X0_setVector : GoodIn wuX0_useBest (wsV RX0 425 RX0 yX0_setVector wuX0_setVector) := gu_V mw_2520 mw_2522 mw_128 mw_175 mw_2523
set_option maxRecDepth 20000 in
theorem gX0_useBest_X9_direct : GoodIn wuX0_useBest (wsV RX0 372 RX9 yX9_direct wuX9_direct) := gu_V mw_2504 mw_1875 mw_1876 mw_171 mw_1877
set_option maxRecDepth 20000 in
theorem dX0_useBest_0 : decode cX0_useBest 0 = .ok (.aload_n 0, 1) := by decide +kernel
theorem dX0_useBest_1 : decode cX0_useBest 1 = .ok (.getfield 36, 3) := by decide +kernel
theorem dX0_useBest_4 : decode cX0_useBest 4 = .ok (.getfield 216, 3) := by decide +kernel
theorem dX0_useBest_7 : decode cX0_useBest 7 = .ok (.bipush 8, 2) := by decide +kernel
theorem dX0_useBest_9 : decode cX0_useBest 9 = .ok (.iload_n 1, 1) := by decide +kernel
theorem dX0_useBest_10 : decode cX0_useBest 10 = .ok (.imul, 1) := by decide +kernel
theorem dX0_useBest_11 : decode cX0_useBest 11 = .ok (.iconst 1, 1) := by decide +kernel
theorem dX0_useBest_12 : decode cX0_useBest 12 = .ok (.iadd, 1) := by decide +kernel
theorem dX0_useBest_13 : decode cX0_useBest 13 = .ok (.iload_n 3, 1) := by decide +kernel
theorem dX0_useBest_14 : decode cX0_useBest 14 = .ok (.iastore, 1) := by decide +kernel
theorem dX0_useBest_15 : decode cX0_useBest 15 = .ok (.iload_n 2, 1) := by decide +kernel
theorem dX0_useBest_16 : decode cX0_useBest 16 = .ok (.iconst 1, 1) := by decide +kernel
theorem dX0_useBest_17 : decode cX0_useBest 17 = .ok (.if_icmp .ne 19, 3) := by decide +kernel
theorem dX0_useBest_20 : decode cX0_useBest 20 = .ok (.iload_n 3, 1) := by decide +kernel
theorem dX0_useBest_21 : decode cX0_useBest 21 = .ok (.ifCond .ne 15, 3) := by decide +kernel
theorem dX0_useBest_24 : decode cX0_useBest 24 = .ok (.aload_n 0, 1) := by decide +kernel
theorem dX0_useBest_25 : decode cX0_useBest 25 = .ok (.getfield 36, 3) := by decide +kernel
theorem dX0_useBest_28 : decode cX0_useBest 28 = .ok (.iload_n 1, 1) := by decide +kernel
theorem dX0_useBest_29 : decode cX0_useBest 29 = .ok (.bipush 15, 2) := by decide +kernel
theorem dX0_useBest_31 : decode cX0_useBest 31 = .ok (.invokevirtual 372, 3) := by decide +kernel
theorem dX0_useBest_34 : decode cX0_useBest 34 = .ok (.pop, 1) := by decide +kernel
theorem dX0_useBest_35 : decode cX0_useBest 35 = .ok (.return_, 1) := by decide +kernel
theorem dX0_useBest_36 : decode cX0_useBest 36 = .ok (.aload_n 0, 1) := by decide +kernel
theorem dX0_useBest_37 : decode cX0_useBest 37 = .ok (.getfield 36, 3) := by decide +kernel
theorem dX0_useBest_40 : decode cX0_useBest 40 = .ok (.iload_n 2, 1) := by decide +kernel
theorem dX0_useBest_41 : decode cX0_useBest 41 = .ok (.iload_n 3, 1) := by decide +kernel
theorem dX0_useBest_42 : decode cX0_useBest 42 = .ok (.invokevirtual 384, 3) := by decide +kernel
theorem dX0_useBest_45 : decode cX0_useBest 45 = .ok (.iconst 0, 1) := by decide +kernel
theorem dX0_useBest_46 : decode cX0_useBest 46 = .ok (.istore 4, 2) := by decide +kernel
theorem dX0_useBest_48 : decode cX0_useBest 48 = .ok (.iload 4, 2) := by decide +kernel
theorem dX0_useBest_50 : decode cX0_useBest 50 = .ok (.iconst 2, 1) := by decide +kernel
theorem dX0_useBest_51 : decode cX0_useBest 51 = .ok (.if_icmp .ge 104, 3) := by decide +kernel
theorem dX0_useBest_54 : decode cX0_useBest 54 = .ok (.aload_n 0, 1) := by decide +kernel
theorem dX0_useBest_55 : decode cX0_useBest 55 = .ok (.getfield 36, 3) := by decide +kernel
theorem dX0_useBest_58 : decode cX0_useBest 58 = .ok (.getfield 403, 3) := by decide +kernel
theorem dX0_useBest_61 : decode cX0_useBest 61 = .ok (.iconst 3, 1) := by decide +kernel
theorem dX0_useBest_62 : decode cX0_useBest 62 = .ok (.iaload, 1) := by decide +kernel
theorem dX0_useBest_63 : decode cX0_useBest 63 = .ok (.iload 4, 2) := by decide +kernel
theorem dX0_useBest_65 : decode cX0_useBest 65 = .ok (.ishr, 1) := by decide +kernel
theorem dX0_useBest_66 : decode cX0_useBest 66 = .ok (.iconst 1, 1) := by decide +kernel
theorem dX0_useBest_67 : decode cX0_useBest 67 = .ok (.iand, 1) := by decide +kernel
theorem dX0_useBest_68 : decode cX0_useBest 68 = .ok (.iconst 1, 1) := by decide +kernel
theorem dX0_useBest_69 : decode cX0_useBest 69 = .ok (.if_icmp .ne 80, 3) := by decide +kernel
theorem dX0_useBest_72 : decode cX0_useBest 72 = .ok (.aload_n 0, 1) := by decide +kernel
theorem dX0_useBest_73 : decode cX0_useBest 73 = .ok (.getfield 36, 3) := by decide +kernel
theorem dX0_useBest_76 : decode cX0_useBest 76 = .ok (.iload_n 1, 1) := by decide +kernel
theorem dX0_useBest_77 : decode cX0_useBest 77 = .ok (.iload 4, 2) := by decide +kernel
theorem dX0_useBest_79 : decode cX0_useBest 79 = .ok (.aload_n 0, 1) := by decide +kernel
theorem dX0_useBest_80 : decode cX0_useBest 80 = .ok (.getfield 75, 3) := by decide +kernel
theorem dX0_useBest_83 : decode cX0_useBest 83 = .ok (.iconst 5, 1) := by decide +kernel
theorem dX0_useBest_84 : decode cX0_useBest 84 = .ok (.iload 4, 2) := by decide +kernel
theorem dX0_useBest_86 : decode cX0_useBest 86 = .ok (.imul, 1) := by decide +kernel
theorem dX0_useBest_87 : decode cX0_useBest 87 = .ok (.iconst 1, 1) := by decide +kernel
theorem dX0_useBest_88 : decode cX0_useBest 88 = .ok (.iadd, 1) := by decide +kernel
theorem dX0_useBest_89 : decode cX0_useBest 89 = .ok (.iaload, 1) := by decide +kernel
theorem dX0_useBest_90 : decode cX0_useBest 90 = .ok (.iconst 0, 1) := by decide +kernel
theorem dX0_useBest_91 : decode cX0_useBest 91 = .ok (.bipush 16, 2) := by decide +kernel
theorem dX0_useBest_93 : decode cX0_useBest 93 = .ok (.iconst 0, 1) := by decide +kernel
theorem dX0_useBest_94 : decode cX0_useBest 94 = .ok (.invokevirtual 415, 3) := by decide +kernel
theorem dX0_useBest_97 : decode cX0_useBest 97 = .ok (.aload_n 0, 1) := by decide +kernel
theorem dX0_useBest_98 : decode cX0_useBest 98 = .ok (.getfield 36, 3) := by decide +kernel
theorem dX0_useBest_101 : decode cX0_useBest 101 = .ok (.iload_n 1, 1) := by decide +kernel
theorem dX0_useBest_102 : decode cX0_useBest 102 = .ok (.iload 4, 2) := by decide +kernel
theorem dX0_useBest_104 : decode cX0_useBest 104 = .ok (.iconst 0, 1) := by decide +kernel
theorem dX0_useBest_105 : decode cX0_useBest 105 = .ok (.aload_n 0, 1) := by decide +kernel
theorem dX0_useBest_106 : decode cX0_useBest 106 = .ok (.getfield 75, 3) := by decide +kernel
theorem dX0_useBest_109 : decode cX0_useBest 109 = .ok (.iconst 5, 1) := by decide +kernel
theorem dX0_useBest_110 : decode cX0_useBest 110 = .ok (.iload 4, 2) := by decide +kernel
theorem dX0_useBest_112 : decode cX0_useBest 112 = .ok (.imul, 1) := by decide +kernel
theorem dX0_useBest_113 : decode cX0_useBest 113 = .ok (.iconst 1, 1) := by decide +kernel
theorem dX0_useBest_114 : decode cX0_useBest 114 = .ok (.iadd, 1) := by decide +kernel
theorem dX0_useBest_115 : decode cX0_useBest 115 = .ok (.iaload, 1) := by decide +kernel
theorem dX0_useBest_116 : decode cX0_useBest 116 = .ok (.invokevirtual 393, 3) := by decide +kernel
theorem dX0_useBest_119 : decode cX0_useBest 119 = .ok (.aload_n 0, 1) := by decide +kernel
theorem dX0_useBest_120 : decode cX0_useBest 120 = .ok (.iload_n 1, 1) := by decide +kernel
theorem dX0_useBest_121 : decode cX0_useBest 121 = .ok (.iload 4, 2) := by decide +kernel
theorem dX0_useBest_123 : decode cX0_useBest 123 = .ok (.iconst 0, 1) := by decide +kernel
theorem dX0_useBest_124 : decode cX0_useBest 124 = .ok (.aload_n 0, 1) := by decide +kernel
theorem dX0_useBest_125 : decode cX0_useBest 125 = .ok (.getfield 75, 3) := by decide +kernel
theorem dX0_useBest_128 : decode cX0_useBest 128 = .ok (.iconst 5, 1) := by decide +kernel
theorem dX0_useBest_129 : decode cX0_useBest 129 = .ok (.iload 4, 2) := by decide +kernel
theorem dX0_useBest_131 : decode cX0_useBest 131 = .ok (.imul, 1) := by decide +kernel
theorem dX0_useBest_132 : decode cX0_useBest 132 = .ok (.iconst 2, 1) := by decide +kernel
theorem dX0_useBest_133 : decode cX0_useBest 133 = .ok (.iadd, 1) := by decide +kernel
theorem dX0_useBest_134 : decode cX0_useBest 134 = .ok (.iaload, 1) := by decide +kernel
theorem dX0_useBest_135 : decode cX0_useBest 135 = .ok (.aload_n 0, 1) := by decide +kernel
theorem dX0_useBest_136 : decode cX0_useBest 136 = .ok (.getfield 75, 3) := by decide +kernel
theorem dX0_useBest_139 : decode cX0_useBest 139 = .ok (.iconst 5, 1) := by decide +kernel
theorem dX0_useBest_140 : decode cX0_useBest 140 = .ok (.iload 4, 2) := by decide +kernel
theorem dX0_useBest_142 : decode cX0_useBest 142 = .ok (.imul, 1) := by decide +kernel
theorem dX0_useBest_143 : decode cX0_useBest 143 = .ok (.iconst 3, 1) := by decide +kernel
theorem dX0_useBest_144 : decode cX0_useBest 144 = .ok (.iadd, 1) := by decide +kernel
theorem dX0_useBest_145 : decode cX0_useBest 145 = .ok (.iaload, 1) := by decide +kernel
theorem dX0_useBest_146 : decode cX0_useBest 146 = .ok (.invokevirtual 425, 3) := by decide +kernel
theorem dX0_useBest_149 : decode cX0_useBest 149 = .ok (.iinc 4 1, 3) := by decide +kernel
theorem dX0_useBest_152 : decode cX0_useBest 152 = .ok (.goto (-104), 3) := by decide +kernel
theorem dX0_useBest_155 : decode cX0_useBest 155 = .ok (.return_, 1) := by decide +kernel
def FX0_useBest (G : GG) (M : DD) (a : Nat) (p0 : Int32) (p1 : Int32) (p2 : Int32) : Option (DD) :=
  dr G 9 ((M.2 a 3)) fun b2 =>
  ltt ((((8 : Int32)) * p0)) fun x3 =>
  ltt ((x3 + ((1 : Int32)))) fun x4 =>
  dr G 13 ((M.2 b2 6)) fun b5 =>
  chk (¬ (x4 < 0 ∨ G.2.2 b5 ≤ x4.toNatClampNeg)) <|
  ltt (uI M b5 x4.toNatClampNeg p2) fun M6 =>
  if p1 = ((1 : Int32)) then (if p2 = ((0 : Int32)) then (dr G 9 ((M6.2 a 3)) fun b77 =>
  bnd (FX9_direct G M6 b77 p0 ((15 : Int32))) fun y78 =>
  some y78.1) else
  (dr G 9 ((M6.2 a 3)) fun b43 =>
  bnd (FX9_plan G M6 b43 p1 p2) fun y44 =>
  bnd (itr (fun (s46 : Int32 × DD) => ((if ((2 : Int32)) ≤ s46.1 then (some (.inr (s46.1, s46.2))) else
  (dr G 9 ((s46.2.2 a 3)) fun b50 =>
  dr G 13 ((s46.2.2 b50 13)) fun b51 =>
  chk (¬ (((3 : Int32)) < 0 ∨ G.2.2 b51 ≤ ((3 : Int32)).toNatClampNeg)) <|
  ltt (s46.2.1 b51 ((3 : Int32)).toNatClampNeg) fun x52 =>
  ltt ((x52 >>> (s46.1 &&& 31))) fun x53 =>
  ltt ((x53 &&& ((1 : Int32)))) fun x54 =>
  bnd (if x54 = ((1 : Int32)) then (ltt ((((5 : Int32)) * s46.1)) fun x58 =>
  ltt ((x58 + ((1 : Int32)))) fun x59 =>
  dr G 13 ((s46.2.2 a 20)) fun b60 =>
  chk (¬ (x59 < 0 ∨ G.2.2 b60 ≤ x59.toNatClampNeg)) <|
  ltt (s46.2.1 b60 x59.toNatClampNeg) fun x61 =>
  bnd (FX9_guess G s46.2 b50 p0 s46.1 x61 ((0 : Int32)) ((16 : Int32)) ((0 : Int32))) fun y62 =>
  ltt ((((5 : Int32)) * s46.1)) fun x63 =>
  ltt ((x63 + ((1 : Int32)))) fun x64 =>
  dr G 13 ((y62.2 a 20)) fun b65 =>
  chk (¬ (x64 < 0 ∨ G.2.2 b65 ≤ x64.toNatClampNeg)) <|
  ltt (y62.1 b65 x64.toNatClampNeg) fun x66 =>
  dr G 9 ((y62.2 a 3)) fun b67 =>
  bnd (FX9_setReference G y62 b67 p0 s46.1 ((0 : Int32)) x66) fun y68 =>
  ltt ((((5 : Int32)) * s46.1)) fun x69 =>
  ltt ((x69 + ((2 : Int32)))) fun x70 =>
  dr G 13 ((y68.2 a 20)) fun b71 =>
  chk (¬ (x70 < 0 ∨ G.2.2 b71 ≤ x70.toNatClampNeg)) <|
  ltt (y68.1 b71 x70.toNatClampNeg) fun x72 =>
  ltt ((((5 : Int32)) * s46.1)) fun x73 =>
  ltt ((x73 + ((3 : Int32)))) fun x74 =>
  chk (¬ (x74 < 0 ∨ G.2.2 b71 ≤ x74.toNatClampNeg)) <|
  ltt (y68.1 b71 x74.toNatClampNeg) fun x75 =>
  bnd (FX0_setVector G y68 a p0 s46.1 ((0 : Int32)) x72 x75) fun y76 =>
  some (y76)) else
  (some (s46.2))) fun (y55 : DD) =>
  ltt (s46.1 + (1 : Int32)) fun x56 =>
  some (.inl (x56, y55)))) : Option ((Int32 × DD) ⊕ (Int32 × DD)))) 1000000 ((0 : Int32), y44)) fun (y45 : Int32 × DD) =>
  some y45.2)) else
  (dr G 9 ((M6.2 a 3)) fun b8 =>
  bnd (FX9_plan G M6 b8 p1 p2) fun y9 =>
  bnd (itr (fun (s11 : Int32 × DD) => ((if ((2 : Int32)) ≤ s11.1 then (some (.inr (s11.1, s11.2))) else
  (dr G 9 ((s11.2.2 a 3)) fun b15 =>
  dr G 13 ((s11.2.2 b15 13)) fun b16 =>
  chk (¬ (((3 : Int32)) < 0 ∨ G.2.2 b16 ≤ ((3 : Int32)).toNatClampNeg)) <|
  ltt (s11.2.1 b16 ((3 : Int32)).toNatClampNeg) fun x17 =>
  ltt ((x17 >>> (s11.1 &&& 31))) fun x18 =>
  ltt ((x18 &&& ((1 : Int32)))) fun x19 =>
  bnd (if x19 = ((1 : Int32)) then (ltt ((((5 : Int32)) * s11.1)) fun x23 =>
  ltt ((x23 + ((1 : Int32)))) fun x24 =>
  dr G 13 ((s11.2.2 a 20)) fun b25 =>
  chk (¬ (x24 < 0 ∨ G.2.2 b25 ≤ x24.toNatClampNeg)) <|
  ltt (s11.2.1 b25 x24.toNatClampNeg) fun x26 =>
  bnd (FX9_guess G s11.2 b15 p0 s11.1 x26 ((0 : Int32)) ((16 : Int32)) ((0 : Int32))) fun y27 =>
  ltt ((((5 : Int32)) * s11.1)) fun x28 =>
  ltt ((x28 + ((1 : Int32)))) fun x29 =>
  dr G 13 ((y27.2 a 20)) fun b30 =>
  chk (¬ (x29 < 0 ∨ G.2.2 b30 ≤ x29.toNatClampNeg)) <|
  ltt (y27.1 b30 x29.toNatClampNeg) fun x31 =>
  dr G 9 ((y27.2 a 3)) fun b32 =>
  bnd (FX9_setReference G y27 b32 p0 s11.1 ((0 : Int32)) x31) fun y33 =>
  ltt ((((5 : Int32)) * s11.1)) fun x34 =>
  ltt ((x34 + ((2 : Int32)))) fun x35 =>
  dr G 13 ((y33.2 a 20)) fun b36 =>
  chk (¬ (x35 < 0 ∨ G.2.2 b36 ≤ x35.toNatClampNeg)) <|
  ltt (y33.1 b36 x35.toNatClampNeg) fun x37 =>
  ltt ((((5 : Int32)) * s11.1)) fun x38 =>
  ltt ((x38 + ((3 : Int32)))) fun x39 =>
  chk (¬ (x39 < 0 ∨ G.2.2 b36 ≤ x39.toNatClampNeg)) <|
  ltt (y33.1 b36 x39.toNatClampNeg) fun x40 =>
  bnd (FX0_setVector G y33 a p0 s11.1 ((0 : Int32)) x37 x40) fun y41 =>
  some (y41)) else
  (some (s11.2))) fun (y20 : DD) =>
  ltt (s11.1 + (1 : Int32)) fun x21 =>
  some (.inl (x21, y20)))) : Option ((Int32 × DD) ⊕ (Int32 × DD)))) 1000000 ((0 : Int32), y9)) fun (y10 : Int32 × DD) =>
  some y10.2)
set_option maxHeartbeats 4000000 in
set_option maxRecDepth 100000 in
theorem kX0_useBest (l : Launch) (D : va_G) (ct : CT) (ad : Nat → Nat) (Z : Nat → Nat) (G : GG) (M : DD) (sz : Nat) (a : Nat) (p0 : Int32) (p1 : Int32) (p2 : Int32) (y : DD) (hc : a < G.1) (hk : G.2.1 a = 0) (hF : FX0_useBest G M a p0 p1 p2 = some y) : Met l yX0_useBest wuX0_useBest ({ frames := 4, cells := 0, slots := 0, locals := 109 }) (va_Pc [.ref (ad a), .int p0, .int p1, .int p2] (kB D ct ad Z G M sz)) (va_Qv (fun (_ : Unit) => True) (fun _ t => kE D ct ad G (wA ad G sz) y t) (wA ad G sz)) 0 0 (wA ad G sz) := by
  refine Met.ofW (cc := cX0_useBest) (maxL := 5) (ret := none) (by decide) rfl ?_
  intro p e s m args below meth c s₁ B hml hv
  obtain ⟨rfl, hsz, hP, hK, hD0, hZ, hN⟩ := hv
  have hx := B.exec
  have hb := B.bytes
  have hr := B.returns
  have hts := atoms_spec (ws := wuX0_useBest) B.pre
  have hown : s.vm.findClass RX0 = some m.cls := findClass_of_methodNamed B.named
  have hlocks := B.notSynchronized
  subst hsz
  have hD := wD_self (sz := s.heap.size) hD0
  have hA9 : ∀ q, s.heap.size ≤ q → wA ad G s.heap.size q := fun q h => Or.inr h
  generalize hAe : wA ad G s.heap.size = A at hD hA9 hZ ⊢
  have hS : va_S A s.heap s.heap [] := va_S.rf
  have hl := lv_entry ([.ref (ad a), .int p0, .int p1, .int p2]) (n := 5) (Nat.le_of_ble_eq_true rfl)
  rw [lg_entry_eq]
  generalize (lg_sl ([.ref (ad a), .int p0, .int p1, .int p2]) ++ List.replicate (5 - (lg_sl ([.ref (ad a), .int p0, .int p1, .int p2])).length) Slot.unset).toArray = ls at hl ⊢
  have hl : lv_has ls 5 [(0, .ref (ad a)), (1, .int p0), (2, .int p1), (3, .int p2)] := hl
  unfold FX0_useBest at hF
  refine lv_aload_n hx hb dX0_useBest_0 rfl (lv_at hl 0 rfl) ?_
  refine va_get (D := D) (ci := 0) (v := va_re ad (M.2 a 3)) (C := RX0) (T := TX0) (N := 21) hx hb hts (mus hf_X0) hown hK hP a (wld_o ct ad G M hc hk (by decide)) rfl 3 (by decide) (hts (.fieldLink RX0 36 "VideoSuite$Coder" "work" "LVideoSuite$Work;") (mu mw_817)) (fun _ h9 => h9) rfl dX0_useBest_1 ?_
  obtain ⟨b2, ho2, hc2, hk2, hF⟩ := dr_some hF
  refine W_st (st' := [.ref (ad b2)]) (by rw [va_some ho2]) ?_
  refine va_get (D := D) (ci := 9) (v := va_re ad (M.2 b2 6)) (C := RX9) (T := TX9) (N := 20) hx hb hts (mus hf_X9) hown hK hP b2 (wld_o ct ad G M hc2 hk2 (by decide)) rfl 6 (by decide) (hts (.fieldLink RX0 216 "VideoSuite$Work" "info" "[I") (mu mw_445)) (fun _ h9 => h9) rfl dX0_useBest_4 ?_
  refine lv_bipush (v := (8 : Int32)) hx hb dX0_useBest_7 (by decide) ?_
  refine lv_iload_n hx hb dX0_useBest_9 rfl (lv_at hl 1 rfl) ?_
  refine lv_imul hx hb dX0_useBest_10 ?_
  obtain ⟨x3, ex3, hF⟩ := ltt_some hF
  refine lv_topi (fun zx3 ezx3 => ?_)
  obtain rfl : x3 = zx3 := ex3.trans ezx3.symm
  refine lv_iconst (v := (1 : Int32)) hx hb dX0_useBest_11 (by decide) ?_
  refine lv_iadd hx hb dX0_useBest_12 ?_
  obtain ⟨x4, ex4, hF⟩ := ltt_some hF
  refine lv_topi (fun zx4 ezx4 => ?_)
  obtain rfl : x4 = zx4 := ex4.trans ezx4.symm
  refine lv_iload_n hx hb dX0_useBest_13 rfl (lv_at hl 3 rfl) ?_
  obtain ⟨b5, ho5, hc5, hk5, hF⟩ := dr_some hF
  refine W_st (st' := [.int p2, .int x4, .ref (ad b5)]) (by rw [va_some ho5]) ?_
  obtain ⟨hvc, hF⟩ := chk_some hF
  refine va_iast hx hb hK hP hD hS b5 1 (wld_i ct ad G M hc5 hk5) rfl hvc dX0_useBest_14 (fun H locs hP hD hS => ?_)
  obtain ⟨M6, eM6, hF⟩ := ltt_some hF
  rw [set_i ct ad G M hc5 hk5, ← eM6] at hP hD
  refine lv_iload_n hx hb dX0_useBest_15 rfl (lv_at hl 2 rfl) ?_
  refine lv_iconst (v := (1 : Int32)) hx hb dX0_useBest_16 (by decide) ?_
  refine lv_icmp_ne (tgt := 36) hx hb dX0_useBest_17 (by decide) (fun c7 => ?_) (fun c7 => ?_)
  · rw [if_neg c7] at hF
    refine lv_aload_n hx hb dX0_useBest_36 rfl (lv_at hl 0 rfl) ?_
    refine va_get (D := D) (ci := 0) (v := va_re ad (M6.2 a 3)) (C := RX0) (T := TX0) (N := 21) hx hb hts (mus hf_X0) hown hK hP a (wld_o ct ad G M6 hc hk (by decide)) rfl 3 (by decide) (hts (.fieldLink RX0 36 "VideoSuite$Coder" "work" "LVideoSuite$Work;") (mu mw_817)) (fun _ h9 => h9) rfl dX0_useBest_37 ?_
    refine lv_iload_n hx hb dX0_useBest_40 rfl (lv_at hl 2 rfl) ?_
    refine lv_iload_n hx hb dX0_useBest_41 rfl (lv_at hl 3 rfl) ?_
    obtain ⟨b8, ho8, hc8, hk8, hF⟩ := dr_some hF
    refine W_st (st' := [.int p2, .int p1, .ref (ad b8)]) (by rw [va_some ho8]) ?_
    obtain ⟨y9, hy9, hF⟩ := bnd_some hF
    have hf9 := wA_in hD hA9 hS
    refine va_callv (va_runV (As := [.int p1, .int p2]) (rest := []) ⟨hx, hb, hml, hown, hts⟩ (kX9_plan l D ct ad Z G M6 H.size b8 p1 p2 y9 hc8 hk8 hy9) (cwV 2 hts gX0_useBest_X9_plan rfl rfl rfl (by decide +kernel) ⟨Nat.le_of_ble_eq_true rfl, Nat.le_of_ble_eq_true rfl⟩) ⟨fun a U g mk q => by obtain ⟨q0, q1, qP, qK, qD, qZ, qN⟩ := q; exact ⟨q0, q1, qP, va_K.moved (u := U) (U := U.calling g mk a) (Vm.Alike.refl U.vm) qK, qD, sF.moved (u := U) (U := U.calling g mk a) (Vm.Alike.refl U.vm) qZ, nF.same rfl qN⟩, va_recv hK hP (ci := 9) (q0 := b8) rfl (wld_o ct ad G M6 hc8 hk8 (by decide)), fun U hU hW => ⟨rfl, by rw [hU], by rw [hU]; exact hP, va_K.moved hW.alike hK, hD.weaken (fun _ _ _ _ => trivial), by rw [hU]; exact ((hZ.kept hS.2.1).narrow hf9).moved hW.alike, hN.warm hW⟩⟩ rfl rfl hl.1 rfl (lv_room (Nat.le_of_ble_eq_true rfl)) dX0_useBest_42 ⟨(Nat.zero_le _), (Nat.zero_le _)⟩) hS (fun q _ h => hf9 q h) hf9 (fun u t H locs ht hvm hw hB hz1 hk1 hS => ?_)
    obtain ⟨hP, hK9, hD9⟩ := hB
    rw [ht] at hP
    have hD := hD9.weaken (fun _ q _ h => hf9 q.1 h)
    refine lv_iconst (v := (0 : Int32)) hx hb dX0_useBest_45 (by decide) ?_
    refine lv_istore (lv' := [(4, .int (0 : Int32)), (0, .ref (ad a)), (1, .int p0), (2, .int p1), (3, .int p2)]) hx hb dX0_useBest_46 hl (by decide) rfl (fun ls hl => ?_)
    obtain ⟨y10, hy10, hF⟩ := bnd_some hF
    have K10 : ∀ (H : Heap) (locs : List Loc) (ls : Array Slot), va_P D classes (wld ct ad G y10.2) H → va_D A (wld ct ad G y10.2) → va_S A s.heap H locs → lv_has ls 5 [(4, .int y10.1), (0, .ref (ad a)), (1, .int p0), (2, .int p1), (3, .int p2)] → W p l e (headSpec wuX0_useBest ({ frames := 4, cells := 0, slots := 0, locals := 109 })).room s m ([.ref (ad a), .int p0, .int p1, .int p2] : List Value).toArray below meth c H locs 0 0 (MQ below (va_Qv (fun (_ : Unit) => True) (fun _ t => kE D ct ad G A y t) A) ([.ref (ad a), .int p0, .int p1, .int p2] : List Value).toArray s 0 0 A) (F0 m 155 ls []) := by
      intro H locs ls hP hD hS hl
      obtain rfl := Option.some.inj hF
      exact W.vret hx hb hr (fun t ht hW => ⟨⟨(), rfl, trivial, ⟨by rw [ht]; exact hP, va_K.moved hW.alike hK, hD⟩⟩, hS.F ht⟩) hS.2.2 dX0_useBest_155
    clear hF
    refine itr_rule (fun (s11 : Int32 × DD) => ∀ (H : Heap) (locs : List Loc) (ls : Array Slot), va_P D classes (wld ct ad G s11.2) H → va_D A (wld ct ad G s11.2) → va_S A s.heap H locs → lv_has ls 5 [(4, .int s11.1), (0, .ref (ad a)), (1, .int p0), (2, .int p1), (3, .int p2)] → W p l e (headSpec wuX0_useBest ({ frames := 4, cells := 0, slots := 0, locals := 109 })).room s m ([.ref (ad a), .int p0, .int p1, .int p2] : List Value).toArray below meth c H locs 0 0 (MQ below (va_Qv (fun (_ : Unit) => True) (fun _ t => kE D ct ad G A y t) A) ([.ref (ad a), .int p0, .int p1, .int p2] : List Value).toArray s 0 0 A) (F0 m 48 ls [])) ?_ _ _ hy10 _ _ _ hP hD hS (lv_sub hl [0, 1, 2, 3, 4] rfl)
    rintro s11 ⟨z13, hF, hwz13⟩ H locs ls hP hD hS hl
    try dsimp only at hF
    refine lv_iload hx hb dX0_useBest_48 (lv_at hl 0 rfl) ?_
    refine lv_iconst (v := (2 : Int32)) hx hb dX0_useBest_50 (by decide) ?_
    refine lv_icmp_ge (tgt := 155) hx hb dX0_useBest_51 (by decide) (fun c14 => ?_) (fun c14 => ?_)
    · rw [if_pos c14] at hF
      obtain rfl := Option.some.inj hF
      subst hwz13
      exact K10 _ _ _ hP hD hS (lv_sub hl [0, 1, 2, 3, 4] rfl)
    · rw [if_neg c14] at hF
      refine lv_aload_n hx hb dX0_useBest_54 rfl (lv_at hl 1 rfl) ?_
      refine va_get (D := D) (ci := 0) (v := va_re ad (s11.2.2 a 3)) (C := RX0) (T := TX0) (N := 21) hx hb hts (mus hf_X0) hown hK hP a (wld_o ct ad G s11.2 hc hk (by decide)) rfl 3 (by decide) (hts (.fieldLink RX0 36 "VideoSuite$Coder" "work" "LVideoSuite$Work;") (mu mw_817)) (fun _ h9 => h9) rfl dX0_useBest_55 ?_
      obtain ⟨b15, ho15, hc15, hk15, hF⟩ := dr_some hF
      refine W_st (st' := [.ref (ad b15)]) (by rw [va_some ho15]) ?_
      refine va_get (D := D) (ci := 9) (v := va_re ad (s11.2.2 b15 13)) (C := RX9) (T := TX9) (N := 20) hx hb hts (mus hf_X9) hown hK hP b15 (wld_o ct ad G s11.2 hc15 hk15 (by decide)) rfl 13 (by decide) (hts (.fieldLink RX0 403 "VideoSuite$Work" "part" "[I") (mu mw_468)) (fun _ h9 => h9) rfl dX0_useBest_58 ?_
      refine lv_iconst (v := (3 : Int32)) hx hb dX0_useBest_61 (by decide) ?_
      obtain ⟨b16, ho16, hc16, hk16, hF⟩ := dr_some hF
      refine W_st (st' := [.int (3 : Int32), .ref (ad b16)]) (by rw [va_some ho16]) ?_
      obtain ⟨hvc, hF⟩ := chk_some hF
      refine va_iald hx hb hK hP b16 1 (wld_i ct ad G s11.2 hc16 hk16) rfl hvc dX0_useBest_62 ?_
      obtain ⟨x17, ex17, hF⟩ := ltt_some hF
      refine lv_topi (fun zx17 ezx17 => ?_)
      obtain rfl : x17 = zx17 := ex17.trans ezx17.symm
      refine lv_iload hx hb dX0_useBest_63 (lv_at hl 0 rfl) ?_
      refine lv_ishr hx hb dX0_useBest_65 ?_
      obtain ⟨x18, ex18, hF⟩ := ltt_some hF
      refine lv_topi (fun zx18 ezx18 => ?_)
      obtain rfl : x18 = zx18 := ex18.trans ezx18.symm
      refine lv_iconst (v := (1 : Int32)) hx hb dX0_useBest_66 (by decide) ?_
      refine lv_iand hx hb dX0_useBest_67 ?_
      obtain ⟨x19, ex19, hF⟩ := ltt_some hF
      refine lv_topi (fun zx19 ezx19 => ?_)
      obtain rfl : x19 = zx19 := ex19.trans ezx19.symm
      refine lv_iconst (v := (1 : Int32)) hx hb dX0_useBest_68 (by decide) ?_
      obtain ⟨y20, hy20, hF⟩ := bnd_some hF
      have J20 : ∀ (H : Heap) (locs : List Loc) (ls : Array Slot), va_P D classes (wld ct ad G y20) H → va_D A (wld ct ad G y20) → va_S A s.heap H locs → lv_has ls 5 [(4, .int s11.1), (0, .ref (ad a)), (1, .int p0), (2, .int p1), (3, .int p2)] → W p l e (headSpec wuX0_useBest ({ frames := 4, cells := 0, slots := 0, locals := 109 })).room s m ([.ref (ad a), .int p0, .int p1, .int p2] : List Value).toArray below meth c H locs 0 0 (MQ below (va_Qv (fun (_ : Unit) => True) (fun _ t => kE D ct ad G A y t) A) ([.ref (ad a), .int p0, .int p1, .int p2] : List Value).toArray s 0 0 A) (F0 m 149 ls []) := by
        intro H locs ls hP hD hS hl
        obtain ⟨x21, ex21, hF⟩ := ltt_some hF
        refine lv_iinc (v := x21) (lv' := [(4, .int x21), (0, .ref (ad a)), (1, .int p0), (2, .int p1), (3, .int p2)]) hx hb dX0_useBest_149 hl (k := 0) rfl (by rw [ex21]; rfl) (by decide) rfl (fun ls hl => ?_)
        refine lv_goto (tgt := 48) hx hb dX0_useBest_152 (by decide) ?_
        obtain rfl := Option.some.inj hF
        exact hwz13 _ _ _ hP hD hS (lv_sub hl [0, 1, 2, 3, 4] rfl)
      clear hF
      have hF := hy20
      clear hy20
      refine lv_icmp_ne (tgt := 149) hx hb dX0_useBest_69 (by decide) (fun c22 => ?_) (fun c22 => ?_)
      · rw [if_neg c22] at hF
        obtain rfl := Option.some.inj hF
        exact J20 _ _ _ hP hD hS (lv_sub hl [0, 1, 2, 3, 4] rfl)
      · rw [if_pos c22] at hF
        refine lv_aload_n hx hb dX0_useBest_72 rfl (lv_at hl 1 rfl) ?_
        refine va_get (D := D) (ci := 0) (v := va_re ad (s11.2.2 a 3)) (C := RX0) (T := TX0) (N := 21) hx hb hts (mus hf_X0) hown hK hP a (wld_o ct ad G s11.2 hc hk (by decide)) rfl 3 (by decide) (hts (.fieldLink RX0 36 "VideoSuite$Coder" "work" "LVideoSuite$Work;") (mu mw_817)) (fun _ h9 => h9) rfl dX0_useBest_73 ?_
        refine lv_iload_n hx hb dX0_useBest_76 rfl (lv_at hl 2 rfl) ?_
        refine lv_iload hx hb dX0_useBest_77 (lv_at hl 0 rfl) ?_
        refine lv_aload_n hx hb dX0_useBest_79 rfl (lv_at hl 1 rfl) ?_
        refine va_get (D := D) (ci := 0) (v := va_re ad (s11.2.2 a 20)) (C := RX0) (T := TX0) (N := 21) hx hb hts (mus hf_X0) hown hK hP a (wld_o ct ad G s11.2 hc hk (by decide)) rfl 20 (by decide) (hts (.fieldLink RX0 75 "VideoSuite$Coder" "choice" "[I") (mu mw_838)) (fun _ h9 => h9) rfl dX0_useBest_80 ?_
        refine lv_iconst (v := (5 : Int32)) hx hb dX0_useBest_83 (by decide) ?_
        refine lv_iload hx hb dX0_useBest_84 (lv_at hl 0 rfl) ?_
        refine lv_imul hx hb dX0_useBest_86 ?_
        obtain ⟨x23, ex23, hF⟩ := ltt_some hF
        refine lv_topi (fun zx23 ezx23 => ?_)
        obtain rfl : x23 = zx23 := ex23.trans ezx23.symm
        refine lv_iconst (v := (1 : Int32)) hx hb dX0_useBest_87 (by decide) ?_
        refine lv_iadd hx hb dX0_useBest_88 ?_
        obtain ⟨x24, ex24, hF⟩ := ltt_some hF
        refine lv_topi (fun zx24 ezx24 => ?_)
        obtain rfl : x24 = zx24 := ex24.trans ezx24.symm
        obtain ⟨b25, ho25, hc25, hk25, hF⟩ := dr_some hF
        refine W_st (st' := [.int x24, .ref (ad b25), .int s11.1, .int p0, va_re ad (s11.2.2 a 3)]) (by rw [va_some ho25]) ?_
        obtain ⟨hvc, hF⟩ := chk_some hF
        refine va_iald hx hb hK hP b25 1 (wld_i ct ad G s11.2 hc25 hk25) rfl hvc dX0_useBest_89 ?_
        obtain ⟨x26, ex26, hF⟩ := ltt_some hF
        refine lv_topi (fun zx26 ezx26 => ?_)
        obtain rfl : x26 = zx26 := ex26.trans ezx26.symm
        refine lv_iconst (v := (0 : Int32)) hx hb dX0_useBest_90 (by decide) ?_
        refine lv_bipush (v := (16 : Int32)) hx hb dX0_useBest_91 (by decide) ?_
        refine lv_iconst (v := (0 : Int32)) hx hb dX0_useBest_93 (by decide) ?_
        refine W_st (st' := [.int (0 : Int32), .int (16 : Int32), .int (0 : Int32), .int x26, .int s11.1, .int p0, .ref (ad b15)]) (by rw [va_some ho15]) ?_
        obtain ⟨y27, hy27, hF⟩ := bnd_some hF
        have hf9 := wA_in hD hA9 hS
        refine va_callv (va_runV (As := [.int p0, .int s11.1, .int x26, .int (0 : Int32), .int (16 : Int32), .int (0 : Int32)]) (rest := []) ⟨hx, hb, hml, hown, hts⟩ (kX9_guess l D ct ad Z G s11.2 H.size b15 p0 s11.1 x26 ((0 : Int32)) ((16 : Int32)) ((0 : Int32)) y27 hc15 hk15 hy27) (cwV 6 hts gX0_useBest_X9_guess rfl rfl rfl (by decide +kernel) ⟨Nat.le_of_ble_eq_true rfl, Nat.le_of_ble_eq_true rfl⟩) ⟨fun a U g mk q => by obtain ⟨q0, q1, qP, qK, qD, qZ, qN⟩ := q; exact ⟨q0, q1, qP, va_K.moved (u := U) (U := U.calling g mk a) (Vm.Alike.refl U.vm) qK, qD, sF.moved (u := U) (U := U.calling g mk a) (Vm.Alike.refl U.vm) qZ, nF.same rfl qN⟩, va_recv hK hP (ci := 9) (q0 := b15) rfl (wld_o ct ad G s11.2 hc15 hk15 (by decide)), fun U hU hW => ⟨rfl, by rw [hU], by rw [hU]; exact hP, va_K.moved hW.alike hK, hD.weaken (fun _ _ _ _ => trivial), by rw [hU]; exact ((hZ.kept hS.2.1).narrow hf9).moved hW.alike, hN.warm hW⟩⟩ rfl rfl hl.1 rfl (lv_room (Nat.le_of_ble_eq_true rfl)) dX0_useBest_94 ⟨(Nat.zero_le _), (Nat.zero_le _)⟩) hS (fun q _ h => hf9 q h) hf9 (fun u t H locs ht hvm hw hB hz1 hk1 hS => ?_)
        obtain ⟨hP, hK9, hD9⟩ := hB
        rw [ht] at hP
        have hD := hD9.weaken (fun _ q _ h => hf9 q.1 h)
        refine lv_aload_n hx hb dX0_useBest_97 rfl (lv_at hl 1 rfl) ?_
        refine va_get (D := D) (ci := 0) (v := va_re ad (y27.2 a 3)) (C := RX0) (T := TX0) (N := 21) hx hb hts (mus hf_X0) hown hK hP a (wld_o ct ad G y27 hc hk (by decide)) rfl 3 (by decide) (hts (.fieldLink RX0 36 "VideoSuite$Coder" "work" "LVideoSuite$Work;") (mu mw_817)) (fun _ h9 => h9) rfl dX0_useBest_98 ?_
        refine lv_iload_n hx hb dX0_useBest_101 rfl (lv_at hl 2 rfl) ?_
        refine lv_iload hx hb dX0_useBest_102 (lv_at hl 0 rfl) ?_
        refine lv_iconst (v := (0 : Int32)) hx hb dX0_useBest_104 (by decide) ?_
        refine lv_aload_n hx hb dX0_useBest_105 rfl (lv_at hl 1 rfl) ?_
        refine va_get (D := D) (ci := 0) (v := va_re ad (y27.2 a 20)) (C := RX0) (T := TX0) (N := 21) hx hb hts (mus hf_X0) hown hK hP a (wld_o ct ad G y27 hc hk (by decide)) rfl 20 (by decide) (hts (.fieldLink RX0 75 "VideoSuite$Coder" "choice" "[I") (mu mw_838)) (fun _ h9 => h9) rfl dX0_useBest_106 ?_
        refine lv_iconst (v := (5 : Int32)) hx hb dX0_useBest_109 (by decide) ?_
        refine lv_iload hx hb dX0_useBest_110 (lv_at hl 0 rfl) ?_
        refine lv_imul hx hb dX0_useBest_112 ?_
        obtain ⟨x28, ex28, hF⟩ := ltt_some hF
        refine lv_topi (fun zx28 ezx28 => ?_)
        obtain rfl : x28 = zx28 := ex28.trans ezx28.symm
        refine lv_iconst (v := (1 : Int32)) hx hb dX0_useBest_113 (by decide) ?_
        refine lv_iadd hx hb dX0_useBest_114 ?_
        obtain ⟨x29, ex29, hF⟩ := ltt_some hF
        refine lv_topi (fun zx29 ezx29 => ?_)
        obtain rfl : x29 = zx29 := ex29.trans ezx29.symm
        obtain ⟨b30, ho30, hc30, hk30, hF⟩ := dr_some hF
        refine W_st (st' := [.int x29, .ref (ad b30), .int (0 : Int32), .int s11.1, .int p0, va_re ad (y27.2 a 3)]) (by rw [va_some ho30]) ?_
        obtain ⟨hvc, hF⟩ := chk_some hF
        refine va_iald hx hb hK hP b30 1 (wld_i ct ad G y27 hc30 hk30) rfl hvc dX0_useBest_115 ?_
        obtain ⟨x31, ex31, hF⟩ := ltt_some hF
        refine lv_topi (fun zx31 ezx31 => ?_)
        obtain rfl : x31 = zx31 := ex31.trans ezx31.symm
        obtain ⟨b32, ho32, hc32, hk32, hF⟩ := dr_some hF
        refine W_st (st' := [.int x31, .int (0 : Int32), .int s11.1, .int p0, .ref (ad b32)]) (by rw [va_some ho32]) ?_
        obtain ⟨y33, hy33, hF⟩ := bnd_some hF
        have hf9 := wA_in hD hA9 hS
        refine va_callv (va_runV (As := [.int p0, .int s11.1, .int (0 : Int32), .int x31]) (rest := []) ⟨hx, hb, hml, hown, hts⟩ (kX9_setReference l D ct ad Z G y27 H.size b32 p0 s11.1 ((0 : Int32)) x31 y33 hc32 hk32 hy33) (cwV 4 hts gX0_useBest_X9_setReference rfl rfl rfl (by decide +kernel) ⟨Nat.le_of_ble_eq_true rfl, Nat.le_of_ble_eq_true rfl⟩) ⟨fun a U g mk q => by obtain ⟨q0, q1, qP, qK, qD, qZ, qN⟩ := q; exact ⟨q0, q1, qP, va_K.moved (u := U) (U := U.calling g mk a) (Vm.Alike.refl U.vm) qK, qD, sF.moved (u := U) (U := U.calling g mk a) (Vm.Alike.refl U.vm) qZ, nF.same rfl qN⟩, va_recv hK hP (ci := 9) (q0 := b32) rfl (wld_o ct ad G y27 hc32 hk32 (by decide)), fun U hU hW => ⟨rfl, by rw [hU], by rw [hU]; exact hP, va_K.moved hW.alike hK, hD.weaken (fun _ _ _ _ => trivial), by rw [hU]; exact ((hZ.kept hS.2.1).narrow hf9).moved hW.alike, hN.warm hW⟩⟩ rfl rfl hl.1 rfl (lv_room (Nat.le_of_ble_eq_true rfl)) dX0_useBest_116 ⟨(Nat.zero_le _), (Nat.zero_le _)⟩) hS (fun q _ h => hf9 q h) hf9 (fun u t H locs ht hvm hw hB hz1 hk1 hS => ?_)
        obtain ⟨hP, hK9, hD9⟩ := hB
        rw [ht] at hP
        have hD := hD9.weaken (fun _ q _ h => hf9 q.1 h)
        refine lv_aload_n hx hb dX0_useBest_119 rfl (lv_at hl 1 rfl) ?_
        refine lv_iload_n hx hb dX0_useBest_120 rfl (lv_at hl 2 rfl) ?_
        refine lv_iload hx hb dX0_useBest_121 (lv_at hl 0 rfl) ?_
        refine lv_iconst (v := (0 : Int32)) hx hb dX0_useBest_123 (by decide) ?_
        refine lv_aload_n hx hb dX0_useBest_124 rfl (lv_at hl 1 rfl) ?_
        refine va_get (D := D) (ci := 0) (v := va_re ad (y33.2 a 20)) (C := RX0) (T := TX0) (N := 21) hx hb hts (mus hf_X0) hown hK hP a (wld_o ct ad G y33 hc hk (by decide)) rfl 20 (by decide) (hts (.fieldLink RX0 75 "VideoSuite$Coder" "choice" "[I") (mu mw_838)) (fun _ h9 => h9) rfl dX0_useBest_125 ?_
        refine lv_iconst (v := (5 : Int32)) hx hb dX0_useBest_128 (by decide) ?_
        refine lv_iload hx hb dX0_useBest_129 (lv_at hl 0 rfl) ?_
        refine lv_imul hx hb dX0_useBest_131 ?_
        obtain ⟨x34, ex34, hF⟩ := ltt_some hF
        refine lv_topi (fun zx34 ezx34 => ?_)
        obtain rfl : x34 = zx34 := ex34.trans ezx34.symm
        refine lv_iconst (v := (2 : Int32)) hx hb dX0_useBest_132 (by decide) ?_
        refine lv_iadd hx hb dX0_useBest_133 ?_
        obtain ⟨x35, ex35, hF⟩ := ltt_some hF
        refine lv_topi (fun zx35 ezx35 => ?_)
        obtain rfl : x35 = zx35 := ex35.trans ezx35.symm
        obtain ⟨b36, ho36, hc36, hk36, hF⟩ := dr_some hF
        refine W_st (st' := [.int x35, .ref (ad b36), .int (0 : Int32), .int s11.1, .int p0, .ref (ad a)]) (by rw [va_some ho36]) ?_
        obtain ⟨hvc, hF⟩ := chk_some hF
        refine va_iald hx hb hK hP b36 1 (wld_i ct ad G y33 hc36 hk36) rfl hvc dX0_useBest_134 ?_
        obtain ⟨x37, ex37, hF⟩ := ltt_some hF
        refine lv_topi (fun zx37 ezx37 => ?_)
        obtain rfl : x37 = zx37 := ex37.trans ezx37.symm
        refine lv_aload_n hx hb dX0_useBest_135 rfl (lv_at hl 1 rfl) ?_
        refine va_get (D := D) (ci := 0) (v := va_re ad (y33.2 a 20)) (C := RX0) (T := TX0) (N := 21) hx hb hts (mus hf_X0) hown hK hP a (wld_o ct ad G y33 hc hk (by decide)) rfl 20 (by decide) (hts (.fieldLink RX0 75 "VideoSuite$Coder" "choice" "[I") (mu mw_838)) (fun _ h9 => h9) rfl dX0_useBest_136 ?_
        refine lv_iconst (v := (5 : Int32)) hx hb dX0_useBest_139 (by decide) ?_
        refine lv_iload hx hb dX0_useBest_140 (lv_at hl 0 rfl) ?_
        refine lv_imul hx hb dX0_useBest_142 ?_
        obtain ⟨x38, ex38, hF⟩ := ltt_some hF
        refine lv_topi (fun zx38 ezx38 => ?_)
        obtain rfl : x38 = zx38 := ex38.trans ezx38.symm
        refine lv_iconst (v := (3 : Int32)) hx hb dX0_useBest_143 (by decide) ?_
        refine lv_iadd hx hb dX0_useBest_144 ?_
        obtain ⟨x39, ex39, hF⟩ := ltt_some hF
        refine lv_topi (fun zx39 ezx39 => ?_)
        obtain rfl : x39 = zx39 := ex39.trans ezx39.symm
        refine W_st (st' := [.int x39, .ref (ad b36), .int x37, .int (0 : Int32), .int s11.1, .int p0, .ref (ad a)]) (by rw [va_some ho36]) ?_
        obtain ⟨hvc, hF⟩ := chk_some hF
        refine va_iald hx hb hK hP b36 1 (wld_i ct ad G y33 hc36 hk36) rfl hvc dX0_useBest_145 ?_
        obtain ⟨x40, ex40, hF⟩ := ltt_some hF
        refine lv_topi (fun zx40 ezx40 => ?_)
        obtain rfl : x40 = zx40 := ex40.trans ezx40.symm
        obtain ⟨y41, hy41, hF⟩ := bnd_some hF
        have hf9 := wA_in hD hA9 hS
        refine va_callv (va_runV (As := [.int p0, .int s11.1, .int (0 : Int32), .int x37, .int x40]) (rest := []) ⟨hx, hb, hml, hown, hts⟩ (kX0_setVector l D ct ad Z G y33 H.size a p0 s11.1 ((0 : Int32)) x37 x40 y41 hc hk hy41) (cwV 5 hts gX0_useBest_X0_setVector rfl rfl rfl (by decide +kernel) ⟨Nat.le_of_ble_eq_true rfl, Nat.le_of_ble_eq_true rfl⟩) ⟨fun a U g mk q => by obtain ⟨q0, q1, qP, qK, qD, qZ, qN⟩ := q; exact ⟨q0, q1, qP, va_K.moved (u := U) (U := U.calling g mk a) (Vm.Alike.refl U.vm) qK, qD, sF.moved (u := U) (U := U.calling g mk a) (Vm.Alike.refl U.vm) qZ, nF.same rfl qN⟩, va_recv hK hP (ci := 0) (q0 := a) rfl (wld_o ct ad G y33 hc hk (by decide)), fun U hU hW => ⟨rfl, by rw [hU], by rw [hU]; exact hP, va_K.moved hW.alike hK, hD.weaken (fun _ _ _ _ => trivial), by rw [hU]; exact ((hZ.kept hS.2.1).narrow hf9).moved hW.alike, hN.warm hW⟩⟩ rfl rfl hl.1 rfl (lv_room (Nat.le_of_ble_eq_true rfl)) dX0_useBest_146 ⟨(Nat.zero_le _), (Nat.zero_le _)⟩) hS (fun q _ h => hf9 q h) hf9 (fun u t H locs ht hvm hw hB hz1 hk1 hS => ?_)
        obtain ⟨hP, hK9, hD9⟩ := hB
        rw [ht] at hP
        have hD := hD9.weaken (fun _ q _ h => hf9 q.1 h)
        obtain rfl := Option.some.inj hF
        exact J20 _ _ _ hP hD hS (lv_sub hl [0, 1, 2, 3, 4] rfl)
  · rw [if_pos c7] at hF
    refine lv_iload_n hx hb dX0_useBest_20 rfl (lv_at hl 3 rfl) ?_
    refine lv_if_ne (tgt := 36) hx hb dX0_useBest_21 (by decide) (fun c42 => ?_) (fun c42 => ?_)
    · rw [if_neg c42] at hF
      refine lv_aload_n hx hb dX0_useBest_36 rfl (lv_at hl 0 rfl) ?_
      refine va_get (D := D) (ci := 0) (v := va_re ad (M6.2 a 3)) (C := RX0) (T := TX0) (N := 21) hx hb hts (mus hf_X0) hown hK hP a (wld_o ct ad G M6 hc hk (by decide)) rfl 3 (by decide) (hts (.fieldLink RX0 36 "VideoSuite$Coder" "work" "LVideoSuite$Work;") (mu mw_817)) (fun _ h9 => h9) rfl dX0_useBest_37 ?_
      refine lv_iload_n hx hb dX0_useBest_40 rfl (lv_at hl 2 rfl) ?_
      refine lv_iload_n hx hb dX0_useBest_41 rfl (lv_at hl 3 rfl) ?_
      obtain ⟨b43, ho43, hc43, hk43, hF⟩ := dr_some hF
      refine W_st (st' := [.int p2, .int p1, .ref (ad b43)]) (by rw [va_some ho43]) ?_
      obtain ⟨y44, hy44, hF⟩ := bnd_some hF
      have hf9 := wA_in hD hA9 hS
      refine va_callv (va_runV (As := [.int p1, .int p2]) (rest := []) ⟨hx, hb, hml, hown, hts⟩ (kX9_plan l D ct ad Z G M6 H.size b43 p1 p2 y44 hc43 hk43 hy44) (cwV 2 hts gX0_useBest_X9_plan rfl rfl rfl (by decide +kernel) ⟨Nat.le_of_ble_eq_true rfl, Nat.le_of_ble_eq_true rfl⟩) ⟨fun a U g mk q => by obtain ⟨q0, q1, qP, qK, qD, qZ, qN⟩ := q; exact ⟨q0, q1, qP, va_K.moved (u := U) (U := U.calling g mk a) (Vm.Alike.refl U.vm) qK, qD, sF.moved (u := U) (U := U.calling g mk a) (Vm.Alike.refl U.vm) qZ, nF.same rfl qN⟩, va_recv hK hP (ci := 9) (q0 := b43) rfl (wld_o ct ad G M6 hc43 hk43 (by decide)), fun U hU hW => ⟨rfl, by rw [hU], by rw [hU]; exact hP, va_K.moved hW.alike hK, hD.weaken (fun _ _ _ _ => trivial), by rw [hU]; exact ((hZ.kept hS.2.1).narrow hf9).moved hW.alike, hN.warm hW⟩⟩ rfl rfl hl.1 rfl (lv_room (Nat.le_of_ble_eq_true rfl)) dX0_useBest_42 ⟨(Nat.zero_le _), (Nat.zero_le _)⟩) hS (fun q _ h => hf9 q h) hf9 (fun u t H locs ht hvm hw hB hz1 hk1 hS => ?_)
      obtain ⟨hP, hK9, hD9⟩ := hB
      rw [ht] at hP
      have hD := hD9.weaken (fun _ q _ h => hf9 q.1 h)
      refine lv_iconst (v := (0 : Int32)) hx hb dX0_useBest_45 (by decide) ?_
      refine lv_istore (lv' := [(4, .int (0 : Int32)), (0, .ref (ad a)), (1, .int p0), (2, .int p1), (3, .int p2)]) hx hb dX0_useBest_46 hl (by decide) rfl (fun ls hl => ?_)
      obtain ⟨y45, hy45, hF⟩ := bnd_some hF
      have K45 : ∀ (H : Heap) (locs : List Loc) (ls : Array Slot), va_P D classes (wld ct ad G y45.2) H → va_D A (wld ct ad G y45.2) → va_S A s.heap H locs → lv_has ls 5 [(4, .int y45.1), (0, .ref (ad a)), (1, .int p0), (2, .int p1), (3, .int p2)] → W p l e (headSpec wuX0_useBest ({ frames := 4, cells := 0, slots := 0, locals := 109 })).room s m ([.ref (ad a), .int p0, .int p1, .int p2] : List Value).toArray below meth c H locs 0 0 (MQ below (va_Qv (fun (_ : Unit) => True) (fun _ t => kE D ct ad G A y t) A) ([.ref (ad a), .int p0, .int p1, .int p2] : List Value).toArray s 0 0 A) (F0 m 155 ls []) := by
        intro H locs ls hP hD hS hl
        obtain rfl := Option.some.inj hF
        exact W.vret hx hb hr (fun t ht hW => ⟨⟨(), rfl, trivial, ⟨by rw [ht]; exact hP, va_K.moved hW.alike hK, hD⟩⟩, hS.F ht⟩) hS.2.2 dX0_useBest_155
      clear hF
      refine itr_rule (fun (s46 : Int32 × DD) => ∀ (H : Heap) (locs : List Loc) (ls : Array Slot), va_P D classes (wld ct ad G s46.2) H → va_D A (wld ct ad G s46.2) → va_S A s.heap H locs → lv_has ls 5 [(4, .int s46.1), (0, .ref (ad a)), (1, .int p0), (2, .int p1), (3, .int p2)] → W p l e (headSpec wuX0_useBest ({ frames := 4, cells := 0, slots := 0, locals := 109 })).room s m ([.ref (ad a), .int p0, .int p1, .int p2] : List Value).toArray below meth c H locs 0 0 (MQ below (va_Qv (fun (_ : Unit) => True) (fun _ t => kE D ct ad G A y t) A) ([.ref (ad a), .int p0, .int p1, .int p2] : List Value).toArray s 0 0 A) (F0 m 48 ls [])) ?_ _ _ hy45 _ _ _ hP hD hS (lv_sub hl [0, 1, 2, 3, 4] rfl)
      rintro s46 ⟨z48, hF, hwz48⟩ H locs ls hP hD hS hl
      try dsimp only at hF
      refine lv_iload hx hb dX0_useBest_48 (lv_at hl 0 rfl) ?_
      refine lv_iconst (v := (2 : Int32)) hx hb dX0_useBest_50 (by decide) ?_
      refine lv_icmp_ge (tgt := 155) hx hb dX0_useBest_51 (by decide) (fun c49 => ?_) (fun c49 => ?_)
      · rw [if_pos c49] at hF
        obtain rfl := Option.some.inj hF
        subst hwz48
        exact K45 _ _ _ hP hD hS (lv_sub hl [0, 1, 2, 3, 4] rfl)
      · rw [if_neg c49] at hF
        refine lv_aload_n hx hb dX0_useBest_54 rfl (lv_at hl 1 rfl) ?_
        refine va_get (D := D) (ci := 0) (v := va_re ad (s46.2.2 a 3)) (C := RX0) (T := TX0) (N := 21) hx hb hts (mus hf_X0) hown hK hP a (wld_o ct ad G s46.2 hc hk (by decide)) rfl 3 (by decide) (hts (.fieldLink RX0 36 "VideoSuite$Coder" "work" "LVideoSuite$Work;") (mu mw_817)) (fun _ h9 => h9) rfl dX0_useBest_55 ?_
        obtain ⟨b50, ho50, hc50, hk50, hF⟩ := dr_some hF
        refine W_st (st' := [.ref (ad b50)]) (by rw [va_some ho50]) ?_
        refine va_get (D := D) (ci := 9) (v := va_re ad (s46.2.2 b50 13)) (C := RX9) (T := TX9) (N := 20) hx hb hts (mus hf_X9) hown hK hP b50 (wld_o ct ad G s46.2 hc50 hk50 (by decide)) rfl 13 (by decide) (hts (.fieldLink RX0 403 "VideoSuite$Work" "part" "[I") (mu mw_468)) (fun _ h9 => h9) rfl dX0_useBest_58 ?_
        refine lv_iconst (v := (3 : Int32)) hx hb dX0_useBest_61 (by decide) ?_
        obtain ⟨b51, ho51, hc51, hk51, hF⟩ := dr_some hF
        refine W_st (st' := [.int (3 : Int32), .ref (ad b51)]) (by rw [va_some ho51]) ?_
        obtain ⟨hvc, hF⟩ := chk_some hF
        refine va_iald hx hb hK hP b51 1 (wld_i ct ad G s46.2 hc51 hk51) rfl hvc dX0_useBest_62 ?_
        obtain ⟨x52, ex52, hF⟩ := ltt_some hF
        refine lv_topi (fun zx52 ezx52 => ?_)
        obtain rfl : x52 = zx52 := ex52.trans ezx52.symm
        refine lv_iload hx hb dX0_useBest_63 (lv_at hl 0 rfl) ?_
        refine lv_ishr hx hb dX0_useBest_65 ?_
        obtain ⟨x53, ex53, hF⟩ := ltt_some hF
        refine lv_topi (fun zx53 ezx53 => ?_)
        obtain rfl : x53 = zx53 := ex53.trans ezx53.symm
        refine lv_iconst (v := (1 : Int32)) hx hb dX0_useBest_66 (by decide) ?_
        refine lv_iand hx hb dX0_useBest_67 ?_
        obtain ⟨x54, ex54, hF⟩ := ltt_some hF
        refine lv_topi (fun zx54 ezx54 => ?_)
        obtain rfl : x54 = zx54 := ex54.trans ezx54.symm
        refine lv_iconst (v := (1 : Int32)) hx hb dX0_useBest_68 (by decide) ?_
        obtain ⟨y55, hy55, hF⟩ := bnd_some hF
        have J55 : ∀ (H : Heap) (locs : List Loc) (ls : Array Slot), va_P D classes (wld ct ad G y55) H → va_D A (wld ct ad G y55) → va_S A s.heap H locs → lv_has ls 5 [(4, .int s46.1), (0, .ref (ad a)), (1, .int p0), (2, .int p1), (3, .int p2)] → W p l e (headSpec wuX0_useBest ({ frames := 4, cells := 0, slots := 0, locals := 109 })).room s m ([.ref (ad a), .int p0, .int p1, .int p2] : List Value).toArray below meth c H locs 0 0 (MQ below (va_Qv (fun (_ : Unit) => True) (fun _ t => kE D ct ad G A y t) A) ([.ref (ad a), .int p0, .int p1, .int p2] : List Value).toArray s 0 0 A) (F0 m 149 ls []) := by
          intro H locs ls hP hD hS hl
          obtain ⟨x56, ex56, hF⟩ := ltt_some hF
          refine lv_iinc (v := x56) (lv' := [(4, .int x56), (0, .ref (ad a)), (1, .int p0), (2, .int p1), (3, .int p2)]) hx hb dX0_useBest_149 hl (k := 0) rfl (by rw [ex56]; rfl) (by decide) rfl (fun ls hl => ?_)
          refine lv_goto (tgt := 48) hx hb dX0_useBest_152 (by decide) ?_
          obtain rfl := Option.some.inj hF
          exact hwz48 _ _ _ hP hD hS (lv_sub hl [0, 1, 2, 3, 4] rfl)
        clear hF
        have hF := hy55
        clear hy55
        refine lv_icmp_ne (tgt := 149) hx hb dX0_useBest_69 (by decide) (fun c57 => ?_) (fun c57 => ?_)
        · rw [if_neg c57] at hF
          obtain rfl := Option.some.inj hF
          exact J55 _ _ _ hP hD hS (lv_sub hl [0, 1, 2, 3, 4] rfl)
        · rw [if_pos c57] at hF
          refine lv_aload_n hx hb dX0_useBest_72 rfl (lv_at hl 1 rfl) ?_
          refine va_get (D := D) (ci := 0) (v := va_re ad (s46.2.2 a 3)) (C := RX0) (T := TX0) (N := 21) hx hb hts (mus hf_X0) hown hK hP a (wld_o ct ad G s46.2 hc hk (by decide)) rfl 3 (by decide) (hts (.fieldLink RX0 36 "VideoSuite$Coder" "work" "LVideoSuite$Work;") (mu mw_817)) (fun _ h9 => h9) rfl dX0_useBest_73 ?_
          refine lv_iload_n hx hb dX0_useBest_76 rfl (lv_at hl 2 rfl) ?_
          refine lv_iload hx hb dX0_useBest_77 (lv_at hl 0 rfl) ?_
          refine lv_aload_n hx hb dX0_useBest_79 rfl (lv_at hl 1 rfl) ?_
          refine va_get (D := D) (ci := 0) (v := va_re ad (s46.2.2 a 20)) (C := RX0) (T := TX0) (N := 21) hx hb hts (mus hf_X0) hown hK hP a (wld_o ct ad G s46.2 hc hk (by decide)) rfl 20 (by decide) (hts (.fieldLink RX0 75 "VideoSuite$Coder" "choice" "[I") (mu mw_838)) (fun _ h9 => h9) rfl dX0_useBest_80 ?_
          refine lv_iconst (v := (5 : Int32)) hx hb dX0_useBest_83 (by decide) ?_
          refine lv_iload hx hb dX0_useBest_84 (lv_at hl 0 rfl) ?_
          refine lv_imul hx hb dX0_useBest_86 ?_
          obtain ⟨x58, ex58, hF⟩ := ltt_some hF
          refine lv_topi (fun zx58 ezx58 => ?_)
          obtain rfl : x58 = zx58 := ex58.trans ezx58.symm
          refine lv_iconst (v := (1 : Int32)) hx hb dX0_useBest_87 (by decide) ?_
          refine lv_iadd hx hb dX0_useBest_88 ?_
          obtain ⟨x59, ex59, hF⟩ := ltt_some hF
          refine lv_topi (fun zx59 ezx59 => ?_)
          obtain rfl : x59 = zx59 := ex59.trans ezx59.symm
          obtain ⟨b60, ho60, hc60, hk60, hF⟩ := dr_some hF
          refine W_st (st' := [.int x59, .ref (ad b60), .int s46.1, .int p0, va_re ad (s46.2.2 a 3)]) (by rw [va_some ho60]) ?_
          obtain ⟨hvc, hF⟩ := chk_some hF
          refine va_iald hx hb hK hP b60 1 (wld_i ct ad G s46.2 hc60 hk60) rfl hvc dX0_useBest_89 ?_
          obtain ⟨x61, ex61, hF⟩ := ltt_some hF
          refine lv_topi (fun zx61 ezx61 => ?_)
          obtain rfl : x61 = zx61 := ex61.trans ezx61.symm
          refine lv_iconst (v := (0 : Int32)) hx hb dX0_useBest_90 (by decide) ?_
          refine lv_bipush (v := (16 : Int32)) hx hb dX0_useBest_91 (by decide) ?_
          refine lv_iconst (v := (0 : Int32)) hx hb dX0_useBest_93 (by decide) ?_
          refine W_st (st' := [.int (0 : Int32), .int (16 : Int32), .int (0 : Int32), .int x61, .int s46.1, .int p0, .ref (ad b50)]) (by rw [va_some ho50]) ?_
          obtain ⟨y62, hy62, hF⟩ := bnd_some hF
          have hf9 := wA_in hD hA9 hS
          refine va_callv (va_runV (As := [.int p0, .int s46.1, .int x61, .int (0 : Int32), .int (16 : Int32), .int (0 : Int32)]) (rest := []) ⟨hx, hb, hml, hown, hts⟩ (kX9_guess l D ct ad Z G s46.2 H.size b50 p0 s46.1 x61 ((0 : Int32)) ((16 : Int32)) ((0 : Int32)) y62 hc50 hk50 hy62) (cwV 6 hts gX0_useBest_X9_guess rfl rfl rfl (by decide +kernel) ⟨Nat.le_of_ble_eq_true rfl, Nat.le_of_ble_eq_true rfl⟩) ⟨fun a U g mk q => by obtain ⟨q0, q1, qP, qK, qD, qZ, qN⟩ := q; exact ⟨q0, q1, qP, va_K.moved (u := U) (U := U.calling g mk a) (Vm.Alike.refl U.vm) qK, qD, sF.moved (u := U) (U := U.calling g mk a) (Vm.Alike.refl U.vm) qZ, nF.same rfl qN⟩, va_recv hK hP (ci := 9) (q0 := b50) rfl (wld_o ct ad G s46.2 hc50 hk50 (by decide)), fun U hU hW => ⟨rfl, by rw [hU], by rw [hU]; exact hP, va_K.moved hW.alike hK, hD.weaken (fun _ _ _ _ => trivial), by rw [hU]; exact ((hZ.kept hS.2.1).narrow hf9).moved hW.alike, hN.warm hW⟩⟩ rfl rfl hl.1 rfl (lv_room (Nat.le_of_ble_eq_true rfl)) dX0_useBest_94 ⟨(Nat.zero_le _), (Nat.zero_le _)⟩) hS (fun q _ h => hf9 q h) hf9 (fun u t H locs ht hvm hw hB hz1 hk1 hS => ?_)
          obtain ⟨hP, hK9, hD9⟩ := hB
          rw [ht] at hP
          have hD := hD9.weaken (fun _ q _ h => hf9 q.1 h)
          refine lv_aload_n hx hb dX0_useBest_97 rfl (lv_at hl 1 rfl) ?_
          refine va_get (D := D) (ci := 0) (v := va_re ad (y62.2 a 3)) (C := RX0) (T := TX0) (N := 21) hx hb hts (mus hf_X0) hown hK hP a (wld_o ct ad G y62 hc hk (by decide)) rfl 3 (by decide) (hts (.fieldLink RX0 36 "VideoSuite$Coder" "work" "LVideoSuite$Work;") (mu mw_817)) (fun _ h9 => h9) rfl dX0_useBest_98 ?_
          refine lv_iload_n hx hb dX0_useBest_101 rfl (lv_at hl 2 rfl) ?_
          refine lv_iload hx hb dX0_useBest_102 (lv_at hl 0 rfl) ?_
          refine lv_iconst (v := (0 : Int32)) hx hb dX0_useBest_104 (by decide) ?_
          refine lv_aload_n hx hb dX0_useBest_105 rfl (lv_at hl 1 rfl) ?_
          refine va_get (D := D) (ci := 0) (v := va_re ad (y62.2 a 20)) (C := RX0) (T := TX0) (N := 21) hx hb hts (mus hf_X0) hown hK hP a (wld_o ct ad G y62 hc hk (by decide)) rfl 20 (by decide) (hts (.fieldLink RX0 75 "VideoSuite$Coder" "choice" "[I") (mu mw_838)) (fun _ h9 => h9) rfl dX0_useBest_106 ?_
          refine lv_iconst (v := (5 : Int32)) hx hb dX0_useBest_109 (by decide) ?_
          refine lv_iload hx hb dX0_useBest_110 (lv_at hl 0 rfl) ?_
          refine lv_imul hx hb dX0_useBest_112 ?_
          obtain ⟨x63, ex63, hF⟩ := ltt_some hF
          refine lv_topi (fun zx63 ezx63 => ?_)
          obtain rfl : x63 = zx63 := ex63.trans ezx63.symm
          refine lv_iconst (v := (1 : Int32)) hx hb dX0_useBest_113 (by decide) ?_
          refine lv_iadd hx hb dX0_useBest_114 ?_
          obtain ⟨x64, ex64, hF⟩ := ltt_some hF
          refine lv_topi (fun zx64 ezx64 => ?_)
          obtain rfl : x64 = zx64 := ex64.trans ezx64.symm
          obtain ⟨b65, ho65, hc65, hk65, hF⟩ := dr_some hF
          refine W_st (st' := [.int x64, .ref (ad b65), .int (0 : Int32), .int s46.1, .int p0, va_re ad (y62.2 a 3)]) (by rw [va_some ho65]) ?_
          obtain ⟨hvc, hF⟩ := chk_some hF
          refine va_iald hx hb hK hP b65 1 (wld_i ct ad G y62 hc65 hk65) rfl hvc dX0_useBest_115 ?_
          obtain ⟨x66, ex66, hF⟩ := ltt_some hF
          refine lv_topi (fun zx66 ezx66 => ?_)
          obtain rfl : x66 = zx66 := ex66.trans ezx66.symm
          obtain ⟨b67, ho67, hc67, hk67, hF⟩ := dr_some hF
          refine W_st (st' := [.int x66, .int (0 : Int32), .int s46.1, .int p0, .ref (ad b67)]) (by rw [va_some ho67]) ?_
          obtain ⟨y68, hy68, hF⟩ := bnd_some hF
          have hf9 := wA_in hD hA9 hS
          refine va_callv (va_runV (As := [.int p0, .int s46.1, .int (0 : Int32), .int x66]) (rest := []) ⟨hx, hb, hml, hown, hts⟩ (kX9_setReference l D ct ad Z G y62 H.size b67 p0 s46.1 ((0 : Int32)) x66 y68 hc67 hk67 hy68) (cwV 4 hts gX0_useBest_X9_setReference rfl rfl rfl (by decide +kernel) ⟨Nat.le_of_ble_eq_true rfl, Nat.le_of_ble_eq_true rfl⟩) ⟨fun a U g mk q => by obtain ⟨q0, q1, qP, qK, qD, qZ, qN⟩ := q; exact ⟨q0, q1, qP, va_K.moved (u := U) (U := U.calling g mk a) (Vm.Alike.refl U.vm) qK, qD, sF.moved (u := U) (U := U.calling g mk a) (Vm.Alike.refl U.vm) qZ, nF.same rfl qN⟩, va_recv hK hP (ci := 9) (q0 := b67) rfl (wld_o ct ad G y62 hc67 hk67 (by decide)), fun U hU hW => ⟨rfl, by rw [hU], by rw [hU]; exact hP, va_K.moved hW.alike hK, hD.weaken (fun _ _ _ _ => trivial), by rw [hU]; exact ((hZ.kept hS.2.1).narrow hf9).moved hW.alike, hN.warm hW⟩⟩ rfl rfl hl.1 rfl (lv_room (Nat.le_of_ble_eq_true rfl)) dX0_useBest_116 ⟨(Nat.zero_le _), (Nat.zero_le _)⟩) hS (fun q _ h => hf9 q h) hf9 (fun u t H locs ht hvm hw hB hz1 hk1 hS => ?_)
          obtain ⟨hP, hK9, hD9⟩ := hB
          rw [ht] at hP
          have hD := hD9.weaken (fun _ q _ h => hf9 q.1 h)
          refine lv_aload_n hx hb dX0_useBest_119 rfl (lv_at hl 1 rfl) ?_
          refine lv_iload_n hx hb dX0_useBest_120 rfl (lv_at hl 2 rfl) ?_
          refine lv_iload hx hb dX0_useBest_121 (lv_at hl 0 rfl) ?_
          refine lv_iconst (v := (0 : Int32)) hx hb dX0_useBest_123 (by decide) ?_
          refine lv_aload_n hx hb dX0_useBest_124 rfl (lv_at hl 1 rfl) ?_
          refine va_get (D := D) (ci := 0) (v := va_re ad (y68.2 a 20)) (C := RX0) (T := TX0) (N := 21) hx hb hts (mus hf_X0) hown hK hP a (wld_o ct ad G y68 hc hk (by decide)) rfl 20 (by decide) (hts (.fieldLink RX0 75 "VideoSuite$Coder" "choice" "[I") (mu mw_838)) (fun _ h9 => h9) rfl dX0_useBest_125 ?_
          refine lv_iconst (v := (5 : Int32)) hx hb dX0_useBest_128 (by decide) ?_
          refine lv_iload hx hb dX0_useBest_129 (lv_at hl 0 rfl) ?_
          refine lv_imul hx hb dX0_useBest_131 ?_
          obtain ⟨x69, ex69, hF⟩ := ltt_some hF
          refine lv_topi (fun zx69 ezx69 => ?_)
          obtain rfl : x69 = zx69 := ex69.trans ezx69.symm
          refine lv_iconst (v := (2 : Int32)) hx hb dX0_useBest_132 (by decide) ?_
          refine lv_iadd hx hb dX0_useBest_133 ?_
          obtain ⟨x70, ex70, hF⟩ := ltt_some hF
          refine lv_topi (fun zx70 ezx70 => ?_)
          obtain rfl : x70 = zx70 := ex70.trans ezx70.symm
          obtain ⟨b71, ho71, hc71, hk71, hF⟩ := dr_some hF
          refine W_st (st' := [.int x70, .ref (ad b71), .int (0 : Int32), .int s46.1, .int p0, .ref (ad a)]) (by rw [va_some ho71]) ?_
          obtain ⟨hvc, hF⟩ := chk_some hF
          refine va_iald hx hb hK hP b71 1 (wld_i ct ad G y68 hc71 hk71) rfl hvc dX0_useBest_134 ?_
          obtain ⟨x72, ex72, hF⟩ := ltt_some hF
          refine lv_topi (fun zx72 ezx72 => ?_)
          obtain rfl : x72 = zx72 := ex72.trans ezx72.symm
          refine lv_aload_n hx hb dX0_useBest_135 rfl (lv_at hl 1 rfl) ?_
          refine va_get (D := D) (ci := 0) (v := va_re ad (y68.2 a 20)) (C := RX0) (T := TX0) (N := 21) hx hb hts (mus hf_X0) hown hK hP a (wld_o ct ad G y68 hc hk (by decide)) rfl 20 (by decide) (hts (.fieldLink RX0 75 "VideoSuite$Coder" "choice" "[I") (mu mw_838)) (fun _ h9 => h9) rfl dX0_useBest_136 ?_
          refine lv_iconst (v := (5 : Int32)) hx hb dX0_useBest_139 (by decide) ?_
          refine lv_iload hx hb dX0_useBest_140 (lv_at hl 0 rfl) ?_
          refine lv_imul hx hb dX0_useBest_142 ?_
          obtain ⟨x73, ex73, hF⟩ := ltt_some hF
          refine lv_topi (fun zx73 ezx73 => ?_)
          obtain rfl : x73 = zx73 := ex73.trans ezx73.symm
          refine lv_iconst (v := (3 : Int32)) hx hb dX0_useBest_143 (by decide) ?_
          refine lv_iadd hx hb dX0_useBest_144 ?_
          obtain ⟨x74, ex74, hF⟩ := ltt_some hF
          refine lv_topi (fun zx74 ezx74 => ?_)
          obtain rfl : x74 = zx74 := ex74.trans ezx74.symm
          refine W_st (st' := [.int x74, .ref (ad b71), .int x72, .int (0 : Int32), .int s46.1, .int p0, .ref (ad a)]) (by rw [va_some ho71]) ?_
          obtain ⟨hvc, hF⟩ := chk_some hF
          refine va_iald hx hb hK hP b71 1 (wld_i ct ad G y68 hc71 hk71) rfl hvc dX0_useBest_145 ?_
          obtain ⟨x75, ex75, hF⟩ := ltt_some hF
          refine lv_topi (fun zx75 ezx75 => ?_)
          obtain rfl : x75 = zx75 := ex75.trans ezx75.symm
          obtain ⟨y76, hy76, hF⟩ := bnd_some hF
          have hf9 := wA_in hD hA9 hS
          refine va_callv (va_runV (As := [.int p0, .int s46.1, .int (0 : Int32), .int x72, .int x75]) (rest := []) ⟨hx, hb, hml, hown, hts⟩ (kX0_setVector l D ct ad Z G y68 H.size a p0 s46.1 ((0 : Int32)) x72 x75 y76 hc hk hy76) (cwV 5 hts gX0_useBest_X0_setVector rfl rfl rfl (by decide +kernel) ⟨Nat.le_of_ble_eq_true rfl, Nat.le_of_ble_eq_true rfl⟩) ⟨fun a U g mk q => by obtain ⟨q0, q1, qP, qK, qD, qZ, qN⟩ := q; exact ⟨q0, q1, qP, va_K.moved (u := U) (U := U.calling g mk a) (Vm.Alike.refl U.vm) qK, qD, sF.moved (u := U) (U := U.calling g mk a) (Vm.Alike.refl U.vm) qZ, nF.same rfl qN⟩, va_recv hK hP (ci := 0) (q0 := a) rfl (wld_o ct ad G y68 hc hk (by decide)), fun U hU hW => ⟨rfl, by rw [hU], by rw [hU]; exact hP, va_K.moved hW.alike hK, hD.weaken (fun _ _ _ _ => trivial), by rw [hU]; exact ((hZ.kept hS.2.1).narrow hf9).moved hW.alike, hN.warm hW⟩⟩ rfl rfl hl.1 rfl (lv_room (Nat.le_of_ble_eq_true rfl)) dX0_useBest_146 ⟨(Nat.zero_le _), (Nat.zero_le _)⟩) hS (fun q _ h => hf9 q h) hf9 (fun u t H locs ht hvm hw hB hz1 hk1 hS => ?_)
          obtain ⟨hP, hK9, hD9⟩ := hB
          rw [ht] at hP
          have hD := hD9.weaken (fun _ q _ h => hf9 q.1 h)
          obtain rfl := Option.some.inj hF
          exact J55 _ _ _ hP hD hS (lv_sub hl [0, 1, 2, 3, 4] rfl)
    · rw [if_pos c42] at hF
      refine lv_aload_n hx hb dX0_useBest_24 rfl (lv_at hl 0 rfl) ?_
      refine va_get (D := D) (ci := 0) (v := va_re ad (M6.2 a 3)) (C := RX0) (T := TX0) (N := 21) hx hb hts (mus hf_X0) hown hK hP a (wld_o ct ad G M6 hc hk (by decide)) rfl 3 (by decide) (hts (.fieldLink RX0 36 "VideoSuite$Coder" "work" "LVideoSuite$Work;") (mu mw_817)) (fun _ h9 => h9) rfl dX0_useBest_25 ?_
      refine lv_iload_n hx hb dX0_useBest_28 rfl (lv_at hl 1 rfl) ?_
      refine lv_bipush (v := (15 : Int32)) hx hb dX0_useBest_29 (by decide) ?_
      obtain ⟨b77, ho77, hc77, hk77, hF⟩ := dr_some hF
      refine W_st (st' := [.int (15 : Int32), .int p0, .ref (ad b77)]) (by rw [va_some ho77]) ?_
      obtain ⟨y78, hy78, hF⟩ := bnd_some hF
      have hf9 := wA_in hD hA9 hS
      refine va_calli (va_runV (As := [.int p0, .int (15 : Int32)]) (rest := []) ⟨hx, hb, hml, hown, hts⟩ (kX9_direct l D ct ad Z G M6 H.size b77 p0 ((15 : Int32)) y78 hc77 hk77 hy78) (cwV 2 hts gX0_useBest_X9_direct rfl rfl rfl (by decide +kernel) ⟨Nat.le_of_ble_eq_true rfl, Nat.le_of_ble_eq_true rfl⟩) ⟨fun a U g mk q => by obtain ⟨q0, q1, qP, qK, qD, qZ, qN⟩ := q; exact ⟨q0, q1, qP, va_K.moved (u := U) (U := U.calling g mk a) (Vm.Alike.refl U.vm) qK, qD, sF.moved (u := U) (U := U.calling g mk a) (Vm.Alike.refl U.vm) qZ, nF.same rfl qN⟩, va_recv hK hP (ci := 9) (q0 := b77) rfl (wld_o ct ad G M6 hc77 hk77 (by decide)), fun U hU hW => ⟨rfl, by rw [hU], by rw [hU]; exact hP, va_K.moved hW.alike hK, hD.weaken (fun _ _ _ _ => trivial), by rw [hU]; exact ((hZ.kept hS.2.1).narrow hf9).moved hW.alike, hN.warm hW⟩⟩ rfl rfl hl.1 rfl (lv_room (Nat.le_of_ble_eq_true rfl)) dX0_useBest_31 ⟨(Nat.zero_le _), (Nat.zero_le _)⟩) hS (fun q _ h => hf9 q h) hf9 (fun r u t H locs ht hvm hw hB hz1 hk1 hS => ?_)
      obtain ⟨hP, hK9, hD9⟩ := hB
      rw [ht] at hP
      try dsimp only at hw
      subst hw
      have hD := hD9.weaken (fun _ q _ h => hf9 q.1 h)
      refine lv_pop hx hb dX0_useBest_34 rfl ?_
      obtain rfl := Option.some.inj hF
      exact W.vret hx hb hr (fun t ht hW => ⟨⟨(), rfl, trivial, ⟨by rw [ht]; exact hP, va_K.moved hW.alike hK, hD⟩⟩, hS.F ht⟩) hS.2.2 dX0_useBest_35
set_option maxRecDepth 20000 in
theorem gX0_writeBlock_X0_isSkipped : GoodIn wuX0_writeBlock (wsV RX0 563 RX0 yX0_isSkipped wuX0_isSkipped) := gu_V mw_2652 mw_2654 mw_148 mw_175 mw_2655
set_option maxRecDepth 20000 in
set_option maxRecDepth 20000 in
theorem gX0_writeBlock_X10_ue : GoodIn wuX0_writeBlock (wsV RX0 162 RX10 yX10_ue wuX10_ue) := gu_V mw_1169 mw_1170 mw_1171 mw_176 mw_1172
set_option maxRecDepth 20000 in
set_option maxRecDepth 20000 in
theorem gX0_writeBlock_X0_writeModes : GoodIn wuX0_writeBlock (wsV RX0 572 RX0 yX0_writeModes wuX0_writeModes) := gu_V mw_2664 mw_2666 mw_149 mw_175 mw_2667
set_option maxRecDepth 20000 in
theorem gX0_writeBlock_X10_rawSamples : GoodIn wuX0_writeBlock (wsV RX0 568 RX10 yX10_rawSamples wuX10_rawSamples) := gu_V mw_2656 mw_2657 mw_2658 mw_176 mw_2659
set_option maxRecDepth 20000 in
set_option maxRecDepth 20000 in
theorem gX0_writeBlock_X10_code : GoodIn wuX0_writeBlock (wsV RX0 150 RX10 yX10_code wuX10_code) := gu_V mw_1140 mw_1141 mw_1142 mw_176 mw_1143
set_option maxRecDepth 20000 in
theorem dX0_writeBlock_0 : decode cX0_writeBlock 0 = .ok (.bipush 8, 2) := by decide +kernel
theorem dX0_writeBlock_2 : decode cX0_writeBlock 2 = .ok (.iload_n 1, 1) := by decide +kernel
theorem dX0_writeBlock_3 : decode cX0_writeBlock 3 = .ok (.imul, 1) := by decide +kernel
theorem dX0_writeBlock_4 : decode cX0_writeBlock 4 = .ok (.istore_n 2, 1) := by decide +kernel
theorem dX0_writeBlock_5 : decode cX0_writeBlock 5 = .ok (.aload_n 0, 1) := by decide +kernel
theorem dX0_writeBlock_6 : decode cX0_writeBlock 6 = .ok (.getfield 36, 3) := by decide +kernel
theorem dX0_writeBlock_9 : decode cX0_writeBlock 9 = .ok (.getfield 81, 3) := by decide +kernel
theorem dX0_writeBlock_12 : decode cX0_writeBlock 12 = .ok (.getfield 252, 3) := by decide +kernel
theorem dX0_writeBlock_15 : decode cX0_writeBlock 15 = .ok (.iconst 1, 1) := by decide +kernel
theorem dX0_writeBlock_16 : decode cX0_writeBlock 16 = .ok (.iaload, 1) := by decide +kernel
theorem dX0_writeBlock_17 : decode cX0_writeBlock 17 = .ok (.istore_n 3, 1) := by decide +kernel
theorem dX0_writeBlock_18 : decode cX0_writeBlock 18 = .ok (.aload_n 0, 1) := by decide +kernel
theorem dX0_writeBlock_19 : decode cX0_writeBlock 19 = .ok (.getfield 36, 3) := by decide +kernel
theorem dX0_writeBlock_22 : decode cX0_writeBlock 22 = .ok (.getfield 216, 3) := by decide +kernel
theorem dX0_writeBlock_25 : decode cX0_writeBlock 25 = .ok (.iload_n 2, 1) := by decide +kernel
theorem dX0_writeBlock_26 : decode cX0_writeBlock 26 = .ok (.iconst 0, 1) := by decide +kernel
theorem dX0_writeBlock_27 : decode cX0_writeBlock 27 = .ok (.iadd, 1) := by decide +kernel
theorem dX0_writeBlock_28 : decode cX0_writeBlock 28 = .ok (.iaload, 1) := by decide +kernel
theorem dX0_writeBlock_29 : decode cX0_writeBlock 29 = .ok (.istore 4, 2) := by decide +kernel
theorem dX0_writeBlock_31 : decode cX0_writeBlock 31 = .ok (.iload_n 3, 1) := by decide +kernel
theorem dX0_writeBlock_32 : decode cX0_writeBlock 32 = .ok (.iconst 2, 1) := by decide +kernel
theorem dX0_writeBlock_33 : decode cX0_writeBlock 33 = .ok (.if_icmp .eq 41, 3) := by decide +kernel
theorem dX0_writeBlock_36 : decode cX0_writeBlock 36 = .ok (.aload_n 0, 1) := by decide +kernel
theorem dX0_writeBlock_37 : decode cX0_writeBlock 37 = .ok (.getfield 36, 3) := by decide +kernel
theorem dX0_writeBlock_40 : decode cX0_writeBlock 40 = .ok (.getfield 85, 3) := by decide +kernel
theorem dX0_writeBlock_43 : decode cX0_writeBlock 43 = .ok (.iconst 1, 1) := by decide +kernel
theorem dX0_writeBlock_44 : decode cX0_writeBlock 44 = .ok (.iaload, 1) := by decide +kernel
theorem dX0_writeBlock_45 : decode cX0_writeBlock 45 = .ok (.iconst 1, 1) := by decide +kernel
theorem dX0_writeBlock_46 : decode cX0_writeBlock 46 = .ok (.if_icmp .ne 28, 3) := by decide +kernel
theorem dX0_writeBlock_49 : decode cX0_writeBlock 49 = .ok (.aload_n 0, 1) := by decide +kernel
theorem dX0_writeBlock_50 : decode cX0_writeBlock 50 = .ok (.getfield 29, 3) := by decide +kernel
theorem dX0_writeBlock_53 : decode cX0_writeBlock 53 = .ok (.iconst 0, 1) := by decide +kernel
theorem dX0_writeBlock_54 : decode cX0_writeBlock 54 = .ok (.aload_n 0, 1) := by decide +kernel
theorem dX0_writeBlock_55 : decode cX0_writeBlock 55 = .ok (.iload_n 1, 1) := by decide +kernel
theorem dX0_writeBlock_56 : decode cX0_writeBlock 56 = .ok (.invokevirtual 563, 3) := by decide +kernel
theorem dX0_writeBlock_59 : decode cX0_writeBlock 59 = .ok (.ifCond .eq 7, 3) := by decide +kernel
theorem dX0_writeBlock_62 : decode cX0_writeBlock 62 = .ok (.lconst 1, 1) := by decide +kernel
theorem dX0_writeBlock_63 : decode cX0_writeBlock 63 = .ok (.goto 4, 3) := by decide +kernel
theorem dX0_writeBlock_66 : decode cX0_writeBlock 66 = .ok (.lconst 0, 1) := by decide +kernel
theorem dX0_writeBlock_67 : decode cX0_writeBlock 67 = .ok (.iconst 1, 1) := by decide +kernel
theorem dX0_writeBlock_68 : decode cX0_writeBlock 68 = .ok (.invokevirtual 150, 3) := by decide +kernel
theorem dX0_writeBlock_71 : decode cX0_writeBlock 71 = .ok (.goto 55, 3) := by decide +kernel
theorem dX0_writeBlock_74 : decode cX0_writeBlock 74 = .ok (.aload_n 0, 1) := by decide +kernel
theorem dX0_writeBlock_75 : decode cX0_writeBlock 75 = .ok (.iload_n 1, 1) := by decide +kernel
theorem dX0_writeBlock_76 : decode cX0_writeBlock 76 = .ok (.invokevirtual 563, 3) := by decide +kernel
theorem dX0_writeBlock_79 : decode cX0_writeBlock 79 = .ok (.ifCond .eq 19, 3) := by decide +kernel
theorem dX0_writeBlock_82 : decode cX0_writeBlock 82 = .ok (.aload_n 0, 1) := by decide +kernel
theorem dX0_writeBlock_83 : decode cX0_writeBlock 83 = .ok (.getfield 29, 3) := by decide +kernel
theorem dX0_writeBlock_86 : decode cX0_writeBlock 86 = .ok (.dup, 1) := by decide +kernel
theorem dX0_writeBlock_87 : decode cX0_writeBlock 87 = .ok (.getfield 309, 3) := by decide +kernel
theorem dX0_writeBlock_90 : decode cX0_writeBlock 90 = .ok (.iconst 1, 1) := by decide +kernel
theorem dX0_writeBlock_91 : decode cX0_writeBlock 91 = .ok (.iadd, 1) := by decide +kernel
theorem dX0_writeBlock_92 : decode cX0_writeBlock 92 = .ok (.putfield 309, 3) := by decide +kernel
theorem dX0_writeBlock_95 : decode cX0_writeBlock 95 = .ok (.goto 31, 3) := by decide +kernel
theorem dX0_writeBlock_98 : decode cX0_writeBlock 98 = .ok (.iload_n 3, 1) := by decide +kernel
theorem dX0_writeBlock_99 : decode cX0_writeBlock 99 = .ok (.iconst 2, 1) := by decide +kernel
theorem dX0_writeBlock_100 : decode cX0_writeBlock 100 = .ok (.if_icmp .eq 26, 3) := by decide +kernel
theorem dX0_writeBlock_103 : decode cX0_writeBlock 103 = .ok (.aload_n 0, 1) := by decide +kernel
theorem dX0_writeBlock_104 : decode cX0_writeBlock 104 = .ok (.getfield 29, 3) := by decide +kernel
theorem dX0_writeBlock_107 : decode cX0_writeBlock 107 = .ok (.iconst 0, 1) := by decide +kernel
theorem dX0_writeBlock_108 : decode cX0_writeBlock 108 = .ok (.aload_n 0, 1) := by decide +kernel
theorem dX0_writeBlock_109 : decode cX0_writeBlock 109 = .ok (.getfield 29, 3) := by decide +kernel
theorem dX0_writeBlock_112 : decode cX0_writeBlock 112 = .ok (.getfield 309, 3) := by decide +kernel
theorem dX0_writeBlock_115 : decode cX0_writeBlock 115 = .ok (.invokevirtual 162, 3) := by decide +kernel
theorem dX0_writeBlock_118 : decode cX0_writeBlock 118 = .ok (.aload_n 0, 1) := by decide +kernel
theorem dX0_writeBlock_119 : decode cX0_writeBlock 119 = .ok (.getfield 29, 3) := by decide +kernel
theorem dX0_writeBlock_122 : decode cX0_writeBlock 122 = .ok (.iconst 0, 1) := by decide +kernel
theorem dX0_writeBlock_123 : decode cX0_writeBlock 123 = .ok (.putfield 309, 3) := by decide +kernel
theorem dX0_writeBlock_126 : decode cX0_writeBlock 126 = .ok (.aload_n 0, 1) := by decide +kernel
theorem dX0_writeBlock_127 : decode cX0_writeBlock 127 = .ok (.iload_n 1, 1) := by decide +kernel
theorem dX0_writeBlock_128 : decode cX0_writeBlock 128 = .ok (.invokevirtual 563, 3) := by decide +kernel
theorem dX0_writeBlock_131 : decode cX0_writeBlock 131 = .ok (.ifCond .eq 4, 3) := by decide +kernel
theorem dX0_writeBlock_134 : decode cX0_writeBlock 134 = .ok (.return_, 1) := by decide +kernel
theorem dX0_writeBlock_135 : decode cX0_writeBlock 135 = .ok (.iload_n 3, 1) := by decide +kernel
theorem dX0_writeBlock_136 : decode cX0_writeBlock 136 = .ok (.iconst 2, 1) := by decide +kernel
theorem dX0_writeBlock_137 : decode cX0_writeBlock 137 = .ok (.if_icmp .ne 7, 3) := by decide +kernel
theorem dX0_writeBlock_140 : decode cX0_writeBlock 140 = .ok (.iconst 0, 1) := by decide +kernel
theorem dX0_writeBlock_141 : decode cX0_writeBlock 141 = .ok (.goto 13, 3) := by decide +kernel
theorem dX0_writeBlock_144 : decode cX0_writeBlock 144 = .ok (.iload_n 3, 1) := by decide +kernel
theorem dX0_writeBlock_145 : decode cX0_writeBlock 145 = .ok (.ifCond .ne 7, 3) := by decide +kernel
theorem dX0_writeBlock_148 : decode cX0_writeBlock 148 = .ok (.iconst 5, 1) := by decide +kernel
theorem dX0_writeBlock_149 : decode cX0_writeBlock 149 = .ok (.goto 5, 3) := by decide +kernel
theorem dX0_writeBlock_152 : decode cX0_writeBlock 152 = .ok (.bipush 23, 2) := by decide +kernel
theorem dX0_writeBlock_154 : decode cX0_writeBlock 154 = .ok (.istore 5, 2) := by decide +kernel
theorem dX0_writeBlock_156 : decode cX0_writeBlock 156 = .ok (.iload 4, 2) := by decide +kernel
theorem dX0_writeBlock_158 : decode cX0_writeBlock 158 = .ok (.iconst 2, 1) := by decide +kernel
theorem dX0_writeBlock_159 : decode cX0_writeBlock 159 = .ok (.if_icmp .ne 33, 3) := by decide +kernel
theorem dX0_writeBlock_162 : decode cX0_writeBlock 162 = .ok (.aload_n 0, 1) := by decide +kernel
theorem dX0_writeBlock_163 : decode cX0_writeBlock 163 = .ok (.getfield 29, 3) := by decide +kernel
theorem dX0_writeBlock_166 : decode cX0_writeBlock 166 = .ok (.iconst 1, 1) := by decide +kernel
theorem dX0_writeBlock_167 : decode cX0_writeBlock 167 = .ok (.iload 5, 2) := by decide +kernel
theorem dX0_writeBlock_169 : decode cX0_writeBlock 169 = .ok (.bipush 25, 2) := by decide +kernel
theorem dX0_writeBlock_171 : decode cX0_writeBlock 171 = .ok (.iadd, 1) := by decide +kernel
theorem dX0_writeBlock_172 : decode cX0_writeBlock 172 = .ok (.invokevirtual 162, 3) := by decide +kernel
theorem dX0_writeBlock_175 : decode cX0_writeBlock 175 = .ok (.aload_n 0, 1) := by decide +kernel
theorem dX0_writeBlock_176 : decode cX0_writeBlock 176 = .ok (.getfield 29, 3) := by decide +kernel
theorem dX0_writeBlock_179 : decode cX0_writeBlock 179 = .ok (.aload_n 0, 1) := by decide +kernel
theorem dX0_writeBlock_180 : decode cX0_writeBlock 180 = .ok (.getfield 43, 3) := by decide +kernel
theorem dX0_writeBlock_183 : decode cX0_writeBlock 183 = .ok (.getfield 566, 3) := by decide +kernel
theorem dX0_writeBlock_186 : decode cX0_writeBlock 186 = .ok (.invokevirtual 568, 3) := by decide +kernel
theorem dX0_writeBlock_189 : decode cX0_writeBlock 189 = .ok (.goto 209, 3) := by decide +kernel
theorem dX0_writeBlock_192 : decode cX0_writeBlock 192 = .ok (.iload 4, 2) := by decide +kernel
theorem dX0_writeBlock_194 : decode cX0_writeBlock 194 = .ok (.iconst 3, 1) := by decide +kernel
theorem dX0_writeBlock_195 : decode cX0_writeBlock 195 = .ok (.if_icmp .ne 77, 3) := by decide +kernel
theorem dX0_writeBlock_198 : decode cX0_writeBlock 198 = .ok (.aload_n 0, 1) := by decide +kernel
theorem dX0_writeBlock_199 : decode cX0_writeBlock 199 = .ok (.getfield 36, 3) := by decide +kernel
theorem dX0_writeBlock_202 : decode cX0_writeBlock 202 = .ok (.getfield 216, 3) := by decide +kernel
theorem dX0_writeBlock_205 : decode cX0_writeBlock 205 = .ok (.iload_n 2, 1) := by decide +kernel
theorem dX0_writeBlock_206 : decode cX0_writeBlock 206 = .ok (.iconst 1, 1) := by decide +kernel
theorem dX0_writeBlock_207 : decode cX0_writeBlock 207 = .ok (.iadd, 1) := by decide +kernel
theorem dX0_writeBlock_208 : decode cX0_writeBlock 208 = .ok (.iaload, 1) := by decide +kernel
theorem dX0_writeBlock_209 : decode cX0_writeBlock 209 = .ok (.istore 6, 2) := by decide +kernel
theorem dX0_writeBlock_211 : decode cX0_writeBlock 211 = .ok (.aload_n 0, 1) := by decide +kernel
theorem dX0_writeBlock_212 : decode cX0_writeBlock 212 = .ok (.getfield 29, 3) := by decide +kernel
theorem dX0_writeBlock_215 : decode cX0_writeBlock 215 = .ok (.iconst 1, 1) := by decide +kernel
theorem dX0_writeBlock_216 : decode cX0_writeBlock 216 = .ok (.iload 6, 2) := by decide +kernel
theorem dX0_writeBlock_218 : decode cX0_writeBlock 218 = .ok (.invokevirtual 162, 3) := by decide +kernel
theorem dX0_writeBlock_221 : decode cX0_writeBlock 221 = .ok (.iconst 0, 1) := by decide +kernel
theorem dX0_writeBlock_222 : decode cX0_writeBlock 222 = .ok (.istore 7, 2) := by decide +kernel
theorem dX0_writeBlock_224 : decode cX0_writeBlock 224 = .ok (.iload 7, 2) := by decide +kernel
theorem dX0_writeBlock_226 : decode cX0_writeBlock 226 = .ok (.iconst 4, 1) := by decide +kernel
theorem dX0_writeBlock_227 : decode cX0_writeBlock 227 = .ok (.if_icmp .ge 42, 3) := by decide +kernel
theorem dX0_writeBlock_230 : decode cX0_writeBlock 230 = .ok (.iload 6, 2) := by decide +kernel
theorem dX0_writeBlock_232 : decode cX0_writeBlock 232 = .ok (.iload_n 3, 1) := by decide +kernel
theorem dX0_writeBlock_233 : decode cX0_writeBlock 233 = .ok (.ifCond .ne 7, 3) := by decide +kernel
theorem dX0_writeBlock_236 : decode cX0_writeBlock 236 = .ok (.iconst 3, 1) := by decide +kernel
theorem dX0_writeBlock_237 : decode cX0_writeBlock 237 = .ok (.goto 5, 3) := by decide +kernel
theorem dX0_writeBlock_240 : decode cX0_writeBlock 240 = .ok (.bipush 22, 2) := by decide +kernel
theorem dX0_writeBlock_242 : decode cX0_writeBlock 242 = .ok (.if_icmp .ne 27, 3) := by decide +kernel
theorem dX0_writeBlock_245 : decode cX0_writeBlock 245 = .ok (.aload_n 0, 1) := by decide +kernel
theorem dX0_writeBlock_246 : decode cX0_writeBlock 246 = .ok (.getfield 29, 3) := by decide +kernel
theorem dX0_writeBlock_249 : decode cX0_writeBlock 249 = .ok (.iconst 5, 1) := by decide +kernel
theorem dX0_writeBlock_250 : decode cX0_writeBlock 250 = .ok (.aload_n 0, 1) := by decide +kernel
theorem dX0_writeBlock_251 : decode cX0_writeBlock 251 = .ok (.getfield 36, 3) := by decide +kernel
theorem dX0_writeBlock_254 : decode cX0_writeBlock 254 = .ok (.getfield 400, 3) := by decide +kernel
theorem dX0_writeBlock_257 : decode cX0_writeBlock 257 = .ok (.iload 7, 2) := by decide +kernel
theorem dX0_writeBlock_259 : decode cX0_writeBlock 259 = .ok (.iaload, 1) := by decide +kernel
theorem dX0_writeBlock_260 : decode cX0_writeBlock 260 = .ok (.invokevirtual 162, 3) := by decide +kernel
theorem dX0_writeBlock_263 : decode cX0_writeBlock 263 = .ok (.iinc 7 1, 3) := by decide +kernel
theorem dX0_writeBlock_266 : decode cX0_writeBlock 266 = .ok (.goto (-42), 3) := by decide +kernel
theorem dX0_writeBlock_269 : decode cX0_writeBlock 269 = .ok (.goto 129, 3) := by decide +kernel
theorem dX0_writeBlock_272 : decode cX0_writeBlock 272 = .ok (.iload 4, 2) := by decide +kernel
theorem dX0_writeBlock_274 : decode cX0_writeBlock 274 = .ok (.iconst 1, 1) := by decide +kernel
theorem dX0_writeBlock_275 : decode cX0_writeBlock 275 = .ok (.if_icmp .ne 89, 3) := by decide +kernel
theorem dX0_writeBlock_278 : decode cX0_writeBlock 278 = .ok (.aload_n 0, 1) := by decide +kernel
theorem dX0_writeBlock_279 : decode cX0_writeBlock 279 = .ok (.getfield 36, 3) := by decide +kernel
theorem dX0_writeBlock_282 : decode cX0_writeBlock 282 = .ok (.getfield 356, 3) := by decide +kernel
theorem dX0_writeBlock_285 : decode cX0_writeBlock 285 = .ok (.bipush 16, 2) := by decide +kernel
theorem dX0_writeBlock_287 : decode cX0_writeBlock 287 = .ok (.iload_n 1, 1) := by decide +kernel
theorem dX0_writeBlock_288 : decode cX0_writeBlock 288 = .ok (.imul, 1) := by decide +kernel
theorem dX0_writeBlock_289 : decode cX0_writeBlock 289 = .ok (.iaload, 1) := by decide +kernel
theorem dX0_writeBlock_290 : decode cX0_writeBlock 290 = .ok (.iconst 4, 1) := by decide +kernel
theorem dX0_writeBlock_291 : decode cX0_writeBlock 291 = .ok (.aload_n 0, 1) := by decide +kernel
theorem dX0_writeBlock_292 : decode cX0_writeBlock 292 = .ok (.getfield 36, 3) := by decide +kernel
theorem dX0_writeBlock_295 : decode cX0_writeBlock 295 = .ok (.getfield 216, 3) := by decide +kernel
theorem dX0_writeBlock_298 : decode cX0_writeBlock 298 = .ok (.iload_n 2, 1) := by decide +kernel
theorem dX0_writeBlock_299 : decode cX0_writeBlock 299 = .ok (.iconst 4, 1) := by decide +kernel
theorem dX0_writeBlock_300 : decode cX0_writeBlock 300 = .ok (.iadd, 1) := by decide +kernel
theorem dX0_writeBlock_301 : decode cX0_writeBlock 301 = .ok (.iaload, 1) := by decide +kernel
theorem dX0_writeBlock_302 : decode cX0_writeBlock 302 = .ok (.imul, 1) := by decide +kernel
theorem dX0_writeBlock_303 : decode cX0_writeBlock 303 = .ok (.iadd, 1) := by decide +kernel
theorem dX0_writeBlock_304 : decode cX0_writeBlock 304 = .ok (.aload_n 0, 1) := by decide +kernel
theorem dX0_writeBlock_305 : decode cX0_writeBlock 305 = .ok (.getfield 36, 3) := by decide +kernel
theorem dX0_writeBlock_308 : decode cX0_writeBlock 308 = .ok (.getfield 216, 3) := by decide +kernel
theorem dX0_writeBlock_311 : decode cX0_writeBlock 311 = .ok (.iload_n 2, 1) := by decide +kernel
theorem dX0_writeBlock_312 : decode cX0_writeBlock 312 = .ok (.iconst 3, 1) := by decide +kernel
theorem dX0_writeBlock_313 : decode cX0_writeBlock 313 = .ok (.iadd, 1) := by decide +kernel
theorem dX0_writeBlock_314 : decode cX0_writeBlock 314 = .ok (.iaload, 1) := by decide +kernel
theorem dX0_writeBlock_315 : decode cX0_writeBlock 315 = .ok (.ifCond .le 8, 3) := by decide +kernel
theorem dX0_writeBlock_318 : decode cX0_writeBlock 318 = .ok (.bipush 12, 2) := by decide +kernel
theorem dX0_writeBlock_320 : decode cX0_writeBlock 320 = .ok (.goto 4, 3) := by decide +kernel
theorem dX0_writeBlock_323 : decode cX0_writeBlock 323 = .ok (.iconst 0, 1) := by decide +kernel
theorem dX0_writeBlock_324 : decode cX0_writeBlock 324 = .ok (.iadd, 1) := by decide +kernel
theorem dX0_writeBlock_325 : decode cX0_writeBlock 325 = .ok (.istore 6, 2) := by decide +kernel
theorem dX0_writeBlock_327 : decode cX0_writeBlock 327 = .ok (.aload_n 0, 1) := by decide +kernel
theorem dX0_writeBlock_328 : decode cX0_writeBlock 328 = .ok (.getfield 29, 3) := by decide +kernel
theorem dX0_writeBlock_331 : decode cX0_writeBlock 331 = .ok (.iconst 1, 1) := by decide +kernel
theorem dX0_writeBlock_332 : decode cX0_writeBlock 332 = .ok (.iload 5, 2) := by decide +kernel
theorem dX0_writeBlock_334 : decode cX0_writeBlock 334 = .ok (.iconst 1, 1) := by decide +kernel
theorem dX0_writeBlock_335 : decode cX0_writeBlock 335 = .ok (.iadd, 1) := by decide +kernel
theorem dX0_writeBlock_336 : decode cX0_writeBlock 336 = .ok (.iload 6, 2) := by decide +kernel
theorem dX0_writeBlock_338 : decode cX0_writeBlock 338 = .ok (.iadd, 1) := by decide +kernel
theorem dX0_writeBlock_339 : decode cX0_writeBlock 339 = .ok (.invokevirtual 162, 3) := by decide +kernel
theorem dX0_writeBlock_342 : decode cX0_writeBlock 342 = .ok (.aload_n 0, 1) := by decide +kernel
theorem dX0_writeBlock_343 : decode cX0_writeBlock 343 = .ok (.getfield 29, 3) := by decide +kernel
theorem dX0_writeBlock_346 : decode cX0_writeBlock 346 = .ok (.iconst 4, 1) := by decide +kernel
theorem dX0_writeBlock_347 : decode cX0_writeBlock 347 = .ok (.aload_n 0, 1) := by decide +kernel
theorem dX0_writeBlock_348 : decode cX0_writeBlock 348 = .ok (.getfield 36, 3) := by decide +kernel
theorem dX0_writeBlock_351 : decode cX0_writeBlock 351 = .ok (.getfield 216, 3) := by decide +kernel
theorem dX0_writeBlock_354 : decode cX0_writeBlock 354 = .ok (.iload_n 2, 1) := by decide +kernel
theorem dX0_writeBlock_355 : decode cX0_writeBlock 355 = .ok (.iconst 5, 1) := by decide +kernel
theorem dX0_writeBlock_356 : decode cX0_writeBlock 356 = .ok (.iadd, 1) := by decide +kernel
theorem dX0_writeBlock_357 : decode cX0_writeBlock 357 = .ok (.iaload, 1) := by decide +kernel
theorem dX0_writeBlock_358 : decode cX0_writeBlock 358 = .ok (.invokevirtual 162, 3) := by decide +kernel
theorem dX0_writeBlock_361 : decode cX0_writeBlock 361 = .ok (.goto 37, 3) := by decide +kernel
theorem dX0_writeBlock_364 : decode cX0_writeBlock 364 = .ok (.aload_n 0, 1) := by decide +kernel
theorem dX0_writeBlock_365 : decode cX0_writeBlock 365 = .ok (.getfield 29, 3) := by decide +kernel
theorem dX0_writeBlock_368 : decode cX0_writeBlock 368 = .ok (.iconst 1, 1) := by decide +kernel
theorem dX0_writeBlock_369 : decode cX0_writeBlock 369 = .ok (.iload 5, 2) := by decide +kernel
theorem dX0_writeBlock_371 : decode cX0_writeBlock 371 = .ok (.invokevirtual 162, 3) := by decide +kernel
theorem dX0_writeBlock_374 : decode cX0_writeBlock 374 = .ok (.aload_n 0, 1) := by decide +kernel
theorem dX0_writeBlock_375 : decode cX0_writeBlock 375 = .ok (.iload_n 1, 1) := by decide +kernel
theorem dX0_writeBlock_376 : decode cX0_writeBlock 376 = .ok (.invokevirtual 572, 3) := by decide +kernel
theorem dX0_writeBlock_379 : decode cX0_writeBlock 379 = .ok (.aload_n 0, 1) := by decide +kernel
theorem dX0_writeBlock_380 : decode cX0_writeBlock 380 = .ok (.getfield 29, 3) := by decide +kernel
theorem dX0_writeBlock_383 : decode cX0_writeBlock 383 = .ok (.iconst 4, 1) := by decide +kernel
theorem dX0_writeBlock_384 : decode cX0_writeBlock 384 = .ok (.aload_n 0, 1) := by decide +kernel
theorem dX0_writeBlock_385 : decode cX0_writeBlock 385 = .ok (.getfield 36, 3) := by decide +kernel
theorem dX0_writeBlock_388 : decode cX0_writeBlock 388 = .ok (.getfield 216, 3) := by decide +kernel
theorem dX0_writeBlock_391 : decode cX0_writeBlock 391 = .ok (.iload_n 2, 1) := by decide +kernel
theorem dX0_writeBlock_392 : decode cX0_writeBlock 392 = .ok (.iconst 5, 1) := by decide +kernel
theorem dX0_writeBlock_393 : decode cX0_writeBlock 393 = .ok (.iadd, 1) := by decide +kernel
theorem dX0_writeBlock_394 : decode cX0_writeBlock 394 = .ok (.iaload, 1) := by decide +kernel
theorem dX0_writeBlock_395 : decode cX0_writeBlock 395 = .ok (.invokevirtual 162, 3) := by decide +kernel
theorem dX0_writeBlock_398 : decode cX0_writeBlock 398 = .ok (.return_, 1) := by decide +kernel
noncomputable def FX0_writeBlock (G : GG) (M : DD) (a : Nat) (p0 : Int32) : Option (NN × DD) :=
  ltt ((((8 : Int32)) * p0)) fun x1 =>
  dr (xt G []) 9 ((M.2 a 3)) fun b2 =>
  dr (xt G []) 3 ((M.2 b2 1)) fun b3 =>
  dr (xt G []) 13 ((M.2 b3 0)) fun b4 =>
  chk (¬ (((1 : Int32)) < 0 ∨ (xt G []).2.2 b4 ≤ ((1 : Int32)).toNatClampNeg)) <|
  ltt (M.1 b4 ((1 : Int32)).toNatClampNeg) fun x5 =>
  ltt ((x1 + ((0 : Int32)))) fun x6 =>
  dr (xt G []) 13 ((M.2 b2 6)) fun b7 =>
  chk (¬ (x6 < 0 ∨ (xt G []).2.2 b7 ≤ x6.toNatClampNeg)) <|
  ltt (M.1 b7 x6.toNatClampNeg) fun x8 =>
  bnd (if x5 = ((2 : Int32)) then (bnd (FX0_isSkipped (xt G []) M a p0) fun y140 =>
  bnd (if y140.2 = ((0 : Int32)) then (bnd (if x5 = ((2 : Int32)) then (some ([], y140.1)) else
  (dr (xt G []) 10 ((y140.1.2 a 2)) fun b153 =>
  ltt (y140.1.1 b153 3) fun x154 =>
  bnd (FX10_ue (xt G []) y140.1 b153 ((0 : Int32)) x154) fun y155 =>
  app y155.1 <|
  ltt ([] ++ y155.1) fun L157 =>
  dr (xt G L157) 10 ((y155.2.2 a 2)) fun b160 =>
  ltt (uI y155.2 b160 3 ((0 : Int32))) fun M161 =>
  some ([], M161))) fun (y147 : NN × DD) =>
  app y147.1 <|
  ltt ([] ++ y147.1) fun L149 =>
  some ([], y147.2)) else
  (dr (xt G []) 10 ((y140.1.2 a 2)) fun b162 =>
  ltt (y140.1.1 b162 3) fun x163 =>
  ltt ((x163 + ((1 : Int32)))) fun x164 =>
  ltt (uI y140.1 b162 3 x164) fun M165 =>
  some ([], M165))) fun (y141 : NN × DD) =>
  app y141.1 <|
  ltt ([] ++ y141.1) fun L143 =>
  some ([], y141.2)) else
  (dr (xt G []) 13 ((M.2 b2 2)) fun b166 =>
  chk (¬ (((1 : Int32)) < 0 ∨ (xt G []).2.2 b166 ≤ ((1 : Int32)).toNatClampNeg)) <|
  ltt (M.1 b166 ((1 : Int32)).toNatClampNeg) fun x167 =>
  bnd (if x167 = ((1 : Int32)) then (bnd (FX0_isSkipped (xt G []) M a p0) fun y200 =>
  bnd (if y200.2 = ((0 : Int32)) then (some ((0 : Int64))) else
  (some ((1 : Int64)))) fun (y201 : Int64) =>
  dr (xt G []) 10 ((M.2 a 2)) fun b202 =>
  bnd (FX10_code (xt G []) y200.1 b202 ((0 : Int32)) y201 ((1 : Int32))) fun y203 =>
  app y203.1 <|
  ltt ([] ++ y203.1) fun L205 =>
  some ([], y203.2)) else
  (bnd (FX0_isSkipped (xt G []) M a p0) fun y174 =>
  bnd (if y174.2 = ((0 : Int32)) then (bnd (if x5 = ((2 : Int32)) then (some ([], y174.1)) else
  (dr (xt G []) 10 ((y174.1.2 a 2)) fun b187 =>
  ltt (y174.1.1 b187 3) fun x188 =>
  bnd (FX10_ue (xt G []) y174.1 b187 ((0 : Int32)) x188) fun y189 =>
  app y189.1 <|
  ltt ([] ++ y189.1) fun L191 =>
  dr (xt G L191) 10 ((y189.2.2 a 2)) fun b194 =>
  ltt (uI y189.2 b194 3 ((0 : Int32))) fun M195 =>
  some ([], M195))) fun (y181 : NN × DD) =>
  app y181.1 <|
  ltt ([] ++ y181.1) fun L183 =>
  some ([], y181.2)) else
  (dr (xt G []) 10 ((y174.1.2 a 2)) fun b196 =>
  ltt (y174.1.1 b196 3) fun x197 =>
  ltt ((x197 + ((1 : Int32)))) fun x198 =>
  ltt (uI y174.1 b196 3 x198) fun M199 =>
  some ([], M199))) fun (y175 : NN × DD) =>
  app y175.1 <|
  ltt ([] ++ y175.1) fun L177 =>
  some ([], y175.2))) fun (y168 : NN × DD) =>
  app y168.1 <|
  ltt ([] ++ y168.1) fun L170 =>
  some ([], y168.2))) fun (y9 : NN × DD) =>
  app y9.1 <|
  ltt ([] ++ y9.1) fun L11 =>
  bnd (FX0_isSkipped (xt G L11) y9.2 a p0) fun y13 =>
  if y13.2 = ((0 : Int32)) then (bnd (if x5 = ((2 : Int32)) then (some ((0 : Int32))) else
  (bnd (if x5 = ((0 : Int32)) then (some ((5 : Int32))) else
  (some ((23 : Int32)))) fun (y136 : Int32) =>
  some (y136))) fun (y15 : Int32) =>
  bnd (if x8 = ((2 : Int32)) then (ltt ((y15 + ((25 : Int32)))) fun x121 =>
  dr (xt G L11) 10 ((y13.1.2 a 2)) fun b122 =>
  bnd (FX10_ue (xt G L11) y13.1 b122 ((1 : Int32)) x121) fun y123 =>
  app y123.1 <|
  ltt (L11 ++ y123.1) fun L125 =>
  dr (xt G L125) 6 ((y123.2.2 a 4)) fun b128 =>
  dr (xt G L125) 10 ((y123.2.2 a 2)) fun b129 =>
  bnd (FX10_rawSamples (xt G L125) y123.2 b129 ((y123.2.2 b128 0))) fun y130 =>
  app y130.1 <|
  ltt (L125 ++ y130.1) fun L132 =>
  some ([], y130.2)) else
  (bnd (if x8 = ((3 : Int32)) then (dr (xt G L11) 9 ((y13.1.2 a 3)) fun b87 =>
  ltt ((x1 + ((1 : Int32)))) fun x88 =>
  dr (xt G L11) 13 ((y13.1.2 b87 6)) fun b89 =>
  chk (¬ (x88 < 0 ∨ (xt G L11).2.2 b89 ≤ x88.toNatClampNeg)) <|
  ltt (y13.1.1 b89 x88.toNatClampNeg) fun x90 =>
  dr (xt G L11) 10 ((y13.1.2 a 2)) fun b91 =>
  bnd (FX10_ue (xt G L11) y13.1 b91 ((1 : Int32)) x90) fun y92 =>
  app y92.1 <|
  ltt (L11 ++ y92.1) fun L94 =>
  bnd (itrA (fun (s98 : NN × Int32 × DD) => ((if ((4 : Int32)) ≤ s98.2.1 then (some ([], .inr ((s98.2.1, s98.2.2)))) else
  (bnd (if x5 = ((0 : Int32)) then (some ((3 : Int32))) else
  (some ((22 : Int32)))) fun (y108 : Int32) =>
  if x90 = y108 then (dr (xt G s98.1) 9 ((s98.2.2.2 a 3)) fun b110 =>
  dr (xt G s98.1) 13 ((s98.2.2.2 b110 12)) fun b111 =>
  chk (¬ (s98.2.1 < 0 ∨ (xt G s98.1).2.2 b111 ≤ s98.2.1.toNatClampNeg)) <|
  ltt (s98.2.2.1 b111 s98.2.1.toNatClampNeg) fun x112 =>
  dr (xt G s98.1) 10 ((s98.2.2.2 a 2)) fun b113 =>
  bnd (FX10_ue (xt G s98.1) s98.2.2 b113 ((5 : Int32)) x112) fun y114 =>
  app y114.1 <|
  ltt (s98.1 ++ y114.1) fun L116 =>
  ltt (s98.2.1 + (1 : Int32)) fun x119 =>
  some ([], .inl (L116, (x119, y114.2)))) else
  (some ([], .inr ((s98.2.1, s98.2.2)))))) : Option (NN × ((NN × Int32 × DD) ⊕ (Int32 × DD))))) 1000000 (L94, ((0 : Int32), y92.2))) fun (y97 : NN × Int32 × DD) =>
  app y97.1 <|
  ltt (L94 ++ y97.1) fun L100 =>
  some ([], y97.2.2)) else
  (bnd (if x8 = ((1 : Int32)) then (dr (xt G L11) 9 ((y13.1.2 a 3)) fun b55 =>
  ltt ((((16 : Int32)) * p0)) fun x56 =>
  dr (xt G L11) 13 ((y13.1.2 b55 7)) fun b57 =>
  chk (¬ (x56 < 0 ∨ (xt G L11).2.2 b57 ≤ x56.toNatClampNeg)) <|
  ltt (y13.1.1 b57 x56.toNatClampNeg) fun x58 =>
  ltt ((x1 + ((4 : Int32)))) fun x59 =>
  dr (xt G L11) 13 ((y13.1.2 b55 6)) fun b60 =>
  chk (¬ (x59 < 0 ∨ (xt G L11).2.2 b60 ≤ x59.toNatClampNeg)) <|
  ltt (y13.1.1 b60 x59.toNatClampNeg) fun x61 =>
  ltt ((((4 : Int32)) * x61)) fun x62 =>
  ltt ((x58 + x62)) fun x63 =>
  ltt ((x1 + ((3 : Int32)))) fun x64 =>
  chk (¬ (x64 < 0 ∨ (xt G L11).2.2 b60 ≤ x64.toNatClampNeg)) <|
  ltt (y13.1.1 b60 x64.toNatClampNeg) fun x65 =>
  bnd (if x65 ≤ ((0 : Int32)) then (some ((0 : Int32))) else
  (some ((12 : Int32)))) fun (y66 : Int32) =>
  ltt ((x63 + y66)) fun x67 =>
  ltt ((y15 + ((1 : Int32)))) fun x68 =>
  ltt ((x68 + x67)) fun x69 =>
  dr (xt G L11) 10 ((y13.1.2 a 2)) fun b70 =>
  bnd (FX10_ue (xt G L11) y13.1 b70 ((1 : Int32)) x69) fun y71 =>
  app y71.1 <|
  ltt (L11 ++ y71.1) fun L73 =>
  dr (xt G L73) 9 ((y71.2.2 a 3)) fun b76 =>
  ltt ((x1 + ((5 : Int32)))) fun x77 =>
  dr (xt G L73) 13 ((y71.2.2 b76 6)) fun b78 =>
  chk (¬ (x77 < 0 ∨ (xt G L73).2.2 b78 ≤ x77.toNatClampNeg)) <|
  ltt (y71.2.1 b78 x77.toNatClampNeg) fun x79 =>
  dr (xt G L73) 10 ((y71.2.2 a 2)) fun b80 =>
  bnd (FX10_ue (xt G L73) y71.2 b80 ((4 : Int32)) x79) fun y81 =>
  app y81.1 <|
  ltt (L73 ++ y81.1) fun L83 =>
  some ([], y81.2)) else
  (dr (xt G L11) 10 ((y13.1.2 a 2)) fun b34 =>
  bnd (FX10_ue (xt G L11) y13.1 b34 ((1 : Int32)) y15) fun y35 =>
  app y35.1 <|
  ltt (L11 ++ y35.1) fun L37 =>
  bnd (FX0_writeModes (xt G L37) y35.2 a p0) fun y40 =>
  app y40.1 <|
  ltt (L37 ++ y40.1) fun L42 =>
  dr (xt G L42) 9 ((y40.2.2 a 3)) fun b45 =>
  ltt ((x1 + ((5 : Int32)))) fun x46 =>
  dr (xt G L42) 13 ((y40.2.2 b45 6)) fun b47 =>
  chk (¬ (x46 < 0 ∨ (xt G L42).2.2 b47 ≤ x46.toNatClampNeg)) <|
  ltt (y40.2.1 b47 x46.toNatClampNeg) fun x48 =>
  dr (xt G L42) 10 ((y40.2.2 a 2)) fun b49 =>
  bnd (FX10_ue (xt G L42) y40.2 b49 ((4 : Int32)) x48) fun y50 =>
  app y50.1 <|
  ltt (L42 ++ y50.1) fun L52 =>
  some ([], y50.2))) fun (y28 : NN × DD) =>
  app y28.1 <|
  ltt (L11 ++ y28.1) fun L30 =>
  some ([], y28.2))) fun (y22 : NN × DD) =>
  app y22.1 <|
  ltt (L11 ++ y22.1) fun L24 =>
  some ([], y22.2))) fun (y16 : NN × DD) =>
  app y16.1 <|
  ltt (L11 ++ y16.1) fun L18 =>
  some ([], y16.2)) else
  (some ([], y13.1))
set_option maxHeartbeats 4000000 in
set_option maxRecDepth 100000 in
theorem kX0_writeBlock (l : Launch) (D : va_G) (ct : CT) (ad : Nat → Nat) (Z : Nat → Nat) (G : GG) (M : DD) (sz : Nat) (a : Nat) (p0 : Int32) (y : NN × DD) (hc : a < G.1) (hk : G.2.1 a = 0) (hF : FX0_writeBlock G M a p0 = some y) : Met l yX0_writeBlock wuX0_writeBlock ({ frames := 6, cells := y.1.length, slots := wt y.1, locals := 199 }) (va_Pc [.ref (ad a), .int p0] (kB D ct ad Z G M sz)) (va_Qv (fun (u : Nat → Nat) => agr G.1 ad u) (fun u t => kE D ct u (xt G y.1) (wA ad G sz) y.2 t) (wA ad G sz)) y.1.length (wt y.1) (wA ad G sz) := by
  refine Met.ofW (cc := cX0_writeBlock) (maxL := 8) (ret := none) (by decide) rfl ?_
  intro p e s m args below meth c s₁ B hml hv
  obtain ⟨rfl, hsz, hP, hK, hD0, hZ, hN⟩ := hv
  have hx := B.exec
  have hb := B.bytes
  have hr := B.returns
  have hts := atoms_spec (ws := wuX0_writeBlock) B.pre
  have hown : s.vm.findClass RX0 = some m.cls := findClass_of_methodNamed B.named
  have hlocks := B.notSynchronized
  subst hsz
  have hD := wD_self (sz := s.heap.size) hD0
  have hA9 : ∀ q, s.heap.size ≤ q → wA ad G s.heap.size q := fun q h => Or.inr h
  generalize hAe : wA ad G s.heap.size = A at hD hA9 hZ ⊢
  have hS : va_S A s.heap s.heap [] := va_S.rf
  have hl := lv_entry ([.ref (ad a), .int p0]) (n := 8) (Nat.le_of_ble_eq_true rfl)
  rw [lg_entry_eq]
  generalize (lg_sl ([.ref (ad a), .int p0]) ++ List.replicate (8 - (lg_sl ([.ref (ad a), .int p0])).length) Slot.unset).toArray = ls at hl ⊢
  have hl : lv_has ls 8 [(0, .ref (ad a)), (1, .int p0)] := hl
  unfold FX0_writeBlock at hF
  rw [← wld_0 ct ad G M] at hP hD
  have hk := xt_k0 hc hk
  have hc := xt_l0 hc
  have hag := agr_rf G.1 ad
  obtain ⟨w0, hw0⟩ : ∃ z, z = y := ⟨_, rfl⟩
  rw [← hw0] at hF
  have hT : y.1 = [] ++ w0.1 := by rw [hw0]; rfl
  have h2 : y.2 = w0.2 := by rw [hw0]
  have hbl : y.1.length ≤ y.1.length ∧ wt y.1 ≤ wt y.1 := ⟨Nat.le_refl _, Nat.le_refl _⟩
  refine lv_bipush (v := (8 : Int32)) hx hb dX0_writeBlock_0 (by decide) ?_
  refine lv_iload_n hx hb dX0_writeBlock_2 rfl (lv_at hl 1 rfl) ?_
  refine lv_imul hx hb dX0_writeBlock_3 ?_
  obtain ⟨x1, ex1, hF⟩ := ltt_some hF
  refine lv_topi (fun zx1 ezx1 => ?_)
  obtain rfl : x1 = zx1 := ex1.trans ezx1.symm
  refine lv_istore_n (lv' := [(2, .int x1), (0, .ref (ad a)), (1, .int p0)]) hx hb dX0_writeBlock_4 rfl hl (by decide) rfl (fun ls hl => ?_)
  refine lv_aload_n hx hb dX0_writeBlock_5 rfl (lv_at hl 1 rfl) ?_
  refine va_get (D := D) (ci := 0) (v := va_re ad (M.2 a 3)) (C := RX0) (T := TX0) (N := 21) hx hb hts (mus hf_X0) hown hK hP a (wld_o ct ad (xt G []) M hc hk (by decide)) rfl 3 (by decide) (hts (.fieldLink RX0 36 "VideoSuite$Coder" "work" "LVideoSuite$Work;") (mu mw_817)) (fun _ h9 => h9) rfl dX0_writeBlock_6 ?_
  obtain ⟨b2, ho2, hc2, hk2, hF⟩ := dr_some hF
  refine W_st (st' := [.ref (ad b2)]) (by rw [va_some ho2]) ?_
  refine va_get (D := D) (ci := 9) (v := va_re ad (M.2 b2 1)) (C := RX9) (T := TX9) (N := 20) hx hb hts (mus hf_X9) hown hK hP b2 (wld_o ct ad (xt G []) M hc2 hk2 (by decide)) rfl 1 (by decide) (hts (.fieldLink RX0 81 "VideoSuite$Work" "head" "LVideoSuite$Header;") (mu mw_425)) (fun _ h9 => h9) rfl dX0_writeBlock_9 ?_
  obtain ⟨b3, ho3, hc3, hk3, hF⟩ := dr_some hF
  refine W_st (st' := [.ref (ad b3)]) (by rw [va_some ho3]) ?_
  refine va_get (D := D) (ci := 3) (v := va_re ad (M.2 b3 0)) (C := RX3) (T := TX3) (N := 4) hx hb hts (mus hf_X3) hown hK hP b3 (wld_o ct ad (xt G []) M hc3 hk3 (by decide)) rfl 0 (by decide) (hts (.fieldLink RX0 252 "VideoSuite$Header" "v" "[I") (mu mw_620)) (fun _ h9 => h9) rfl dX0_writeBlock_12 ?_
  refine lv_iconst (v := (1 : Int32)) hx hb dX0_writeBlock_15 (by decide) ?_
  obtain ⟨b4, ho4, hc4, hk4, hF⟩ := dr_some hF
  refine W_st (st' := [.int (1 : Int32), .ref (ad b4)]) (by rw [va_some ho4]) ?_
  obtain ⟨hvc, hF⟩ := chk_some hF
  refine va_iald hx hb hK hP b4 1 (wld_i ct ad (xt G []) M hc4 hk4) rfl hvc dX0_writeBlock_16 ?_
  obtain ⟨x5, ex5, hF⟩ := ltt_some hF
  refine lv_topi (fun zx5 ezx5 => ?_)
  obtain rfl : x5 = zx5 := ex5.trans ezx5.symm
  refine lv_istore_n (lv' := [(3, .int x5), (2, .int x1), (0, .ref (ad a)), (1, .int p0)]) hx hb dX0_writeBlock_17 rfl hl (by decide) rfl (fun ls hl => ?_)
  refine lv_aload_n hx hb dX0_writeBlock_18 rfl (lv_at hl 2 rfl) ?_
  refine va_get (D := D) (ci := 0) (v := va_re ad (M.2 a 3)) (C := RX0) (T := TX0) (N := 21) hx hb hts (mus hf_X0) hown hK hP a (wld_o ct ad (xt G []) M hc hk (by decide)) rfl 3 (by decide) (hts (.fieldLink RX0 36 "VideoSuite$Coder" "work" "LVideoSuite$Work;") (mu mw_817)) (fun _ h9 => h9) rfl dX0_writeBlock_19 ?_
  refine W_st (st' := [.ref (ad b2)]) (by rw [va_some ho2]) ?_
  refine va_get (D := D) (ci := 9) (v := va_re ad (M.2 b2 6)) (C := RX9) (T := TX9) (N := 20) hx hb hts (mus hf_X9) hown hK hP b2 (wld_o ct ad (xt G []) M hc2 hk2 (by decide)) rfl 6 (by decide) (hts (.fieldLink RX0 216 "VideoSuite$Work" "info" "[I") (mu mw_445)) (fun _ h9 => h9) rfl dX0_writeBlock_22 ?_
  refine lv_iload_n hx hb dX0_writeBlock_25 rfl (lv_at hl 1 rfl) ?_
  refine lv_iconst (v := (0 : Int32)) hx hb dX0_writeBlock_26 (by decide) ?_
  refine lv_iadd hx hb dX0_writeBlock_27 ?_
  obtain ⟨x6, ex6, hF⟩ := ltt_some hF
  refine lv_topi (fun zx6 ezx6 => ?_)
  obtain rfl : x6 = zx6 := ex6.trans ezx6.symm
  obtain ⟨b7, ho7, hc7, hk7, hF⟩ := dr_some hF
  refine W_st (st' := [.int x6, .ref (ad b7)]) (by rw [va_some ho7]) ?_
  obtain ⟨hvc, hF⟩ := chk_some hF
  refine va_iald hx hb hK hP b7 1 (wld_i ct ad (xt G []) M hc7 hk7) rfl hvc dX0_writeBlock_28 ?_
  obtain ⟨x8, ex8, hF⟩ := ltt_some hF
  refine lv_topi (fun zx8 ezx8 => ?_)
  obtain rfl : x8 = zx8 := ex8.trans ezx8.symm
  refine lv_istore (lv' := [(4, .int x8), (3, .int x5), (2, .int x1), (0, .ref (ad a)), (1, .int p0)]) hx hb dX0_writeBlock_29 hl (by decide) rfl (fun ls hl => ?_)
  refine lv_iload_n hx hb dX0_writeBlock_31 rfl (lv_at hl 1 rfl) ?_
  refine lv_iconst (v := (2 : Int32)) hx hb dX0_writeBlock_32 (by decide) ?_
  obtain ⟨y9, hy9, hF⟩ := bnd_some hF
  obtain ⟨w10, hF, ew10⟩ := app_some hF
  obtain ⟨L11, eL11, hF⟩ := ltt_some hF
  have hT11 : y.1 = ([] ++ y9.1) ++ w10.1 := by rw [hT, ew10]; simp only [List.append_assoc]
  have hbl11 : L11.length ≤ y.1.length ∧ wt L11 ≤ wt y.1 := by rw [eL11]; exact room_d hT11 hbl
  have J9 : ∀ (ad12 : Nat → Nat), agr G.1 ad ad12 → ∀ (H : Heap) (locs : List Loc) (ls : Array Slot), va_P D classes (wld ct ad12 (xt G L11) y9.2) H → va_D A (wld ct ad12 (xt G L11) y9.2) → va_S A s.heap H locs → lv_has ls 8 [(4, .int x8), (3, .int x5), (2, .int x1), (0, .ref (ad12 a)), (1, .int p0)] → W p l e (headSpec wuX0_writeBlock ({ frames := 6, cells := y.1.length, slots := wt y.1, locals := 199 })).room s m ([.ref (ad a), .int p0] : List Value).toArray below meth c H locs (L11 : NN).length (wt L11) (MQ below (va_Qv (fun (u : Nat → Nat) => agr G.1 ad u) (fun u t => kE D ct u (xt G y.1) A y.2 t) A) ([.ref (ad a), .int p0] : List Value).toArray s y.1.length (wt y.1) A) (F0 m 126 ls []) := by
    intro ad12 hag H locs ls hP hD hS hl
    have hT : y.1 = L11 ++ w10.1 := by rw [hT11, eL11]
    have h2 : y.2 = w10.2 := by rw [h2, ew10]
    have hk : (xt G L11).2.1 a = 0 := by rw [eL11]; exact xt_k _ hc hk
    have hc : a < (xt G L11).1 := by rw [eL11]; exact xt_l _ hc
    have hk2 : (xt G L11).2.1 b2 = 9 := by rw [eL11]; exact xt_k _ hc2 hk2
    have hc2 : b2 < (xt G L11).1 := by rw [eL11]; exact xt_l _ hc2
    have hk3 : (xt G L11).2.1 b3 = 3 := by rw [eL11]; exact xt_k _ hc3 hk3
    have hc3 : b3 < (xt G L11).1 := by rw [eL11]; exact xt_l _ hc3
    have hk4 : (xt G L11).2.1 b4 = 13 := by rw [eL11]; exact xt_k _ hc4 hk4
    have hc4 : b4 < (xt G L11).1 := by rw [eL11]; exact xt_l _ hc4
    have hk7 : (xt G L11).2.1 b7 = 13 := by rw [eL11]; exact xt_k _ hc7 hk7
    have hc7 : b7 < (xt G L11).1 := by rw [eL11]; exact xt_l _ hc7
    refine lv_aload_n hx hb dX0_writeBlock_126 rfl (lv_at hl 3 rfl) ?_
    refine lv_iload_n hx hb dX0_writeBlock_127 rfl (lv_at hl 4 rfl) ?_
    obtain ⟨y13, hy13, hF⟩ := bnd_some hF
    have hf9 := wA_in hD hA9 hS
    refine va_calli (va_runV (As := [.int p0]) (rest := []) ⟨hx, hb, hml, hown, hts⟩ (kX0_isSkipped l D ct ad12 Z (xt G L11) y9.2 H.size a p0 y13 hc hk hy13) (cwV 1 hts gX0_writeBlock_X0_isSkipped rfl rfl rfl (by decide +kernel) ⟨Nat.le_of_ble_eq_true rfl, Nat.le_of_ble_eq_true rfl⟩) ⟨fun a U g mk q => by obtain ⟨q0, q1, qP, qK, qD, qZ, qN⟩ := q; exact ⟨q0, q1, qP, va_K.moved (u := U) (U := U.calling g mk a) (Vm.Alike.refl U.vm) qK, qD, sF.moved (u := U) (U := U.calling g mk a) (Vm.Alike.refl U.vm) qZ, nF.same rfl qN⟩, va_recv hK hP (ci := 0) (q0 := a) rfl (wld_o ct ad12 (xt G L11) y9.2 hc hk (by decide)), fun U hU hW => ⟨rfl, by rw [hU], by rw [hU]; exact hP, va_K.moved hW.alike hK, hD.weaken (fun _ _ _ _ => trivial), by rw [hU]; exact ((hZ.kept hS.2.1).narrow hf9).moved hW.alike, hN.warm hW⟩⟩ rfl rfl hl.1 rfl (lv_room (Nat.le_of_ble_eq_true rfl)) dX0_writeBlock_128 (room_d hT hbl)) hS (fun q _ h => hf9 q h) hf9 (fun r u t H locs ht hvm hw hB hz1 hk1 hS => ?_)
    obtain ⟨hP, hK9, hD9⟩ := hB
    rw [ht] at hP
    try dsimp only at hw
    subst hw
    refine W_cs (k := (L11 : NN).length) (n := wt L11) rfl rfl ?_
    have hD := hD9.weaken (fun _ q _ h => hf9 q.1 h)
    refine lv_if_eq (tgt := 135) hx hb dX0_writeBlock_131 (by decide) (fun c14 => ?_) (fun c14 => ?_)
    · rw [if_pos c14] at hF
      refine lv_iload_n hx hb dX0_writeBlock_135 rfl (lv_at hl 1 rfl) ?_
      refine lv_iconst (v := (2 : Int32)) hx hb dX0_writeBlock_136 (by decide) ?_
      obtain ⟨y15, hy15, hF⟩ := bnd_some hF
      have J15 : ∀ (H : Heap) (locs : List Loc) (ls : Array Slot), va_P D classes (wld ct ad12 (xt G L11) y13.1) H → va_D A (wld ct ad12 (xt G L11) y13.1) → va_S A s.heap H locs → lv_has ls 8 [(4, .int x8), (3, .int x5), (2, .int x1), (0, .ref (ad12 a)), (1, .int p0)] → W p l e (headSpec wuX0_writeBlock ({ frames := 6, cells := y.1.length, slots := wt y.1, locals := 199 })).room s m ([.ref (ad a), .int p0] : List Value).toArray below meth c H locs (L11 : NN).length (wt L11) (MQ below (va_Qv (fun (u : Nat → Nat) => agr G.1 ad u) (fun u t => kE D ct u (xt G y.1) A y.2 t) A) ([.ref (ad a), .int p0] : List Value).toArray s y.1.length (wt y.1) A) (F0 m 154 ls [.int y15]) := by
        intro H locs ls hP hD hS hl
        refine lv_istore (lv' := [(5, .int y15), (4, .int x8), (3, .int x5), (2, .int x1), (0, .ref (ad12 a)), (1, .int p0)]) hx hb dX0_writeBlock_154 hl (by decide) rfl (fun ls hl => ?_)
        refine lv_iload hx hb dX0_writeBlock_156 (lv_at hl 1 rfl) ?_
        refine lv_iconst (v := (2 : Int32)) hx hb dX0_writeBlock_158 (by decide) ?_
        obtain ⟨y16, hy16, hF⟩ := bnd_some hF
        obtain ⟨w17, hF, ew17⟩ := app_some hF
        obtain ⟨L18, eL18, hF⟩ := ltt_some hF
        have hT18 : y.1 = (L11 ++ y16.1) ++ w17.1 := by rw [hT, ew17]; simp only [List.append_assoc]
        have hbl18 : L18.length ≤ y.1.length ∧ wt L18 ≤ wt y.1 := by rw [eL18]; exact room_d hT18 hbl
        have J16 : ∀ (ad19 : Nat → Nat), agr G.1 ad ad19 → ∀ (H : Heap) (locs : List Loc) (ls : Array Slot), va_P D classes (wld ct ad19 (xt G L18) y16.2) H → va_D A (wld ct ad19 (xt G L18) y16.2) → va_S A s.heap H locs → lv_has ls 8 [] → W p l e (headSpec wuX0_writeBlock ({ frames := 6, cells := y.1.length, slots := wt y.1, locals := 199 })).room s m ([.ref (ad a), .int p0] : List Value).toArray below meth c H locs (L18 : NN).length (wt L18) (MQ below (va_Qv (fun (u : Nat → Nat) => agr G.1 ad u) (fun u t => kE D ct u (xt G y.1) A y.2 t) A) ([.ref (ad a), .int p0] : List Value).toArray s y.1.length (wt y.1) A) (F0 m 398 ls []) := by
          intro ad19 hag H locs ls hP hD hS hl
          have hT : y.1 = L18 ++ w17.1 := by rw [hT18, eL18]
          have h2 : y.2 = w17.2 := by rw [h2, ew17]
          have hk : (xt G L18).2.1 a = 0 := by rw [eL18]; exact xt_k _ hc hk
          have hc : a < (xt G L18).1 := by rw [eL18]; exact xt_l _ hc
          have hk2 : (xt G L18).2.1 b2 = 9 := by rw [eL18]; exact xt_k _ hc2 hk2
          have hc2 : b2 < (xt G L18).1 := by rw [eL18]; exact xt_l _ hc2
          have hk3 : (xt G L18).2.1 b3 = 3 := by rw [eL18]; exact xt_k _ hc3 hk3
          have hc3 : b3 < (xt G L18).1 := by rw [eL18]; exact xt_l _ hc3
          have hk4 : (xt G L18).2.1 b4 = 13 := by rw [eL18]; exact xt_k _ hc4 hk4
          have hc4 : b4 < (xt G L18).1 := by rw [eL18]; exact xt_l _ hc4
          have hk7 : (xt G L18).2.1 b7 = 13 := by rw [eL18]; exact xt_k _ hc7 hk7
          have hc7 : b7 < (xt G L18).1 := by rw [eL18]; exact xt_l _ hc7
          obtain rfl := Option.some.inj hF
          have e1 : y.1 = L18 := by rw [hT]; exact List.append_nil _
          have e2 : y.2 = y16.2 := h2
          refine W.widen (k := y.1.length) (n := wt y.1) (Nat.le_of_eq (by rw [e1])) (Nat.le_of_eq (by rw [e1])) ?_
          exact W.vret hx hb hr (fun t ht hW => ⟨⟨ad19, rfl, hag, (by unfold kE; rw [e1, e2]; exact ⟨by rw [ht]; exact hP, va_K.moved hW.alike hK, hD⟩)⟩, hS.F ht⟩) hS.2.2 dX0_writeBlock_398
        clear hF
        obtain ⟨w20, hw20⟩ : ∃ z, z = y16 := ⟨_, rfl⟩
        have hF := hy16
        rw [← hw20] at hF
        clear hy16
        have hT : L18 = L11 ++ w20.1 := by rw [eL18, hw20]
        have h2 : y16.2 = w20.2 := by rw [hw20]
        have hbl := hbl18
        refine lv_icmp_ne (tgt := 192) hx hb dX0_writeBlock_159 (by decide) (fun c21 => ?_) (fun c21 => ?_)
        · rw [if_neg c21] at hF
          refine lv_iload hx hb dX0_writeBlock_192 (lv_at hl 1 rfl) ?_
          refine lv_iconst (v := (3 : Int32)) hx hb dX0_writeBlock_194 (by decide) ?_
          obtain ⟨y22, hy22, hF⟩ := bnd_some hF
          obtain ⟨w23, hF, ew23⟩ := app_some hF
          obtain ⟨L24, eL24, hF⟩ := ltt_some hF
          have hT24 : L18 = (L11 ++ y22.1) ++ w23.1 := by rw [hT, ew23]; simp only [List.append_assoc]
          have hbl24 : L24.length ≤ y.1.length ∧ wt L24 ≤ wt y.1 := by rw [eL24]; exact room_d hT24 hbl
          have J22 : ∀ (ad25 : Nat → Nat), agr G.1 ad ad25 → ∀ (H : Heap) (locs : List Loc) (ls : Array Slot), va_P D classes (wld ct ad25 (xt G L24) y22.2) H → va_D A (wld ct ad25 (xt G L24) y22.2) → va_S A s.heap H locs → lv_has ls 8 [] → W p l e (headSpec wuX0_writeBlock ({ frames := 6, cells := y.1.length, slots := wt y.1, locals := 199 })).room s m ([.ref (ad a), .int p0] : List Value).toArray below meth c H locs (L24 : NN).length (wt L24) (MQ below (va_Qv (fun (u : Nat → Nat) => agr G.1 ad u) (fun u t => kE D ct u (xt G y.1) A y.2 t) A) ([.ref (ad a), .int p0] : List Value).toArray s y.1.length (wt y.1) A) (F0 m 398 ls []) := by
            intro ad25 hag H locs ls hP hD hS hl
            have hT : L18 = L24 ++ w23.1 := by rw [hT24, eL24]
            have h2 : y16.2 = w23.2 := by rw [h2, ew23]
            have hk : (xt G L24).2.1 a = 0 := by rw [eL24]; exact xt_k _ hc hk
            have hc : a < (xt G L24).1 := by rw [eL24]; exact xt_l _ hc
            have hk2 : (xt G L24).2.1 b2 = 9 := by rw [eL24]; exact xt_k _ hc2 hk2
            have hc2 : b2 < (xt G L24).1 := by rw [eL24]; exact xt_l _ hc2
            have hk3 : (xt G L24).2.1 b3 = 3 := by rw [eL24]; exact xt_k _ hc3 hk3
            have hc3 : b3 < (xt G L24).1 := by rw [eL24]; exact xt_l _ hc3
            have hk4 : (xt G L24).2.1 b4 = 13 := by rw [eL24]; exact xt_k _ hc4 hk4
            have hc4 : b4 < (xt G L24).1 := by rw [eL24]; exact xt_l _ hc4
            have hk7 : (xt G L24).2.1 b7 = 13 := by rw [eL24]; exact xt_k _ hc7 hk7
            have hc7 : b7 < (xt G L24).1 := by rw [eL24]; exact xt_l _ hc7
            obtain rfl := Option.some.inj hF
            have e1 : L18 = L24 := by rw [hT]; exact List.append_nil _
            have e2 : y16.2 = y22.2 := h2
            rw [e1] at J16
            try rw [e2] at J16
            exact J16 _ hag _ _ _ hP hD hS (lv_sub hl [] rfl)
          clear hF
          obtain ⟨w26, hw26⟩ : ∃ z, z = y22 := ⟨_, rfl⟩
          have hF := hy22
          rw [← hw26] at hF
          clear hy22
          have hT : L24 = L11 ++ w26.1 := by rw [eL24, hw26]
          have h2 : y22.2 = w26.2 := by rw [hw26]
          have hbl := hbl24
          refine lv_icmp_ne (tgt := 272) hx hb dX0_writeBlock_195 (by decide) (fun c27 => ?_) (fun c27 => ?_)
          · rw [if_neg c27] at hF
            refine lv_iload hx hb dX0_writeBlock_272 (lv_at hl 1 rfl) ?_
            refine lv_iconst (v := (1 : Int32)) hx hb dX0_writeBlock_274 (by decide) ?_
            obtain ⟨y28, hy28, hF⟩ := bnd_some hF
            obtain ⟨w29, hF, ew29⟩ := app_some hF
            obtain ⟨L30, eL30, hF⟩ := ltt_some hF
            have hT30 : L24 = (L11 ++ y28.1) ++ w29.1 := by rw [hT, ew29]; simp only [List.append_assoc]
            have hbl30 : L30.length ≤ y.1.length ∧ wt L30 ≤ wt y.1 := by rw [eL30]; exact room_d hT30 hbl
            have J28 : ∀ (ad31 : Nat → Nat), agr G.1 ad ad31 → ∀ (H : Heap) (locs : List Loc) (ls : Array Slot), va_P D classes (wld ct ad31 (xt G L30) y28.2) H → va_D A (wld ct ad31 (xt G L30) y28.2) → va_S A s.heap H locs → lv_has ls 8 [] → W p l e (headSpec wuX0_writeBlock ({ frames := 6, cells := y.1.length, slots := wt y.1, locals := 199 })).room s m ([.ref (ad a), .int p0] : List Value).toArray below meth c H locs (L30 : NN).length (wt L30) (MQ below (va_Qv (fun (u : Nat → Nat) => agr G.1 ad u) (fun u t => kE D ct u (xt G y.1) A y.2 t) A) ([.ref (ad a), .int p0] : List Value).toArray s y.1.length (wt y.1) A) (F0 m 398 ls []) := by
              intro ad31 hag H locs ls hP hD hS hl
              have hT : L24 = L30 ++ w29.1 := by rw [hT30, eL30]
              have h2 : y22.2 = w29.2 := by rw [h2, ew29]
              have hk : (xt G L30).2.1 a = 0 := by rw [eL30]; exact xt_k _ hc hk
              have hc : a < (xt G L30).1 := by rw [eL30]; exact xt_l _ hc
              have hk2 : (xt G L30).2.1 b2 = 9 := by rw [eL30]; exact xt_k _ hc2 hk2
              have hc2 : b2 < (xt G L30).1 := by rw [eL30]; exact xt_l _ hc2
              have hk3 : (xt G L30).2.1 b3 = 3 := by rw [eL30]; exact xt_k _ hc3 hk3
              have hc3 : b3 < (xt G L30).1 := by rw [eL30]; exact xt_l _ hc3
              have hk4 : (xt G L30).2.1 b4 = 13 := by rw [eL30]; exact xt_k _ hc4 hk4
              have hc4 : b4 < (xt G L30).1 := by rw [eL30]; exact xt_l _ hc4
              have hk7 : (xt G L30).2.1 b7 = 13 := by rw [eL30]; exact xt_k _ hc7 hk7
              have hc7 : b7 < (xt G L30).1 := by rw [eL30]; exact xt_l _ hc7
              obtain rfl := Option.some.inj hF
              have e1 : L24 = L30 := by rw [hT]; exact List.append_nil _
              have e2 : y22.2 = y28.2 := h2
              rw [e1] at J22
              try rw [e2] at J22
              exact J22 _ hag _ _ _ hP hD hS (lv_sub hl [] rfl)
            clear hF
            obtain ⟨w32, hw32⟩ : ∃ z, z = y28 := ⟨_, rfl⟩
            have hF := hy28
            rw [← hw32] at hF
            clear hy28
            have hT : L30 = L11 ++ w32.1 := by rw [eL30, hw32]
            have h2 : y28.2 = w32.2 := by rw [hw32]
            have hbl := hbl30
            refine lv_icmp_ne (tgt := 364) hx hb dX0_writeBlock_275 (by decide) (fun c33 => ?_) (fun c33 => ?_)
            · rw [if_neg c33] at hF
              refine lv_aload_n hx hb dX0_writeBlock_364 rfl (lv_at hl 4 rfl) ?_
              refine va_get (D := D) (ci := 0) (v := va_re ad12 (y13.1.2 a 2)) (C := RX0) (T := TX0) (N := 21) hx hb hts (mus hf_X0) hown hK hP a (wld_o ct ad12 (xt G L11) y13.1 hc hk (by decide)) rfl 2 (by decide) (hts (.fieldLink RX0 29 "VideoSuite$Coder" "writer" "LVideoSuite$Writer;") (mu mw_815)) (fun _ h9 => h9) rfl dX0_writeBlock_365 ?_
              refine lv_iconst (v := (1 : Int32)) hx hb dX0_writeBlock_368 (by decide) ?_
              refine lv_iload hx hb dX0_writeBlock_369 (lv_at hl 0 rfl) ?_
              obtain ⟨b34, ho34, hc34, hk34, hF⟩ := dr_some hF
              refine W_st (st' := [.int y15, .int (1 : Int32), .ref (ad12 b34)]) (by rw [va_some ho34]) ?_
              obtain ⟨y35, hy35, hF⟩ := bnd_some hF
              obtain ⟨w36, hF, ew36⟩ := app_some hF
              obtain ⟨L37, eL37, hF⟩ := ltt_some hF
              have hT37 : L30 = (L11 ++ y35.1) ++ w36.1 := by rw [hT, ew36]; simp only [List.append_assoc]
              have hf9 := wA_in hD hA9 hS
              refine va_callv (va_runV (As := [.int (1 : Int32), .int y15]) (rest := []) ⟨hx, hb, hml, hown, hts⟩ (kX10_ue l D ct ad12 Z (xt G L11) y13.1 _ b34 ((1 : Int32)) y15 y35 hc34 hk34 hy35) (cwV 2 hts gX0_writeBlock_X10_ue rfl rfl rfl (by decide +kernel) ⟨Nat.le_of_ble_eq_true rfl, Nat.le_of_ble_eq_true rfl⟩) ⟨fun a U g mk q => by obtain ⟨q0, q1, qP, qK, qD, qZ, qN⟩ := q; exact ⟨q0, q1, qP, va_K.moved (u := U) (U := U.calling g mk a) (Vm.Alike.refl U.vm) qK, qD, sF.moved (u := U) (U := U.calling g mk a) (Vm.Alike.refl U.vm) qZ, nF.same rfl qN⟩, va_recv hK hP (ci := 10) (q0 := b34) rfl (wld_o ct ad12 (xt G L11) y13.1 hc34 hk34 (by decide)), fun U hU hW => ⟨rfl, by rw [hU], by rw [hU]; exact hP, va_K.moved hW.alike hK, hD.weaken (fun _ _ _ _ => trivial), by rw [hU]; exact ((hZ.kept hS.2.1).narrow hf9).moved hW.alike, hN.warm hW⟩⟩ rfl rfl hl.1 rfl (lv_room (Nat.le_of_ble_eq_true rfl)) dX0_writeBlock_371 (room_s hT37 hbl)) hS (fun q _ h => hf9 q h) hf9 (fun ad38 t H locs ht hvm hw hB hz1 hk1 hS => ?_)
              have hn39 := hw
              obtain ⟨hP, hK9, hD9⟩ := hB
              rw [ht] at hP
              have hD := hD9.weaken (fun _ q _ h => hf9 q.1 h)
              rw [xt_xt, ← eL37] at hP hD
              refine W_cs (k := L37.length) (n := wt L37) (by rw [eL37]; exact (len_s L11 y35.1).symm) (by rw [eL37]; exact (wt_app L11 y35.1).symm) ?_
              have hT : L30 = L37 ++ w36.1 := by rw [hT37, eL37]
              have h2 : y28.2 = w36.2 := by rw [h2, ew36]
              have hl := lv_sub (l' := [(2, .int x1), (0, .ref (ad12 a)), (1, .int p0)]) hl [3, 4, 5] rfl
              have e9 : ([(2, .int x1), (0, .ref (ad12 a)), (1, .int p0)] : List (Nat × Value)) = [(2, .int x1), (0, .ref (ad38 a)), (1, .int p0)] := (by first | rfl | simp only [hn39 a hc])
              rw [e9] at hl
              clear e9
              have hk : (xt G L37).2.1 a = 0 := by rw [eL37]; exact xt_k _ hc hk
              have hc : a < (xt G L37).1 := by rw [eL37]; exact xt_l _ hc
              have hk2 : (xt G L37).2.1 b2 = 9 := by rw [eL37]; exact xt_k _ hc2 hk2
              have hc2 : b2 < (xt G L37).1 := by rw [eL37]; exact xt_l _ hc2
              have hk3 : (xt G L37).2.1 b3 = 3 := by rw [eL37]; exact xt_k _ hc3 hk3
              have hc3 : b3 < (xt G L37).1 := by rw [eL37]; exact xt_l _ hc3
              have hk4 : (xt G L37).2.1 b4 = 13 := by rw [eL37]; exact xt_k _ hc4 hk4
              have hc4 : b4 < (xt G L37).1 := by rw [eL37]; exact xt_l _ hc4
              have hk7 : (xt G L37).2.1 b7 = 13 := by rw [eL37]; exact xt_k _ hc7 hk7
              have hc7 : b7 < (xt G L37).1 := by rw [eL37]; exact xt_l _ hc7
              have hk34 : (xt G L37).2.1 b34 = 10 := by rw [eL37]; exact xt_k _ hc34 hk34
              have hc34 : b34 < (xt G L37).1 := by rw [eL37]; exact xt_l _ hc34
              have hag := agr_t (xt_ge _ _) hag hn39
              refine lv_aload_n hx hb dX0_writeBlock_374 rfl (lv_at hl 1 rfl) ?_
              refine lv_iload_n hx hb dX0_writeBlock_375 rfl (lv_at hl 2 rfl) ?_
              obtain ⟨y40, hy40, hF⟩ := bnd_some hF
              obtain ⟨w41, hF, ew41⟩ := app_some hF
              obtain ⟨L42, eL42, hF⟩ := ltt_some hF
              have hT42 : L30 = (L37 ++ y40.1) ++ w41.1 := by rw [hT, ew41]; simp only [List.append_assoc]
              have hf9 := wA_in hD hA9 hS
              refine va_callv (va_runV (As := [.int p0]) (rest := []) ⟨hx, hb, hml, hown, hts⟩ (kX0_writeModes l D ct ad38 Z (xt G L37) y35.2 _ a p0 y40 hc hk hy40) (cwV 1 hts gX0_writeBlock_X0_writeModes rfl rfl rfl (by decide +kernel) ⟨Nat.le_of_ble_eq_true rfl, Nat.le_of_ble_eq_true rfl⟩) ⟨fun a U g mk q => by obtain ⟨q0, q1, qP, qK, qD, qZ, qN⟩ := q; exact ⟨q0, q1, qP, va_K.moved (u := U) (U := U.calling g mk a) (Vm.Alike.refl U.vm) qK, qD, sF.moved (u := U) (U := U.calling g mk a) (Vm.Alike.refl U.vm) qZ, nF.same rfl qN⟩, va_recv hK hP (ci := 0) (q0 := a) rfl (wld_o ct ad38 (xt G L37) y35.2 hc hk (by decide)), fun U hU hW => ⟨rfl, by rw [hU], by rw [hU]; exact hP, va_K.moved hW.alike hK, hD.weaken (fun _ _ _ _ => trivial), by rw [hU]; exact ((hZ.kept hS.2.1).narrow hf9).moved hW.alike, hN.warm hW⟩⟩ rfl rfl hl.1 rfl (lv_room (Nat.le_of_ble_eq_true rfl)) dX0_writeBlock_376 (room_s hT42 hbl)) hS (fun q _ h => hf9 q h) hf9 (fun ad43 t H locs ht hvm hw hB hz1 hk1 hS => ?_)
              have hn44 := hw
              obtain ⟨hP, hK9, hD9⟩ := hB
              rw [ht] at hP
              have hD := hD9.weaken (fun _ q _ h => hf9 q.1 h)
              rw [xt_xt, ← eL42] at hP hD
              refine W_cs (k := L42.length) (n := wt L42) (by rw [eL42]; exact (len_s L37 y40.1).symm) (by rw [eL42]; exact (wt_app L37 y40.1).symm) ?_
              have hT : L30 = L42 ++ w41.1 := by rw [hT42, eL42]
              have h2 : y28.2 = w41.2 := by rw [h2, ew41]
              have hl := lv_sub (l' := [(2, .int x1), (0, .ref (ad38 a))]) hl [0, 1] rfl
              have e9 : ([(2, .int x1), (0, .ref (ad38 a))] : List (Nat × Value)) = [(2, .int x1), (0, .ref (ad43 a))] := (by first | rfl | simp only [hn44 a hc])
              rw [e9] at hl
              clear e9
              have hk : (xt G L42).2.1 a = 0 := by rw [eL42]; exact xt_k _ hc hk
              have hc : a < (xt G L42).1 := by rw [eL42]; exact xt_l _ hc
              have hk2 : (xt G L42).2.1 b2 = 9 := by rw [eL42]; exact xt_k _ hc2 hk2
              have hc2 : b2 < (xt G L42).1 := by rw [eL42]; exact xt_l _ hc2
              have hk3 : (xt G L42).2.1 b3 = 3 := by rw [eL42]; exact xt_k _ hc3 hk3
              have hc3 : b3 < (xt G L42).1 := by rw [eL42]; exact xt_l _ hc3
              have hk4 : (xt G L42).2.1 b4 = 13 := by rw [eL42]; exact xt_k _ hc4 hk4
              have hc4 : b4 < (xt G L42).1 := by rw [eL42]; exact xt_l _ hc4
              have hk7 : (xt G L42).2.1 b7 = 13 := by rw [eL42]; exact xt_k _ hc7 hk7
              have hc7 : b7 < (xt G L42).1 := by rw [eL42]; exact xt_l _ hc7
              have hk34 : (xt G L42).2.1 b34 = 10 := by rw [eL42]; exact xt_k _ hc34 hk34
              have hc34 : b34 < (xt G L42).1 := by rw [eL42]; exact xt_l _ hc34
              have hag := agr_t (xt_ge _ _) hag hn44
              refine lv_aload_n hx hb dX0_writeBlock_379 rfl (lv_at hl 1 rfl) ?_
              refine va_get (D := D) (ci := 0) (v := va_re ad43 (y40.2.2 a 2)) (C := RX0) (T := TX0) (N := 21) hx hb hts (mus hf_X0) hown hK hP a (wld_o ct ad43 (xt G L42) y40.2 hc hk (by decide)) rfl 2 (by decide) (hts (.fieldLink RX0 29 "VideoSuite$Coder" "writer" "LVideoSuite$Writer;") (mu mw_815)) (fun _ h9 => h9) rfl dX0_writeBlock_380 ?_
              refine lv_iconst (v := (4 : Int32)) hx hb dX0_writeBlock_383 (by decide) ?_
              refine lv_aload_n hx hb dX0_writeBlock_384 rfl (lv_at hl 1 rfl) ?_
              refine va_get (D := D) (ci := 0) (v := va_re ad43 (y40.2.2 a 3)) (C := RX0) (T := TX0) (N := 21) hx hb hts (mus hf_X0) hown hK hP a (wld_o ct ad43 (xt G L42) y40.2 hc hk (by decide)) rfl 3 (by decide) (hts (.fieldLink RX0 36 "VideoSuite$Coder" "work" "LVideoSuite$Work;") (mu mw_817)) (fun _ h9 => h9) rfl dX0_writeBlock_385 ?_
              obtain ⟨b45, ho45, hc45, hk45, hF⟩ := dr_some hF
              refine W_st (st' := [.ref (ad43 b45), .int (4 : Int32), va_re ad43 (y40.2.2 a 2)]) (by rw [va_some ho45]) ?_
              refine va_get (D := D) (ci := 9) (v := va_re ad43 (y40.2.2 b45 6)) (C := RX9) (T := TX9) (N := 20) hx hb hts (mus hf_X9) hown hK hP b45 (wld_o ct ad43 (xt G L42) y40.2 hc45 hk45 (by decide)) rfl 6 (by decide) (hts (.fieldLink RX0 216 "VideoSuite$Work" "info" "[I") (mu mw_445)) (fun _ h9 => h9) rfl dX0_writeBlock_388 ?_
              refine lv_iload_n hx hb dX0_writeBlock_391 rfl (lv_at hl 0 rfl) ?_
              refine lv_iconst (v := (5 : Int32)) hx hb dX0_writeBlock_392 (by decide) ?_
              refine lv_iadd hx hb dX0_writeBlock_393 ?_
              obtain ⟨x46, ex46, hF⟩ := ltt_some hF
              refine lv_topi (fun zx46 ezx46 => ?_)
              obtain rfl : x46 = zx46 := ex46.trans ezx46.symm
              obtain ⟨b47, ho47, hc47, hk47, hF⟩ := dr_some hF
              refine W_st (st' := [.int x46, .ref (ad43 b47), .int (4 : Int32), va_re ad43 (y40.2.2 a 2)]) (by rw [va_some ho47]) ?_
              obtain ⟨hvc, hF⟩ := chk_some hF
              refine va_iald hx hb hK hP b47 1 (wld_i ct ad43 (xt G L42) y40.2 hc47 hk47) rfl hvc dX0_writeBlock_394 ?_
              obtain ⟨x48, ex48, hF⟩ := ltt_some hF
              refine lv_topi (fun zx48 ezx48 => ?_)
              obtain rfl : x48 = zx48 := ex48.trans ezx48.symm
              obtain ⟨b49, ho49, hc49, hk49, hF⟩ := dr_some hF
              refine W_st (st' := [.int x48, .int (4 : Int32), .ref (ad43 b49)]) (by rw [va_some ho49]) ?_
              obtain ⟨y50, hy50, hF⟩ := bnd_some hF
              obtain ⟨w51, hF, ew51⟩ := app_some hF
              obtain ⟨L52, eL52, hF⟩ := ltt_some hF
              have hT52 : L30 = (L42 ++ y50.1) ++ w51.1 := by rw [hT, ew51]; simp only [List.append_assoc]
              have hf9 := wA_in hD hA9 hS
              refine va_callv (va_runV (As := [.int (4 : Int32), .int x48]) (rest := []) ⟨hx, hb, hml, hown, hts⟩ (kX10_ue l D ct ad43 Z (xt G L42) y40.2 _ b49 ((4 : Int32)) x48 y50 hc49 hk49 hy50) (cwV 2 hts gX0_writeBlock_X10_ue rfl rfl rfl (by decide +kernel) ⟨Nat.le_of_ble_eq_true rfl, Nat.le_of_ble_eq_true rfl⟩) ⟨fun a U g mk q => by obtain ⟨q0, q1, qP, qK, qD, qZ, qN⟩ := q; exact ⟨q0, q1, qP, va_K.moved (u := U) (U := U.calling g mk a) (Vm.Alike.refl U.vm) qK, qD, sF.moved (u := U) (U := U.calling g mk a) (Vm.Alike.refl U.vm) qZ, nF.same rfl qN⟩, va_recv hK hP (ci := 10) (q0 := b49) rfl (wld_o ct ad43 (xt G L42) y40.2 hc49 hk49 (by decide)), fun U hU hW => ⟨rfl, by rw [hU], by rw [hU]; exact hP, va_K.moved hW.alike hK, hD.weaken (fun _ _ _ _ => trivial), by rw [hU]; exact ((hZ.kept hS.2.1).narrow hf9).moved hW.alike, hN.warm hW⟩⟩ rfl rfl hl.1 rfl (lv_room (Nat.le_of_ble_eq_true rfl)) dX0_writeBlock_395 (room_s hT52 hbl)) hS (fun q _ h => hf9 q h) hf9 (fun ad53 t H locs ht hvm hw hB hz1 hk1 hS => ?_)
              have hn54 := hw
              obtain ⟨hP, hK9, hD9⟩ := hB
              rw [ht] at hP
              have hD := hD9.weaken (fun _ q _ h => hf9 q.1 h)
              rw [xt_xt, ← eL52] at hP hD
              refine W_cs (k := L52.length) (n := wt L52) (by rw [eL52]; exact (len_s L42 y50.1).symm) (by rw [eL52]; exact (wt_app L42 y50.1).symm) ?_
              have hT : L30 = L52 ++ w51.1 := by rw [hT52, eL52]
              have h2 : y28.2 = w51.2 := by rw [h2, ew51]
              have hl := lv_sub (l' := []) hl [] rfl
              have hk : (xt G L52).2.1 a = 0 := by rw [eL52]; exact xt_k _ hc hk
              have hc : a < (xt G L52).1 := by rw [eL52]; exact xt_l _ hc
              have hk2 : (xt G L52).2.1 b2 = 9 := by rw [eL52]; exact xt_k _ hc2 hk2
              have hc2 : b2 < (xt G L52).1 := by rw [eL52]; exact xt_l _ hc2
              have hk3 : (xt G L52).2.1 b3 = 3 := by rw [eL52]; exact xt_k _ hc3 hk3
              have hc3 : b3 < (xt G L52).1 := by rw [eL52]; exact xt_l _ hc3
              have hk4 : (xt G L52).2.1 b4 = 13 := by rw [eL52]; exact xt_k _ hc4 hk4
              have hc4 : b4 < (xt G L52).1 := by rw [eL52]; exact xt_l _ hc4
              have hk7 : (xt G L52).2.1 b7 = 13 := by rw [eL52]; exact xt_k _ hc7 hk7
              have hc7 : b7 < (xt G L52).1 := by rw [eL52]; exact xt_l _ hc7
              have hk34 : (xt G L52).2.1 b34 = 10 := by rw [eL52]; exact xt_k _ hc34 hk34
              have hc34 : b34 < (xt G L52).1 := by rw [eL52]; exact xt_l _ hc34
              have hk45 : (xt G L52).2.1 b45 = 9 := by rw [eL52]; exact xt_k _ hc45 hk45
              have hc45 : b45 < (xt G L52).1 := by rw [eL52]; exact xt_l _ hc45
              have hk47 : (xt G L52).2.1 b47 = 13 := by rw [eL52]; exact xt_k _ hc47 hk47
              have hc47 : b47 < (xt G L52).1 := by rw [eL52]; exact xt_l _ hc47
              have hk49 : (xt G L52).2.1 b49 = 10 := by rw [eL52]; exact xt_k _ hc49 hk49
              have hc49 : b49 < (xt G L52).1 := by rw [eL52]; exact xt_l _ hc49
              have hag := agr_t (xt_ge _ _) hag hn54
              obtain rfl := Option.some.inj hF
              have e1 : L30 = L52 := by rw [hT]; exact List.append_nil _
              have e2 : y28.2 = y50.2 := h2
              rw [e1] at J28
              try rw [e2] at J28
              exact J28 _ hag _ _ _ hP hD hS (lv_sub hl [] rfl)
            · rw [if_pos c33] at hF
              refine lv_aload_n hx hb dX0_writeBlock_278 rfl (lv_at hl 4 rfl) ?_
              refine va_get (D := D) (ci := 0) (v := va_re ad12 (y13.1.2 a 3)) (C := RX0) (T := TX0) (N := 21) hx hb hts (mus hf_X0) hown hK hP a (wld_o ct ad12 (xt G L11) y13.1 hc hk (by decide)) rfl 3 (by decide) (hts (.fieldLink RX0 36 "VideoSuite$Coder" "work" "LVideoSuite$Work;") (mu mw_817)) (fun _ h9 => h9) rfl dX0_writeBlock_279 ?_
              obtain ⟨b55, ho55, hc55, hk55, hF⟩ := dr_some hF
              refine W_st (st' := [.ref (ad12 b55)]) (by rw [va_some ho55]) ?_
              refine va_get (D := D) (ci := 9) (v := va_re ad12 (y13.1.2 b55 7)) (C := RX9) (T := TX9) (N := 20) hx hb hts (mus hf_X9) hown hK hP b55 (wld_o ct ad12 (xt G L11) y13.1 hc55 hk55 (by decide)) rfl 7 (by decide) (hts (.fieldLink RX0 356 "VideoSuite$Work" "mode" "[I") (mu mw_448)) (fun _ h9 => h9) rfl dX0_writeBlock_282 ?_
              refine lv_bipush (v := (16 : Int32)) hx hb dX0_writeBlock_285 (by decide) ?_
              refine lv_iload_n hx hb dX0_writeBlock_287 rfl (lv_at hl 5 rfl) ?_
              refine lv_imul hx hb dX0_writeBlock_288 ?_
              obtain ⟨x56, ex56, hF⟩ := ltt_some hF
              refine lv_topi (fun zx56 ezx56 => ?_)
              obtain rfl : x56 = zx56 := ex56.trans ezx56.symm
              obtain ⟨b57, ho57, hc57, hk57, hF⟩ := dr_some hF
              refine W_st (st' := [.int x56, .ref (ad12 b57)]) (by rw [va_some ho57]) ?_
              obtain ⟨hvc, hF⟩ := chk_some hF
              refine va_iald hx hb hK hP b57 1 (wld_i ct ad12 (xt G L11) y13.1 hc57 hk57) rfl hvc dX0_writeBlock_289 ?_
              obtain ⟨x58, ex58, hF⟩ := ltt_some hF
              refine lv_topi (fun zx58 ezx58 => ?_)
              obtain rfl : x58 = zx58 := ex58.trans ezx58.symm
              refine lv_iconst (v := (4 : Int32)) hx hb dX0_writeBlock_290 (by decide) ?_
              refine lv_aload_n hx hb dX0_writeBlock_291 rfl (lv_at hl 4 rfl) ?_
              refine va_get (D := D) (ci := 0) (v := va_re ad12 (y13.1.2 a 3)) (C := RX0) (T := TX0) (N := 21) hx hb hts (mus hf_X0) hown hK hP a (wld_o ct ad12 (xt G L11) y13.1 hc hk (by decide)) rfl 3 (by decide) (hts (.fieldLink RX0 36 "VideoSuite$Coder" "work" "LVideoSuite$Work;") (mu mw_817)) (fun _ h9 => h9) rfl dX0_writeBlock_292 ?_
              refine W_st (st' := [.ref (ad12 b55), .int (4 : Int32), .int x58]) (by rw [va_some ho55]) ?_
              refine va_get (D := D) (ci := 9) (v := va_re ad12 (y13.1.2 b55 6)) (C := RX9) (T := TX9) (N := 20) hx hb hts (mus hf_X9) hown hK hP b55 (wld_o ct ad12 (xt G L11) y13.1 hc55 hk55 (by decide)) rfl 6 (by decide) (hts (.fieldLink RX0 216 "VideoSuite$Work" "info" "[I") (mu mw_445)) (fun _ h9 => h9) rfl dX0_writeBlock_295 ?_
              refine lv_iload_n hx hb dX0_writeBlock_298 rfl (lv_at hl 3 rfl) ?_
              refine lv_iconst (v := (4 : Int32)) hx hb dX0_writeBlock_299 (by decide) ?_
              refine lv_iadd hx hb dX0_writeBlock_300 ?_
              obtain ⟨x59, ex59, hF⟩ := ltt_some hF
              refine lv_topi (fun zx59 ezx59 => ?_)
              obtain rfl : x59 = zx59 := ex59.trans ezx59.symm
              obtain ⟨b60, ho60, hc60, hk60, hF⟩ := dr_some hF
              refine W_st (st' := [.int x59, .ref (ad12 b60), .int (4 : Int32), .int x58]) (by rw [va_some ho60]) ?_
              obtain ⟨hvc, hF⟩ := chk_some hF
              refine va_iald hx hb hK hP b60 1 (wld_i ct ad12 (xt G L11) y13.1 hc60 hk60) rfl hvc dX0_writeBlock_301 ?_
              obtain ⟨x61, ex61, hF⟩ := ltt_some hF
              refine lv_topi (fun zx61 ezx61 => ?_)
              obtain rfl : x61 = zx61 := ex61.trans ezx61.symm
              refine lv_imul hx hb dX0_writeBlock_302 ?_
              obtain ⟨x62, ex62, hF⟩ := ltt_some hF
              refine lv_topi (fun zx62 ezx62 => ?_)
              obtain rfl : x62 = zx62 := ex62.trans ezx62.symm
              refine lv_iadd hx hb dX0_writeBlock_303 ?_
              obtain ⟨x63, ex63, hF⟩ := ltt_some hF
              refine lv_topi (fun zx63 ezx63 => ?_)
              obtain rfl : x63 = zx63 := ex63.trans ezx63.symm
              refine lv_aload_n hx hb dX0_writeBlock_304 rfl (lv_at hl 4 rfl) ?_
              refine va_get (D := D) (ci := 0) (v := va_re ad12 (y13.1.2 a 3)) (C := RX0) (T := TX0) (N := 21) hx hb hts (mus hf_X0) hown hK hP a (wld_o ct ad12 (xt G L11) y13.1 hc hk (by decide)) rfl 3 (by decide) (hts (.fieldLink RX0 36 "VideoSuite$Coder" "work" "LVideoSuite$Work;") (mu mw_817)) (fun _ h9 => h9) rfl dX0_writeBlock_305 ?_
              refine W_st (st' := [.ref (ad12 b55), .int x63]) (by rw [va_some ho55]) ?_
              refine va_get (D := D) (ci := 9) (v := va_re ad12 (y13.1.2 b55 6)) (C := RX9) (T := TX9) (N := 20) hx hb hts (mus hf_X9) hown hK hP b55 (wld_o ct ad12 (xt G L11) y13.1 hc55 hk55 (by decide)) rfl 6 (by decide) (hts (.fieldLink RX0 216 "VideoSuite$Work" "info" "[I") (mu mw_445)) (fun _ h9 => h9) rfl dX0_writeBlock_308 ?_
              refine lv_iload_n hx hb dX0_writeBlock_311 rfl (lv_at hl 3 rfl) ?_
              refine lv_iconst (v := (3 : Int32)) hx hb dX0_writeBlock_312 (by decide) ?_
              refine lv_iadd hx hb dX0_writeBlock_313 ?_
              obtain ⟨x64, ex64, hF⟩ := ltt_some hF
              refine lv_topi (fun zx64 ezx64 => ?_)
              obtain rfl : x64 = zx64 := ex64.trans ezx64.symm
              refine W_st (st' := [.int x64, .ref (ad12 b60), .int x63]) (by rw [va_some ho60]) ?_
              obtain ⟨hvc, hF⟩ := chk_some hF
              refine va_iald hx hb hK hP b60 1 (wld_i ct ad12 (xt G L11) y13.1 hc60 hk60) rfl hvc dX0_writeBlock_314 ?_
              obtain ⟨x65, ex65, hF⟩ := ltt_some hF
              refine lv_topi (fun zx65 ezx65 => ?_)
              obtain rfl : x65 = zx65 := ex65.trans ezx65.symm
              obtain ⟨y66, hy66, hF⟩ := bnd_some hF
              have J66 : ∀ (H : Heap) (locs : List Loc) (ls : Array Slot), va_P D classes (wld ct ad12 (xt G L11) y13.1) H → va_D A (wld ct ad12 (xt G L11) y13.1) → va_S A s.heap H locs → lv_has ls 8 [(5, .int y15), (4, .int x8), (3, .int x5), (2, .int x1), (0, .ref (ad12 a)), (1, .int p0)] → W p l e (headSpec wuX0_writeBlock ({ frames := 6, cells := y.1.length, slots := wt y.1, locals := 199 })).room s m ([.ref (ad a), .int p0] : List Value).toArray below meth c H locs (L11 : NN).length (wt L11) (MQ below (va_Qv (fun (u : Nat → Nat) => agr G.1 ad u) (fun u t => kE D ct u (xt G y.1) A y.2 t) A) ([.ref (ad a), .int p0] : List Value).toArray s y.1.length (wt y.1) A) (F0 m 324 ls [.int y66, .int x63]) := by
                intro H locs ls hP hD hS hl
                refine lv_iadd hx hb dX0_writeBlock_324 ?_
                obtain ⟨x67, ex67, hF⟩ := ltt_some hF
                refine lv_topi (fun zx67 ezx67 => ?_)
                obtain rfl : x67 = zx67 := ex67.trans ezx67.symm
                refine lv_istore (lv' := [(6, .int x67), (5, .int y15), (4, .int x8), (3, .int x5), (2, .int x1), (0, .ref (ad12 a)), (1, .int p0)]) hx hb dX0_writeBlock_325 hl (by decide) rfl (fun ls hl => ?_)
                refine lv_aload_n hx hb dX0_writeBlock_327 rfl (lv_at hl 5 rfl) ?_
                refine va_get (D := D) (ci := 0) (v := va_re ad12 (y13.1.2 a 2)) (C := RX0) (T := TX0) (N := 21) hx hb hts (mus hf_X0) hown hK hP a (wld_o ct ad12 (xt G L11) y13.1 hc hk (by decide)) rfl 2 (by decide) (hts (.fieldLink RX0 29 "VideoSuite$Coder" "writer" "LVideoSuite$Writer;") (mu mw_815)) (fun _ h9 => h9) rfl dX0_writeBlock_328 ?_
                refine lv_iconst (v := (1 : Int32)) hx hb dX0_writeBlock_331 (by decide) ?_
                refine lv_iload hx hb dX0_writeBlock_332 (lv_at hl 1 rfl) ?_
                refine lv_iconst (v := (1 : Int32)) hx hb dX0_writeBlock_334 (by decide) ?_
                refine lv_iadd hx hb dX0_writeBlock_335 ?_
                obtain ⟨x68, ex68, hF⟩ := ltt_some hF
                refine lv_topi (fun zx68 ezx68 => ?_)
                obtain rfl : x68 = zx68 := ex68.trans ezx68.symm
                refine lv_iload hx hb dX0_writeBlock_336 (lv_at hl 0 rfl) ?_
                refine lv_iadd hx hb dX0_writeBlock_338 ?_
                obtain ⟨x69, ex69, hF⟩ := ltt_some hF
                refine lv_topi (fun zx69 ezx69 => ?_)
                obtain rfl : x69 = zx69 := ex69.trans ezx69.symm
                obtain ⟨b70, ho70, hc70, hk70, hF⟩ := dr_some hF
                refine W_st (st' := [.int x69, .int (1 : Int32), .ref (ad12 b70)]) (by rw [va_some ho70]) ?_
                obtain ⟨y71, hy71, hF⟩ := bnd_some hF
                obtain ⟨w72, hF, ew72⟩ := app_some hF
                obtain ⟨L73, eL73, hF⟩ := ltt_some hF
                have hT73 : L30 = (L11 ++ y71.1) ++ w72.1 := by rw [hT, ew72]; simp only [List.append_assoc]
                have hf9 := wA_in hD hA9 hS
                refine va_callv (va_runV (As := [.int (1 : Int32), .int x69]) (rest := []) ⟨hx, hb, hml, hown, hts⟩ (kX10_ue l D ct ad12 Z (xt G L11) y13.1 _ b70 ((1 : Int32)) x69 y71 hc70 hk70 hy71) (cwV 2 hts gX0_writeBlock_X10_ue rfl rfl rfl (by decide +kernel) ⟨Nat.le_of_ble_eq_true rfl, Nat.le_of_ble_eq_true rfl⟩) ⟨fun a U g mk q => by obtain ⟨q0, q1, qP, qK, qD, qZ, qN⟩ := q; exact ⟨q0, q1, qP, va_K.moved (u := U) (U := U.calling g mk a) (Vm.Alike.refl U.vm) qK, qD, sF.moved (u := U) (U := U.calling g mk a) (Vm.Alike.refl U.vm) qZ, nF.same rfl qN⟩, va_recv hK hP (ci := 10) (q0 := b70) rfl (wld_o ct ad12 (xt G L11) y13.1 hc70 hk70 (by decide)), fun U hU hW => ⟨rfl, by rw [hU], by rw [hU]; exact hP, va_K.moved hW.alike hK, hD.weaken (fun _ _ _ _ => trivial), by rw [hU]; exact ((hZ.kept hS.2.1).narrow hf9).moved hW.alike, hN.warm hW⟩⟩ rfl rfl hl.1 rfl (lv_room (Nat.le_of_ble_eq_true rfl)) dX0_writeBlock_339 (room_s hT73 hbl)) hS (fun q _ h => hf9 q h) hf9 (fun ad74 t H locs ht hvm hw hB hz1 hk1 hS => ?_)
                have hn75 := hw
                obtain ⟨hP, hK9, hD9⟩ := hB
                rw [ht] at hP
                have hD := hD9.weaken (fun _ q _ h => hf9 q.1 h)
                rw [xt_xt, ← eL73] at hP hD
                refine W_cs (k := L73.length) (n := wt L73) (by rw [eL73]; exact (len_s L11 y71.1).symm) (by rw [eL73]; exact (wt_app L11 y71.1).symm) ?_
                have hT : L30 = L73 ++ w72.1 := by rw [hT73, eL73]
                have h2 : y28.2 = w72.2 := by rw [h2, ew72]
                have hl := lv_sub (l' := [(2, .int x1), (0, .ref (ad12 a))]) hl [4, 5] rfl
                have e9 : ([(2, .int x1), (0, .ref (ad12 a))] : List (Nat × Value)) = [(2, .int x1), (0, .ref (ad74 a))] := (by first | rfl | simp only [hn75 a hc])
                rw [e9] at hl
                clear e9
                have hk : (xt G L73).2.1 a = 0 := by rw [eL73]; exact xt_k _ hc hk
                have hc : a < (xt G L73).1 := by rw [eL73]; exact xt_l _ hc
                have hk2 : (xt G L73).2.1 b2 = 9 := by rw [eL73]; exact xt_k _ hc2 hk2
                have hc2 : b2 < (xt G L73).1 := by rw [eL73]; exact xt_l _ hc2
                have hk3 : (xt G L73).2.1 b3 = 3 := by rw [eL73]; exact xt_k _ hc3 hk3
                have hc3 : b3 < (xt G L73).1 := by rw [eL73]; exact xt_l _ hc3
                have hk4 : (xt G L73).2.1 b4 = 13 := by rw [eL73]; exact xt_k _ hc4 hk4
                have hc4 : b4 < (xt G L73).1 := by rw [eL73]; exact xt_l _ hc4
                have hk7 : (xt G L73).2.1 b7 = 13 := by rw [eL73]; exact xt_k _ hc7 hk7
                have hc7 : b7 < (xt G L73).1 := by rw [eL73]; exact xt_l _ hc7
                have hk55 : (xt G L73).2.1 b55 = 9 := by rw [eL73]; exact xt_k _ hc55 hk55
                have hc55 : b55 < (xt G L73).1 := by rw [eL73]; exact xt_l _ hc55
                have hk57 : (xt G L73).2.1 b57 = 13 := by rw [eL73]; exact xt_k _ hc57 hk57
                have hc57 : b57 < (xt G L73).1 := by rw [eL73]; exact xt_l _ hc57
                have hk60 : (xt G L73).2.1 b60 = 13 := by rw [eL73]; exact xt_k _ hc60 hk60
                have hc60 : b60 < (xt G L73).1 := by rw [eL73]; exact xt_l _ hc60
                have hk70 : (xt G L73).2.1 b70 = 10 := by rw [eL73]; exact xt_k _ hc70 hk70
                have hc70 : b70 < (xt G L73).1 := by rw [eL73]; exact xt_l _ hc70
                have hag := agr_t (xt_ge _ _) hag hn75
                refine lv_aload_n hx hb dX0_writeBlock_342 rfl (lv_at hl 1 rfl) ?_
                refine va_get (D := D) (ci := 0) (v := va_re ad74 (y71.2.2 a 2)) (C := RX0) (T := TX0) (N := 21) hx hb hts (mus hf_X0) hown hK hP a (wld_o ct ad74 (xt G L73) y71.2 hc hk (by decide)) rfl 2 (by decide) (hts (.fieldLink RX0 29 "VideoSuite$Coder" "writer" "LVideoSuite$Writer;") (mu mw_815)) (fun _ h9 => h9) rfl dX0_writeBlock_343 ?_
                refine lv_iconst (v := (4 : Int32)) hx hb dX0_writeBlock_346 (by decide) ?_
                refine lv_aload_n hx hb dX0_writeBlock_347 rfl (lv_at hl 1 rfl) ?_
                refine va_get (D := D) (ci := 0) (v := va_re ad74 (y71.2.2 a 3)) (C := RX0) (T := TX0) (N := 21) hx hb hts (mus hf_X0) hown hK hP a (wld_o ct ad74 (xt G L73) y71.2 hc hk (by decide)) rfl 3 (by decide) (hts (.fieldLink RX0 36 "VideoSuite$Coder" "work" "LVideoSuite$Work;") (mu mw_817)) (fun _ h9 => h9) rfl dX0_writeBlock_348 ?_
                obtain ⟨b76, ho76, hc76, hk76, hF⟩ := dr_some hF
                refine W_st (st' := [.ref (ad74 b76), .int (4 : Int32), va_re ad74 (y71.2.2 a 2)]) (by rw [va_some ho76]) ?_
                refine va_get (D := D) (ci := 9) (v := va_re ad74 (y71.2.2 b76 6)) (C := RX9) (T := TX9) (N := 20) hx hb hts (mus hf_X9) hown hK hP b76 (wld_o ct ad74 (xt G L73) y71.2 hc76 hk76 (by decide)) rfl 6 (by decide) (hts (.fieldLink RX0 216 "VideoSuite$Work" "info" "[I") (mu mw_445)) (fun _ h9 => h9) rfl dX0_writeBlock_351 ?_
                refine lv_iload_n hx hb dX0_writeBlock_354 rfl (lv_at hl 0 rfl) ?_
                refine lv_iconst (v := (5 : Int32)) hx hb dX0_writeBlock_355 (by decide) ?_
                refine lv_iadd hx hb dX0_writeBlock_356 ?_
                obtain ⟨x77, ex77, hF⟩ := ltt_some hF
                refine lv_topi (fun zx77 ezx77 => ?_)
                obtain rfl : x77 = zx77 := ex77.trans ezx77.symm
                obtain ⟨b78, ho78, hc78, hk78, hF⟩ := dr_some hF
                refine W_st (st' := [.int x77, .ref (ad74 b78), .int (4 : Int32), va_re ad74 (y71.2.2 a 2)]) (by rw [va_some ho78]) ?_
                obtain ⟨hvc, hF⟩ := chk_some hF
                refine va_iald hx hb hK hP b78 1 (wld_i ct ad74 (xt G L73) y71.2 hc78 hk78) rfl hvc dX0_writeBlock_357 ?_
                obtain ⟨x79, ex79, hF⟩ := ltt_some hF
                refine lv_topi (fun zx79 ezx79 => ?_)
                obtain rfl : x79 = zx79 := ex79.trans ezx79.symm
                obtain ⟨b80, ho80, hc80, hk80, hF⟩ := dr_some hF
                refine W_st (st' := [.int x79, .int (4 : Int32), .ref (ad74 b80)]) (by rw [va_some ho80]) ?_
                obtain ⟨y81, hy81, hF⟩ := bnd_some hF
                obtain ⟨w82, hF, ew82⟩ := app_some hF
                obtain ⟨L83, eL83, hF⟩ := ltt_some hF
                have hT83 : L30 = (L73 ++ y81.1) ++ w82.1 := by rw [hT, ew82]; simp only [List.append_assoc]
                have hf9 := wA_in hD hA9 hS
                refine va_callv (va_runV (As := [.int (4 : Int32), .int x79]) (rest := []) ⟨hx, hb, hml, hown, hts⟩ (kX10_ue l D ct ad74 Z (xt G L73) y71.2 _ b80 ((4 : Int32)) x79 y81 hc80 hk80 hy81) (cwV 2 hts gX0_writeBlock_X10_ue rfl rfl rfl (by decide +kernel) ⟨Nat.le_of_ble_eq_true rfl, Nat.le_of_ble_eq_true rfl⟩) ⟨fun a U g mk q => by obtain ⟨q0, q1, qP, qK, qD, qZ, qN⟩ := q; exact ⟨q0, q1, qP, va_K.moved (u := U) (U := U.calling g mk a) (Vm.Alike.refl U.vm) qK, qD, sF.moved (u := U) (U := U.calling g mk a) (Vm.Alike.refl U.vm) qZ, nF.same rfl qN⟩, va_recv hK hP (ci := 10) (q0 := b80) rfl (wld_o ct ad74 (xt G L73) y71.2 hc80 hk80 (by decide)), fun U hU hW => ⟨rfl, by rw [hU], by rw [hU]; exact hP, va_K.moved hW.alike hK, hD.weaken (fun _ _ _ _ => trivial), by rw [hU]; exact ((hZ.kept hS.2.1).narrow hf9).moved hW.alike, hN.warm hW⟩⟩ rfl rfl hl.1 rfl (lv_room (Nat.le_of_ble_eq_true rfl)) dX0_writeBlock_358 (room_s hT83 hbl)) hS (fun q _ h => hf9 q h) hf9 (fun ad84 t H locs ht hvm hw hB hz1 hk1 hS => ?_)
                have hn85 := hw
                obtain ⟨hP, hK9, hD9⟩ := hB
                rw [ht] at hP
                have hD := hD9.weaken (fun _ q _ h => hf9 q.1 h)
                rw [xt_xt, ← eL83] at hP hD
                refine W_cs (k := L83.length) (n := wt L83) (by rw [eL83]; exact (len_s L73 y81.1).symm) (by rw [eL83]; exact (wt_app L73 y81.1).symm) ?_
                have hT : L30 = L83 ++ w82.1 := by rw [hT83, eL83]
                have h2 : y28.2 = w82.2 := by rw [h2, ew82]
                have hl := lv_sub (l' := []) hl [] rfl
                have hk : (xt G L83).2.1 a = 0 := by rw [eL83]; exact xt_k _ hc hk
                have hc : a < (xt G L83).1 := by rw [eL83]; exact xt_l _ hc
                have hk2 : (xt G L83).2.1 b2 = 9 := by rw [eL83]; exact xt_k _ hc2 hk2
                have hc2 : b2 < (xt G L83).1 := by rw [eL83]; exact xt_l _ hc2
                have hk3 : (xt G L83).2.1 b3 = 3 := by rw [eL83]; exact xt_k _ hc3 hk3
                have hc3 : b3 < (xt G L83).1 := by rw [eL83]; exact xt_l _ hc3
                have hk4 : (xt G L83).2.1 b4 = 13 := by rw [eL83]; exact xt_k _ hc4 hk4
                have hc4 : b4 < (xt G L83).1 := by rw [eL83]; exact xt_l _ hc4
                have hk7 : (xt G L83).2.1 b7 = 13 := by rw [eL83]; exact xt_k _ hc7 hk7
                have hc7 : b7 < (xt G L83).1 := by rw [eL83]; exact xt_l _ hc7
                have hk55 : (xt G L83).2.1 b55 = 9 := by rw [eL83]; exact xt_k _ hc55 hk55
                have hc55 : b55 < (xt G L83).1 := by rw [eL83]; exact xt_l _ hc55
                have hk57 : (xt G L83).2.1 b57 = 13 := by rw [eL83]; exact xt_k _ hc57 hk57
                have hc57 : b57 < (xt G L83).1 := by rw [eL83]; exact xt_l _ hc57
                have hk60 : (xt G L83).2.1 b60 = 13 := by rw [eL83]; exact xt_k _ hc60 hk60
                have hc60 : b60 < (xt G L83).1 := by rw [eL83]; exact xt_l _ hc60
                have hk70 : (xt G L83).2.1 b70 = 10 := by rw [eL83]; exact xt_k _ hc70 hk70
                have hc70 : b70 < (xt G L83).1 := by rw [eL83]; exact xt_l _ hc70
                have hk76 : (xt G L83).2.1 b76 = 9 := by rw [eL83]; exact xt_k _ hc76 hk76
                have hc76 : b76 < (xt G L83).1 := by rw [eL83]; exact xt_l _ hc76
                have hk78 : (xt G L83).2.1 b78 = 13 := by rw [eL83]; exact xt_k _ hc78 hk78
                have hc78 : b78 < (xt G L83).1 := by rw [eL83]; exact xt_l _ hc78
                have hk80 : (xt G L83).2.1 b80 = 10 := by rw [eL83]; exact xt_k _ hc80 hk80
                have hc80 : b80 < (xt G L83).1 := by rw [eL83]; exact xt_l _ hc80
                have hag := agr_t (xt_ge _ _) hag hn85
                refine lv_goto (tgt := 398) hx hb dX0_writeBlock_361 (by decide) ?_
                obtain rfl := Option.some.inj hF
                have e1 : L30 = L83 := by rw [hT]; exact List.append_nil _
                have e2 : y28.2 = y81.2 := h2
                rw [e1] at J28
                try rw [e2] at J28
                exact J28 _ hag _ _ _ hP hD hS (lv_sub hl [] rfl)
              clear hF
              have hF := hy66
              clear hy66
              refine lv_if_le (tgt := 323) hx hb dX0_writeBlock_315 (by decide) (fun c86 => ?_) (fun c86 => ?_)
              · rw [if_pos c86] at hF
                refine lv_iconst (v := (0 : Int32)) hx hb dX0_writeBlock_323 (by decide) ?_
                obtain rfl := Option.some.inj hF
                exact J66 _ _ _ hP hD hS (lv_sub hl [0, 1, 2, 3, 4, 5] rfl)
              · rw [if_neg c86] at hF
                refine lv_bipush (v := (12 : Int32)) hx hb dX0_writeBlock_318 (by decide) ?_
                refine lv_goto (tgt := 324) hx hb dX0_writeBlock_320 (by decide) ?_
                obtain rfl := Option.some.inj hF
                exact J66 _ _ _ hP hD hS (lv_sub hl [0, 1, 2, 3, 4, 5] rfl)
          · rw [if_pos c27] at hF
            refine lv_aload_n hx hb dX0_writeBlock_198 rfl (lv_at hl 4 rfl) ?_
            refine va_get (D := D) (ci := 0) (v := va_re ad12 (y13.1.2 a 3)) (C := RX0) (T := TX0) (N := 21) hx hb hts (mus hf_X0) hown hK hP a (wld_o ct ad12 (xt G L11) y13.1 hc hk (by decide)) rfl 3 (by decide) (hts (.fieldLink RX0 36 "VideoSuite$Coder" "work" "LVideoSuite$Work;") (mu mw_817)) (fun _ h9 => h9) rfl dX0_writeBlock_199 ?_
            obtain ⟨b87, ho87, hc87, hk87, hF⟩ := dr_some hF
            refine W_st (st' := [.ref (ad12 b87)]) (by rw [va_some ho87]) ?_
            refine va_get (D := D) (ci := 9) (v := va_re ad12 (y13.1.2 b87 6)) (C := RX9) (T := TX9) (N := 20) hx hb hts (mus hf_X9) hown hK hP b87 (wld_o ct ad12 (xt G L11) y13.1 hc87 hk87 (by decide)) rfl 6 (by decide) (hts (.fieldLink RX0 216 "VideoSuite$Work" "info" "[I") (mu mw_445)) (fun _ h9 => h9) rfl dX0_writeBlock_202 ?_
            refine lv_iload_n hx hb dX0_writeBlock_205 rfl (lv_at hl 3 rfl) ?_
            refine lv_iconst (v := (1 : Int32)) hx hb dX0_writeBlock_206 (by decide) ?_
            refine lv_iadd hx hb dX0_writeBlock_207 ?_
            obtain ⟨x88, ex88, hF⟩ := ltt_some hF
            refine lv_topi (fun zx88 ezx88 => ?_)
            obtain rfl : x88 = zx88 := ex88.trans ezx88.symm
            obtain ⟨b89, ho89, hc89, hk89, hF⟩ := dr_some hF
            refine W_st (st' := [.int x88, .ref (ad12 b89)]) (by rw [va_some ho89]) ?_
            obtain ⟨hvc, hF⟩ := chk_some hF
            refine va_iald hx hb hK hP b89 1 (wld_i ct ad12 (xt G L11) y13.1 hc89 hk89) rfl hvc dX0_writeBlock_208 ?_
            obtain ⟨x90, ex90, hF⟩ := ltt_some hF
            refine lv_topi (fun zx90 ezx90 => ?_)
            obtain rfl : x90 = zx90 := ex90.trans ezx90.symm
            refine lv_istore (lv' := [(6, .int x90), (5, .int y15), (4, .int x8), (3, .int x5), (2, .int x1), (0, .ref (ad12 a)), (1, .int p0)]) hx hb dX0_writeBlock_209 hl (by decide) rfl (fun ls hl => ?_)
            refine lv_aload_n hx hb dX0_writeBlock_211 rfl (lv_at hl 5 rfl) ?_
            refine va_get (D := D) (ci := 0) (v := va_re ad12 (y13.1.2 a 2)) (C := RX0) (T := TX0) (N := 21) hx hb hts (mus hf_X0) hown hK hP a (wld_o ct ad12 (xt G L11) y13.1 hc hk (by decide)) rfl 2 (by decide) (hts (.fieldLink RX0 29 "VideoSuite$Coder" "writer" "LVideoSuite$Writer;") (mu mw_815)) (fun _ h9 => h9) rfl dX0_writeBlock_212 ?_
            refine lv_iconst (v := (1 : Int32)) hx hb dX0_writeBlock_215 (by decide) ?_
            refine lv_iload hx hb dX0_writeBlock_216 (lv_at hl 0 rfl) ?_
            obtain ⟨b91, ho91, hc91, hk91, hF⟩ := dr_some hF
            refine W_st (st' := [.int x90, .int (1 : Int32), .ref (ad12 b91)]) (by rw [va_some ho91]) ?_
            obtain ⟨y92, hy92, hF⟩ := bnd_some hF
            obtain ⟨w93, hF, ew93⟩ := app_some hF
            obtain ⟨L94, eL94, hF⟩ := ltt_some hF
            have hT94 : L24 = (L11 ++ y92.1) ++ w93.1 := by rw [hT, ew93]; simp only [List.append_assoc]
            have hf9 := wA_in hD hA9 hS
            refine va_callv (va_runV (As := [.int (1 : Int32), .int x90]) (rest := []) ⟨hx, hb, hml, hown, hts⟩ (kX10_ue l D ct ad12 Z (xt G L11) y13.1 _ b91 ((1 : Int32)) x90 y92 hc91 hk91 hy92) (cwV 2 hts gX0_writeBlock_X10_ue rfl rfl rfl (by decide +kernel) ⟨Nat.le_of_ble_eq_true rfl, Nat.le_of_ble_eq_true rfl⟩) ⟨fun a U g mk q => by obtain ⟨q0, q1, qP, qK, qD, qZ, qN⟩ := q; exact ⟨q0, q1, qP, va_K.moved (u := U) (U := U.calling g mk a) (Vm.Alike.refl U.vm) qK, qD, sF.moved (u := U) (U := U.calling g mk a) (Vm.Alike.refl U.vm) qZ, nF.same rfl qN⟩, va_recv hK hP (ci := 10) (q0 := b91) rfl (wld_o ct ad12 (xt G L11) y13.1 hc91 hk91 (by decide)), fun U hU hW => ⟨rfl, by rw [hU], by rw [hU]; exact hP, va_K.moved hW.alike hK, hD.weaken (fun _ _ _ _ => trivial), by rw [hU]; exact ((hZ.kept hS.2.1).narrow hf9).moved hW.alike, hN.warm hW⟩⟩ rfl rfl hl.1 rfl (lv_room (Nat.le_of_ble_eq_true rfl)) dX0_writeBlock_218 (room_s hT94 hbl)) hS (fun q _ h => hf9 q h) hf9 (fun ad95 t H locs ht hvm hw hB hz1 hk1 hS => ?_)
            have hn96 := hw
            obtain ⟨hP, hK9, hD9⟩ := hB
            rw [ht] at hP
            have hD := hD9.weaken (fun _ q _ h => hf9 q.1 h)
            rw [xt_xt, ← eL94] at hP hD
            refine W_cs (k := L94.length) (n := wt L94) (by rw [eL94]; exact (len_s L11 y92.1).symm) (by rw [eL94]; exact (wt_app L11 y92.1).symm) ?_
            have hT : L24 = L94 ++ w93.1 := by rw [hT94, eL94]
            have h2 : y22.2 = w93.2 := by rw [h2, ew93]
            have hl := lv_sub (l' := [(6, .int x90), (3, .int x5), (0, .ref (ad12 a))]) hl [0, 3, 5] rfl
            have e9 : ([(6, .int x90), (3, .int x5), (0, .ref (ad12 a))] : List (Nat × Value)) = [(6, .int x90), (3, .int x5), (0, .ref (ad95 a))] := (by first | rfl | simp only [hn96 a hc])
            rw [e9] at hl
            clear e9
            have hk : (xt G L94).2.1 a = 0 := by rw [eL94]; exact xt_k _ hc hk
            have hc : a < (xt G L94).1 := by rw [eL94]; exact xt_l _ hc
            have hk2 : (xt G L94).2.1 b2 = 9 := by rw [eL94]; exact xt_k _ hc2 hk2
            have hc2 : b2 < (xt G L94).1 := by rw [eL94]; exact xt_l _ hc2
            have hk3 : (xt G L94).2.1 b3 = 3 := by rw [eL94]; exact xt_k _ hc3 hk3
            have hc3 : b3 < (xt G L94).1 := by rw [eL94]; exact xt_l _ hc3
            have hk4 : (xt G L94).2.1 b4 = 13 := by rw [eL94]; exact xt_k _ hc4 hk4
            have hc4 : b4 < (xt G L94).1 := by rw [eL94]; exact xt_l _ hc4
            have hk7 : (xt G L94).2.1 b7 = 13 := by rw [eL94]; exact xt_k _ hc7 hk7
            have hc7 : b7 < (xt G L94).1 := by rw [eL94]; exact xt_l _ hc7
            have hk87 : (xt G L94).2.1 b87 = 9 := by rw [eL94]; exact xt_k _ hc87 hk87
            have hc87 : b87 < (xt G L94).1 := by rw [eL94]; exact xt_l _ hc87
            have hk89 : (xt G L94).2.1 b89 = 13 := by rw [eL94]; exact xt_k _ hc89 hk89
            have hc89 : b89 < (xt G L94).1 := by rw [eL94]; exact xt_l _ hc89
            have hk91 : (xt G L94).2.1 b91 = 10 := by rw [eL94]; exact xt_k _ hc91 hk91
            have hc91 : b91 < (xt G L94).1 := by rw [eL94]; exact xt_l _ hc91
            have hag := agr_t (xt_ge _ _) hag hn96
            refine lv_iconst (v := (0 : Int32)) hx hb dX0_writeBlock_221 (by decide) ?_
            refine lv_istore (lv' := [(7, .int (0 : Int32)), (6, .int x90), (3, .int x5), (0, .ref (ad95 a))]) hx hb dX0_writeBlock_222 hl (by decide) rfl (fun ls hl => ?_)
            obtain ⟨y97, hy97, hF⟩ := bnd_some hF
            obtain ⟨w99, hF, ew99⟩ := app_some hF
            obtain ⟨L100, eL100, hF⟩ := ltt_some hF
            have hT100 : L24 = (L94 ++ y97.1) ++ w99.1 := by rw [hT, ew99]; simp only [List.append_assoc]
            have hbl100 : L100.length ≤ y.1.length ∧ wt L100 ≤ wt y.1 := by rw [eL100]; exact room_d hT100 hbl
            have K97 : ∀ (ad101 : Nat → Nat), agr G.1 ad ad101 → ∀ (H : Heap) (locs : List Loc) (ls : Array Slot), va_P D classes (wld ct ad101 (xt G L100) y97.2.2) H → va_D A (wld ct ad101 (xt G L100) y97.2.2) → va_S A s.heap H locs → lv_has ls 8 [] → W p l e (headSpec wuX0_writeBlock ({ frames := 6, cells := y.1.length, slots := wt y.1, locals := 199 })).room s m ([.ref (ad a), .int p0] : List Value).toArray below meth c H locs (L100 : NN).length (wt L100) (MQ below (va_Qv (fun (u : Nat → Nat) => agr G.1 ad u) (fun u t => kE D ct u (xt G y.1) A y.2 t) A) ([.ref (ad a), .int p0] : List Value).toArray s y.1.length (wt y.1) A) (F0 m 269 ls []) := by
              intro ad101 hag H locs ls hP hD hS hl
              have hT : L24 = L100 ++ w99.1 := by rw [hT100, eL100]
              have h2 : y22.2 = w99.2 := by rw [h2, ew99]
              have hk : (xt G L100).2.1 a = 0 := by rw [eL100]; exact xt_k _ hc hk
              have hc : a < (xt G L100).1 := by rw [eL100]; exact xt_l _ hc
              have hk2 : (xt G L100).2.1 b2 = 9 := by rw [eL100]; exact xt_k _ hc2 hk2
              have hc2 : b2 < (xt G L100).1 := by rw [eL100]; exact xt_l _ hc2
              have hk3 : (xt G L100).2.1 b3 = 3 := by rw [eL100]; exact xt_k _ hc3 hk3
              have hc3 : b3 < (xt G L100).1 := by rw [eL100]; exact xt_l _ hc3
              have hk4 : (xt G L100).2.1 b4 = 13 := by rw [eL100]; exact xt_k _ hc4 hk4
              have hc4 : b4 < (xt G L100).1 := by rw [eL100]; exact xt_l _ hc4
              have hk7 : (xt G L100).2.1 b7 = 13 := by rw [eL100]; exact xt_k _ hc7 hk7
              have hc7 : b7 < (xt G L100).1 := by rw [eL100]; exact xt_l _ hc7
              have hk87 : (xt G L100).2.1 b87 = 9 := by rw [eL100]; exact xt_k _ hc87 hk87
              have hc87 : b87 < (xt G L100).1 := by rw [eL100]; exact xt_l _ hc87
              have hk89 : (xt G L100).2.1 b89 = 13 := by rw [eL100]; exact xt_k _ hc89 hk89
              have hc89 : b89 < (xt G L100).1 := by rw [eL100]; exact xt_l _ hc89
              have hk91 : (xt G L100).2.1 b91 = 10 := by rw [eL100]; exact xt_k _ hc91 hk91
              have hc91 : b91 < (xt G L100).1 := by rw [eL100]; exact xt_l _ hc91
              refine lv_goto (tgt := 398) hx hb dX0_writeBlock_269 (by decide) ?_
              obtain rfl := Option.some.inj hF
              have e1 : L24 = L100 := by rw [hT]; exact List.append_nil _
              have e2 : y22.2 = y97.2.2 := h2
              rw [e1] at J22
              try rw [e2] at J22
              exact J22 _ hag _ _ _ hP hD hS (lv_sub hl [] rfl)
            clear hF
            refine itrA_rule (fun (s98 : NN × Int32 × DD) (r103 : NN) => (∃ t, s98.1 = L94 ++ t) → L100 = s98.1 ++ r103 → ∀ (ad102 : Nat → Nat), agr G.1 ad ad102 → ∀ (H : Heap) (locs : List Loc) (ls : Array Slot), va_P D classes (wld ct ad102 (xt G s98.1) s98.2.2) H → va_D A (wld ct ad102 (xt G s98.1) s98.2.2) → va_S A s.heap H locs → lv_has ls 8 [(7, .int s98.2.1), (6, .int x90), (3, .int x5), (0, .ref (ad102 a))] → W p l e (headSpec wuX0_writeBlock ({ frames := 6, cells := y.1.length, slots := wt y.1, locals := 199 })).room s m ([.ref (ad a), .int p0] : List Value).toArray below meth c H locs (s98.1 : NN).length (wt s98.1) (MQ below (va_Qv (fun (u : Nat → Nat) => agr G.1 ad u) (fun u t => kE D ct u (xt G y.1) A y.2 t) A) ([.ref (ad a), .int p0] : List Value).toArray s y.1.length (wt y.1) A) (F0 m 224 ls [])) ?_ _ _ _ hy97 ⟨[], (List.append_nil _).symm⟩ eL100 _ hag _ _ _ hP hD hS (lv_sub hl [0, 1, 2, 3] rfl)
            rintro s98 r103 ⟨z104, hF, ⟨t97, et97⟩, hwz104⟩ ⟨u97, eu97⟩ eq97 ad102 hag H locs ls hP hD hS hl
            try dsimp only at hF
            obtain ⟨L105, eL105⟩ : ∃ x, x = s98.1 ++ z104.1 := ⟨_, rfl⟩
            obtain ⟨w106, hw106⟩ : ∃ x, x = z104 := ⟨_, rfl⟩
            rw [← hw106] at hF
            have hbl : L105.length ≤ y.1.length ∧ wt L105 ≤ wt y.1 := room_d (show L100 = L105 ++ t97 by rw [eq97, et97, eL105]; simp only [List.append_assoc]) hbl100
            have hT : L105 = s98.1 ++ w106.1 := by rw [eL105, hw106]
            have h2 : z104.2 = w106.2 := by rw [hw106]
            have hk : (xt G s98.1).2.1 a = 0 := by rw [eu97]; exact xt_k _ hc hk
            have hc : a < (xt G s98.1).1 := by rw [eu97]; exact xt_l _ hc
            have hk2 : (xt G s98.1).2.1 b2 = 9 := by rw [eu97]; exact xt_k _ hc2 hk2
            have hc2 : b2 < (xt G s98.1).1 := by rw [eu97]; exact xt_l _ hc2
            have hk3 : (xt G s98.1).2.1 b3 = 3 := by rw [eu97]; exact xt_k _ hc3 hk3
            have hc3 : b3 < (xt G s98.1).1 := by rw [eu97]; exact xt_l _ hc3
            have hk4 : (xt G s98.1).2.1 b4 = 13 := by rw [eu97]; exact xt_k _ hc4 hk4
            have hc4 : b4 < (xt G s98.1).1 := by rw [eu97]; exact xt_l _ hc4
            have hk7 : (xt G s98.1).2.1 b7 = 13 := by rw [eu97]; exact xt_k _ hc7 hk7
            have hc7 : b7 < (xt G s98.1).1 := by rw [eu97]; exact xt_l _ hc7
            have hk87 : (xt G s98.1).2.1 b87 = 9 := by rw [eu97]; exact xt_k _ hc87 hk87
            have hc87 : b87 < (xt G s98.1).1 := by rw [eu97]; exact xt_l _ hc87
            have hk89 : (xt G s98.1).2.1 b89 = 13 := by rw [eu97]; exact xt_k _ hc89 hk89
            have hc89 : b89 < (xt G s98.1).1 := by rw [eu97]; exact xt_l _ hc89
            have hk91 : (xt G s98.1).2.1 b91 = 10 := by rw [eu97]; exact xt_k _ hc91 hk91
            have hc91 : b91 < (xt G s98.1).1 := by rw [eu97]; exact xt_l _ hc91
            refine lv_iload hx hb dX0_writeBlock_224 (lv_at hl 0 rfl) ?_
            refine lv_iconst (v := (4 : Int32)) hx hb dX0_writeBlock_226 (by decide) ?_
            refine lv_icmp_ge (tgt := 269) hx hb dX0_writeBlock_227 (by decide) (fun c107 => ?_) (fun c107 => ?_)
            · rw [if_pos c107] at hF
              obtain rfl := Option.some.inj hF
              have e1 : L105 = s98.1 := by rw [hT]; exact List.append_nil _
              have e2 : z104.2 = .inr ((s98.2.1, s98.2.2)) := h2
              rw [e2] at hwz104
              obtain ⟨hw1, hw2⟩ := hwz104
              have e8 : L100 = s98.1 := by rw [eq97, hw2, ← eL105, e1]
              rw [e8] at K97
              try rw [← hw1] at K97
              exact K97 _ hag _ _ _ hP hD hS (lv_sub hl [] rfl)
            · rw [if_neg c107] at hF
              refine lv_iload hx hb dX0_writeBlock_230 (lv_at hl 1 rfl) ?_
              refine lv_iload_n hx hb dX0_writeBlock_232 rfl (lv_at hl 2 rfl) ?_
              obtain ⟨y108, hy108, hF⟩ := bnd_some hF
              have J108 : ∀ (H : Heap) (locs : List Loc) (ls : Array Slot), va_P D classes (wld ct ad102 (xt G s98.1) s98.2.2) H → va_D A (wld ct ad102 (xt G s98.1) s98.2.2) → va_S A s.heap H locs → lv_has ls 8 [(7, .int s98.2.1), (6, .int x90), (3, .int x5), (0, .ref (ad102 a))] → W p l e (headSpec wuX0_writeBlock ({ frames := 6, cells := y.1.length, slots := wt y.1, locals := 199 })).room s m ([.ref (ad a), .int p0] : List Value).toArray below meth c H locs (s98.1 : NN).length (wt s98.1) (MQ below (va_Qv (fun (u : Nat → Nat) => agr G.1 ad u) (fun u t => kE D ct u (xt G y.1) A y.2 t) A) ([.ref (ad a), .int p0] : List Value).toArray s y.1.length (wt y.1) A) (F0 m 242 ls [.int y108, .int x90]) := by
                intro H locs ls hP hD hS hl
                refine lv_icmp_ne (tgt := 269) hx hb dX0_writeBlock_242 (by decide) (fun c109 => ?_) (fun c109 => ?_)
                · rw [if_neg c109] at hF
                  obtain rfl := Option.some.inj hF
                  have e1 : L105 = s98.1 := by rw [hT]; exact List.append_nil _
                  have e2 : z104.2 = .inr ((s98.2.1, s98.2.2)) := h2
                  rw [e2] at hwz104
                  obtain ⟨hw1, hw2⟩ := hwz104
                  have e8 : L100 = s98.1 := by rw [eq97, hw2, ← eL105, e1]
                  rw [e8] at K97
                  try rw [← hw1] at K97
                  exact K97 _ hag _ _ _ hP hD hS (lv_sub hl [] rfl)
                · rw [if_pos c109] at hF
                  refine lv_aload_n hx hb dX0_writeBlock_245 rfl (lv_at hl 3 rfl) ?_
                  refine va_get (D := D) (ci := 0) (v := va_re ad102 (s98.2.2.2 a 2)) (C := RX0) (T := TX0) (N := 21) hx hb hts (mus hf_X0) hown hK hP a (wld_o ct ad102 (xt G s98.1) s98.2.2 hc hk (by decide)) rfl 2 (by decide) (hts (.fieldLink RX0 29 "VideoSuite$Coder" "writer" "LVideoSuite$Writer;") (mu mw_815)) (fun _ h9 => h9) rfl dX0_writeBlock_246 ?_
                  refine lv_iconst (v := (5 : Int32)) hx hb dX0_writeBlock_249 (by decide) ?_
                  refine lv_aload_n hx hb dX0_writeBlock_250 rfl (lv_at hl 3 rfl) ?_
                  refine va_get (D := D) (ci := 0) (v := va_re ad102 (s98.2.2.2 a 3)) (C := RX0) (T := TX0) (N := 21) hx hb hts (mus hf_X0) hown hK hP a (wld_o ct ad102 (xt G s98.1) s98.2.2 hc hk (by decide)) rfl 3 (by decide) (hts (.fieldLink RX0 36 "VideoSuite$Coder" "work" "LVideoSuite$Work;") (mu mw_817)) (fun _ h9 => h9) rfl dX0_writeBlock_251 ?_
                  obtain ⟨b110, ho110, hc110, hk110, hF⟩ := dr_some hF
                  refine W_st (st' := [.ref (ad102 b110), .int (5 : Int32), va_re ad102 (s98.2.2.2 a 2)]) (by rw [va_some ho110]) ?_
                  refine va_get (D := D) (ci := 9) (v := va_re ad102 (s98.2.2.2 b110 12)) (C := RX9) (T := TX9) (N := 20) hx hb hts (mus hf_X9) hown hK hP b110 (wld_o ct ad102 (xt G s98.1) s98.2.2 hc110 hk110 (by decide)) rfl 12 (by decide) (hts (.fieldLink RX0 400 "VideoSuite$Work" "sub" "[I") (mu mw_465)) (fun _ h9 => h9) rfl dX0_writeBlock_254 ?_
                  refine lv_iload hx hb dX0_writeBlock_257 (lv_at hl 0 rfl) ?_
                  obtain ⟨b111, ho111, hc111, hk111, hF⟩ := dr_some hF
                  refine W_st (st' := [.int s98.2.1, .ref (ad102 b111), .int (5 : Int32), va_re ad102 (s98.2.2.2 a 2)]) (by rw [va_some ho111]) ?_
                  obtain ⟨hvc, hF⟩ := chk_some hF
                  refine va_iald hx hb hK hP b111 1 (wld_i ct ad102 (xt G s98.1) s98.2.2 hc111 hk111) rfl hvc dX0_writeBlock_259 ?_
                  obtain ⟨x112, ex112, hF⟩ := ltt_some hF
                  refine lv_topi (fun zx112 ezx112 => ?_)
                  obtain rfl : x112 = zx112 := ex112.trans ezx112.symm
                  obtain ⟨b113, ho113, hc113, hk113, hF⟩ := dr_some hF
                  refine W_st (st' := [.int x112, .int (5 : Int32), .ref (ad102 b113)]) (by rw [va_some ho113]) ?_
                  obtain ⟨y114, hy114, hF⟩ := bnd_some hF
                  obtain ⟨w115, hF, ew115⟩ := app_some hF
                  obtain ⟨L116, eL116, hF⟩ := ltt_some hF
                  have hT116 : L105 = (s98.1 ++ y114.1) ++ w115.1 := by rw [hT, ew115]; simp only [List.append_assoc]
                  have hf9 := wA_in hD hA9 hS
                  refine va_callv (va_runV (As := [.int (5 : Int32), .int x112]) (rest := []) ⟨hx, hb, hml, hown, hts⟩ (kX10_ue l D ct ad102 Z (xt G s98.1) s98.2.2 _ b113 ((5 : Int32)) x112 y114 hc113 hk113 hy114) (cwV 2 hts gX0_writeBlock_X10_ue rfl rfl rfl (by decide +kernel) ⟨Nat.le_of_ble_eq_true rfl, Nat.le_of_ble_eq_true rfl⟩) ⟨fun a U g mk q => by obtain ⟨q0, q1, qP, qK, qD, qZ, qN⟩ := q; exact ⟨q0, q1, qP, va_K.moved (u := U) (U := U.calling g mk a) (Vm.Alike.refl U.vm) qK, qD, sF.moved (u := U) (U := U.calling g mk a) (Vm.Alike.refl U.vm) qZ, nF.same rfl qN⟩, va_recv hK hP (ci := 10) (q0 := b113) rfl (wld_o ct ad102 (xt G s98.1) s98.2.2 hc113 hk113 (by decide)), fun U hU hW => ⟨rfl, by rw [hU], by rw [hU]; exact hP, va_K.moved hW.alike hK, hD.weaken (fun _ _ _ _ => trivial), by rw [hU]; exact ((hZ.kept hS.2.1).narrow hf9).moved hW.alike, hN.warm hW⟩⟩ rfl rfl hl.1 rfl (lv_room (Nat.le_of_ble_eq_true rfl)) dX0_writeBlock_260 (room_s hT116 hbl)) hS (fun q _ h => hf9 q h) hf9 (fun ad117 t H locs ht hvm hw hB hz1 hk1 hS => ?_)
                  have hn118 := hw
                  obtain ⟨hP, hK9, hD9⟩ := hB
                  rw [ht] at hP
                  have hD := hD9.weaken (fun _ q _ h => hf9 q.1 h)
                  rw [xt_xt, ← eL116] at hP hD
                  refine W_cs (k := L116.length) (n := wt L116) (by rw [eL116]; exact (len_s s98.1 y114.1).symm) (by rw [eL116]; exact (wt_app s98.1 y114.1).symm) ?_
                  have hT : L105 = L116 ++ w115.1 := by rw [hT116, eL116]
                  have h2 : z104.2 = w115.2 := by rw [h2, ew115]
                  have hl := lv_sub (l' := [(7, .int s98.2.1), (6, .int x90), (3, .int x5), (0, .ref (ad102 a))]) hl [0, 1, 2, 3] rfl
                  have e9 : ([(7, .int s98.2.1), (6, .int x90), (3, .int x5), (0, .ref (ad102 a))] : List (Nat × Value)) = [(7, .int s98.2.1), (6, .int x90), (3, .int x5), (0, .ref (ad117 a))] := (by first | rfl | simp only [hn118 a hc])
                  rw [e9] at hl
                  clear e9
                  have hk : (xt G L116).2.1 a = 0 := by rw [eL116]; exact xt_k _ hc hk
                  have hc : a < (xt G L116).1 := by rw [eL116]; exact xt_l _ hc
                  have hk2 : (xt G L116).2.1 b2 = 9 := by rw [eL116]; exact xt_k _ hc2 hk2
                  have hc2 : b2 < (xt G L116).1 := by rw [eL116]; exact xt_l _ hc2
                  have hk3 : (xt G L116).2.1 b3 = 3 := by rw [eL116]; exact xt_k _ hc3 hk3
                  have hc3 : b3 < (xt G L116).1 := by rw [eL116]; exact xt_l _ hc3
                  have hk4 : (xt G L116).2.1 b4 = 13 := by rw [eL116]; exact xt_k _ hc4 hk4
                  have hc4 : b4 < (xt G L116).1 := by rw [eL116]; exact xt_l _ hc4
                  have hk7 : (xt G L116).2.1 b7 = 13 := by rw [eL116]; exact xt_k _ hc7 hk7
                  have hc7 : b7 < (xt G L116).1 := by rw [eL116]; exact xt_l _ hc7
                  have hk87 : (xt G L116).2.1 b87 = 9 := by rw [eL116]; exact xt_k _ hc87 hk87
                  have hc87 : b87 < (xt G L116).1 := by rw [eL116]; exact xt_l _ hc87
                  have hk89 : (xt G L116).2.1 b89 = 13 := by rw [eL116]; exact xt_k _ hc89 hk89
                  have hc89 : b89 < (xt G L116).1 := by rw [eL116]; exact xt_l _ hc89
                  have hk91 : (xt G L116).2.1 b91 = 10 := by rw [eL116]; exact xt_k _ hc91 hk91
                  have hc91 : b91 < (xt G L116).1 := by rw [eL116]; exact xt_l _ hc91
                  have hk110 : (xt G L116).2.1 b110 = 9 := by rw [eL116]; exact xt_k _ hc110 hk110
                  have hc110 : b110 < (xt G L116).1 := by rw [eL116]; exact xt_l _ hc110
                  have hk111 : (xt G L116).2.1 b111 = 13 := by rw [eL116]; exact xt_k _ hc111 hk111
                  have hc111 : b111 < (xt G L116).1 := by rw [eL116]; exact xt_l _ hc111
                  have hk113 : (xt G L116).2.1 b113 = 10 := by rw [eL116]; exact xt_k _ hc113 hk113
                  have hc113 : b113 < (xt G L116).1 := by rw [eL116]; exact xt_l _ hc113
                  have hag := agr_t (xt_ge _ _) hag hn118
                  obtain ⟨x119, ex119, hF⟩ := ltt_some hF
                  refine lv_iinc (v := x119) (lv' := [(7, .int x119), (6, .int x90), (3, .int x5), (0, .ref (ad117 a))]) hx hb dX0_writeBlock_263 hl (k := 0) rfl (by rw [ex119]; rfl) (by decide) rfl (fun ls hl => ?_)
                  refine lv_goto (tgt := 224) hx hb dX0_writeBlock_266 (by decide) ?_
                  obtain rfl := Option.some.inj hF
                  have e1 : L105 = L116 := by rw [hT]; exact List.append_nil _
                  have e2 : z104.2 = .inl (L116, (x119, y114.2)) := h2
                  rw [e2] at hwz104
                  obtain ⟨r2, er2, hwz104⟩ := hwz104
                  exact hwz104 ⟨u97 ++ z104.1, by show L116 = _; rw [← e1, eL105, eu97]; simp only [List.append_assoc]⟩ (by show L100 = L116 ++ r2; rw [eq97, er2, ← e1, eL105]; simp only [List.append_assoc]) _ hag _ _ _ hP hD hS (lv_sub hl [0, 1, 2, 3] rfl)
              clear hF
              have hF := hy108
              clear hy108
              refine lv_if_ne (tgt := 240) hx hb dX0_writeBlock_233 (by decide) (fun c120 => ?_) (fun c120 => ?_)
              · rw [if_neg c120] at hF
                refine lv_bipush (v := (22 : Int32)) hx hb dX0_writeBlock_240 (by decide) ?_
                obtain rfl := Option.some.inj hF
                exact J108 _ _ _ hP hD hS (lv_sub hl [0, 1, 2, 3] rfl)
              · rw [if_pos c120] at hF
                refine lv_iconst (v := (3 : Int32)) hx hb dX0_writeBlock_236 (by decide) ?_
                refine lv_goto (tgt := 242) hx hb dX0_writeBlock_237 (by decide) ?_
                obtain rfl := Option.some.inj hF
                exact J108 _ _ _ hP hD hS (lv_sub hl [0, 1, 2, 3] rfl)
        · rw [if_pos c21] at hF
          refine lv_aload_n hx hb dX0_writeBlock_162 rfl (lv_at hl 4 rfl) ?_
          refine va_get (D := D) (ci := 0) (v := va_re ad12 (y13.1.2 a 2)) (C := RX0) (T := TX0) (N := 21) hx hb hts (mus hf_X0) hown hK hP a (wld_o ct ad12 (xt G L11) y13.1 hc hk (by decide)) rfl 2 (by decide) (hts (.fieldLink RX0 29 "VideoSuite$Coder" "writer" "LVideoSuite$Writer;") (mu mw_815)) (fun _ h9 => h9) rfl dX0_writeBlock_163 ?_
          refine lv_iconst (v := (1 : Int32)) hx hb dX0_writeBlock_166 (by decide) ?_
          refine lv_iload hx hb dX0_writeBlock_167 (lv_at hl 0 rfl) ?_
          refine lv_bipush (v := (25 : Int32)) hx hb dX0_writeBlock_169 (by decide) ?_
          refine lv_iadd hx hb dX0_writeBlock_171 ?_
          obtain ⟨x121, ex121, hF⟩ := ltt_some hF
          refine lv_topi (fun zx121 ezx121 => ?_)
          obtain rfl : x121 = zx121 := ex121.trans ezx121.symm
          obtain ⟨b122, ho122, hc122, hk122, hF⟩ := dr_some hF
          refine W_st (st' := [.int x121, .int (1 : Int32), .ref (ad12 b122)]) (by rw [va_some ho122]) ?_
          obtain ⟨y123, hy123, hF⟩ := bnd_some hF
          obtain ⟨w124, hF, ew124⟩ := app_some hF
          obtain ⟨L125, eL125, hF⟩ := ltt_some hF
          have hT125 : L18 = (L11 ++ y123.1) ++ w124.1 := by rw [hT, ew124]; simp only [List.append_assoc]
          have hf9 := wA_in hD hA9 hS
          refine va_callv (va_runV (As := [.int (1 : Int32), .int x121]) (rest := []) ⟨hx, hb, hml, hown, hts⟩ (kX10_ue l D ct ad12 Z (xt G L11) y13.1 _ b122 ((1 : Int32)) x121 y123 hc122 hk122 hy123) (cwV 2 hts gX0_writeBlock_X10_ue rfl rfl rfl (by decide +kernel) ⟨Nat.le_of_ble_eq_true rfl, Nat.le_of_ble_eq_true rfl⟩) ⟨fun a U g mk q => by obtain ⟨q0, q1, qP, qK, qD, qZ, qN⟩ := q; exact ⟨q0, q1, qP, va_K.moved (u := U) (U := U.calling g mk a) (Vm.Alike.refl U.vm) qK, qD, sF.moved (u := U) (U := U.calling g mk a) (Vm.Alike.refl U.vm) qZ, nF.same rfl qN⟩, va_recv hK hP (ci := 10) (q0 := b122) rfl (wld_o ct ad12 (xt G L11) y13.1 hc122 hk122 (by decide)), fun U hU hW => ⟨rfl, by rw [hU], by rw [hU]; exact hP, va_K.moved hW.alike hK, hD.weaken (fun _ _ _ _ => trivial), by rw [hU]; exact ((hZ.kept hS.2.1).narrow hf9).moved hW.alike, hN.warm hW⟩⟩ rfl rfl hl.1 rfl (lv_room (Nat.le_of_ble_eq_true rfl)) dX0_writeBlock_172 (room_s hT125 hbl)) hS (fun q _ h => hf9 q h) hf9 (fun ad126 t H locs ht hvm hw hB hz1 hk1 hS => ?_)
          have hn127 := hw
          obtain ⟨hP, hK9, hD9⟩ := hB
          rw [ht] at hP
          have hD := hD9.weaken (fun _ q _ h => hf9 q.1 h)
          rw [xt_xt, ← eL125] at hP hD
          refine W_cs (k := L125.length) (n := wt L125) (by rw [eL125]; exact (len_s L11 y123.1).symm) (by rw [eL125]; exact (wt_app L11 y123.1).symm) ?_
          have hT : L18 = L125 ++ w124.1 := by rw [hT125, eL125]
          have h2 : y16.2 = w124.2 := by rw [h2, ew124]
          have hl := lv_sub (l' := [(0, .ref (ad12 a))]) hl [4] rfl
          have e9 : ([(0, .ref (ad12 a))] : List (Nat × Value)) = [(0, .ref (ad126 a))] := (by first | rfl | simp only [hn127 a hc])
          rw [e9] at hl
          clear e9
          have hk : (xt G L125).2.1 a = 0 := by rw [eL125]; exact xt_k _ hc hk
          have hc : a < (xt G L125).1 := by rw [eL125]; exact xt_l _ hc
          have hk2 : (xt G L125).2.1 b2 = 9 := by rw [eL125]; exact xt_k _ hc2 hk2
          have hc2 : b2 < (xt G L125).1 := by rw [eL125]; exact xt_l _ hc2
          have hk3 : (xt G L125).2.1 b3 = 3 := by rw [eL125]; exact xt_k _ hc3 hk3
          have hc3 : b3 < (xt G L125).1 := by rw [eL125]; exact xt_l _ hc3
          have hk4 : (xt G L125).2.1 b4 = 13 := by rw [eL125]; exact xt_k _ hc4 hk4
          have hc4 : b4 < (xt G L125).1 := by rw [eL125]; exact xt_l _ hc4
          have hk7 : (xt G L125).2.1 b7 = 13 := by rw [eL125]; exact xt_k _ hc7 hk7
          have hc7 : b7 < (xt G L125).1 := by rw [eL125]; exact xt_l _ hc7
          have hk122 : (xt G L125).2.1 b122 = 10 := by rw [eL125]; exact xt_k _ hc122 hk122
          have hc122 : b122 < (xt G L125).1 := by rw [eL125]; exact xt_l _ hc122
          have hag := agr_t (xt_ge _ _) hag hn127
          refine lv_aload_n hx hb dX0_writeBlock_175 rfl (lv_at hl 0 rfl) ?_
          refine va_get (D := D) (ci := 0) (v := va_re ad126 (y123.2.2 a 2)) (C := RX0) (T := TX0) (N := 21) hx hb hts (mus hf_X0) hown hK hP a (wld_o ct ad126 (xt G L125) y123.2 hc hk (by decide)) rfl 2 (by decide) (hts (.fieldLink RX0 29 "VideoSuite$Coder" "writer" "LVideoSuite$Writer;") (mu mw_815)) (fun _ h9 => h9) rfl dX0_writeBlock_176 ?_
          refine lv_aload_n hx hb dX0_writeBlock_179 rfl (lv_at hl 0 rfl) ?_
          refine va_get (D := D) (ci := 0) (v := va_re ad126 (y123.2.2 a 4)) (C := RX0) (T := TX0) (N := 21) hx hb hts (mus hf_X0) hown hK hP a (wld_o ct ad126 (xt G L125) y123.2 hc hk (by decide)) rfl 4 (by decide) (hts (.fieldLink RX0 43 "VideoSuite$Coder" "samples" "LVideoSuite$Samples;") (mu mw_818)) (fun _ h9 => h9) rfl dX0_writeBlock_180 ?_
          obtain ⟨b128, ho128, hc128, hk128, hF⟩ := dr_some hF
          refine W_st (st' := [.ref (ad126 b128), va_re ad126 (y123.2.2 a 2)]) (by rw [va_some ho128]) ?_
          refine va_get (D := D) (ci := 6) (v := va_re ad126 (y123.2.2 b128 0)) (C := RX6) (T := TX6) (N := 14) hx hb hts (mus hf_X6) hown hK hP b128 (wld_o ct ad126 (xt G L125) y123.2 hc128 hk128 (by decide)) rfl 0 (by decide) (hts (.fieldLink RX0 566 "VideoSuite$Samples" "guess" "[I") (mu mw_535)) (fun _ h9 => h9) rfl dX0_writeBlock_183 ?_
          obtain ⟨b129, ho129, hc129, hk129, hF⟩ := dr_some hF
          refine W_st (st' := [va_re ad126 (y123.2.2 b128 0), .ref (ad126 b129)]) (by rw [va_some ho129]) ?_
          obtain ⟨y130, hy130, hF⟩ := bnd_some hF
          obtain ⟨w131, hF, ew131⟩ := app_some hF
          obtain ⟨L132, eL132, hF⟩ := ltt_some hF
          have hT132 : L18 = (L125 ++ y130.1) ++ w131.1 := by rw [hT, ew131]; simp only [List.append_assoc]
          have hf9 := wA_in hD hA9 hS
          refine va_callv (va_runV (As := [va_re ad126 (y123.2.2 b128 0)]) (rest := []) ⟨hx, hb, hml, hown, hts⟩ (kX10_rawSamples l D ct ad126 Z (xt G L125) y123.2 _ b129 ((y123.2.2 b128 0)) y130 hc129 hk129 hy130) (cwV 1 hts gX0_writeBlock_X10_rawSamples rfl rfl rfl (by decide +kernel) ⟨Nat.le_of_ble_eq_true rfl, Nat.le_of_ble_eq_true rfl⟩) ⟨fun a U g mk q => by obtain ⟨q0, q1, qP, qK, qD, qZ, qN⟩ := q; exact ⟨q0, q1, qP, va_K.moved (u := U) (U := U.calling g mk a) (Vm.Alike.refl U.vm) qK, qD, sF.moved (u := U) (U := U.calling g mk a) (Vm.Alike.refl U.vm) qZ, nF.same rfl qN⟩, va_recv hK hP (ci := 10) (q0 := b129) rfl (wld_o ct ad126 (xt G L125) y123.2 hc129 hk129 (by decide)), fun U hU hW => ⟨rfl, by rw [hU], by rw [hU]; exact hP, va_K.moved hW.alike hK, hD.weaken (fun _ _ _ _ => trivial), by rw [hU]; exact ((hZ.kept hS.2.1).narrow hf9).moved hW.alike, hN.warm hW⟩⟩ rfl rfl hl.1 rfl (lv_room (Nat.le_of_ble_eq_true rfl)) dX0_writeBlock_186 (room_s hT132 hbl)) hS (fun q _ h => hf9 q h) hf9 (fun ad133 t H locs ht hvm hw hB hz1 hk1 hS => ?_)
          have hn134 := hw
          obtain ⟨hP, hK9, hD9⟩ := hB
          rw [ht] at hP
          have hD := hD9.weaken (fun _ q _ h => hf9 q.1 h)
          rw [xt_xt, ← eL132] at hP hD
          refine W_cs (k := L132.length) (n := wt L132) (by rw [eL132]; exact (len_s L125 y130.1).symm) (by rw [eL132]; exact (wt_app L125 y130.1).symm) ?_
          have hT : L18 = L132 ++ w131.1 := by rw [hT132, eL132]
          have h2 : y16.2 = w131.2 := by rw [h2, ew131]
          have hl := lv_sub (l' := []) hl [] rfl
          have hk : (xt G L132).2.1 a = 0 := by rw [eL132]; exact xt_k _ hc hk
          have hc : a < (xt G L132).1 := by rw [eL132]; exact xt_l _ hc
          have hk2 : (xt G L132).2.1 b2 = 9 := by rw [eL132]; exact xt_k _ hc2 hk2
          have hc2 : b2 < (xt G L132).1 := by rw [eL132]; exact xt_l _ hc2
          have hk3 : (xt G L132).2.1 b3 = 3 := by rw [eL132]; exact xt_k _ hc3 hk3
          have hc3 : b3 < (xt G L132).1 := by rw [eL132]; exact xt_l _ hc3
          have hk4 : (xt G L132).2.1 b4 = 13 := by rw [eL132]; exact xt_k _ hc4 hk4
          have hc4 : b4 < (xt G L132).1 := by rw [eL132]; exact xt_l _ hc4
          have hk7 : (xt G L132).2.1 b7 = 13 := by rw [eL132]; exact xt_k _ hc7 hk7
          have hc7 : b7 < (xt G L132).1 := by rw [eL132]; exact xt_l _ hc7
          have hk122 : (xt G L132).2.1 b122 = 10 := by rw [eL132]; exact xt_k _ hc122 hk122
          have hc122 : b122 < (xt G L132).1 := by rw [eL132]; exact xt_l _ hc122
          have hk128 : (xt G L132).2.1 b128 = 6 := by rw [eL132]; exact xt_k _ hc128 hk128
          have hc128 : b128 < (xt G L132).1 := by rw [eL132]; exact xt_l _ hc128
          have hk129 : (xt G L132).2.1 b129 = 10 := by rw [eL132]; exact xt_k _ hc129 hk129
          have hc129 : b129 < (xt G L132).1 := by rw [eL132]; exact xt_l _ hc129
          have hag := agr_t (xt_ge _ _) hag hn134
          refine lv_goto (tgt := 398) hx hb dX0_writeBlock_189 (by decide) ?_
          obtain rfl := Option.some.inj hF
          have e1 : L18 = L132 := by rw [hT]; exact List.append_nil _
          have e2 : y16.2 = y130.2 := h2
          rw [e1] at J16
          try rw [e2] at J16
          exact J16 _ hag _ _ _ hP hD hS (lv_sub hl [] rfl)
      clear hF
      have hF := hy15
      clear hy15
      refine lv_icmp_ne (tgt := 144) hx hb dX0_writeBlock_137 (by decide) (fun c135 => ?_) (fun c135 => ?_)
      · rw [if_neg c135] at hF
        refine lv_iload_n hx hb dX0_writeBlock_144 rfl (lv_at hl 1 rfl) ?_
        obtain ⟨y136, hy136, hF⟩ := bnd_some hF
        have J136 : ∀ (H : Heap) (locs : List Loc) (ls : Array Slot), va_P D classes (wld ct ad12 (xt G L11) y13.1) H → va_D A (wld ct ad12 (xt G L11) y13.1) → va_S A s.heap H locs → lv_has ls 8 [(4, .int x8), (3, .int x5), (2, .int x1), (0, .ref (ad12 a)), (1, .int p0)] → W p l e (headSpec wuX0_writeBlock ({ frames := 6, cells := y.1.length, slots := wt y.1, locals := 199 })).room s m ([.ref (ad a), .int p0] : List Value).toArray below meth c H locs (L11 : NN).length (wt L11) (MQ below (va_Qv (fun (u : Nat → Nat) => agr G.1 ad u) (fun u t => kE D ct u (xt G y.1) A y.2 t) A) ([.ref (ad a), .int p0] : List Value).toArray s y.1.length (wt y.1) A) (F0 m 154 ls [.int y136]) := by
          intro H locs ls hP hD hS hl
          obtain rfl := Option.some.inj hF
          exact J15 _ _ _ hP hD hS (lv_sub hl [0, 1, 2, 3, 4] rfl)
        clear hF
        have hF := hy136
        clear hy136
        refine lv_if_ne (tgt := 152) hx hb dX0_writeBlock_145 (by decide) (fun c137 => ?_) (fun c137 => ?_)
        · rw [if_neg c137] at hF
          refine lv_bipush (v := (23 : Int32)) hx hb dX0_writeBlock_152 (by decide) ?_
          obtain rfl := Option.some.inj hF
          exact J136 _ _ _ hP hD hS (lv_sub hl [0, 1, 2, 3, 4] rfl)
        · rw [if_pos c137] at hF
          refine lv_iconst (v := (5 : Int32)) hx hb dX0_writeBlock_148 (by decide) ?_
          refine lv_goto (tgt := 154) hx hb dX0_writeBlock_149 (by decide) ?_
          obtain rfl := Option.some.inj hF
          exact J136 _ _ _ hP hD hS (lv_sub hl [0, 1, 2, 3, 4] rfl)
      · rw [if_pos c135] at hF
        refine lv_iconst (v := (0 : Int32)) hx hb dX0_writeBlock_140 (by decide) ?_
        refine lv_goto (tgt := 154) hx hb dX0_writeBlock_141 (by decide) ?_
        obtain rfl := Option.some.inj hF
        exact J15 _ _ _ hP hD hS (lv_sub hl [0, 1, 2, 3, 4] rfl)
    · rw [if_neg c14] at hF
      obtain rfl := Option.some.inj hF
      have e1 : y.1 = L11 := by rw [hT]; exact List.append_nil _
      have e2 : y.2 = y13.1 := h2
      refine W.widen (k := y.1.length) (n := wt y.1) (Nat.le_of_eq (by rw [e1])) (Nat.le_of_eq (by rw [e1])) ?_
      exact W.vret hx hb hr (fun t ht hW => ⟨⟨ad12, rfl, hag, (by unfold kE; rw [e1, e2]; exact ⟨by rw [ht]; exact hP, va_K.moved hW.alike hK, hD⟩)⟩, hS.F ht⟩) hS.2.2 dX0_writeBlock_134
  clear hF
  obtain ⟨w138, hw138⟩ : ∃ z, z = y9 := ⟨_, rfl⟩
  have hF := hy9
  rw [← hw138] at hF
  clear hy9
  have hT : L11 = [] ++ w138.1 := by rw [eL11, hw138]
  have h2 : y9.2 = w138.2 := by rw [hw138]
  have hbl := hbl11
  refine lv_icmp_eq (tgt := 74) hx hb dX0_writeBlock_33 (by decide) (fun c139 => ?_) (fun c139 => ?_)
  · rw [if_pos c139] at hF
    refine lv_aload_n hx hb dX0_writeBlock_74 rfl (lv_at hl 3 rfl) ?_
    refine lv_iload_n hx hb dX0_writeBlock_75 rfl (lv_at hl 4 rfl) ?_
    obtain ⟨y140, hy140, hF⟩ := bnd_some hF
    have hf9 := wA_in hD hA9 hS
    refine va_calli (va_runV (As := [.int p0]) (rest := []) ⟨hx, hb, hml, hown, hts⟩ (kX0_isSkipped l D ct ad Z (xt G []) M s.heap.size a p0 y140 hc hk hy140) (cwV 1 hts gX0_writeBlock_X0_isSkipped rfl rfl rfl (by decide +kernel) ⟨Nat.le_of_ble_eq_true rfl, Nat.le_of_ble_eq_true rfl⟩) ⟨fun a U g mk q => by obtain ⟨q0, q1, qP, qK, qD, qZ, qN⟩ := q; exact ⟨q0, q1, qP, va_K.moved (u := U) (U := U.calling g mk a) (Vm.Alike.refl U.vm) qK, qD, sF.moved (u := U) (U := U.calling g mk a) (Vm.Alike.refl U.vm) qZ, nF.same rfl qN⟩, va_recv hK hP (ci := 0) (q0 := a) rfl (wld_o ct ad (xt G []) M hc hk (by decide)), fun U hU hW => ⟨rfl, by rw [hU], by rw [hU]; exact hP, va_K.moved hW.alike hK, hD.weaken (fun _ _ _ _ => trivial), by rw [hU]; exact ((hZ.kept hS.2.1).narrow hf9).moved hW.alike, hN.warm hW⟩⟩ rfl rfl hl.1 rfl (lv_room (Nat.le_of_ble_eq_true rfl)) dX0_writeBlock_76 (room_d hT hbl)) hS (fun q _ h => hf9 q h) hf9 (fun r u t H locs ht hvm hw hB hz1 hk1 hS => ?_)
    obtain ⟨hP, hK9, hD9⟩ := hB
    rw [ht] at hP
    try dsimp only at hw
    subst hw
    refine W_cs (k := ([] : NN).length) (n := wt []) rfl rfl ?_
    have hD := hD9.weaken (fun _ q _ h => hf9 q.1 h)
    obtain ⟨y141, hy141, hF⟩ := bnd_some hF
    obtain ⟨w142, hF, ew142⟩ := app_some hF
    obtain ⟨L143, eL143, hF⟩ := ltt_some hF
    have hT143 : L11 = ([] ++ y141.1) ++ w142.1 := by rw [hT, ew142]; simp only [List.append_assoc]
    have hbl143 : L143.length ≤ y.1.length ∧ wt L143 ≤ wt y.1 := by rw [eL143]; exact room_d hT143 hbl
    have J141 : ∀ (ad144 : Nat → Nat), agr G.1 ad ad144 → ∀ (H : Heap) (locs : List Loc) (ls : Array Slot), va_P D classes (wld ct ad144 (xt G L143) y141.2) H → va_D A (wld ct ad144 (xt G L143) y141.2) → va_S A s.heap H locs → lv_has ls 8 [(4, .int x8), (3, .int x5), (2, .int x1), (0, .ref (ad144 a)), (1, .int p0)] → W p l e (headSpec wuX0_writeBlock ({ frames := 6, cells := y.1.length, slots := wt y.1, locals := 199 })).room s m ([.ref (ad a), .int p0] : List Value).toArray below meth c H locs (L143 : NN).length (wt L143) (MQ below (va_Qv (fun (u : Nat → Nat) => agr G.1 ad u) (fun u t => kE D ct u (xt G y.1) A y.2 t) A) ([.ref (ad a), .int p0] : List Value).toArray s y.1.length (wt y.1) A) (F0 m 126 ls []) := by
      intro ad144 hag H locs ls hP hD hS hl
      have hT : L11 = L143 ++ w142.1 := by rw [hT143, eL143]
      have h2 : y9.2 = w142.2 := by rw [h2, ew142]
      have hk : (xt G L143).2.1 a = 0 := by rw [eL143]; exact xt_k _ hc hk
      have hc : a < (xt G L143).1 := by rw [eL143]; exact xt_l _ hc
      have hk2 : (xt G L143).2.1 b2 = 9 := by rw [eL143]; exact xt_k _ hc2 hk2
      have hc2 : b2 < (xt G L143).1 := by rw [eL143]; exact xt_l _ hc2
      have hk3 : (xt G L143).2.1 b3 = 3 := by rw [eL143]; exact xt_k _ hc3 hk3
      have hc3 : b3 < (xt G L143).1 := by rw [eL143]; exact xt_l _ hc3
      have hk4 : (xt G L143).2.1 b4 = 13 := by rw [eL143]; exact xt_k _ hc4 hk4
      have hc4 : b4 < (xt G L143).1 := by rw [eL143]; exact xt_l _ hc4
      have hk7 : (xt G L143).2.1 b7 = 13 := by rw [eL143]; exact xt_k _ hc7 hk7
      have hc7 : b7 < (xt G L143).1 := by rw [eL143]; exact xt_l _ hc7
      obtain rfl := Option.some.inj hF
      have e1 : L11 = L143 := by rw [hT]; exact List.append_nil _
      have e2 : y9.2 = y141.2 := h2
      rw [e1] at J9
      try rw [e2] at J9
      exact J9 _ hag _ _ _ hP hD hS (lv_sub hl [0, 1, 2, 3, 4] rfl)
    clear hF
    obtain ⟨w145, hw145⟩ : ∃ z, z = y141 := ⟨_, rfl⟩
    have hF := hy141
    rw [← hw145] at hF
    clear hy141
    have hT : L143 = [] ++ w145.1 := by rw [eL143, hw145]
    have h2 : y141.2 = w145.2 := by rw [hw145]
    have hbl := hbl143
    refine lv_if_eq (tgt := 98) hx hb dX0_writeBlock_79 (by decide) (fun c146 => ?_) (fun c146 => ?_)
    · rw [if_pos c146] at hF
      refine lv_iload_n hx hb dX0_writeBlock_98 rfl (lv_at hl 1 rfl) ?_
      refine lv_iconst (v := (2 : Int32)) hx hb dX0_writeBlock_99 (by decide) ?_
      obtain ⟨y147, hy147, hF⟩ := bnd_some hF
      obtain ⟨w148, hF, ew148⟩ := app_some hF
      obtain ⟨L149, eL149, hF⟩ := ltt_some hF
      have hT149 : L143 = ([] ++ y147.1) ++ w148.1 := by rw [hT, ew148]; simp only [List.append_assoc]
      have hbl149 : L149.length ≤ y.1.length ∧ wt L149 ≤ wt y.1 := by rw [eL149]; exact room_d hT149 hbl
      have J147 : ∀ (ad150 : Nat → Nat), agr G.1 ad ad150 → ∀ (H : Heap) (locs : List Loc) (ls : Array Slot), va_P D classes (wld ct ad150 (xt G L149) y147.2) H → va_D A (wld ct ad150 (xt G L149) y147.2) → va_S A s.heap H locs → lv_has ls 8 [(4, .int x8), (3, .int x5), (2, .int x1), (0, .ref (ad150 a)), (1, .int p0)] → W p l e (headSpec wuX0_writeBlock ({ frames := 6, cells := y.1.length, slots := wt y.1, locals := 199 })).room s m ([.ref (ad a), .int p0] : List Value).toArray below meth c H locs (L149 : NN).length (wt L149) (MQ below (va_Qv (fun (u : Nat → Nat) => agr G.1 ad u) (fun u t => kE D ct u (xt G y.1) A y.2 t) A) ([.ref (ad a), .int p0] : List Value).toArray s y.1.length (wt y.1) A) (F0 m 126 ls []) := by
        intro ad150 hag H locs ls hP hD hS hl
        have hT : L143 = L149 ++ w148.1 := by rw [hT149, eL149]
        have h2 : y141.2 = w148.2 := by rw [h2, ew148]
        have hk : (xt G L149).2.1 a = 0 := by rw [eL149]; exact xt_k _ hc hk
        have hc : a < (xt G L149).1 := by rw [eL149]; exact xt_l _ hc
        have hk2 : (xt G L149).2.1 b2 = 9 := by rw [eL149]; exact xt_k _ hc2 hk2
        have hc2 : b2 < (xt G L149).1 := by rw [eL149]; exact xt_l _ hc2
        have hk3 : (xt G L149).2.1 b3 = 3 := by rw [eL149]; exact xt_k _ hc3 hk3
        have hc3 : b3 < (xt G L149).1 := by rw [eL149]; exact xt_l _ hc3
        have hk4 : (xt G L149).2.1 b4 = 13 := by rw [eL149]; exact xt_k _ hc4 hk4
        have hc4 : b4 < (xt G L149).1 := by rw [eL149]; exact xt_l _ hc4
        have hk7 : (xt G L149).2.1 b7 = 13 := by rw [eL149]; exact xt_k _ hc7 hk7
        have hc7 : b7 < (xt G L149).1 := by rw [eL149]; exact xt_l _ hc7
        obtain rfl := Option.some.inj hF
        have e1 : L143 = L149 := by rw [hT]; exact List.append_nil _
        have e2 : y141.2 = y147.2 := h2
        rw [e1] at J141
        try rw [e2] at J141
        exact J141 _ hag _ _ _ hP hD hS (lv_sub hl [0, 1, 2, 3, 4] rfl)
      clear hF
      obtain ⟨w151, hw151⟩ : ∃ z, z = y147 := ⟨_, rfl⟩
      have hF := hy147
      rw [← hw151] at hF
      clear hy147
      have hT : L149 = [] ++ w151.1 := by rw [eL149, hw151]
      have h2 : y147.2 = w151.2 := by rw [hw151]
      have hbl := hbl149
      refine lv_icmp_eq (tgt := 126) hx hb dX0_writeBlock_100 (by decide) (fun c152 => ?_) (fun c152 => ?_)
      · rw [if_pos c152] at hF
        obtain rfl := Option.some.inj hF
        have e1 : L149 = [] := by rw [hT]; exact List.append_nil _
        have e2 : y147.2 = y140.1 := h2
        rw [e1] at J147
        try rw [e2] at J147
        exact J147 _ hag _ _ _ hP hD hS (lv_sub hl [0, 1, 2, 3, 4] rfl)
      · rw [if_neg c152] at hF
        refine lv_aload_n hx hb dX0_writeBlock_103 rfl (lv_at hl 3 rfl) ?_
        refine va_get (D := D) (ci := 0) (v := va_re ad (y140.1.2 a 2)) (C := RX0) (T := TX0) (N := 21) hx hb hts (mus hf_X0) hown hK hP a (wld_o ct ad (xt G []) y140.1 hc hk (by decide)) rfl 2 (by decide) (hts (.fieldLink RX0 29 "VideoSuite$Coder" "writer" "LVideoSuite$Writer;") (mu mw_815)) (fun _ h9 => h9) rfl dX0_writeBlock_104 ?_
        refine lv_iconst (v := (0 : Int32)) hx hb dX0_writeBlock_107 (by decide) ?_
        refine lv_aload_n hx hb dX0_writeBlock_108 rfl (lv_at hl 3 rfl) ?_
        refine va_get (D := D) (ci := 0) (v := va_re ad (y140.1.2 a 2)) (C := RX0) (T := TX0) (N := 21) hx hb hts (mus hf_X0) hown hK hP a (wld_o ct ad (xt G []) y140.1 hc hk (by decide)) rfl 2 (by decide) (hts (.fieldLink RX0 29 "VideoSuite$Coder" "writer" "LVideoSuite$Writer;") (mu mw_815)) (fun _ h9 => h9) rfl dX0_writeBlock_109 ?_
        obtain ⟨b153, ho153, hc153, hk153, hF⟩ := dr_some hF
        refine W_st (st' := [.ref (ad b153), .int (0 : Int32), .ref (ad b153)]) (by rw [va_some ho153]) ?_
        refine va_get (D := D) (ci := 10) (v := .int (y140.1.1 b153 3)) (C := RX10) (T := TX10) (N := 20) hx hb hts (mus hf_X10) hown hK hP b153 (wld_o ct ad (xt G []) y140.1 hc153 hk153 (by decide)) rfl 3 (by decide) (hts (.fieldLink RX0 309 "VideoSuite$Writer" "run" "I") (mu mw_742)) (fun _ h9 => h9) rfl dX0_writeBlock_112 ?_
        obtain ⟨x154, ex154, hF⟩ := ltt_some hF
        refine lv_topi (fun zx154 ezx154 => ?_)
        obtain rfl : x154 = zx154 := ex154.trans ezx154.symm
        obtain ⟨y155, hy155, hF⟩ := bnd_some hF
        obtain ⟨w156, hF, ew156⟩ := app_some hF
        obtain ⟨L157, eL157, hF⟩ := ltt_some hF
        have hT157 : L149 = ([] ++ y155.1) ++ w156.1 := by rw [hT, ew156]; simp only [List.append_assoc]
        have hf9 := wA_in hD hA9 hS
        refine va_callv (va_runV (As := [.int (0 : Int32), .int x154]) (rest := []) ⟨hx, hb, hml, hown, hts⟩ (kX10_ue l D ct ad Z (xt G []) y140.1 _ b153 ((0 : Int32)) x154 y155 hc153 hk153 hy155) (cwV 2 hts gX0_writeBlock_X10_ue rfl rfl rfl (by decide +kernel) ⟨Nat.le_of_ble_eq_true rfl, Nat.le_of_ble_eq_true rfl⟩) ⟨fun a U g mk q => by obtain ⟨q0, q1, qP, qK, qD, qZ, qN⟩ := q; exact ⟨q0, q1, qP, va_K.moved (u := U) (U := U.calling g mk a) (Vm.Alike.refl U.vm) qK, qD, sF.moved (u := U) (U := U.calling g mk a) (Vm.Alike.refl U.vm) qZ, nF.same rfl qN⟩, va_recv hK hP (ci := 10) (q0 := b153) rfl (wld_o ct ad (xt G []) y140.1 hc153 hk153 (by decide)), fun U hU hW => ⟨rfl, by rw [hU], by rw [hU]; exact hP, va_K.moved hW.alike hK, hD.weaken (fun _ _ _ _ => trivial), by rw [hU]; exact ((hZ.kept hS.2.1).narrow hf9).moved hW.alike, hN.warm hW⟩⟩ rfl rfl hl.1 rfl (lv_room (Nat.le_of_ble_eq_true rfl)) dX0_writeBlock_115 (room_s hT157 hbl)) hS (fun q _ h => hf9 q h) hf9 (fun ad158 t H locs ht hvm hw hB hz1 hk1 hS => ?_)
        have hn159 := hw
        obtain ⟨hP, hK9, hD9⟩ := hB
        rw [ht] at hP
        have hD := hD9.weaken (fun _ q _ h => hf9 q.1 h)
        rw [xt_xt, ← eL157] at hP hD
        refine W_cs (k := L157.length) (n := wt L157) (by rw [eL157]; exact (len_s [] y155.1).symm) (by rw [eL157]; exact (wt_app [] y155.1).symm) ?_
        have hT : L149 = L157 ++ w156.1 := by rw [hT157, eL157]
        have h2 : y147.2 = w156.2 := by rw [h2, ew156]
        have hl := lv_sub (l' := [(4, .int x8), (3, .int x5), (2, .int x1), (0, .ref (ad a)), (1, .int p0)]) hl [0, 1, 2, 3, 4] rfl
        have e9 : ([(4, .int x8), (3, .int x5), (2, .int x1), (0, .ref (ad a)), (1, .int p0)] : List (Nat × Value)) = [(4, .int x8), (3, .int x5), (2, .int x1), (0, .ref (ad158 a)), (1, .int p0)] := (by first | rfl | simp only [hn159 a hc])
        rw [e9] at hl
        clear e9
        have hk : (xt G L157).2.1 a = 0 := by rw [eL157]; exact xt_k _ hc hk
        have hc : a < (xt G L157).1 := by rw [eL157]; exact xt_l _ hc
        have hk2 : (xt G L157).2.1 b2 = 9 := by rw [eL157]; exact xt_k _ hc2 hk2
        have hc2 : b2 < (xt G L157).1 := by rw [eL157]; exact xt_l _ hc2
        have hk3 : (xt G L157).2.1 b3 = 3 := by rw [eL157]; exact xt_k _ hc3 hk3
        have hc3 : b3 < (xt G L157).1 := by rw [eL157]; exact xt_l _ hc3
        have hk4 : (xt G L157).2.1 b4 = 13 := by rw [eL157]; exact xt_k _ hc4 hk4
        have hc4 : b4 < (xt G L157).1 := by rw [eL157]; exact xt_l _ hc4
        have hk7 : (xt G L157).2.1 b7 = 13 := by rw [eL157]; exact xt_k _ hc7 hk7
        have hc7 : b7 < (xt G L157).1 := by rw [eL157]; exact xt_l _ hc7
        have hk153 : (xt G L157).2.1 b153 = 10 := by rw [eL157]; exact xt_k _ hc153 hk153
        have hc153 : b153 < (xt G L157).1 := by rw [eL157]; exact xt_l _ hc153
        have hag := agr_t (xt_ge _ _) hag hn159
        refine lv_aload_n hx hb dX0_writeBlock_118 rfl (lv_at hl 3 rfl) ?_
        refine va_get (D := D) (ci := 0) (v := va_re ad158 (y155.2.2 a 2)) (C := RX0) (T := TX0) (N := 21) hx hb hts (mus hf_X0) hown hK hP a (wld_o ct ad158 (xt G L157) y155.2 hc hk (by decide)) rfl 2 (by decide) (hts (.fieldLink RX0 29 "VideoSuite$Coder" "writer" "LVideoSuite$Writer;") (mu mw_815)) (fun _ h9 => h9) rfl dX0_writeBlock_119 ?_
        refine lv_iconst (v := (0 : Int32)) hx hb dX0_writeBlock_122 (by decide) ?_
        obtain ⟨b160, ho160, hc160, hk160, hF⟩ := dr_some hF
        refine W_st (st' := [.int (0 : Int32), .ref (ad158 b160)]) (by rw [va_some ho160]) ?_
        refine va_put (D := D) (ci := 10) (v := .int (0 : Int32)) (ty := .int) (C := RX10) (T := TX10) (N := 20) hx hb hts (mus hf_X10) tyX10 tyX10_ok nmX10 hown hK hP hD hS b160 (wld_o ct ad158 (xt G L157) y155.2 hc160 hk160 (by decide)) rfl 3 (by decide) (hts (.fieldLink RX0 309 "VideoSuite$Writer" "run" "I") (mu mw_742)) (fun _ h9 => h9) rfl (by decide +kernel) rfl rfl (Nat.le_of_ble_eq_true rfl) dX0_writeBlock_123 (fun H locs hP hD hS => ?_)
        obtain ⟨M161, eM161, hF⟩ := ltt_some hF
        rw [set_oI ct ad158 (xt G L157) y155.2 hc160 hk160 (by decide) (by rfl), ← eM161] at hP hD
        obtain rfl := Option.some.inj hF
        have e1 : L149 = L157 := by rw [hT]; exact List.append_nil _
        have e2 : y147.2 = M161 := h2
        rw [e1] at J147
        try rw [e2] at J147
        exact J147 _ hag _ _ _ hP hD hS (lv_sub hl [0, 1, 2, 3, 4] rfl)
    · rw [if_neg c146] at hF
      refine lv_aload_n hx hb dX0_writeBlock_82 rfl (lv_at hl 3 rfl) ?_
      refine va_get (D := D) (ci := 0) (v := va_re ad (y140.1.2 a 2)) (C := RX0) (T := TX0) (N := 21) hx hb hts (mus hf_X0) hown hK hP a (wld_o ct ad (xt G []) y140.1 hc hk (by decide)) rfl 2 (by decide) (hts (.fieldLink RX0 29 "VideoSuite$Coder" "writer" "LVideoSuite$Writer;") (mu mw_815)) (fun _ h9 => h9) rfl dX0_writeBlock_83 ?_
      refine lv_dup hx hb dX0_writeBlock_86 (va_re_cat _ _) ?_
      obtain ⟨b162, ho162, hc162, hk162, hF⟩ := dr_some hF
      refine W_st (st' := [.ref (ad b162), .ref (ad b162)]) (by rw [va_some ho162]) ?_
      refine va_get (D := D) (ci := 10) (v := .int (y140.1.1 b162 3)) (C := RX10) (T := TX10) (N := 20) hx hb hts (mus hf_X10) hown hK hP b162 (wld_o ct ad (xt G []) y140.1 hc162 hk162 (by decide)) rfl 3 (by decide) (hts (.fieldLink RX0 309 "VideoSuite$Writer" "run" "I") (mu mw_742)) (fun _ h9 => h9) rfl dX0_writeBlock_87 ?_
      obtain ⟨x163, ex163, hF⟩ := ltt_some hF
      refine lv_topi (fun zx163 ezx163 => ?_)
      obtain rfl : x163 = zx163 := ex163.trans ezx163.symm
      refine lv_iconst (v := (1 : Int32)) hx hb dX0_writeBlock_90 (by decide) ?_
      refine lv_iadd hx hb dX0_writeBlock_91 ?_
      obtain ⟨x164, ex164, hF⟩ := ltt_some hF
      refine lv_topi (fun zx164 ezx164 => ?_)
      obtain rfl : x164 = zx164 := ex164.trans ezx164.symm
      refine va_put (D := D) (ci := 10) (v := .int x164) (ty := .int) (C := RX10) (T := TX10) (N := 20) hx hb hts (mus hf_X10) tyX10 tyX10_ok nmX10 hown hK hP hD hS b162 (wld_o ct ad (xt G []) y140.1 hc162 hk162 (by decide)) rfl 3 (by decide) (hts (.fieldLink RX0 309 "VideoSuite$Writer" "run" "I") (mu mw_742)) (fun _ h9 => h9) rfl (by decide +kernel) rfl rfl (Nat.le_of_ble_eq_true rfl) dX0_writeBlock_92 (fun H locs hP hD hS => ?_)
      obtain ⟨M165, eM165, hF⟩ := ltt_some hF
      rw [set_oI ct ad (xt G []) y140.1 hc162 hk162 (by decide) (by rfl), ← eM165] at hP hD
      refine lv_goto (tgt := 126) hx hb dX0_writeBlock_95 (by decide) ?_
      obtain rfl := Option.some.inj hF
      have e1 : L143 = [] := by rw [hT]; exact List.append_nil _
      have e2 : y141.2 = M165 := h2
      rw [e1] at J141
      try rw [e2] at J141
      exact J141 _ hag _ _ _ hP hD hS (lv_sub hl [0, 1, 2, 3, 4] rfl)
  · rw [if_neg c139] at hF
    refine lv_aload_n hx hb dX0_writeBlock_36 rfl (lv_at hl 3 rfl) ?_
    refine va_get (D := D) (ci := 0) (v := va_re ad (M.2 a 3)) (C := RX0) (T := TX0) (N := 21) hx hb hts (mus hf_X0) hown hK hP a (wld_o ct ad (xt G []) M hc hk (by decide)) rfl 3 (by decide) (hts (.fieldLink RX0 36 "VideoSuite$Coder" "work" "LVideoSuite$Work;") (mu mw_817)) (fun _ h9 => h9) rfl dX0_writeBlock_37 ?_
    refine W_st (st' := [.ref (ad b2)]) (by rw [va_some ho2]) ?_
    refine va_get (D := D) (ci := 9) (v := va_re ad (M.2 b2 2)) (C := RX9) (T := TX9) (N := 20) hx hb hts (mus hf_X9) hown hK hP b2 (wld_o ct ad (xt G []) M hc2 hk2 (by decide)) rfl 2 (by decide) (hts (.fieldLink RX0 85 "VideoSuite$Work" "par" "[I") (mu mw_430)) (fun _ h9 => h9) rfl dX0_writeBlock_40 ?_
    refine lv_iconst (v := (1 : Int32)) hx hb dX0_writeBlock_43 (by decide) ?_
    obtain ⟨b166, ho166, hc166, hk166, hF⟩ := dr_some hF
    refine W_st (st' := [.int (1 : Int32), .ref (ad b166)]) (by rw [va_some ho166]) ?_
    obtain ⟨hvc, hF⟩ := chk_some hF
    refine va_iald hx hb hK hP b166 1 (wld_i ct ad (xt G []) M hc166 hk166) rfl hvc dX0_writeBlock_44 ?_
    obtain ⟨x167, ex167, hF⟩ := ltt_some hF
    refine lv_topi (fun zx167 ezx167 => ?_)
    obtain rfl : x167 = zx167 := ex167.trans ezx167.symm
    refine lv_iconst (v := (1 : Int32)) hx hb dX0_writeBlock_45 (by decide) ?_
    obtain ⟨y168, hy168, hF⟩ := bnd_some hF
    obtain ⟨w169, hF, ew169⟩ := app_some hF
    obtain ⟨L170, eL170, hF⟩ := ltt_some hF
    have hT170 : L11 = ([] ++ y168.1) ++ w169.1 := by rw [hT, ew169]; simp only [List.append_assoc]
    have hbl170 : L170.length ≤ y.1.length ∧ wt L170 ≤ wt y.1 := by rw [eL170]; exact room_d hT170 hbl
    have J168 : ∀ (ad171 : Nat → Nat), agr G.1 ad ad171 → ∀ (H : Heap) (locs : List Loc) (ls : Array Slot), va_P D classes (wld ct ad171 (xt G L170) y168.2) H → va_D A (wld ct ad171 (xt G L170) y168.2) → va_S A s.heap H locs → lv_has ls 8 [(4, .int x8), (3, .int x5), (2, .int x1), (0, .ref (ad171 a)), (1, .int p0)] → W p l e (headSpec wuX0_writeBlock ({ frames := 6, cells := y.1.length, slots := wt y.1, locals := 199 })).room s m ([.ref (ad a), .int p0] : List Value).toArray below meth c H locs (L170 : NN).length (wt L170) (MQ below (va_Qv (fun (u : Nat → Nat) => agr G.1 ad u) (fun u t => kE D ct u (xt G y.1) A y.2 t) A) ([.ref (ad a), .int p0] : List Value).toArray s y.1.length (wt y.1) A) (F0 m 126 ls []) := by
      intro ad171 hag H locs ls hP hD hS hl
      have hT : L11 = L170 ++ w169.1 := by rw [hT170, eL170]
      have h2 : y9.2 = w169.2 := by rw [h2, ew169]
      have hk : (xt G L170).2.1 a = 0 := by rw [eL170]; exact xt_k _ hc hk
      have hc : a < (xt G L170).1 := by rw [eL170]; exact xt_l _ hc
      have hk2 : (xt G L170).2.1 b2 = 9 := by rw [eL170]; exact xt_k _ hc2 hk2
      have hc2 : b2 < (xt G L170).1 := by rw [eL170]; exact xt_l _ hc2
      have hk3 : (xt G L170).2.1 b3 = 3 := by rw [eL170]; exact xt_k _ hc3 hk3
      have hc3 : b3 < (xt G L170).1 := by rw [eL170]; exact xt_l _ hc3
      have hk4 : (xt G L170).2.1 b4 = 13 := by rw [eL170]; exact xt_k _ hc4 hk4
      have hc4 : b4 < (xt G L170).1 := by rw [eL170]; exact xt_l _ hc4
      have hk7 : (xt G L170).2.1 b7 = 13 := by rw [eL170]; exact xt_k _ hc7 hk7
      have hc7 : b7 < (xt G L170).1 := by rw [eL170]; exact xt_l _ hc7
      have hk166 : (xt G L170).2.1 b166 = 13 := by rw [eL170]; exact xt_k _ hc166 hk166
      have hc166 : b166 < (xt G L170).1 := by rw [eL170]; exact xt_l _ hc166
      obtain rfl := Option.some.inj hF
      have e1 : L11 = L170 := by rw [hT]; exact List.append_nil _
      have e2 : y9.2 = y168.2 := h2
      rw [e1] at J9
      try rw [e2] at J9
      exact J9 _ hag _ _ _ hP hD hS (lv_sub hl [0, 1, 2, 3, 4] rfl)
    clear hF
    obtain ⟨w172, hw172⟩ : ∃ z, z = y168 := ⟨_, rfl⟩
    have hF := hy168
    rw [← hw172] at hF
    clear hy168
    have hT : L170 = [] ++ w172.1 := by rw [eL170, hw172]
    have h2 : y168.2 = w172.2 := by rw [hw172]
    have hbl := hbl170
    refine lv_icmp_ne (tgt := 74) hx hb dX0_writeBlock_46 (by decide) (fun c173 => ?_) (fun c173 => ?_)
    · rw [if_neg c173] at hF
      refine lv_aload_n hx hb dX0_writeBlock_74 rfl (lv_at hl 3 rfl) ?_
      refine lv_iload_n hx hb dX0_writeBlock_75 rfl (lv_at hl 4 rfl) ?_
      obtain ⟨y174, hy174, hF⟩ := bnd_some hF
      have hf9 := wA_in hD hA9 hS
      refine va_calli (va_runV (As := [.int p0]) (rest := []) ⟨hx, hb, hml, hown, hts⟩ (kX0_isSkipped l D ct ad Z (xt G []) M s.heap.size a p0 y174 hc hk hy174) (cwV 1 hts gX0_writeBlock_X0_isSkipped rfl rfl rfl (by decide +kernel) ⟨Nat.le_of_ble_eq_true rfl, Nat.le_of_ble_eq_true rfl⟩) ⟨fun a U g mk q => by obtain ⟨q0, q1, qP, qK, qD, qZ, qN⟩ := q; exact ⟨q0, q1, qP, va_K.moved (u := U) (U := U.calling g mk a) (Vm.Alike.refl U.vm) qK, qD, sF.moved (u := U) (U := U.calling g mk a) (Vm.Alike.refl U.vm) qZ, nF.same rfl qN⟩, va_recv hK hP (ci := 0) (q0 := a) rfl (wld_o ct ad (xt G []) M hc hk (by decide)), fun U hU hW => ⟨rfl, by rw [hU], by rw [hU]; exact hP, va_K.moved hW.alike hK, hD.weaken (fun _ _ _ _ => trivial), by rw [hU]; exact ((hZ.kept hS.2.1).narrow hf9).moved hW.alike, hN.warm hW⟩⟩ rfl rfl hl.1 rfl (lv_room (Nat.le_of_ble_eq_true rfl)) dX0_writeBlock_76 (room_d hT hbl)) hS (fun q _ h => hf9 q h) hf9 (fun r u t H locs ht hvm hw hB hz1 hk1 hS => ?_)
      obtain ⟨hP, hK9, hD9⟩ := hB
      rw [ht] at hP
      try dsimp only at hw
      subst hw
      refine W_cs (k := ([] : NN).length) (n := wt []) rfl rfl ?_
      have hD := hD9.weaken (fun _ q _ h => hf9 q.1 h)
      obtain ⟨y175, hy175, hF⟩ := bnd_some hF
      obtain ⟨w176, hF, ew176⟩ := app_some hF
      obtain ⟨L177, eL177, hF⟩ := ltt_some hF
      have hT177 : L170 = ([] ++ y175.1) ++ w176.1 := by rw [hT, ew176]; simp only [List.append_assoc]
      have hbl177 : L177.length ≤ y.1.length ∧ wt L177 ≤ wt y.1 := by rw [eL177]; exact room_d hT177 hbl
      have J175 : ∀ (ad178 : Nat → Nat), agr G.1 ad ad178 → ∀ (H : Heap) (locs : List Loc) (ls : Array Slot), va_P D classes (wld ct ad178 (xt G L177) y175.2) H → va_D A (wld ct ad178 (xt G L177) y175.2) → va_S A s.heap H locs → lv_has ls 8 [(4, .int x8), (3, .int x5), (2, .int x1), (0, .ref (ad178 a)), (1, .int p0)] → W p l e (headSpec wuX0_writeBlock ({ frames := 6, cells := y.1.length, slots := wt y.1, locals := 199 })).room s m ([.ref (ad a), .int p0] : List Value).toArray below meth c H locs (L177 : NN).length (wt L177) (MQ below (va_Qv (fun (u : Nat → Nat) => agr G.1 ad u) (fun u t => kE D ct u (xt G y.1) A y.2 t) A) ([.ref (ad a), .int p0] : List Value).toArray s y.1.length (wt y.1) A) (F0 m 126 ls []) := by
        intro ad178 hag H locs ls hP hD hS hl
        have hT : L170 = L177 ++ w176.1 := by rw [hT177, eL177]
        have h2 : y168.2 = w176.2 := by rw [h2, ew176]
        have hk : (xt G L177).2.1 a = 0 := by rw [eL177]; exact xt_k _ hc hk
        have hc : a < (xt G L177).1 := by rw [eL177]; exact xt_l _ hc
        have hk2 : (xt G L177).2.1 b2 = 9 := by rw [eL177]; exact xt_k _ hc2 hk2
        have hc2 : b2 < (xt G L177).1 := by rw [eL177]; exact xt_l _ hc2
        have hk3 : (xt G L177).2.1 b3 = 3 := by rw [eL177]; exact xt_k _ hc3 hk3
        have hc3 : b3 < (xt G L177).1 := by rw [eL177]; exact xt_l _ hc3
        have hk4 : (xt G L177).2.1 b4 = 13 := by rw [eL177]; exact xt_k _ hc4 hk4
        have hc4 : b4 < (xt G L177).1 := by rw [eL177]; exact xt_l _ hc4
        have hk7 : (xt G L177).2.1 b7 = 13 := by rw [eL177]; exact xt_k _ hc7 hk7
        have hc7 : b7 < (xt G L177).1 := by rw [eL177]; exact xt_l _ hc7
        have hk166 : (xt G L177).2.1 b166 = 13 := by rw [eL177]; exact xt_k _ hc166 hk166
        have hc166 : b166 < (xt G L177).1 := by rw [eL177]; exact xt_l _ hc166
        obtain rfl := Option.some.inj hF
        have e1 : L170 = L177 := by rw [hT]; exact List.append_nil _
        have e2 : y168.2 = y175.2 := h2
        rw [e1] at J168
        try rw [e2] at J168
        exact J168 _ hag _ _ _ hP hD hS (lv_sub hl [0, 1, 2, 3, 4] rfl)
      clear hF
      obtain ⟨w179, hw179⟩ : ∃ z, z = y175 := ⟨_, rfl⟩
      have hF := hy175
      rw [← hw179] at hF
      clear hy175
      have hT : L177 = [] ++ w179.1 := by rw [eL177, hw179]
      have h2 : y175.2 = w179.2 := by rw [hw179]
      have hbl := hbl177
      refine lv_if_eq (tgt := 98) hx hb dX0_writeBlock_79 (by decide) (fun c180 => ?_) (fun c180 => ?_)
      · rw [if_pos c180] at hF
        refine lv_iload_n hx hb dX0_writeBlock_98 rfl (lv_at hl 1 rfl) ?_
        refine lv_iconst (v := (2 : Int32)) hx hb dX0_writeBlock_99 (by decide) ?_
        obtain ⟨y181, hy181, hF⟩ := bnd_some hF
        obtain ⟨w182, hF, ew182⟩ := app_some hF
        obtain ⟨L183, eL183, hF⟩ := ltt_some hF
        have hT183 : L177 = ([] ++ y181.1) ++ w182.1 := by rw [hT, ew182]; simp only [List.append_assoc]
        have hbl183 : L183.length ≤ y.1.length ∧ wt L183 ≤ wt y.1 := by rw [eL183]; exact room_d hT183 hbl
        have J181 : ∀ (ad184 : Nat → Nat), agr G.1 ad ad184 → ∀ (H : Heap) (locs : List Loc) (ls : Array Slot), va_P D classes (wld ct ad184 (xt G L183) y181.2) H → va_D A (wld ct ad184 (xt G L183) y181.2) → va_S A s.heap H locs → lv_has ls 8 [(4, .int x8), (3, .int x5), (2, .int x1), (0, .ref (ad184 a)), (1, .int p0)] → W p l e (headSpec wuX0_writeBlock ({ frames := 6, cells := y.1.length, slots := wt y.1, locals := 199 })).room s m ([.ref (ad a), .int p0] : List Value).toArray below meth c H locs (L183 : NN).length (wt L183) (MQ below (va_Qv (fun (u : Nat → Nat) => agr G.1 ad u) (fun u t => kE D ct u (xt G y.1) A y.2 t) A) ([.ref (ad a), .int p0] : List Value).toArray s y.1.length (wt y.1) A) (F0 m 126 ls []) := by
          intro ad184 hag H locs ls hP hD hS hl
          have hT : L177 = L183 ++ w182.1 := by rw [hT183, eL183]
          have h2 : y175.2 = w182.2 := by rw [h2, ew182]
          have hk : (xt G L183).2.1 a = 0 := by rw [eL183]; exact xt_k _ hc hk
          have hc : a < (xt G L183).1 := by rw [eL183]; exact xt_l _ hc
          have hk2 : (xt G L183).2.1 b2 = 9 := by rw [eL183]; exact xt_k _ hc2 hk2
          have hc2 : b2 < (xt G L183).1 := by rw [eL183]; exact xt_l _ hc2
          have hk3 : (xt G L183).2.1 b3 = 3 := by rw [eL183]; exact xt_k _ hc3 hk3
          have hc3 : b3 < (xt G L183).1 := by rw [eL183]; exact xt_l _ hc3
          have hk4 : (xt G L183).2.1 b4 = 13 := by rw [eL183]; exact xt_k _ hc4 hk4
          have hc4 : b4 < (xt G L183).1 := by rw [eL183]; exact xt_l _ hc4
          have hk7 : (xt G L183).2.1 b7 = 13 := by rw [eL183]; exact xt_k _ hc7 hk7
          have hc7 : b7 < (xt G L183).1 := by rw [eL183]; exact xt_l _ hc7
          have hk166 : (xt G L183).2.1 b166 = 13 := by rw [eL183]; exact xt_k _ hc166 hk166
          have hc166 : b166 < (xt G L183).1 := by rw [eL183]; exact xt_l _ hc166
          obtain rfl := Option.some.inj hF
          have e1 : L177 = L183 := by rw [hT]; exact List.append_nil _
          have e2 : y175.2 = y181.2 := h2
          rw [e1] at J175
          try rw [e2] at J175
          exact J175 _ hag _ _ _ hP hD hS (lv_sub hl [0, 1, 2, 3, 4] rfl)
        clear hF
        obtain ⟨w185, hw185⟩ : ∃ z, z = y181 := ⟨_, rfl⟩
        have hF := hy181
        rw [← hw185] at hF
        clear hy181
        have hT : L183 = [] ++ w185.1 := by rw [eL183, hw185]
        have h2 : y181.2 = w185.2 := by rw [hw185]
        have hbl := hbl183
        refine lv_icmp_eq (tgt := 126) hx hb dX0_writeBlock_100 (by decide) (fun c186 => ?_) (fun c186 => ?_)
        · rw [if_pos c186] at hF
          obtain rfl := Option.some.inj hF
          have e1 : L183 = [] := by rw [hT]; exact List.append_nil _
          have e2 : y181.2 = y174.1 := h2
          rw [e1] at J181
          try rw [e2] at J181
          exact J181 _ hag _ _ _ hP hD hS (lv_sub hl [0, 1, 2, 3, 4] rfl)
        · rw [if_neg c186] at hF
          refine lv_aload_n hx hb dX0_writeBlock_103 rfl (lv_at hl 3 rfl) ?_
          refine va_get (D := D) (ci := 0) (v := va_re ad (y174.1.2 a 2)) (C := RX0) (T := TX0) (N := 21) hx hb hts (mus hf_X0) hown hK hP a (wld_o ct ad (xt G []) y174.1 hc hk (by decide)) rfl 2 (by decide) (hts (.fieldLink RX0 29 "VideoSuite$Coder" "writer" "LVideoSuite$Writer;") (mu mw_815)) (fun _ h9 => h9) rfl dX0_writeBlock_104 ?_
          refine lv_iconst (v := (0 : Int32)) hx hb dX0_writeBlock_107 (by decide) ?_
          refine lv_aload_n hx hb dX0_writeBlock_108 rfl (lv_at hl 3 rfl) ?_
          refine va_get (D := D) (ci := 0) (v := va_re ad (y174.1.2 a 2)) (C := RX0) (T := TX0) (N := 21) hx hb hts (mus hf_X0) hown hK hP a (wld_o ct ad (xt G []) y174.1 hc hk (by decide)) rfl 2 (by decide) (hts (.fieldLink RX0 29 "VideoSuite$Coder" "writer" "LVideoSuite$Writer;") (mu mw_815)) (fun _ h9 => h9) rfl dX0_writeBlock_109 ?_
          obtain ⟨b187, ho187, hc187, hk187, hF⟩ := dr_some hF
          refine W_st (st' := [.ref (ad b187), .int (0 : Int32), .ref (ad b187)]) (by rw [va_some ho187]) ?_
          refine va_get (D := D) (ci := 10) (v := .int (y174.1.1 b187 3)) (C := RX10) (T := TX10) (N := 20) hx hb hts (mus hf_X10) hown hK hP b187 (wld_o ct ad (xt G []) y174.1 hc187 hk187 (by decide)) rfl 3 (by decide) (hts (.fieldLink RX0 309 "VideoSuite$Writer" "run" "I") (mu mw_742)) (fun _ h9 => h9) rfl dX0_writeBlock_112 ?_
          obtain ⟨x188, ex188, hF⟩ := ltt_some hF
          refine lv_topi (fun zx188 ezx188 => ?_)
          obtain rfl : x188 = zx188 := ex188.trans ezx188.symm
          obtain ⟨y189, hy189, hF⟩ := bnd_some hF
          obtain ⟨w190, hF, ew190⟩ := app_some hF
          obtain ⟨L191, eL191, hF⟩ := ltt_some hF
          have hT191 : L183 = ([] ++ y189.1) ++ w190.1 := by rw [hT, ew190]; simp only [List.append_assoc]
          have hf9 := wA_in hD hA9 hS
          refine va_callv (va_runV (As := [.int (0 : Int32), .int x188]) (rest := []) ⟨hx, hb, hml, hown, hts⟩ (kX10_ue l D ct ad Z (xt G []) y174.1 _ b187 ((0 : Int32)) x188 y189 hc187 hk187 hy189) (cwV 2 hts gX0_writeBlock_X10_ue rfl rfl rfl (by decide +kernel) ⟨Nat.le_of_ble_eq_true rfl, Nat.le_of_ble_eq_true rfl⟩) ⟨fun a U g mk q => by obtain ⟨q0, q1, qP, qK, qD, qZ, qN⟩ := q; exact ⟨q0, q1, qP, va_K.moved (u := U) (U := U.calling g mk a) (Vm.Alike.refl U.vm) qK, qD, sF.moved (u := U) (U := U.calling g mk a) (Vm.Alike.refl U.vm) qZ, nF.same rfl qN⟩, va_recv hK hP (ci := 10) (q0 := b187) rfl (wld_o ct ad (xt G []) y174.1 hc187 hk187 (by decide)), fun U hU hW => ⟨rfl, by rw [hU], by rw [hU]; exact hP, va_K.moved hW.alike hK, hD.weaken (fun _ _ _ _ => trivial), by rw [hU]; exact ((hZ.kept hS.2.1).narrow hf9).moved hW.alike, hN.warm hW⟩⟩ rfl rfl hl.1 rfl (lv_room (Nat.le_of_ble_eq_true rfl)) dX0_writeBlock_115 (room_s hT191 hbl)) hS (fun q _ h => hf9 q h) hf9 (fun ad192 t H locs ht hvm hw hB hz1 hk1 hS => ?_)
          have hn193 := hw
          obtain ⟨hP, hK9, hD9⟩ := hB
          rw [ht] at hP
          have hD := hD9.weaken (fun _ q _ h => hf9 q.1 h)
          rw [xt_xt, ← eL191] at hP hD
          refine W_cs (k := L191.length) (n := wt L191) (by rw [eL191]; exact (len_s [] y189.1).symm) (by rw [eL191]; exact (wt_app [] y189.1).symm) ?_
          have hT : L183 = L191 ++ w190.1 := by rw [hT191, eL191]
          have h2 : y181.2 = w190.2 := by rw [h2, ew190]
          have hl := lv_sub (l' := [(4, .int x8), (3, .int x5), (2, .int x1), (0, .ref (ad a)), (1, .int p0)]) hl [0, 1, 2, 3, 4] rfl
          have e9 : ([(4, .int x8), (3, .int x5), (2, .int x1), (0, .ref (ad a)), (1, .int p0)] : List (Nat × Value)) = [(4, .int x8), (3, .int x5), (2, .int x1), (0, .ref (ad192 a)), (1, .int p0)] := (by first | rfl | simp only [hn193 a hc])
          rw [e9] at hl
          clear e9
          have hk : (xt G L191).2.1 a = 0 := by rw [eL191]; exact xt_k _ hc hk
          have hc : a < (xt G L191).1 := by rw [eL191]; exact xt_l _ hc
          have hk2 : (xt G L191).2.1 b2 = 9 := by rw [eL191]; exact xt_k _ hc2 hk2
          have hc2 : b2 < (xt G L191).1 := by rw [eL191]; exact xt_l _ hc2
          have hk3 : (xt G L191).2.1 b3 = 3 := by rw [eL191]; exact xt_k _ hc3 hk3
          have hc3 : b3 < (xt G L191).1 := by rw [eL191]; exact xt_l _ hc3
          have hk4 : (xt G L191).2.1 b4 = 13 := by rw [eL191]; exact xt_k _ hc4 hk4
          have hc4 : b4 < (xt G L191).1 := by rw [eL191]; exact xt_l _ hc4
          have hk7 : (xt G L191).2.1 b7 = 13 := by rw [eL191]; exact xt_k _ hc7 hk7
          have hc7 : b7 < (xt G L191).1 := by rw [eL191]; exact xt_l _ hc7
          have hk166 : (xt G L191).2.1 b166 = 13 := by rw [eL191]; exact xt_k _ hc166 hk166
          have hc166 : b166 < (xt G L191).1 := by rw [eL191]; exact xt_l _ hc166
          have hk187 : (xt G L191).2.1 b187 = 10 := by rw [eL191]; exact xt_k _ hc187 hk187
          have hc187 : b187 < (xt G L191).1 := by rw [eL191]; exact xt_l _ hc187
          have hag := agr_t (xt_ge _ _) hag hn193
          refine lv_aload_n hx hb dX0_writeBlock_118 rfl (lv_at hl 3 rfl) ?_
          refine va_get (D := D) (ci := 0) (v := va_re ad192 (y189.2.2 a 2)) (C := RX0) (T := TX0) (N := 21) hx hb hts (mus hf_X0) hown hK hP a (wld_o ct ad192 (xt G L191) y189.2 hc hk (by decide)) rfl 2 (by decide) (hts (.fieldLink RX0 29 "VideoSuite$Coder" "writer" "LVideoSuite$Writer;") (mu mw_815)) (fun _ h9 => h9) rfl dX0_writeBlock_119 ?_
          refine lv_iconst (v := (0 : Int32)) hx hb dX0_writeBlock_122 (by decide) ?_
          obtain ⟨b194, ho194, hc194, hk194, hF⟩ := dr_some hF
          refine W_st (st' := [.int (0 : Int32), .ref (ad192 b194)]) (by rw [va_some ho194]) ?_
          refine va_put (D := D) (ci := 10) (v := .int (0 : Int32)) (ty := .int) (C := RX10) (T := TX10) (N := 20) hx hb hts (mus hf_X10) tyX10 tyX10_ok nmX10 hown hK hP hD hS b194 (wld_o ct ad192 (xt G L191) y189.2 hc194 hk194 (by decide)) rfl 3 (by decide) (hts (.fieldLink RX0 309 "VideoSuite$Writer" "run" "I") (mu mw_742)) (fun _ h9 => h9) rfl (by decide +kernel) rfl rfl (Nat.le_of_ble_eq_true rfl) dX0_writeBlock_123 (fun H locs hP hD hS => ?_)
          obtain ⟨M195, eM195, hF⟩ := ltt_some hF
          rw [set_oI ct ad192 (xt G L191) y189.2 hc194 hk194 (by decide) (by rfl), ← eM195] at hP hD
          obtain rfl := Option.some.inj hF
          have e1 : L183 = L191 := by rw [hT]; exact List.append_nil _
          have e2 : y181.2 = M195 := h2
          rw [e1] at J181
          try rw [e2] at J181
          exact J181 _ hag _ _ _ hP hD hS (lv_sub hl [0, 1, 2, 3, 4] rfl)
      · rw [if_neg c180] at hF
        refine lv_aload_n hx hb dX0_writeBlock_82 rfl (lv_at hl 3 rfl) ?_
        refine va_get (D := D) (ci := 0) (v := va_re ad (y174.1.2 a 2)) (C := RX0) (T := TX0) (N := 21) hx hb hts (mus hf_X0) hown hK hP a (wld_o ct ad (xt G []) y174.1 hc hk (by decide)) rfl 2 (by decide) (hts (.fieldLink RX0 29 "VideoSuite$Coder" "writer" "LVideoSuite$Writer;") (mu mw_815)) (fun _ h9 => h9) rfl dX0_writeBlock_83 ?_
        refine lv_dup hx hb dX0_writeBlock_86 (va_re_cat _ _) ?_
        obtain ⟨b196, ho196, hc196, hk196, hF⟩ := dr_some hF
        refine W_st (st' := [.ref (ad b196), .ref (ad b196)]) (by rw [va_some ho196]) ?_
        refine va_get (D := D) (ci := 10) (v := .int (y174.1.1 b196 3)) (C := RX10) (T := TX10) (N := 20) hx hb hts (mus hf_X10) hown hK hP b196 (wld_o ct ad (xt G []) y174.1 hc196 hk196 (by decide)) rfl 3 (by decide) (hts (.fieldLink RX0 309 "VideoSuite$Writer" "run" "I") (mu mw_742)) (fun _ h9 => h9) rfl dX0_writeBlock_87 ?_
        obtain ⟨x197, ex197, hF⟩ := ltt_some hF
        refine lv_topi (fun zx197 ezx197 => ?_)
        obtain rfl : x197 = zx197 := ex197.trans ezx197.symm
        refine lv_iconst (v := (1 : Int32)) hx hb dX0_writeBlock_90 (by decide) ?_
        refine lv_iadd hx hb dX0_writeBlock_91 ?_
        obtain ⟨x198, ex198, hF⟩ := ltt_some hF
        refine lv_topi (fun zx198 ezx198 => ?_)
        obtain rfl : x198 = zx198 := ex198.trans ezx198.symm
        refine va_put (D := D) (ci := 10) (v := .int x198) (ty := .int) (C := RX10) (T := TX10) (N := 20) hx hb hts (mus hf_X10) tyX10 tyX10_ok nmX10 hown hK hP hD hS b196 (wld_o ct ad (xt G []) y174.1 hc196 hk196 (by decide)) rfl 3 (by decide) (hts (.fieldLink RX0 309 "VideoSuite$Writer" "run" "I") (mu mw_742)) (fun _ h9 => h9) rfl (by decide +kernel) rfl rfl (Nat.le_of_ble_eq_true rfl) dX0_writeBlock_92 (fun H locs hP hD hS => ?_)
        obtain ⟨M199, eM199, hF⟩ := ltt_some hF
        rw [set_oI ct ad (xt G []) y174.1 hc196 hk196 (by decide) (by rfl), ← eM199] at hP hD
        refine lv_goto (tgt := 126) hx hb dX0_writeBlock_95 (by decide) ?_
        obtain rfl := Option.some.inj hF
        have e1 : L177 = [] := by rw [hT]; exact List.append_nil _
        have e2 : y175.2 = M199 := h2
        rw [e1] at J175
        try rw [e2] at J175
        exact J175 _ hag _ _ _ hP hD hS (lv_sub hl [0, 1, 2, 3, 4] rfl)
    · rw [if_pos c173] at hF
      refine lv_aload_n hx hb dX0_writeBlock_49 rfl (lv_at hl 3 rfl) ?_
      refine va_get (D := D) (ci := 0) (v := va_re ad (M.2 a 2)) (C := RX0) (T := TX0) (N := 21) hx hb hts (mus hf_X0) hown hK hP a (wld_o ct ad (xt G []) M hc hk (by decide)) rfl 2 (by decide) (hts (.fieldLink RX0 29 "VideoSuite$Coder" "writer" "LVideoSuite$Writer;") (mu mw_815)) (fun _ h9 => h9) rfl dX0_writeBlock_50 ?_
      refine lv_iconst (v := (0 : Int32)) hx hb dX0_writeBlock_53 (by decide) ?_
      refine lv_aload_n hx hb dX0_writeBlock_54 rfl (lv_at hl 3 rfl) ?_
      refine lv_iload_n hx hb dX0_writeBlock_55 rfl (lv_at hl 4 rfl) ?_
      obtain ⟨y200, hy200, hF⟩ := bnd_some hF
      have hf9 := wA_in hD hA9 hS
      refine va_calli (va_runV (As := [.int p0]) (rest := [.int (0 : Int32), va_re ad (M.2 a 2)]) ⟨hx, hb, hml, hown, hts⟩ (kX0_isSkipped l D ct ad Z (xt G []) M s.heap.size a p0 y200 hc hk hy200) (cwV 1 hts gX0_writeBlock_X0_isSkipped rfl rfl rfl (by decide +kernel) ⟨Nat.le_of_ble_eq_true rfl, Nat.le_of_ble_eq_true rfl⟩) ⟨fun a U g mk q => by obtain ⟨q0, q1, qP, qK, qD, qZ, qN⟩ := q; exact ⟨q0, q1, qP, va_K.moved (u := U) (U := U.calling g mk a) (Vm.Alike.refl U.vm) qK, qD, sF.moved (u := U) (U := U.calling g mk a) (Vm.Alike.refl U.vm) qZ, nF.same rfl qN⟩, va_recv hK hP (ci := 0) (q0 := a) rfl (wld_o ct ad (xt G []) M hc hk (by decide)), fun U hU hW => ⟨rfl, by rw [hU], by rw [hU]; exact hP, va_K.moved hW.alike hK, hD.weaken (fun _ _ _ _ => trivial), by rw [hU]; exact ((hZ.kept hS.2.1).narrow hf9).moved hW.alike, hN.warm hW⟩⟩ rfl rfl hl.1 rfl (lv_room (by simp only [List.map, va_re_cat]; exact Nat.le_of_ble_eq_true rfl)) dX0_writeBlock_56 (room_d hT hbl)) hS (fun q _ h => hf9 q h) hf9 (fun r u t H locs ht hvm hw hB hz1 hk1 hS => ?_)
      obtain ⟨hP, hK9, hD9⟩ := hB
      rw [ht] at hP
      try dsimp only at hw
      subst hw
      refine W_cs (k := ([] : NN).length) (n := wt []) rfl rfl ?_
      have hD := hD9.weaken (fun _ q _ h => hf9 q.1 h)
      obtain ⟨y201, hy201, hF⟩ := bnd_some hF
      have J201 : ∀ (H : Heap) (locs : List Loc) (ls : Array Slot), va_P D classes (wld ct ad (xt G []) y200.1) H → va_D A (wld ct ad (xt G []) y200.1) → va_S A s.heap H locs → lv_has ls 8 [(4, .int x8), (3, .int x5), (2, .int x1), (0, .ref (ad a)), (1, .int p0)] → W p l e (headSpec wuX0_writeBlock ({ frames := 6, cells := y.1.length, slots := wt y.1, locals := 199 })).room s m ([.ref (ad a), .int p0] : List Value).toArray below meth c H locs ([] : NN).length (wt []) (MQ below (va_Qv (fun (u : Nat → Nat) => agr G.1 ad u) (fun u t => kE D ct u (xt G y.1) A y.2 t) A) ([.ref (ad a), .int p0] : List Value).toArray s y.1.length (wt y.1) A) (F0 m 67 ls [.long y201, .int (0 : Int32), va_re ad (M.2 a 2)]) := by
        intro H locs ls hP hD hS hl
        refine lv_iconst (v := (1 : Int32)) hx hb dX0_writeBlock_67 (by decide) ?_
        obtain ⟨b202, ho202, hc202, hk202, hF⟩ := dr_some hF
        refine W_st (st' := [.int (1 : Int32), .long y201, .int (0 : Int32), .ref (ad b202)]) (by rw [va_some ho202]) ?_
        obtain ⟨y203, hy203, hF⟩ := bnd_some hF
        obtain ⟨w204, hF, ew204⟩ := app_some hF
        obtain ⟨L205, eL205, hF⟩ := ltt_some hF
        have hT205 : L170 = ([] ++ y203.1) ++ w204.1 := by rw [hT, ew204]; simp only [List.append_assoc]
        have hf9 := wA_in hD hA9 hS
        refine va_callv (va_runV (As := [.int (0 : Int32), .long y201, .int (1 : Int32)]) (rest := []) ⟨hx, hb, hml, hown, hts⟩ (kX10_code l D ct ad Z (xt G []) y200.1 _ b202 ((0 : Int32)) y201 ((1 : Int32)) y203 hc202 hk202 hy203) (cwV 3 hts gX0_writeBlock_X10_code rfl rfl rfl (by decide +kernel) ⟨Nat.le_of_ble_eq_true rfl, Nat.le_of_ble_eq_true rfl⟩) ⟨fun a U g mk q => by obtain ⟨q0, q1, qP, qK, qD, qZ, qN⟩ := q; exact ⟨q0, q1, qP, va_K.moved (u := U) (U := U.calling g mk a) (Vm.Alike.refl U.vm) qK, qD, sF.moved (u := U) (U := U.calling g mk a) (Vm.Alike.refl U.vm) qZ, nF.same rfl qN⟩, va_recv hK hP (ci := 10) (q0 := b202) rfl (wld_o ct ad (xt G []) y200.1 hc202 hk202 (by decide)), fun U hU hW => ⟨rfl, by rw [hU], by rw [hU]; exact hP, va_K.moved hW.alike hK, hD.weaken (fun _ _ _ _ => trivial), by rw [hU]; exact ((hZ.kept hS.2.1).narrow hf9).moved hW.alike, hN.warm hW⟩⟩ rfl rfl hl.1 rfl (lv_room (Nat.le_of_ble_eq_true rfl)) dX0_writeBlock_68 (room_s hT205 hbl)) hS (fun q _ h => hf9 q h) hf9 (fun ad206 t H locs ht hvm hw hB hz1 hk1 hS => ?_)
        have hn207 := hw
        obtain ⟨hP, hK9, hD9⟩ := hB
        rw [ht] at hP
        have hD := hD9.weaken (fun _ q _ h => hf9 q.1 h)
        rw [xt_xt, ← eL205] at hP hD
        refine W_cs (k := L205.length) (n := wt L205) (by rw [eL205]; exact (len_s [] y203.1).symm) (by rw [eL205]; exact (wt_app [] y203.1).symm) ?_
        have hT : L170 = L205 ++ w204.1 := by rw [hT205, eL205]
        have h2 : y168.2 = w204.2 := by rw [h2, ew204]
        have hl := lv_sub (l' := [(4, .int x8), (3, .int x5), (2, .int x1), (0, .ref (ad a)), (1, .int p0)]) hl [0, 1, 2, 3, 4] rfl
        have e9 : ([(4, .int x8), (3, .int x5), (2, .int x1), (0, .ref (ad a)), (1, .int p0)] : List (Nat × Value)) = [(4, .int x8), (3, .int x5), (2, .int x1), (0, .ref (ad206 a)), (1, .int p0)] := (by first | rfl | simp only [hn207 a hc])
        rw [e9] at hl
        clear e9
        have hk : (xt G L205).2.1 a = 0 := by rw [eL205]; exact xt_k _ hc hk
        have hc : a < (xt G L205).1 := by rw [eL205]; exact xt_l _ hc
        have hk2 : (xt G L205).2.1 b2 = 9 := by rw [eL205]; exact xt_k _ hc2 hk2
        have hc2 : b2 < (xt G L205).1 := by rw [eL205]; exact xt_l _ hc2
        have hk3 : (xt G L205).2.1 b3 = 3 := by rw [eL205]; exact xt_k _ hc3 hk3
        have hc3 : b3 < (xt G L205).1 := by rw [eL205]; exact xt_l _ hc3
        have hk4 : (xt G L205).2.1 b4 = 13 := by rw [eL205]; exact xt_k _ hc4 hk4
        have hc4 : b4 < (xt G L205).1 := by rw [eL205]; exact xt_l _ hc4
        have hk7 : (xt G L205).2.1 b7 = 13 := by rw [eL205]; exact xt_k _ hc7 hk7
        have hc7 : b7 < (xt G L205).1 := by rw [eL205]; exact xt_l _ hc7
        have hk166 : (xt G L205).2.1 b166 = 13 := by rw [eL205]; exact xt_k _ hc166 hk166
        have hc166 : b166 < (xt G L205).1 := by rw [eL205]; exact xt_l _ hc166
        have hk202 : (xt G L205).2.1 b202 = 10 := by rw [eL205]; exact xt_k _ hc202 hk202
        have hc202 : b202 < (xt G L205).1 := by rw [eL205]; exact xt_l _ hc202
        have hag := agr_t (xt_ge _ _) hag hn207
        refine lv_goto (tgt := 126) hx hb dX0_writeBlock_71 (by decide) ?_
        obtain rfl := Option.some.inj hF
        have e1 : L170 = L205 := by rw [hT]; exact List.append_nil _
        have e2 : y168.2 = y203.2 := h2
        rw [e1] at J168
        try rw [e2] at J168
        exact J168 _ hag _ _ _ hP hD hS (lv_sub hl [0, 1, 2, 3, 4] rfl)
      clear hF
      have hF := hy201
      clear hy201
      refine lv_if_eq (tgt := 66) hx hb dX0_writeBlock_59 (by decide) (fun c208 => ?_) (fun c208 => ?_)
      · rw [if_pos c208] at hF
        refine lv_lconst (v := (0 : Int64)) hx hb dX0_writeBlock_66 rfl ?_
        obtain rfl := Option.some.inj hF
        exact J201 _ _ _ hP hD hS (lv_sub hl [0, 1, 2, 3, 4] rfl)
      · rw [if_neg c208] at hF
        refine lv_lconst (v := (1 : Int64)) hx hb dX0_writeBlock_62 rfl ?_
        refine lv_goto (tgt := 67) hx hb dX0_writeBlock_63 (by decide) ?_
        obtain rfl := Option.some.inj hF
        exact J201 _ _ _ hP hD hS (lv_sub hl [0, 1, 2, 3, 4] rfl)
